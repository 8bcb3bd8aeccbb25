set_option maxRecDepth 100000 in
set_option maxHeartbeats 4000000 in
theorem c_X0_hasNoProduct (l : Launch) (D : va_G) (cI cJ : ClassId) (a_p0 a_p1 : Nat) (p0_kind : Int32) (p0_minus : Int32) (p0_m : Int64) (p0_e : Int32) (p0_narrowBelow : Int32) (p1_kind : Int32) (p1_minus : Int32) (p1_m : Int64) (p1_e : Int32) (p1_narrowBelow : Int32) (u : Int32) (hf : f_X0_hasNoProduct p0_kind p1_kind = some u) : CtI l yX0_hasNoProduct cX0_hasNoProduct 4 0 0 .boolean [.ref a_p0, .ref a_p1] D cI cJ [(a_p0, .inr (9, [.int p0_kind, .int p0_minus, .long p0_m, .int p0_e, .int p0_narrowBelow])), (a_p1, .inr (9, [.int p1_kind, .int p1_minus, .long p1_m, .int p1_e, .int p1_narrowBelow]))] [(a_p0, .inr (9, [.int p0_kind, .int p0_minus, .long p0_m, .int p0_e, .int p0_narrowBelow])), (a_p1, .inr (9, [.int p1_kind, .int p1_minus, .long p1_m, .int p1_e, .int p1_narrowBelow]))] u := by
  refine mkZ (own := RX0) rfl (by decide +kernel) (Nat.le_of_ble_eq_true rfl) (lv := [(0, .ref a_p0), (1, .ref a_p1)]) rfl ?_
  intro p e s m below meth c Q A ls ar S hA hK hN hret H locs hP hD hS hl
  obtain ⟨hx, hb, hml, hown, hts⟩ := id S
  have hret : ∀ (w : Int32), w = u → ∀ (H : Heap) (locs : List Loc) (ls : Array Slot) (pc : Nat), decode cX0_hasNoProduct pc = .ok (.ireturn, 1) → (w = 0 ∨ w = 1) → va_P D vwCl [(a_p0, .inr (9, [.int p0_kind, .int p0_minus, .long p0_m, .int p0_e, .int p0_narrowBelow])), (a_p1, .inr (9, [.int p1_kind, .int p1_minus, .long p1_m, .int p1_e, .int p1_narrowBelow]))] H → va_D A [(a_p0, .inr (9, [.int p0_kind, .int p0_minus, .long p0_m, .int p0_e, .int p0_narrowBelow])), (a_p1, .inr (9, [.int p1_kind, .int p1_minus, .long p1_m, .int p1_e, .int p1_narrowBelow]))] → va_S A s.heap H locs → W p l e (rmz 0 0) s m ar below meth c H locs 0 0 Q (F0 m pc ls [.int w]) := fun w hw => hw ▸ hret
  have keyB41 : ∀ (v2 : Int32) (s0 : Int32) (H : Heap) (locs : List Loc) (ls : Array Slot), f_X0_hasNoProduct_B41 p0_kind p1_kind v2 s0 = some u → va_P D vwCl [(a_p0, .inr (9, [.int p0_kind, .int p0_minus, .long p0_m, .int p0_e, .int p0_narrowBelow])), (a_p1, .inr (9, [.int p1_kind, .int p1_minus, .long p1_m, .int p1_e, .int p1_narrowBelow]))] H → va_D A [(a_p0, .inr (9, [.int p0_kind, .int p0_minus, .long p0_m, .int p0_e, .int p0_narrowBelow])), (a_p1, .inr (9, [.int p1_kind, .int p1_minus, .long p1_m, .int p1_e, .int p1_narrowBelow]))] → va_S A s.heap H locs → lv_has ls 4 [(0, .ref a_p0), (1, .ref a_p1), (2, .int v2)] → W p l e (rmz 0 0) s m ar below meth c H locs 0 0 Q (F0 m 41 ls [.int s0]) := by
    intro v2 s0 H locs ls hf hP hD hS hl
    unfold f_X0_hasNoProduct_B41 at hf
    refine lv_istore_n (lv' := [(3, .int s0), (0, .ref a_p0), (1, .ref a_p1), (2, .int v2)]) hx hb dX0_hasNoProduct_41 rfl hl (by decide) rfl (fun ls hl => ?_)
    refine lv_aload_n hx hb dX0_hasNoProduct_42 rfl (lv_at hl 1 rfl) ?_
    refine va_get (D := D) (ci := 9) (v := .int p0_kind) (C := RX8) (T := TX8) (N := 5) hx hb hts uwX8 hown hK hP 0 rfl rfl 0 (by decide) (hts _ kfX0_18) (fun _ h9 => h9) rfl dX0_hasNoProduct_43 ?_
    refine lv_iconst (v := 4) hx hb dX0_hasNoProduct_46 (by decide) ?_
    refine lv_icmp_eq (tgt := 66) hx hb dX0_hasNoProduct_47 (by decide) (fun hc4 => ?_) (fun hc4 => ?_)
    · have hf := ifT hc4 hf
      refine lv_iconst (v := 1) hx hb dX0_hasNoProduct_66 (by decide) ?_
      refine lv_goto (tgt := 71) hx hb dX0_hasNoProduct_67 (by decide) ?_
      exact hret _ (opE hf) H locs ls 71 dX0_hasNoProduct_71 (Or.inr rfl) hP hD hS
    · have hf := ifF hc4 hf
      refine lv_aload_n hx hb dX0_hasNoProduct_50 rfl (lv_at hl 2 rfl) ?_
      refine va_get (D := D) (ci := 9) (v := .int p1_kind) (C := RX8) (T := TX8) (N := 5) hx hb hts uwX8 hown hK hP 1 rfl rfl 0 (by decide) (hts _ kfX0_18) (fun _ h9 => h9) rfl dX0_hasNoProduct_51 ?_
      refine lv_iconst (v := 4) hx hb dX0_hasNoProduct_54 (by decide) ?_
      refine lv_icmp_eq (tgt := 66) hx hb dX0_hasNoProduct_55 (by decide) (fun hc3 => ?_) (fun hc3 => ?_)
      · have hf := ifT hc3 hf
        refine lv_iconst (v := 1) hx hb dX0_hasNoProduct_66 (by decide) ?_
        refine lv_goto (tgt := 71) hx hb dX0_hasNoProduct_67 (by decide) ?_
        exact hret _ (opE hf) H locs ls 71 dX0_hasNoProduct_71 (Or.inr rfl) hP hD hS
      · have hf := ifF hc3 hf
        refine lv_iload_n hx hb dX0_hasNoProduct_58 rfl (lv_at hl 3 rfl) ?_
        refine lv_if_ne (tgt := 66) hx hb dX0_hasNoProduct_59 (by decide) (fun hc2 => ?_) (fun hc2 => ?_)
        · have hf := ifF hc2 hf
          refine lv_iconst (v := 1) hx hb dX0_hasNoProduct_66 (by decide) ?_
          refine lv_goto (tgt := 71) hx hb dX0_hasNoProduct_67 (by decide) ?_
          exact hret _ (opE hf) H locs ls 71 dX0_hasNoProduct_71 (Or.inr rfl) hP hD hS
        · have hf := ifT hc2 hf
          refine lv_iload_n hx hb dX0_hasNoProduct_62 rfl (lv_at hl 0 rfl) ?_
          refine lv_if_eq (tgt := 70) hx hb dX0_hasNoProduct_63 (by decide) (fun hc1 => ?_) (fun hc1 => ?_)
          · have hf := ifT hc1 hf
            refine lv_iconst (v := 0) hx hb dX0_hasNoProduct_70 (by decide) ?_
            exact hret _ (opE hf) H locs ls 71 dX0_hasNoProduct_71 (Or.inl rfl) hP hD hS
          · have hf := ifF hc1 hf
            refine lv_iconst (v := 1) hx hb dX0_hasNoProduct_66 (by decide) ?_
            refine lv_goto (tgt := 71) hx hb dX0_hasNoProduct_67 (by decide) ?_
            exact hret _ (opE hf) H locs ls 71 dX0_hasNoProduct_71 (Or.inr rfl) hP hD hS
  have keyB40 : ∀ (v2 : Int32) (H : Heap) (locs : List Loc) (ls : Array Slot), f_X0_hasNoProduct_B40 p0_kind p1_kind v2 = some u → va_P D vwCl [(a_p0, .inr (9, [.int p0_kind, .int p0_minus, .long p0_m, .int p0_e, .int p0_narrowBelow])), (a_p1, .inr (9, [.int p1_kind, .int p1_minus, .long p1_m, .int p1_e, .int p1_narrowBelow]))] H → va_D A [(a_p0, .inr (9, [.int p0_kind, .int p0_minus, .long p0_m, .int p0_e, .int p0_narrowBelow])), (a_p1, .inr (9, [.int p1_kind, .int p1_minus, .long p1_m, .int p1_e, .int p1_narrowBelow]))] → va_S A s.heap H locs → lv_has ls 4 [(0, .ref a_p0), (1, .ref a_p1), (2, .int v2)] → W p l e (rmz 0 0) s m ar below meth c H locs 0 0 Q (F0 m 40 ls []) := by
    intro v2 H locs ls hf hP hD hS hl
    unfold f_X0_hasNoProduct_B40 at hf
    refine lv_iconst (v := 0) hx hb dX0_hasNoProduct_40 (by decide) ?_
    exact keyB41 v2 (0 : Int32) H locs ls hf hP hD hS (lv_sub hl [0, 1, 2] rfl)
  have keyB20 : ∀ (s0 : Int32) (H : Heap) (locs : List Loc) (ls : Array Slot), f_X0_hasNoProduct_B20 p0_kind p1_kind s0 = some u → va_P D vwCl [(a_p0, .inr (9, [.int p0_kind, .int p0_minus, .long p0_m, .int p0_e, .int p0_narrowBelow])), (a_p1, .inr (9, [.int p1_kind, .int p1_minus, .long p1_m, .int p1_e, .int p1_narrowBelow]))] H → va_D A [(a_p0, .inr (9, [.int p0_kind, .int p0_minus, .long p0_m, .int p0_e, .int p0_narrowBelow])), (a_p1, .inr (9, [.int p1_kind, .int p1_minus, .long p1_m, .int p1_e, .int p1_narrowBelow]))] → va_S A s.heap H locs → lv_has ls 4 [(0, .ref a_p0), (1, .ref a_p1)] → W p l e (rmz 0 0) s m ar below meth c H locs 0 0 Q (F0 m 20 ls [.int s0]) := by
    intro s0 H locs ls hf hP hD hS hl
    unfold f_X0_hasNoProduct_B20 at hf
    refine lv_istore_n (lv' := [(2, .int s0), (0, .ref a_p0), (1, .ref a_p1)]) hx hb dX0_hasNoProduct_20 rfl hl (by decide) rfl (fun ls hl => ?_)
    refine lv_aload_n hx hb dX0_hasNoProduct_21 rfl (lv_at hl 1 rfl) ?_
    refine va_get (D := D) (ci := 9) (v := .int p0_kind) (C := RX8) (T := TX8) (N := 5) hx hb hts uwX8 hown hK hP 0 rfl rfl 0 (by decide) (hts _ kfX0_18) (fun _ h9 => h9) rfl dX0_hasNoProduct_22 ?_
    refine lv_iconst (v := 3) hx hb dX0_hasNoProduct_25 (by decide) ?_
    refine lv_icmp_ne (tgt := 40) hx hb dX0_hasNoProduct_26 (by decide) (fun hc6 => ?_) (fun hc6 => ?_)
    · have hf := ifF hc6 hf
      exact keyB40 s0 H locs ls hf hP hD hS (lv_sub hl [1, 2, 0] rfl)
    · have hf := ifT hc6 hf
      refine lv_aload_n hx hb dX0_hasNoProduct_29 rfl (lv_at hl 2 rfl) ?_
      refine va_get (D := D) (ci := 9) (v := .int p1_kind) (C := RX8) (T := TX8) (N := 5) hx hb hts uwX8 hown hK hP 1 rfl rfl 0 (by decide) (hts _ kfX0_18) (fun _ h9 => h9) rfl dX0_hasNoProduct_30 ?_
      refine lv_if_ne (tgt := 40) hx hb dX0_hasNoProduct_33 (by decide) (fun hc5 => ?_) (fun hc5 => ?_)
      · have hf := ifF hc5 hf
        exact keyB40 s0 H locs ls hf hP hD hS (lv_sub hl [1, 2, 0] rfl)
      · have hf := ifT hc5 hf
        refine lv_iconst (v := 1) hx hb dX0_hasNoProduct_36 (by decide) ?_
        refine lv_goto (tgt := 41) hx hb dX0_hasNoProduct_37 (by decide) ?_
        exact keyB41 s0 (1 : Int32) H locs ls hf hP hD hS (lv_sub hl [1, 2, 0] rfl)
  have keyB19 : ∀  (H : Heap) (locs : List Loc) (ls : Array Slot), f_X0_hasNoProduct_B19 p0_kind p1_kind  = some u → va_P D vwCl [(a_p0, .inr (9, [.int p0_kind, .int p0_minus, .long p0_m, .int p0_e, .int p0_narrowBelow])), (a_p1, .inr (9, [.int p1_kind, .int p1_minus, .long p1_m, .int p1_e, .int p1_narrowBelow]))] H → va_D A [(a_p0, .inr (9, [.int p0_kind, .int p0_minus, .long p0_m, .int p0_e, .int p0_narrowBelow])), (a_p1, .inr (9, [.int p1_kind, .int p1_minus, .long p1_m, .int p1_e, .int p1_narrowBelow]))] → va_S A s.heap H locs → lv_has ls 4 [(0, .ref a_p0), (1, .ref a_p1)] → W p l e (rmz 0 0) s m ar below meth c H locs 0 0 Q (F0 m 19 ls []) := by
    intro  H locs ls hf hP hD hS hl
    unfold f_X0_hasNoProduct_B19 at hf
    refine lv_iconst (v := 0) hx hb dX0_hasNoProduct_19 (by decide) ?_
    exact keyB20 (0 : Int32) H locs ls hf hP hD hS (lv_sub hl [0, 1] rfl)
  unfold f_X0_hasNoProduct at hf
  refine lv_aload_n hx hb dX0_hasNoProduct_0 rfl (lv_at hl 0 rfl) ?_
  refine va_get (D := D) (ci := 9) (v := .int p0_kind) (C := RX8) (T := TX8) (N := 5) hx hb hts uwX8 hown hK hP 0 rfl rfl 0 (by decide) (hts _ kfX0_18) (fun _ h9 => h9) rfl dX0_hasNoProduct_1 ?_
  refine lv_if_ne (tgt := 19) hx hb dX0_hasNoProduct_4 (by decide) (fun hc8 => ?_) (fun hc8 => ?_)
  · have hf := ifF hc8 hf
    exact keyB19  H locs ls hf hP hD hS (lv_sub hl [0, 1] rfl)
  · have hf := ifT hc8 hf
    refine lv_aload_n hx hb dX0_hasNoProduct_7 rfl (lv_at hl 1 rfl) ?_
    refine va_get (D := D) (ci := 9) (v := .int p1_kind) (C := RX8) (T := TX8) (N := 5) hx hb hts uwX8 hown hK hP 1 rfl rfl 0 (by decide) (hts _ kfX0_18) (fun _ h9 => h9) rfl dX0_hasNoProduct_8 ?_
    refine lv_iconst (v := 3) hx hb dX0_hasNoProduct_11 (by decide) ?_
    refine lv_icmp_ne (tgt := 19) hx hb dX0_hasNoProduct_12 (by decide) (fun hc7 => ?_) (fun hc7 => ?_)
    · have hf := ifF hc7 hf
      exact keyB19  H locs ls hf hP hD hS (lv_sub hl [0, 1] rfl)
    · have hf := ifT hc7 hf
      refine lv_iconst (v := 1) hx hb dX0_hasNoProduct_15 (by decide) ?_
      refine lv_goto (tgt := 20) hx hb dX0_hasNoProduct_16 (by decide) ?_
      exact keyB20 (1 : Int32) H locs ls hf hP hD hS (lv_sub hl [0, 1] rfl)
set_option maxRecDepth 100000 in
set_option maxHeartbeats 4000000 in
theorem c_X4_scale (l : Launch) (D : va_G) (cI cJ : ClassId) (a_p0 a_p0_limbs : Nat) (p1 : Int64) (p2 : Int64) (p0_size : Int32) (p0_limbs : (Nat → Int64)) (u : Int32 × (Nat → Int64)) (hf : f_X4_scale p1 p2 p0_size p0_limbs = some u) : CtV l yX4_scale cX4_scale 8 0 0 [.ref a_p0, .long p1, .long p2] D cI cJ [(a_p0, .inr (5, [.ref a_p0_limbs, .int p0_size])), (a_p0_limbs, .inl (cJ, 160, .inr (.inl p0_limbs)))] [(a_p0, .inr (5, [.ref a_p0_limbs, .int u.1])), (a_p0_limbs, .inl (cJ, 160, .inr (.inl u.2)))] := by
  refine mkV (own := RX4) rfl (by decide +kernel) (Nat.le_of_ble_eq_true rfl) (lv := [(0, .ref a_p0), (1, .long p1), (3, .long p2)]) rfl ?_
  intro p e s m below meth c Q A ls ar S hA hK hN hret H locs hP hD hS hl
  obtain ⟨hx, hb, hml, hown, hts⟩ := id S
  have hret : ∀ (w : Int32 × (Nat → Int64)), w = u → ∀ (H : Heap) (locs : List Loc) (ls : Array Slot) (pc : Nat), decode cX4_scale pc = .ok (.return_, 1) → va_P D vwCl [(a_p0, .inr (5, [.ref a_p0_limbs, .int w.1])), (a_p0_limbs, .inl (cJ, 160, .inr (.inl w.2)))] H → va_D A [(a_p0, .inr (5, [.ref a_p0_limbs, .int w.1])), (a_p0_limbs, .inl (cJ, 160, .inr (.inl w.2)))] → va_S A s.heap H locs → W p l e (rmz 0 0) s m ar below meth c H locs 0 0 Q (F0 m pc ls []) := fun w hw => hw ▸ hret
  have keyB66 : ∀ (v5 : Int64) (p0_size : Int32) (p0_limbs : (Nat → Int64)) (H : Heap) (locs : List Loc) (ls : Array Slot), f_X4_scale_B66 v5 p0_size p0_limbs = some u → va_P D vwCl [(a_p0, .inr (5, [.ref a_p0_limbs, .int p0_size])), (a_p0_limbs, .inl (cJ, 160, .inr (.inl p0_limbs)))] H → va_D A [(a_p0, .inr (5, [.ref a_p0_limbs, .int p0_size])), (a_p0_limbs, .inl (cJ, 160, .inr (.inl p0_limbs)))] → va_S A s.heap H locs → lv_has ls 8 [(0, .ref a_p0), (5, .long v5)] → W p l e (rmz 0 0) s m ar below meth c H locs 0 0 Q (F0 m 66 ls []) := by
    intro v5 p0_size p0_limbs H locs ls hf hP hD hS hl
    unfold f_X4_scale_B66 at hf
    refine lv_lload hx hb dX4_scale_66 (lv_at hl 1 rfl) ?_
    refine lv_lconst (v := 0) hx hb dX4_scale_68 (by decide) ?_
    refine W.lcmp hx hb dX4_scale_69 ?_
    refine lv_if_eq (tgt := 104) hx hb dX4_scale_70 (by decide) (fun hc3 => ?_) (fun hc3 => ?_)
    · have hf := ifT hc3 hf
      exact hret _ (opE hf) H locs ls 104 dX4_scale_104 hP hD hS
    · have hf := ifF hc3 hf
      refine lv_aload_n hx hb dX4_scale_73 rfl (lv_at hl 0 rfl) ?_
      refine va_get (D := D) (ci := 5) (v := .int p0_size) (C := RX4) (T := TX4) (N := 2) hx hb hts uwX4 hown hK hP 0 rfl rfl 1 (by decide) (hts _ kfX4_15) (fun _ h9 => h9) rfl dX4_scale_74 ?_
      refine lv_sipush (v := 160) hx hb dX4_scale_77 (by decide) ?_
      refine lv_icmp_ge (tgt := 104) hx hb dX4_scale_80 (by decide) (fun hc2 => ?_) (fun hc2 => ?_)
      · have hf := ifT hc2 hf
        exact hret _ (opE hf) H locs ls 104 dX4_scale_104 hP hD hS
      · have hf := ifF hc2 hf
        refine lv_aload_n hx hb dX4_scale_83 rfl (lv_at hl 0 rfl) ?_
        refine va_get (D := D) (ci := 5) (v := .ref a_p0_limbs) (C := RX4) (T := TX4) (N := 2) hx hb hts uwX4 hown hK hP 0 rfl rfl 0 (by decide) (hts _ kfX4_9) (fun _ h9 => h9) rfl dX4_scale_84 ?_
        refine lv_aload_n hx hb dX4_scale_87 rfl (lv_at hl 0 rfl) ?_
        refine va_get (D := D) (ci := 5) (v := .int p0_size) (C := RX4) (T := TX4) (N := 2) hx hb hts uwX4 hown hK hP 0 rfl rfl 1 (by decide) (hts _ kfX4_15) (fun _ h9 => h9) rfl dX4_scale_88 ?_
        refine lv_lload hx hb dX4_scale_91 (lv_at hl 1 rfl) ?_
        obtain ⟨hi1, hf⟩ := gdE hf
        refine va_last hx hb hK hP hD hS 1 1 rfl rfl hi1 dX4_scale_93 (fun H locs hP hD hS => ?_)
        have hP : va_P D vwCl [(a_p0, .inr (5, [.ref a_p0_limbs, .int p0_size])), (a_p0_limbs, .inl (cJ, 160, .inr (.inl (vp_updL p0_limbs p0_size.toNatClampNeg v5))))] H := hP
        have hD : va_D A [(a_p0, .inr (5, [.ref a_p0_limbs, .int p0_size])), (a_p0_limbs, .inl (cJ, 160, .inr (.inl (vp_updL p0_limbs p0_size.toNatClampNeg v5))))] := hD
        refine lv_aload_n hx hb dX4_scale_94 rfl (lv_at hl 0 rfl) ?_
        refine lv_dup hx hb dX4_scale_95 rfl ?_
        refine va_get (D := D) (ci := 5) (v := .int p0_size) (C := RX4) (T := TX4) (N := 2) hx hb hts uwX4 hown hK hP 0 rfl rfl 1 (by decide) (hts _ kfX4_15) (fun _ h9 => h9) rfl dX4_scale_96 ?_
        refine lv_iconst (v := 1) hx hb dX4_scale_99 (by decide) ?_
        refine lv_iadd hx hb dX4_scale_100 ?_
        refine va_put (D := D) (ci := 5) (v := .int (p0_size + (1 : Int32))) (ty := tyX4 1) (C := RX4) (T := TX4) (N := 2) hx hb hts uwX4 tyX4 tyX4_ok nmX4 hown hK hP hD hS 0 rfl rfl 1 (by decide) (hts _ kfX4_15) (fun _ h9 => h9) rfl (tyX4_ok 1 (by decide)) rfl rfl (Nat.le_of_ble_eq_true rfl) dX4_scale_101 (fun H locs hP hD hS => ?_)
        have hP : va_P D vwCl [(a_p0, .inr (5, [.ref a_p0_limbs, .int (p0_size + (1 : Int32))])), (a_p0_limbs, .inl (cJ, 160, .inr (.inl (vp_updL p0_limbs p0_size.toNatClampNeg v5))))] H := hP
        have hD : va_D A [(a_p0, .inr (5, [.ref a_p0_limbs, .int (p0_size + (1 : Int32))])), (a_p0_limbs, .inl (cJ, 160, .inr (.inl (vp_updL p0_limbs p0_size.toNatClampNeg v5))))] := hD
        exact hret _ (opE hf) H locs ls 104 dX4_scale_104 hP hD hS
  have keyL17 : ∀ (n : Nat) (v1 : Int64) (v5 : Int64) (v7 : Int32) (p0_size : Int32) (p0_limbs : (Nat → Int64)) (H : Heap) (locs : List Loc) (ls : Array Slot), f_X4_scale_L17 n v1 v5 v7 p0_size p0_limbs = some u → va_P D vwCl [(a_p0, .inr (5, [.ref a_p0_limbs, .int p0_size])), (a_p0_limbs, .inl (cJ, 160, .inr (.inl p0_limbs)))] H → va_D A [(a_p0, .inr (5, [.ref a_p0_limbs, .int p0_size])), (a_p0_limbs, .inl (cJ, 160, .inr (.inl p0_limbs)))] → va_S A s.heap H locs → lv_has ls 8 [(0, .ref a_p0), (1, .long v1), (5, .long v5), (7, .int v7)] → W p l e (rmz 0 0) s m ar below meth c H locs 0 0 Q (F0 m 17 ls []) := by
    intro n
    induction n with
      | zero =>
        intro v1 v5 v7 p0_size p0_limbs H locs ls hf
        cases hf
      | succ n ih =>
        intro v1 v5 v7 p0_size p0_limbs H locs ls hf hP hD hS hl
        rw [f_X4_scale_L17] at hf
        refine lv_iload hx hb dX4_scale_17 (lv_at hl 3 rfl) ?_
        refine lv_aload_n hx hb dX4_scale_19 rfl (lv_at hl 0 rfl) ?_
        refine va_get (D := D) (ci := 5) (v := .int p0_size) (C := RX4) (T := TX4) (N := 2) hx hb hts uwX4 hown hK hP 0 rfl rfl 1 (by decide) (hts _ kfX4_15) (fun _ h9 => h9) rfl dX4_scale_20 ?_
        refine lv_icmp_ge (tgt := 66) hx hb dX4_scale_23 (by decide) (fun hc5 => ?_) (fun hc5 => ?_)
        · have hf := ifT hc5 hf
          exact keyB66 v5 p0_size p0_limbs H locs ls hf hP hD hS (lv_sub hl [0, 2] rfl)
        · have hf := ifF hc5 hf
          refine lv_lload hx hb dX4_scale_26 (lv_at hl 2 rfl) ?_
          refine lv_aload_n hx hb dX4_scale_28 rfl (lv_at hl 0 rfl) ?_
          refine va_get (D := D) (ci := 5) (v := .ref a_p0_limbs) (C := RX4) (T := TX4) (N := 2) hx hb hts uwX4 hown hK hP 0 rfl rfl 0 (by decide) (hts _ kfX4_9) (fun _ h9 => h9) rfl dX4_scale_29 ?_
          refine lv_iload hx hb dX4_scale_32 (lv_at hl 3 rfl) ?_
          obtain ⟨hi4, hf⟩ := gdE hf
          refine va_lald hx hb hK hP 1 1 rfl rfl hi4 dX4_scale_34 ?_
          refine lv_lload_n hx hb dX4_scale_35 rfl (lv_at hl 1 rfl) ?_
          refine lv_lmul hx hb dX4_scale_36 ?_
          refine lv_ladd hx hb dX4_scale_37 ?_
          refine lv_lstore (lv' := [(5, .long (v5 + ((p0_limbs v7.toNatClampNeg) * v1))), (0, .ref a_p0), (1, .long v1), (7, .int v7)]) hx hb dX4_scale_38 hl (by decide) rfl (fun ls hl => ?_)
          refine lv_aload_n hx hb dX4_scale_40 rfl (lv_at hl 1 rfl) ?_
          refine va_get (D := D) (ci := 5) (v := .ref a_p0_limbs) (C := RX4) (T := TX4) (N := 2) hx hb hts uwX4 hown hK hP 0 rfl rfl 0 (by decide) (hts _ kfX4_9) (fun _ h9 => h9) rfl dX4_scale_41 ?_
          refine lv_iload hx hb dX4_scale_44 (lv_at hl 3 rfl) ?_
          refine lv_lload hx hb dX4_scale_46 (lv_at hl 0 rfl) ?_
          refine lv_ldc2 hx hb hown (hts _ kcX4_13) dX4_scale_48 ?_
          refine lv_land hx hb dX4_scale_51 ?_
          refine va_last hx hb hK hP hD hS 1 1 rfl rfl hi4 dX4_scale_52 (fun H locs hP hD hS => ?_)
          have hP : va_P D vwCl [(a_p0, .inr (5, [.ref a_p0_limbs, .int p0_size])), (a_p0_limbs, .inl (cJ, 160, .inr (.inl (vp_updL p0_limbs v7.toNatClampNeg ((v5 + ((p0_limbs v7.toNatClampNeg) * v1)) &&& (4294967295 : Int64))))))] H := hP
          have hD : va_D A [(a_p0, .inr (5, [.ref a_p0_limbs, .int p0_size])), (a_p0_limbs, .inl (cJ, 160, .inr (.inl (vp_updL p0_limbs v7.toNatClampNeg ((v5 + ((p0_limbs v7.toNatClampNeg) * v1)) &&& (4294967295 : Int64))))))] := hD
          refine lv_lload hx hb dX4_scale_53 (lv_at hl 0 rfl) ?_
          refine lv_bipush (v := 32) hx hb dX4_scale_55 (by decide) ?_
          refine lv_lushr (v := lus (v5 + ((p0_limbs v7.toNatClampNeg) * v1)) (32 : Int32)) hx hb dX4_scale_57 rfl ?_
          refine lv_lstore (lv' := [(5, .long (lus (v5 + ((p0_limbs v7.toNatClampNeg) * v1)) (32 : Int32))), (0, .ref a_p0), (1, .long v1), (7, .int v7)]) hx hb dX4_scale_58 hl (by decide) rfl (fun ls hl => ?_)
          refine lv_iinc (v := v7 + (1 : Int32)) (lv' := [(7, .int (v7 + (1 : Int32))), (5, .long (lus (v5 + ((p0_limbs v7.toNatClampNeg) * v1)) (32 : Int32))), (0, .ref a_p0), (1, .long v1)]) hx hb dX4_scale_60 hl (k := 3) rfl (by rfl) (by decide) rfl (fun ls hl => ?_)
          refine lv_goto (tgt := 17) hx hb dX4_scale_63 (by decide) ?_
          exact ih v1 (lus (v5 + ((p0_limbs v7.toNatClampNeg) * v1)) (32 : Int32)) (v7 + (1 : Int32)) p0_size (vp_updL p0_limbs v7.toNatClampNeg ((v5 + ((p0_limbs v7.toNatClampNeg) * v1)) &&& (4294967295 : Int64))) H locs ls hf hP hD hS (lv_sub hl [2, 3, 1, 0] rfl)
  unfold f_X4_scale at hf
  refine lv_lload_n hx hb dX4_scale_0 rfl (lv_at hl 2 rfl) ?_
  refine lv_lstore (lv' := [(5, .long p2), (0, .ref a_p0), (1, .long p1), (3, .long p2)]) hx hb dX4_scale_1 hl (by decide) rfl (fun ls hl => ?_)
  refine lv_lload_n hx hb dX4_scale_3 rfl (lv_at hl 2 rfl) ?_
  refine lv_lconst (v := 0) hx hb dX4_scale_4 (by decide) ?_
  refine W.lcmp hx hb dX4_scale_5 ?_
  refine lv_if_ne (tgt := 14) hx hb dX4_scale_6 (by decide) (fun hc6 => ?_) (fun hc6 => ?_)
  · have hf := ifF hc6 hf
    refine lv_iconst (v := 0) hx hb dX4_scale_14 (by decide) ?_
    refine lv_istore (lv' := [(7, .int (0 : Int32)), (5, .long p2), (0, .ref a_p0), (1, .long p1), (3, .long p2)]) hx hb dX4_scale_15 hl (by decide) rfl (fun ls hl => ?_)
    exact keyL17 FU p1 p2 (0 : Int32) p0_size p0_limbs H locs ls hf hP hD hS (lv_sub hl [2, 3, 1, 0] rfl)
  · have hf := ifT hc6 hf
    refine lv_aload_n hx hb dX4_scale_9 rfl (lv_at hl 1 rfl) ?_
    refine lv_iconst (v := 0) hx hb dX4_scale_10 (by decide) ?_
    refine va_put (D := D) (ci := 5) (v := .int (0 : Int32)) (ty := tyX4 1) (C := RX4) (T := TX4) (N := 2) hx hb hts uwX4 tyX4 tyX4_ok nmX4 hown hK hP hD hS 0 rfl rfl 1 (by decide) (hts _ kfX4_15) (fun _ h9 => h9) rfl (tyX4_ok 1 (by decide)) rfl rfl (Nat.le_of_ble_eq_true rfl) dX4_scale_11 (fun H locs hP hD hS => ?_)
    have hP : va_P D vwCl [(a_p0, .inr (5, [.ref a_p0_limbs, .int (0 : Int32)])), (a_p0_limbs, .inl (cJ, 160, .inr (.inl p0_limbs)))] H := hP
    have hD : va_D A [(a_p0, .inr (5, [.ref a_p0_limbs, .int (0 : Int32)])), (a_p0_limbs, .inl (cJ, 160, .inr (.inl p0_limbs)))] := hD
    refine lv_iconst (v := 0) hx hb dX4_scale_14 (by decide) ?_
    refine lv_istore (lv' := [(7, .int (0 : Int32)), (5, .long p2), (0, .ref a_p0), (1, .long p1), (3, .long p2)]) hx hb dX4_scale_15 hl (by decide) rfl (fun ls hl => ?_)
    exact keyL17 FU p1 p2 (0 : Int32) (0 : Int32) p0_limbs H locs ls hf hP hD hS (lv_sub hl [2, 3, 1, 0] rfl)
set_option maxRecDepth 100000 in
set_option maxHeartbeats 4000000 in
theorem c_X0_multiply (l : Launch) (D : va_G) (cI cJ : ClassId) (a_p0 a_p0_left a_p0_right a_p0_left_limbs a_p0_right_limbs : Nat) (p1 : Int64) (p2 : Int64) (p0_left_size : Int32) (p0_left_limbs : (Nat → Int64)) (p0_right_size : Int32) (p0_right_limbs : (Nat → Int64)) (u : Int32 × (Nat → Int64) × Int32 × (Nat → Int64)) (hf : f_X0_multiply p1 p2 p0_left_size p0_left_limbs p0_right_size p0_right_limbs = some u) : CtV l yX0_multiply cX0_multiply 5 2 46 [.ref a_p0, .long p1, .long p2] D cI cJ [(a_p0, .inr (2, [.ref a_p0_left, .ref a_p0_right])), (a_p0_left, .inr (5, [.ref a_p0_left_limbs, .int p0_left_size])), (a_p0_left_limbs, .inl (cJ, 160, .inr (.inl p0_left_limbs))), (a_p0_right, .inr (5, [.ref a_p0_right_limbs, .int p0_right_size])), (a_p0_right_limbs, .inl (cJ, 160, .inr (.inl p0_right_limbs)))] [(a_p0, .inr (2, [.ref a_p0_left, .ref a_p0_right])), (a_p0_left, .inr (5, [.ref a_p0_left_limbs, .int u.1])), (a_p0_left_limbs, .inl (cJ, 160, .inr (.inl u.2.1))), (a_p0_right, .inr (5, [.ref a_p0_right_limbs, .int u.2.2.1])), (a_p0_right_limbs, .inl (cJ, 160, .inr (.inl u.2.2.2)))] := by
  refine mkV (own := RX0) rfl (by decide +kernel) (Nat.le_of_ble_eq_true rfl) (lv := [(0, .ref a_p0), (1, .long p1), (3, .long p2)]) rfl ?_
  intro p e s m below meth c Q A ls ar S hA hK hN hret H locs hP hD hS hl
  obtain ⟨hx, hb, hml, hown, hts⟩ := id S
  have hret : ∀ (w : Int32 × (Nat → Int64) × Int32 × (Nat → Int64)), w = u → ∀ (H : Heap) (locs : List Loc) (ls : Array Slot) (pc : Nat), decode cX0_multiply pc = .ok (.return_, 1) → va_P D vwCl [(a_p0, .inr (2, [.ref a_p0_left, .ref a_p0_right])), (a_p0_left, .inr (5, [.ref a_p0_left_limbs, .int w.1])), (a_p0_left_limbs, .inl (cJ, 160, .inr (.inl w.2.1))), (a_p0_right, .inr (5, [.ref a_p0_right_limbs, .int w.2.2.1])), (a_p0_right_limbs, .inl (cJ, 160, .inr (.inl w.2.2.2)))] H → va_D A [(a_p0, .inr (2, [.ref a_p0_left, .ref a_p0_right])), (a_p0_left, .inr (5, [.ref a_p0_left_limbs, .int w.1])), (a_p0_left_limbs, .inl (cJ, 160, .inr (.inl w.2.1))), (a_p0_right, .inr (5, [.ref a_p0_right_limbs, .int w.2.2.1])), (a_p0_right_limbs, .inl (cJ, 160, .inr (.inl w.2.2.2)))] → va_S A s.heap H locs → W p l e (rmz 2 46) s m ar below meth c H locs 0 0 Q (F0 m pc ls []) := fun w hw => hw ▸ hret
  unfold f_X0_multiply at hf
  refine lv_aload_n hx hb dX0_multiply_0 rfl (lv_at hl 0 rfl) ?_
  refine va_get (D := D) (ci := 2) (v := .ref a_p0_left) (C := RX0) (T := TX0) (N := 2) hx hb hts uwX0 hown hK hP 0 rfl rfl 0 (by decide) (hts _ kfX0_9) (fun _ h9 => h9) rfl dX0_multiply_1 ?_
  refine lv_lload_n hx hb dX0_multiply_4 rfl (lv_at hl 1 rfl) ?_
  obtain ⟨u1, hu2, hf⟩ := bdE hf
  refine cV_V (ws' := [(a_p0, .inr (2, [.ref a_p0_left, .ref a_p0_right])), (a_p0_left, .inr (5, [.ref a_p0_left_limbs, .int u1.1])), (a_p0_left_limbs, .inl (cJ, 160, .inr (.inl u1.2))), (a_p0_right, .inr (5, [.ref a_p0_right_limbs, .int p0_right_size])), (a_p0_right_limbs, .inl (cJ, 160, .inr (.inl p0_right_limbs)))]) (rest := []) S hK hN hA hP hD hS (c_X4_take l D cI cJ a_p0_left a_p0_left_limbs p1 p0_left_size p0_left_limbs u1 hu2) mwX4_take miX4_take kmX0_42 [1, 2] rfl (by decide) rfl rfl rfl 0 rfl rfl ⟨Nat.le_of_ble_eq_true rfl, Nat.le_of_ble_eq_true rfl⟩ ⟨Nat.zero_le _, Nat.zero_le _⟩ hl.1 rfl rfl (Nat.le_of_ble_eq_true rfl) dX0_multiply_5 (fun H locs hP hD hS => ?_)
  refine lv_aload_n hx hb dX0_multiply_8 rfl (lv_at hl 0 rfl) ?_
  refine va_get (D := D) (ci := 2) (v := .ref a_p0_left) (C := RX0) (T := TX0) (N := 2) hx hb hts uwX0 hown hK hP 0 rfl rfl 0 (by decide) (hts _ kfX0_9) (fun _ h9 => h9) rfl dX0_multiply_9 ?_
  refine lv_lload_n hx hb dX0_multiply_12 rfl (lv_at hl 2 rfl) ?_
  refine lv_bipush (v := 32) hx hb dX0_multiply_13 (by decide) ?_
  refine lv_lushr (v := lus p2 (32 : Int32)) hx hb dX0_multiply_15 rfl ?_
  refine lv_lconst (v := 0) hx hb dX0_multiply_16 (by decide) ?_
  obtain ⟨u3, hu4, hf⟩ := bdE hf
  refine cV_V (ws' := [(a_p0, .inr (2, [.ref a_p0_left, .ref a_p0_right])), (a_p0_left, .inr (5, [.ref a_p0_left_limbs, .int u3.1])), (a_p0_left_limbs, .inl (cJ, 160, .inr (.inl u3.2))), (a_p0_right, .inr (5, [.ref a_p0_right_limbs, .int p0_right_size])), (a_p0_right_limbs, .inl (cJ, 160, .inr (.inl p0_right_limbs)))]) (rest := []) S hK hN hA hP hD hS (c_X4_scale l D cI cJ a_p0_left a_p0_left_limbs (lus p2 (32 : Int32)) (0 : Int64) u1.1 u1.2 u3 hu4) mwX4_scale miX4_scale kmX0_112 [1, 2] rfl (by decide) rfl rfl rfl 0 rfl rfl ⟨Nat.le_of_ble_eq_true rfl, Nat.le_of_ble_eq_true rfl⟩ ⟨Nat.zero_le _, Nat.zero_le _⟩ hl.1 rfl rfl (Nat.le_of_ble_eq_true rfl) dX0_multiply_17 (fun H locs hP hD hS => ?_)
  refine lv_aload_n hx hb dX0_multiply_20 rfl (lv_at hl 0 rfl) ?_
  refine va_get (D := D) (ci := 2) (v := .ref a_p0_left) (C := RX0) (T := TX0) (N := 2) hx hb hts uwX0 hown hK hP 0 rfl rfl 0 (by decide) (hts _ kfX0_9) (fun _ h9 => h9) rfl dX0_multiply_21 ?_
  refine lv_bipush (v := 32) hx hb dX0_multiply_24 (by decide) ?_
  obtain ⟨u5, hu6, hf⟩ := bdE hf
  refine cV_V (ws' := [(a_p0, .inr (2, [.ref a_p0_left, .ref a_p0_right])), (a_p0_left, .inr (5, [.ref a_p0_left_limbs, .int u5.1])), (a_p0_left_limbs, .inl (cJ, 160, .inr (.inl u5.2))), (a_p0_right, .inr (5, [.ref a_p0_right_limbs, .int p0_right_size])), (a_p0_right_limbs, .inl (cJ, 160, .inr (.inl p0_right_limbs)))]) (rest := []) S hK hN hA hP hD hS (c_X4_shiftUp l D cI cJ a_p0_left a_p0_left_limbs (32 : Int32) u3.1 u3.2 u5 hu6) mwX4_shiftUp miX4_shiftUp kmX0_115 [1, 2] rfl (by decide) rfl rfl rfl 0 rfl rfl ⟨Nat.le_of_ble_eq_true rfl, Nat.le_of_ble_eq_true rfl⟩ ⟨Nat.zero_le _, Nat.zero_le _⟩ hl.1 rfl rfl (Nat.le_of_ble_eq_true rfl) dX0_multiply_26 (fun H locs hP hD hS => ?_)
  refine lv_aload_n hx hb dX0_multiply_29 rfl (lv_at hl 0 rfl) ?_
  refine va_get (D := D) (ci := 2) (v := .ref a_p0_right) (C := RX0) (T := TX0) (N := 2) hx hb hts uwX0 hown hK hP 0 rfl rfl 1 (by decide) (hts _ kfX0_15) (fun _ h9 => h9) rfl dX0_multiply_30 ?_
  refine lv_lload_n hx hb dX0_multiply_33 rfl (lv_at hl 1 rfl) ?_
  obtain ⟨u7, hu8, hf⟩ := bdE hf
  refine cV_V (ws' := [(a_p0, .inr (2, [.ref a_p0_left, .ref a_p0_right])), (a_p0_left, .inr (5, [.ref a_p0_left_limbs, .int u5.1])), (a_p0_left_limbs, .inl (cJ, 160, .inr (.inl u5.2))), (a_p0_right, .inr (5, [.ref a_p0_right_limbs, .int u7.1])), (a_p0_right_limbs, .inl (cJ, 160, .inr (.inl u7.2)))]) (rest := []) S hK hN hA hP hD hS (c_X4_take l D cI cJ a_p0_right a_p0_right_limbs p1 p0_right_size p0_right_limbs u7 hu8) mwX4_take miX4_take kmX0_42 [3, 4] rfl (by decide) rfl rfl rfl 0 rfl rfl ⟨Nat.le_of_ble_eq_true rfl, Nat.le_of_ble_eq_true rfl⟩ ⟨Nat.zero_le _, Nat.zero_le _⟩ hl.1 rfl rfl (Nat.le_of_ble_eq_true rfl) dX0_multiply_34 (fun H locs hP hD hS => ?_)
  refine lv_aload_n hx hb dX0_multiply_37 rfl (lv_at hl 0 rfl) ?_
  refine va_get (D := D) (ci := 2) (v := .ref a_p0_right) (C := RX0) (T := TX0) (N := 2) hx hb hts uwX0 hown hK hP 0 rfl rfl 1 (by decide) (hts _ kfX0_15) (fun _ h9 => h9) rfl dX0_multiply_38 ?_
  refine lv_lload_n hx hb dX0_multiply_41 rfl (lv_at hl 2 rfl) ?_
  refine lv_ldc2 hx hb hown (hts _ kcX0_118) dX0_multiply_42 ?_
  refine lv_land hx hb dX0_multiply_45 ?_
  refine lv_lconst (v := 0) hx hb dX0_multiply_46 (by decide) ?_
  obtain ⟨u9, hu10, hf⟩ := bdE hf
  refine cV_V (ws' := [(a_p0, .inr (2, [.ref a_p0_left, .ref a_p0_right])), (a_p0_left, .inr (5, [.ref a_p0_left_limbs, .int u5.1])), (a_p0_left_limbs, .inl (cJ, 160, .inr (.inl u5.2))), (a_p0_right, .inr (5, [.ref a_p0_right_limbs, .int u9.1])), (a_p0_right_limbs, .inl (cJ, 160, .inr (.inl u9.2)))]) (rest := []) S hK hN hA hP hD hS (c_X4_scale l D cI cJ a_p0_right a_p0_right_limbs (p2 &&& (4294967295 : Int64)) (0 : Int64) u7.1 u7.2 u9 hu10) mwX4_scale miX4_scale kmX0_112 [3, 4] rfl (by decide) rfl rfl rfl 0 rfl rfl ⟨Nat.le_of_ble_eq_true rfl, Nat.le_of_ble_eq_true rfl⟩ ⟨Nat.zero_le _, Nat.zero_le _⟩ hl.1 rfl rfl (Nat.le_of_ble_eq_true rfl) dX0_multiply_47 (fun H locs hP hD hS => ?_)
  refine lv_aload_n hx hb dX0_multiply_50 rfl (lv_at hl 0 rfl) ?_
  refine va_get (D := D) (ci := 2) (v := .ref a_p0_left) (C := RX0) (T := TX0) (N := 2) hx hb hts uwX0 hown hK hP 0 rfl rfl 0 (by decide) (hts _ kfX0_9) (fun _ h9 => h9) rfl dX0_multiply_51 ?_
  refine lv_aload_n hx hb dX0_multiply_54 rfl (lv_at hl 0 rfl) ?_
  refine va_get (D := D) (ci := 2) (v := .ref a_p0_right) (C := RX0) (T := TX0) (N := 2) hx hb hts uwX0 hown hK hP 0 rfl rfl 1 (by decide) (hts _ kfX0_15) (fun _ h9 => h9) rfl dX0_multiply_55 ?_
  obtain ⟨u11, hu12, hf⟩ := bdE hf
  refine cV_V (ws' := [(a_p0, .inr (2, [.ref a_p0_left, .ref a_p0_right])), (a_p0_left, .inr (5, [.ref a_p0_left_limbs, .int u11.1])), (a_p0_left_limbs, .inl (cJ, 160, .inr (.inl u11.2))), (a_p0_right, .inr (5, [.ref a_p0_right_limbs, .int u9.1])), (a_p0_right_limbs, .inl (cJ, 160, .inr (.inl u9.2)))]) (rest := []) S hK hN hA hP hD hS (c_X4_plus l D cI cJ a_p0_left a_p0_left_limbs a_p0_right a_p0_right_limbs  u5.1 u5.2 u9.1 u9.2 u11 hu12) mwX4_plus miX4_plus kmX0_120 [1, 2, 3, 4] rfl (by decide) rfl rfl rfl 0 rfl rfl ⟨Nat.le_of_ble_eq_true rfl, Nat.le_of_ble_eq_true rfl⟩ ⟨Nat.zero_le _, Nat.zero_le _⟩ hl.1 rfl rfl (Nat.le_of_ble_eq_true rfl) dX0_multiply_58 (fun H locs hP hD hS => ?_)
  exact hret _ (opE hf) H locs ls 61 dX0_multiply_61 hP hD hS
set_option maxRecDepth 100000 in
set_option maxHeartbeats 4000000 in
theorem c_X0_product (l : Launch) (D : va_G) (cI cJ : ClassId) (a_p0 a_p0_left a_p0_right a_p0_left_limbs a_p0_right_limbs a_p1 a_p2 : Nat) (p3 : Int32) (p4 : Int32) (p0_left_size : Int32) (p0_left_limbs : (Nat → Int64)) (p0_right_size : Int32) (p0_right_limbs : (Nat → Int64)) (p1_kind : Int32) (p1_minus : Int32) (p1_m : Int64) (p1_e : Int32) (p1_narrowBelow : Int32) (p2_kind : Int32) (p2_minus : Int32) (p2_m : Int64) (p2_e : Int32) (p2_narrowBelow : Int32) (u : Int64 × Int32 × (Nat → Int64) × Int32 × (Nat → Int64)) (hf : f_X0_product p1_kind p1_minus p1_m p1_e p2_kind p2_minus p2_m p2_e p3 p4 p0_left_size p0_left_limbs p0_right_size p0_right_limbs = some u) : CtL l yX0_product cX0_product 6 4 101 [.ref a_p0, .ref a_p1, .ref a_p2, .int p3, .int p4] D cI cJ [(a_p0, .inr (2, [.ref a_p0_left, .ref a_p0_right])), (a_p0_left, .inr (5, [.ref a_p0_left_limbs, .int p0_left_size])), (a_p0_left_limbs, .inl (cJ, 160, .inr (.inl p0_left_limbs))), (a_p0_right, .inr (5, [.ref a_p0_right_limbs, .int p0_right_size])), (a_p0_right_limbs, .inl (cJ, 160, .inr (.inl p0_right_limbs))), (a_p1, .inr (9, [.int p1_kind, .int p1_minus, .long p1_m, .int p1_e, .int p1_narrowBelow])), (a_p2, .inr (9, [.int p2_kind, .int p2_minus, .long p2_m, .int p2_e, .int p2_narrowBelow]))] [(a_p0, .inr (2, [.ref a_p0_left, .ref a_p0_right])), (a_p0_left, .inr (5, [.ref a_p0_left_limbs, .int u.2.1])), (a_p0_left_limbs, .inl (cJ, 160, .inr (.inl u.2.2.1))), (a_p0_right, .inr (5, [.ref a_p0_right_limbs, .int u.2.2.2.1])), (a_p0_right_limbs, .inl (cJ, 160, .inr (.inl u.2.2.2.2))), (a_p1, .inr (9, [.int p1_kind, .int p1_minus, .long p1_m, .int p1_e, .int p1_narrowBelow])), (a_p2, .inr (9, [.int p2_kind, .int p2_minus, .long p2_m, .int p2_e, .int p2_narrowBelow]))] u.1 := by
  refine mkL (own := RX0) rfl (by decide +kernel) (Nat.le_of_ble_eq_true rfl) (lv := [(0, .ref a_p0), (1, .ref a_p1), (2, .ref a_p2), (3, .int p3), (4, .int p4)]) rfl ?_
  intro p e s m below meth c Q A ls ar S hA hK hN hret H locs hP hD hS hl
  obtain ⟨hx, hb, hml, hown, hts⟩ := id S
  have hret : ∀ (w : Int64 × Int32 × (Nat → Int64) × Int32 × (Nat → Int64)), w = u → ∀ (H : Heap) (locs : List Loc) (ls : Array Slot) (pc : Nat), decode cX0_product pc = .ok (.lreturn, 1) → va_P D vwCl [(a_p0, .inr (2, [.ref a_p0_left, .ref a_p0_right])), (a_p0_left, .inr (5, [.ref a_p0_left_limbs, .int w.2.1])), (a_p0_left_limbs, .inl (cJ, 160, .inr (.inl w.2.2.1))), (a_p0_right, .inr (5, [.ref a_p0_right_limbs, .int w.2.2.2.1])), (a_p0_right_limbs, .inl (cJ, 160, .inr (.inl w.2.2.2.2))), (a_p1, .inr (9, [.int p1_kind, .int p1_minus, .long p1_m, .int p1_e, .int p1_narrowBelow])), (a_p2, .inr (9, [.int p2_kind, .int p2_minus, .long p2_m, .int p2_e, .int p2_narrowBelow]))] H → va_D A [(a_p0, .inr (2, [.ref a_p0_left, .ref a_p0_right])), (a_p0_left, .inr (5, [.ref a_p0_left_limbs, .int w.2.1])), (a_p0_left_limbs, .inl (cJ, 160, .inr (.inl w.2.2.1))), (a_p0_right, .inr (5, [.ref a_p0_right_limbs, .int w.2.2.2.1])), (a_p0_right_limbs, .inl (cJ, 160, .inr (.inl w.2.2.2.2))), (a_p1, .inr (9, [.int p1_kind, .int p1_minus, .long p1_m, .int p1_e, .int p1_narrowBelow])), (a_p2, .inr (9, [.int p2_kind, .int p2_minus, .long p2_m, .int p2_e, .int p2_narrowBelow]))] → va_S A s.heap H locs → W p l e (rmz 4 101) s m ar below meth c H locs 0 0 Q (F0 m pc ls [.long w.1]) := fun w hw => hw ▸ hret
  have keyB47 : ∀ (v3 : Int32) (v5 : Int32) (p0_left_size : Int32) (p0_left_limbs : (Nat → Int64)) (p0_right_size : Int32) (p0_right_limbs : (Nat → Int64)) (H : Heap) (locs : List Loc) (ls : Array Slot), f_X0_product_B47 p1_kind p1_minus p1_m p1_e p2_kind p2_minus p2_m p2_e v3 v5 p0_left_size p0_left_limbs p0_right_size p0_right_limbs = some u → va_P D vwCl [(a_p0, .inr (2, [.ref a_p0_left, .ref a_p0_right])), (a_p0_left, .inr (5, [.ref a_p0_left_limbs, .int p0_left_size])), (a_p0_left_limbs, .inl (cJ, 160, .inr (.inl p0_left_limbs))), (a_p0_right, .inr (5, [.ref a_p0_right_limbs, .int p0_right_size])), (a_p0_right_limbs, .inl (cJ, 160, .inr (.inl p0_right_limbs))), (a_p1, .inr (9, [.int p1_kind, .int p1_minus, .long p1_m, .int p1_e, .int p1_narrowBelow])), (a_p2, .inr (9, [.int p2_kind, .int p2_minus, .long p2_m, .int p2_e, .int p2_narrowBelow]))] H → va_D A [(a_p0, .inr (2, [.ref a_p0_left, .ref a_p0_right])), (a_p0_left, .inr (5, [.ref a_p0_left_limbs, .int p0_left_size])), (a_p0_left_limbs, .inl (cJ, 160, .inr (.inl p0_left_limbs))), (a_p0_right, .inr (5, [.ref a_p0_right_limbs, .int p0_right_size])), (a_p0_right_limbs, .inl (cJ, 160, .inr (.inl p0_right_limbs))), (a_p1, .inr (9, [.int p1_kind, .int p1_minus, .long p1_m, .int p1_e, .int p1_narrowBelow])), (a_p2, .inr (9, [.int p2_kind, .int p2_minus, .long p2_m, .int p2_e, .int p2_narrowBelow]))] → va_S A s.heap H locs → lv_has ls 6 [(3, .int v3), (5, .int v5)] → W p l e (rmz 4 101) s m ar below meth c H locs 0 0 Q (F0 m 47 ls []) := by
    intro v3 v5 p0_left_size p0_left_limbs p0_right_size p0_right_limbs H locs ls hf hP hD hS hl
    unfold f_X0_product_B47 at hf
    refine lv_iload_n hx hb dX0_product_47 rfl (lv_at hl 0 rfl) ?_
    refine lv_iload hx hb dX0_product_48 (lv_at hl 1 rfl) ?_
    obtain ⟨u3, hu4, hf⟩ := bdE hf
    refine cS_L (ws' := [(a_p0, .inr (2, [.ref a_p0_left, .ref a_p0_right])), (a_p0_left, .inr (5, [.ref a_p0_left_limbs, .int p0_left_size])), (a_p0_left_limbs, .inl (cJ, 160, .inr (.inl p0_left_limbs))), (a_p0_right, .inr (5, [.ref a_p0_right_limbs, .int p0_right_size])), (a_p0_right_limbs, .inl (cJ, 160, .inr (.inl p0_right_limbs))), (a_p1, .inr (9, [.int p1_kind, .int p1_minus, .long p1_m, .int p1_e, .int p1_narrowBelow])), (a_p2, .inr (9, [.int p2_kind, .int p2_minus, .long p2_m, .int p2_e, .int p2_narrowBelow]))]) (rest := []) S hK hN hA hP hD hS (c_X2_endless l D cI cJ  v3 v5  u3 hu4) mwX2_endless msX2_endless kmX0_34 [] rfl (by decide) rfl rfl rfl ⟨Nat.le_of_ble_eq_true rfl, Nat.le_of_ble_eq_true rfl⟩ ⟨Nat.zero_le _, Nat.zero_le _⟩ hl.1 rfl rfl (Nat.le_of_ble_eq_true rfl) dX0_product_50 (fun H locs hP hD hS => ?_)
    exact hret _ (opE hf) H locs ls 53 dX0_product_53 hP hD hS
  have keyB16 : ∀ (v3 : Int32) (v4 : Int32) (s0 : Int32) (p0_left_size : Int32) (p0_left_limbs : (Nat → Int64)) (p0_right_size : Int32) (p0_right_limbs : (Nat → Int64)) (H : Heap) (locs : List Loc) (ls : Array Slot), f_X0_product_B16 p1_kind p1_minus p1_m p1_e p2_kind p2_minus p2_m p2_e v3 v4 s0 p0_left_size p0_left_limbs p0_right_size p0_right_limbs = some u → va_P D vwCl [(a_p0, .inr (2, [.ref a_p0_left, .ref a_p0_right])), (a_p0_left, .inr (5, [.ref a_p0_left_limbs, .int p0_left_size])), (a_p0_left_limbs, .inl (cJ, 160, .inr (.inl p0_left_limbs))), (a_p0_right, .inr (5, [.ref a_p0_right_limbs, .int p0_right_size])), (a_p0_right_limbs, .inl (cJ, 160, .inr (.inl p0_right_limbs))), (a_p1, .inr (9, [.int p1_kind, .int p1_minus, .long p1_m, .int p1_e, .int p1_narrowBelow])), (a_p2, .inr (9, [.int p2_kind, .int p2_minus, .long p2_m, .int p2_e, .int p2_narrowBelow]))] H → va_D A [(a_p0, .inr (2, [.ref a_p0_left, .ref a_p0_right])), (a_p0_left, .inr (5, [.ref a_p0_left_limbs, .int p0_left_size])), (a_p0_left_limbs, .inl (cJ, 160, .inr (.inl p0_left_limbs))), (a_p0_right, .inr (5, [.ref a_p0_right_limbs, .int p0_right_size])), (a_p0_right_limbs, .inl (cJ, 160, .inr (.inl p0_right_limbs))), (a_p1, .inr (9, [.int p1_kind, .int p1_minus, .long p1_m, .int p1_e, .int p1_narrowBelow])), (a_p2, .inr (9, [.int p2_kind, .int p2_minus, .long p2_m, .int p2_e, .int p2_narrowBelow]))] → va_S A s.heap H locs → lv_has ls 6 [(0, .ref a_p0), (1, .ref a_p1), (2, .ref a_p2), (3, .int v3), (4, .int v4)] → W p l e (rmz 4 101) s m ar below meth c H locs 0 0 Q (F0 m 16 ls [.int s0]) := by
    intro v3 v4 s0 p0_left_size p0_left_limbs p0_right_size p0_right_limbs H locs ls hf hP hD hS hl
    unfold f_X0_product_B16 at hf
    refine lv_istore (lv' := [(5, .int s0), (0, .ref a_p0), (1, .ref a_p1), (2, .ref a_p2), (3, .int v3), (4, .int v4)]) hx hb dX0_product_16 hl (by decide) rfl (fun ls hl => ?_)
    refine lv_aload_n hx hb dX0_product_18 rfl (lv_at hl 2 rfl) ?_
    refine lv_aload_n hx hb dX0_product_19 rfl (lv_at hl 3 rfl) ?_
    obtain ⟨u1, hu2, hf⟩ := bdE hf
    refine cS_I (ws' := [(a_p0, .inr (2, [.ref a_p0_left, .ref a_p0_right])), (a_p0_left, .inr (5, [.ref a_p0_left_limbs, .int p0_left_size])), (a_p0_left_limbs, .inl (cJ, 160, .inr (.inl p0_left_limbs))), (a_p0_right, .inr (5, [.ref a_p0_right_limbs, .int p0_right_size])), (a_p0_right_limbs, .inl (cJ, 160, .inr (.inl p0_right_limbs))), (a_p1, .inr (9, [.int p1_kind, .int p1_minus, .long p1_m, .int p1_e, .int p1_narrowBelow])), (a_p2, .inr (9, [.int p2_kind, .int p2_minus, .long p2_m, .int p2_e, .int p2_narrowBelow]))]) (rest := []) S hK hN hA hP hD hS (c_X0_hasNoProduct l D cI cJ a_p1 a_p2  p1_kind p1_minus p1_m p1_e p1_narrowBelow p2_kind p2_minus p2_m p2_e p2_narrowBelow u1 hu2) mwX0_hasNoProduct msX0_hasNoProduct kmX0_59 [5, 6] rfl (by decide) rfl rfl rfl ⟨Nat.le_of_ble_eq_true rfl, Nat.le_of_ble_eq_true rfl⟩ ⟨Nat.zero_le _, Nat.zero_le _⟩ hl.1 rfl rfl (Nat.le_of_ble_eq_true rfl) dX0_product_20 (fun H locs hP hD hS => ?_)
    refine lv_if_eq (tgt := 31) hx hb dX0_product_23 (by decide) (fun hc13 => ?_) (fun hc13 => ?_)
    · have hf := ifT hc13 hf
      refine lv_aload_n hx hb dX0_product_31 rfl (lv_at hl 2 rfl) ?_
      refine va_get (D := D) (ci := 9) (v := .int p1_kind) (C := RX8) (T := TX8) (N := 5) hx hb hts uwX8 hown hK hP 5 rfl rfl 0 (by decide) (hts _ kfX0_18) (fun _ h9 => h9) rfl dX0_product_32 ?_
      refine lv_iconst (v := 3) hx hb dX0_product_35 (by decide) ?_
      refine lv_icmp_eq (tgt := 47) hx hb dX0_product_36 (by decide) (fun hc10 => ?_) (fun hc10 => ?_)
      · have hf := ifT hc10 hf
        exact keyB47 v3 s0 p0_left_size p0_left_limbs p0_right_size p0_right_limbs H locs ls hf hP hD hS (lv_sub hl [4, 0] rfl)
      · have hf := ifF hc10 hf
        refine lv_aload_n hx hb dX0_product_39 rfl (lv_at hl 3 rfl) ?_
        refine va_get (D := D) (ci := 9) (v := .int p2_kind) (C := RX8) (T := TX8) (N := 5) hx hb hts uwX8 hown hK hP 6 rfl rfl 0 (by decide) (hts _ kfX0_18) (fun _ h9 => h9) rfl dX0_product_40 ?_
        refine lv_iconst (v := 3) hx hb dX0_product_43 (by decide) ?_
        refine lv_icmp_ne (tgt := 54) hx hb dX0_product_44 (by decide) (fun hc9 => ?_) (fun hc9 => ?_)
        · have hf := ifF hc9 hf
          refine lv_aload_n hx hb dX0_product_54 rfl (lv_at hl 1 rfl) ?_
          refine lv_aload_n hx hb dX0_product_55 rfl (lv_at hl 2 rfl) ?_
          refine va_get (D := D) (ci := 9) (v := .long p1_m) (C := RX8) (T := TX8) (N := 5) hx hb hts uwX8 hown hK hP 5 rfl rfl 2 (by decide) (hts _ kfX0_38) (fun _ h9 => h9) rfl dX0_product_56 ?_
          refine lv_aload_n hx hb dX0_product_59 rfl (lv_at hl 3 rfl) ?_
          refine va_get (D := D) (ci := 9) (v := .long p2_m) (C := RX8) (T := TX8) (N := 5) hx hb hts uwX8 hown hK hP 6 rfl rfl 2 (by decide) (hts _ kfX0_38) (fun _ h9 => h9) rfl dX0_product_60 ?_
          obtain ⟨u5, hu6, hf⟩ := bdE hf
          refine cV_V (ws' := [(a_p0, .inr (2, [.ref a_p0_left, .ref a_p0_right])), (a_p0_left, .inr (5, [.ref a_p0_left_limbs, .int u5.1])), (a_p0_left_limbs, .inl (cJ, 160, .inr (.inl u5.2.1))), (a_p0_right, .inr (5, [.ref a_p0_right_limbs, .int u5.2.2.1])), (a_p0_right_limbs, .inl (cJ, 160, .inr (.inl u5.2.2.2))), (a_p1, .inr (9, [.int p1_kind, .int p1_minus, .long p1_m, .int p1_e, .int p1_narrowBelow])), (a_p2, .inr (9, [.int p2_kind, .int p2_minus, .long p2_m, .int p2_e, .int p2_narrowBelow]))]) (rest := []) S hK hN hA hP hD hS (c_X0_multiply l D cI cJ a_p0 a_p0_left a_p0_right a_p0_left_limbs a_p0_right_limbs p1_m p2_m p0_left_size p0_left_limbs p0_right_size p0_right_limbs u5 hu6) mwX0_multiply miX0_multiply kmX0_63 [0, 1, 2, 3, 4] rfl (by decide) rfl rfl rfl 0 rfl rfl ⟨Nat.le_of_ble_eq_true rfl, Nat.le_of_ble_eq_true rfl⟩ ⟨Nat.zero_le _, Nat.zero_le _⟩ hl.1 rfl rfl (Nat.le_of_ble_eq_true rfl) dX0_product_63 (fun H locs hP hD hS => ?_)
          refine lv_iload hx hb dX0_product_66 (lv_at hl 0 rfl) ?_
          refine lv_aload_n hx hb dX0_product_68 rfl (lv_at hl 1 rfl) ?_
          refine va_get (D := D) (ci := 2) (v := .ref a_p0_left) (C := RX0) (T := TX0) (N := 2) hx hb hts uwX0 hown hK hP 0 rfl rfl 0 (by decide) (hts _ kfX0_9) (fun _ h9 => h9) rfl dX0_product_69 ?_
          refine lv_aload_n hx hb dX0_product_72 rfl (lv_at hl 2 rfl) ?_
          refine va_get (D := D) (ci := 9) (v := .int p1_e) (C := RX8) (T := TX8) (N := 5) hx hb hts uwX8 hown hK hP 5 rfl rfl 3 (by decide) (hts _ kfX0_48) (fun _ h9 => h9) rfl dX0_product_73 ?_
          refine lv_aload_n hx hb dX0_product_76 rfl (lv_at hl 3 rfl) ?_
          refine va_get (D := D) (ci := 9) (v := .int p2_e) (C := RX8) (T := TX8) (N := 5) hx hb hts uwX8 hown hK hP 6 rfl rfl 3 (by decide) (hts _ kfX0_48) (fun _ h9 => h9) rfl dX0_product_77 ?_
          refine lv_iadd hx hb dX0_product_80 ?_
          refine lv_iconst (v := 0) hx hb dX0_product_81 (by decide) ?_
          refine lv_iload_n hx hb dX0_product_82 rfl (lv_at hl 4 rfl) ?_
          refine lv_iload hx hb dX0_product_83 (lv_at hl 5 rfl) ?_
          obtain ⟨u7, hu8, hf⟩ := bdE hf
          refine cS_L (ws' := [(a_p0, .inr (2, [.ref a_p0_left, .ref a_p0_right])), (a_p0_left, .inr (5, [.ref a_p0_left_limbs, .int u5.1])), (a_p0_left_limbs, .inl (cJ, 160, .inr (.inl u5.2.1))), (a_p0_right, .inr (5, [.ref a_p0_right_limbs, .int u5.2.2.1])), (a_p0_right_limbs, .inl (cJ, 160, .inr (.inl u5.2.2.2))), (a_p1, .inr (9, [.int p1_kind, .int p1_minus, .long p1_m, .int p1_e, .int p1_narrowBelow])), (a_p2, .inr (9, [.int p2_kind, .int p2_minus, .long p2_m, .int p2_e, .int p2_narrowBelow]))]) (rest := []) S hK hN hA hP hD hS (c_X0_rounded l D cI cJ a_p0_left a_p0_left_limbs s0 (p1_e + p2_e) (0 : Int32) v3 v4 u5.1 u5.2.1 u7 hu8) mwX0_rounded msX0_rounded kmX0_51 [1, 2] rfl (by decide) rfl rfl rfl ⟨Nat.le_of_ble_eq_true rfl, Nat.le_of_ble_eq_true rfl⟩ ⟨Nat.zero_le _, Nat.zero_le _⟩ hl.1 rfl rfl (Nat.le_of_ble_eq_true rfl) dX0_product_85 (fun H locs hP hD hS => ?_)
          exact hret _ (opE hf) H locs ls 88 dX0_product_88 hP hD hS
        · have hf := ifT hc9 hf
          exact keyB47 v3 s0 p0_left_size p0_left_limbs p0_right_size p0_right_limbs H locs ls hf hP hD hS (lv_sub hl [4, 0] rfl)
    · have hf := ifF hc13 hf
      refine lv_iload_n hx hb dX0_product_26 rfl (lv_at hl 4 rfl) ?_
      obtain ⟨u11, hu12, hf⟩ := bdE hf
      refine cS_L (ws' := [(a_p0, .inr (2, [.ref a_p0_left, .ref a_p0_right])), (a_p0_left, .inr (5, [.ref a_p0_left_limbs, .int p0_left_size])), (a_p0_left_limbs, .inl (cJ, 160, .inr (.inl p0_left_limbs))), (a_p0_right, .inr (5, [.ref a_p0_right_limbs, .int p0_right_size])), (a_p0_right_limbs, .inl (cJ, 160, .inr (.inl p0_right_limbs))), (a_p1, .inr (9, [.int p1_kind, .int p1_minus, .long p1_m, .int p1_e, .int p1_narrowBelow])), (a_p2, .inr (9, [.int p2_kind, .int p2_minus, .long p2_m, .int p2_e, .int p2_narrowBelow]))]) (rest := []) S hK hN hA hP hD hS (c_X2_none l D cI cJ  v3  u11 hu12) mwX2_none msX2_none kmX0_24 [] rfl (by decide) rfl rfl rfl ⟨Nat.le_of_ble_eq_true rfl, Nat.le_of_ble_eq_true rfl⟩ ⟨Nat.zero_le _, Nat.zero_le _⟩ hl.1 rfl rfl (Nat.le_of_ble_eq_true rfl) dX0_product_27 (fun H locs hP hD hS => ?_)
      exact hret _ (opE hf) H locs ls 30 dX0_product_30 hP hD hS
  unfold f_X0_product at hf
  refine lv_aload_n hx hb dX0_product_0 rfl (lv_at hl 1 rfl) ?_
  refine va_get (D := D) (ci := 9) (v := .int p1_minus) (C := RX8) (T := TX8) (N := 5) hx hb hts uwX8 hown hK hP 5 rfl rfl 1 (by decide) (hts _ kfX0_30) (fun _ h9 => h9) rfl dX0_product_1 ?_
  refine lv_aload_n hx hb dX0_product_4 rfl (lv_at hl 2 rfl) ?_
  refine va_get (D := D) (ci := 9) (v := .int p2_minus) (C := RX8) (T := TX8) (N := 5) hx hb hts uwX8 hown hK hP 6 rfl rfl 1 (by decide) (hts _ kfX0_30) (fun _ h9 => h9) rfl dX0_product_5 ?_
  refine lv_icmp_eq (tgt := 15) hx hb dX0_product_8 (by decide) (fun hc14 => ?_) (fun hc14 => ?_)
  · have hf := ifT hc14 hf
    refine lv_iconst (v := 0) hx hb dX0_product_15 (by decide) ?_
    exact keyB16 p3 p4 (0 : Int32) p0_left_size p0_left_limbs p0_right_size p0_right_limbs H locs ls hf hP hD hS (lv_sub hl [0, 1, 2, 3, 4] rfl)
  · have hf := ifF hc14 hf
    refine lv_iconst (v := 1) hx hb dX0_product_11 (by decide) ?_
    refine lv_goto (tgt := 16) hx hb dX0_product_12 (by decide) ?_
    exact keyB16 p3 p4 (1 : Int32) p0_left_size p0_left_limbs p0_right_size p0_right_limbs H locs ls hf hP hD hS (lv_sub hl [0, 1, 2, 3, 4] rfl)
set_option maxRecDepth 100000 in
set_option maxHeartbeats 4000000 in
theorem c_X0_productAndSum (l : Launch) (D : va_G) (cI cJ : ClassId) (a_p0 a_p0_left a_p0_right a_p0_left_limbs a_p0_right_limbs a_p1 a_p2 a_p3 : Nat) (p4 : Int32) (p5 : Int32) (p0_left_size : Int32) (p0_left_limbs : (Nat → Int64)) (p0_right_size : Int32) (p0_right_limbs : (Nat → Int64)) (p1_kind : Int32) (p1_minus : Int32) (p1_m : Int64) (p1_e : Int32) (p1_narrowBelow : Int32) (p2_kind : Int32) (p2_minus : Int32) (p2_m : Int64) (p2_e : Int32) (p2_narrowBelow : Int32) (p3_kind : Int32) (p3_minus : Int32) (p3_m : Int64) (p3_e : Int32) (p3_narrowBelow : Int32) (u : Int64 × Int32 × (Nat → Int64) × Int32 × (Nat → Int64)) (hf : f_X0_productAndSum p1_kind p1_minus p1_m p1_e p2_kind p2_minus p2_m p2_e p3_kind p3_minus p3_m p3_e p4 p5 p0_left_size p0_left_limbs p0_right_size p0_right_limbs = some u) : CtL l yX0_productAndSum cX0_productAndSum 7 5 129 [.ref a_p0, .ref a_p1, .ref a_p2, .ref a_p3, .int p4, .int p5] D cI cJ [(a_p0, .inr (2, [.ref a_p0_left, .ref a_p0_right])), (a_p0_left, .inr (5, [.ref a_p0_left_limbs, .int p0_left_size])), (a_p0_left_limbs, .inl (cJ, 160, .inr (.inl p0_left_limbs))), (a_p0_right, .inr (5, [.ref a_p0_right_limbs, .int p0_right_size])), (a_p0_right_limbs, .inl (cJ, 160, .inr (.inl p0_right_limbs))), (a_p1, .inr (9, [.int p1_kind, .int p1_minus, .long p1_m, .int p1_e, .int p1_narrowBelow])), (a_p2, .inr (9, [.int p2_kind, .int p2_minus, .long p2_m, .int p2_e, .int p2_narrowBelow])), (a_p3, .inr (9, [.int p3_kind, .int p3_minus, .long p3_m, .int p3_e, .int p3_narrowBelow]))] [(a_p0, .inr (2, [.ref a_p0_left, .ref a_p0_right])), (a_p0_left, .inr (5, [.ref a_p0_left_limbs, .int u.2.1])), (a_p0_left_limbs, .inl (cJ, 160, .inr (.inl u.2.2.1))), (a_p0_right, .inr (5, [.ref a_p0_right_limbs, .int u.2.2.2.1])), (a_p0_right_limbs, .inl (cJ, 160, .inr (.inl u.2.2.2.2))), (a_p1, .inr (9, [.int p1_kind, .int p1_minus, .long p1_m, .int p1_e, .int p1_narrowBelow])), (a_p2, .inr (9, [.int p2_kind, .int p2_minus, .long p2_m, .int p2_e, .int p2_narrowBelow])), (a_p3, .inr (9, [.int p3_kind, .int p3_minus, .long p3_m, .int p3_e, .int p3_narrowBelow]))] u.1 := by
  refine mkL (own := RX0) rfl (by decide +kernel) (Nat.le_of_ble_eq_true rfl) (lv := [(0, .ref a_p0), (1, .ref a_p1), (2, .ref a_p2), (3, .ref a_p3), (4, .int p4), (5, .int p5)]) rfl ?_
  intro p e s m below meth c Q A ls ar S hA hK hN hret H locs hP hD hS hl
  obtain ⟨hx, hb, hml, hown, hts⟩ := id S
  have hret : ∀ (w : Int64 × Int32 × (Nat → Int64) × Int32 × (Nat → Int64)), w = u → ∀ (H : Heap) (locs : List Loc) (ls : Array Slot) (pc : Nat), decode cX0_productAndSum pc = .ok (.lreturn, 1) → va_P D vwCl [(a_p0, .inr (2, [.ref a_p0_left, .ref a_p0_right])), (a_p0_left, .inr (5, [.ref a_p0_left_limbs, .int w.2.1])), (a_p0_left_limbs, .inl (cJ, 160, .inr (.inl w.2.2.1))), (a_p0_right, .inr (5, [.ref a_p0_right_limbs, .int w.2.2.2.1])), (a_p0_right_limbs, .inl (cJ, 160, .inr (.inl w.2.2.2.2))), (a_p1, .inr (9, [.int p1_kind, .int p1_minus, .long p1_m, .int p1_e, .int p1_narrowBelow])), (a_p2, .inr (9, [.int p2_kind, .int p2_minus, .long p2_m, .int p2_e, .int p2_narrowBelow])), (a_p3, .inr (9, [.int p3_kind, .int p3_minus, .long p3_m, .int p3_e, .int p3_narrowBelow]))] H → va_D A [(a_p0, .inr (2, [.ref a_p0_left, .ref a_p0_right])), (a_p0_left, .inr (5, [.ref a_p0_left_limbs, .int w.2.1])), (a_p0_left_limbs, .inl (cJ, 160, .inr (.inl w.2.2.1))), (a_p0_right, .inr (5, [.ref a_p0_right_limbs, .int w.2.2.2.1])), (a_p0_right_limbs, .inl (cJ, 160, .inr (.inl w.2.2.2.2))), (a_p1, .inr (9, [.int p1_kind, .int p1_minus, .long p1_m, .int p1_e, .int p1_narrowBelow])), (a_p2, .inr (9, [.int p2_kind, .int p2_minus, .long p2_m, .int p2_e, .int p2_narrowBelow])), (a_p3, .inr (9, [.int p3_kind, .int p3_minus, .long p3_m, .int p3_e, .int p3_narrowBelow]))] → va_S A s.heap H locs → W p l e (rmz 5 129) s m ar below meth c H locs 0 0 Q (F0 m pc ls [.long w.1]) := fun w hw => hw ▸ hret
  have keyB16 : ∀ (v4 : Int32) (p0_left_size : Int32) (p0_left_limbs : (Nat → Int64)) (p0_right_size : Int32) (p0_right_limbs : (Nat → Int64)) (H : Heap) (locs : List Loc) (ls : Array Slot), f_X0_productAndSum_B16 p1_kind p1_minus p1_m p1_e p2_kind p2_minus p2_m p2_e p3_kind p3_minus p3_m p3_e v4 p0_left_size p0_left_limbs p0_right_size p0_right_limbs = some u → va_P D vwCl [(a_p0, .inr (2, [.ref a_p0_left, .ref a_p0_right])), (a_p0_left, .inr (5, [.ref a_p0_left_limbs, .int p0_left_size])), (a_p0_left_limbs, .inl (cJ, 160, .inr (.inl p0_left_limbs))), (a_p0_right, .inr (5, [.ref a_p0_right_limbs, .int p0_right_size])), (a_p0_right_limbs, .inl (cJ, 160, .inr (.inl p0_right_limbs))), (a_p1, .inr (9, [.int p1_kind, .int p1_minus, .long p1_m, .int p1_e, .int p1_narrowBelow])), (a_p2, .inr (9, [.int p2_kind, .int p2_minus, .long p2_m, .int p2_e, .int p2_narrowBelow])), (a_p3, .inr (9, [.int p3_kind, .int p3_minus, .long p3_m, .int p3_e, .int p3_narrowBelow]))] H → va_D A [(a_p0, .inr (2, [.ref a_p0_left, .ref a_p0_right])), (a_p0_left, .inr (5, [.ref a_p0_left_limbs, .int p0_left_size])), (a_p0_left_limbs, .inl (cJ, 160, .inr (.inl p0_left_limbs))), (a_p0_right, .inr (5, [.ref a_p0_right_limbs, .int p0_right_size])), (a_p0_right_limbs, .inl (cJ, 160, .inr (.inl p0_right_limbs))), (a_p1, .inr (9, [.int p1_kind, .int p1_minus, .long p1_m, .int p1_e, .int p1_narrowBelow])), (a_p2, .inr (9, [.int p2_kind, .int p2_minus, .long p2_m, .int p2_e, .int p2_narrowBelow])), (a_p3, .inr (9, [.int p3_kind, .int p3_minus, .long p3_m, .int p3_e, .int p3_narrowBelow]))] → va_S A s.heap H locs → lv_has ls 7 [(4, .int v4)] → W p l e (rmz 5 129) s m ar below meth c H locs 0 0 Q (F0 m 16 ls []) := by
    intro v4 p0_left_size p0_left_limbs p0_right_size p0_right_limbs H locs ls hf hP hD hS hl
    unfold f_X0_productAndSum_B16 at hf
    refine lv_iload hx hb dX0_productAndSum_16 (lv_at hl 0 rfl) ?_
    obtain ⟨u3, hu4, hf⟩ := bdE hf
    refine cS_L (ws' := [(a_p0, .inr (2, [.ref a_p0_left, .ref a_p0_right])), (a_p0_left, .inr (5, [.ref a_p0_left_limbs, .int p0_left_size])), (a_p0_left_limbs, .inl (cJ, 160, .inr (.inl p0_left_limbs))), (a_p0_right, .inr (5, [.ref a_p0_right_limbs, .int p0_right_size])), (a_p0_right_limbs, .inl (cJ, 160, .inr (.inl p0_right_limbs))), (a_p1, .inr (9, [.int p1_kind, .int p1_minus, .long p1_m, .int p1_e, .int p1_narrowBelow])), (a_p2, .inr (9, [.int p2_kind, .int p2_minus, .long p2_m, .int p2_e, .int p2_narrowBelow])), (a_p3, .inr (9, [.int p3_kind, .int p3_minus, .long p3_m, .int p3_e, .int p3_narrowBelow]))]) (rest := []) S hK hN hA hP hD hS (c_X2_none l D cI cJ  v4  u3 hu4) mwX2_none msX2_none kmX0_24 [] rfl (by decide) rfl rfl rfl ⟨Nat.le_of_ble_eq_true rfl, Nat.le_of_ble_eq_true rfl⟩ ⟨Nat.zero_le _, Nat.zero_le _⟩ hl.1 rfl rfl (Nat.le_of_ble_eq_true rfl) dX0_productAndSum_18 (fun H locs hP hD hS => ?_)
    exact hret _ (opE hf) H locs ls 21 dX0_productAndSum_21 hP hD hS
  have keyB76 : ∀ (v4 : Int32) (v5 : Int32) (s1 : Int32) (s2 : Int32) (p0_left_size : Int32) (p0_left_limbs : (Nat → Int64)) (p0_right_size : Int32) (p0_right_limbs : (Nat → Int64)) (H : Heap) (locs : List Loc) (ls : Array Slot), f_X0_productAndSum_B76 p1_kind p1_minus p1_m p1_e p2_kind p2_minus p2_m p2_e p3_kind p3_minus p3_m p3_e v4 v5 s1 s2 p0_left_size p0_left_limbs p0_right_size p0_right_limbs = some u → va_P D vwCl [(a_p0, .inr (2, [.ref a_p0_left, .ref a_p0_right])), (a_p0_left, .inr (5, [.ref a_p0_left_limbs, .int p0_left_size])), (a_p0_left_limbs, .inl (cJ, 160, .inr (.inl p0_left_limbs))), (a_p0_right, .inr (5, [.ref a_p0_right_limbs, .int p0_right_size])), (a_p0_right_limbs, .inl (cJ, 160, .inr (.inl p0_right_limbs))), (a_p1, .inr (9, [.int p1_kind, .int p1_minus, .long p1_m, .int p1_e, .int p1_narrowBelow])), (a_p2, .inr (9, [.int p2_kind, .int p2_minus, .long p2_m, .int p2_e, .int p2_narrowBelow])), (a_p3, .inr (9, [.int p3_kind, .int p3_minus, .long p3_m, .int p3_e, .int p3_narrowBelow]))] H → va_D A [(a_p0, .inr (2, [.ref a_p0_left, .ref a_p0_right])), (a_p0_left, .inr (5, [.ref a_p0_left_limbs, .int p0_left_size])), (a_p0_left_limbs, .inl (cJ, 160, .inr (.inl p0_left_limbs))), (a_p0_right, .inr (5, [.ref a_p0_right_limbs, .int p0_right_size])), (a_p0_right_limbs, .inl (cJ, 160, .inr (.inl p0_right_limbs))), (a_p1, .inr (9, [.int p1_kind, .int p1_minus, .long p1_m, .int p1_e, .int p1_narrowBelow])), (a_p2, .inr (9, [.int p2_kind, .int p2_minus, .long p2_m, .int p2_e, .int p2_narrowBelow])), (a_p3, .inr (9, [.int p3_kind, .int p3_minus, .long p3_m, .int p3_e, .int p3_narrowBelow]))] → va_S A s.heap H locs → lv_has ls 7 [(1, .ref a_p1), (2, .ref a_p2), (3, .ref a_p3), (4, .int v4), (5, .int v5)] → W p l e (rmz 5 129) s m ar below meth c H locs 0 0 Q (F0 m 76 ls [.int s2, .int s1, .ref a_p0]) := by
    intro v4 v5 s1 s2 p0_left_size p0_left_limbs p0_right_size p0_right_limbs H locs ls hf hP hD hS hl
    unfold f_X0_productAndSum_B76 at hf
    refine lv_aload_n hx hb dX0_productAndSum_76 rfl (lv_at hl 0 rfl) ?_
    refine va_get (D := D) (ci := 9) (v := .int p1_e) (C := RX8) (T := TX8) (N := 5) hx hb hts uwX8 hown hK hP 5 rfl rfl 3 (by decide) (hts _ kfX0_48) (fun _ h9 => h9) rfl dX0_productAndSum_77 ?_
    refine lv_aload_n hx hb dX0_productAndSum_80 rfl (lv_at hl 1 rfl) ?_
    refine va_get (D := D) (ci := 9) (v := .int p2_e) (C := RX8) (T := TX8) (N := 5) hx hb hts uwX8 hown hK hP 6 rfl rfl 3 (by decide) (hts _ kfX0_48) (fun _ h9 => h9) rfl dX0_productAndSum_81 ?_
    refine lv_iadd hx hb dX0_productAndSum_84 ?_
    refine lv_aload_n hx hb dX0_productAndSum_85 rfl (lv_at hl 2 rfl) ?_
    refine lv_iload hx hb dX0_productAndSum_86 (lv_at hl 3 rfl) ?_
    refine lv_iload hx hb dX0_productAndSum_88 (lv_at hl 4 rfl) ?_
    obtain ⟨u7, hu8, hf⟩ := bdE hf
    refine cV_L (ws' := [(a_p0, .inr (2, [.ref a_p0_left, .ref a_p0_right])), (a_p0_left, .inr (5, [.ref a_p0_left_limbs, .int u7.2.1])), (a_p0_left_limbs, .inl (cJ, 160, .inr (.inl u7.2.2.1))), (a_p0_right, .inr (5, [.ref a_p0_right_limbs, .int u7.2.2.2.1])), (a_p0_right_limbs, .inl (cJ, 160, .inr (.inl u7.2.2.2.2))), (a_p1, .inr (9, [.int p1_kind, .int p1_minus, .long p1_m, .int p1_e, .int p1_narrowBelow])), (a_p2, .inr (9, [.int p2_kind, .int p2_minus, .long p2_m, .int p2_e, .int p2_narrowBelow])), (a_p3, .inr (9, [.int p3_kind, .int p3_minus, .long p3_m, .int p3_e, .int p3_narrowBelow]))]) (rest := []) S hK hN hA hP hD hS (c_X0_leftAnd l D cI cJ a_p0 a_p0_left a_p0_right a_p0_left_limbs a_p0_right_limbs a_p3 s1 s2 (p1_e + p2_e) v4 v5 p0_left_size p0_left_limbs p0_right_size p0_right_limbs p3_kind p3_minus p3_m p3_e p3_narrowBelow u7 hu8) mwX0_leftAnd miX0_leftAnd kmX0_55 [0, 1, 2, 3, 4, 7] rfl (by decide) rfl rfl rfl 0 rfl rfl ⟨Nat.le_of_ble_eq_true rfl, Nat.le_of_ble_eq_true rfl⟩ ⟨Nat.zero_le _, Nat.zero_le _⟩ hl.1 rfl rfl (Nat.le_of_ble_eq_true rfl) dX0_productAndSum_90 (fun H locs hP hD hS => ?_)
    exact hret _ (opE hf) H locs ls 93 dX0_productAndSum_93 hP hD hS
  have keyB55 : ∀ (v4 : Int32) (v5 : Int32) (s0 : Int32) (p0_left_size : Int32) (p0_left_limbs : (Nat → Int64)) (p0_right_size : Int32) (p0_right_limbs : (Nat → Int64)) (H : Heap) (locs : List Loc) (ls : Array Slot), f_X0_productAndSum_B55 p1_kind p1_minus p1_m p1_e p2_kind p2_minus p2_m p2_e p3_kind p3_minus p3_m p3_e v4 v5 s0 p0_left_size p0_left_limbs p0_right_size p0_right_limbs = some u → va_P D vwCl [(a_p0, .inr (2, [.ref a_p0_left, .ref a_p0_right])), (a_p0_left, .inr (5, [.ref a_p0_left_limbs, .int p0_left_size])), (a_p0_left_limbs, .inl (cJ, 160, .inr (.inl p0_left_limbs))), (a_p0_right, .inr (5, [.ref a_p0_right_limbs, .int p0_right_size])), (a_p0_right_limbs, .inl (cJ, 160, .inr (.inl p0_right_limbs))), (a_p1, .inr (9, [.int p1_kind, .int p1_minus, .long p1_m, .int p1_e, .int p1_narrowBelow])), (a_p2, .inr (9, [.int p2_kind, .int p2_minus, .long p2_m, .int p2_e, .int p2_narrowBelow])), (a_p3, .inr (9, [.int p3_kind, .int p3_minus, .long p3_m, .int p3_e, .int p3_narrowBelow]))] H → va_D A [(a_p0, .inr (2, [.ref a_p0_left, .ref a_p0_right])), (a_p0_left, .inr (5, [.ref a_p0_left_limbs, .int p0_left_size])), (a_p0_left_limbs, .inl (cJ, 160, .inr (.inl p0_left_limbs))), (a_p0_right, .inr (5, [.ref a_p0_right_limbs, .int p0_right_size])), (a_p0_right_limbs, .inl (cJ, 160, .inr (.inl p0_right_limbs))), (a_p1, .inr (9, [.int p1_kind, .int p1_minus, .long p1_m, .int p1_e, .int p1_narrowBelow])), (a_p2, .inr (9, [.int p2_kind, .int p2_minus, .long p2_m, .int p2_e, .int p2_narrowBelow])), (a_p3, .inr (9, [.int p3_kind, .int p3_minus, .long p3_m, .int p3_e, .int p3_narrowBelow]))] → va_S A s.heap H locs → lv_has ls 7 [(0, .ref a_p0), (1, .ref a_p1), (2, .ref a_p2), (3, .ref a_p3), (4, .int v4), (5, .int v5)] → W p l e (rmz 5 129) s m ar below meth c H locs 0 0 Q (F0 m 55 ls [.int s0]) := by
    intro v4 v5 s0 p0_left_size p0_left_limbs p0_right_size p0_right_limbs H locs ls hf hP hD hS hl
    unfold f_X0_productAndSum_B55 at hf
    refine lv_istore (lv' := [(6, .int s0), (0, .ref a_p0), (1, .ref a_p1), (2, .ref a_p2), (3, .ref a_p3), (4, .int v4), (5, .int v5)]) hx hb dX0_productAndSum_55 hl (by decide) rfl (fun ls hl => ?_)
    refine lv_aload_n hx hb dX0_productAndSum_57 rfl (lv_at hl 1 rfl) ?_
    refine lv_iload hx hb dX0_productAndSum_58 (lv_at hl 0 rfl) ?_
    refine lv_aload_n hx hb dX0_productAndSum_60 rfl (lv_at hl 2 rfl) ?_
    refine va_get (D := D) (ci := 9) (v := .int p1_minus) (C := RX8) (T := TX8) (N := 5) hx hb hts uwX8 hown hK hP 5 rfl rfl 1 (by decide) (hts _ kfX0_30) (fun _ h9 => h9) rfl dX0_productAndSum_61 ?_
    refine lv_aload_n hx hb dX0_productAndSum_64 rfl (lv_at hl 3 rfl) ?_
    refine va_get (D := D) (ci := 9) (v := .int p2_minus) (C := RX8) (T := TX8) (N := 5) hx hb hts uwX8 hown hK hP 6 rfl rfl 1 (by decide) (hts _ kfX0_30) (fun _ h9 => h9) rfl dX0_productAndSum_65 ?_
    refine lv_icmp_eq (tgt := 75) hx hb dX0_productAndSum_68 (by decide) (fun hc9 => ?_) (fun hc9 => ?_)
    · have hf := ifT hc9 hf
      refine lv_iconst (v := 0) hx hb dX0_productAndSum_75 (by decide) ?_
      exact keyB76 v4 v5 s0 (0 : Int32) p0_left_size p0_left_limbs p0_right_size p0_right_limbs H locs ls hf hP hD hS (lv_sub hl [2, 3, 4, 5, 6] rfl)
    · have hf := ifF hc9 hf
      refine lv_iconst (v := 1) hx hb dX0_productAndSum_71 (by decide) ?_
      refine lv_goto (tgt := 76) hx hb dX0_productAndSum_72 (by decide) ?_
      exact keyB76 v4 v5 s0 (1 : Int32) p0_left_size p0_left_limbs p0_right_size p0_right_limbs H locs ls hf hP hD hS (lv_sub hl [2, 3, 4, 5, 6] rfl)
  have keyB50 : ∀ (v4 : Int32) (v5 : Int32) (p0_left_size : Int32) (p0_left_limbs : (Nat → Int64)) (p0_right_size : Int32) (p0_right_limbs : (Nat → Int64)) (H : Heap) (locs : List Loc) (ls : Array Slot), f_X0_productAndSum_B50 p1_kind p1_minus p1_m p1_e p2_kind p2_minus p2_m p2_e p3_kind p3_minus p3_m p3_e v4 v5 p0_left_size p0_left_limbs p0_right_size p0_right_limbs = some u → va_P D vwCl [(a_p0, .inr (2, [.ref a_p0_left, .ref a_p0_right])), (a_p0_left, .inr (5, [.ref a_p0_left_limbs, .int p0_left_size])), (a_p0_left_limbs, .inl (cJ, 160, .inr (.inl p0_left_limbs))), (a_p0_right, .inr (5, [.ref a_p0_right_limbs, .int p0_right_size])), (a_p0_right_limbs, .inl (cJ, 160, .inr (.inl p0_right_limbs))), (a_p1, .inr (9, [.int p1_kind, .int p1_minus, .long p1_m, .int p1_e, .int p1_narrowBelow])), (a_p2, .inr (9, [.int p2_kind, .int p2_minus, .long p2_m, .int p2_e, .int p2_narrowBelow])), (a_p3, .inr (9, [.int p3_kind, .int p3_minus, .long p3_m, .int p3_e, .int p3_narrowBelow]))] H → va_D A [(a_p0, .inr (2, [.ref a_p0_left, .ref a_p0_right])), (a_p0_left, .inr (5, [.ref a_p0_left_limbs, .int p0_left_size])), (a_p0_left_limbs, .inl (cJ, 160, .inr (.inl p0_left_limbs))), (a_p0_right, .inr (5, [.ref a_p0_right_limbs, .int p0_right_size])), (a_p0_right_limbs, .inl (cJ, 160, .inr (.inl p0_right_limbs))), (a_p1, .inr (9, [.int p1_kind, .int p1_minus, .long p1_m, .int p1_e, .int p1_narrowBelow])), (a_p2, .inr (9, [.int p2_kind, .int p2_minus, .long p2_m, .int p2_e, .int p2_narrowBelow])), (a_p3, .inr (9, [.int p3_kind, .int p3_minus, .long p3_m, .int p3_e, .int p3_narrowBelow]))] → va_S A s.heap H locs → lv_has ls 7 [(0, .ref a_p0), (1, .ref a_p1), (2, .ref a_p2), (3, .ref a_p3), (4, .int v4), (5, .int v5)] → W p l e (rmz 5 129) s m ar below meth c H locs 0 0 Q (F0 m 50 ls []) := by
    intro v4 v5 p0_left_size p0_left_limbs p0_right_size p0_right_limbs H locs ls hf hP hD hS hl
    unfold f_X0_productAndSum_B50 at hf
    refine lv_iconst (v := 1) hx hb dX0_productAndSum_50 (by decide) ?_
    refine lv_goto (tgt := 55) hx hb dX0_productAndSum_51 (by decide) ?_
    exact keyB55 v4 v5 (1 : Int32) p0_left_size p0_left_limbs p0_right_size p0_right_limbs H locs ls hf hP hD hS (lv_sub hl [0, 1, 2, 3, 4, 5] rfl)
  unfold f_X0_productAndSum at hf
  refine lv_aload_n hx hb dX0_productAndSum_0 rfl (lv_at hl 1 rfl) ?_
  refine lv_aload_n hx hb dX0_productAndSum_1 rfl (lv_at hl 2 rfl) ?_
  obtain ⟨u1, hu2, hf⟩ := bdE hf
  refine cS_I (ws' := [(a_p0, .inr (2, [.ref a_p0_left, .ref a_p0_right])), (a_p0_left, .inr (5, [.ref a_p0_left_limbs, .int p0_left_size])), (a_p0_left_limbs, .inl (cJ, 160, .inr (.inl p0_left_limbs))), (a_p0_right, .inr (5, [.ref a_p0_right_limbs, .int p0_right_size])), (a_p0_right_limbs, .inl (cJ, 160, .inr (.inl p0_right_limbs))), (a_p1, .inr (9, [.int p1_kind, .int p1_minus, .long p1_m, .int p1_e, .int p1_narrowBelow])), (a_p2, .inr (9, [.int p2_kind, .int p2_minus, .long p2_m, .int p2_e, .int p2_narrowBelow])), (a_p3, .inr (9, [.int p3_kind, .int p3_minus, .long p3_m, .int p3_e, .int p3_narrowBelow]))]) (rest := []) S hK hN hA hP hD hS (c_X0_hasNoProduct l D cI cJ a_p1 a_p2  p1_kind p1_minus p1_m p1_e p1_narrowBelow p2_kind p2_minus p2_m p2_e p2_narrowBelow u1 hu2) mwX0_hasNoProduct msX0_hasNoProduct kmX0_59 [5, 6] rfl (by decide) rfl rfl rfl ⟨Nat.le_of_ble_eq_true rfl, Nat.le_of_ble_eq_true rfl⟩ ⟨Nat.zero_le _, Nat.zero_le _⟩ hl.1 rfl rfl (Nat.le_of_ble_eq_true rfl) dX0_productAndSum_2 (fun H locs hP hD hS => ?_)
  refine lv_if_ne (tgt := 16) hx hb dX0_productAndSum_5 (by decide) (fun hc13 => ?_) (fun hc13 => ?_)
  · have hf := ifF hc13 hf
    exact keyB16 p4 p0_left_size p0_left_limbs p0_right_size p0_right_limbs H locs ls hf hP hD hS (lv_sub hl [4] rfl)
  · have hf := ifT hc13 hf
    refine lv_aload_n hx hb dX0_productAndSum_8 rfl (lv_at hl 3 rfl) ?_
    refine va_get (D := D) (ci := 9) (v := .int p3_kind) (C := RX8) (T := TX8) (N := 5) hx hb hts uwX8 hown hK hP 7 rfl rfl 0 (by decide) (hts _ kfX0_18) (fun _ h9 => h9) rfl dX0_productAndSum_9 ?_
    refine lv_iconst (v := 4) hx hb dX0_productAndSum_12 (by decide) ?_
    refine lv_icmp_ne (tgt := 22) hx hb dX0_productAndSum_13 (by decide) (fun hc12 => ?_) (fun hc12 => ?_)
    · have hf := ifF hc12 hf
      refine lv_aload_n hx hb dX0_productAndSum_22 rfl (lv_at hl 0 rfl) ?_
      refine lv_aload_n hx hb dX0_productAndSum_23 rfl (lv_at hl 1 rfl) ?_
      refine va_get (D := D) (ci := 9) (v := .long p1_m) (C := RX8) (T := TX8) (N := 5) hx hb hts uwX8 hown hK hP 5 rfl rfl 2 (by decide) (hts _ kfX0_38) (fun _ h9 => h9) rfl dX0_productAndSum_24 ?_
      refine lv_aload_n hx hb dX0_productAndSum_27 rfl (lv_at hl 2 rfl) ?_
      refine va_get (D := D) (ci := 9) (v := .long p2_m) (C := RX8) (T := TX8) (N := 5) hx hb hts uwX8 hown hK hP 6 rfl rfl 2 (by decide) (hts _ kfX0_38) (fun _ h9 => h9) rfl dX0_productAndSum_28 ?_
      obtain ⟨u5, hu6, hf⟩ := bdE hf
      refine cV_V (ws' := [(a_p0, .inr (2, [.ref a_p0_left, .ref a_p0_right])), (a_p0_left, .inr (5, [.ref a_p0_left_limbs, .int u5.1])), (a_p0_left_limbs, .inl (cJ, 160, .inr (.inl u5.2.1))), (a_p0_right, .inr (5, [.ref a_p0_right_limbs, .int u5.2.2.1])), (a_p0_right_limbs, .inl (cJ, 160, .inr (.inl u5.2.2.2))), (a_p1, .inr (9, [.int p1_kind, .int p1_minus, .long p1_m, .int p1_e, .int p1_narrowBelow])), (a_p2, .inr (9, [.int p2_kind, .int p2_minus, .long p2_m, .int p2_e, .int p2_narrowBelow])), (a_p3, .inr (9, [.int p3_kind, .int p3_minus, .long p3_m, .int p3_e, .int p3_narrowBelow]))]) (rest := []) S hK hN hA hP hD hS (c_X0_multiply l D cI cJ a_p0 a_p0_left a_p0_right a_p0_left_limbs a_p0_right_limbs p1_m p2_m p0_left_size p0_left_limbs p0_right_size p0_right_limbs u5 hu6) mwX0_multiply miX0_multiply kmX0_63 [0, 1, 2, 3, 4] rfl (by decide) rfl rfl rfl 0 rfl rfl ⟨Nat.le_of_ble_eq_true rfl, Nat.le_of_ble_eq_true rfl⟩ ⟨Nat.zero_le _, Nat.zero_le _⟩ hl.1 rfl rfl (Nat.le_of_ble_eq_true rfl) dX0_productAndSum_31 (fun H locs hP hD hS => ?_)
      refine lv_aload_n hx hb dX0_productAndSum_34 rfl (lv_at hl 1 rfl) ?_
      refine va_get (D := D) (ci := 9) (v := .int p1_kind) (C := RX8) (T := TX8) (N := 5) hx hb hts uwX8 hown hK hP 5 rfl rfl 0 (by decide) (hts _ kfX0_18) (fun _ h9 => h9) rfl dX0_productAndSum_35 ?_
      refine lv_iconst (v := 3) hx hb dX0_productAndSum_38 (by decide) ?_
      refine lv_icmp_eq (tgt := 50) hx hb dX0_productAndSum_39 (by decide) (fun hc11 => ?_) (fun hc11 => ?_)
      · have hf := ifT hc11 hf
        exact keyB50 p4 p5 u5.1 u5.2.1 u5.2.2.1 u5.2.2.2 H locs ls hf hP hD hS (lv_sub hl [0, 1, 2, 3, 4, 5] rfl)
      · have hf := ifF hc11 hf
        refine lv_aload_n hx hb dX0_productAndSum_42 rfl (lv_at hl 2 rfl) ?_
        refine va_get (D := D) (ci := 9) (v := .int p2_kind) (C := RX8) (T := TX8) (N := 5) hx hb hts uwX8 hown hK hP 6 rfl rfl 0 (by decide) (hts _ kfX0_18) (fun _ h9 => h9) rfl dX0_productAndSum_43 ?_
        refine lv_iconst (v := 3) hx hb dX0_productAndSum_46 (by decide) ?_
        refine lv_icmp_ne (tgt := 54) hx hb dX0_productAndSum_47 (by decide) (fun hc10 => ?_) (fun hc10 => ?_)
        · have hf := ifF hc10 hf
          refine lv_iconst (v := 0) hx hb dX0_productAndSum_54 (by decide) ?_
          exact keyB55 p4 p5 (0 : Int32) u5.1 u5.2.1 u5.2.2.1 u5.2.2.2 H locs ls hf hP hD hS (lv_sub hl [0, 1, 2, 3, 4, 5] rfl)
        · have hf := ifT hc10 hf
          exact keyB50 p4 p5 u5.1 u5.2.1 u5.2.2.1 u5.2.2.2 H locs ls hf hP hD hS (lv_sub hl [0, 1, 2, 3, 4, 5] rfl)
    · have hf := ifT hc12 hf
      exact keyB16 p4 p0_left_size p0_left_limbs p0_right_size p0_right_limbs H locs ls hf hP hD hS (lv_sub hl [4] rfl)
set_option maxRecDepth 100000 in
set_option maxHeartbeats 4000000 in
theorem c_X0_divided (l : Launch) (D : va_G) (cI cJ : ClassId) (a_p0 a_p0_left a_p0_right a_p0_left_limbs a_p0_right_limbs : Nat) (p1 : Int32) (p2 : Int32) (p3 : Int32) (p4 : Int32) (p0_left_size : Int32) (p0_left_limbs : (Nat → Int64)) (p0_right_size : Int32) (p0_right_limbs : (Nat → Int64)) (u : Int64 × Int32 × (Nat → Int64) × Int32 × (Nat → Int64)) (hf : f_X0_divided p1 p2 p3 p4 p0_left_size p0_left_limbs p0_right_size p0_right_limbs = some u) : CtL l yX0_divided cX0_divided 9 4 101 [.ref a_p0, .int p1, .int p2, .int p3, .int p4] D cI cJ [(a_p0, .inr (2, [.ref a_p0_left, .ref a_p0_right])), (a_p0_left, .inr (5, [.ref a_p0_left_limbs, .int p0_left_size])), (a_p0_left_limbs, .inl (cJ, 160, .inr (.inl p0_left_limbs))), (a_p0_right, .inr (5, [.ref a_p0_right_limbs, .int p0_right_size])), (a_p0_right_limbs, .inl (cJ, 160, .inr (.inl p0_right_limbs)))] [(a_p0, .inr (2, [.ref a_p0_left, .ref a_p0_right])), (a_p0_left, .inr (5, [.ref a_p0_left_limbs, .int u.2.1])), (a_p0_left_limbs, .inl (cJ, 160, .inr (.inl u.2.2.1))), (a_p0_right, .inr (5, [.ref a_p0_right_limbs, .int u.2.2.2.1])), (a_p0_right_limbs, .inl (cJ, 160, .inr (.inl u.2.2.2.2)))] u.1 := by
  refine mkL (own := RX0) rfl (by decide +kernel) (Nat.le_of_ble_eq_true rfl) (lv := [(0, .ref a_p0), (1, .int p1), (2, .int p2), (3, .int p3), (4, .int p4)]) rfl ?_
  intro p e s m below meth c Q A ls ar S hA hK hN hret H locs hP hD hS hl
  obtain ⟨hx, hb, hml, hown, hts⟩ := id S
  have hret : ∀ (w : Int64 × Int32 × (Nat → Int64) × Int32 × (Nat → Int64)), w = u → ∀ (H : Heap) (locs : List Loc) (ls : Array Slot) (pc : Nat), decode cX0_divided pc = .ok (.lreturn, 1) → va_P D vwCl [(a_p0, .inr (2, [.ref a_p0_left, .ref a_p0_right])), (a_p0_left, .inr (5, [.ref a_p0_left_limbs, .int w.2.1])), (a_p0_left_limbs, .inl (cJ, 160, .inr (.inl w.2.2.1))), (a_p0_right, .inr (5, [.ref a_p0_right_limbs, .int w.2.2.2.1])), (a_p0_right_limbs, .inl (cJ, 160, .inr (.inl w.2.2.2.2)))] H → va_D A [(a_p0, .inr (2, [.ref a_p0_left, .ref a_p0_right])), (a_p0_left, .inr (5, [.ref a_p0_left_limbs, .int w.2.1])), (a_p0_left_limbs, .inl (cJ, 160, .inr (.inl w.2.2.1))), (a_p0_right, .inr (5, [.ref a_p0_right_limbs, .int w.2.2.2.1])), (a_p0_right_limbs, .inl (cJ, 160, .inr (.inl w.2.2.2.2)))] → va_S A s.heap H locs → W p l e (rmz 4 101) s m ar below meth c H locs 0 0 Q (F0 m pc ls [.long w.1]) := fun w hw => hw ▸ hret
  have keyB115 : ∀ (v1 : Int32) (v2 : Int32) (v3 : Int32) (v4 : Int32) (v5 : Int32) (v6 : Int64) (s0 : Int32) (p0_left_size : Int32) (p0_left_limbs : (Nat → Int64)) (p0_right_size : Int32) (p0_right_limbs : (Nat → Int64)) (H : Heap) (locs : List Loc) (ls : Array Slot), f_X0_divided_B115 v1 v2 v3 v4 v5 v6 s0 p0_left_size p0_left_limbs p0_right_size p0_right_limbs = some u → va_P D vwCl [(a_p0, .inr (2, [.ref a_p0_left, .ref a_p0_right])), (a_p0_left, .inr (5, [.ref a_p0_left_limbs, .int p0_left_size])), (a_p0_left_limbs, .inl (cJ, 160, .inr (.inl p0_left_limbs))), (a_p0_right, .inr (5, [.ref a_p0_right_limbs, .int p0_right_size])), (a_p0_right_limbs, .inl (cJ, 160, .inr (.inl p0_right_limbs)))] H → va_D A [(a_p0, .inr (2, [.ref a_p0_left, .ref a_p0_right])), (a_p0_left, .inr (5, [.ref a_p0_left_limbs, .int p0_left_size])), (a_p0_left_limbs, .inl (cJ, 160, .inr (.inl p0_left_limbs))), (a_p0_right, .inr (5, [.ref a_p0_right_limbs, .int p0_right_size])), (a_p0_right_limbs, .inl (cJ, 160, .inr (.inl p0_right_limbs)))] → va_S A s.heap H locs → lv_has ls 9 [(0, .ref a_p0), (1, .int v1), (2, .int v2), (3, .int v3), (4, .int v4), (5, .int v5), (6, .long v6)] → W p l e (rmz 4 101) s m ar below meth c H locs 0 0 Q (F0 m 115 ls [.int s0]) := by
    intro v1 v2 v3 v4 v5 v6 s0 p0_left_size p0_left_limbs p0_right_size p0_right_limbs H locs ls hf hP hD hS hl
    unfold f_X0_divided_B115 at hf
    refine lv_istore (lv' := [(8, .int s0), (0, .ref a_p0), (1, .int v1), (2, .int v2), (3, .int v3), (4, .int v4), (5, .int v5), (6, .long v6)]) hx hb dX0_divided_115 hl (by decide) rfl (fun ls hl => ?_)
    refine lv_aload_n hx hb dX0_divided_117 rfl (lv_at hl 1 rfl) ?_
    refine va_get (D := D) (ci := 2) (v := .ref a_p0_left) (C := RX0) (T := TX0) (N := 2) hx hb hts uwX0 hown hK hP 0 rfl rfl 0 (by decide) (hts _ kfX0_9) (fun _ h9 => h9) rfl dX0_divided_118 ?_
    refine lv_lload hx hb dX0_divided_121 (lv_at hl 7 rfl) ?_
    obtain ⟨u11, hu12, hf⟩ := bdE hf
    refine cV_V (ws' := [(a_p0, .inr (2, [.ref a_p0_left, .ref a_p0_right])), (a_p0_left, .inr (5, [.ref a_p0_left_limbs, .int u11.1])), (a_p0_left_limbs, .inl (cJ, 160, .inr (.inl u11.2))), (a_p0_right, .inr (5, [.ref a_p0_right_limbs, .int p0_right_size])), (a_p0_right_limbs, .inl (cJ, 160, .inr (.inl p0_right_limbs)))]) (rest := []) S hK hN hA hP hD hS (c_X4_take l D cI cJ a_p0_left a_p0_left_limbs v6 p0_left_size p0_left_limbs u11 hu12) mwX4_take miX4_take kmX0_42 [1, 2] rfl (by decide) rfl rfl rfl 0 rfl rfl ⟨Nat.le_of_ble_eq_true rfl, Nat.le_of_ble_eq_true rfl⟩ ⟨Nat.zero_le _, Nat.zero_le _⟩ hl.1 rfl rfl (Nat.le_of_ble_eq_true rfl) dX0_divided_123 (fun H locs hP hD hS => ?_)
    refine lv_iload_n hx hb dX0_divided_126 rfl (lv_at hl 2 rfl) ?_
    refine lv_aload_n hx hb dX0_divided_127 rfl (lv_at hl 1 rfl) ?_
    refine va_get (D := D) (ci := 2) (v := .ref a_p0_left) (C := RX0) (T := TX0) (N := 2) hx hb hts uwX0 hown hK hP 0 rfl rfl 0 (by decide) (hts _ kfX0_9) (fun _ h9 => h9) rfl dX0_divided_128 ?_
    refine lv_iload_n hx hb dX0_divided_131 rfl (lv_at hl 3 rfl) ?_
    refine lv_iload hx hb dX0_divided_132 (lv_at hl 6 rfl) ?_
    refine lv_iadd hx hb dX0_divided_134 ?_
    refine lv_bipush (v := 57) hx hb dX0_divided_135 (by decide) ?_
    refine lv_isub hx hb dX0_divided_137 ?_
    refine lv_iload hx hb dX0_divided_138 (lv_at hl 0 rfl) ?_
    refine lv_iload_n hx hb dX0_divided_140 rfl (lv_at hl 4 rfl) ?_
    refine lv_iload hx hb dX0_divided_141 (lv_at hl 5 rfl) ?_
    obtain ⟨u13, hu14, hf⟩ := bdE hf
    refine cS_L (ws' := [(a_p0, .inr (2, [.ref a_p0_left, .ref a_p0_right])), (a_p0_left, .inr (5, [.ref a_p0_left_limbs, .int u11.1])), (a_p0_left_limbs, .inl (cJ, 160, .inr (.inl u11.2))), (a_p0_right, .inr (5, [.ref a_p0_right_limbs, .int p0_right_size])), (a_p0_right_limbs, .inl (cJ, 160, .inr (.inl p0_right_limbs)))]) (rest := []) S hK hN hA hP hD hS (c_X0_rounded l D cI cJ a_p0_left a_p0_left_limbs v1 ((v2 + v5) - (57 : Int32)) s0 v3 v4 u11.1 u11.2 u13 hu14) mwX0_rounded msX0_rounded kmX0_51 [1, 2] rfl (by decide) rfl rfl rfl ⟨Nat.le_of_ble_eq_true rfl, Nat.le_of_ble_eq_true rfl⟩ ⟨Nat.zero_le _, Nat.zero_le _⟩ hl.1 rfl rfl (Nat.le_of_ble_eq_true rfl) dX0_divided_143 (fun H locs hP hD hS => ?_)
    exact hret _ (opE hf) H locs ls 146 dX0_divided_146 hP hD hS
  have keyB100 : ∀ (v1 : Int32) (v2 : Int32) (v3 : Int32) (v4 : Int32) (v5 : Int32) (v6 : Int64) (p0_left_size : Int32) (p0_left_limbs : (Nat → Int64)) (p0_right_size : Int32) (p0_right_limbs : (Nat → Int64)) (H : Heap) (locs : List Loc) (ls : Array Slot), f_X0_divided_B100 v1 v2 v3 v4 v5 v6 p0_left_size p0_left_limbs p0_right_size p0_right_limbs = some u → va_P D vwCl [(a_p0, .inr (2, [.ref a_p0_left, .ref a_p0_right])), (a_p0_left, .inr (5, [.ref a_p0_left_limbs, .int p0_left_size])), (a_p0_left_limbs, .inl (cJ, 160, .inr (.inl p0_left_limbs))), (a_p0_right, .inr (5, [.ref a_p0_right_limbs, .int p0_right_size])), (a_p0_right_limbs, .inl (cJ, 160, .inr (.inl p0_right_limbs)))] H → va_D A [(a_p0, .inr (2, [.ref a_p0_left, .ref a_p0_right])), (a_p0_left, .inr (5, [.ref a_p0_left_limbs, .int p0_left_size])), (a_p0_left_limbs, .inl (cJ, 160, .inr (.inl p0_left_limbs))), (a_p0_right, .inr (5, [.ref a_p0_right_limbs, .int p0_right_size])), (a_p0_right_limbs, .inl (cJ, 160, .inr (.inl p0_right_limbs)))] → va_S A s.heap H locs → lv_has ls 9 [(0, .ref a_p0), (1, .int v1), (2, .int v2), (3, .int v3), (4, .int v4), (5, .int v5), (6, .long v6)] → W p l e (rmz 4 101) s m ar below meth c H locs 0 0 Q (F0 m 100 ls []) := by
    intro v1 v2 v3 v4 v5 v6 p0_left_size p0_left_limbs p0_right_size p0_right_limbs H locs ls hf hP hD hS hl
    unfold f_X0_divided_B100 at hf
    refine lv_aload_n hx hb dX0_divided_100 rfl (lv_at hl 0 rfl) ?_
    refine va_get (D := D) (ci := 2) (v := .ref a_p0_left) (C := RX0) (T := TX0) (N := 2) hx hb hts uwX0 hown hK hP 0 rfl rfl 0 (by decide) (hts _ kfX0_9) (fun _ h9 => h9) rfl dX0_divided_101 ?_
    obtain ⟨u9, hu10, hf⟩ := bdE hf
    refine cV_I (ws' := [(a_p0, .inr (2, [.ref a_p0_left, .ref a_p0_right])), (a_p0_left, .inr (5, [.ref a_p0_left_limbs, .int p0_left_size])), (a_p0_left_limbs, .inl (cJ, 160, .inr (.inl p0_left_limbs))), (a_p0_right, .inr (5, [.ref a_p0_right_limbs, .int p0_right_size])), (a_p0_right_limbs, .inl (cJ, 160, .inr (.inl p0_right_limbs)))]) (rest := []) S hK hN hA hP hD hS (c_X4_isNought l D cI cJ a_p0_left a_p0_left_limbs  p0_left_size u9 hu10) mwX4_isNought miX4_isNought kmX0_92 [1] rfl (by decide) rfl rfl rfl 0 rfl rfl ⟨Nat.le_of_ble_eq_true rfl, Nat.le_of_ble_eq_true rfl⟩ ⟨Nat.zero_le _, Nat.zero_le _⟩ hl.1 rfl rfl (Nat.le_of_ble_eq_true rfl) dX0_divided_104 (fun H locs hP hD hS => ?_)
    refine lv_if_ne (tgt := 114) hx hb dX0_divided_107 (by decide) (fun hc15 => ?_) (fun hc15 => ?_)
    · have hf := ifF hc15 hf
      refine lv_iconst (v := 0) hx hb dX0_divided_114 (by decide) ?_
      exact keyB115 v1 v2 v3 v4 v5 v6 (0 : Int32) p0_left_size p0_left_limbs p0_right_size p0_right_limbs H locs ls hf hP hD hS (lv_sub hl [0, 1, 2, 3, 4, 5, 6] rfl)
    · have hf := ifT hc15 hf
      refine lv_iconst (v := 1) hx hb dX0_divided_110 (by decide) ?_
      refine lv_goto (tgt := 115) hx hb dX0_divided_111 (by decide) ?_
      exact keyB115 v1 v2 v3 v4 v5 v6 (1 : Int32) p0_left_size p0_left_limbs p0_right_size p0_right_limbs H locs ls hf hP hD hS (lv_sub hl [0, 1, 2, 3, 4, 5, 6] rfl)
  have keyB86 : ∀ (kL42 : Int32 → Int32 → Int32 → Int32 → Int32 → Int64 → Int32 → Int32 → (Nat → Int64) → Int32 → (Nat → Int64) → Option (Int64 × Int32 × (Nat → Int64) × Int32 × (Nat → Int64))) (hL42 : ∀ (v1 : Int32) (v2 : Int32) (v3 : Int32) (v4 : Int32) (v5 : Int32) (v6 : Int64) (v8 : Int32) (p0_left_size : Int32) (p0_left_limbs : (Nat → Int64)) (p0_right_size : Int32) (p0_right_limbs : (Nat → Int64)) (H : Heap) (locs : List Loc) (ls : Array Slot), kL42 v1 v2 v3 v4 v5 v6 v8 p0_left_size p0_left_limbs p0_right_size p0_right_limbs = some u → va_P D vwCl [(a_p0, .inr (2, [.ref a_p0_left, .ref a_p0_right])), (a_p0_left, .inr (5, [.ref a_p0_left_limbs, .int p0_left_size])), (a_p0_left_limbs, .inl (cJ, 160, .inr (.inl p0_left_limbs))), (a_p0_right, .inr (5, [.ref a_p0_right_limbs, .int p0_right_size])), (a_p0_right_limbs, .inl (cJ, 160, .inr (.inl p0_right_limbs)))] H → va_D A [(a_p0, .inr (2, [.ref a_p0_left, .ref a_p0_right])), (a_p0_left, .inr (5, [.ref a_p0_left_limbs, .int p0_left_size])), (a_p0_left_limbs, .inl (cJ, 160, .inr (.inl p0_left_limbs))), (a_p0_right, .inr (5, [.ref a_p0_right_limbs, .int p0_right_size])), (a_p0_right_limbs, .inl (cJ, 160, .inr (.inl p0_right_limbs)))] → va_S A s.heap H locs → lv_has ls 9 [(0, .ref a_p0), (1, .int v1), (2, .int v2), (3, .int v3), (4, .int v4), (5, .int v5), (6, .long v6), (8, .int v8)] → W p l e (rmz 4 101) s m ar below meth c H locs 0 0 Q (F0 m 42 ls [])) (v1 : Int32) (v2 : Int32) (v3 : Int32) (v4 : Int32) (v5 : Int32) (v6 : Int64) (v8 : Int32) (p0_left_size : Int32) (p0_left_limbs : (Nat → Int64)) (p0_right_size : Int32) (p0_right_limbs : (Nat → Int64)) (H : Heap) (locs : List Loc) (ls : Array Slot), f_X0_divided_B86 kL42 v1 v2 v3 v4 v5 v6 v8 p0_left_size p0_left_limbs p0_right_size p0_right_limbs = some u → va_P D vwCl [(a_p0, .inr (2, [.ref a_p0_left, .ref a_p0_right])), (a_p0_left, .inr (5, [.ref a_p0_left_limbs, .int p0_left_size])), (a_p0_left_limbs, .inl (cJ, 160, .inr (.inl p0_left_limbs))), (a_p0_right, .inr (5, [.ref a_p0_right_limbs, .int p0_right_size])), (a_p0_right_limbs, .inl (cJ, 160, .inr (.inl p0_right_limbs)))] H → va_D A [(a_p0, .inr (2, [.ref a_p0_left, .ref a_p0_right])), (a_p0_left, .inr (5, [.ref a_p0_left_limbs, .int p0_left_size])), (a_p0_left_limbs, .inl (cJ, 160, .inr (.inl p0_left_limbs))), (a_p0_right, .inr (5, [.ref a_p0_right_limbs, .int p0_right_size])), (a_p0_right_limbs, .inl (cJ, 160, .inr (.inl p0_right_limbs)))] → va_S A s.heap H locs → lv_has ls 9 [(0, .ref a_p0), (1, .int v1), (2, .int v2), (3, .int v3), (4, .int v4), (5, .int v5), (6, .long v6), (8, .int v8)] → W p l e (rmz 4 101) s m ar below meth c H locs 0 0 Q (F0 m 86 ls []) := by
    intro kL42 hL42 v1 v2 v3 v4 v5 v6 v8 p0_left_size p0_left_limbs p0_right_size p0_right_limbs H locs ls hf hP hD hS hl
    unfold f_X0_divided_B86 at hf
    refine lv_aload_n hx hb dX0_divided_86 rfl (lv_at hl 0 rfl) ?_
    refine va_get (D := D) (ci := 2) (v := .ref a_p0_left) (C := RX0) (T := TX0) (N := 2) hx hb hts uwX0 hown hK hP 0 rfl rfl 0 (by decide) (hts _ kfX0_9) (fun _ h9 => h9) rfl dX0_divided_87 ?_
    refine lv_iconst (v := 1) hx hb dX0_divided_90 (by decide) ?_
    obtain ⟨u18, hu19, hf⟩ := bdE hf
    refine cV_V (ws' := [(a_p0, .inr (2, [.ref a_p0_left, .ref a_p0_right])), (a_p0_left, .inr (5, [.ref a_p0_left_limbs, .int u18.1])), (a_p0_left_limbs, .inl (cJ, 160, .inr (.inl u18.2))), (a_p0_right, .inr (5, [.ref a_p0_right_limbs, .int p0_right_size])), (a_p0_right_limbs, .inl (cJ, 160, .inr (.inl p0_right_limbs)))]) (rest := []) S hK hN hA hP hD hS (c_X4_shiftUp l D cI cJ a_p0_left a_p0_left_limbs (1 : Int32) p0_left_size p0_left_limbs u18 hu19) mwX4_shiftUp miX4_shiftUp kmX0_115 [1, 2] rfl (by decide) rfl rfl rfl 0 rfl rfl ⟨Nat.le_of_ble_eq_true rfl, Nat.le_of_ble_eq_true rfl⟩ ⟨Nat.zero_le _, Nat.zero_le _⟩ hl.1 rfl rfl (Nat.le_of_ble_eq_true rfl) dX0_divided_91 (fun H locs hP hD hS => ?_)
    refine lv_iinc (v := v8 + (1 : Int32)) (lv' := [(8, .int (v8 + (1 : Int32))), (0, .ref a_p0), (1, .int v1), (2, .int v2), (3, .int v3), (4, .int v4), (5, .int v5), (6, .long v6)]) hx hb dX0_divided_94 hl (k := 7) rfl (by rfl) (by decide) rfl (fun ls hl => ?_)
    refine lv_goto (tgt := 42) hx hb dX0_divided_97 (by decide) ?_
    exact hL42 v1 v2 v3 v4 v5 v6 (v8 + (1 : Int32)) u18.1 u18.2 p0_right_size p0_right_limbs H locs ls hf hP hD hS (lv_sub hl [1, 2, 3, 4, 5, 6, 7, 0] rfl)
  have keyL42 : ∀ (n : Nat) (v1 : Int32) (v2 : Int32) (v3 : Int32) (v4 : Int32) (v5 : Int32) (v6 : Int64) (v8 : Int32) (p0_left_size : Int32) (p0_left_limbs : (Nat → Int64)) (p0_right_size : Int32) (p0_right_limbs : (Nat → Int64)) (H : Heap) (locs : List Loc) (ls : Array Slot), f_X0_divided_L42 n v1 v2 v3 v4 v5 v6 v8 p0_left_size p0_left_limbs p0_right_size p0_right_limbs = some u → va_P D vwCl [(a_p0, .inr (2, [.ref a_p0_left, .ref a_p0_right])), (a_p0_left, .inr (5, [.ref a_p0_left_limbs, .int p0_left_size])), (a_p0_left_limbs, .inl (cJ, 160, .inr (.inl p0_left_limbs))), (a_p0_right, .inr (5, [.ref a_p0_right_limbs, .int p0_right_size])), (a_p0_right_limbs, .inl (cJ, 160, .inr (.inl p0_right_limbs)))] H → va_D A [(a_p0, .inr (2, [.ref a_p0_left, .ref a_p0_right])), (a_p0_left, .inr (5, [.ref a_p0_left_limbs, .int p0_left_size])), (a_p0_left_limbs, .inl (cJ, 160, .inr (.inl p0_left_limbs))), (a_p0_right, .inr (5, [.ref a_p0_right_limbs, .int p0_right_size])), (a_p0_right_limbs, .inl (cJ, 160, .inr (.inl p0_right_limbs)))] → va_S A s.heap H locs → lv_has ls 9 [(0, .ref a_p0), (1, .int v1), (2, .int v2), (3, .int v3), (4, .int v4), (5, .int v5), (6, .long v6), (8, .int v8)] → W p l e (rmz 4 101) s m ar below meth c H locs 0 0 Q (F0 m 42 ls []) := by
    intro n
    induction n with
      | zero =>
        intro v1 v2 v3 v4 v5 v6 v8 p0_left_size p0_left_limbs p0_right_size p0_right_limbs H locs ls hf
        cases hf
      | succ n ih =>
        intro v1 v2 v3 v4 v5 v6 v8 p0_left_size p0_left_limbs p0_right_size p0_right_limbs H locs ls hf hP hD hS hl
        rw [f_X0_divided_L42] at hf
        refine lv_iload hx hb dX0_divided_42 (lv_at hl 7 rfl) ?_
        refine lv_bipush (v := 58) hx hb dX0_divided_44 (by decide) ?_
        refine lv_icmp_ge (tgt := 100) hx hb dX0_divided_46 (by decide) (fun hc23 => ?_) (fun hc23 => ?_)
        · have hf := ifT hc23 hf
          exact keyB100 v1 v2 v3 v4 v5 v6 p0_left_size p0_left_limbs p0_right_size p0_right_limbs H locs ls hf hP hD hS (lv_sub hl [0, 1, 2, 3, 4, 5, 6] rfl)
        · have hf := ifF hc23 hf
          refine lv_lload hx hb dX0_divided_49 (lv_at hl 6 rfl) ?_
          refine lv_iconst (v := 1) hx hb dX0_divided_51 (by decide) ?_
          refine lv_lshl (v := lsh v6 (1 : Int32)) hx hb dX0_divided_52 rfl ?_
          refine lv_lstore (lv' := [(6, .long (lsh v6 (1 : Int32))), (0, .ref a_p0), (1, .int v1), (2, .int v2), (3, .int v3), (4, .int v4), (5, .int v5), (8, .int v8)]) hx hb dX0_divided_53 hl (by decide) rfl (fun ls hl => ?_)
          refine lv_aload_n hx hb dX0_divided_55 rfl (lv_at hl 1 rfl) ?_
          refine va_get (D := D) (ci := 2) (v := .ref a_p0_left) (C := RX0) (T := TX0) (N := 2) hx hb hts uwX0 hown hK hP 0 rfl rfl 0 (by decide) (hts _ kfX0_9) (fun _ h9 => h9) rfl dX0_divided_56 ?_
          refine lv_aload_n hx hb dX0_divided_59 rfl (lv_at hl 1 rfl) ?_
          refine va_get (D := D) (ci := 2) (v := .ref a_p0_right) (C := RX0) (T := TX0) (N := 2) hx hb hts uwX0 hown hK hP 0 rfl rfl 1 (by decide) (hts _ kfX0_15) (fun _ h9 => h9) rfl dX0_divided_60 ?_
          obtain ⟨u16, hu17, hf⟩ := bdE hf
          refine cV_I (ws' := [(a_p0, .inr (2, [.ref a_p0_left, .ref a_p0_right])), (a_p0_left, .inr (5, [.ref a_p0_left_limbs, .int p0_left_size])), (a_p0_left_limbs, .inl (cJ, 160, .inr (.inl p0_left_limbs))), (a_p0_right, .inr (5, [.ref a_p0_right_limbs, .int p0_right_size])), (a_p0_right_limbs, .inl (cJ, 160, .inr (.inl p0_right_limbs)))]) (rest := []) S hK hN hA hP hD hS (c_X4_comparedWith l D cI cJ a_p0_left a_p0_left_limbs a_p0_right a_p0_right_limbs  p0_left_size p0_left_limbs p0_right_size p0_right_limbs u16 hu17) mwX4_comparedWith miX4_comparedWith kmX0_129 [1, 2, 3, 4] rfl (by decide) rfl rfl rfl 0 rfl rfl ⟨Nat.le_of_ble_eq_true rfl, Nat.le_of_ble_eq_true rfl⟩ ⟨Nat.zero_le _, Nat.zero_le _⟩ hl.1 rfl rfl (Nat.le_of_ble_eq_true rfl) dX0_divided_63 (fun H locs hP hD hS => ?_)
          refine lv_if_lt (tgt := 86) hx hb dX0_divided_66 (by decide) (fun hc22 => ?_) (fun hc22 => ?_)
          · have hf := ifT hc22 hf
            exact keyB86 (f_X0_divided_L42 n) ih v1 v2 v3 v4 v5 (lsh v6 (1 : Int32)) v8 p0_left_size p0_left_limbs p0_right_size p0_right_limbs H locs ls hf hP hD hS (lv_sub hl [1, 2, 3, 4, 5, 6, 0, 7] rfl)
          · have hf := ifF hc22 hf
            refine lv_aload_n hx hb dX0_divided_69 rfl (lv_at hl 1 rfl) ?_
            refine va_get (D := D) (ci := 2) (v := .ref a_p0_left) (C := RX0) (T := TX0) (N := 2) hx hb hts uwX0 hown hK hP 0 rfl rfl 0 (by decide) (hts _ kfX0_9) (fun _ h9 => h9) rfl dX0_divided_70 ?_
            refine lv_aload_n hx hb dX0_divided_73 rfl (lv_at hl 1 rfl) ?_
            refine va_get (D := D) (ci := 2) (v := .ref a_p0_right) (C := RX0) (T := TX0) (N := 2) hx hb hts uwX0 hown hK hP 0 rfl rfl 1 (by decide) (hts _ kfX0_15) (fun _ h9 => h9) rfl dX0_divided_74 ?_
            obtain ⟨u20, hu21, hf⟩ := bdE hf
            refine cV_V (ws' := [(a_p0, .inr (2, [.ref a_p0_left, .ref a_p0_right])), (a_p0_left, .inr (5, [.ref a_p0_left_limbs, .int u20.1])), (a_p0_left_limbs, .inl (cJ, 160, .inr (.inl u20.2))), (a_p0_right, .inr (5, [.ref a_p0_right_limbs, .int p0_right_size])), (a_p0_right_limbs, .inl (cJ, 160, .inr (.inl p0_right_limbs)))]) (rest := []) S hK hN hA hP hD hS (c_X4_minus l D cI cJ a_p0_left a_p0_left_limbs a_p0_right a_p0_right_limbs  p0_left_size p0_left_limbs p0_right_size p0_right_limbs u20 hu21) mwX4_minus miX4_minus kmX0_133 [1, 2, 3, 4] rfl (by decide) rfl rfl rfl 0 rfl rfl ⟨Nat.le_of_ble_eq_true rfl, Nat.le_of_ble_eq_true rfl⟩ ⟨Nat.zero_le _, Nat.zero_le _⟩ hl.1 rfl rfl (Nat.le_of_ble_eq_true rfl) dX0_divided_77 (fun H locs hP hD hS => ?_)
            refine lv_lload hx hb dX0_divided_80 (lv_at hl 0 rfl) ?_
            refine lv_lconst (v := 1) hx hb dX0_divided_82 (by decide) ?_
            refine lv_lor hx hb dX0_divided_83 ?_
            refine lv_lstore (lv' := [(6, .long ((lsh v6 (1 : Int32)) ||| (1 : Int64))), (0, .ref a_p0), (1, .int v1), (2, .int v2), (3, .int v3), (4, .int v4), (5, .int v5), (8, .int v8)]) hx hb dX0_divided_84 hl (by decide) rfl (fun ls hl => ?_)
            exact keyB86 (f_X0_divided_L42 n) ih v1 v2 v3 v4 v5 ((lsh v6 (1 : Int32)) ||| (1 : Int64)) v8 u20.1 u20.2 p0_right_size p0_right_limbs H locs ls hf hP hD hS (lv_sub hl [1, 2, 3, 4, 5, 6, 0, 7] rfl)
  unfold f_X0_divided at hf
  refine lv_aload_n hx hb dX0_divided_0 rfl (lv_at hl 0 rfl) ?_
  refine va_get (D := D) (ci := 2) (v := .ref a_p0_left) (C := RX0) (T := TX0) (N := 2) hx hb hts uwX0 hown hK hP 0 rfl rfl 0 (by decide) (hts _ kfX0_9) (fun _ h9 => h9) rfl dX0_divided_1 ?_
  obtain ⟨u1, hu2, hf⟩ := bdE hf
  refine cV_I (ws' := [(a_p0, .inr (2, [.ref a_p0_left, .ref a_p0_right])), (a_p0_left, .inr (5, [.ref a_p0_left_limbs, .int p0_left_size])), (a_p0_left_limbs, .inl (cJ, 160, .inr (.inl p0_left_limbs))), (a_p0_right, .inr (5, [.ref a_p0_right_limbs, .int p0_right_size])), (a_p0_right_limbs, .inl (cJ, 160, .inr (.inl p0_right_limbs)))]) (rest := []) S hK hN hA hP hD hS (c_X4_bits l D cI cJ a_p0_left a_p0_left_limbs  p0_left_size p0_left_limbs u1 hu2) mwX4_bits miX4_bits kmX0_135 [1, 2] rfl (by decide) rfl rfl rfl 0 rfl rfl ⟨Nat.le_of_ble_eq_true rfl, Nat.le_of_ble_eq_true rfl⟩ ⟨Nat.zero_le _, Nat.zero_le _⟩ hl.1 rfl rfl (Nat.le_of_ble_eq_true rfl) dX0_divided_4 (fun H locs hP hD hS => ?_)
  refine lv_aload_n hx hb dX0_divided_7 rfl (lv_at hl 0 rfl) ?_
  refine va_get (D := D) (ci := 2) (v := .ref a_p0_right) (C := RX0) (T := TX0) (N := 2) hx hb hts uwX0 hown hK hP 0 rfl rfl 1 (by decide) (hts _ kfX0_15) (fun _ h9 => h9) rfl dX0_divided_8 ?_
  obtain ⟨u3, hu4, hf⟩ := bdE hf
  refine cV_I (ws' := [(a_p0, .inr (2, [.ref a_p0_left, .ref a_p0_right])), (a_p0_left, .inr (5, [.ref a_p0_left_limbs, .int p0_left_size])), (a_p0_left_limbs, .inl (cJ, 160, .inr (.inl p0_left_limbs))), (a_p0_right, .inr (5, [.ref a_p0_right_limbs, .int p0_right_size])), (a_p0_right_limbs, .inl (cJ, 160, .inr (.inl p0_right_limbs)))]) (rest := [.int u1]) S hK hN hA hP hD hS (c_X4_bits l D cI cJ a_p0_right a_p0_right_limbs  p0_right_size p0_right_limbs u3 hu4) mwX4_bits miX4_bits kmX0_135 [3, 4] rfl (by decide) rfl rfl rfl 0 rfl rfl ⟨Nat.le_of_ble_eq_true rfl, Nat.le_of_ble_eq_true rfl⟩ ⟨Nat.zero_le _, Nat.zero_le _⟩ hl.1 rfl rfl (Nat.le_of_ble_eq_true rfl) dX0_divided_11 (fun H locs hP hD hS => ?_)
  refine lv_isub hx hb dX0_divided_14 ?_
  refine lv_istore (lv' := [(5, .int (u1 - u3)), (0, .ref a_p0), (1, .int p1), (2, .int p2), (3, .int p3), (4, .int p4)]) hx hb dX0_divided_15 hl (by decide) rfl (fun ls hl => ?_)
  refine lv_aload_n hx hb dX0_divided_17 rfl (lv_at hl 1 rfl) ?_
  refine va_get (D := D) (ci := 2) (v := .ref a_p0_left) (C := RX0) (T := TX0) (N := 2) hx hb hts uwX0 hown hK hP 0 rfl rfl 0 (by decide) (hts _ kfX0_9) (fun _ h9 => h9) rfl dX0_divided_18 ?_
  refine lv_iload hx hb dX0_divided_21 (lv_at hl 0 rfl) ?_
  refine lv_ineg hx hb dX0_divided_23 ?_
  obtain ⟨u5, hu6, hf⟩ := bdE hf
  refine cV_V (ws' := [(a_p0, .inr (2, [.ref a_p0_left, .ref a_p0_right])), (a_p0_left, .inr (5, [.ref a_p0_left_limbs, .int u5.1])), (a_p0_left_limbs, .inl (cJ, 160, .inr (.inl u5.2))), (a_p0_right, .inr (5, [.ref a_p0_right_limbs, .int p0_right_size])), (a_p0_right_limbs, .inl (cJ, 160, .inr (.inl p0_right_limbs)))]) (rest := []) S hK hN hA hP hD hS (c_X4_shiftUp l D cI cJ a_p0_left a_p0_left_limbs (-(u1 - u3)) p0_left_size p0_left_limbs u5 hu6) mwX4_shiftUp miX4_shiftUp kmX0_115 [1, 2] rfl (by decide) rfl rfl rfl 0 rfl rfl ⟨Nat.le_of_ble_eq_true rfl, Nat.le_of_ble_eq_true rfl⟩ ⟨Nat.zero_le _, Nat.zero_le _⟩ hl.1 rfl rfl (Nat.le_of_ble_eq_true rfl) dX0_divided_24 (fun H locs hP hD hS => ?_)
  refine lv_aload_n hx hb dX0_divided_27 rfl (lv_at hl 1 rfl) ?_
  refine va_get (D := D) (ci := 2) (v := .ref a_p0_right) (C := RX0) (T := TX0) (N := 2) hx hb hts uwX0 hown hK hP 0 rfl rfl 1 (by decide) (hts _ kfX0_15) (fun _ h9 => h9) rfl dX0_divided_28 ?_
  refine lv_iload hx hb dX0_divided_31 (lv_at hl 0 rfl) ?_
  obtain ⟨u7, hu8, hf⟩ := bdE hf
  refine cV_V (ws' := [(a_p0, .inr (2, [.ref a_p0_left, .ref a_p0_right])), (a_p0_left, .inr (5, [.ref a_p0_left_limbs, .int u5.1])), (a_p0_left_limbs, .inl (cJ, 160, .inr (.inl u5.2))), (a_p0_right, .inr (5, [.ref a_p0_right_limbs, .int u7.1])), (a_p0_right_limbs, .inl (cJ, 160, .inr (.inl u7.2)))]) (rest := []) S hK hN hA hP hD hS (c_X4_shiftUp l D cI cJ a_p0_right a_p0_right_limbs (u1 - u3) p0_right_size p0_right_limbs u7 hu8) mwX4_shiftUp miX4_shiftUp kmX0_115 [3, 4] rfl (by decide) rfl rfl rfl 0 rfl rfl ⟨Nat.le_of_ble_eq_true rfl, Nat.le_of_ble_eq_true rfl⟩ ⟨Nat.zero_le _, Nat.zero_le _⟩ hl.1 rfl rfl (Nat.le_of_ble_eq_true rfl) dX0_divided_33 (fun H locs hP hD hS => ?_)
  refine lv_lconst (v := 0) hx hb dX0_divided_36 (by decide) ?_
  refine lv_lstore (lv' := [(6, .long (0 : Int64)), (5, .int (u1 - u3)), (0, .ref a_p0), (1, .int p1), (2, .int p2), (3, .int p3), (4, .int p4)]) hx hb dX0_divided_37 hl (by decide) rfl (fun ls hl => ?_)
  refine lv_iconst (v := 0) hx hb dX0_divided_39 (by decide) ?_
  refine lv_istore (lv' := [(8, .int (0 : Int32)), (6, .long (0 : Int64)), (5, .int (u1 - u3)), (0, .ref a_p0), (1, .int p1), (2, .int p2), (3, .int p3), (4, .int p4)]) hx hb dX0_divided_40 hl (by decide) rfl (fun ls hl => ?_)
  exact keyL42 FU p1 p2 p3 p4 (u1 - u3) (0 : Int64) (0 : Int32) u5.1 u5.2 u7.1 u7.2 H locs ls hf hP hD hS (lv_sub hl [3, 4, 5, 6, 7, 2, 1, 0] rfl)
set_option maxRecDepth 100000 in
set_option maxHeartbeats 4000000 in
theorem c_X0_quotient (l : Launch) (D : va_G) (cI cJ : ClassId) (a_p0 a_p0_left a_p0_right a_p0_left_limbs a_p0_right_limbs a_p1 a_p2 : Nat) (p3 : Int32) (p4 : Int32) (p0_left_size : Int32) (p0_left_limbs : (Nat → Int64)) (p0_right_size : Int32) (p0_right_limbs : (Nat → Int64)) (p1_kind : Int32) (p1_minus : Int32) (p1_m : Int64) (p1_e : Int32) (p1_narrowBelow : Int32) (p2_kind : Int32) (p2_minus : Int32) (p2_m : Int64) (p2_e : Int32) (p2_narrowBelow : Int32) (u : Int64 × Int32 × (Nat → Int64) × Int32 × (Nat → Int64)) (hf : f_X0_quotient p1_kind p1_minus p1_m p1_e p2_kind p2_minus p2_m p2_e p3 p4 p0_left_size p0_left_limbs p0_right_size p0_right_limbs = some u) : CtL l yX0_quotient cX0_quotient 8 5 129 [.ref a_p0, .ref a_p1, .ref a_p2, .int p3, .int p4] D cI cJ [(a_p0, .inr (2, [.ref a_p0_left, .ref a_p0_right])), (a_p0_left, .inr (5, [.ref a_p0_left_limbs, .int p0_left_size])), (a_p0_left_limbs, .inl (cJ, 160, .inr (.inl p0_left_limbs))), (a_p0_right, .inr (5, [.ref a_p0_right_limbs, .int p0_right_size])), (a_p0_right_limbs, .inl (cJ, 160, .inr (.inl p0_right_limbs))), (a_p1, .inr (9, [.int p1_kind, .int p1_minus, .long p1_m, .int p1_e, .int p1_narrowBelow])), (a_p2, .inr (9, [.int p2_kind, .int p2_minus, .long p2_m, .int p2_e, .int p2_narrowBelow]))] [(a_p0, .inr (2, [.ref a_p0_left, .ref a_p0_right])), (a_p0_left, .inr (5, [.ref a_p0_left_limbs, .int u.2.1])), (a_p0_left_limbs, .inl (cJ, 160, .inr (.inl u.2.2.1))), (a_p0_right, .inr (5, [.ref a_p0_right_limbs, .int u.2.2.2.1])), (a_p0_right_limbs, .inl (cJ, 160, .inr (.inl u.2.2.2.2))), (a_p1, .inr (9, [.int p1_kind, .int p1_minus, .long p1_m, .int p1_e, .int p1_narrowBelow])), (a_p2, .inr (9, [.int p2_kind, .int p2_minus, .long p2_m, .int p2_e, .int p2_narrowBelow]))] u.1 := by
  refine mkL (own := RX0) rfl (by decide +kernel) (Nat.le_of_ble_eq_true rfl) (lv := [(0, .ref a_p0), (1, .ref a_p1), (2, .ref a_p2), (3, .int p3), (4, .int p4)]) rfl ?_
  intro p e s m below meth c Q A ls ar S hA hK hN hret H locs hP hD hS hl
  obtain ⟨hx, hb, hml, hown, hts⟩ := id S
  have hret : ∀ (w : Int64 × Int32 × (Nat → Int64) × Int32 × (Nat → Int64)), w = u → ∀ (H : Heap) (locs : List Loc) (ls : Array Slot) (pc : Nat), decode cX0_quotient pc = .ok (.lreturn, 1) → va_P D vwCl [(a_p0, .inr (2, [.ref a_p0_left, .ref a_p0_right])), (a_p0_left, .inr (5, [.ref a_p0_left_limbs, .int w.2.1])), (a_p0_left_limbs, .inl (cJ, 160, .inr (.inl w.2.2.1))), (a_p0_right, .inr (5, [.ref a_p0_right_limbs, .int w.2.2.2.1])), (a_p0_right_limbs, .inl (cJ, 160, .inr (.inl w.2.2.2.2))), (a_p1, .inr (9, [.int p1_kind, .int p1_minus, .long p1_m, .int p1_e, .int p1_narrowBelow])), (a_p2, .inr (9, [.int p2_kind, .int p2_minus, .long p2_m, .int p2_e, .int p2_narrowBelow]))] H → va_D A [(a_p0, .inr (2, [.ref a_p0_left, .ref a_p0_right])), (a_p0_left, .inr (5, [.ref a_p0_left_limbs, .int w.2.1])), (a_p0_left_limbs, .inl (cJ, 160, .inr (.inl w.2.2.1))), (a_p0_right, .inr (5, [.ref a_p0_right_limbs, .int w.2.2.2.1])), (a_p0_right_limbs, .inl (cJ, 160, .inr (.inl w.2.2.2.2))), (a_p1, .inr (9, [.int p1_kind, .int p1_minus, .long p1_m, .int p1_e, .int p1_narrowBelow])), (a_p2, .inr (9, [.int p2_kind, .int p2_minus, .long p2_m, .int p2_e, .int p2_narrowBelow]))] → va_S A s.heap H locs → W p l e (rmz 5 129) s m ar below meth c H locs 0 0 Q (F0 m pc ls [.long w.1]) := fun w hw => hw ▸ hret
  have keyB88 : ∀ (v3 : Int32) (p0_left_size : Int32) (p0_left_limbs : (Nat → Int64)) (p0_right_size : Int32) (p0_right_limbs : (Nat → Int64)) (H : Heap) (locs : List Loc) (ls : Array Slot), f_X0_quotient_B88 p1_kind p1_minus p1_m p1_e p2_kind p2_minus p2_m p2_e v3 p0_left_size p0_left_limbs p0_right_size p0_right_limbs = some u → va_P D vwCl [(a_p0, .inr (2, [.ref a_p0_left, .ref a_p0_right])), (a_p0_left, .inr (5, [.ref a_p0_left_limbs, .int p0_left_size])), (a_p0_left_limbs, .inl (cJ, 160, .inr (.inl p0_left_limbs))), (a_p0_right, .inr (5, [.ref a_p0_right_limbs, .int p0_right_size])), (a_p0_right_limbs, .inl (cJ, 160, .inr (.inl p0_right_limbs))), (a_p1, .inr (9, [.int p1_kind, .int p1_minus, .long p1_m, .int p1_e, .int p1_narrowBelow])), (a_p2, .inr (9, [.int p2_kind, .int p2_minus, .long p2_m, .int p2_e, .int p2_narrowBelow]))] H → va_D A [(a_p0, .inr (2, [.ref a_p0_left, .ref a_p0_right])), (a_p0_left, .inr (5, [.ref a_p0_left_limbs, .int p0_left_size])), (a_p0_left_limbs, .inl (cJ, 160, .inr (.inl p0_left_limbs))), (a_p0_right, .inr (5, [.ref a_p0_right_limbs, .int p0_right_size])), (a_p0_right_limbs, .inl (cJ, 160, .inr (.inl p0_right_limbs))), (a_p1, .inr (9, [.int p1_kind, .int p1_minus, .long p1_m, .int p1_e, .int p1_narrowBelow])), (a_p2, .inr (9, [.int p2_kind, .int p2_minus, .long p2_m, .int p2_e, .int p2_narrowBelow]))] → va_S A s.heap H locs → lv_has ls 8 [(3, .int v3)] → W p l e (rmz 5 129) s m ar below meth c H locs 0 0 Q (F0 m 88 ls []) := by
    intro v3 p0_left_size p0_left_limbs p0_right_size p0_right_limbs H locs ls hf hP hD hS hl
    unfold f_X0_quotient_B88 at hf
    refine lv_iload_n hx hb dX0_quotient_88 rfl (lv_at hl 0 rfl) ?_
    obtain ⟨u1, hu2, hf⟩ := bdE hf
    refine cS_L (ws' := [(a_p0, .inr (2, [.ref a_p0_left, .ref a_p0_right])), (a_p0_left, .inr (5, [.ref a_p0_left_limbs, .int p0_left_size])), (a_p0_left_limbs, .inl (cJ, 160, .inr (.inl p0_left_limbs))), (a_p0_right, .inr (5, [.ref a_p0_right_limbs, .int p0_right_size])), (a_p0_right_limbs, .inl (cJ, 160, .inr (.inl p0_right_limbs))), (a_p1, .inr (9, [.int p1_kind, .int p1_minus, .long p1_m, .int p1_e, .int p1_narrowBelow])), (a_p2, .inr (9, [.int p2_kind, .int p2_minus, .long p2_m, .int p2_e, .int p2_narrowBelow]))]) (rest := []) S hK hN hA hP hD hS (c_X2_none l D cI cJ  v3  u1 hu2) mwX2_none msX2_none kmX0_24 [] rfl (by decide) rfl rfl rfl ⟨Nat.le_of_ble_eq_true rfl, Nat.le_of_ble_eq_true rfl⟩ ⟨Nat.zero_le _, Nat.zero_le _⟩ hl.1 rfl rfl (Nat.le_of_ble_eq_true rfl) dX0_quotient_89 (fun H locs hP hD hS => ?_)
    exact hret _ (opE hf) H locs ls 92 dX0_quotient_92 hP hD hS
  have keyB108 : ∀ (v3 : Int32) (v5 : Int32) (p0_left_size : Int32) (p0_left_limbs : (Nat → Int64)) (p0_right_size : Int32) (p0_right_limbs : (Nat → Int64)) (H : Heap) (locs : List Loc) (ls : Array Slot), f_X0_quotient_B108 p1_kind p1_minus p1_m p1_e p2_kind p2_minus p2_m p2_e v3 v5 p0_left_size p0_left_limbs p0_right_size p0_right_limbs = some u → va_P D vwCl [(a_p0, .inr (2, [.ref a_p0_left, .ref a_p0_right])), (a_p0_left, .inr (5, [.ref a_p0_left_limbs, .int p0_left_size])), (a_p0_left_limbs, .inl (cJ, 160, .inr (.inl p0_left_limbs))), (a_p0_right, .inr (5, [.ref a_p0_right_limbs, .int p0_right_size])), (a_p0_right_limbs, .inl (cJ, 160, .inr (.inl p0_right_limbs))), (a_p1, .inr (9, [.int p1_kind, .int p1_minus, .long p1_m, .int p1_e, .int p1_narrowBelow])), (a_p2, .inr (9, [.int p2_kind, .int p2_minus, .long p2_m, .int p2_e, .int p2_narrowBelow]))] H → va_D A [(a_p0, .inr (2, [.ref a_p0_left, .ref a_p0_right])), (a_p0_left, .inr (5, [.ref a_p0_left_limbs, .int p0_left_size])), (a_p0_left_limbs, .inl (cJ, 160, .inr (.inl p0_left_limbs))), (a_p0_right, .inr (5, [.ref a_p0_right_limbs, .int p0_right_size])), (a_p0_right_limbs, .inl (cJ, 160, .inr (.inl p0_right_limbs))), (a_p1, .inr (9, [.int p1_kind, .int p1_minus, .long p1_m, .int p1_e, .int p1_narrowBelow])), (a_p2, .inr (9, [.int p2_kind, .int p2_minus, .long p2_m, .int p2_e, .int p2_narrowBelow]))] → va_S A s.heap H locs → lv_has ls 8 [(3, .int v3), (5, .int v5)] → W p l e (rmz 5 129) s m ar below meth c H locs 0 0 Q (F0 m 108 ls []) := by
    intro v3 v5 p0_left_size p0_left_limbs p0_right_size p0_right_limbs H locs ls hf hP hD hS hl
    unfold f_X0_quotient_B108 at hf
    refine lv_iload_n hx hb dX0_quotient_108 rfl (lv_at hl 0 rfl) ?_
    refine lv_iload hx hb dX0_quotient_109 (lv_at hl 1 rfl) ?_
    obtain ⟨u3, hu4, hf⟩ := bdE hf
    refine cS_L (ws' := [(a_p0, .inr (2, [.ref a_p0_left, .ref a_p0_right])), (a_p0_left, .inr (5, [.ref a_p0_left_limbs, .int p0_left_size])), (a_p0_left_limbs, .inl (cJ, 160, .inr (.inl p0_left_limbs))), (a_p0_right, .inr (5, [.ref a_p0_right_limbs, .int p0_right_size])), (a_p0_right_limbs, .inl (cJ, 160, .inr (.inl p0_right_limbs))), (a_p1, .inr (9, [.int p1_kind, .int p1_minus, .long p1_m, .int p1_e, .int p1_narrowBelow])), (a_p2, .inr (9, [.int p2_kind, .int p2_minus, .long p2_m, .int p2_e, .int p2_narrowBelow]))]) (rest := []) S hK hN hA hP hD hS (c_X2_endless l D cI cJ  v3 v5  u3 hu4) mwX2_endless msX2_endless kmX0_34 [] rfl (by decide) rfl rfl rfl ⟨Nat.le_of_ble_eq_true rfl, Nat.le_of_ble_eq_true rfl⟩ ⟨Nat.zero_le _, Nat.zero_le _⟩ hl.1 rfl rfl (Nat.le_of_ble_eq_true rfl) dX0_quotient_111 (fun H locs hP hD hS => ?_)
    exact hret _ (opE hf) H locs ls 114 dX0_quotient_114 hP hD hS
  have keyB130 : ∀ (v3 : Int32) (v5 : Int32) (p0_left_size : Int32) (p0_left_limbs : (Nat → Int64)) (p0_right_size : Int32) (p0_right_limbs : (Nat → Int64)) (H : Heap) (locs : List Loc) (ls : Array Slot), f_X0_quotient_B130 p1_kind p1_minus p1_m p1_e p2_kind p2_minus p2_m p2_e v3 v5 p0_left_size p0_left_limbs p0_right_size p0_right_limbs = some u → va_P D vwCl [(a_p0, .inr (2, [.ref a_p0_left, .ref a_p0_right])), (a_p0_left, .inr (5, [.ref a_p0_left_limbs, .int p0_left_size])), (a_p0_left_limbs, .inl (cJ, 160, .inr (.inl p0_left_limbs))), (a_p0_right, .inr (5, [.ref a_p0_right_limbs, .int p0_right_size])), (a_p0_right_limbs, .inl (cJ, 160, .inr (.inl p0_right_limbs))), (a_p1, .inr (9, [.int p1_kind, .int p1_minus, .long p1_m, .int p1_e, .int p1_narrowBelow])), (a_p2, .inr (9, [.int p2_kind, .int p2_minus, .long p2_m, .int p2_e, .int p2_narrowBelow]))] H → va_D A [(a_p0, .inr (2, [.ref a_p0_left, .ref a_p0_right])), (a_p0_left, .inr (5, [.ref a_p0_left_limbs, .int p0_left_size])), (a_p0_left_limbs, .inl (cJ, 160, .inr (.inl p0_left_limbs))), (a_p0_right, .inr (5, [.ref a_p0_right_limbs, .int p0_right_size])), (a_p0_right_limbs, .inl (cJ, 160, .inr (.inl p0_right_limbs))), (a_p1, .inr (9, [.int p1_kind, .int p1_minus, .long p1_m, .int p1_e, .int p1_narrowBelow])), (a_p2, .inr (9, [.int p2_kind, .int p2_minus, .long p2_m, .int p2_e, .int p2_narrowBelow]))] → va_S A s.heap H locs → lv_has ls 8 [(3, .int v3), (5, .int v5)] → W p l e (rmz 5 129) s m ar below meth c H locs 0 0 Q (F0 m 130 ls []) := by
    intro v3 v5 p0_left_size p0_left_limbs p0_right_size p0_right_limbs H locs ls hf hP hD hS hl
    unfold f_X0_quotient_B130 at hf
    refine lv_iload_n hx hb dX0_quotient_130 rfl (lv_at hl 0 rfl) ?_
    refine lv_iload hx hb dX0_quotient_131 (lv_at hl 1 rfl) ?_
    obtain ⟨u5, hu6, hf⟩ := bdE hf
    refine cS_L (ws' := [(a_p0, .inr (2, [.ref a_p0_left, .ref a_p0_right])), (a_p0_left, .inr (5, [.ref a_p0_left_limbs, .int p0_left_size])), (a_p0_left_limbs, .inl (cJ, 160, .inr (.inl p0_left_limbs))), (a_p0_right, .inr (5, [.ref a_p0_right_limbs, .int p0_right_size])), (a_p0_right_limbs, .inl (cJ, 160, .inr (.inl p0_right_limbs))), (a_p1, .inr (9, [.int p1_kind, .int p1_minus, .long p1_m, .int p1_e, .int p1_narrowBelow])), (a_p2, .inr (9, [.int p2_kind, .int p2_minus, .long p2_m, .int p2_e, .int p2_narrowBelow]))]) (rest := []) S hK hN hA hP hD hS (c_X2_nought l D cI cJ  v3 v5  u5 hu6) mwX2_nought msX2_nought kmX0_67 [] rfl (by decide) rfl rfl rfl ⟨Nat.le_of_ble_eq_true rfl, Nat.le_of_ble_eq_true rfl⟩ ⟨Nat.zero_le _, Nat.zero_le _⟩ hl.1 rfl rfl (Nat.le_of_ble_eq_true rfl) dX0_quotient_133 (fun H locs hP hD hS => ?_)
    exact hret _ (opE hf) H locs ls 136 dX0_quotient_136 hP hD hS
  have keyB60 : ∀ (v3 : Int32) (v4 : Int32) (v5 : Int32) (v6 : Int32) (s0 : Int32) (p0_left_size : Int32) (p0_left_limbs : (Nat → Int64)) (p0_right_size : Int32) (p0_right_limbs : (Nat → Int64)) (H : Heap) (locs : List Loc) (ls : Array Slot), f_X0_quotient_B60 p1_kind p1_minus p1_m p1_e p2_kind p2_minus p2_m p2_e v3 v4 v5 v6 s0 p0_left_size p0_left_limbs p0_right_size p0_right_limbs = some u → va_P D vwCl [(a_p0, .inr (2, [.ref a_p0_left, .ref a_p0_right])), (a_p0_left, .inr (5, [.ref a_p0_left_limbs, .int p0_left_size])), (a_p0_left_limbs, .inl (cJ, 160, .inr (.inl p0_left_limbs))), (a_p0_right, .inr (5, [.ref a_p0_right_limbs, .int p0_right_size])), (a_p0_right_limbs, .inl (cJ, 160, .inr (.inl p0_right_limbs))), (a_p1, .inr (9, [.int p1_kind, .int p1_minus, .long p1_m, .int p1_e, .int p1_narrowBelow])), (a_p2, .inr (9, [.int p2_kind, .int p2_minus, .long p2_m, .int p2_e, .int p2_narrowBelow]))] H → va_D A [(a_p0, .inr (2, [.ref a_p0_left, .ref a_p0_right])), (a_p0_left, .inr (5, [.ref a_p0_left_limbs, .int p0_left_size])), (a_p0_left_limbs, .inl (cJ, 160, .inr (.inl p0_left_limbs))), (a_p0_right, .inr (5, [.ref a_p0_right_limbs, .int p0_right_size])), (a_p0_right_limbs, .inl (cJ, 160, .inr (.inl p0_right_limbs))), (a_p1, .inr (9, [.int p1_kind, .int p1_minus, .long p1_m, .int p1_e, .int p1_narrowBelow])), (a_p2, .inr (9, [.int p2_kind, .int p2_minus, .long p2_m, .int p2_e, .int p2_narrowBelow]))] → va_S A s.heap H locs → lv_has ls 8 [(0, .ref a_p0), (1, .ref a_p1), (2, .ref a_p2), (3, .int v3), (4, .int v4), (5, .int v5), (6, .int v6)] → W p l e (rmz 5 129) s m ar below meth c H locs 0 0 Q (F0 m 60 ls [.int s0]) := by
    intro v3 v4 v5 v6 s0 p0_left_size p0_left_limbs p0_right_size p0_right_limbs H locs ls hf hP hD hS hl
    unfold f_X0_quotient_B60 at hf
    refine lv_istore (lv' := [(7, .int s0), (0, .ref a_p0), (1, .ref a_p1), (2, .ref a_p2), (3, .int v3), (4, .int v4), (5, .int v5), (6, .int v6)]) hx hb dX0_quotient_60 hl (by decide) rfl (fun ls hl => ?_)
    refine lv_aload_n hx hb dX0_quotient_62 rfl (lv_at hl 2 rfl) ?_
    refine va_get (D := D) (ci := 9) (v := .int p1_kind) (C := RX8) (T := TX8) (N := 5) hx hb hts uwX8 hown hK hP 5 rfl rfl 0 (by decide) (hts _ kfX0_18) (fun _ h9 => h9) rfl dX0_quotient_63 ?_
    refine lv_iconst (v := 4) hx hb dX0_quotient_66 (by decide) ?_
    refine lv_icmp_eq (tgt := 88) hx hb dX0_quotient_67 (by decide) (fun hc20 => ?_) (fun hc20 => ?_)
    · have hf := ifT hc20 hf
      exact keyB88 v3 p0_left_size p0_left_limbs p0_right_size p0_right_limbs H locs ls hf hP hD hS (lv_sub hl [4] rfl)
    · have hf := ifF hc20 hf
      refine lv_aload_n hx hb dX0_quotient_70 rfl (lv_at hl 3 rfl) ?_
      refine va_get (D := D) (ci := 9) (v := .int p2_kind) (C := RX8) (T := TX8) (N := 5) hx hb hts uwX8 hown hK hP 6 rfl rfl 0 (by decide) (hts _ kfX0_18) (fun _ h9 => h9) rfl dX0_quotient_71 ?_
      refine lv_iconst (v := 4) hx hb dX0_quotient_74 (by decide) ?_
      refine lv_icmp_eq (tgt := 88) hx hb dX0_quotient_75 (by decide) (fun hc19 => ?_) (fun hc19 => ?_)
      · have hf := ifT hc19 hf
        exact keyB88 v3 p0_left_size p0_left_limbs p0_right_size p0_right_limbs H locs ls hf hP hD hS (lv_sub hl [4] rfl)
      · have hf := ifF hc19 hf
        refine lv_iload hx hb dX0_quotient_78 (lv_at hl 7 rfl) ?_
        refine lv_if_ne (tgt := 88) hx hb dX0_quotient_80 (by decide) (fun hc18 => ?_) (fun hc18 => ?_)
        · have hf := ifF hc18 hf
          exact keyB88 v3 p0_left_size p0_left_limbs p0_right_size p0_right_limbs H locs ls hf hP hD hS (lv_sub hl [4] rfl)
        · have hf := ifT hc18 hf
          refine lv_iload hx hb dX0_quotient_83 (lv_at hl 0 rfl) ?_
          refine lv_if_eq (tgt := 93) hx hb dX0_quotient_85 (by decide) (fun hc17 => ?_) (fun hc17 => ?_)
          · have hf := ifT hc17 hf
            refine lv_aload_n hx hb dX0_quotient_93 rfl (lv_at hl 2 rfl) ?_
            refine va_get (D := D) (ci := 9) (v := .int p1_kind) (C := RX8) (T := TX8) (N := 5) hx hb hts uwX8 hown hK hP 5 rfl rfl 0 (by decide) (hts _ kfX0_18) (fun _ h9 => h9) rfl dX0_quotient_94 ?_
            refine lv_iconst (v := 3) hx hb dX0_quotient_97 (by decide) ?_
            refine lv_icmp_eq (tgt := 108) hx hb dX0_quotient_98 (by decide) (fun hc16 => ?_) (fun hc16 => ?_)
            · have hf := ifT hc16 hf
              exact keyB108 v3 v5 p0_left_size p0_left_limbs p0_right_size p0_right_limbs H locs ls hf hP hD hS (lv_sub hl [4, 6] rfl)
            · have hf := ifF hc16 hf
              refine lv_aload_n hx hb dX0_quotient_101 rfl (lv_at hl 3 rfl) ?_
              refine va_get (D := D) (ci := 9) (v := .int p2_kind) (C := RX8) (T := TX8) (N := 5) hx hb hts uwX8 hown hK hP 6 rfl rfl 0 (by decide) (hts _ kfX0_18) (fun _ h9 => h9) rfl dX0_quotient_102 ?_
              refine lv_if_ne (tgt := 115) hx hb dX0_quotient_105 (by decide) (fun hc15 => ?_) (fun hc15 => ?_)
              · have hf := ifF hc15 hf
                refine lv_aload_n hx hb dX0_quotient_115 rfl (lv_at hl 2 rfl) ?_
                refine va_get (D := D) (ci := 9) (v := .int p1_kind) (C := RX8) (T := TX8) (N := 5) hx hb hts uwX8 hown hK hP 5 rfl rfl 0 (by decide) (hts _ kfX0_18) (fun _ h9 => h9) rfl dX0_quotient_116 ?_
                refine lv_if_eq (tgt := 130) hx hb dX0_quotient_119 (by decide) (fun hc14 => ?_) (fun hc14 => ?_)
                · have hf := ifT hc14 hf
                  exact keyB130 v3 v5 p0_left_size p0_left_limbs p0_right_size p0_right_limbs H locs ls hf hP hD hS (lv_sub hl [4, 6] rfl)
                · have hf := ifF hc14 hf
                  refine lv_aload_n hx hb dX0_quotient_122 rfl (lv_at hl 3 rfl) ?_
                  refine va_get (D := D) (ci := 9) (v := .int p2_kind) (C := RX8) (T := TX8) (N := 5) hx hb hts uwX8 hown hK hP 6 rfl rfl 0 (by decide) (hts _ kfX0_18) (fun _ h9 => h9) rfl dX0_quotient_123 ?_
                  refine lv_iconst (v := 3) hx hb dX0_quotient_126 (by decide) ?_
                  refine lv_icmp_ne (tgt := 137) hx hb dX0_quotient_127 (by decide) (fun hc13 => ?_) (fun hc13 => ?_)
                  · have hf := ifF hc13 hf
                    refine lv_aload_n hx hb dX0_quotient_137 rfl (lv_at hl 1 rfl) ?_
                    refine va_get (D := D) (ci := 2) (v := .ref a_p0_left) (C := RX0) (T := TX0) (N := 2) hx hb hts uwX0 hown hK hP 0 rfl rfl 0 (by decide) (hts _ kfX0_9) (fun _ h9 => h9) rfl dX0_quotient_138 ?_
                    refine lv_aload_n hx hb dX0_quotient_141 rfl (lv_at hl 2 rfl) ?_
                    refine va_get (D := D) (ci := 9) (v := .long p1_m) (C := RX8) (T := TX8) (N := 5) hx hb hts uwX8 hown hK hP 5 rfl rfl 2 (by decide) (hts _ kfX0_38) (fun _ h9 => h9) rfl dX0_quotient_142 ?_
                    obtain ⟨u7, hu8, hf⟩ := bdE hf
                    refine cV_V (ws' := [(a_p0, .inr (2, [.ref a_p0_left, .ref a_p0_right])), (a_p0_left, .inr (5, [.ref a_p0_left_limbs, .int u7.1])), (a_p0_left_limbs, .inl (cJ, 160, .inr (.inl u7.2))), (a_p0_right, .inr (5, [.ref a_p0_right_limbs, .int p0_right_size])), (a_p0_right_limbs, .inl (cJ, 160, .inr (.inl p0_right_limbs))), (a_p1, .inr (9, [.int p1_kind, .int p1_minus, .long p1_m, .int p1_e, .int p1_narrowBelow])), (a_p2, .inr (9, [.int p2_kind, .int p2_minus, .long p2_m, .int p2_e, .int p2_narrowBelow]))]) (rest := []) S hK hN hA hP hD hS (c_X4_take l D cI cJ a_p0_left a_p0_left_limbs p1_m p0_left_size p0_left_limbs u7 hu8) mwX4_take miX4_take kmX0_42 [1, 2] rfl (by decide) rfl rfl rfl 0 rfl rfl ⟨Nat.le_of_ble_eq_true rfl, Nat.le_of_ble_eq_true rfl⟩ ⟨Nat.zero_le _, Nat.zero_le _⟩ hl.1 rfl rfl (Nat.le_of_ble_eq_true rfl) dX0_quotient_145 (fun H locs hP hD hS => ?_)
                    refine lv_aload_n hx hb dX0_quotient_148 rfl (lv_at hl 1 rfl) ?_
                    refine va_get (D := D) (ci := 2) (v := .ref a_p0_right) (C := RX0) (T := TX0) (N := 2) hx hb hts uwX0 hown hK hP 0 rfl rfl 1 (by decide) (hts _ kfX0_15) (fun _ h9 => h9) rfl dX0_quotient_149 ?_
                    refine lv_aload_n hx hb dX0_quotient_152 rfl (lv_at hl 3 rfl) ?_
                    refine va_get (D := D) (ci := 9) (v := .long p2_m) (C := RX8) (T := TX8) (N := 5) hx hb hts uwX8 hown hK hP 6 rfl rfl 2 (by decide) (hts _ kfX0_38) (fun _ h9 => h9) rfl dX0_quotient_153 ?_
                    obtain ⟨u9, hu10, hf⟩ := bdE hf
                    refine cV_V (ws' := [(a_p0, .inr (2, [.ref a_p0_left, .ref a_p0_right])), (a_p0_left, .inr (5, [.ref a_p0_left_limbs, .int u7.1])), (a_p0_left_limbs, .inl (cJ, 160, .inr (.inl u7.2))), (a_p0_right, .inr (5, [.ref a_p0_right_limbs, .int u9.1])), (a_p0_right_limbs, .inl (cJ, 160, .inr (.inl u9.2))), (a_p1, .inr (9, [.int p1_kind, .int p1_minus, .long p1_m, .int p1_e, .int p1_narrowBelow])), (a_p2, .inr (9, [.int p2_kind, .int p2_minus, .long p2_m, .int p2_e, .int p2_narrowBelow]))]) (rest := []) S hK hN hA hP hD hS (c_X4_take l D cI cJ a_p0_right a_p0_right_limbs p2_m p0_right_size p0_right_limbs u9 hu10) mwX4_take miX4_take kmX0_42 [3, 4] rfl (by decide) rfl rfl rfl 0 rfl rfl ⟨Nat.le_of_ble_eq_true rfl, Nat.le_of_ble_eq_true rfl⟩ ⟨Nat.zero_le _, Nat.zero_le _⟩ hl.1 rfl rfl (Nat.le_of_ble_eq_true rfl) dX0_quotient_156 (fun H locs hP hD hS => ?_)
                    refine lv_aload_n hx hb dX0_quotient_159 rfl (lv_at hl 1 rfl) ?_
                    refine lv_iload hx hb dX0_quotient_160 (lv_at hl 6 rfl) ?_
                    refine lv_aload_n hx hb dX0_quotient_162 rfl (lv_at hl 2 rfl) ?_
                    refine va_get (D := D) (ci := 9) (v := .int p1_e) (C := RX8) (T := TX8) (N := 5) hx hb hts uwX8 hown hK hP 5 rfl rfl 3 (by decide) (hts _ kfX0_48) (fun _ h9 => h9) rfl dX0_quotient_163 ?_
                    refine lv_aload_n hx hb dX0_quotient_166 rfl (lv_at hl 3 rfl) ?_
                    refine va_get (D := D) (ci := 9) (v := .int p2_e) (C := RX8) (T := TX8) (N := 5) hx hb hts uwX8 hown hK hP 6 rfl rfl 3 (by decide) (hts _ kfX0_48) (fun _ h9 => h9) rfl dX0_quotient_167 ?_
                    refine lv_isub hx hb dX0_quotient_170 ?_
                    refine lv_iload_n hx hb dX0_quotient_171 rfl (lv_at hl 4 rfl) ?_
                    refine lv_iload hx hb dX0_quotient_172 (lv_at hl 5 rfl) ?_
                    obtain ⟨u11, hu12, hf⟩ := bdE hf
                    refine cV_L (ws' := [(a_p0, .inr (2, [.ref a_p0_left, .ref a_p0_right])), (a_p0_left, .inr (5, [.ref a_p0_left_limbs, .int u11.2.1])), (a_p0_left_limbs, .inl (cJ, 160, .inr (.inl u11.2.2.1))), (a_p0_right, .inr (5, [.ref a_p0_right_limbs, .int u11.2.2.2.1])), (a_p0_right_limbs, .inl (cJ, 160, .inr (.inl u11.2.2.2.2))), (a_p1, .inr (9, [.int p1_kind, .int p1_minus, .long p1_m, .int p1_e, .int p1_narrowBelow])), (a_p2, .inr (9, [.int p2_kind, .int p2_minus, .long p2_m, .int p2_e, .int p2_narrowBelow]))]) (rest := []) S hK hN hA hP hD hS (c_X0_divided l D cI cJ a_p0 a_p0_left a_p0_right a_p0_left_limbs a_p0_right_limbs v5 (p1_e - p2_e) v3 v4 u7.1 u7.2 u9.1 u9.2 u11 hu12) mwX0_divided miX0_divided kmX0_70 [0, 1, 2, 3, 4] rfl (by decide) rfl rfl rfl 0 rfl rfl ⟨Nat.le_of_ble_eq_true rfl, Nat.le_of_ble_eq_true rfl⟩ ⟨Nat.zero_le _, Nat.zero_le _⟩ hl.1 rfl rfl (Nat.le_of_ble_eq_true rfl) dX0_quotient_174 (fun H locs hP hD hS => ?_)
                    exact hret _ (opE hf) H locs ls 177 dX0_quotient_177 hP hD hS
                  · have hf := ifT hc13 hf
                    exact keyB130 v3 v5 p0_left_size p0_left_limbs p0_right_size p0_right_limbs H locs ls hf hP hD hS (lv_sub hl [4, 6] rfl)
              · have hf := ifT hc15 hf
                exact keyB108 v3 v5 p0_left_size p0_left_limbs p0_right_size p0_right_limbs H locs ls hf hP hD hS (lv_sub hl [4, 6] rfl)
          · have hf := ifF hc17 hf
            exact keyB88 v3 p0_left_size p0_left_limbs p0_right_size p0_right_limbs H locs ls hf hP hD hS (lv_sub hl [4] rfl)
  have keyB59 : ∀ (v3 : Int32) (v4 : Int32) (v5 : Int32) (v6 : Int32) (p0_left_size : Int32) (p0_left_limbs : (Nat → Int64)) (p0_right_size : Int32) (p0_right_limbs : (Nat → Int64)) (H : Heap) (locs : List Loc) (ls : Array Slot), f_X0_quotient_B59 p1_kind p1_minus p1_m p1_e p2_kind p2_minus p2_m p2_e v3 v4 v5 v6 p0_left_size p0_left_limbs p0_right_size p0_right_limbs = some u → va_P D vwCl [(a_p0, .inr (2, [.ref a_p0_left, .ref a_p0_right])), (a_p0_left, .inr (5, [.ref a_p0_left_limbs, .int p0_left_size])), (a_p0_left_limbs, .inl (cJ, 160, .inr (.inl p0_left_limbs))), (a_p0_right, .inr (5, [.ref a_p0_right_limbs, .int p0_right_size])), (a_p0_right_limbs, .inl (cJ, 160, .inr (.inl p0_right_limbs))), (a_p1, .inr (9, [.int p1_kind, .int p1_minus, .long p1_m, .int p1_e, .int p1_narrowBelow])), (a_p2, .inr (9, [.int p2_kind, .int p2_minus, .long p2_m, .int p2_e, .int p2_narrowBelow]))] H → va_D A [(a_p0, .inr (2, [.ref a_p0_left, .ref a_p0_right])), (a_p0_left, .inr (5, [.ref a_p0_left_limbs, .int p0_left_size])), (a_p0_left_limbs, .inl (cJ, 160, .inr (.inl p0_left_limbs))), (a_p0_right, .inr (5, [.ref a_p0_right_limbs, .int p0_right_size])), (a_p0_right_limbs, .inl (cJ, 160, .inr (.inl p0_right_limbs))), (a_p1, .inr (9, [.int p1_kind, .int p1_minus, .long p1_m, .int p1_e, .int p1_narrowBelow])), (a_p2, .inr (9, [.int p2_kind, .int p2_minus, .long p2_m, .int p2_e, .int p2_narrowBelow]))] → va_S A s.heap H locs → lv_has ls 8 [(0, .ref a_p0), (1, .ref a_p1), (2, .ref a_p2), (3, .int v3), (4, .int v4), (5, .int v5), (6, .int v6)] → W p l e (rmz 5 129) s m ar below meth c H locs 0 0 Q (F0 m 59 ls []) := by
    intro v3 v4 v5 v6 p0_left_size p0_left_limbs p0_right_size p0_right_limbs H locs ls hf hP hD hS hl
    unfold f_X0_quotient_B59 at hf
    refine lv_iconst (v := 0) hx hb dX0_quotient_59 (by decide) ?_
    exact keyB60 v3 v4 v5 v6 (0 : Int32) p0_left_size p0_left_limbs p0_right_size p0_right_limbs H locs ls hf hP hD hS (lv_sub hl [0, 1, 2, 3, 4, 5, 6] rfl)
  have keyB37 : ∀ (v3 : Int32) (v4 : Int32) (v5 : Int32) (s0 : Int32) (p0_left_size : Int32) (p0_left_limbs : (Nat → Int64)) (p0_right_size : Int32) (p0_right_limbs : (Nat → Int64)) (H : Heap) (locs : List Loc) (ls : Array Slot), f_X0_quotient_B37 p1_kind p1_minus p1_m p1_e p2_kind p2_minus p2_m p2_e v3 v4 v5 s0 p0_left_size p0_left_limbs p0_right_size p0_right_limbs = some u → va_P D vwCl [(a_p0, .inr (2, [.ref a_p0_left, .ref a_p0_right])), (a_p0_left, .inr (5, [.ref a_p0_left_limbs, .int p0_left_size])), (a_p0_left_limbs, .inl (cJ, 160, .inr (.inl p0_left_limbs))), (a_p0_right, .inr (5, [.ref a_p0_right_limbs, .int p0_right_size])), (a_p0_right_limbs, .inl (cJ, 160, .inr (.inl p0_right_limbs))), (a_p1, .inr (9, [.int p1_kind, .int p1_minus, .long p1_m, .int p1_e, .int p1_narrowBelow])), (a_p2, .inr (9, [.int p2_kind, .int p2_minus, .long p2_m, .int p2_e, .int p2_narrowBelow]))] H → va_D A [(a_p0, .inr (2, [.ref a_p0_left, .ref a_p0_right])), (a_p0_left, .inr (5, [.ref a_p0_left_limbs, .int p0_left_size])), (a_p0_left_limbs, .inl (cJ, 160, .inr (.inl p0_left_limbs))), (a_p0_right, .inr (5, [.ref a_p0_right_limbs, .int p0_right_size])), (a_p0_right_limbs, .inl (cJ, 160, .inr (.inl p0_right_limbs))), (a_p1, .inr (9, [.int p1_kind, .int p1_minus, .long p1_m, .int p1_e, .int p1_narrowBelow])), (a_p2, .inr (9, [.int p2_kind, .int p2_minus, .long p2_m, .int p2_e, .int p2_narrowBelow]))] → va_S A s.heap H locs → lv_has ls 8 [(0, .ref a_p0), (1, .ref a_p1), (2, .ref a_p2), (3, .int v3), (4, .int v4), (5, .int v5)] → W p l e (rmz 5 129) s m ar below meth c H locs 0 0 Q (F0 m 37 ls [.int s0]) := by
    intro v3 v4 v5 s0 p0_left_size p0_left_limbs p0_right_size p0_right_limbs H locs ls hf hP hD hS hl
    unfold f_X0_quotient_B37 at hf
    refine lv_istore (lv' := [(6, .int s0), (0, .ref a_p0), (1, .ref a_p1), (2, .ref a_p2), (3, .int v3), (4, .int v4), (5, .int v5)]) hx hb dX0_quotient_37 hl (by decide) rfl (fun ls hl => ?_)
    refine lv_aload_n hx hb dX0_quotient_39 rfl (lv_at hl 2 rfl) ?_
    refine va_get (D := D) (ci := 9) (v := .int p1_kind) (C := RX8) (T := TX8) (N := 5) hx hb hts uwX8 hown hK hP 5 rfl rfl 0 (by decide) (hts _ kfX0_18) (fun _ h9 => h9) rfl dX0_quotient_40 ?_
    refine lv_iconst (v := 3) hx hb dX0_quotient_43 (by decide) ?_
    refine lv_icmp_ne (tgt := 59) hx hb dX0_quotient_44 (by decide) (fun hc22 => ?_) (fun hc22 => ?_)
    · have hf := ifF hc22 hf
      exact keyB59 v3 v4 v5 s0 p0_left_size p0_left_limbs p0_right_size p0_right_limbs H locs ls hf hP hD hS (lv_sub hl [1, 2, 3, 4, 5, 6, 0] rfl)
    · have hf := ifT hc22 hf
      refine lv_aload_n hx hb dX0_quotient_47 rfl (lv_at hl 3 rfl) ?_
      refine va_get (D := D) (ci := 9) (v := .int p2_kind) (C := RX8) (T := TX8) (N := 5) hx hb hts uwX8 hown hK hP 6 rfl rfl 0 (by decide) (hts _ kfX0_18) (fun _ h9 => h9) rfl dX0_quotient_48 ?_
      refine lv_iconst (v := 3) hx hb dX0_quotient_51 (by decide) ?_
      refine lv_icmp_ne (tgt := 59) hx hb dX0_quotient_52 (by decide) (fun hc21 => ?_) (fun hc21 => ?_)
      · have hf := ifF hc21 hf
        exact keyB59 v3 v4 v5 s0 p0_left_size p0_left_limbs p0_right_size p0_right_limbs H locs ls hf hP hD hS (lv_sub hl [1, 2, 3, 4, 5, 6, 0] rfl)
      · have hf := ifT hc21 hf
        refine lv_iconst (v := 1) hx hb dX0_quotient_55 (by decide) ?_
        refine lv_goto (tgt := 60) hx hb dX0_quotient_56 (by decide) ?_
        exact keyB60 v3 v4 v5 s0 (1 : Int32) p0_left_size p0_left_limbs p0_right_size p0_right_limbs H locs ls hf hP hD hS (lv_sub hl [1, 2, 3, 4, 5, 6, 0] rfl)
  have keyB36 : ∀ (v3 : Int32) (v4 : Int32) (v5 : Int32) (p0_left_size : Int32) (p0_left_limbs : (Nat → Int64)) (p0_right_size : Int32) (p0_right_limbs : (Nat → Int64)) (H : Heap) (locs : List Loc) (ls : Array Slot), f_X0_quotient_B36 p1_kind p1_minus p1_m p1_e p2_kind p2_minus p2_m p2_e v3 v4 v5 p0_left_size p0_left_limbs p0_right_size p0_right_limbs = some u → va_P D vwCl [(a_p0, .inr (2, [.ref a_p0_left, .ref a_p0_right])), (a_p0_left, .inr (5, [.ref a_p0_left_limbs, .int p0_left_size])), (a_p0_left_limbs, .inl (cJ, 160, .inr (.inl p0_left_limbs))), (a_p0_right, .inr (5, [.ref a_p0_right_limbs, .int p0_right_size])), (a_p0_right_limbs, .inl (cJ, 160, .inr (.inl p0_right_limbs))), (a_p1, .inr (9, [.int p1_kind, .int p1_minus, .long p1_m, .int p1_e, .int p1_narrowBelow])), (a_p2, .inr (9, [.int p2_kind, .int p2_minus, .long p2_m, .int p2_e, .int p2_narrowBelow]))] H → va_D A [(a_p0, .inr (2, [.ref a_p0_left, .ref a_p0_right])), (a_p0_left, .inr (5, [.ref a_p0_left_limbs, .int p0_left_size])), (a_p0_left_limbs, .inl (cJ, 160, .inr (.inl p0_left_limbs))), (a_p0_right, .inr (5, [.ref a_p0_right_limbs, .int p0_right_size])), (a_p0_right_limbs, .inl (cJ, 160, .inr (.inl p0_right_limbs))), (a_p1, .inr (9, [.int p1_kind, .int p1_minus, .long p1_m, .int p1_e, .int p1_narrowBelow])), (a_p2, .inr (9, [.int p2_kind, .int p2_minus, .long p2_m, .int p2_e, .int p2_narrowBelow]))] → va_S A s.heap H locs → lv_has ls 8 [(0, .ref a_p0), (1, .ref a_p1), (2, .ref a_p2), (3, .int v3), (4, .int v4), (5, .int v5)] → W p l e (rmz 5 129) s m ar below meth c H locs 0 0 Q (F0 m 36 ls []) := by
    intro v3 v4 v5 p0_left_size p0_left_limbs p0_right_size p0_right_limbs H locs ls hf hP hD hS hl
    unfold f_X0_quotient_B36 at hf
    refine lv_iconst (v := 0) hx hb dX0_quotient_36 (by decide) ?_
    exact keyB37 v3 v4 v5 (0 : Int32) p0_left_size p0_left_limbs p0_right_size p0_right_limbs H locs ls hf hP hD hS (lv_sub hl [0, 1, 2, 3, 4, 5] rfl)
  have keyB16 : ∀ (v3 : Int32) (v4 : Int32) (s0 : Int32) (p0_left_size : Int32) (p0_left_limbs : (Nat → Int64)) (p0_right_size : Int32) (p0_right_limbs : (Nat → Int64)) (H : Heap) (locs : List Loc) (ls : Array Slot), f_X0_quotient_B16 p1_kind p1_minus p1_m p1_e p2_kind p2_minus p2_m p2_e v3 v4 s0 p0_left_size p0_left_limbs p0_right_size p0_right_limbs = some u → va_P D vwCl [(a_p0, .inr (2, [.ref a_p0_left, .ref a_p0_right])), (a_p0_left, .inr (5, [.ref a_p0_left_limbs, .int p0_left_size])), (a_p0_left_limbs, .inl (cJ, 160, .inr (.inl p0_left_limbs))), (a_p0_right, .inr (5, [.ref a_p0_right_limbs, .int p0_right_size])), (a_p0_right_limbs, .inl (cJ, 160, .inr (.inl p0_right_limbs))), (a_p1, .inr (9, [.int p1_kind, .int p1_minus, .long p1_m, .int p1_e, .int p1_narrowBelow])), (a_p2, .inr (9, [.int p2_kind, .int p2_minus, .long p2_m, .int p2_e, .int p2_narrowBelow]))] H → va_D A [(a_p0, .inr (2, [.ref a_p0_left, .ref a_p0_right])), (a_p0_left, .inr (5, [.ref a_p0_left_limbs, .int p0_left_size])), (a_p0_left_limbs, .inl (cJ, 160, .inr (.inl p0_left_limbs))), (a_p0_right, .inr (5, [.ref a_p0_right_limbs, .int p0_right_size])), (a_p0_right_limbs, .inl (cJ, 160, .inr (.inl p0_right_limbs))), (a_p1, .inr (9, [.int p1_kind, .int p1_minus, .long p1_m, .int p1_e, .int p1_narrowBelow])), (a_p2, .inr (9, [.int p2_kind, .int p2_minus, .long p2_m, .int p2_e, .int p2_narrowBelow]))] → va_S A s.heap H locs → lv_has ls 8 [(0, .ref a_p0), (1, .ref a_p1), (2, .ref a_p2), (3, .int v3), (4, .int v4)] → W p l e (rmz 5 129) s m ar below meth c H locs 0 0 Q (F0 m 16 ls [.int s0]) := by
    intro v3 v4 s0 p0_left_size p0_left_limbs p0_right_size p0_right_limbs H locs ls hf hP hD hS hl
    unfold f_X0_quotient_B16 at hf
    refine lv_istore (lv' := [(5, .int s0), (0, .ref a_p0), (1, .ref a_p1), (2, .ref a_p2), (3, .int v3), (4, .int v4)]) hx hb dX0_quotient_16 hl (by decide) rfl (fun ls hl => ?_)
    refine lv_aload_n hx hb dX0_quotient_18 rfl (lv_at hl 2 rfl) ?_
    refine va_get (D := D) (ci := 9) (v := .int p1_kind) (C := RX8) (T := TX8) (N := 5) hx hb hts uwX8 hown hK hP 5 rfl rfl 0 (by decide) (hts _ kfX0_18) (fun _ h9 => h9) rfl dX0_quotient_19 ?_
    refine lv_if_ne (tgt := 36) hx hb dX0_quotient_22 (by decide) (fun hc24 => ?_) (fun hc24 => ?_)
    · have hf := ifF hc24 hf
      exact keyB36 v3 v4 s0 p0_left_size p0_left_limbs p0_right_size p0_right_limbs H locs ls hf hP hD hS (lv_sub hl [1, 2, 3, 4, 5, 0] rfl)
    · have hf := ifT hc24 hf
      refine lv_aload_n hx hb dX0_quotient_25 rfl (lv_at hl 3 rfl) ?_
      refine va_get (D := D) (ci := 9) (v := .int p2_kind) (C := RX8) (T := TX8) (N := 5) hx hb hts uwX8 hown hK hP 6 rfl rfl 0 (by decide) (hts _ kfX0_18) (fun _ h9 => h9) rfl dX0_quotient_26 ?_
      refine lv_if_ne (tgt := 36) hx hb dX0_quotient_29 (by decide) (fun hc23 => ?_) (fun hc23 => ?_)
      · have hf := ifF hc23 hf
        exact keyB36 v3 v4 s0 p0_left_size p0_left_limbs p0_right_size p0_right_limbs H locs ls hf hP hD hS (lv_sub hl [1, 2, 3, 4, 5, 0] rfl)
      · have hf := ifT hc23 hf
        refine lv_iconst (v := 1) hx hb dX0_quotient_32 (by decide) ?_
        refine lv_goto (tgt := 37) hx hb dX0_quotient_33 (by decide) ?_
        exact keyB37 v3 v4 s0 (1 : Int32) p0_left_size p0_left_limbs p0_right_size p0_right_limbs H locs ls hf hP hD hS (lv_sub hl [1, 2, 3, 4, 5, 0] rfl)
  unfold f_X0_quotient at hf
  refine lv_aload_n hx hb dX0_quotient_0 rfl (lv_at hl 1 rfl) ?_
  refine va_get (D := D) (ci := 9) (v := .int p1_minus) (C := RX8) (T := TX8) (N := 5) hx hb hts uwX8 hown hK hP 5 rfl rfl 1 (by decide) (hts _ kfX0_30) (fun _ h9 => h9) rfl dX0_quotient_1 ?_
  refine lv_aload_n hx hb dX0_quotient_4 rfl (lv_at hl 2 rfl) ?_
  refine va_get (D := D) (ci := 9) (v := .int p2_minus) (C := RX8) (T := TX8) (N := 5) hx hb hts uwX8 hown hK hP 6 rfl rfl 1 (by decide) (hts _ kfX0_30) (fun _ h9 => h9) rfl dX0_quotient_5 ?_
  refine lv_icmp_eq (tgt := 15) hx hb dX0_quotient_8 (by decide) (fun hc25 => ?_) (fun hc25 => ?_)
  · have hf := ifT hc25 hf
    refine lv_iconst (v := 0) hx hb dX0_quotient_15 (by decide) ?_
    exact keyB16 p3 p4 (0 : Int32) p0_left_size p0_left_limbs p0_right_size p0_right_limbs H locs ls hf hP hD hS (lv_sub hl [0, 1, 2, 3, 4] rfl)
  · have hf := ifF hc25 hf
    refine lv_iconst (v := 1) hx hb dX0_quotient_11 (by decide) ?_
    refine lv_goto (tgt := 16) hx hb dX0_quotient_12 (by decide) ?_
    exact keyB16 p3 p4 (1 : Int32) p0_left_size p0_left_limbs p0_right_size p0_right_limbs H locs ls hf hP hD hS (lv_sub hl [0, 1, 2, 3, 4] rfl)
