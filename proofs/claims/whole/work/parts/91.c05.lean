set_option maxRecDepth 100000 in
set_option maxHeartbeats 4000000 in
theorem c_X2_beside (l : Launch) (D : va_G) (cI cJ : ClassId) (p0 : Int32) (p1 : Int64) (p2 : Int32)  (u : Int64) (hf : f_X2_beside p0 p1 p2 = some u) : CtL l yX2_beside cX2_beside 9 2 43 [.int p0, .long p1, .int p2] D cI cJ [] [] u := by
  refine mkL (own := RX2) rfl (by decide +kernel) (Nat.le_of_ble_eq_true rfl) (lv := [(0, .int p0), (1, .long p1), (3, .int p2)]) rfl ?_
  intro p e s m below meth c Q A ls ar S hA hK hN hret H locs hP hD hS hl
  obtain ⟨hx, hb, hml, hown, hts⟩ := id S
  have hret : ∀ (w : Int64), w = u → ∀ (H : Heap) (locs : List Loc) (ls : Array Slot) (pc : Nat), decode cX2_beside pc = .ok (.lreturn, 1) → va_P D vwCl [] H → va_D A [] → va_S A s.heap H locs → W p l e (rmz 2 43) s m ar below meth c H locs 0 0 Q (F0 m pc ls [.long w]) := fun w hw => hw ▸ hret
  have keyB59 : ∀ (s0 : Int32) (s1 : Int32) (H : Heap) (locs : List Loc) (ls : Array Slot), f_X2_beside_B59 s0 s1 = some u → va_P D vwCl [] H → va_D A [] → va_S A s.heap H locs → lv_has ls 9 [] → W p l e (rmz 2 43) s m ar below meth c H locs 0 0 Q (F0 m 59 ls [.int s1, .int s0]) := by
    intro s0 s1 H locs ls hf hP hD hS hl
    unfold f_X2_beside_B59 at hf
    refine lv_lconst (v := 1) hx hb dX2_beside_59 (by decide) ?_
    obtain ⟨u11, hu12, hf⟩ := bdE hf
    refine cS_L (ws' := []) (rest := []) S hK hN hA hP hD hS (c_X2_signed l D cI cJ  s0 s1 (1 : Int64)  u11 hu12) mwX2_signed msX2_signed kmX2_25 [] rfl (by decide) rfl rfl rfl ⟨Nat.le_of_ble_eq_true rfl, Nat.le_of_ble_eq_true rfl⟩ ⟨Nat.zero_le _, Nat.zero_le _⟩ hl.1 rfl rfl (Nat.le_of_ble_eq_true rfl) dX2_beside_60 (fun H locs hP hD hS => ?_)
    exact hret _ (opE hf) H locs ls 63 dX2_beside_63 hP hD hS
  have keyB24 : ∀ (v0 : Int32) (v1 : Int64) (v3 : Int32) (v4 : Int64) (s0 : Int32) (H : Heap) (locs : List Loc) (ls : Array Slot), f_X2_beside_B24 v0 v1 v3 v4 s0 = some u → va_P D vwCl [] H → va_D A [] → va_S A s.heap H locs → lv_has ls 9 [(0, .int v0), (1, .long v1), (3, .int v3), (4, .long v4)] → W p l e (rmz 2 43) s m ar below meth c H locs 0 0 Q (F0 m 24 ls [.int s0]) := by
    intro v0 v1 v3 v4 s0 H locs ls hf hP hD hS hl
    unfold f_X2_beside_B24 at hf
    refine lv_istore (lv' := [(6, .int s0), (0, .int v0), (1, .long v1), (3, .int v3), (4, .long v4)]) hx hb dX2_beside_24 hl (by decide) rfl (fun ls hl => ?_)
    refine lv_iload_n hx hb dX2_beside_26 rfl (lv_at hl 1 rfl) ?_
    obtain ⟨u3, hu4, hf⟩ := bdE hf
    refine cS_L (ws' := []) (rest := []) S hK hN hA hP hD hS (c_X2_endlessSize l D cI cJ  v0  u3 hu4) mwX2_endlessSize msX2_endlessSize kmX2_29 [] rfl (by decide) rfl rfl rfl ⟨Nat.le_of_ble_eq_true rfl, Nat.le_of_ble_eq_true rfl⟩ ⟨Nat.zero_le _, Nat.zero_le _⟩ hl.1 rfl rfl (Nat.le_of_ble_eq_true rfl) dX2_beside_27 (fun H locs hP hD hS => ?_)
    refine lv_lstore (lv' := [(7, .long u3), (6, .int s0), (0, .int v0), (1, .long v1), (3, .int v3), (4, .long v4)]) hx hb dX2_beside_30 hl (by decide) rfl (fun ls hl => ?_)
    refine lv_lload hx hb dX2_beside_32 (lv_at hl 5 rfl) ?_
    refine lv_lload hx hb dX2_beside_34 (lv_at hl 0 rfl) ?_
    refine W.lcmp hx hb dX2_beside_36 ?_
    refine lv_if_le (tgt := 42) hx hb dX2_beside_37 (by decide) (fun hc15 => ?_) (fun hc15 => ?_)
    · have hf := ifT hc15 hf
      refine lv_lload hx hb dX2_beside_42 (lv_at hl 5 rfl) ?_
      refine lv_lconst (v := 0) hx hb dX2_beside_44 (by decide) ?_
      refine W.lcmp hx hb dX2_beside_45 ?_
      refine lv_if_ne (tgt := 64) hx hb dX2_beside_46 (by decide) (fun hc14 => ?_) (fun hc14 => ?_)
      · have hf := ifF hc14 hf
        refine lv_iload_n hx hb dX2_beside_64 rfl (lv_at hl 4 rfl) ?_
        refine lv_iload hx hb dX2_beside_65 (lv_at hl 1 rfl) ?_
        refine lv_icmp_ne (tgt := 81) hx hb dX2_beside_67 (by decide) (fun hc10 => ?_) (fun hc10 => ?_)
        · have hf := ifF hc10 hf
          refine lv_lload hx hb dX2_beside_81 (lv_at hl 5 rfl) ?_
          refine lv_lload hx hb dX2_beside_83 (lv_at hl 0 rfl) ?_
          refine W.lcmp hx hb dX2_beside_85 ?_
          refine lv_if_ne (tgt := 93) hx hb dX2_beside_86 (by decide) (fun hc7 => ?_) (fun hc7 => ?_)
          · have hf := ifF hc7 hf
            refine lv_iload_n hx hb dX2_beside_93 rfl (lv_at hl 2 rfl) ?_
            refine lv_iload hx hb dX2_beside_94 (lv_at hl 1 rfl) ?_
            refine lv_lload hx hb dX2_beside_96 (lv_at hl 5 rfl) ?_
            refine lv_lconst (v := 1) hx hb dX2_beside_98 (by decide) ?_
            refine lv_ladd hx hb dX2_beside_99 ?_
            obtain ⟨u5, hu6, hf⟩ := bdE hf
            refine cS_L (ws' := []) (rest := []) S hK hN hA hP hD hS (c_X2_signed l D cI cJ  v0 s0 (v4 + (1 : Int64))  u5 hu6) mwX2_signed msX2_signed kmX2_25 [] rfl (by decide) rfl rfl rfl ⟨Nat.le_of_ble_eq_true rfl, Nat.le_of_ble_eq_true rfl⟩ ⟨Nat.zero_le _, Nat.zero_le _⟩ hl.1 rfl rfl (Nat.le_of_ble_eq_true rfl) dX2_beside_100 (fun H locs hP hD hS => ?_)
            exact hret _ (opE hf) H locs ls 103 dX2_beside_103 hP hD hS
          · have hf := ifT hc7 hf
            refine lv_lload_n hx hb dX2_beside_89 rfl (lv_at hl 3 rfl) ?_
            refine lv_goto (tgt := 103) hx hb dX2_beside_90 (by decide) ?_
            exact hret _ (opE hf) H locs ls 103 dX2_beside_103 hP hD hS
        · have hf := ifT hc10 hf
          refine lv_iload_n hx hb dX2_beside_70 rfl (lv_at hl 2 rfl) ?_
          refine lv_iload hx hb dX2_beside_71 (lv_at hl 1 rfl) ?_
          refine lv_lload hx hb dX2_beside_73 (lv_at hl 5 rfl) ?_
          refine lv_lconst (v := 1) hx hb dX2_beside_75 (by decide) ?_
          refine lv_lsub hx hb dX2_beside_76 ?_
          obtain ⟨u8, hu9, hf⟩ := bdE hf
          refine cS_L (ws' := []) (rest := []) S hK hN hA hP hD hS (c_X2_signed l D cI cJ  v0 s0 (v4 - (1 : Int64))  u8 hu9) mwX2_signed msX2_signed kmX2_25 [] rfl (by decide) rfl rfl rfl ⟨Nat.le_of_ble_eq_true rfl, Nat.le_of_ble_eq_true rfl⟩ ⟨Nat.zero_le _, Nat.zero_le _⟩ hl.1 rfl rfl (Nat.le_of_ble_eq_true rfl) dX2_beside_77 (fun H locs hP hD hS => ?_)
          exact hret _ (opE hf) H locs ls 80 dX2_beside_80 hP hD hS
      · have hf := ifT hc14 hf
        refine lv_iload_n hx hb dX2_beside_49 rfl (lv_at hl 2 rfl) ?_
        refine lv_iload_n hx hb dX2_beside_50 rfl (lv_at hl 4 rfl) ?_
        refine lv_if_ne (tgt := 58) hx hb dX2_beside_51 (by decide) (fun hc13 => ?_) (fun hc13 => ?_)
        · have hf := ifF hc13 hf
          refine lv_iconst (v := 0) hx hb dX2_beside_58 (by decide) ?_
          exact keyB59 v0 (0 : Int32) H locs ls hf hP hD hS (lv_sub hl [] rfl)
        · have hf := ifT hc13 hf
          refine lv_iconst (v := 1) hx hb dX2_beside_54 (by decide) ?_
          refine lv_goto (tgt := 59) hx hb dX2_beside_55 (by decide) ?_
          exact keyB59 v0 (1 : Int32) H locs ls hf hP hD hS (lv_sub hl [] rfl)
    · have hf := ifF hc15 hf
      refine lv_lload_n hx hb dX2_beside_40 rfl (lv_at hl 3 rfl) ?_
      exact hret _ (opE hf) H locs ls 41 dX2_beside_41 hP hD hS
  unfold f_X2_beside at hf
  refine lv_lload_n hx hb dX2_beside_0 rfl (lv_at hl 1 rfl) ?_
  refine lv_iload_n hx hb dX2_beside_1 rfl (lv_at hl 0 rfl) ?_
  obtain ⟨u1, hu2, hf⟩ := bdE hf
  refine cS_L (ws' := []) (rest := [.long p1]) S hK hN hA hP hD hS (c_X2_signBit l D cI cJ  p0  u1 hu2) mwX2_signBit msX2_signBit kmX2_19 [] rfl (by decide) rfl rfl rfl ⟨Nat.le_of_ble_eq_true rfl, Nat.le_of_ble_eq_true rfl⟩ ⟨Nat.zero_le _, Nat.zero_le _⟩ hl.1 rfl rfl (Nat.le_of_ble_eq_true rfl) dX2_beside_2 (fun H locs hP hD hS => ?_)
  refine lv_ldc2 hx hb hown (hts _ kcX2_36) dX2_beside_5 ?_
  refine lv_lxor hx hb dX2_beside_8 ?_
  refine lv_land hx hb dX2_beside_9 ?_
  refine lv_lstore (lv' := [(4, .long (p1 &&& (u1 ^^^ (-1 : Int64)))), (0, .int p0), (1, .long p1), (3, .int p2)]) hx hb dX2_beside_10 hl (by decide) rfl (fun ls hl => ?_)
  refine lv_lload hx hb dX2_beside_12 (lv_at hl 0 rfl) ?_
  refine lv_lload_n hx hb dX2_beside_14 rfl (lv_at hl 2 rfl) ?_
  refine W.lcmp hx hb dX2_beside_15 ?_
  refine lv_if_eq (tgt := 23) hx hb dX2_beside_16 (by decide) (fun hc16 => ?_) (fun hc16 => ?_)
  · have hf := ifT hc16 hf
    refine lv_iconst (v := 0) hx hb dX2_beside_23 (by decide) ?_
    exact keyB24 p0 p1 p2 (p1 &&& (u1 ^^^ (-1 : Int64))) (0 : Int32) H locs ls hf hP hD hS (lv_sub hl [1, 2, 3, 0] rfl)
  · have hf := ifF hc16 hf
    refine lv_iconst (v := 1) hx hb dX2_beside_19 (by decide) ?_
    refine lv_goto (tgt := 24) hx hb dX2_beside_20 (by decide) ?_
    exact keyB24 p0 p1 p2 (p1 &&& (u1 ^^^ (-1 : Int64))) (1 : Int32) H locs ls hf hP hD hS (lv_sub hl [1, 2, 3, 0] rfl)
set_option maxRecDepth 100000 in
set_option maxHeartbeats 4000000 in
theorem c_X6_begin (l : Launch) (D : va_G) (cI cJ : ClassId) (a_p0 a_p0_left a_p0_unit a_p0_reach a_p0_work a_p0_left_limbs a_p0_unit_limbs a_p0_reach_limbs a_p1 : Nat) (p0_even : Int32) (p0_narrow : Int32) (p0_left_size : Int32) (p0_left_limbs : (Nat → Int64)) (p0_unit_size : Int32) (p0_unit_limbs : (Nat → Int64)) (p0_reach_size : Int32) (p0_reach_limbs : (Nat → Int64)) (p1_kind : Int32) (p1_minus : Int32) (p1_m : Int64) (p1_e : Int32) (p1_narrowBelow : Int32) (u : Int32 × Int32 × Int32 × (Nat → Int64) × Int32 × (Nat → Int64) × Int32 × (Nat → Int64)) (hf : f_X6_begin p1_m p1_e p1_narrowBelow p0_even p0_narrow p0_left_size p0_left_limbs p0_unit_size p0_unit_limbs p0_reach_size p0_reach_limbs = some u) : CtV l yX6_begin cX6_begin 4 2 45 [.ref a_p0, .ref a_p1] D cI cJ [(a_p0, .inr (7, [.ref a_p0_left, .ref a_p0_unit, .ref a_p0_reach, .ref a_p0_work, .int p0_even, .int p0_narrow])), (a_p0_left, .inr (5, [.ref a_p0_left_limbs, .int p0_left_size])), (a_p0_left_limbs, .inl (cJ, 160, .inr (.inl p0_left_limbs))), (a_p0_unit, .inr (5, [.ref a_p0_unit_limbs, .int p0_unit_size])), (a_p0_unit_limbs, .inl (cJ, 160, .inr (.inl p0_unit_limbs))), (a_p0_reach, .inr (5, [.ref a_p0_reach_limbs, .int p0_reach_size])), (a_p0_reach_limbs, .inl (cJ, 160, .inr (.inl p0_reach_limbs))), (a_p1, .inr (9, [.int p1_kind, .int p1_minus, .long p1_m, .int p1_e, .int p1_narrowBelow]))] [(a_p0, .inr (7, [.ref a_p0_left, .ref a_p0_unit, .ref a_p0_reach, .ref a_p0_work, .int u.1, .int u.2.1])), (a_p0_left, .inr (5, [.ref a_p0_left_limbs, .int u.2.2.1])), (a_p0_left_limbs, .inl (cJ, 160, .inr (.inl u.2.2.2.1))), (a_p0_unit, .inr (5, [.ref a_p0_unit_limbs, .int u.2.2.2.2.1])), (a_p0_unit_limbs, .inl (cJ, 160, .inr (.inl u.2.2.2.2.2.1))), (a_p0_reach, .inr (5, [.ref a_p0_reach_limbs, .int u.2.2.2.2.2.2.1])), (a_p0_reach_limbs, .inl (cJ, 160, .inr (.inl u.2.2.2.2.2.2.2))), (a_p1, .inr (9, [.int p1_kind, .int p1_minus, .long p1_m, .int p1_e, .int p1_narrowBelow]))] := by
  refine mkV (own := RX6) rfl (by decide +kernel) (Nat.le_of_ble_eq_true rfl) (lv := [(0, .ref a_p0), (1, .ref a_p1)]) rfl ?_
  intro p e s m below meth c Q A ls ar S hA hK hN hret H locs hP hD hS hl
  obtain ⟨hx, hb, hml, hown, hts⟩ := id S
  have hret : ∀ (w : Int32 × Int32 × Int32 × (Nat → Int64) × Int32 × (Nat → Int64) × Int32 × (Nat → Int64)), w = u → ∀ (H : Heap) (locs : List Loc) (ls : Array Slot) (pc : Nat), decode cX6_begin pc = .ok (.return_, 1) → va_P D vwCl [(a_p0, .inr (7, [.ref a_p0_left, .ref a_p0_unit, .ref a_p0_reach, .ref a_p0_work, .int w.1, .int w.2.1])), (a_p0_left, .inr (5, [.ref a_p0_left_limbs, .int w.2.2.1])), (a_p0_left_limbs, .inl (cJ, 160, .inr (.inl w.2.2.2.1))), (a_p0_unit, .inr (5, [.ref a_p0_unit_limbs, .int w.2.2.2.2.1])), (a_p0_unit_limbs, .inl (cJ, 160, .inr (.inl w.2.2.2.2.2.1))), (a_p0_reach, .inr (5, [.ref a_p0_reach_limbs, .int w.2.2.2.2.2.2.1])), (a_p0_reach_limbs, .inl (cJ, 160, .inr (.inl w.2.2.2.2.2.2.2))), (a_p1, .inr (9, [.int p1_kind, .int p1_minus, .long p1_m, .int p1_e, .int p1_narrowBelow]))] H → va_D A [(a_p0, .inr (7, [.ref a_p0_left, .ref a_p0_unit, .ref a_p0_reach, .ref a_p0_work, .int w.1, .int w.2.1])), (a_p0_left, .inr (5, [.ref a_p0_left_limbs, .int w.2.2.1])), (a_p0_left_limbs, .inl (cJ, 160, .inr (.inl w.2.2.2.1))), (a_p0_unit, .inr (5, [.ref a_p0_unit_limbs, .int w.2.2.2.2.1])), (a_p0_unit_limbs, .inl (cJ, 160, .inr (.inl w.2.2.2.2.2.1))), (a_p0_reach, .inr (5, [.ref a_p0_reach_limbs, .int w.2.2.2.2.2.2.1])), (a_p0_reach_limbs, .inl (cJ, 160, .inr (.inl w.2.2.2.2.2.2.2))), (a_p1, .inr (9, [.int p1_kind, .int p1_minus, .long p1_m, .int p1_e, .int p1_narrowBelow]))] → va_S A s.heap H locs → W p l e (rmz 2 45) s m ar below meth c H locs 0 0 Q (F0 m pc ls []) := fun w hw => hw ▸ hret
  have keyB40 : ∀ (s0 : Int32) (p0_even : Int32) (p0_narrow : Int32) (p0_left_size : Int32) (p0_left_limbs : (Nat → Int64)) (p0_unit_size : Int32) (p0_unit_limbs : (Nat → Int64)) (p0_reach_size : Int32) (p0_reach_limbs : (Nat → Int64)) (H : Heap) (locs : List Loc) (ls : Array Slot), f_X6_begin_B40 p1_m p1_e p1_narrowBelow s0 p0_even p0_narrow p0_left_size p0_left_limbs p0_unit_size p0_unit_limbs p0_reach_size p0_reach_limbs = some u → va_P D vwCl [(a_p0, .inr (7, [.ref a_p0_left, .ref a_p0_unit, .ref a_p0_reach, .ref a_p0_work, .int p0_even, .int p0_narrow])), (a_p0_left, .inr (5, [.ref a_p0_left_limbs, .int p0_left_size])), (a_p0_left_limbs, .inl (cJ, 160, .inr (.inl p0_left_limbs))), (a_p0_unit, .inr (5, [.ref a_p0_unit_limbs, .int p0_unit_size])), (a_p0_unit_limbs, .inl (cJ, 160, .inr (.inl p0_unit_limbs))), (a_p0_reach, .inr (5, [.ref a_p0_reach_limbs, .int p0_reach_size])), (a_p0_reach_limbs, .inl (cJ, 160, .inr (.inl p0_reach_limbs))), (a_p1, .inr (9, [.int p1_kind, .int p1_minus, .long p1_m, .int p1_e, .int p1_narrowBelow]))] H → va_D A [(a_p0, .inr (7, [.ref a_p0_left, .ref a_p0_unit, .ref a_p0_reach, .ref a_p0_work, .int p0_even, .int p0_narrow])), (a_p0_left, .inr (5, [.ref a_p0_left_limbs, .int p0_left_size])), (a_p0_left_limbs, .inl (cJ, 160, .inr (.inl p0_left_limbs))), (a_p0_unit, .inr (5, [.ref a_p0_unit_limbs, .int p0_unit_size])), (a_p0_unit_limbs, .inl (cJ, 160, .inr (.inl p0_unit_limbs))), (a_p0_reach, .inr (5, [.ref a_p0_reach_limbs, .int p0_reach_size])), (a_p0_reach_limbs, .inl (cJ, 160, .inr (.inl p0_reach_limbs))), (a_p1, .inr (9, [.int p1_kind, .int p1_minus, .long p1_m, .int p1_e, .int p1_narrowBelow]))] → va_S A s.heap H locs → lv_has ls 4 [(0, .ref a_p0), (1, .ref a_p1)] → W p l e (rmz 2 45) s m ar below meth c H locs 0 0 Q (F0 m 40 ls [.int s0]) := by
    intro s0 p0_even p0_narrow p0_left_size p0_left_limbs p0_unit_size p0_unit_limbs p0_reach_size p0_reach_limbs H locs ls hf hP hD hS hl
    unfold f_X6_begin_B40 at hf
    refine lv_istore_n (lv' := [(2, .int s0), (0, .ref a_p0), (1, .ref a_p1)]) hx hb dX6_begin_40 rfl hl (by decide) rfl (fun ls hl => ?_)
    refine lv_aload_n hx hb dX6_begin_41 rfl (lv_at hl 2 rfl) ?_
    refine va_get (D := D) (ci := 9) (v := .int p1_e) (C := RX8) (T := TX8) (N := 5) hx hb hts uwX8 hown hK hP 7 rfl rfl 3 (by decide) (hts _ kfX6_86) (fun _ h9 => h9) rfl dX6_begin_42 ?_
    refine lv_iload_n hx hb dX6_begin_45 rfl (lv_at hl 0 rfl) ?_
    refine lv_isub hx hb dX6_begin_46 ?_
    refine lv_istore_n (lv' := [(3, .int (p1_e - s0)), (2, .int s0), (0, .ref a_p0), (1, .ref a_p1)]) hx hb dX6_begin_47 rfl hl (by decide) rfl (fun ls hl => ?_)
    refine lv_aload_n hx hb dX6_begin_48 rfl (lv_at hl 2 rfl) ?_
    refine va_get (D := D) (ci := 7) (v := .ref a_p0_left) (C := RX6) (T := TX6) (N := 6) hx hb hts uwX6 hown hK hP 0 rfl rfl 0 (by decide) (hts _ kfX6_19) (fun _ h9 => h9) rfl dX6_begin_49 ?_
    refine lv_aload_n hx hb dX6_begin_52 rfl (lv_at hl 3 rfl) ?_
    refine va_get (D := D) (ci := 9) (v := .long p1_m) (C := RX8) (T := TX8) (N := 5) hx hb hts uwX8 hown hK hP 7 rfl rfl 2 (by decide) (hts _ kfX6_70) (fun _ h9 => h9) rfl dX6_begin_53 ?_
    refine lv_iload_n hx hb dX6_begin_56 rfl (lv_at hl 1 rfl) ?_
    refine lv_lshl (v := lsh p1_m s0) hx hb dX6_begin_57 rfl ?_
    obtain ⟨u3, hu4, hf⟩ := bdE hf
    refine cV_V (ws' := [(a_p0, .inr (7, [.ref a_p0_left, .ref a_p0_unit, .ref a_p0_reach, .ref a_p0_work, .int p0_even, .int p0_narrow])), (a_p0_left, .inr (5, [.ref a_p0_left_limbs, .int u3.1])), (a_p0_left_limbs, .inl (cJ, 160, .inr (.inl u3.2))), (a_p0_unit, .inr (5, [.ref a_p0_unit_limbs, .int p0_unit_size])), (a_p0_unit_limbs, .inl (cJ, 160, .inr (.inl p0_unit_limbs))), (a_p0_reach, .inr (5, [.ref a_p0_reach_limbs, .int p0_reach_size])), (a_p0_reach_limbs, .inl (cJ, 160, .inr (.inl p0_reach_limbs))), (a_p1, .inr (9, [.int p1_kind, .int p1_minus, .long p1_m, .int p1_e, .int p1_narrowBelow]))]) (rest := []) S hK hN hA hP hD hS (c_X4_take l D cI cJ a_p0_left a_p0_left_limbs (lsh p1_m s0) p0_left_size p0_left_limbs u3 hu4) mwX4_take miX4_take kmX6_89 [1, 2] rfl (by decide) rfl rfl rfl 0 rfl rfl ⟨Nat.le_of_ble_eq_true rfl, Nat.le_of_ble_eq_true rfl⟩ ⟨Nat.zero_le _, Nat.zero_le _⟩ hl.1 rfl rfl (Nat.le_of_ble_eq_true rfl) dX6_begin_58 (fun H locs hP hD hS => ?_)
    refine lv_aload_n hx hb dX6_begin_61 rfl (lv_at hl 2 rfl) ?_
    refine va_get (D := D) (ci := 7) (v := .ref a_p0_reach) (C := RX6) (T := TX6) (N := 6) hx hb hts uwX6 hown hK hP 0 rfl rfl 2 (by decide) (hts _ kfX6_10) (fun _ h9 => h9) rfl dX6_begin_62 ?_
    refine lv_lconst (v := 1) hx hb dX6_begin_65 (by decide) ?_
    obtain ⟨u5, hu6, hf⟩ := bdE hf
    refine cV_V (ws' := [(a_p0, .inr (7, [.ref a_p0_left, .ref a_p0_unit, .ref a_p0_reach, .ref a_p0_work, .int p0_even, .int p0_narrow])), (a_p0_left, .inr (5, [.ref a_p0_left_limbs, .int u3.1])), (a_p0_left_limbs, .inl (cJ, 160, .inr (.inl u3.2))), (a_p0_unit, .inr (5, [.ref a_p0_unit_limbs, .int p0_unit_size])), (a_p0_unit_limbs, .inl (cJ, 160, .inr (.inl p0_unit_limbs))), (a_p0_reach, .inr (5, [.ref a_p0_reach_limbs, .int u5.1])), (a_p0_reach_limbs, .inl (cJ, 160, .inr (.inl u5.2))), (a_p1, .inr (9, [.int p1_kind, .int p1_minus, .long p1_m, .int p1_e, .int p1_narrowBelow]))]) (rest := []) S hK hN hA hP hD hS (c_X4_take l D cI cJ a_p0_reach a_p0_reach_limbs (1 : Int64) p0_reach_size p0_reach_limbs u5 hu6) mwX4_take miX4_take kmX6_89 [5, 6] rfl (by decide) rfl rfl rfl 0 rfl rfl ⟨Nat.le_of_ble_eq_true rfl, Nat.le_of_ble_eq_true rfl⟩ ⟨Nat.zero_le _, Nat.zero_le _⟩ hl.1 rfl rfl (Nat.le_of_ble_eq_true rfl) dX6_begin_66 (fun H locs hP hD hS => ?_)
    refine lv_aload_n hx hb dX6_begin_69 rfl (lv_at hl 2 rfl) ?_
    refine va_get (D := D) (ci := 7) (v := .ref a_p0_unit) (C := RX6) (T := TX6) (N := 6) hx hb hts uwX6 hown hK hP 0 rfl rfl 1 (by decide) (hts _ kfX6_22) (fun _ h9 => h9) rfl dX6_begin_70 ?_
    refine lv_lconst (v := 1) hx hb dX6_begin_73 (by decide) ?_
    obtain ⟨u7, hu8, hf⟩ := bdE hf
    refine cV_V (ws' := [(a_p0, .inr (7, [.ref a_p0_left, .ref a_p0_unit, .ref a_p0_reach, .ref a_p0_work, .int p0_even, .int p0_narrow])), (a_p0_left, .inr (5, [.ref a_p0_left_limbs, .int u3.1])), (a_p0_left_limbs, .inl (cJ, 160, .inr (.inl u3.2))), (a_p0_unit, .inr (5, [.ref a_p0_unit_limbs, .int u7.1])), (a_p0_unit_limbs, .inl (cJ, 160, .inr (.inl u7.2))), (a_p0_reach, .inr (5, [.ref a_p0_reach_limbs, .int u5.1])), (a_p0_reach_limbs, .inl (cJ, 160, .inr (.inl u5.2))), (a_p1, .inr (9, [.int p1_kind, .int p1_minus, .long p1_m, .int p1_e, .int p1_narrowBelow]))]) (rest := []) S hK hN hA hP hD hS (c_X4_take l D cI cJ a_p0_unit a_p0_unit_limbs (1 : Int64) p0_unit_size p0_unit_limbs u7 hu8) mwX4_take miX4_take kmX6_89 [3, 4] rfl (by decide) rfl rfl rfl 0 rfl rfl ⟨Nat.le_of_ble_eq_true rfl, Nat.le_of_ble_eq_true rfl⟩ ⟨Nat.zero_le _, Nat.zero_le _⟩ hl.1 rfl rfl (Nat.le_of_ble_eq_true rfl) dX6_begin_74 (fun H locs hP hD hS => ?_)
    refine lv_aload_n hx hb dX6_begin_77 rfl (lv_at hl 2 rfl) ?_
    refine va_get (D := D) (ci := 7) (v := .ref a_p0_left) (C := RX6) (T := TX6) (N := 6) hx hb hts uwX6 hown hK hP 0 rfl rfl 0 (by decide) (hts _ kfX6_19) (fun _ h9 => h9) rfl dX6_begin_78 ?_
    refine lv_iload_n hx hb dX6_begin_81 rfl (lv_at hl 0 rfl) ?_
    obtain ⟨u9, hu10, hf⟩ := bdE hf
    refine cV_V (ws' := [(a_p0, .inr (7, [.ref a_p0_left, .ref a_p0_unit, .ref a_p0_reach, .ref a_p0_work, .int p0_even, .int p0_narrow])), (a_p0_left, .inr (5, [.ref a_p0_left_limbs, .int u9.1])), (a_p0_left_limbs, .inl (cJ, 160, .inr (.inl u9.2))), (a_p0_unit, .inr (5, [.ref a_p0_unit_limbs, .int u7.1])), (a_p0_unit_limbs, .inl (cJ, 160, .inr (.inl u7.2))), (a_p0_reach, .inr (5, [.ref a_p0_reach_limbs, .int u5.1])), (a_p0_reach_limbs, .inl (cJ, 160, .inr (.inl u5.2))), (a_p1, .inr (9, [.int p1_kind, .int p1_minus, .long p1_m, .int p1_e, .int p1_narrowBelow]))]) (rest := []) S hK hN hA hP hD hS (c_X4_shiftUp l D cI cJ a_p0_left a_p0_left_limbs (p1_e - s0) u3.1 u3.2 u9 hu10) mwX4_shiftUp miX4_shiftUp kmX6_93 [1, 2] rfl (by decide) rfl rfl rfl 0 rfl rfl ⟨Nat.le_of_ble_eq_true rfl, Nat.le_of_ble_eq_true rfl⟩ ⟨Nat.zero_le _, Nat.zero_le _⟩ hl.1 rfl rfl (Nat.le_of_ble_eq_true rfl) dX6_begin_82 (fun H locs hP hD hS => ?_)
    refine lv_aload_n hx hb dX6_begin_85 rfl (lv_at hl 2 rfl) ?_
    refine va_get (D := D) (ci := 7) (v := .ref a_p0_reach) (C := RX6) (T := TX6) (N := 6) hx hb hts uwX6 hown hK hP 0 rfl rfl 2 (by decide) (hts _ kfX6_10) (fun _ h9 => h9) rfl dX6_begin_86 ?_
    refine lv_iload_n hx hb dX6_begin_89 rfl (lv_at hl 0 rfl) ?_
    obtain ⟨u11, hu12, hf⟩ := bdE hf
    refine cV_V (ws' := [(a_p0, .inr (7, [.ref a_p0_left, .ref a_p0_unit, .ref a_p0_reach, .ref a_p0_work, .int p0_even, .int p0_narrow])), (a_p0_left, .inr (5, [.ref a_p0_left_limbs, .int u9.1])), (a_p0_left_limbs, .inl (cJ, 160, .inr (.inl u9.2))), (a_p0_unit, .inr (5, [.ref a_p0_unit_limbs, .int u7.1])), (a_p0_unit_limbs, .inl (cJ, 160, .inr (.inl u7.2))), (a_p0_reach, .inr (5, [.ref a_p0_reach_limbs, .int u11.1])), (a_p0_reach_limbs, .inl (cJ, 160, .inr (.inl u11.2))), (a_p1, .inr (9, [.int p1_kind, .int p1_minus, .long p1_m, .int p1_e, .int p1_narrowBelow]))]) (rest := []) S hK hN hA hP hD hS (c_X4_shiftUp l D cI cJ a_p0_reach a_p0_reach_limbs (p1_e - s0) u5.1 u5.2 u11 hu12) mwX4_shiftUp miX4_shiftUp kmX6_93 [5, 6] rfl (by decide) rfl rfl rfl 0 rfl rfl ⟨Nat.le_of_ble_eq_true rfl, Nat.le_of_ble_eq_true rfl⟩ ⟨Nat.zero_le _, Nat.zero_le _⟩ hl.1 rfl rfl (Nat.le_of_ble_eq_true rfl) dX6_begin_90 (fun H locs hP hD hS => ?_)
    refine lv_aload_n hx hb dX6_begin_93 rfl (lv_at hl 2 rfl) ?_
    refine va_get (D := D) (ci := 7) (v := .ref a_p0_unit) (C := RX6) (T := TX6) (N := 6) hx hb hts uwX6 hown hK hP 0 rfl rfl 1 (by decide) (hts _ kfX6_22) (fun _ h9 => h9) rfl dX6_begin_94 ?_
    refine lv_iload_n hx hb dX6_begin_97 rfl (lv_at hl 0 rfl) ?_
    refine lv_ineg hx hb dX6_begin_98 ?_
    obtain ⟨u13, hu14, hf⟩ := bdE hf
    refine cV_V (ws' := [(a_p0, .inr (7, [.ref a_p0_left, .ref a_p0_unit, .ref a_p0_reach, .ref a_p0_work, .int p0_even, .int p0_narrow])), (a_p0_left, .inr (5, [.ref a_p0_left_limbs, .int u9.1])), (a_p0_left_limbs, .inl (cJ, 160, .inr (.inl u9.2))), (a_p0_unit, .inr (5, [.ref a_p0_unit_limbs, .int u13.1])), (a_p0_unit_limbs, .inl (cJ, 160, .inr (.inl u13.2))), (a_p0_reach, .inr (5, [.ref a_p0_reach_limbs, .int u11.1])), (a_p0_reach_limbs, .inl (cJ, 160, .inr (.inl u11.2))), (a_p1, .inr (9, [.int p1_kind, .int p1_minus, .long p1_m, .int p1_e, .int p1_narrowBelow]))]) (rest := []) S hK hN hA hP hD hS (c_X4_shiftUp l D cI cJ a_p0_unit a_p0_unit_limbs (-(p1_e - s0)) u7.1 u7.2 u13 hu14) mwX4_shiftUp miX4_shiftUp kmX6_93 [3, 4] rfl (by decide) rfl rfl rfl 0 rfl rfl ⟨Nat.le_of_ble_eq_true rfl, Nat.le_of_ble_eq_true rfl⟩ ⟨Nat.zero_le _, Nat.zero_le _⟩ hl.1 rfl rfl (Nat.le_of_ble_eq_true rfl) dX6_begin_99 (fun H locs hP hD hS => ?_)
    exact hret _ (opE hf) H locs ls 102 dX6_begin_102 hP hD hS
  have keyB17 : ∀ (s1 : Int32) (p0_even : Int32) (p0_narrow : Int32) (p0_left_size : Int32) (p0_left_limbs : (Nat → Int64)) (p0_unit_size : Int32) (p0_unit_limbs : (Nat → Int64)) (p0_reach_size : Int32) (p0_reach_limbs : (Nat → Int64)) (H : Heap) (locs : List Loc) (ls : Array Slot), f_X6_begin_B17 p1_m p1_e p1_narrowBelow s1 p0_even p0_narrow p0_left_size p0_left_limbs p0_unit_size p0_unit_limbs p0_reach_size p0_reach_limbs = some u → va_P D vwCl [(a_p0, .inr (7, [.ref a_p0_left, .ref a_p0_unit, .ref a_p0_reach, .ref a_p0_work, .int p0_even, .int p0_narrow])), (a_p0_left, .inr (5, [.ref a_p0_left_limbs, .int p0_left_size])), (a_p0_left_limbs, .inl (cJ, 160, .inr (.inl p0_left_limbs))), (a_p0_unit, .inr (5, [.ref a_p0_unit_limbs, .int p0_unit_size])), (a_p0_unit_limbs, .inl (cJ, 160, .inr (.inl p0_unit_limbs))), (a_p0_reach, .inr (5, [.ref a_p0_reach_limbs, .int p0_reach_size])), (a_p0_reach_limbs, .inl (cJ, 160, .inr (.inl p0_reach_limbs))), (a_p1, .inr (9, [.int p1_kind, .int p1_minus, .long p1_m, .int p1_e, .int p1_narrowBelow]))] H → va_D A [(a_p0, .inr (7, [.ref a_p0_left, .ref a_p0_unit, .ref a_p0_reach, .ref a_p0_work, .int p0_even, .int p0_narrow])), (a_p0_left, .inr (5, [.ref a_p0_left_limbs, .int p0_left_size])), (a_p0_left_limbs, .inl (cJ, 160, .inr (.inl p0_left_limbs))), (a_p0_unit, .inr (5, [.ref a_p0_unit_limbs, .int p0_unit_size])), (a_p0_unit_limbs, .inl (cJ, 160, .inr (.inl p0_unit_limbs))), (a_p0_reach, .inr (5, [.ref a_p0_reach_limbs, .int p0_reach_size])), (a_p0_reach_limbs, .inl (cJ, 160, .inr (.inl p0_reach_limbs))), (a_p1, .inr (9, [.int p1_kind, .int p1_minus, .long p1_m, .int p1_e, .int p1_narrowBelow]))] → va_S A s.heap H locs → lv_has ls 4 [(0, .ref a_p0), (1, .ref a_p1)] → W p l e (rmz 2 45) s m ar below meth c H locs 0 0 Q (F0 m 17 ls [.int s1, .ref a_p0]) := by
    intro s1 p0_even p0_narrow p0_left_size p0_left_limbs p0_unit_size p0_unit_limbs p0_reach_size p0_reach_limbs H locs ls hf hP hD hS hl
    unfold f_X6_begin_B17 at hf
    obtain ⟨hb1, hf⟩ := blE hf
    refine va_put (D := D) (ci := 7) (v := .int s1) (ty := tyX6 4) (C := RX6) (T := TX6) (N := 6) hx hb hts uwX6 tyX6 tyX6_ok nmX6 hown hK hP hD hS 0 rfl rfl 4 (by decide) (hts _ kfX6_76) (fun _ h9 => h9) rfl (tyX6_ok 4 (by decide)) (nar_bool hb1) (fit_bool hb1) (Nat.le_of_ble_eq_true rfl) dX6_begin_17 (fun H locs hP hD hS => ?_)
    have hP : va_P D vwCl [(a_p0, .inr (7, [.ref a_p0_left, .ref a_p0_unit, .ref a_p0_reach, .ref a_p0_work, .int s1, .int p0_narrow])), (a_p0_left, .inr (5, [.ref a_p0_left_limbs, .int p0_left_size])), (a_p0_left_limbs, .inl (cJ, 160, .inr (.inl p0_left_limbs))), (a_p0_unit, .inr (5, [.ref a_p0_unit_limbs, .int p0_unit_size])), (a_p0_unit_limbs, .inl (cJ, 160, .inr (.inl p0_unit_limbs))), (a_p0_reach, .inr (5, [.ref a_p0_reach_limbs, .int p0_reach_size])), (a_p0_reach_limbs, .inl (cJ, 160, .inr (.inl p0_reach_limbs))), (a_p1, .inr (9, [.int p1_kind, .int p1_minus, .long p1_m, .int p1_e, .int p1_narrowBelow]))] H := hP
    have hD : va_D A [(a_p0, .inr (7, [.ref a_p0_left, .ref a_p0_unit, .ref a_p0_reach, .ref a_p0_work, .int s1, .int p0_narrow])), (a_p0_left, .inr (5, [.ref a_p0_left_limbs, .int p0_left_size])), (a_p0_left_limbs, .inl (cJ, 160, .inr (.inl p0_left_limbs))), (a_p0_unit, .inr (5, [.ref a_p0_unit_limbs, .int p0_unit_size])), (a_p0_unit_limbs, .inl (cJ, 160, .inr (.inl p0_unit_limbs))), (a_p0_reach, .inr (5, [.ref a_p0_reach_limbs, .int p0_reach_size])), (a_p0_reach_limbs, .inl (cJ, 160, .inr (.inl p0_reach_limbs))), (a_p1, .inr (9, [.int p1_kind, .int p1_minus, .long p1_m, .int p1_e, .int p1_narrowBelow]))] := hD
    refine lv_aload_n hx hb dX6_begin_20 rfl (lv_at hl 0 rfl) ?_
    refine lv_aload_n hx hb dX6_begin_21 rfl (lv_at hl 1 rfl) ?_
    refine va_get (D := D) (ci := 9) (v := .int p1_narrowBelow) (C := RX8) (T := TX8) (N := 5) hx hb hts uwX8 hown hK hP 7 rfl rfl 4 (by decide) (hts _ kfX6_80) (fun _ h9 => h9) rfl dX6_begin_22 ?_
    obtain ⟨hb2, hf⟩ := blE hf
    refine va_put (D := D) (ci := 7) (v := .int p1_narrowBelow) (ty := tyX6 5) (C := RX6) (T := TX6) (N := 6) hx hb hts uwX6 tyX6 tyX6_ok nmX6 hown hK hP hD hS 0 rfl rfl 5 (by decide) (hts _ kfX6_83) (fun _ h9 => h9) rfl (tyX6_ok 5 (by decide)) (nar_bool hb2) (fit_bool hb2) (Nat.le_of_ble_eq_true rfl) dX6_begin_25 (fun H locs hP hD hS => ?_)
    have hP : va_P D vwCl [(a_p0, .inr (7, [.ref a_p0_left, .ref a_p0_unit, .ref a_p0_reach, .ref a_p0_work, .int s1, .int p1_narrowBelow])), (a_p0_left, .inr (5, [.ref a_p0_left_limbs, .int p0_left_size])), (a_p0_left_limbs, .inl (cJ, 160, .inr (.inl p0_left_limbs))), (a_p0_unit, .inr (5, [.ref a_p0_unit_limbs, .int p0_unit_size])), (a_p0_unit_limbs, .inl (cJ, 160, .inr (.inl p0_unit_limbs))), (a_p0_reach, .inr (5, [.ref a_p0_reach_limbs, .int p0_reach_size])), (a_p0_reach_limbs, .inl (cJ, 160, .inr (.inl p0_reach_limbs))), (a_p1, .inr (9, [.int p1_kind, .int p1_minus, .long p1_m, .int p1_e, .int p1_narrowBelow]))] H := hP
    have hD : va_D A [(a_p0, .inr (7, [.ref a_p0_left, .ref a_p0_unit, .ref a_p0_reach, .ref a_p0_work, .int s1, .int p1_narrowBelow])), (a_p0_left, .inr (5, [.ref a_p0_left_limbs, .int p0_left_size])), (a_p0_left_limbs, .inl (cJ, 160, .inr (.inl p0_left_limbs))), (a_p0_unit, .inr (5, [.ref a_p0_unit_limbs, .int p0_unit_size])), (a_p0_unit_limbs, .inl (cJ, 160, .inr (.inl p0_unit_limbs))), (a_p0_reach, .inr (5, [.ref a_p0_reach_limbs, .int p0_reach_size])), (a_p0_reach_limbs, .inl (cJ, 160, .inr (.inl p0_reach_limbs))), (a_p1, .inr (9, [.int p1_kind, .int p1_minus, .long p1_m, .int p1_e, .int p1_narrowBelow]))] := hD
    refine lv_aload_n hx hb dX6_begin_28 rfl (lv_at hl 0 rfl) ?_
    refine va_get (D := D) (ci := 7) (v := .int p1_narrowBelow) (C := RX6) (T := TX6) (N := 6) hx hb hts uwX6 hown hK hP 0 rfl rfl 5 (by decide) (hts _ kfX6_83) (fun _ h9 => h9) rfl dX6_begin_29 ?_
    refine lv_if_eq (tgt := 39) hx hb dX6_begin_32 (by decide) (fun hc15 => ?_) (fun hc15 => ?_)
    · have hf := ifT hc15 hf
      refine lv_iconst (v := 1) hx hb dX6_begin_39 (by decide) ?_
      exact keyB40 (1 : Int32) s1 p1_narrowBelow p0_left_size p0_left_limbs p0_unit_size p0_unit_limbs p0_reach_size p0_reach_limbs H locs ls hf hP hD hS (lv_sub hl [0, 1] rfl)
    · have hf := ifF hc15 hf
      refine lv_iconst (v := 2) hx hb dX6_begin_35 (by decide) ?_
      refine lv_goto (tgt := 40) hx hb dX6_begin_36 (by decide) ?_
      exact keyB40 (2 : Int32) s1 p1_narrowBelow p0_left_size p0_left_limbs p0_unit_size p0_unit_limbs p0_reach_size p0_reach_limbs H locs ls hf hP hD hS (lv_sub hl [0, 1] rfl)
  unfold f_X6_begin at hf
  refine lv_aload_n hx hb dX6_begin_0 rfl (lv_at hl 0 rfl) ?_
  refine lv_aload_n hx hb dX6_begin_1 rfl (lv_at hl 1 rfl) ?_
  refine va_get (D := D) (ci := 9) (v := .long p1_m) (C := RX8) (T := TX8) (N := 5) hx hb hts uwX8 hown hK hP 7 rfl rfl 2 (by decide) (hts _ kfX6_70) (fun _ h9 => h9) rfl dX6_begin_2 ?_
  refine lv_lconst (v := 1) hx hb dX6_begin_5 (by decide) ?_
  refine lv_land hx hb dX6_begin_6 ?_
  refine lv_lconst (v := 0) hx hb dX6_begin_7 (by decide) ?_
  refine W.lcmp hx hb dX6_begin_8 ?_
  refine lv_if_ne (tgt := 16) hx hb dX6_begin_9 (by decide) (fun hc16 => ?_) (fun hc16 => ?_)
  · have hf := ifF hc16 hf
    refine lv_iconst (v := 0) hx hb dX6_begin_16 (by decide) ?_
    exact keyB17 (0 : Int32) p0_even p0_narrow p0_left_size p0_left_limbs p0_unit_size p0_unit_limbs p0_reach_size p0_reach_limbs H locs ls hf hP hD hS (lv_sub hl [0, 1] rfl)
  · have hf := ifT hc16 hf
    refine lv_iconst (v := 1) hx hb dX6_begin_12 (by decide) ?_
    refine lv_goto (tgt := 17) hx hb dX6_begin_13 (by decide) ?_
    exact keyB17 (1 : Int32) p0_even p0_narrow p0_left_size p0_left_limbs p0_unit_size p0_unit_limbs p0_reach_size p0_reach_limbs H locs ls hf hP hD hS (lv_sub hl [0, 1] rfl)
set_option maxRecDepth 100000 in
set_option maxHeartbeats 4000000 in
theorem c_X4_copy (l : Launch) (D : va_G) (cI cJ : ClassId) (a_p0 a_p0_limbs a_p1 a_p1_limbs : Nat) (p0_size : Int32) (p0_limbs : (Nat → Int64)) (p1_size : Int32) (p1_limbs : (Nat → Int64)) (u : Int32 × (Nat → Int64)) (hf : f_X4_copy p1_size p1_limbs p0_size p0_limbs = some u) : CtV l yX4_copy cX4_copy 3 0 0 [.ref a_p0, .ref a_p1] D cI cJ [(a_p0, .inr (5, [.ref a_p0_limbs, .int p0_size])), (a_p0_limbs, .inl (cJ, 160, .inr (.inl p0_limbs))), (a_p1, .inr (5, [.ref a_p1_limbs, .int p1_size])), (a_p1_limbs, .inl (cJ, 160, .inr (.inl p1_limbs)))] [(a_p0, .inr (5, [.ref a_p0_limbs, .int u.1])), (a_p0_limbs, .inl (cJ, 160, .inr (.inl u.2))), (a_p1, .inr (5, [.ref a_p1_limbs, .int p1_size])), (a_p1_limbs, .inl (cJ, 160, .inr (.inl p1_limbs)))] := by
  refine mkV (own := RX4) rfl (by decide +kernel) (Nat.le_of_ble_eq_true rfl) (lv := [(0, .ref a_p0), (1, .ref a_p1)]) rfl ?_
  intro p e s m below meth c Q A ls ar S hA hK hN hret H locs hP hD hS hl
  obtain ⟨hx, hb, hml, hown, hts⟩ := id S
  have hret : ∀ (w : Int32 × (Nat → Int64)), w = u → ∀ (H : Heap) (locs : List Loc) (ls : Array Slot) (pc : Nat), decode cX4_copy pc = .ok (.return_, 1) → va_P D vwCl [(a_p0, .inr (5, [.ref a_p0_limbs, .int w.1])), (a_p0_limbs, .inl (cJ, 160, .inr (.inl w.2))), (a_p1, .inr (5, [.ref a_p1_limbs, .int p1_size])), (a_p1_limbs, .inl (cJ, 160, .inr (.inl p1_limbs)))] H → va_D A [(a_p0, .inr (5, [.ref a_p0_limbs, .int w.1])), (a_p0_limbs, .inl (cJ, 160, .inr (.inl w.2))), (a_p1, .inr (5, [.ref a_p1_limbs, .int p1_size])), (a_p1_limbs, .inl (cJ, 160, .inr (.inl p1_limbs)))] → va_S A s.heap H locs → W p l e (rmz 0 0) s m ar below meth c H locs 0 0 Q (F0 m pc ls []) := fun w hw => hw ▸ hret
  have keyL2 : ∀ (n : Nat) (v2 : Int32) (p0_size : Int32) (p0_limbs : (Nat → Int64)) (H : Heap) (locs : List Loc) (ls : Array Slot), f_X4_copy_L2 p1_size p1_limbs n v2 p0_size p0_limbs = some u → va_P D vwCl [(a_p0, .inr (5, [.ref a_p0_limbs, .int p0_size])), (a_p0_limbs, .inl (cJ, 160, .inr (.inl p0_limbs))), (a_p1, .inr (5, [.ref a_p1_limbs, .int p1_size])), (a_p1_limbs, .inl (cJ, 160, .inr (.inl p1_limbs)))] H → va_D A [(a_p0, .inr (5, [.ref a_p0_limbs, .int p0_size])), (a_p0_limbs, .inl (cJ, 160, .inr (.inl p0_limbs))), (a_p1, .inr (5, [.ref a_p1_limbs, .int p1_size])), (a_p1_limbs, .inl (cJ, 160, .inr (.inl p1_limbs)))] → va_S A s.heap H locs → lv_has ls 3 [(0, .ref a_p0), (1, .ref a_p1), (2, .int v2)] → W p l e (rmz 0 0) s m ar below meth c H locs 0 0 Q (F0 m 2 ls []) := by
    intro n
    induction n with
      | zero =>
        intro v2 p0_size p0_limbs H locs ls hf
        cases hf
      | succ n ih =>
        intro v2 p0_size p0_limbs H locs ls hf hP hD hS hl
        rw [f_X4_copy_L2] at hf
        refine lv_iload_n hx hb dX4_copy_2 rfl (lv_at hl 2 rfl) ?_
        refine lv_aload_n hx hb dX4_copy_3 rfl (lv_at hl 1 rfl) ?_
        refine va_get (D := D) (ci := 5) (v := .int p1_size) (C := RX4) (T := TX4) (N := 2) hx hb hts uwX4 hown hK hP 2 rfl rfl 1 (by decide) (hts _ kfX4_15) (fun _ h9 => h9) rfl dX4_copy_4 ?_
        refine lv_icmp_ge (tgt := 28) hx hb dX4_copy_7 (by decide) (fun hc2 => ?_) (fun hc2 => ?_)
        · have hf := ifT hc2 hf
          refine lv_aload_n hx hb dX4_copy_28 rfl (lv_at hl 0 rfl) ?_
          refine lv_aload_n hx hb dX4_copy_29 rfl (lv_at hl 1 rfl) ?_
          refine va_get (D := D) (ci := 5) (v := .int p1_size) (C := RX4) (T := TX4) (N := 2) hx hb hts uwX4 hown hK hP 2 rfl rfl 1 (by decide) (hts _ kfX4_15) (fun _ h9 => h9) rfl dX4_copy_30 ?_
          refine va_put (D := D) (ci := 5) (v := .int p1_size) (ty := tyX4 1) (C := RX4) (T := TX4) (N := 2) hx hb hts uwX4 tyX4 tyX4_ok nmX4 hown hK hP hD hS 0 rfl rfl 1 (by decide) (hts _ kfX4_15) (fun _ h9 => h9) rfl (tyX4_ok 1 (by decide)) rfl rfl (Nat.le_of_ble_eq_true rfl) dX4_copy_33 (fun H locs hP hD hS => ?_)
          have hP : va_P D vwCl [(a_p0, .inr (5, [.ref a_p0_limbs, .int p1_size])), (a_p0_limbs, .inl (cJ, 160, .inr (.inl p0_limbs))), (a_p1, .inr (5, [.ref a_p1_limbs, .int p1_size])), (a_p1_limbs, .inl (cJ, 160, .inr (.inl p1_limbs)))] H := hP
          have hD : va_D A [(a_p0, .inr (5, [.ref a_p0_limbs, .int p1_size])), (a_p0_limbs, .inl (cJ, 160, .inr (.inl p0_limbs))), (a_p1, .inr (5, [.ref a_p1_limbs, .int p1_size])), (a_p1_limbs, .inl (cJ, 160, .inr (.inl p1_limbs)))] := hD
          exact hret _ (opE hf) H locs ls 36 dX4_copy_36 hP hD hS
        · have hf := ifF hc2 hf
          refine lv_aload_n hx hb dX4_copy_10 rfl (lv_at hl 0 rfl) ?_
          refine va_get (D := D) (ci := 5) (v := .ref a_p0_limbs) (C := RX4) (T := TX4) (N := 2) hx hb hts uwX4 hown hK hP 0 rfl rfl 0 (by decide) (hts _ kfX4_9) (fun _ h9 => h9) rfl dX4_copy_11 ?_
          refine lv_iload_n hx hb dX4_copy_14 rfl (lv_at hl 2 rfl) ?_
          refine lv_aload_n hx hb dX4_copy_15 rfl (lv_at hl 1 rfl) ?_
          refine va_get (D := D) (ci := 5) (v := .ref a_p1_limbs) (C := RX4) (T := TX4) (N := 2) hx hb hts uwX4 hown hK hP 2 rfl rfl 0 (by decide) (hts _ kfX4_9) (fun _ h9 => h9) rfl dX4_copy_16 ?_
          refine lv_iload_n hx hb dX4_copy_19 rfl (lv_at hl 2 rfl) ?_
          obtain ⟨hi1, hf⟩ := gdE hf
          refine va_lald hx hb hK hP 3 1 rfl rfl hi1 dX4_copy_20 ?_
          refine va_last hx hb hK hP hD hS 1 1 rfl rfl hi1 dX4_copy_21 (fun H locs hP hD hS => ?_)
          have hP : va_P D vwCl [(a_p0, .inr (5, [.ref a_p0_limbs, .int p0_size])), (a_p0_limbs, .inl (cJ, 160, .inr (.inl (vp_updL p0_limbs v2.toNatClampNeg (p1_limbs v2.toNatClampNeg))))), (a_p1, .inr (5, [.ref a_p1_limbs, .int p1_size])), (a_p1_limbs, .inl (cJ, 160, .inr (.inl p1_limbs)))] H := hP
          have hD : va_D A [(a_p0, .inr (5, [.ref a_p0_limbs, .int p0_size])), (a_p0_limbs, .inl (cJ, 160, .inr (.inl (vp_updL p0_limbs v2.toNatClampNeg (p1_limbs v2.toNatClampNeg))))), (a_p1, .inr (5, [.ref a_p1_limbs, .int p1_size])), (a_p1_limbs, .inl (cJ, 160, .inr (.inl p1_limbs)))] := hD
          refine lv_iinc (v := v2 + (1 : Int32)) (lv' := [(2, .int (v2 + (1 : Int32))), (0, .ref a_p0), (1, .ref a_p1)]) hx hb dX4_copy_22 hl (k := 2) rfl (by rfl) (by decide) rfl (fun ls hl => ?_)
          refine lv_goto (tgt := 2) hx hb dX4_copy_25 (by decide) ?_
          exact ih (v2 + (1 : Int32)) p0_size (vp_updL p0_limbs v2.toNatClampNeg (p1_limbs v2.toNatClampNeg)) H locs ls hf hP hD hS (lv_sub hl [1, 2, 0] rfl)
  unfold f_X4_copy at hf
  refine lv_iconst (v := 0) hx hb dX4_copy_0 (by decide) ?_
  refine lv_istore_n (lv' := [(2, .int (0 : Int32)), (0, .ref a_p0), (1, .ref a_p1)]) hx hb dX4_copy_1 rfl hl (by decide) rfl (fun ls hl => ?_)
  exact keyL2 FU (0 : Int32) p0_size p0_limbs H locs ls hf hP hD hS (lv_sub hl [1, 2, 0] rfl)
set_option maxRecDepth 100000 in
set_option maxHeartbeats 4000000 in
theorem c_X6_isAboveMiddle (l : Launch) (D : va_G) (cI cJ : ClassId) (a_p0 a_p0_left a_p0_unit a_p0_reach a_p0_work a_p0_left_limbs a_p0_unit_limbs a_p0_work_limbs : Nat) (p0_even : Int32) (p0_narrow : Int32) (p0_left_size : Int32) (p0_left_limbs : (Nat → Int64)) (p0_unit_size : Int32) (p0_unit_limbs : (Nat → Int64)) (p0_work_size : Int32) (p0_work_limbs : (Nat → Int64)) (u : Int32 × Int32 × (Nat → Int64)) (hf : f_X6_isAboveMiddle p0_left_size p0_left_limbs p0_unit_size p0_unit_limbs p0_work_size p0_work_limbs = some u) : CtI l yX6_isAboveMiddle cX6_isAboveMiddle 1 2 45 .boolean [.ref a_p0] D cI cJ [(a_p0, .inr (7, [.ref a_p0_left, .ref a_p0_unit, .ref a_p0_reach, .ref a_p0_work, .int p0_even, .int p0_narrow])), (a_p0_left, .inr (5, [.ref a_p0_left_limbs, .int p0_left_size])), (a_p0_left_limbs, .inl (cJ, 160, .inr (.inl p0_left_limbs))), (a_p0_unit, .inr (5, [.ref a_p0_unit_limbs, .int p0_unit_size])), (a_p0_unit_limbs, .inl (cJ, 160, .inr (.inl p0_unit_limbs))), (a_p0_work, .inr (5, [.ref a_p0_work_limbs, .int p0_work_size])), (a_p0_work_limbs, .inl (cJ, 160, .inr (.inl p0_work_limbs)))] [(a_p0, .inr (7, [.ref a_p0_left, .ref a_p0_unit, .ref a_p0_reach, .ref a_p0_work, .int p0_even, .int p0_narrow])), (a_p0_left, .inr (5, [.ref a_p0_left_limbs, .int p0_left_size])), (a_p0_left_limbs, .inl (cJ, 160, .inr (.inl p0_left_limbs))), (a_p0_unit, .inr (5, [.ref a_p0_unit_limbs, .int p0_unit_size])), (a_p0_unit_limbs, .inl (cJ, 160, .inr (.inl p0_unit_limbs))), (a_p0_work, .inr (5, [.ref a_p0_work_limbs, .int u.2.1])), (a_p0_work_limbs, .inl (cJ, 160, .inr (.inl u.2.2)))] u.1 := by
  refine mkZ (own := RX6) rfl (by decide +kernel) (Nat.le_of_ble_eq_true rfl) (lv := [(0, .ref a_p0)]) rfl ?_
  intro p e s m below meth c Q A ls ar S hA hK hN hret H locs hP hD hS hl
  obtain ⟨hx, hb, hml, hown, hts⟩ := id S
  have hret : ∀ (w : Int32 × Int32 × (Nat → Int64)), w = u → ∀ (H : Heap) (locs : List Loc) (ls : Array Slot) (pc : Nat), decode cX6_isAboveMiddle pc = .ok (.ireturn, 1) → (w.1 = 0 ∨ w.1 = 1) → va_P D vwCl [(a_p0, .inr (7, [.ref a_p0_left, .ref a_p0_unit, .ref a_p0_reach, .ref a_p0_work, .int p0_even, .int p0_narrow])), (a_p0_left, .inr (5, [.ref a_p0_left_limbs, .int p0_left_size])), (a_p0_left_limbs, .inl (cJ, 160, .inr (.inl p0_left_limbs))), (a_p0_unit, .inr (5, [.ref a_p0_unit_limbs, .int p0_unit_size])), (a_p0_unit_limbs, .inl (cJ, 160, .inr (.inl p0_unit_limbs))), (a_p0_work, .inr (5, [.ref a_p0_work_limbs, .int w.2.1])), (a_p0_work_limbs, .inl (cJ, 160, .inr (.inl w.2.2)))] H → va_D A [(a_p0, .inr (7, [.ref a_p0_left, .ref a_p0_unit, .ref a_p0_reach, .ref a_p0_work, .int p0_even, .int p0_narrow])), (a_p0_left, .inr (5, [.ref a_p0_left_limbs, .int p0_left_size])), (a_p0_left_limbs, .inl (cJ, 160, .inr (.inl p0_left_limbs))), (a_p0_unit, .inr (5, [.ref a_p0_unit_limbs, .int p0_unit_size])), (a_p0_unit_limbs, .inl (cJ, 160, .inr (.inl p0_unit_limbs))), (a_p0_work, .inr (5, [.ref a_p0_work_limbs, .int w.2.1])), (a_p0_work_limbs, .inl (cJ, 160, .inr (.inl w.2.2)))] → va_S A s.heap H locs → W p l e (rmz 2 45) s m ar below meth c H locs 0 0 Q (F0 m pc ls [.int w.1]) := fun w hw => hw ▸ hret
  unfold f_X6_isAboveMiddle at hf
  refine lv_aload_n hx hb dX6_isAboveMiddle_0 rfl (lv_at hl 0 rfl) ?_
  refine va_get (D := D) (ci := 7) (v := .ref a_p0_work) (C := RX6) (T := TX6) (N := 6) hx hb hts uwX6 hown hK hP 0 rfl rfl 3 (by decide) (hts _ kfX6_16) (fun _ h9 => h9) rfl dX6_isAboveMiddle_1 ?_
  refine lv_aload_n hx hb dX6_isAboveMiddle_4 rfl (lv_at hl 0 rfl) ?_
  refine va_get (D := D) (ci := 7) (v := .ref a_p0_left) (C := RX6) (T := TX6) (N := 6) hx hb hts uwX6 hown hK hP 0 rfl rfl 0 (by decide) (hts _ kfX6_19) (fun _ h9 => h9) rfl dX6_isAboveMiddle_5 ?_
  obtain ⟨u1, hu2, hf⟩ := bdE hf
  refine cV_V (ws' := [(a_p0, .inr (7, [.ref a_p0_left, .ref a_p0_unit, .ref a_p0_reach, .ref a_p0_work, .int p0_even, .int p0_narrow])), (a_p0_left, .inr (5, [.ref a_p0_left_limbs, .int p0_left_size])), (a_p0_left_limbs, .inl (cJ, 160, .inr (.inl p0_left_limbs))), (a_p0_unit, .inr (5, [.ref a_p0_unit_limbs, .int p0_unit_size])), (a_p0_unit_limbs, .inl (cJ, 160, .inr (.inl p0_unit_limbs))), (a_p0_work, .inr (5, [.ref a_p0_work_limbs, .int u1.1])), (a_p0_work_limbs, .inl (cJ, 160, .inr (.inl u1.2)))]) (rest := []) S hK hN hA hP hD hS (c_X4_copy l D cI cJ a_p0_work a_p0_work_limbs a_p0_left a_p0_left_limbs  p0_work_size p0_work_limbs p0_left_size p0_left_limbs u1 hu2) mwX4_copy miX4_copy kmX6_112 [5, 6, 1, 2] rfl (by decide) rfl rfl rfl 0 rfl rfl ⟨Nat.le_of_ble_eq_true rfl, Nat.le_of_ble_eq_true rfl⟩ ⟨Nat.zero_le _, Nat.zero_le _⟩ hl.1 rfl rfl (Nat.le_of_ble_eq_true rfl) dX6_isAboveMiddle_8 (fun H locs hP hD hS => ?_)
  refine lv_aload_n hx hb dX6_isAboveMiddle_11 rfl (lv_at hl 0 rfl) ?_
  refine va_get (D := D) (ci := 7) (v := .ref a_p0_work) (C := RX6) (T := TX6) (N := 6) hx hb hts uwX6 hown hK hP 0 rfl rfl 3 (by decide) (hts _ kfX6_16) (fun _ h9 => h9) rfl dX6_isAboveMiddle_12 ?_
  refine lv_iconst (v := 1) hx hb dX6_isAboveMiddle_15 (by decide) ?_
  obtain ⟨u3, hu4, hf⟩ := bdE hf
  refine cV_V (ws' := [(a_p0, .inr (7, [.ref a_p0_left, .ref a_p0_unit, .ref a_p0_reach, .ref a_p0_work, .int p0_even, .int p0_narrow])), (a_p0_left, .inr (5, [.ref a_p0_left_limbs, .int p0_left_size])), (a_p0_left_limbs, .inl (cJ, 160, .inr (.inl p0_left_limbs))), (a_p0_unit, .inr (5, [.ref a_p0_unit_limbs, .int p0_unit_size])), (a_p0_unit_limbs, .inl (cJ, 160, .inr (.inl p0_unit_limbs))), (a_p0_work, .inr (5, [.ref a_p0_work_limbs, .int u3.1])), (a_p0_work_limbs, .inl (cJ, 160, .inr (.inl u3.2)))]) (rest := []) S hK hN hA hP hD hS (c_X4_shiftUp l D cI cJ a_p0_work a_p0_work_limbs (1 : Int32) u1.1 u1.2 u3 hu4) mwX4_shiftUp miX4_shiftUp kmX6_93 [5, 6] rfl (by decide) rfl rfl rfl 0 rfl rfl ⟨Nat.le_of_ble_eq_true rfl, Nat.le_of_ble_eq_true rfl⟩ ⟨Nat.zero_le _, Nat.zero_le _⟩ hl.1 rfl rfl (Nat.le_of_ble_eq_true rfl) dX6_isAboveMiddle_16 (fun H locs hP hD hS => ?_)
  refine lv_aload_n hx hb dX6_isAboveMiddle_19 rfl (lv_at hl 0 rfl) ?_
  refine va_get (D := D) (ci := 7) (v := .ref a_p0_work) (C := RX6) (T := TX6) (N := 6) hx hb hts uwX6 hown hK hP 0 rfl rfl 3 (by decide) (hts _ kfX6_16) (fun _ h9 => h9) rfl dX6_isAboveMiddle_20 ?_
  refine lv_aload_n hx hb dX6_isAboveMiddle_23 rfl (lv_at hl 0 rfl) ?_
  refine va_get (D := D) (ci := 7) (v := .ref a_p0_unit) (C := RX6) (T := TX6) (N := 6) hx hb hts uwX6 hown hK hP 0 rfl rfl 1 (by decide) (hts _ kfX6_22) (fun _ h9 => h9) rfl dX6_isAboveMiddle_24 ?_
  obtain ⟨u5, hu6, hf⟩ := bdE hf
  refine cV_I (ws' := [(a_p0, .inr (7, [.ref a_p0_left, .ref a_p0_unit, .ref a_p0_reach, .ref a_p0_work, .int p0_even, .int p0_narrow])), (a_p0_left, .inr (5, [.ref a_p0_left_limbs, .int p0_left_size])), (a_p0_left_limbs, .inl (cJ, 160, .inr (.inl p0_left_limbs))), (a_p0_unit, .inr (5, [.ref a_p0_unit_limbs, .int p0_unit_size])), (a_p0_unit_limbs, .inl (cJ, 160, .inr (.inl p0_unit_limbs))), (a_p0_work, .inr (5, [.ref a_p0_work_limbs, .int u3.1])), (a_p0_work_limbs, .inl (cJ, 160, .inr (.inl u3.2)))]) (rest := []) S hK hN hA hP hD hS (c_X4_comparedWith l D cI cJ a_p0_work a_p0_work_limbs a_p0_unit a_p0_unit_limbs  u3.1 u3.2 p0_unit_size p0_unit_limbs u5 hu6) mwX4_comparedWith miX4_comparedWith kmX6_116 [5, 6, 3, 4] rfl (by decide) rfl rfl rfl 0 rfl rfl ⟨Nat.le_of_ble_eq_true rfl, Nat.le_of_ble_eq_true rfl⟩ ⟨Nat.zero_le _, Nat.zero_le _⟩ hl.1 rfl rfl (Nat.le_of_ble_eq_true rfl) dX6_isAboveMiddle_27 (fun H locs hP hD hS => ?_)
  refine lv_if_le (tgt := 37) hx hb dX6_isAboveMiddle_30 (by decide) (fun hc7 => ?_) (fun hc7 => ?_)
  · have hf := ifT hc7 hf
    refine lv_iconst (v := 0) hx hb dX6_isAboveMiddle_37 (by decide) ?_
    exact hret _ (opE hf) H locs ls 38 dX6_isAboveMiddle_38 (Or.inl rfl) hP hD hS
  · have hf := ifF hc7 hf
    refine lv_iconst (v := 1) hx hb dX6_isAboveMiddle_33 (by decide) ?_
    refine lv_goto (tgt := 38) hx hb dX6_isAboveMiddle_34 (by decide) ?_
    exact hret _ (opE hf) H locs ls 38 dX6_isAboveMiddle_38 (Or.inr rfl) hP hD hS
set_option maxRecDepth 100000 in
set_option maxHeartbeats 4000000 in
theorem c_X6_leadsBackAbove (l : Launch) (D : va_G) (cI cJ : ClassId) (a_p0 a_p0_left a_p0_unit a_p0_reach a_p0_work a_p0_left_limbs a_p0_unit_limbs a_p0_reach_limbs a_p0_work_limbs : Nat) (p0_even : Int32) (p0_narrow : Int32) (p0_left_size : Int32) (p0_left_limbs : (Nat → Int64)) (p0_unit_size : Int32) (p0_unit_limbs : (Nat → Int64)) (p0_reach_size : Int32) (p0_reach_limbs : (Nat → Int64)) (p0_work_size : Int32) (p0_work_limbs : (Nat → Int64)) (u : Int32 × Int32 × (Nat → Int64)) (hf : f_X6_leadsBackAbove p0_even p0_narrow p0_left_size p0_left_limbs p0_unit_size p0_unit_limbs p0_reach_size p0_reach_limbs p0_work_size p0_work_limbs = some u) : CtI l yX6_leadsBackAbove cX6_leadsBackAbove 2 2 46 .boolean [.ref a_p0] D cI cJ [(a_p0, .inr (7, [.ref a_p0_left, .ref a_p0_unit, .ref a_p0_reach, .ref a_p0_work, .int p0_even, .int p0_narrow])), (a_p0_left, .inr (5, [.ref a_p0_left_limbs, .int p0_left_size])), (a_p0_left_limbs, .inl (cJ, 160, .inr (.inl p0_left_limbs))), (a_p0_unit, .inr (5, [.ref a_p0_unit_limbs, .int p0_unit_size])), (a_p0_unit_limbs, .inl (cJ, 160, .inr (.inl p0_unit_limbs))), (a_p0_reach, .inr (5, [.ref a_p0_reach_limbs, .int p0_reach_size])), (a_p0_reach_limbs, .inl (cJ, 160, .inr (.inl p0_reach_limbs))), (a_p0_work, .inr (5, [.ref a_p0_work_limbs, .int p0_work_size])), (a_p0_work_limbs, .inl (cJ, 160, .inr (.inl p0_work_limbs)))] [(a_p0, .inr (7, [.ref a_p0_left, .ref a_p0_unit, .ref a_p0_reach, .ref a_p0_work, .int p0_even, .int p0_narrow])), (a_p0_left, .inr (5, [.ref a_p0_left_limbs, .int p0_left_size])), (a_p0_left_limbs, .inl (cJ, 160, .inr (.inl p0_left_limbs))), (a_p0_unit, .inr (5, [.ref a_p0_unit_limbs, .int p0_unit_size])), (a_p0_unit_limbs, .inl (cJ, 160, .inr (.inl p0_unit_limbs))), (a_p0_reach, .inr (5, [.ref a_p0_reach_limbs, .int p0_reach_size])), (a_p0_reach_limbs, .inl (cJ, 160, .inr (.inl p0_reach_limbs))), (a_p0_work, .inr (5, [.ref a_p0_work_limbs, .int u.2.1])), (a_p0_work_limbs, .inl (cJ, 160, .inr (.inl u.2.2)))] u.1 := by
  refine mkZ (own := RX6) rfl (by decide +kernel) (Nat.le_of_ble_eq_true rfl) (lv := [(0, .ref a_p0)]) rfl ?_
  intro p e s m below meth c Q A ls ar S hA hK hN hret H locs hP hD hS hl
  obtain ⟨hx, hb, hml, hown, hts⟩ := id S
  have hret : ∀ (w : Int32 × Int32 × (Nat → Int64)), w = u → ∀ (H : Heap) (locs : List Loc) (ls : Array Slot) (pc : Nat), decode cX6_leadsBackAbove pc = .ok (.ireturn, 1) → (w.1 = 0 ∨ w.1 = 1) → va_P D vwCl [(a_p0, .inr (7, [.ref a_p0_left, .ref a_p0_unit, .ref a_p0_reach, .ref a_p0_work, .int p0_even, .int p0_narrow])), (a_p0_left, .inr (5, [.ref a_p0_left_limbs, .int p0_left_size])), (a_p0_left_limbs, .inl (cJ, 160, .inr (.inl p0_left_limbs))), (a_p0_unit, .inr (5, [.ref a_p0_unit_limbs, .int p0_unit_size])), (a_p0_unit_limbs, .inl (cJ, 160, .inr (.inl p0_unit_limbs))), (a_p0_reach, .inr (5, [.ref a_p0_reach_limbs, .int p0_reach_size])), (a_p0_reach_limbs, .inl (cJ, 160, .inr (.inl p0_reach_limbs))), (a_p0_work, .inr (5, [.ref a_p0_work_limbs, .int w.2.1])), (a_p0_work_limbs, .inl (cJ, 160, .inr (.inl w.2.2)))] H → va_D A [(a_p0, .inr (7, [.ref a_p0_left, .ref a_p0_unit, .ref a_p0_reach, .ref a_p0_work, .int p0_even, .int p0_narrow])), (a_p0_left, .inr (5, [.ref a_p0_left_limbs, .int p0_left_size])), (a_p0_left_limbs, .inl (cJ, 160, .inr (.inl p0_left_limbs))), (a_p0_unit, .inr (5, [.ref a_p0_unit_limbs, .int p0_unit_size])), (a_p0_unit_limbs, .inl (cJ, 160, .inr (.inl p0_unit_limbs))), (a_p0_reach, .inr (5, [.ref a_p0_reach_limbs, .int p0_reach_size])), (a_p0_reach_limbs, .inl (cJ, 160, .inr (.inl p0_reach_limbs))), (a_p0_work, .inr (5, [.ref a_p0_work_limbs, .int w.2.1])), (a_p0_work_limbs, .inl (cJ, 160, .inr (.inl w.2.2)))] → va_S A s.heap H locs → W p l e (rmz 2 46) s m ar below meth c H locs 0 0 Q (F0 m pc ls [.int w.1]) := fun w hw => hw ▸ hret
  have keyB40 : ∀ (p0_work_size : Int32) (p0_work_limbs : (Nat → Int64)) (H : Heap) (locs : List Loc) (ls : Array Slot), f_X6_leadsBackAbove_B40 p0_even p0_narrow p0_left_size p0_left_limbs p0_unit_size p0_unit_limbs p0_reach_size p0_reach_limbs p0_work_size p0_work_limbs = some u → va_P D vwCl [(a_p0, .inr (7, [.ref a_p0_left, .ref a_p0_unit, .ref a_p0_reach, .ref a_p0_work, .int p0_even, .int p0_narrow])), (a_p0_left, .inr (5, [.ref a_p0_left_limbs, .int p0_left_size])), (a_p0_left_limbs, .inl (cJ, 160, .inr (.inl p0_left_limbs))), (a_p0_unit, .inr (5, [.ref a_p0_unit_limbs, .int p0_unit_size])), (a_p0_unit_limbs, .inl (cJ, 160, .inr (.inl p0_unit_limbs))), (a_p0_reach, .inr (5, [.ref a_p0_reach_limbs, .int p0_reach_size])), (a_p0_reach_limbs, .inl (cJ, 160, .inr (.inl p0_reach_limbs))), (a_p0_work, .inr (5, [.ref a_p0_work_limbs, .int p0_work_size])), (a_p0_work_limbs, .inl (cJ, 160, .inr (.inl p0_work_limbs)))] H → va_D A [(a_p0, .inr (7, [.ref a_p0_left, .ref a_p0_unit, .ref a_p0_reach, .ref a_p0_work, .int p0_even, .int p0_narrow])), (a_p0_left, .inr (5, [.ref a_p0_left_limbs, .int p0_left_size])), (a_p0_left_limbs, .inl (cJ, 160, .inr (.inl p0_left_limbs))), (a_p0_unit, .inr (5, [.ref a_p0_unit_limbs, .int p0_unit_size])), (a_p0_unit_limbs, .inl (cJ, 160, .inr (.inl p0_unit_limbs))), (a_p0_reach, .inr (5, [.ref a_p0_reach_limbs, .int p0_reach_size])), (a_p0_reach_limbs, .inl (cJ, 160, .inr (.inl p0_reach_limbs))), (a_p0_work, .inr (5, [.ref a_p0_work_limbs, .int p0_work_size])), (a_p0_work_limbs, .inl (cJ, 160, .inr (.inl p0_work_limbs)))] → va_S A s.heap H locs → lv_has ls 2 [(0, .ref a_p0)] → W p l e (rmz 2 46) s m ar below meth c H locs 0 0 Q (F0 m 40 ls []) := by
    intro p0_work_size p0_work_limbs H locs ls hf hP hD hS hl
    unfold f_X6_leadsBackAbove_B40 at hf
    refine lv_aload_n hx hb dX6_leadsBackAbove_40 rfl (lv_at hl 0 rfl) ?_
    refine va_get (D := D) (ci := 7) (v := .ref a_p0_work) (C := RX6) (T := TX6) (N := 6) hx hb hts uwX6 hown hK hP 0 rfl rfl 3 (by decide) (hts _ kfX6_16) (fun _ h9 => h9) rfl dX6_leadsBackAbove_41 ?_
    refine lv_aload_n hx hb dX6_leadsBackAbove_44 rfl (lv_at hl 0 rfl) ?_
    refine va_get (D := D) (ci := 7) (v := .ref a_p0_unit) (C := RX6) (T := TX6) (N := 6) hx hb hts uwX6 hown hK hP 0 rfl rfl 1 (by decide) (hts _ kfX6_22) (fun _ h9 => h9) rfl dX6_leadsBackAbove_45 ?_
    obtain ⟨u5, hu6, hf⟩ := bdE hf
    refine cV_I (ws' := [(a_p0, .inr (7, [.ref a_p0_left, .ref a_p0_unit, .ref a_p0_reach, .ref a_p0_work, .int p0_even, .int p0_narrow])), (a_p0_left, .inr (5, [.ref a_p0_left_limbs, .int p0_left_size])), (a_p0_left_limbs, .inl (cJ, 160, .inr (.inl p0_left_limbs))), (a_p0_unit, .inr (5, [.ref a_p0_unit_limbs, .int p0_unit_size])), (a_p0_unit_limbs, .inl (cJ, 160, .inr (.inl p0_unit_limbs))), (a_p0_reach, .inr (5, [.ref a_p0_reach_limbs, .int p0_reach_size])), (a_p0_reach_limbs, .inl (cJ, 160, .inr (.inl p0_reach_limbs))), (a_p0_work, .inr (5, [.ref a_p0_work_limbs, .int p0_work_size])), (a_p0_work_limbs, .inl (cJ, 160, .inr (.inl p0_work_limbs)))]) (rest := []) S hK hN hA hP hD hS (c_X4_comparedWith l D cI cJ a_p0_work a_p0_work_limbs a_p0_unit a_p0_unit_limbs  p0_work_size p0_work_limbs p0_unit_size p0_unit_limbs u5 hu6) mwX4_comparedWith miX4_comparedWith kmX6_116 [7, 8, 3, 4] rfl (by decide) rfl rfl rfl 0 rfl rfl ⟨Nat.le_of_ble_eq_true rfl, Nat.le_of_ble_eq_true rfl⟩ ⟨Nat.zero_le _, Nat.zero_le _⟩ hl.1 rfl rfl (Nat.le_of_ble_eq_true rfl) dX6_leadsBackAbove_48 (fun H locs hP hD hS => ?_)
    refine lv_istore_n (lv' := [(1, .int u5), (0, .ref a_p0)]) hx hb dX6_leadsBackAbove_51 rfl hl (by decide) rfl (fun ls hl => ?_)
    refine lv_iload_n hx hb dX6_leadsBackAbove_52 rfl (lv_at hl 0 rfl) ?_
    refine lv_if_gt (tgt := 67) hx hb dX6_leadsBackAbove_53 (by decide) (fun hc9 => ?_) (fun hc9 => ?_)
    · have hf := ifT hc9 hf
      refine lv_iconst (v := 1) hx hb dX6_leadsBackAbove_67 (by decide) ?_
      refine lv_goto (tgt := 72) hx hb dX6_leadsBackAbove_68 (by decide) ?_
      exact hret _ (opE hf) H locs ls 72 dX6_leadsBackAbove_72 (Or.inr rfl) hP hD hS
    · have hf := ifF hc9 hf
      refine lv_iload_n hx hb dX6_leadsBackAbove_56 rfl (lv_at hl 0 rfl) ?_
      refine lv_if_ne (tgt := 71) hx hb dX6_leadsBackAbove_57 (by decide) (fun hc8 => ?_) (fun hc8 => ?_)
      · have hf := ifF hc8 hf
        refine lv_iconst (v := 0) hx hb dX6_leadsBackAbove_71 (by decide) ?_
        exact hret _ (opE hf) H locs ls 72 dX6_leadsBackAbove_72 (Or.inl rfl) hP hD hS
      · have hf := ifT hc8 hf
        refine lv_aload_n hx hb dX6_leadsBackAbove_60 rfl (lv_at hl 1 rfl) ?_
        refine va_get (D := D) (ci := 7) (v := .int p0_even) (C := RX6) (T := TX6) (N := 6) hx hb hts uwX6 hown hK hP 0 rfl rfl 4 (by decide) (hts _ kfX6_76) (fun _ h9 => h9) rfl dX6_leadsBackAbove_61 ?_
        refine lv_if_eq (tgt := 71) hx hb dX6_leadsBackAbove_64 (by decide) (fun hc7 => ?_) (fun hc7 => ?_)
        · have hf := ifT hc7 hf
          refine lv_iconst (v := 0) hx hb dX6_leadsBackAbove_71 (by decide) ?_
          exact hret _ (opE hf) H locs ls 72 dX6_leadsBackAbove_72 (Or.inl rfl) hP hD hS
        · have hf := ifF hc7 hf
          refine lv_iconst (v := 1) hx hb dX6_leadsBackAbove_67 (by decide) ?_
          refine lv_goto (tgt := 72) hx hb dX6_leadsBackAbove_68 (by decide) ?_
          exact hret _ (opE hf) H locs ls 72 dX6_leadsBackAbove_72 (Or.inr rfl) hP hD hS
  unfold f_X6_leadsBackAbove at hf
  refine lv_aload_n hx hb dX6_leadsBackAbove_0 rfl (lv_at hl 0 rfl) ?_
  refine va_get (D := D) (ci := 7) (v := .ref a_p0_work) (C := RX6) (T := TX6) (N := 6) hx hb hts uwX6 hown hK hP 0 rfl rfl 3 (by decide) (hts _ kfX6_16) (fun _ h9 => h9) rfl dX6_leadsBackAbove_1 ?_
  refine lv_aload_n hx hb dX6_leadsBackAbove_4 rfl (lv_at hl 0 rfl) ?_
  refine va_get (D := D) (ci := 7) (v := .ref a_p0_left) (C := RX6) (T := TX6) (N := 6) hx hb hts uwX6 hown hK hP 0 rfl rfl 0 (by decide) (hts _ kfX6_19) (fun _ h9 => h9) rfl dX6_leadsBackAbove_5 ?_
  obtain ⟨u1, hu2, hf⟩ := bdE hf
  refine cV_V (ws' := [(a_p0, .inr (7, [.ref a_p0_left, .ref a_p0_unit, .ref a_p0_reach, .ref a_p0_work, .int p0_even, .int p0_narrow])), (a_p0_left, .inr (5, [.ref a_p0_left_limbs, .int p0_left_size])), (a_p0_left_limbs, .inl (cJ, 160, .inr (.inl p0_left_limbs))), (a_p0_unit, .inr (5, [.ref a_p0_unit_limbs, .int p0_unit_size])), (a_p0_unit_limbs, .inl (cJ, 160, .inr (.inl p0_unit_limbs))), (a_p0_reach, .inr (5, [.ref a_p0_reach_limbs, .int p0_reach_size])), (a_p0_reach_limbs, .inl (cJ, 160, .inr (.inl p0_reach_limbs))), (a_p0_work, .inr (5, [.ref a_p0_work_limbs, .int u1.1])), (a_p0_work_limbs, .inl (cJ, 160, .inr (.inl u1.2)))]) (rest := []) S hK hN hA hP hD hS (c_X4_copy l D cI cJ a_p0_work a_p0_work_limbs a_p0_left a_p0_left_limbs  p0_work_size p0_work_limbs p0_left_size p0_left_limbs u1 hu2) mwX4_copy miX4_copy kmX6_112 [7, 8, 1, 2] rfl (by decide) rfl rfl rfl 0 rfl rfl ⟨Nat.le_of_ble_eq_true rfl, Nat.le_of_ble_eq_true rfl⟩ ⟨Nat.zero_le _, Nat.zero_le _⟩ hl.1 rfl rfl (Nat.le_of_ble_eq_true rfl) dX6_leadsBackAbove_8 (fun H locs hP hD hS => ?_)
  refine lv_aload_n hx hb dX6_leadsBackAbove_11 rfl (lv_at hl 0 rfl) ?_
  refine va_get (D := D) (ci := 7) (v := .ref a_p0_work) (C := RX6) (T := TX6) (N := 6) hx hb hts uwX6 hown hK hP 0 rfl rfl 3 (by decide) (hts _ kfX6_16) (fun _ h9 => h9) rfl dX6_leadsBackAbove_12 ?_
  refine lv_aload_n hx hb dX6_leadsBackAbove_15 rfl (lv_at hl 0 rfl) ?_
  refine va_get (D := D) (ci := 7) (v := .ref a_p0_reach) (C := RX6) (T := TX6) (N := 6) hx hb hts uwX6 hown hK hP 0 rfl rfl 2 (by decide) (hts _ kfX6_10) (fun _ h9 => h9) rfl dX6_leadsBackAbove_16 ?_
  obtain ⟨u3, hu4, hf⟩ := bdE hf
  refine cV_V (ws' := [(a_p0, .inr (7, [.ref a_p0_left, .ref a_p0_unit, .ref a_p0_reach, .ref a_p0_work, .int p0_even, .int p0_narrow])), (a_p0_left, .inr (5, [.ref a_p0_left_limbs, .int p0_left_size])), (a_p0_left_limbs, .inl (cJ, 160, .inr (.inl p0_left_limbs))), (a_p0_unit, .inr (5, [.ref a_p0_unit_limbs, .int p0_unit_size])), (a_p0_unit_limbs, .inl (cJ, 160, .inr (.inl p0_unit_limbs))), (a_p0_reach, .inr (5, [.ref a_p0_reach_limbs, .int p0_reach_size])), (a_p0_reach_limbs, .inl (cJ, 160, .inr (.inl p0_reach_limbs))), (a_p0_work, .inr (5, [.ref a_p0_work_limbs, .int u3.1])), (a_p0_work_limbs, .inl (cJ, 160, .inr (.inl u3.2)))]) (rest := []) S hK hN hA hP hD hS (c_X4_plus l D cI cJ a_p0_work a_p0_work_limbs a_p0_reach a_p0_reach_limbs  u1.1 u1.2 p0_reach_size p0_reach_limbs u3 hu4) mwX4_plus miX4_plus kmX6_123 [7, 8, 5, 6] rfl (by decide) rfl rfl rfl 0 rfl rfl ⟨Nat.le_of_ble_eq_true rfl, Nat.le_of_ble_eq_true rfl⟩ ⟨Nat.zero_le _, Nat.zero_le _⟩ hl.1 rfl rfl (Nat.le_of_ble_eq_true rfl) dX6_leadsBackAbove_19 (fun H locs hP hD hS => ?_)
  refine lv_aload_n hx hb dX6_leadsBackAbove_22 rfl (lv_at hl 0 rfl) ?_
  refine va_get (D := D) (ci := 7) (v := .int p0_narrow) (C := RX6) (T := TX6) (N := 6) hx hb hts uwX6 hown hK hP 0 rfl rfl 5 (by decide) (hts _ kfX6_83) (fun _ h9 => h9) rfl dX6_leadsBackAbove_23 ?_
  refine lv_if_eq (tgt := 40) hx hb dX6_leadsBackAbove_26 (by decide) (fun hc12 => ?_) (fun hc12 => ?_)
  · have hf := ifT hc12 hf
    exact keyB40 u3.1 u3.2 H locs ls hf hP hD hS (lv_sub hl [0] rfl)
  · have hf := ifF hc12 hf
    refine lv_aload_n hx hb dX6_leadsBackAbove_29 rfl (lv_at hl 0 rfl) ?_
    refine va_get (D := D) (ci := 7) (v := .ref a_p0_work) (C := RX6) (T := TX6) (N := 6) hx hb hts uwX6 hown hK hP 0 rfl rfl 3 (by decide) (hts _ kfX6_16) (fun _ h9 => h9) rfl dX6_leadsBackAbove_30 ?_
    refine lv_aload_n hx hb dX6_leadsBackAbove_33 rfl (lv_at hl 0 rfl) ?_
    refine va_get (D := D) (ci := 7) (v := .ref a_p0_reach) (C := RX6) (T := TX6) (N := 6) hx hb hts uwX6 hown hK hP 0 rfl rfl 2 (by decide) (hts _ kfX6_10) (fun _ h9 => h9) rfl dX6_leadsBackAbove_34 ?_
    obtain ⟨u10, hu11, hf⟩ := bdE hf
    refine cV_V (ws' := [(a_p0, .inr (7, [.ref a_p0_left, .ref a_p0_unit, .ref a_p0_reach, .ref a_p0_work, .int p0_even, .int p0_narrow])), (a_p0_left, .inr (5, [.ref a_p0_left_limbs, .int p0_left_size])), (a_p0_left_limbs, .inl (cJ, 160, .inr (.inl p0_left_limbs))), (a_p0_unit, .inr (5, [.ref a_p0_unit_limbs, .int p0_unit_size])), (a_p0_unit_limbs, .inl (cJ, 160, .inr (.inl p0_unit_limbs))), (a_p0_reach, .inr (5, [.ref a_p0_reach_limbs, .int p0_reach_size])), (a_p0_reach_limbs, .inl (cJ, 160, .inr (.inl p0_reach_limbs))), (a_p0_work, .inr (5, [.ref a_p0_work_limbs, .int u10.1])), (a_p0_work_limbs, .inl (cJ, 160, .inr (.inl u10.2)))]) (rest := []) S hK hN hA hP hD hS (c_X4_plus l D cI cJ a_p0_work a_p0_work_limbs a_p0_reach a_p0_reach_limbs  u3.1 u3.2 p0_reach_size p0_reach_limbs u10 hu11) mwX4_plus miX4_plus kmX6_123 [7, 8, 5, 6] rfl (by decide) rfl rfl rfl 0 rfl rfl ⟨Nat.le_of_ble_eq_true rfl, Nat.le_of_ble_eq_true rfl⟩ ⟨Nat.zero_le _, Nat.zero_le _⟩ hl.1 rfl rfl (Nat.le_of_ble_eq_true rfl) dX6_leadsBackAbove_37 (fun H locs hP hD hS => ?_)
    exact keyB40 u10.1 u10.2 H locs ls hf hP hD hS (lv_sub hl [0] rfl)
set_option maxRecDepth 100000 in
set_option maxHeartbeats 4000000 in
theorem c_X6_leadsBackBelow (l : Launch) (D : va_G) (cI cJ : ClassId) (a_p0 a_p0_left a_p0_unit a_p0_reach a_p0_work a_p0_left_limbs a_p0_reach_limbs : Nat) (p0_even : Int32) (p0_narrow : Int32) (p0_left_size : Int32) (p0_left_limbs : (Nat → Int64)) (p0_reach_size : Int32) (p0_reach_limbs : (Nat → Int64)) (u : Int32) (hf : f_X6_leadsBackBelow p0_even p0_left_size p0_left_limbs p0_reach_size p0_reach_limbs = some u) : CtI l yX6_leadsBackBelow cX6_leadsBackBelow 2 1 22 .boolean [.ref a_p0] D cI cJ [(a_p0, .inr (7, [.ref a_p0_left, .ref a_p0_unit, .ref a_p0_reach, .ref a_p0_work, .int p0_even, .int p0_narrow])), (a_p0_left, .inr (5, [.ref a_p0_left_limbs, .int p0_left_size])), (a_p0_left_limbs, .inl (cJ, 160, .inr (.inl p0_left_limbs))), (a_p0_reach, .inr (5, [.ref a_p0_reach_limbs, .int p0_reach_size])), (a_p0_reach_limbs, .inl (cJ, 160, .inr (.inl p0_reach_limbs)))] [(a_p0, .inr (7, [.ref a_p0_left, .ref a_p0_unit, .ref a_p0_reach, .ref a_p0_work, .int p0_even, .int p0_narrow])), (a_p0_left, .inr (5, [.ref a_p0_left_limbs, .int p0_left_size])), (a_p0_left_limbs, .inl (cJ, 160, .inr (.inl p0_left_limbs))), (a_p0_reach, .inr (5, [.ref a_p0_reach_limbs, .int p0_reach_size])), (a_p0_reach_limbs, .inl (cJ, 160, .inr (.inl p0_reach_limbs)))] u := by
  refine mkZ (own := RX6) rfl (by decide +kernel) (Nat.le_of_ble_eq_true rfl) (lv := [(0, .ref a_p0)]) rfl ?_
  intro p e s m below meth c Q A ls ar S hA hK hN hret H locs hP hD hS hl
  obtain ⟨hx, hb, hml, hown, hts⟩ := id S
  have hret : ∀ (w : Int32), w = u → ∀ (H : Heap) (locs : List Loc) (ls : Array Slot) (pc : Nat), decode cX6_leadsBackBelow pc = .ok (.ireturn, 1) → (w = 0 ∨ w = 1) → va_P D vwCl [(a_p0, .inr (7, [.ref a_p0_left, .ref a_p0_unit, .ref a_p0_reach, .ref a_p0_work, .int p0_even, .int p0_narrow])), (a_p0_left, .inr (5, [.ref a_p0_left_limbs, .int p0_left_size])), (a_p0_left_limbs, .inl (cJ, 160, .inr (.inl p0_left_limbs))), (a_p0_reach, .inr (5, [.ref a_p0_reach_limbs, .int p0_reach_size])), (a_p0_reach_limbs, .inl (cJ, 160, .inr (.inl p0_reach_limbs)))] H → va_D A [(a_p0, .inr (7, [.ref a_p0_left, .ref a_p0_unit, .ref a_p0_reach, .ref a_p0_work, .int p0_even, .int p0_narrow])), (a_p0_left, .inr (5, [.ref a_p0_left_limbs, .int p0_left_size])), (a_p0_left_limbs, .inl (cJ, 160, .inr (.inl p0_left_limbs))), (a_p0_reach, .inr (5, [.ref a_p0_reach_limbs, .int p0_reach_size])), (a_p0_reach_limbs, .inl (cJ, 160, .inr (.inl p0_reach_limbs)))] → va_S A s.heap H locs → W p l e (rmz 1 22) s m ar below meth c H locs 0 0 Q (F0 m pc ls [.int w]) := fun w hw => hw ▸ hret
  unfold f_X6_leadsBackBelow at hf
  refine lv_aload_n hx hb dX6_leadsBackBelow_0 rfl (lv_at hl 0 rfl) ?_
  refine va_get (D := D) (ci := 7) (v := .ref a_p0_left) (C := RX6) (T := TX6) (N := 6) hx hb hts uwX6 hown hK hP 0 rfl rfl 0 (by decide) (hts _ kfX6_19) (fun _ h9 => h9) rfl dX6_leadsBackBelow_1 ?_
  refine lv_aload_n hx hb dX6_leadsBackBelow_4 rfl (lv_at hl 0 rfl) ?_
  refine va_get (D := D) (ci := 7) (v := .ref a_p0_reach) (C := RX6) (T := TX6) (N := 6) hx hb hts uwX6 hown hK hP 0 rfl rfl 2 (by decide) (hts _ kfX6_10) (fun _ h9 => h9) rfl dX6_leadsBackBelow_5 ?_
  obtain ⟨u1, hu2, hf⟩ := bdE hf
  refine cV_I (ws' := [(a_p0, .inr (7, [.ref a_p0_left, .ref a_p0_unit, .ref a_p0_reach, .ref a_p0_work, .int p0_even, .int p0_narrow])), (a_p0_left, .inr (5, [.ref a_p0_left_limbs, .int p0_left_size])), (a_p0_left_limbs, .inl (cJ, 160, .inr (.inl p0_left_limbs))), (a_p0_reach, .inr (5, [.ref a_p0_reach_limbs, .int p0_reach_size])), (a_p0_reach_limbs, .inl (cJ, 160, .inr (.inl p0_reach_limbs)))]) (rest := []) S hK hN hA hP hD hS (c_X4_comparedWith l D cI cJ a_p0_left a_p0_left_limbs a_p0_reach a_p0_reach_limbs  p0_left_size p0_left_limbs p0_reach_size p0_reach_limbs u1 hu2) mwX4_comparedWith miX4_comparedWith kmX6_116 [1, 2, 3, 4] rfl (by decide) rfl rfl rfl 0 rfl rfl ⟨Nat.le_of_ble_eq_true rfl, Nat.le_of_ble_eq_true rfl⟩ ⟨Nat.zero_le _, Nat.zero_le _⟩ hl.1 rfl rfl (Nat.le_of_ble_eq_true rfl) dX6_leadsBackBelow_8 (fun H locs hP hD hS => ?_)
  refine lv_istore_n (lv' := [(1, .int u1), (0, .ref a_p0)]) hx hb dX6_leadsBackBelow_11 rfl hl (by decide) rfl (fun ls hl => ?_)
  refine lv_iload_n hx hb dX6_leadsBackBelow_12 rfl (lv_at hl 0 rfl) ?_
  refine lv_if_lt (tgt := 27) hx hb dX6_leadsBackBelow_13 (by decide) (fun hc5 => ?_) (fun hc5 => ?_)
  · have hf := ifT hc5 hf
    refine lv_iconst (v := 1) hx hb dX6_leadsBackBelow_27 (by decide) ?_
    refine lv_goto (tgt := 32) hx hb dX6_leadsBackBelow_28 (by decide) ?_
    exact hret _ (opE hf) H locs ls 32 dX6_leadsBackBelow_32 (Or.inr rfl) hP hD hS
  · have hf := ifF hc5 hf
    refine lv_iload_n hx hb dX6_leadsBackBelow_16 rfl (lv_at hl 0 rfl) ?_
    refine lv_if_ne (tgt := 31) hx hb dX6_leadsBackBelow_17 (by decide) (fun hc4 => ?_) (fun hc4 => ?_)
    · have hf := ifF hc4 hf
      refine lv_iconst (v := 0) hx hb dX6_leadsBackBelow_31 (by decide) ?_
      exact hret _ (opE hf) H locs ls 32 dX6_leadsBackBelow_32 (Or.inl rfl) hP hD hS
    · have hf := ifT hc4 hf
      refine lv_aload_n hx hb dX6_leadsBackBelow_20 rfl (lv_at hl 1 rfl) ?_
      refine va_get (D := D) (ci := 7) (v := .int p0_even) (C := RX6) (T := TX6) (N := 6) hx hb hts uwX6 hown hK hP 0 rfl rfl 4 (by decide) (hts _ kfX6_76) (fun _ h9 => h9) rfl dX6_leadsBackBelow_21 ?_
      refine lv_if_eq (tgt := 31) hx hb dX6_leadsBackBelow_24 (by decide) (fun hc3 => ?_) (fun hc3 => ?_)
      · have hf := ifT hc3 hf
        refine lv_iconst (v := 0) hx hb dX6_leadsBackBelow_31 (by decide) ?_
        exact hret _ (opE hf) H locs ls 32 dX6_leadsBackBelow_32 (Or.inl rfl) hP hD hS
      · have hf := ifF hc3 hf
        refine lv_iconst (v := 1) hx hb dX6_leadsBackBelow_27 (by decide) ?_
        refine lv_goto (tgt := 32) hx hb dX6_leadsBackBelow_28 (by decide) ?_
        exact hret _ (opE hf) H locs ls 32 dX6_leadsBackBelow_32 (Or.inr rfl) hP hD hS
set_option maxRecDepth 100000 in
set_option maxHeartbeats 4000000 in
theorem c_J9_floorDiv_f86c9 (l : Launch) (D : va_G) (cI cJ : ClassId) (p0 : Int64) (p1 : Int64)  (u : Int64) (hf : f_J9_floorDiv_f86c9 p0 p1 = some u) : CtL l yJ9_floorDiv_f86c9 cJ9_floorDiv_f86c9 6 0 0 [.long p0, .long p1] D cI cJ [] [] u := by
  refine mkL (own := RJ9) rfl (by decide +kernel) (Nat.le_of_ble_eq_true rfl) (lv := [(0, .long p0), (2, .long p1)]) rfl ?_
  intro p e s m below meth c Q A ls ar S hA hK hN hret H locs hP hD hS hl
  obtain ⟨hx, hb, hml, hown, hts⟩ := id S
  have hret : ∀ (w : Int64), w = u → ∀ (H : Heap) (locs : List Loc) (ls : Array Slot) (pc : Nat), decode cJ9_floorDiv_f86c9 pc = .ok (.lreturn, 1) → va_P D vwCl [] H → va_D A [] → va_S A s.heap H locs → W p l e (rmz 0 0) s m ar below meth c H locs 0 0 Q (F0 m pc ls [.long w]) := fun w hw => hw ▸ hret
  unfold f_J9_floorDiv_f86c9 at hf
  refine lv_lload_n hx hb dJ9_floorDiv_f86c9_0 rfl (lv_at hl 0 rfl) ?_
  refine lv_lload_n hx hb dJ9_floorDiv_f86c9_1 rfl (lv_at hl 1 rfl) ?_
  obtain ⟨hz1, hf⟩ := nzE hf
  refine lv_ldiv hx hb dJ9_floorDiv_f86c9_2 hz1 ?_
  refine lv_lstore (lv' := [(4, .long (p0 / p1)), (0, .long p0), (2, .long p1)]) hx hb dJ9_floorDiv_f86c9_3 hl (by decide) rfl (fun ls hl => ?_)
  refine lv_lload_n hx hb dJ9_floorDiv_f86c9_5 rfl (lv_at hl 1 rfl) ?_
  refine lv_lload_n hx hb dJ9_floorDiv_f86c9_6 rfl (lv_at hl 2 rfl) ?_
  refine lv_lxor hx hb dJ9_floorDiv_f86c9_7 ?_
  refine lv_lconst (v := 0) hx hb dJ9_floorDiv_f86c9_8 (by decide) ?_
  refine W.lcmp hx hb dJ9_floorDiv_f86c9_9 ?_
  refine lv_if_ge (tgt := 27) hx hb dJ9_floorDiv_f86c9_10 (by decide) (fun hc3 => ?_) (fun hc3 => ?_)
  · have hf := ifT hc3 hf
    refine lv_lload hx hb dJ9_floorDiv_f86c9_27 (lv_at hl 0 rfl) ?_
    exact hret _ (opE hf) H locs ls 29 dJ9_floorDiv_f86c9_29 hP hD hS
  · have hf := ifF hc3 hf
    refine lv_lload hx hb dJ9_floorDiv_f86c9_13 (lv_at hl 0 rfl) ?_
    refine lv_lload_n hx hb dJ9_floorDiv_f86c9_15 rfl (lv_at hl 2 rfl) ?_
    refine lv_lmul hx hb dJ9_floorDiv_f86c9_16 ?_
    refine lv_lload_n hx hb dJ9_floorDiv_f86c9_17 rfl (lv_at hl 1 rfl) ?_
    refine W.lcmp hx hb dJ9_floorDiv_f86c9_18 ?_
    refine lv_if_eq (tgt := 27) hx hb dJ9_floorDiv_f86c9_19 (by decide) (fun hc2 => ?_) (fun hc2 => ?_)
    · have hf := ifT hc2 hf
      refine lv_lload hx hb dJ9_floorDiv_f86c9_27 (lv_at hl 0 rfl) ?_
      exact hret _ (opE hf) H locs ls 29 dJ9_floorDiv_f86c9_29 hP hD hS
    · have hf := ifF hc2 hf
      refine lv_lload hx hb dJ9_floorDiv_f86c9_22 (lv_at hl 0 rfl) ?_
      refine lv_lconst (v := 1) hx hb dJ9_floorDiv_f86c9_24 (by decide) ?_
      refine lv_lsub hx hb dJ9_floorDiv_f86c9_25 ?_
      exact hret _ (opE hf) H locs ls 26 dJ9_floorDiv_f86c9_26 hP hD hS
set_option maxRecDepth 100000 in
set_option maxHeartbeats 4000000 in
theorem c_X8_bits (l : Launch) (D : va_G) (cI cJ : ClassId) (a_p0 : Nat) (p0_kind : Int32) (p0_minus : Int32) (p0_m : Int64) (p0_e : Int32) (p0_narrowBelow : Int32) (u : Int32) (hf : f_X8_bits p0_m = some u) : CtI l yX8_bits cX8_bits 1 2 43 .int [.ref a_p0] D cI cJ [(a_p0, .inr (9, [.int p0_kind, .int p0_minus, .long p0_m, .int p0_e, .int p0_narrowBelow]))] [(a_p0, .inr (9, [.int p0_kind, .int p0_minus, .long p0_m, .int p0_e, .int p0_narrowBelow]))] u := by
  refine mkI (own := RX8) rfl (by decide +kernel) (Nat.le_of_ble_eq_true rfl) (lv := [(0, .ref a_p0)]) rfl ?_
  intro p e s m below meth c Q A ls ar S hA hK hN hret H locs hP hD hS hl
  obtain ⟨hx, hb, hml, hown, hts⟩ := id S
  have hret : ∀ (w : Int32), w = u → ∀ (H : Heap) (locs : List Loc) (ls : Array Slot) (pc : Nat), decode cX8_bits pc = .ok (.ireturn, 1) → va_P D vwCl [(a_p0, .inr (9, [.int p0_kind, .int p0_minus, .long p0_m, .int p0_e, .int p0_narrowBelow]))] H → va_D A [(a_p0, .inr (9, [.int p0_kind, .int p0_minus, .long p0_m, .int p0_e, .int p0_narrowBelow]))] → va_S A s.heap H locs → W p l e (rmz 2 43) s m ar below meth c H locs 0 0 Q (F0 m pc ls [.int w]) := fun w hw => hw ▸ hret
  unfold f_X8_bits at hf
  refine lv_bipush (v := 64) hx hb dX8_bits_0 (by decide) ?_
  refine lv_aload_n hx hb dX8_bits_2 rfl (lv_at hl 0 rfl) ?_
  refine va_get (D := D) (ci := 9) (v := .long p0_m) (C := RX8) (T := TX8) (N := 5) hx hb hts uwX8 hown hK hP 0 rfl rfl 2 (by decide) (hts _ kfX8_27) (fun _ h9 => h9) rfl dX8_bits_3 ?_
  obtain ⟨u1, hu2, hf⟩ := bdE hf
  refine cS_I (ws' := [(a_p0, .inr (9, [.int p0_kind, .int p0_minus, .long p0_m, .int p0_e, .int p0_narrowBelow]))]) (rest := [.int (64 : Int32)]) S hK hN hA hP hD hS (c_J13_numberOfLeadingZeros_95d88 l D cI cJ  p0_m  u1 hu2) mwJ13_numberOfLeadingZeros_95d88 msJ13_numberOfLeadingZeros_95d88 kmX8_47 [] rfl (by decide) rfl rfl rfl ⟨Nat.le_of_ble_eq_true rfl, Nat.le_of_ble_eq_true rfl⟩ ⟨Nat.zero_le _, Nat.zero_le _⟩ hl.1 rfl rfl (Nat.le_of_ble_eq_true rfl) dX8_bits_6 (fun H locs hP hD hS => ?_)
  refine lv_isub hx hb dX8_bits_9 ?_
  exact hret _ (opE hf) H locs ls 10 dX8_bits_10 hP hD hS
set_option maxRecDepth 100000 in
set_option maxHeartbeats 4000000 in
theorem c_X6_scaleToFirstFigure (l : Launch) (D : va_G) (cI cJ : ClassId) (a_p0 a_p0_left a_p0_unit a_p0_reach a_p0_work a_p0_left_limbs a_p0_unit_limbs a_p0_reach_limbs a_p0_work_limbs a_p1 : Nat) (p0_even : Int32) (p0_narrow : Int32) (p0_left_size : Int32) (p0_left_limbs : (Nat → Int64)) (p0_unit_size : Int32) (p0_unit_limbs : (Nat → Int64)) (p0_reach_size : Int32) (p0_reach_limbs : (Nat → Int64)) (p0_work_size : Int32) (p0_work_limbs : (Nat → Int64)) (p1_kind : Int32) (p1_minus : Int32) (p1_m : Int64) (p1_e : Int32) (p1_narrowBelow : Int32) (u : Int32 × Int32 × (Nat → Int64) × Int32 × (Nat → Int64) × Int32 × (Nat → Int64) × Int32 × (Nat → Int64)) (hf : f_X6_scaleToFirstFigure p1_m p1_e p0_left_size p0_left_limbs p0_unit_size p0_unit_limbs p0_reach_size p0_reach_limbs p0_work_size p0_work_limbs = some u) : CtI l yX6_scaleToFirstFigure cX6_scaleToFirstFigure 3 3 63 .int [.ref a_p0, .ref a_p1] D cI cJ [(a_p0, .inr (7, [.ref a_p0_left, .ref a_p0_unit, .ref a_p0_reach, .ref a_p0_work, .int p0_even, .int p0_narrow])), (a_p0_left, .inr (5, [.ref a_p0_left_limbs, .int p0_left_size])), (a_p0_left_limbs, .inl (cJ, 160, .inr (.inl p0_left_limbs))), (a_p0_unit, .inr (5, [.ref a_p0_unit_limbs, .int p0_unit_size])), (a_p0_unit_limbs, .inl (cJ, 160, .inr (.inl p0_unit_limbs))), (a_p0_reach, .inr (5, [.ref a_p0_reach_limbs, .int p0_reach_size])), (a_p0_reach_limbs, .inl (cJ, 160, .inr (.inl p0_reach_limbs))), (a_p0_work, .inr (5, [.ref a_p0_work_limbs, .int p0_work_size])), (a_p0_work_limbs, .inl (cJ, 160, .inr (.inl p0_work_limbs))), (a_p1, .inr (9, [.int p1_kind, .int p1_minus, .long p1_m, .int p1_e, .int p1_narrowBelow]))] [(a_p0, .inr (7, [.ref a_p0_left, .ref a_p0_unit, .ref a_p0_reach, .ref a_p0_work, .int p0_even, .int p0_narrow])), (a_p0_left, .inr (5, [.ref a_p0_left_limbs, .int u.2.1])), (a_p0_left_limbs, .inl (cJ, 160, .inr (.inl u.2.2.1))), (a_p0_unit, .inr (5, [.ref a_p0_unit_limbs, .int u.2.2.2.1])), (a_p0_unit_limbs, .inl (cJ, 160, .inr (.inl u.2.2.2.2.1))), (a_p0_reach, .inr (5, [.ref a_p0_reach_limbs, .int u.2.2.2.2.2.1])), (a_p0_reach_limbs, .inl (cJ, 160, .inr (.inl u.2.2.2.2.2.2.1))), (a_p0_work, .inr (5, [.ref a_p0_work_limbs, .int u.2.2.2.2.2.2.2.1])), (a_p0_work_limbs, .inl (cJ, 160, .inr (.inl u.2.2.2.2.2.2.2.2))), (a_p1, .inr (9, [.int p1_kind, .int p1_minus, .long p1_m, .int p1_e, .int p1_narrowBelow]))] u.1 := by
  refine mkI (own := RX6) rfl (by decide +kernel) (Nat.le_of_ble_eq_true rfl) (lv := [(0, .ref a_p0), (1, .ref a_p1)]) rfl ?_
  intro p e s m below meth c Q A ls ar S hA hK hN hret H locs hP hD hS hl
  obtain ⟨hx, hb, hml, hown, hts⟩ := id S
  have hret : ∀ (w : Int32 × Int32 × (Nat → Int64) × Int32 × (Nat → Int64) × Int32 × (Nat → Int64) × Int32 × (Nat → Int64)), w = u → ∀ (H : Heap) (locs : List Loc) (ls : Array Slot) (pc : Nat), decode cX6_scaleToFirstFigure pc = .ok (.ireturn, 1) → va_P D vwCl [(a_p0, .inr (7, [.ref a_p0_left, .ref a_p0_unit, .ref a_p0_reach, .ref a_p0_work, .int p0_even, .int p0_narrow])), (a_p0_left, .inr (5, [.ref a_p0_left_limbs, .int w.2.1])), (a_p0_left_limbs, .inl (cJ, 160, .inr (.inl w.2.2.1))), (a_p0_unit, .inr (5, [.ref a_p0_unit_limbs, .int w.2.2.2.1])), (a_p0_unit_limbs, .inl (cJ, 160, .inr (.inl w.2.2.2.2.1))), (a_p0_reach, .inr (5, [.ref a_p0_reach_limbs, .int w.2.2.2.2.2.1])), (a_p0_reach_limbs, .inl (cJ, 160, .inr (.inl w.2.2.2.2.2.2.1))), (a_p0_work, .inr (5, [.ref a_p0_work_limbs, .int w.2.2.2.2.2.2.2.1])), (a_p0_work_limbs, .inl (cJ, 160, .inr (.inl w.2.2.2.2.2.2.2.2))), (a_p1, .inr (9, [.int p1_kind, .int p1_minus, .long p1_m, .int p1_e, .int p1_narrowBelow]))] H → va_D A [(a_p0, .inr (7, [.ref a_p0_left, .ref a_p0_unit, .ref a_p0_reach, .ref a_p0_work, .int p0_even, .int p0_narrow])), (a_p0_left, .inr (5, [.ref a_p0_left_limbs, .int w.2.1])), (a_p0_left_limbs, .inl (cJ, 160, .inr (.inl w.2.2.1))), (a_p0_unit, .inr (5, [.ref a_p0_unit_limbs, .int w.2.2.2.1])), (a_p0_unit_limbs, .inl (cJ, 160, .inr (.inl w.2.2.2.2.1))), (a_p0_reach, .inr (5, [.ref a_p0_reach_limbs, .int w.2.2.2.2.2.1])), (a_p0_reach_limbs, .inl (cJ, 160, .inr (.inl w.2.2.2.2.2.2.1))), (a_p0_work, .inr (5, [.ref a_p0_work_limbs, .int w.2.2.2.2.2.2.2.1])), (a_p0_work_limbs, .inl (cJ, 160, .inr (.inl w.2.2.2.2.2.2.2.2))), (a_p1, .inr (9, [.int p1_kind, .int p1_minus, .long p1_m, .int p1_e, .int p1_narrowBelow]))] → va_S A s.heap H locs → W p l e (rmz 3 63) s m ar below meth c H locs 0 0 Q (F0 m pc ls [.int w.1]) := fun w hw => hw ▸ hret
  have keyB83 : ∀ (v2 : Int32) (p0_left_size : Int32) (p0_left_limbs : (Nat → Int64)) (p0_unit_size : Int32) (p0_unit_limbs : (Nat → Int64)) (p0_reach_size : Int32) (p0_reach_limbs : (Nat → Int64)) (p0_work_size : Int32) (p0_work_limbs : (Nat → Int64)) (H : Heap) (locs : List Loc) (ls : Array Slot), f_X6_scaleToFirstFigure_B83 p1_m p1_e v2 p0_left_size p0_left_limbs p0_unit_size p0_unit_limbs p0_reach_size p0_reach_limbs p0_work_size p0_work_limbs = some u → va_P D vwCl [(a_p0, .inr (7, [.ref a_p0_left, .ref a_p0_unit, .ref a_p0_reach, .ref a_p0_work, .int p0_even, .int p0_narrow])), (a_p0_left, .inr (5, [.ref a_p0_left_limbs, .int p0_left_size])), (a_p0_left_limbs, .inl (cJ, 160, .inr (.inl p0_left_limbs))), (a_p0_unit, .inr (5, [.ref a_p0_unit_limbs, .int p0_unit_size])), (a_p0_unit_limbs, .inl (cJ, 160, .inr (.inl p0_unit_limbs))), (a_p0_reach, .inr (5, [.ref a_p0_reach_limbs, .int p0_reach_size])), (a_p0_reach_limbs, .inl (cJ, 160, .inr (.inl p0_reach_limbs))), (a_p0_work, .inr (5, [.ref a_p0_work_limbs, .int p0_work_size])), (a_p0_work_limbs, .inl (cJ, 160, .inr (.inl p0_work_limbs))), (a_p1, .inr (9, [.int p1_kind, .int p1_minus, .long p1_m, .int p1_e, .int p1_narrowBelow]))] H → va_D A [(a_p0, .inr (7, [.ref a_p0_left, .ref a_p0_unit, .ref a_p0_reach, .ref a_p0_work, .int p0_even, .int p0_narrow])), (a_p0_left, .inr (5, [.ref a_p0_left_limbs, .int p0_left_size])), (a_p0_left_limbs, .inl (cJ, 160, .inr (.inl p0_left_limbs))), (a_p0_unit, .inr (5, [.ref a_p0_unit_limbs, .int p0_unit_size])), (a_p0_unit_limbs, .inl (cJ, 160, .inr (.inl p0_unit_limbs))), (a_p0_reach, .inr (5, [.ref a_p0_reach_limbs, .int p0_reach_size])), (a_p0_reach_limbs, .inl (cJ, 160, .inr (.inl p0_reach_limbs))), (a_p0_work, .inr (5, [.ref a_p0_work_limbs, .int p0_work_size])), (a_p0_work_limbs, .inl (cJ, 160, .inr (.inl p0_work_limbs))), (a_p1, .inr (9, [.int p1_kind, .int p1_minus, .long p1_m, .int p1_e, .int p1_narrowBelow]))] → va_S A s.heap H locs → lv_has ls 3 [(0, .ref a_p0), (2, .int v2)] → W p l e (rmz 3 63) s m ar below meth c H locs 0 0 Q (F0 m 83 ls []) := by
    intro v2 p0_left_size p0_left_limbs p0_unit_size p0_unit_limbs p0_reach_size p0_reach_limbs p0_work_size p0_work_limbs H locs ls hf hP hD hS hl
    unfold f_X6_scaleToFirstFigure_B83 at hf
    refine lv_aload_n hx hb dX6_scaleToFirstFigure_83 rfl (lv_at hl 0 rfl) ?_
    refine va_get (D := D) (ci := 7) (v := .ref a_p0_work) (C := RX6) (T := TX6) (N := 6) hx hb hts uwX6 hown hK hP 0 rfl rfl 3 (by decide) (hts _ kfX6_16) (fun _ h9 => h9) rfl dX6_scaleToFirstFigure_84 ?_
    refine lv_aload_n hx hb dX6_scaleToFirstFigure_87 rfl (lv_at hl 0 rfl) ?_
    refine va_get (D := D) (ci := 7) (v := .ref a_p0_unit) (C := RX6) (T := TX6) (N := 6) hx hb hts uwX6 hown hK hP 0 rfl rfl 1 (by decide) (hts _ kfX6_22) (fun _ h9 => h9) rfl dX6_scaleToFirstFigure_88 ?_
    obtain ⟨u13, hu14, hf⟩ := bdE hf
    refine cV_V (ws' := [(a_p0, .inr (7, [.ref a_p0_left, .ref a_p0_unit, .ref a_p0_reach, .ref a_p0_work, .int p0_even, .int p0_narrow])), (a_p0_left, .inr (5, [.ref a_p0_left_limbs, .int p0_left_size])), (a_p0_left_limbs, .inl (cJ, 160, .inr (.inl p0_left_limbs))), (a_p0_unit, .inr (5, [.ref a_p0_unit_limbs, .int p0_unit_size])), (a_p0_unit_limbs, .inl (cJ, 160, .inr (.inl p0_unit_limbs))), (a_p0_reach, .inr (5, [.ref a_p0_reach_limbs, .int p0_reach_size])), (a_p0_reach_limbs, .inl (cJ, 160, .inr (.inl p0_reach_limbs))), (a_p0_work, .inr (5, [.ref a_p0_work_limbs, .int u13.1])), (a_p0_work_limbs, .inl (cJ, 160, .inr (.inl u13.2))), (a_p1, .inr (9, [.int p1_kind, .int p1_minus, .long p1_m, .int p1_e, .int p1_narrowBelow]))]) (rest := []) S hK hN hA hP hD hS (c_X4_copy l D cI cJ a_p0_work a_p0_work_limbs a_p0_unit a_p0_unit_limbs  p0_work_size p0_work_limbs p0_unit_size p0_unit_limbs u13 hu14) mwX4_copy miX4_copy kmX6_112 [7, 8, 3, 4] rfl (by decide) rfl rfl rfl 0 rfl rfl ⟨Nat.le_of_ble_eq_true rfl, Nat.le_of_ble_eq_true rfl⟩ ⟨Nat.zero_le _, Nat.zero_le _⟩ hl.1 rfl rfl (Nat.le_of_ble_eq_true rfl) dX6_scaleToFirstFigure_91 (fun H locs hP hD hS => ?_)
    refine lv_aload_n hx hb dX6_scaleToFirstFigure_94 rfl (lv_at hl 0 rfl) ?_
    refine va_get (D := D) (ci := 7) (v := .ref a_p0_work) (C := RX6) (T := TX6) (N := 6) hx hb hts uwX6 hown hK hP 0 rfl rfl 3 (by decide) (hts _ kfX6_16) (fun _ h9 => h9) rfl dX6_scaleToFirstFigure_95 ?_
    refine lv_ldc2 hx hb hown (hts _ kcX6_64) dX6_scaleToFirstFigure_98 ?_
    refine lv_lconst (v := 0) hx hb dX6_scaleToFirstFigure_101 (by decide) ?_
    obtain ⟨u15, hu16, hf⟩ := bdE hf
    refine cV_V (ws' := [(a_p0, .inr (7, [.ref a_p0_left, .ref a_p0_unit, .ref a_p0_reach, .ref a_p0_work, .int p0_even, .int p0_narrow])), (a_p0_left, .inr (5, [.ref a_p0_left_limbs, .int p0_left_size])), (a_p0_left_limbs, .inl (cJ, 160, .inr (.inl p0_left_limbs))), (a_p0_unit, .inr (5, [.ref a_p0_unit_limbs, .int p0_unit_size])), (a_p0_unit_limbs, .inl (cJ, 160, .inr (.inl p0_unit_limbs))), (a_p0_reach, .inr (5, [.ref a_p0_reach_limbs, .int p0_reach_size])), (a_p0_reach_limbs, .inl (cJ, 160, .inr (.inl p0_reach_limbs))), (a_p0_work, .inr (5, [.ref a_p0_work_limbs, .int u15.1])), (a_p0_work_limbs, .inl (cJ, 160, .inr (.inl u15.2))), (a_p1, .inr (9, [.int p1_kind, .int p1_minus, .long p1_m, .int p1_e, .int p1_narrowBelow]))]) (rest := []) S hK hN hA hP hD hS (c_X4_scale l D cI cJ a_p0_work a_p0_work_limbs (10 : Int64) (0 : Int64) u13.1 u13.2 u15 hu16) mwX4_scale miX4_scale kmX6_66 [7, 8] rfl (by decide) rfl rfl rfl 0 rfl rfl ⟨Nat.le_of_ble_eq_true rfl, Nat.le_of_ble_eq_true rfl⟩ ⟨Nat.zero_le _, Nat.zero_le _⟩ hl.1 rfl rfl (Nat.le_of_ble_eq_true rfl) dX6_scaleToFirstFigure_102 (fun H locs hP hD hS => ?_)
    refine lv_aload_n hx hb dX6_scaleToFirstFigure_105 rfl (lv_at hl 0 rfl) ?_
    refine va_get (D := D) (ci := 7) (v := .ref a_p0_left) (C := RX6) (T := TX6) (N := 6) hx hb hts uwX6 hown hK hP 0 rfl rfl 0 (by decide) (hts _ kfX6_19) (fun _ h9 => h9) rfl dX6_scaleToFirstFigure_106 ?_
    refine lv_aload_n hx hb dX6_scaleToFirstFigure_109 rfl (lv_at hl 0 rfl) ?_
    refine va_get (D := D) (ci := 7) (v := .ref a_p0_work) (C := RX6) (T := TX6) (N := 6) hx hb hts uwX6 hown hK hP 0 rfl rfl 3 (by decide) (hts _ kfX6_16) (fun _ h9 => h9) rfl dX6_scaleToFirstFigure_110 ?_
    obtain ⟨u17, hu18, hf⟩ := bdE hf
    refine cV_I (ws' := [(a_p0, .inr (7, [.ref a_p0_left, .ref a_p0_unit, .ref a_p0_reach, .ref a_p0_work, .int p0_even, .int p0_narrow])), (a_p0_left, .inr (5, [.ref a_p0_left_limbs, .int p0_left_size])), (a_p0_left_limbs, .inl (cJ, 160, .inr (.inl p0_left_limbs))), (a_p0_unit, .inr (5, [.ref a_p0_unit_limbs, .int p0_unit_size])), (a_p0_unit_limbs, .inl (cJ, 160, .inr (.inl p0_unit_limbs))), (a_p0_reach, .inr (5, [.ref a_p0_reach_limbs, .int p0_reach_size])), (a_p0_reach_limbs, .inl (cJ, 160, .inr (.inl p0_reach_limbs))), (a_p0_work, .inr (5, [.ref a_p0_work_limbs, .int u15.1])), (a_p0_work_limbs, .inl (cJ, 160, .inr (.inl u15.2))), (a_p1, .inr (9, [.int p1_kind, .int p1_minus, .long p1_m, .int p1_e, .int p1_narrowBelow]))]) (rest := []) S hK hN hA hP hD hS (c_X4_comparedWith l D cI cJ a_p0_left a_p0_left_limbs a_p0_work a_p0_work_limbs  p0_left_size p0_left_limbs u15.1 u15.2 u17 hu18) mwX4_comparedWith miX4_comparedWith kmX6_116 [1, 2, 7, 8] rfl (by decide) rfl rfl rfl 0 rfl rfl ⟨Nat.le_of_ble_eq_true rfl, Nat.le_of_ble_eq_true rfl⟩ ⟨Nat.zero_le _, Nat.zero_le _⟩ hl.1 rfl rfl (Nat.le_of_ble_eq_true rfl) dX6_scaleToFirstFigure_113 (fun H locs hP hD hS => ?_)
    refine lv_if_lt (tgt := 134) hx hb dX6_scaleToFirstFigure_116 (by decide) (fun hc21 => ?_) (fun hc21 => ?_)
    · have hf := ifT hc21 hf
      refine lv_iload_n hx hb dX6_scaleToFirstFigure_134 rfl (lv_at hl 1 rfl) ?_
      exact hret _ (opE hf) H locs ls 135 dX6_scaleToFirstFigure_135 hP hD hS
    · have hf := ifF hc21 hf
      refine lv_aload_n hx hb dX6_scaleToFirstFigure_119 rfl (lv_at hl 0 rfl) ?_
      refine va_get (D := D) (ci := 7) (v := .ref a_p0_unit) (C := RX6) (T := TX6) (N := 6) hx hb hts uwX6 hown hK hP 0 rfl rfl 1 (by decide) (hts _ kfX6_22) (fun _ h9 => h9) rfl dX6_scaleToFirstFigure_120 ?_
      refine lv_aload_n hx hb dX6_scaleToFirstFigure_123 rfl (lv_at hl 0 rfl) ?_
      refine va_get (D := D) (ci := 7) (v := .ref a_p0_work) (C := RX6) (T := TX6) (N := 6) hx hb hts uwX6 hown hK hP 0 rfl rfl 3 (by decide) (hts _ kfX6_16) (fun _ h9 => h9) rfl dX6_scaleToFirstFigure_124 ?_
      obtain ⟨u19, hu20, hf⟩ := bdE hf
      refine cV_V (ws' := [(a_p0, .inr (7, [.ref a_p0_left, .ref a_p0_unit, .ref a_p0_reach, .ref a_p0_work, .int p0_even, .int p0_narrow])), (a_p0_left, .inr (5, [.ref a_p0_left_limbs, .int p0_left_size])), (a_p0_left_limbs, .inl (cJ, 160, .inr (.inl p0_left_limbs))), (a_p0_unit, .inr (5, [.ref a_p0_unit_limbs, .int u19.1])), (a_p0_unit_limbs, .inl (cJ, 160, .inr (.inl u19.2))), (a_p0_reach, .inr (5, [.ref a_p0_reach_limbs, .int p0_reach_size])), (a_p0_reach_limbs, .inl (cJ, 160, .inr (.inl p0_reach_limbs))), (a_p0_work, .inr (5, [.ref a_p0_work_limbs, .int u15.1])), (a_p0_work_limbs, .inl (cJ, 160, .inr (.inl u15.2))), (a_p1, .inr (9, [.int p1_kind, .int p1_minus, .long p1_m, .int p1_e, .int p1_narrowBelow]))]) (rest := []) S hK hN hA hP hD hS (c_X4_copy l D cI cJ a_p0_unit a_p0_unit_limbs a_p0_work a_p0_work_limbs  p0_unit_size p0_unit_limbs u15.1 u15.2 u19 hu20) mwX4_copy miX4_copy kmX6_112 [3, 4, 7, 8] rfl (by decide) rfl rfl rfl 0 rfl rfl ⟨Nat.le_of_ble_eq_true rfl, Nat.le_of_ble_eq_true rfl⟩ ⟨Nat.zero_le _, Nat.zero_le _⟩ hl.1 rfl rfl (Nat.le_of_ble_eq_true rfl) dX6_scaleToFirstFigure_127 (fun H locs hP hD hS => ?_)
      refine lv_iload_n hx hb dX6_scaleToFirstFigure_130 rfl (lv_at hl 1 rfl) ?_
      refine lv_iconst (v := 1) hx hb dX6_scaleToFirstFigure_131 (by decide) ?_
      refine lv_iadd hx hb dX6_scaleToFirstFigure_132 ?_
      exact hret _ (opE hf) H locs ls 133 dX6_scaleToFirstFigure_133 hP hD hS
  unfold f_X6_scaleToFirstFigure at hf
  refine lv_aload_n hx hb dX6_scaleToFirstFigure_0 rfl (lv_at hl 1 rfl) ?_
  obtain ⟨u1, hu2, hf⟩ := bdE hf
  refine cV_I (ws' := [(a_p0, .inr (7, [.ref a_p0_left, .ref a_p0_unit, .ref a_p0_reach, .ref a_p0_work, .int p0_even, .int p0_narrow])), (a_p0_left, .inr (5, [.ref a_p0_left_limbs, .int p0_left_size])), (a_p0_left_limbs, .inl (cJ, 160, .inr (.inl p0_left_limbs))), (a_p0_unit, .inr (5, [.ref a_p0_unit_limbs, .int p0_unit_size])), (a_p0_unit_limbs, .inl (cJ, 160, .inr (.inl p0_unit_limbs))), (a_p0_reach, .inr (5, [.ref a_p0_reach_limbs, .int p0_reach_size])), (a_p0_reach_limbs, .inl (cJ, 160, .inr (.inl p0_reach_limbs))), (a_p0_work, .inr (5, [.ref a_p0_work_limbs, .int p0_work_size])), (a_p0_work_limbs, .inl (cJ, 160, .inr (.inl p0_work_limbs))), (a_p1, .inr (9, [.int p1_kind, .int p1_minus, .long p1_m, .int p1_e, .int p1_narrowBelow]))]) (rest := []) S hK hN hA hP hD hS (c_X8_bits l D cI cJ a_p1  p1_kind p1_minus p1_m p1_e p1_narrowBelow u1 hu2) mwX8_bits miX8_bits kmX6_96 [9] rfl (by decide) rfl rfl rfl 0 rfl rfl ⟨Nat.le_of_ble_eq_true rfl, Nat.le_of_ble_eq_true rfl⟩ ⟨Nat.zero_le _, Nat.zero_le _⟩ hl.1 rfl rfl (Nat.le_of_ble_eq_true rfl) dX6_scaleToFirstFigure_1 (fun H locs hP hD hS => ?_)
  refine lv_aload_n hx hb dX6_scaleToFirstFigure_4 rfl (lv_at hl 1 rfl) ?_
  refine va_get (D := D) (ci := 9) (v := .int p1_e) (C := RX8) (T := TX8) (N := 5) hx hb hts uwX8 hown hK hP 9 rfl rfl 3 (by decide) (hts _ kfX6_86) (fun _ h9 => h9) rfl dX6_scaleToFirstFigure_5 ?_
  refine lv_iadd hx hb dX6_scaleToFirstFigure_8 ?_
  refine lv_iconst (v := 1) hx hb dX6_scaleToFirstFigure_9 (by decide) ?_
  refine lv_isub hx hb dX6_scaleToFirstFigure_10 ?_
  refine lv_i2l (v := ((u1 + p1_e) - (1 : Int32)).toInt64) hx hb dX6_scaleToFirstFigure_11 rfl ?_
  refine lv_ldc2 hx hb hown (hts _ kcX6_99) dX6_scaleToFirstFigure_12 ?_
  refine lv_lmul hx hb dX6_scaleToFirstFigure_15 ?_
  refine lv_ldc2 hx hb hown (hts _ kcX6_101) dX6_scaleToFirstFigure_16 ?_
  obtain ⟨u3, hu4, hf⟩ := bdE hf
  refine cS_L (ws' := [(a_p0, .inr (7, [.ref a_p0_left, .ref a_p0_unit, .ref a_p0_reach, .ref a_p0_work, .int p0_even, .int p0_narrow])), (a_p0_left, .inr (5, [.ref a_p0_left_limbs, .int p0_left_size])), (a_p0_left_limbs, .inl (cJ, 160, .inr (.inl p0_left_limbs))), (a_p0_unit, .inr (5, [.ref a_p0_unit_limbs, .int p0_unit_size])), (a_p0_unit_limbs, .inl (cJ, 160, .inr (.inl p0_unit_limbs))), (a_p0_reach, .inr (5, [.ref a_p0_reach_limbs, .int p0_reach_size])), (a_p0_reach_limbs, .inl (cJ, 160, .inr (.inl p0_reach_limbs))), (a_p0_work, .inr (5, [.ref a_p0_work_limbs, .int p0_work_size])), (a_p0_work_limbs, .inl (cJ, 160, .inr (.inl p0_work_limbs))), (a_p1, .inr (9, [.int p1_kind, .int p1_minus, .long p1_m, .int p1_e, .int p1_narrowBelow]))]) (rest := []) S hK hN hA hP hD hS (c_J9_floorDiv_f86c9 l D cI cJ  ((((u1 + p1_e) - (1 : Int32)).toInt64) * (30103 : Int64)) (100000 : Int64)  u3 hu4) mwJ9_floorDiv_f86c9 msJ9_floorDiv_f86c9 kmX6_103 [] rfl (by decide) rfl rfl rfl ⟨Nat.le_of_ble_eq_true rfl, Nat.le_of_ble_eq_true rfl⟩ ⟨Nat.zero_le _, Nat.zero_le _⟩ hl.1 rfl rfl (Nat.le_of_ble_eq_true rfl) dX6_scaleToFirstFigure_19 (fun H locs hP hD hS => ?_)
  refine lv_l2i (v := u3.toInt32) hx hb dX6_scaleToFirstFigure_22 rfl ?_
  refine lv_istore_n (lv' := [(2, .int u3.toInt32), (0, .ref a_p0), (1, .ref a_p1)]) hx hb dX6_scaleToFirstFigure_23 rfl hl (by decide) rfl (fun ls hl => ?_)
  refine lv_iload_n hx hb dX6_scaleToFirstFigure_24 rfl (lv_at hl 0 rfl) ?_
  refine lv_if_lt (tgt := 47) hx hb dX6_scaleToFirstFigure_25 (by decide) (fun hc26 => ?_) (fun hc26 => ?_)
  · have hf := ifT hc26 hf
    refine lv_aload_n hx hb dX6_scaleToFirstFigure_47 rfl (lv_at hl 1 rfl) ?_
    refine va_get (D := D) (ci := 7) (v := .ref a_p0_left) (C := RX6) (T := TX6) (N := 6) hx hb hts uwX6 hown hK hP 0 rfl rfl 0 (by decide) (hts _ kfX6_19) (fun _ h9 => h9) rfl dX6_scaleToFirstFigure_48 ?_
    refine lv_iload_n hx hb dX6_scaleToFirstFigure_51 rfl (lv_at hl 0 rfl) ?_
    refine lv_ineg hx hb dX6_scaleToFirstFigure_52 ?_
    obtain ⟨u5, hu6, hf⟩ := bdE hf
    refine cV_V (ws' := [(a_p0, .inr (7, [.ref a_p0_left, .ref a_p0_unit, .ref a_p0_reach, .ref a_p0_work, .int p0_even, .int p0_narrow])), (a_p0_left, .inr (5, [.ref a_p0_left_limbs, .int u5.1])), (a_p0_left_limbs, .inl (cJ, 160, .inr (.inl u5.2))), (a_p0_unit, .inr (5, [.ref a_p0_unit_limbs, .int p0_unit_size])), (a_p0_unit_limbs, .inl (cJ, 160, .inr (.inl p0_unit_limbs))), (a_p0_reach, .inr (5, [.ref a_p0_reach_limbs, .int p0_reach_size])), (a_p0_reach_limbs, .inl (cJ, 160, .inr (.inl p0_reach_limbs))), (a_p0_work, .inr (5, [.ref a_p0_work_limbs, .int p0_work_size])), (a_p0_work_limbs, .inl (cJ, 160, .inr (.inl p0_work_limbs))), (a_p1, .inr (9, [.int p1_kind, .int p1_minus, .long p1_m, .int p1_e, .int p1_narrowBelow]))]) (rest := []) S hK hN hA hP hD hS (c_X4_scaleByFives l D cI cJ a_p0_left a_p0_left_limbs (-u3.toInt32) p0_left_size p0_left_limbs u5 hu6) mwX4_scaleByFives miX4_scaleByFives kmX6_109 [1, 2] rfl (by decide) rfl rfl rfl 0 rfl rfl ⟨Nat.le_of_ble_eq_true rfl, Nat.le_of_ble_eq_true rfl⟩ ⟨Nat.zero_le _, Nat.zero_le _⟩ hl.1 rfl rfl (Nat.le_of_ble_eq_true rfl) dX6_scaleToFirstFigure_53 (fun H locs hP hD hS => ?_)
    refine lv_aload_n hx hb dX6_scaleToFirstFigure_56 rfl (lv_at hl 1 rfl) ?_
    refine va_get (D := D) (ci := 7) (v := .ref a_p0_left) (C := RX6) (T := TX6) (N := 6) hx hb hts uwX6 hown hK hP 0 rfl rfl 0 (by decide) (hts _ kfX6_19) (fun _ h9 => h9) rfl dX6_scaleToFirstFigure_57 ?_
    refine lv_iload_n hx hb dX6_scaleToFirstFigure_60 rfl (lv_at hl 0 rfl) ?_
    refine lv_ineg hx hb dX6_scaleToFirstFigure_61 ?_
    obtain ⟨u7, hu8, hf⟩ := bdE hf
    refine cV_V (ws' := [(a_p0, .inr (7, [.ref a_p0_left, .ref a_p0_unit, .ref a_p0_reach, .ref a_p0_work, .int p0_even, .int p0_narrow])), (a_p0_left, .inr (5, [.ref a_p0_left_limbs, .int u7.1])), (a_p0_left_limbs, .inl (cJ, 160, .inr (.inl u7.2))), (a_p0_unit, .inr (5, [.ref a_p0_unit_limbs, .int p0_unit_size])), (a_p0_unit_limbs, .inl (cJ, 160, .inr (.inl p0_unit_limbs))), (a_p0_reach, .inr (5, [.ref a_p0_reach_limbs, .int p0_reach_size])), (a_p0_reach_limbs, .inl (cJ, 160, .inr (.inl p0_reach_limbs))), (a_p0_work, .inr (5, [.ref a_p0_work_limbs, .int p0_work_size])), (a_p0_work_limbs, .inl (cJ, 160, .inr (.inl p0_work_limbs))), (a_p1, .inr (9, [.int p1_kind, .int p1_minus, .long p1_m, .int p1_e, .int p1_narrowBelow]))]) (rest := []) S hK hN hA hP hD hS (c_X4_shiftUp l D cI cJ a_p0_left a_p0_left_limbs (-u3.toInt32) u5.1 u5.2 u7 hu8) mwX4_shiftUp miX4_shiftUp kmX6_93 [1, 2] rfl (by decide) rfl rfl rfl 0 rfl rfl ⟨Nat.le_of_ble_eq_true rfl, Nat.le_of_ble_eq_true rfl⟩ ⟨Nat.zero_le _, Nat.zero_le _⟩ hl.1 rfl rfl (Nat.le_of_ble_eq_true rfl) dX6_scaleToFirstFigure_62 (fun H locs hP hD hS => ?_)
    refine lv_aload_n hx hb dX6_scaleToFirstFigure_65 rfl (lv_at hl 1 rfl) ?_
    refine va_get (D := D) (ci := 7) (v := .ref a_p0_reach) (C := RX6) (T := TX6) (N := 6) hx hb hts uwX6 hown hK hP 0 rfl rfl 2 (by decide) (hts _ kfX6_10) (fun _ h9 => h9) rfl dX6_scaleToFirstFigure_66 ?_
    refine lv_iload_n hx hb dX6_scaleToFirstFigure_69 rfl (lv_at hl 0 rfl) ?_
    refine lv_ineg hx hb dX6_scaleToFirstFigure_70 ?_
    obtain ⟨u9, hu10, hf⟩ := bdE hf
    refine cV_V (ws' := [(a_p0, .inr (7, [.ref a_p0_left, .ref a_p0_unit, .ref a_p0_reach, .ref a_p0_work, .int p0_even, .int p0_narrow])), (a_p0_left, .inr (5, [.ref a_p0_left_limbs, .int u7.1])), (a_p0_left_limbs, .inl (cJ, 160, .inr (.inl u7.2))), (a_p0_unit, .inr (5, [.ref a_p0_unit_limbs, .int p0_unit_size])), (a_p0_unit_limbs, .inl (cJ, 160, .inr (.inl p0_unit_limbs))), (a_p0_reach, .inr (5, [.ref a_p0_reach_limbs, .int u9.1])), (a_p0_reach_limbs, .inl (cJ, 160, .inr (.inl u9.2))), (a_p0_work, .inr (5, [.ref a_p0_work_limbs, .int p0_work_size])), (a_p0_work_limbs, .inl (cJ, 160, .inr (.inl p0_work_limbs))), (a_p1, .inr (9, [.int p1_kind, .int p1_minus, .long p1_m, .int p1_e, .int p1_narrowBelow]))]) (rest := []) S hK hN hA hP hD hS (c_X4_scaleByFives l D cI cJ a_p0_reach a_p0_reach_limbs (-u3.toInt32) p0_reach_size p0_reach_limbs u9 hu10) mwX4_scaleByFives miX4_scaleByFives kmX6_109 [5, 6] rfl (by decide) rfl rfl rfl 0 rfl rfl ⟨Nat.le_of_ble_eq_true rfl, Nat.le_of_ble_eq_true rfl⟩ ⟨Nat.zero_le _, Nat.zero_le _⟩ hl.1 rfl rfl (Nat.le_of_ble_eq_true rfl) dX6_scaleToFirstFigure_71 (fun H locs hP hD hS => ?_)
    refine lv_aload_n hx hb dX6_scaleToFirstFigure_74 rfl (lv_at hl 1 rfl) ?_
    refine va_get (D := D) (ci := 7) (v := .ref a_p0_reach) (C := RX6) (T := TX6) (N := 6) hx hb hts uwX6 hown hK hP 0 rfl rfl 2 (by decide) (hts _ kfX6_10) (fun _ h9 => h9) rfl dX6_scaleToFirstFigure_75 ?_
    refine lv_iload_n hx hb dX6_scaleToFirstFigure_78 rfl (lv_at hl 0 rfl) ?_
    refine lv_ineg hx hb dX6_scaleToFirstFigure_79 ?_
    obtain ⟨u11, hu12, hf⟩ := bdE hf
    refine cV_V (ws' := [(a_p0, .inr (7, [.ref a_p0_left, .ref a_p0_unit, .ref a_p0_reach, .ref a_p0_work, .int p0_even, .int p0_narrow])), (a_p0_left, .inr (5, [.ref a_p0_left_limbs, .int u7.1])), (a_p0_left_limbs, .inl (cJ, 160, .inr (.inl u7.2))), (a_p0_unit, .inr (5, [.ref a_p0_unit_limbs, .int p0_unit_size])), (a_p0_unit_limbs, .inl (cJ, 160, .inr (.inl p0_unit_limbs))), (a_p0_reach, .inr (5, [.ref a_p0_reach_limbs, .int u11.1])), (a_p0_reach_limbs, .inl (cJ, 160, .inr (.inl u11.2))), (a_p0_work, .inr (5, [.ref a_p0_work_limbs, .int p0_work_size])), (a_p0_work_limbs, .inl (cJ, 160, .inr (.inl p0_work_limbs))), (a_p1, .inr (9, [.int p1_kind, .int p1_minus, .long p1_m, .int p1_e, .int p1_narrowBelow]))]) (rest := []) S hK hN hA hP hD hS (c_X4_shiftUp l D cI cJ a_p0_reach a_p0_reach_limbs (-u3.toInt32) u9.1 u9.2 u11 hu12) mwX4_shiftUp miX4_shiftUp kmX6_93 [5, 6] rfl (by decide) rfl rfl rfl 0 rfl rfl ⟨Nat.le_of_ble_eq_true rfl, Nat.le_of_ble_eq_true rfl⟩ ⟨Nat.zero_le _, Nat.zero_le _⟩ hl.1 rfl rfl (Nat.le_of_ble_eq_true rfl) dX6_scaleToFirstFigure_80 (fun H locs hP hD hS => ?_)
    exact keyB83 u3.toInt32 u7.1 u7.2 p0_unit_size p0_unit_limbs u11.1 u11.2 p0_work_size p0_work_limbs H locs ls hf hP hD hS (lv_sub hl [1, 0] rfl)
  · have hf := ifF hc26 hf
    refine lv_aload_n hx hb dX6_scaleToFirstFigure_28 rfl (lv_at hl 1 rfl) ?_
    refine va_get (D := D) (ci := 7) (v := .ref a_p0_unit) (C := RX6) (T := TX6) (N := 6) hx hb hts uwX6 hown hK hP 0 rfl rfl 1 (by decide) (hts _ kfX6_22) (fun _ h9 => h9) rfl dX6_scaleToFirstFigure_29 ?_
    refine lv_iload_n hx hb dX6_scaleToFirstFigure_32 rfl (lv_at hl 0 rfl) ?_
    obtain ⟨u22, hu23, hf⟩ := bdE hf
    refine cV_V (ws' := [(a_p0, .inr (7, [.ref a_p0_left, .ref a_p0_unit, .ref a_p0_reach, .ref a_p0_work, .int p0_even, .int p0_narrow])), (a_p0_left, .inr (5, [.ref a_p0_left_limbs, .int p0_left_size])), (a_p0_left_limbs, .inl (cJ, 160, .inr (.inl p0_left_limbs))), (a_p0_unit, .inr (5, [.ref a_p0_unit_limbs, .int u22.1])), (a_p0_unit_limbs, .inl (cJ, 160, .inr (.inl u22.2))), (a_p0_reach, .inr (5, [.ref a_p0_reach_limbs, .int p0_reach_size])), (a_p0_reach_limbs, .inl (cJ, 160, .inr (.inl p0_reach_limbs))), (a_p0_work, .inr (5, [.ref a_p0_work_limbs, .int p0_work_size])), (a_p0_work_limbs, .inl (cJ, 160, .inr (.inl p0_work_limbs))), (a_p1, .inr (9, [.int p1_kind, .int p1_minus, .long p1_m, .int p1_e, .int p1_narrowBelow]))]) (rest := []) S hK hN hA hP hD hS (c_X4_scaleByFives l D cI cJ a_p0_unit a_p0_unit_limbs u3.toInt32 p0_unit_size p0_unit_limbs u22 hu23) mwX4_scaleByFives miX4_scaleByFives kmX6_109 [3, 4] rfl (by decide) rfl rfl rfl 0 rfl rfl ⟨Nat.le_of_ble_eq_true rfl, Nat.le_of_ble_eq_true rfl⟩ ⟨Nat.zero_le _, Nat.zero_le _⟩ hl.1 rfl rfl (Nat.le_of_ble_eq_true rfl) dX6_scaleToFirstFigure_33 (fun H locs hP hD hS => ?_)
    refine lv_aload_n hx hb dX6_scaleToFirstFigure_36 rfl (lv_at hl 1 rfl) ?_
    refine va_get (D := D) (ci := 7) (v := .ref a_p0_unit) (C := RX6) (T := TX6) (N := 6) hx hb hts uwX6 hown hK hP 0 rfl rfl 1 (by decide) (hts _ kfX6_22) (fun _ h9 => h9) rfl dX6_scaleToFirstFigure_37 ?_
    refine lv_iload_n hx hb dX6_scaleToFirstFigure_40 rfl (lv_at hl 0 rfl) ?_
    obtain ⟨u24, hu25, hf⟩ := bdE hf
    refine cV_V (ws' := [(a_p0, .inr (7, [.ref a_p0_left, .ref a_p0_unit, .ref a_p0_reach, .ref a_p0_work, .int p0_even, .int p0_narrow])), (a_p0_left, .inr (5, [.ref a_p0_left_limbs, .int p0_left_size])), (a_p0_left_limbs, .inl (cJ, 160, .inr (.inl p0_left_limbs))), (a_p0_unit, .inr (5, [.ref a_p0_unit_limbs, .int u24.1])), (a_p0_unit_limbs, .inl (cJ, 160, .inr (.inl u24.2))), (a_p0_reach, .inr (5, [.ref a_p0_reach_limbs, .int p0_reach_size])), (a_p0_reach_limbs, .inl (cJ, 160, .inr (.inl p0_reach_limbs))), (a_p0_work, .inr (5, [.ref a_p0_work_limbs, .int p0_work_size])), (a_p0_work_limbs, .inl (cJ, 160, .inr (.inl p0_work_limbs))), (a_p1, .inr (9, [.int p1_kind, .int p1_minus, .long p1_m, .int p1_e, .int p1_narrowBelow]))]) (rest := []) S hK hN hA hP hD hS (c_X4_shiftUp l D cI cJ a_p0_unit a_p0_unit_limbs u3.toInt32 u22.1 u22.2 u24 hu25) mwX4_shiftUp miX4_shiftUp kmX6_93 [3, 4] rfl (by decide) rfl rfl rfl 0 rfl rfl ⟨Nat.le_of_ble_eq_true rfl, Nat.le_of_ble_eq_true rfl⟩ ⟨Nat.zero_le _, Nat.zero_le _⟩ hl.1 rfl rfl (Nat.le_of_ble_eq_true rfl) dX6_scaleToFirstFigure_41 (fun H locs hP hD hS => ?_)
    refine lv_goto (tgt := 83) hx hb dX6_scaleToFirstFigure_44 (by decide) ?_
    exact keyB83 u3.toInt32 p0_left_size p0_left_limbs u24.1 u24.2 p0_reach_size p0_reach_limbs p0_work_size p0_work_limbs H locs ls hf hP hD hS (lv_sub hl [1, 0] rfl)
set_option maxRecDepth 100000 in
set_option maxHeartbeats 4000000 in
theorem c_X6_takeFigure (l : Launch) (D : va_G) (cI cJ : ClassId) (a_p0 a_p0_left a_p0_unit a_p0_reach a_p0_work a_p0_left_limbs a_p0_unit_limbs : Nat) (p0_even : Int32) (p0_narrow : Int32) (p0_left_size : Int32) (p0_left_limbs : (Nat → Int64)) (p0_unit_size : Int32) (p0_unit_limbs : (Nat → Int64)) (u : Int32 × Int32 × (Nat → Int64)) (hf : f_X6_takeFigure p0_unit_size p0_unit_limbs p0_left_size p0_left_limbs = some u) : CtI l yX6_takeFigure cX6_takeFigure 2 2 45 .int [.ref a_p0] D cI cJ [(a_p0, .inr (7, [.ref a_p0_left, .ref a_p0_unit, .ref a_p0_reach, .ref a_p0_work, .int p0_even, .int p0_narrow])), (a_p0_left, .inr (5, [.ref a_p0_left_limbs, .int p0_left_size])), (a_p0_left_limbs, .inl (cJ, 160, .inr (.inl p0_left_limbs))), (a_p0_unit, .inr (5, [.ref a_p0_unit_limbs, .int p0_unit_size])), (a_p0_unit_limbs, .inl (cJ, 160, .inr (.inl p0_unit_limbs)))] [(a_p0, .inr (7, [.ref a_p0_left, .ref a_p0_unit, .ref a_p0_reach, .ref a_p0_work, .int p0_even, .int p0_narrow])), (a_p0_left, .inr (5, [.ref a_p0_left_limbs, .int u.2.1])), (a_p0_left_limbs, .inl (cJ, 160, .inr (.inl u.2.2))), (a_p0_unit, .inr (5, [.ref a_p0_unit_limbs, .int p0_unit_size])), (a_p0_unit_limbs, .inl (cJ, 160, .inr (.inl p0_unit_limbs)))] u.1 := by
  refine mkI (own := RX6) rfl (by decide +kernel) (Nat.le_of_ble_eq_true rfl) (lv := [(0, .ref a_p0)]) rfl ?_
  intro p e s m below meth c Q A ls ar S hA hK hN hret H locs hP hD hS hl
  obtain ⟨hx, hb, hml, hown, hts⟩ := id S
  have hret : ∀ (w : Int32 × Int32 × (Nat → Int64)), w = u → ∀ (H : Heap) (locs : List Loc) (ls : Array Slot) (pc : Nat), decode cX6_takeFigure pc = .ok (.ireturn, 1) → va_P D vwCl [(a_p0, .inr (7, [.ref a_p0_left, .ref a_p0_unit, .ref a_p0_reach, .ref a_p0_work, .int p0_even, .int p0_narrow])), (a_p0_left, .inr (5, [.ref a_p0_left_limbs, .int w.2.1])), (a_p0_left_limbs, .inl (cJ, 160, .inr (.inl w.2.2))), (a_p0_unit, .inr (5, [.ref a_p0_unit_limbs, .int p0_unit_size])), (a_p0_unit_limbs, .inl (cJ, 160, .inr (.inl p0_unit_limbs)))] H → va_D A [(a_p0, .inr (7, [.ref a_p0_left, .ref a_p0_unit, .ref a_p0_reach, .ref a_p0_work, .int p0_even, .int p0_narrow])), (a_p0_left, .inr (5, [.ref a_p0_left_limbs, .int w.2.1])), (a_p0_left_limbs, .inl (cJ, 160, .inr (.inl w.2.2))), (a_p0_unit, .inr (5, [.ref a_p0_unit_limbs, .int p0_unit_size])), (a_p0_unit_limbs, .inl (cJ, 160, .inr (.inl p0_unit_limbs)))] → va_S A s.heap H locs → W p l e (rmz 2 45) s m ar below meth c H locs 0 0 Q (F0 m pc ls [.int w.1]) := fun w hw => hw ▸ hret
  have keyL2 : ∀ (n : Nat) (v1 : Int32) (p0_left_size : Int32) (p0_left_limbs : (Nat → Int64)) (H : Heap) (locs : List Loc) (ls : Array Slot), f_X6_takeFigure_L2 p0_unit_size p0_unit_limbs n v1 p0_left_size p0_left_limbs = some u → va_P D vwCl [(a_p0, .inr (7, [.ref a_p0_left, .ref a_p0_unit, .ref a_p0_reach, .ref a_p0_work, .int p0_even, .int p0_narrow])), (a_p0_left, .inr (5, [.ref a_p0_left_limbs, .int p0_left_size])), (a_p0_left_limbs, .inl (cJ, 160, .inr (.inl p0_left_limbs))), (a_p0_unit, .inr (5, [.ref a_p0_unit_limbs, .int p0_unit_size])), (a_p0_unit_limbs, .inl (cJ, 160, .inr (.inl p0_unit_limbs)))] H → va_D A [(a_p0, .inr (7, [.ref a_p0_left, .ref a_p0_unit, .ref a_p0_reach, .ref a_p0_work, .int p0_even, .int p0_narrow])), (a_p0_left, .inr (5, [.ref a_p0_left_limbs, .int p0_left_size])), (a_p0_left_limbs, .inl (cJ, 160, .inr (.inl p0_left_limbs))), (a_p0_unit, .inr (5, [.ref a_p0_unit_limbs, .int p0_unit_size])), (a_p0_unit_limbs, .inl (cJ, 160, .inr (.inl p0_unit_limbs)))] → va_S A s.heap H locs → lv_has ls 2 [(0, .ref a_p0), (1, .int v1)] → W p l e (rmz 2 45) s m ar below meth c H locs 0 0 Q (F0 m 2 ls []) := by
    intro n
    induction n with
      | zero =>
        intro v1 p0_left_size p0_left_limbs H locs ls hf
        cases hf
      | succ n ih =>
        intro v1 p0_left_size p0_left_limbs H locs ls hf hP hD hS hl
        rw [f_X6_takeFigure_L2] at hf
        refine lv_iload_n hx hb dX6_takeFigure_2 rfl (lv_at hl 1 rfl) ?_
        refine lv_bipush (v := 9) hx hb dX6_takeFigure_3 (by decide) ?_
        refine lv_icmp_ge (tgt := 39) hx hb dX6_takeFigure_5 (by decide) (fun hc6 => ?_) (fun hc6 => ?_)
        · have hf := ifT hc6 hf
          refine lv_iload_n hx hb dX6_takeFigure_39 rfl (lv_at hl 1 rfl) ?_
          exact hret _ (opE hf) H locs ls 40 dX6_takeFigure_40 hP hD hS
        · have hf := ifF hc6 hf
          refine lv_aload_n hx hb dX6_takeFigure_8 rfl (lv_at hl 0 rfl) ?_
          refine va_get (D := D) (ci := 7) (v := .ref a_p0_left) (C := RX6) (T := TX6) (N := 6) hx hb hts uwX6 hown hK hP 0 rfl rfl 0 (by decide) (hts _ kfX6_19) (fun _ h9 => h9) rfl dX6_takeFigure_9 ?_
          refine lv_aload_n hx hb dX6_takeFigure_12 rfl (lv_at hl 0 rfl) ?_
          refine va_get (D := D) (ci := 7) (v := .ref a_p0_unit) (C := RX6) (T := TX6) (N := 6) hx hb hts uwX6 hown hK hP 0 rfl rfl 1 (by decide) (hts _ kfX6_22) (fun _ h9 => h9) rfl dX6_takeFigure_13 ?_
          obtain ⟨u1, hu2, hf⟩ := bdE hf
          refine cV_I (ws' := [(a_p0, .inr (7, [.ref a_p0_left, .ref a_p0_unit, .ref a_p0_reach, .ref a_p0_work, .int p0_even, .int p0_narrow])), (a_p0_left, .inr (5, [.ref a_p0_left_limbs, .int p0_left_size])), (a_p0_left_limbs, .inl (cJ, 160, .inr (.inl p0_left_limbs))), (a_p0_unit, .inr (5, [.ref a_p0_unit_limbs, .int p0_unit_size])), (a_p0_unit_limbs, .inl (cJ, 160, .inr (.inl p0_unit_limbs)))]) (rest := []) S hK hN hA hP hD hS (c_X4_comparedWith l D cI cJ a_p0_left a_p0_left_limbs a_p0_unit a_p0_unit_limbs  p0_left_size p0_left_limbs p0_unit_size p0_unit_limbs u1 hu2) mwX4_comparedWith miX4_comparedWith kmX6_116 [1, 2, 3, 4] rfl (by decide) rfl rfl rfl 0 rfl rfl ⟨Nat.le_of_ble_eq_true rfl, Nat.le_of_ble_eq_true rfl⟩ ⟨Nat.zero_le _, Nat.zero_le _⟩ hl.1 rfl rfl (Nat.le_of_ble_eq_true rfl) dX6_takeFigure_16 (fun H locs hP hD hS => ?_)
          refine lv_if_lt (tgt := 39) hx hb dX6_takeFigure_19 (by decide) (fun hc5 => ?_) (fun hc5 => ?_)
          · have hf := ifT hc5 hf
            refine lv_iload_n hx hb dX6_takeFigure_39 rfl (lv_at hl 1 rfl) ?_
            exact hret _ (opE hf) H locs ls 40 dX6_takeFigure_40 hP hD hS
          · have hf := ifF hc5 hf
            refine lv_aload_n hx hb dX6_takeFigure_22 rfl (lv_at hl 0 rfl) ?_
            refine va_get (D := D) (ci := 7) (v := .ref a_p0_left) (C := RX6) (T := TX6) (N := 6) hx hb hts uwX6 hown hK hP 0 rfl rfl 0 (by decide) (hts _ kfX6_19) (fun _ h9 => h9) rfl dX6_takeFigure_23 ?_
            refine lv_aload_n hx hb dX6_takeFigure_26 rfl (lv_at hl 0 rfl) ?_
            refine va_get (D := D) (ci := 7) (v := .ref a_p0_unit) (C := RX6) (T := TX6) (N := 6) hx hb hts uwX6 hown hK hP 0 rfl rfl 1 (by decide) (hts _ kfX6_22) (fun _ h9 => h9) rfl dX6_takeFigure_27 ?_
            obtain ⟨u3, hu4, hf⟩ := bdE hf
            refine cV_V (ws' := [(a_p0, .inr (7, [.ref a_p0_left, .ref a_p0_unit, .ref a_p0_reach, .ref a_p0_work, .int p0_even, .int p0_narrow])), (a_p0_left, .inr (5, [.ref a_p0_left_limbs, .int u3.1])), (a_p0_left_limbs, .inl (cJ, 160, .inr (.inl u3.2))), (a_p0_unit, .inr (5, [.ref a_p0_unit_limbs, .int p0_unit_size])), (a_p0_unit_limbs, .inl (cJ, 160, .inr (.inl p0_unit_limbs)))]) (rest := []) S hK hN hA hP hD hS (c_X4_minus l D cI cJ a_p0_left a_p0_left_limbs a_p0_unit a_p0_unit_limbs  p0_left_size p0_left_limbs p0_unit_size p0_unit_limbs u3 hu4) mwX4_minus miX4_minus kmX6_120 [1, 2, 3, 4] rfl (by decide) rfl rfl rfl 0 rfl rfl ⟨Nat.le_of_ble_eq_true rfl, Nat.le_of_ble_eq_true rfl⟩ ⟨Nat.zero_le _, Nat.zero_le _⟩ hl.1 rfl rfl (Nat.le_of_ble_eq_true rfl) dX6_takeFigure_30 (fun H locs hP hD hS => ?_)
            refine lv_iinc (v := v1 + (1 : Int32)) (lv' := [(1, .int (v1 + (1 : Int32))), (0, .ref a_p0)]) hx hb dX6_takeFigure_33 hl (k := 1) rfl (by rfl) (by decide) rfl (fun ls hl => ?_)
            refine lv_goto (tgt := 2) hx hb dX6_takeFigure_36 (by decide) ?_
            exact ih (v1 + (1 : Int32)) u3.1 u3.2 H locs ls hf hP hD hS (lv_sub hl [1, 0] rfl)
  unfold f_X6_takeFigure at hf
  refine lv_iconst (v := 0) hx hb dX6_takeFigure_0 (by decide) ?_
  refine lv_istore_n (lv' := [(1, .int (0 : Int32)), (0, .ref a_p0)]) hx hb dX6_takeFigure_1 rfl hl (by decide) rfl (fun ls hl => ?_)
  exact keyL2 FU (0 : Int32) p0_left_size p0_left_limbs H locs ls hf hP hD hS (lv_sub hl [1, 0] rfl)
