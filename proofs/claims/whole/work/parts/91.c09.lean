set_option maxRecDepth 100000 in
set_option maxHeartbeats 4000000 in
theorem c_X8_fitsLong (l : Launch) (D : va_G) (cI cJ : ClassId) (a_p0 : Nat) (p0_kind : Int32) (p0_minus : Int32) (p0_m : Int64) (p0_e : Int32) (p0_narrowBelow : Int32) (u : Int32) (hf : f_X8_fitsLong p0_kind p0_minus p0_m p0_e = some u) : CtI l yX8_fitsLong cX8_fitsLong 2 3 63 .boolean [.ref a_p0] D cI cJ [(a_p0, .inr (9, [.int p0_kind, .int p0_minus, .long p0_m, .int p0_e, .int p0_narrowBelow]))] [(a_p0, .inr (9, [.int p0_kind, .int p0_minus, .long p0_m, .int p0_e, .int p0_narrowBelow]))] u := by
  refine mkZ (own := RX8) rfl (by decide +kernel) (Nat.le_of_ble_eq_true rfl) (lv := [(0, .ref a_p0)]) rfl ?_
  intro p e s m below meth c Q A ls ar S hA hK hN hret H locs hP hD hS hl
  obtain ⟨hx, hb, hml, hown, hts⟩ := id S
  have hret : ∀ (w : Int32), w = u → ∀ (H : Heap) (locs : List Loc) (ls : Array Slot) (pc : Nat), decode cX8_fitsLong pc = .ok (.ireturn, 1) → (w = 0 ∨ w = 1) → va_P D vwCl [(a_p0, .inr (9, [.int p0_kind, .int p0_minus, .long p0_m, .int p0_e, .int p0_narrowBelow]))] H → va_D A [(a_p0, .inr (9, [.int p0_kind, .int p0_minus, .long p0_m, .int p0_e, .int p0_narrowBelow]))] → va_S A s.heap H locs → W p l e (rmz 3 63) s m ar below meth c H locs 0 0 Q (F0 m pc ls [.int w]) := fun w hw => hw ▸ hret
  have keyB46 : ∀ (s0 : Int32) (H : Heap) (locs : List Loc) (ls : Array Slot), f_X8_fitsLong_B46 p0_kind p0_minus p0_m p0_e s0 = some u → va_P D vwCl [(a_p0, .inr (9, [.int p0_kind, .int p0_minus, .long p0_m, .int p0_e, .int p0_narrowBelow]))] H → va_D A [(a_p0, .inr (9, [.int p0_kind, .int p0_minus, .long p0_m, .int p0_e, .int p0_narrowBelow]))] → va_S A s.heap H locs → lv_has ls 2 [(0, .ref a_p0)] → W p l e (rmz 3 63) s m ar below meth c H locs 0 0 Q (F0 m 46 ls [.int s0]) := by
    intro s0 H locs ls hf hP hD hS hl
    unfold f_X8_fitsLong_B46 at hf
    refine lv_istore_n (lv' := [(1, .int s0), (0, .ref a_p0)]) hx hb dX8_fitsLong_46 rfl hl (by decide) rfl (fun ls hl => ?_)
    refine lv_aload_n hx hb dX8_fitsLong_47 rfl (lv_at hl 1 rfl) ?_
    refine va_get (D := D) (ci := 9) (v := .long p0_m) (C := RX8) (T := TX8) (N := 5) hx hb hts uwX8 hown hK hP 0 rfl rfl 2 (by decide) (hts _ kfX8_27) (fun _ h9 => h9) rfl dX8_fitsLong_48 ?_
    refine lv_lconst (v := 0) hx hb dX8_fitsLong_51 (by decide) ?_
    refine W.lcmp hx hb dX8_fitsLong_52 ?_
    refine lv_if_eq (tgt := 74) hx hb dX8_fitsLong_53 (by decide) (fun hc7 => ?_) (fun hc7 => ?_)
    · have hf := ifT hc7 hf
      refine lv_iconst (v := 1) hx hb dX8_fitsLong_74 (by decide) ?_
      refine lv_goto (tgt := 79) hx hb dX8_fitsLong_75 (by decide) ?_
      exact hret _ (opE hf) H locs ls 79 dX8_fitsLong_79 (Or.inr rfl) hP hD hS
    · have hf := ifF hc7 hf
      refine lv_aload_n hx hb dX8_fitsLong_56 rfl (lv_at hl 1 rfl) ?_
      obtain ⟨u3, hu4, hf⟩ := bdE hf
      refine cV_I (ws' := [(a_p0, .inr (9, [.int p0_kind, .int p0_minus, .long p0_m, .int p0_e, .int p0_narrowBelow]))]) (rest := []) S hK hN hA hP hD hS (c_X8_bits l D cI cJ a_p0  p0_kind p0_minus p0_m p0_e p0_narrowBelow u3 hu4) mwX8_bits miX8_bits kmX8_57 [0] rfl (by decide) rfl rfl rfl 0 rfl rfl ⟨Nat.le_of_ble_eq_true rfl, Nat.le_of_ble_eq_true rfl⟩ ⟨Nat.zero_le _, Nat.zero_le _⟩ hl.1 rfl rfl (Nat.le_of_ble_eq_true rfl) dX8_fitsLong_57 (fun H locs hP hD hS => ?_)
      refine lv_aload_n hx hb dX8_fitsLong_60 rfl (lv_at hl 1 rfl) ?_
      refine va_get (D := D) (ci := 9) (v := .int p0_e) (C := RX8) (T := TX8) (N := 5) hx hb hts uwX8 hown hK hP 0 rfl rfl 3 (by decide) (hts _ kfX8_31) (fun _ h9 => h9) rfl dX8_fitsLong_61 ?_
      refine lv_iadd hx hb dX8_fitsLong_64 ?_
      refine lv_bipush (v := 64) hx hb dX8_fitsLong_65 (by decide) ?_
      refine lv_icmp_lt (tgt := 74) hx hb dX8_fitsLong_67 (by decide) (fun hc6 => ?_) (fun hc6 => ?_)
      · have hf := ifT hc6 hf
        refine lv_iconst (v := 1) hx hb dX8_fitsLong_74 (by decide) ?_
        refine lv_goto (tgt := 79) hx hb dX8_fitsLong_75 (by decide) ?_
        exact hret _ (opE hf) H locs ls 79 dX8_fitsLong_79 (Or.inr rfl) hP hD hS
      · have hf := ifF hc6 hf
        refine lv_iload_n hx hb dX8_fitsLong_70 rfl (lv_at hl 0 rfl) ?_
        refine lv_if_eq (tgt := 78) hx hb dX8_fitsLong_71 (by decide) (fun hc5 => ?_) (fun hc5 => ?_)
        · have hf := ifT hc5 hf
          refine lv_iconst (v := 0) hx hb dX8_fitsLong_78 (by decide) ?_
          exact hret _ (opE hf) H locs ls 79 dX8_fitsLong_79 (Or.inl rfl) hP hD hS
        · have hf := ifF hc5 hf
          refine lv_iconst (v := 1) hx hb dX8_fitsLong_74 (by decide) ?_
          refine lv_goto (tgt := 79) hx hb dX8_fitsLong_75 (by decide) ?_
          exact hret _ (opE hf) H locs ls 79 dX8_fitsLong_79 (Or.inr rfl) hP hD hS
  have keyB45 : ∀  (H : Heap) (locs : List Loc) (ls : Array Slot), f_X8_fitsLong_B45 p0_kind p0_minus p0_m p0_e  = some u → va_P D vwCl [(a_p0, .inr (9, [.int p0_kind, .int p0_minus, .long p0_m, .int p0_e, .int p0_narrowBelow]))] H → va_D A [(a_p0, .inr (9, [.int p0_kind, .int p0_minus, .long p0_m, .int p0_e, .int p0_narrowBelow]))] → va_S A s.heap H locs → lv_has ls 2 [(0, .ref a_p0)] → W p l e (rmz 3 63) s m ar below meth c H locs 0 0 Q (F0 m 45 ls []) := by
    intro  H locs ls hf hP hD hS hl
    unfold f_X8_fitsLong_B45 at hf
    refine lv_iconst (v := 0) hx hb dX8_fitsLong_45 (by decide) ?_
    exact keyB46 (0 : Int32) H locs ls hf hP hD hS (lv_sub hl [0] rfl)
  unfold f_X8_fitsLong at hf
  refine lv_aload_n hx hb dX8_fitsLong_0 rfl (lv_at hl 0 rfl) ?_
  obtain ⟨u1, hu2, hf⟩ := bdE hf
  refine cV_I (ws' := [(a_p0, .inr (9, [.int p0_kind, .int p0_minus, .long p0_m, .int p0_e, .int p0_narrowBelow]))]) (rest := []) S hK hN hA hP hD hS (c_X8_isNumber l D cI cJ a_p0  p0_kind p0_minus p0_m p0_e p0_narrowBelow u1 hu2) mwX8_isNumber miX8_isNumber kmX8_53 [0] rfl (by decide) rfl rfl rfl 0 rfl rfl ⟨Nat.le_of_ble_eq_true rfl, Nat.le_of_ble_eq_true rfl⟩ ⟨Nat.zero_le _, Nat.zero_le _⟩ hl.1 rfl rfl (Nat.le_of_ble_eq_true rfl) dX8_fitsLong_1 (fun H locs hP hD hS => ?_)
  refine lv_if_ne (tgt := 9) hx hb dX8_fitsLong_4 (by decide) (fun hc15 => ?_) (fun hc15 => ?_)
  · have hf := ifF hc15 hf
    refine lv_aload_n hx hb dX8_fitsLong_9 rfl (lv_at hl 0 rfl) ?_
    refine va_get (D := D) (ci := 9) (v := .int p0_minus) (C := RX8) (T := TX8) (N := 5) hx hb hts uwX8 hown hK hP 0 rfl rfl 1 (by decide) (hts _ kfX8_21) (fun _ h9 => h9) rfl dX8_fitsLong_10 ?_
    refine lv_if_eq (tgt := 45) hx hb dX8_fitsLong_13 (by decide) (fun hc14 => ?_) (fun hc14 => ?_)
    · have hf := ifT hc14 hf
      exact keyB45  H locs ls hf hP hD hS (lv_sub hl [0] rfl)
    · have hf := ifF hc14 hf
      refine lv_aload_n hx hb dX8_fitsLong_16 rfl (lv_at hl 0 rfl) ?_
      obtain ⟨u8, hu9, hf⟩ := bdE hf
      refine cV_I (ws' := [(a_p0, .inr (9, [.int p0_kind, .int p0_minus, .long p0_m, .int p0_e, .int p0_narrowBelow]))]) (rest := []) S hK hN hA hP hD hS (c_X8_bits l D cI cJ a_p0  p0_kind p0_minus p0_m p0_e p0_narrowBelow u8 hu9) mwX8_bits miX8_bits kmX8_57 [0] rfl (by decide) rfl rfl rfl 0 rfl rfl ⟨Nat.le_of_ble_eq_true rfl, Nat.le_of_ble_eq_true rfl⟩ ⟨Nat.zero_le _, Nat.zero_le _⟩ hl.1 rfl rfl (Nat.le_of_ble_eq_true rfl) dX8_fitsLong_17 (fun H locs hP hD hS => ?_)
      refine lv_aload_n hx hb dX8_fitsLong_20 rfl (lv_at hl 0 rfl) ?_
      refine va_get (D := D) (ci := 9) (v := .int p0_e) (C := RX8) (T := TX8) (N := 5) hx hb hts uwX8 hown hK hP 0 rfl rfl 3 (by decide) (hts _ kfX8_31) (fun _ h9 => h9) rfl dX8_fitsLong_21 ?_
      refine lv_iadd hx hb dX8_fitsLong_24 ?_
      refine lv_bipush (v := 64) hx hb dX8_fitsLong_25 (by decide) ?_
      refine lv_icmp_ne (tgt := 45) hx hb dX8_fitsLong_27 (by decide) (fun hc13 => ?_) (fun hc13 => ?_)
      · have hf := ifF hc13 hf
        exact keyB45  H locs ls hf hP hD hS (lv_sub hl [0] rfl)
      · have hf := ifT hc13 hf
        refine lv_aload_n hx hb dX8_fitsLong_30 rfl (lv_at hl 0 rfl) ?_
        refine va_get (D := D) (ci := 9) (v := .long p0_m) (C := RX8) (T := TX8) (N := 5) hx hb hts uwX8 hown hK hP 0 rfl rfl 2 (by decide) (hts _ kfX8_27) (fun _ h9 => h9) rfl dX8_fitsLong_31 ?_
        obtain ⟨u10, hu11, hf⟩ := bdE hf
        refine cS_I (ws' := [(a_p0, .inr (9, [.int p0_kind, .int p0_minus, .long p0_m, .int p0_e, .int p0_narrowBelow]))]) (rest := []) S hK hN hA hP hD hS (c_J13_bitCount_95d88 l D cI cJ  p0_m  u10 hu11) mwJ13_bitCount_95d88 msJ13_bitCount_95d88 kmX8_61 [] rfl (by decide) rfl rfl rfl ⟨Nat.le_of_ble_eq_true rfl, Nat.le_of_ble_eq_true rfl⟩ ⟨Nat.zero_le _, Nat.zero_le _⟩ hl.1 rfl rfl (Nat.le_of_ble_eq_true rfl) dX8_fitsLong_34 (fun H locs hP hD hS => ?_)
        refine lv_iconst (v := 1) hx hb dX8_fitsLong_37 (by decide) ?_
        refine lv_icmp_ne (tgt := 45) hx hb dX8_fitsLong_38 (by decide) (fun hc12 => ?_) (fun hc12 => ?_)
        · have hf := ifF hc12 hf
          exact keyB45  H locs ls hf hP hD hS (lv_sub hl [0] rfl)
        · have hf := ifT hc12 hf
          refine lv_iconst (v := 1) hx hb dX8_fitsLong_41 (by decide) ?_
          refine lv_goto (tgt := 46) hx hb dX8_fitsLong_42 (by decide) ?_
          exact keyB46 (1 : Int32) H locs ls hf hP hD hS (lv_sub hl [0] rfl)
  · have hf := ifT hc15 hf
    refine lv_iconst (v := 0) hx hb dX8_fitsLong_7 (by decide) ?_
    exact hret _ (opE hf) H locs ls 8 dX8_fitsLong_8 (Or.inl rfl) hP hD hS
set_option maxRecDepth 100000 in
set_option maxHeartbeats 4000000 in
theorem c_X8_asLong (l : Launch) (D : va_G) (cI cJ : ClassId) (a_p0 : Nat) (p1 : Int32) (p0_kind : Int32) (p0_minus : Int32) (p0_m : Int64) (p0_e : Int32) (p0_narrowBelow : Int32) (u : Int64) (hf : f_X8_asLong p0_minus p0_m p0_e p1 = some u) : CtL l yX8_asLong cX8_asLong 11 1 24 [.ref a_p0, .int p1] D cI cJ [(a_p0, .inr (9, [.int p0_kind, .int p0_minus, .long p0_m, .int p0_e, .int p0_narrowBelow]))] [(a_p0, .inr (9, [.int p0_kind, .int p0_minus, .long p0_m, .int p0_e, .int p0_narrowBelow]))] u := by
  refine mkL (own := RX8) rfl (by decide +kernel) (Nat.le_of_ble_eq_true rfl) (lv := [(0, .ref a_p0), (1, .int p1)]) rfl ?_
  intro p e s m below meth c Q A ls ar S hA hK hN hret H locs hP hD hS hl
  obtain ⟨hx, hb, hml, hown, hts⟩ := id S
  have hret : ∀ (w : Int64), w = u → ∀ (H : Heap) (locs : List Loc) (ls : Array Slot) (pc : Nat), decode cX8_asLong pc = .ok (.lreturn, 1) → va_P D vwCl [(a_p0, .inr (9, [.int p0_kind, .int p0_minus, .long p0_m, .int p0_e, .int p0_narrowBelow]))] H → va_D A [(a_p0, .inr (9, [.int p0_kind, .int p0_minus, .long p0_m, .int p0_e, .int p0_narrowBelow]))] → va_S A s.heap H locs → W p l e (rmz 1 24) s m ar below meth c H locs 0 0 Q (F0 m pc ls [.long w]) := fun w hw => hw ▸ hret
  have keyB134 : ∀ (v2 : Int64) (H : Heap) (locs : List Loc) (ls : Array Slot), f_X8_asLong_B134 p0_minus p0_m p0_e v2 = some u → va_P D vwCl [(a_p0, .inr (9, [.int p0_kind, .int p0_minus, .long p0_m, .int p0_e, .int p0_narrowBelow]))] H → va_D A [(a_p0, .inr (9, [.int p0_kind, .int p0_minus, .long p0_m, .int p0_e, .int p0_narrowBelow]))] → va_S A s.heap H locs → lv_has ls 11 [(0, .ref a_p0), (2, .long v2)] → W p l e (rmz 1 24) s m ar below meth c H locs 0 0 Q (F0 m 134 ls []) := by
    intro v2 H locs ls hf hP hD hS hl
    unfold f_X8_asLong_B134 at hf
    refine lv_aload_n hx hb dX8_asLong_134 rfl (lv_at hl 0 rfl) ?_
    refine va_get (D := D) (ci := 9) (v := .int p0_minus) (C := RX8) (T := TX8) (N := 5) hx hb hts uwX8 hown hK hP 0 rfl rfl 1 (by decide) (hts _ kfX8_21) (fun _ h9 => h9) rfl dX8_asLong_135 ?_
    refine lv_if_eq (tgt := 146) hx hb dX8_asLong_138 (by decide) (fun hc5 => ?_) (fun hc5 => ?_)
    · have hf := ifT hc5 hf
      refine lv_lload_n hx hb dX8_asLong_146 rfl (lv_at hl 1 rfl) ?_
      exact hret _ (opE hf) H locs ls 147 dX8_asLong_147 hP hD hS
    · have hf := ifF hc5 hf
      refine lv_lload_n hx hb dX8_asLong_141 rfl (lv_at hl 1 rfl) ?_
      refine lv_lneg hx hb dX8_asLong_142 ?_
      refine lv_goto (tgt := 147) hx hb dX8_asLong_143 (by decide) ?_
      exact hret _ (opE hf) H locs ls 147 dX8_asLong_147 hP hD hS
  have keyB132 : ∀ (s0 : Int64) (s1 : Int64) (H : Heap) (locs : List Loc) (ls : Array Slot), f_X8_asLong_B132 p0_minus p0_m p0_e s0 s1 = some u → va_P D vwCl [(a_p0, .inr (9, [.int p0_kind, .int p0_minus, .long p0_m, .int p0_e, .int p0_narrowBelow]))] H → va_D A [(a_p0, .inr (9, [.int p0_kind, .int p0_minus, .long p0_m, .int p0_e, .int p0_narrowBelow]))] → va_S A s.heap H locs → lv_has ls 11 [(0, .ref a_p0)] → W p l e (rmz 1 24) s m ar below meth c H locs 0 0 Q (F0 m 132 ls [.long s1, .long s0]) := by
    intro s0 s1 H locs ls hf hP hD hS hl
    unfold f_X8_asLong_B132 at hf
    refine lv_ladd hx hb dX8_asLong_132 ?_
    refine lv_lstore_n (lv' := [(2, .long (s0 + s1)), (0, .ref a_p0)]) hx hb dX8_asLong_133 rfl hl (by decide) rfl (fun ls hl => ?_)
    exact keyB134 (s0 + s1) H locs ls hf hP hD hS (lv_sub hl [1, 0] rfl)
  have keyB117 : ∀ (v9 : Int32) (v10 : Int32) (s0 : Int64) (s1 : Int32) (s2 : Int32) (s3 : Int32) (H : Heap) (locs : List Loc) (ls : Array Slot), f_X8_asLong_B117 p0_minus p0_m p0_e v9 v10 s0 s1 s2 s3 = some u → va_P D vwCl [(a_p0, .inr (9, [.int p0_kind, .int p0_minus, .long p0_m, .int p0_e, .int p0_narrowBelow]))] H → va_D A [(a_p0, .inr (9, [.int p0_kind, .int p0_minus, .long p0_m, .int p0_e, .int p0_narrowBelow]))] → va_S A s.heap H locs → lv_has ls 11 [(0, .ref a_p0), (9, .int v9), (10, .int v10)] → W p l e (rmz 1 24) s m ar below meth c H locs 0 0 Q (F0 m 117 ls [.int s3, .int s2, .int s1, .long s0]) := by
    intro v9 v10 s0 s1 s2 s3 H locs ls hf hP hD hS hl
    unfold f_X8_asLong_B117 at hf
    refine lv_iload hx hb dX8_asLong_117 (lv_at hl 1 rfl) ?_
    refine lv_iload hx hb dX8_asLong_119 (lv_at hl 2 rfl) ?_
    obtain ⟨u3, hu4, hf⟩ := bdE hf
    refine cS_I (ws' := [(a_p0, .inr (9, [.int p0_kind, .int p0_minus, .long p0_m, .int p0_e, .int p0_narrowBelow]))]) (rest := [.long s0]) S hK hN hA hP hD hS (c_X2_goesOn l D cI cJ  s1 s2 s3 v9 v10  u3 hu4) mwX2_goesOn msX2_goesOn kmX8_70 [] rfl (by decide) rfl rfl rfl ⟨Nat.le_of_ble_eq_true rfl, Nat.le_of_ble_eq_true rfl⟩ ⟨Nat.zero_le _, Nat.zero_le _⟩ hl.1 rfl rfl (Nat.le_of_ble_eq_true rfl) dX8_asLong_121 (fun H locs hP hD hS => ?_)
    refine lv_if_eq (tgt := 131) hx hb dX8_asLong_124 (by decide) (fun hc6 => ?_) (fun hc6 => ?_)
    · have hf := ifT hc6 hf
      refine lv_lconst (v := 0) hx hb dX8_asLong_131 (by decide) ?_
      exact keyB132 s0 (0 : Int64) H locs ls hf hP hD hS (lv_sub hl [0] rfl)
    · have hf := ifF hc6 hf
      refine lv_lconst (v := 1) hx hb dX8_asLong_127 (by decide) ?_
      refine lv_goto (tgt := 132) hx hb dX8_asLong_128 (by decide) ?_
      exact keyB132 s0 (1 : Int64) H locs ls hf hP hD hS (lv_sub hl [0] rfl)
  have keyB88 : ∀ (v1 : Int32) (v4 : Int32) (v9 : Int32) (s0 : Int32) (H : Heap) (locs : List Loc) (ls : Array Slot), f_X8_asLong_B88 p0_minus p0_m p0_e v1 v4 v9 s0 = some u → va_P D vwCl [(a_p0, .inr (9, [.int p0_kind, .int p0_minus, .long p0_m, .int p0_e, .int p0_narrowBelow]))] H → va_D A [(a_p0, .inr (9, [.int p0_kind, .int p0_minus, .long p0_m, .int p0_e, .int p0_narrowBelow]))] → va_S A s.heap H locs → lv_has ls 11 [(0, .ref a_p0), (1, .int v1), (4, .int v4), (9, .int v9)] → W p l e (rmz 1 24) s m ar below meth c H locs 0 0 Q (F0 m 88 ls [.int s0]) := by
    intro v1 v4 v9 s0 H locs ls hf hP hD hS hl
    unfold f_X8_asLong_B88 at hf
    refine lv_istore (lv' := [(10, .int s0), (0, .ref a_p0), (1, .int v1), (4, .int v4), (9, .int v9)]) hx hb dX8_asLong_88 hl (by decide) rfl (fun ls hl => ?_)
    refine lv_aload_n hx hb dX8_asLong_90 rfl (lv_at hl 1 rfl) ?_
    refine va_get (D := D) (ci := 9) (v := .long p0_m) (C := RX8) (T := TX8) (N := 5) hx hb hts uwX8 hown hK hP 0 rfl rfl 2 (by decide) (hts _ kfX8_27) (fun _ h9 => h9) rfl dX8_asLong_91 ?_
    refine lv_iload hx hb dX8_asLong_94 (lv_at hl 3 rfl) ?_
    refine lv_lushr (v := lus p0_m v4) hx hb dX8_asLong_96 rfl ?_
    refine lv_lstore_n (lv' := [(2, .long (lus p0_m v4)), (10, .int s0), (0, .ref a_p0), (1, .int v1), (4, .int v4), (9, .int v9)]) hx hb dX8_asLong_97 rfl hl (by decide) rfl (fun ls hl => ?_)
    refine lv_lload_n hx hb dX8_asLong_98 rfl (lv_at hl 0 rfl) ?_
    refine lv_iload_n hx hb dX8_asLong_99 rfl (lv_at hl 3 rfl) ?_
    refine lv_aload_n hx hb dX8_asLong_100 rfl (lv_at hl 2 rfl) ?_
    refine va_get (D := D) (ci := 9) (v := .int p0_minus) (C := RX8) (T := TX8) (N := 5) hx hb hts uwX8 hown hK hP 0 rfl rfl 1 (by decide) (hts _ kfX8_21) (fun _ h9 => h9) rfl dX8_asLong_101 ?_
    refine lv_lload_n hx hb dX8_asLong_104 rfl (lv_at hl 0 rfl) ?_
    refine lv_lconst (v := 1) hx hb dX8_asLong_105 (by decide) ?_
    refine lv_land hx hb dX8_asLong_106 ?_
    refine lv_lconst (v := 0) hx hb dX8_asLong_107 (by decide) ?_
    refine W.lcmp hx hb dX8_asLong_108 ?_
    refine lv_if_eq (tgt := 116) hx hb dX8_asLong_109 (by decide) (fun hc7 => ?_) (fun hc7 => ?_)
    · have hf := ifT hc7 hf
      refine lv_iconst (v := 0) hx hb dX8_asLong_116 (by decide) ?_
      exact keyB117 v9 s0 (lus p0_m v4) v1 p0_minus (0 : Int32) H locs ls hf hP hD hS (lv_sub hl [2, 5, 1] rfl)
    · have hf := ifF hc7 hf
      refine lv_iconst (v := 1) hx hb dX8_asLong_112 (by decide) ?_
      refine lv_goto (tgt := 117) hx hb dX8_asLong_113 (by decide) ?_
      exact keyB117 v9 s0 (lus p0_m v4) v1 p0_minus (1 : Int32) H locs ls hf hP hD hS (lv_sub hl [2, 5, 1] rfl)
  have keyB87 : ∀ (v1 : Int32) (v4 : Int32) (v9 : Int32) (H : Heap) (locs : List Loc) (ls : Array Slot), f_X8_asLong_B87 p0_minus p0_m p0_e v1 v4 v9 = some u → va_P D vwCl [(a_p0, .inr (9, [.int p0_kind, .int p0_minus, .long p0_m, .int p0_e, .int p0_narrowBelow]))] H → va_D A [(a_p0, .inr (9, [.int p0_kind, .int p0_minus, .long p0_m, .int p0_e, .int p0_narrowBelow]))] → va_S A s.heap H locs → lv_has ls 11 [(0, .ref a_p0), (1, .int v1), (4, .int v4), (9, .int v9)] → W p l e (rmz 1 24) s m ar below meth c H locs 0 0 Q (F0 m 87 ls []) := by
    intro v1 v4 v9 H locs ls hf hP hD hS hl
    unfold f_X8_asLong_B87 at hf
    refine lv_iconst (v := 0) hx hb dX8_asLong_87 (by decide) ?_
    exact keyB88 v1 v4 v9 (0 : Int32) H locs ls hf hP hD hS (lv_sub hl [0, 1, 2, 3] rfl)
  have keyB66 : ∀ (v1 : Int32) (v4 : Int32) (v5 : Int64) (v7 : Int64) (s0 : Int32) (H : Heap) (locs : List Loc) (ls : Array Slot), f_X8_asLong_B66 p0_minus p0_m p0_e v1 v4 v5 v7 s0 = some u → va_P D vwCl [(a_p0, .inr (9, [.int p0_kind, .int p0_minus, .long p0_m, .int p0_e, .int p0_narrowBelow]))] H → va_D A [(a_p0, .inr (9, [.int p0_kind, .int p0_minus, .long p0_m, .int p0_e, .int p0_narrowBelow]))] → va_S A s.heap H locs → lv_has ls 11 [(0, .ref a_p0), (1, .int v1), (4, .int v4), (5, .long v5), (7, .long v7)] → W p l e (rmz 1 24) s m ar below meth c H locs 0 0 Q (F0 m 66 ls [.int s0]) := by
    intro v1 v4 v5 v7 s0 H locs ls hf hP hD hS hl
    unfold f_X8_asLong_B66 at hf
    refine lv_istore (lv' := [(9, .int s0), (0, .ref a_p0), (1, .int v1), (4, .int v4), (5, .long v5), (7, .long v7)]) hx hb dX8_asLong_66 hl (by decide) rfl (fun ls hl => ?_)
    refine lv_lload hx hb dX8_asLong_68 (lv_at hl 4 rfl) ?_
    refine lv_lconst (v := 0) hx hb dX8_asLong_70 (by decide) ?_
    refine W.lcmp hx hb dX8_asLong_71 ?_
    refine lv_if_eq (tgt := 87) hx hb dX8_asLong_72 (by decide) (fun hc9 => ?_) (fun hc9 => ?_)
    · have hf := ifT hc9 hf
      exact keyB87 v1 v4 s0 H locs ls hf hP hD hS (lv_sub hl [1, 2, 3, 0] rfl)
    · have hf := ifF hc9 hf
      refine lv_lload hx hb dX8_asLong_75 (lv_at hl 4 rfl) ?_
      refine lv_lload hx hb dX8_asLong_77 (lv_at hl 5 rfl) ?_
      refine W.lcmp hx hb dX8_asLong_79 ?_
      refine lv_if_eq (tgt := 87) hx hb dX8_asLong_80 (by decide) (fun hc8 => ?_) (fun hc8 => ?_)
      · have hf := ifT hc8 hf
        exact keyB87 v1 v4 s0 H locs ls hf hP hD hS (lv_sub hl [1, 2, 3, 0] rfl)
      · have hf := ifF hc8 hf
        refine lv_iconst (v := 1) hx hb dX8_asLong_83 (by decide) ?_
        refine lv_goto (tgt := 88) hx hb dX8_asLong_84 (by decide) ?_
        exact keyB88 v1 v4 s0 (1 : Int32) H locs ls hf hP hD hS (lv_sub hl [1, 2, 3, 0] rfl)
  unfold f_X8_asLong at hf
  refine lv_aload_n hx hb dX8_asLong_0 rfl (lv_at hl 0 rfl) ?_
  refine va_get (D := D) (ci := 9) (v := .int p0_e) (C := RX8) (T := TX8) (N := 5) hx hb hts uwX8 hown hK hP 0 rfl rfl 3 (by decide) (hts _ kfX8_31) (fun _ h9 => h9) rfl dX8_asLong_1 ?_
  refine lv_if_lt (tgt := 20) hx hb dX8_asLong_4 (by decide) (fun hc11 => ?_) (fun hc11 => ?_)
  · have hf := ifT hc11 hf
    refine lv_aload_n hx hb dX8_asLong_20 rfl (lv_at hl 0 rfl) ?_
    refine va_get (D := D) (ci := 9) (v := .int p0_e) (C := RX8) (T := TX8) (N := 5) hx hb hts uwX8 hown hK hP 0 rfl rfl 3 (by decide) (hts _ kfX8_31) (fun _ h9 => h9) rfl dX8_asLong_21 ?_
    refine lv_ineg hx hb dX8_asLong_24 ?_
    refine lv_bipush (v := 62) hx hb dX8_asLong_25 (by decide) ?_
    obtain ⟨u1, hu2, hf⟩ := bdE hf
    refine cS_I (ws' := [(a_p0, .inr (9, [.int p0_kind, .int p0_minus, .long p0_m, .int p0_e, .int p0_narrowBelow]))]) (rest := []) S hK hN hA hP hD hS (c_J9_min_7cf53 l D cI cJ  (-p0_e) (62 : Int32)  u1 hu2) mwJ9_min_7cf53 msJ9_min_7cf53 kmX8_64 [] rfl (by decide) rfl rfl rfl ⟨Nat.le_of_ble_eq_true rfl, Nat.le_of_ble_eq_true rfl⟩ ⟨Nat.zero_le _, Nat.zero_le _⟩ hl.1 rfl rfl (Nat.le_of_ble_eq_true rfl) dX8_asLong_27 (fun H locs hP hD hS => ?_)
    refine lv_istore (lv' := [(4, .int u1), (0, .ref a_p0), (1, .int p1)]) hx hb dX8_asLong_30 hl (by decide) rfl (fun ls hl => ?_)
    refine lv_aload_n hx hb dX8_asLong_32 rfl (lv_at hl 1 rfl) ?_
    refine va_get (D := D) (ci := 9) (v := .long p0_m) (C := RX8) (T := TX8) (N := 5) hx hb hts uwX8 hown hK hP 0 rfl rfl 2 (by decide) (hts _ kfX8_27) (fun _ h9 => h9) rfl dX8_asLong_33 ?_
    refine lv_lconst (v := 1) hx hb dX8_asLong_36 (by decide) ?_
    refine lv_iload hx hb dX8_asLong_37 (lv_at hl 0 rfl) ?_
    refine lv_lshl (v := lsh (1 : Int64) u1) hx hb dX8_asLong_39 rfl ?_
    refine lv_lconst (v := 1) hx hb dX8_asLong_40 (by decide) ?_
    refine lv_lsub hx hb dX8_asLong_41 ?_
    refine lv_land hx hb dX8_asLong_42 ?_
    refine lv_lstore (lv' := [(5, .long (p0_m &&& ((lsh (1 : Int64) u1) - (1 : Int64)))), (4, .int u1), (0, .ref a_p0), (1, .int p1)]) hx hb dX8_asLong_43 hl (by decide) rfl (fun ls hl => ?_)
    refine lv_lconst (v := 1) hx hb dX8_asLong_45 (by decide) ?_
    refine lv_iload hx hb dX8_asLong_46 (lv_at hl 1 rfl) ?_
    refine lv_iconst (v := 1) hx hb dX8_asLong_48 (by decide) ?_
    refine lv_isub hx hb dX8_asLong_49 ?_
    refine lv_lshl (v := lsh (1 : Int64) (u1 - (1 : Int32))) hx hb dX8_asLong_50 rfl ?_
    refine lv_lstore (lv' := [(7, .long (lsh (1 : Int64) (u1 - (1 : Int32)))), (5, .long (p0_m &&& ((lsh (1 : Int64) u1) - (1 : Int64)))), (4, .int u1), (0, .ref a_p0), (1, .int p1)]) hx hb dX8_asLong_51 hl (by decide) rfl (fun ls hl => ?_)
    refine lv_lload hx hb dX8_asLong_53 (lv_at hl 1 rfl) ?_
    refine lv_lload hx hb dX8_asLong_55 (lv_at hl 0 rfl) ?_
    refine W.lcmp hx hb dX8_asLong_57 ?_
    refine lv_if_lt (tgt := 65) hx hb dX8_asLong_58 (by decide) (fun hc10 => ?_) (fun hc10 => ?_)
    · have hf := ifT hc10 hf
      refine lv_iconst (v := 0) hx hb dX8_asLong_65 (by decide) ?_
      exact keyB66 p1 u1 (p0_m &&& ((lsh (1 : Int64) u1) - (1 : Int64))) (lsh (1 : Int64) (u1 - (1 : Int32))) (0 : Int32) H locs ls hf hP hD hS (lv_sub hl [3, 4, 2, 1, 0] rfl)
    · have hf := ifF hc10 hf
      refine lv_iconst (v := 1) hx hb dX8_asLong_61 (by decide) ?_
      refine lv_goto (tgt := 66) hx hb dX8_asLong_62 (by decide) ?_
      exact keyB66 p1 u1 (p0_m &&& ((lsh (1 : Int64) u1) - (1 : Int64))) (lsh (1 : Int64) (u1 - (1 : Int32))) (1 : Int32) H locs ls hf hP hD hS (lv_sub hl [3, 4, 2, 1, 0] rfl)
  · have hf := ifF hc11 hf
    refine lv_aload_n hx hb dX8_asLong_7 rfl (lv_at hl 0 rfl) ?_
    refine va_get (D := D) (ci := 9) (v := .long p0_m) (C := RX8) (T := TX8) (N := 5) hx hb hts uwX8 hown hK hP 0 rfl rfl 2 (by decide) (hts _ kfX8_27) (fun _ h9 => h9) rfl dX8_asLong_8 ?_
    refine lv_aload_n hx hb dX8_asLong_11 rfl (lv_at hl 0 rfl) ?_
    refine va_get (D := D) (ci := 9) (v := .int p0_e) (C := RX8) (T := TX8) (N := 5) hx hb hts uwX8 hown hK hP 0 rfl rfl 3 (by decide) (hts _ kfX8_31) (fun _ h9 => h9) rfl dX8_asLong_12 ?_
    refine lv_lshl (v := lsh p0_m p0_e) hx hb dX8_asLong_15 rfl ?_
    refine lv_lstore_n (lv' := [(2, .long (lsh p0_m p0_e)), (0, .ref a_p0), (1, .int p1)]) hx hb dX8_asLong_16 rfl hl (by decide) rfl (fun ls hl => ?_)
    refine lv_goto (tgt := 134) hx hb dX8_asLong_17 (by decide) ?_
    exact keyB134 (lsh p0_m p0_e) H locs ls hf hP hD hS (lv_sub hl [1, 0] rfl)
set_option maxRecDepth 100000 in
set_option maxHeartbeats 4000000 in
theorem c_X8_side (l : Launch) (D : va_G) (cI cJ : ClassId) (a_p0 : Nat) (p0_kind : Int32) (p0_minus : Int32) (p0_m : Int64) (p0_e : Int32) (p0_narrowBelow : Int32) (u : Int32) (hf : f_X8_side p0_kind p0_minus = some u) : CtI l yX8_side cX8_side 1 0 0 .int [.ref a_p0] D cI cJ [(a_p0, .inr (9, [.int p0_kind, .int p0_minus, .long p0_m, .int p0_e, .int p0_narrowBelow]))] [(a_p0, .inr (9, [.int p0_kind, .int p0_minus, .long p0_m, .int p0_e, .int p0_narrowBelow]))] u := by
  refine mkI (own := RX8) rfl (by decide +kernel) (Nat.le_of_ble_eq_true rfl) (lv := [(0, .ref a_p0)]) rfl ?_
  intro p e s m below meth c Q A ls ar S hA hK hN hret H locs hP hD hS hl
  obtain ⟨hx, hb, hml, hown, hts⟩ := id S
  have hret : ∀ (w : Int32), w = u → ∀ (H : Heap) (locs : List Loc) (ls : Array Slot) (pc : Nat), decode cX8_side pc = .ok (.ireturn, 1) → va_P D vwCl [(a_p0, .inr (9, [.int p0_kind, .int p0_minus, .long p0_m, .int p0_e, .int p0_narrowBelow]))] H → va_D A [(a_p0, .inr (9, [.int p0_kind, .int p0_minus, .long p0_m, .int p0_e, .int p0_narrowBelow]))] → va_S A s.heap H locs → W p l e (rmz 0 0) s m ar below meth c H locs 0 0 Q (F0 m pc ls [.int w]) := fun w hw => hw ▸ hret
  unfold f_X8_side at hf
  refine lv_aload_n hx hb dX8_side_0 rfl (lv_at hl 0 rfl) ?_
  refine va_get (D := D) (ci := 9) (v := .int p0_kind) (C := RX8) (T := TX8) (N := 5) hx hb hts uwX8 hown hK hP 0 rfl rfl 0 (by decide) (hts _ kfX8_41) (fun _ h9 => h9) rfl dX8_side_1 ?_
  refine lv_if_ne (tgt := 9) hx hb dX8_side_4 (by decide) (fun hc2 => ?_) (fun hc2 => ?_)
  · have hf := ifF hc2 hf
    refine lv_aload_n hx hb dX8_side_9 rfl (lv_at hl 0 rfl) ?_
    refine va_get (D := D) (ci := 9) (v := .int p0_minus) (C := RX8) (T := TX8) (N := 5) hx hb hts uwX8 hown hK hP 0 rfl rfl 1 (by decide) (hts _ kfX8_21) (fun _ h9 => h9) rfl dX8_side_10 ?_
    refine lv_if_eq (tgt := 20) hx hb dX8_side_13 (by decide) (fun hc1 => ?_) (fun hc1 => ?_)
    · have hf := ifT hc1 hf
      refine lv_iconst (v := 1) hx hb dX8_side_20 (by decide) ?_
      exact hret _ (opE hf) H locs ls 21 dX8_side_21 hP hD hS
    · have hf := ifF hc1 hf
      refine lv_iconst (v := -1) hx hb dX8_side_16 (by decide) ?_
      refine lv_goto (tgt := 21) hx hb dX8_side_17 (by decide) ?_
      exact hret _ (opE hf) H locs ls 21 dX8_side_21 hP hD hS
  · have hf := ifT hc2 hf
    refine lv_iconst (v := 0) hx hb dX8_side_7 (by decide) ?_
    exact hret _ (opE hf) H locs ls 8 dX8_side_8 hP hD hS
set_option maxRecDepth 100000 in
set_option maxHeartbeats 4000000 in
theorem c_J13_compare_74951 (l : Launch) (D : va_G) (cI cJ : ClassId) (p0 : Int64) (p1 : Int64)  (u : Int32) (hf : f_J13_compare_74951 p0 p1 = some u) : CtI l yJ13_compare_74951 cJ13_compare_74951 4 0 0 .int [.long p0, .long p1] D cI cJ [] [] u := by
  refine mkI (own := RJ13) rfl (by decide +kernel) (Nat.le_of_ble_eq_true rfl) (lv := [(0, .long p0), (2, .long p1)]) rfl ?_
  intro p e s m below meth c Q A ls ar S hA hK hN hret H locs hP hD hS hl
  obtain ⟨hx, hb, hml, hown, hts⟩ := id S
  have hret : ∀ (w : Int32), w = u → ∀ (H : Heap) (locs : List Loc) (ls : Array Slot) (pc : Nat), decode cJ13_compare_74951 pc = .ok (.ireturn, 1) → va_P D vwCl [] H → va_D A [] → va_S A s.heap H locs → W p l e (rmz 0 0) s m ar below meth c H locs 0 0 Q (F0 m pc ls [.int w]) := fun w hw => hw ▸ hret
  unfold f_J13_compare_74951 at hf
  refine lv_lload_n hx hb dJ13_compare_74951_0 rfl (lv_at hl 0 rfl) ?_
  refine lv_lload_n hx hb dJ13_compare_74951_1 rfl (lv_at hl 1 rfl) ?_
  refine W.lcmp hx hb dJ13_compare_74951_2 ?_
  refine lv_if_ge (tgt := 10) hx hb dJ13_compare_74951_3 (by decide) (fun hc2 => ?_) (fun hc2 => ?_)
  · have hf := ifT hc2 hf
    refine lv_lload_n hx hb dJ13_compare_74951_10 rfl (lv_at hl 0 rfl) ?_
    refine lv_lload_n hx hb dJ13_compare_74951_11 rfl (lv_at hl 1 rfl) ?_
    refine W.lcmp hx hb dJ13_compare_74951_12 ?_
    refine lv_if_ne (tgt := 20) hx hb dJ13_compare_74951_13 (by decide) (fun hc1 => ?_) (fun hc1 => ?_)
    · have hf := ifF hc1 hf
      refine lv_iconst (v := 1) hx hb dJ13_compare_74951_20 (by decide) ?_
      exact hret _ (opE hf) H locs ls 21 dJ13_compare_74951_21 hP hD hS
    · have hf := ifT hc1 hf
      refine lv_iconst (v := 0) hx hb dJ13_compare_74951_16 (by decide) ?_
      refine lv_goto (tgt := 21) hx hb dJ13_compare_74951_17 (by decide) ?_
      exact hret _ (opE hf) H locs ls 21 dJ13_compare_74951_21 hP hD hS
  · have hf := ifF hc2 hf
    refine lv_iconst (v := -1) hx hb dJ13_compare_74951_6 (by decide) ?_
    refine lv_goto (tgt := 21) hx hb dJ13_compare_74951_7 (by decide) ?_
    exact hret _ (opE hf) H locs ls 21 dJ13_compare_74951_21 hP hD hS
set_option maxRecDepth 100000 in
set_option maxHeartbeats 4000000 in
theorem c_J6_compare_7cf53 (l : Launch) (D : va_G) (cI cJ : ClassId) (p0 : Int32) (p1 : Int32)  (u : Int32) (hf : f_J6_compare_7cf53 p0 p1 = some u) : CtI l yJ6_compare_7cf53 cJ6_compare_7cf53 2 0 0 .int [.int p0, .int p1] D cI cJ [] [] u := by
  refine mkI (own := RJ6) rfl (by decide +kernel) (Nat.le_of_ble_eq_true rfl) (lv := [(0, .int p0), (1, .int p1)]) rfl ?_
  intro p e s m below meth c Q A ls ar S hA hK hN hret H locs hP hD hS hl
  obtain ⟨hx, hb, hml, hown, hts⟩ := id S
  have hret : ∀ (w : Int32), w = u → ∀ (H : Heap) (locs : List Loc) (ls : Array Slot) (pc : Nat), decode cJ6_compare_7cf53 pc = .ok (.ireturn, 1) → va_P D vwCl [] H → va_D A [] → va_S A s.heap H locs → W p l e (rmz 0 0) s m ar below meth c H locs 0 0 Q (F0 m pc ls [.int w]) := fun w hw => hw ▸ hret
  unfold f_J6_compare_7cf53 at hf
  refine lv_iload_n hx hb dJ6_compare_7cf53_0 rfl (lv_at hl 0 rfl) ?_
  refine lv_iload_n hx hb dJ6_compare_7cf53_1 rfl (lv_at hl 1 rfl) ?_
  refine lv_icmp_ge (tgt := 9) hx hb dJ6_compare_7cf53_2 (by decide) (fun hc2 => ?_) (fun hc2 => ?_)
  · have hf := ifT hc2 hf
    refine lv_iload_n hx hb dJ6_compare_7cf53_9 rfl (lv_at hl 0 rfl) ?_
    refine lv_iload_n hx hb dJ6_compare_7cf53_10 rfl (lv_at hl 1 rfl) ?_
    refine lv_icmp_ne (tgt := 18) hx hb dJ6_compare_7cf53_11 (by decide) (fun hc1 => ?_) (fun hc1 => ?_)
    · have hf := ifF hc1 hf
      refine lv_iconst (v := 1) hx hb dJ6_compare_7cf53_18 (by decide) ?_
      exact hret _ (opE hf) H locs ls 19 dJ6_compare_7cf53_19 hP hD hS
    · have hf := ifT hc1 hf
      refine lv_iconst (v := 0) hx hb dJ6_compare_7cf53_14 (by decide) ?_
      refine lv_goto (tgt := 19) hx hb dJ6_compare_7cf53_15 (by decide) ?_
      exact hret _ (opE hf) H locs ls 19 dJ6_compare_7cf53_19 hP hD hS
  · have hf := ifF hc2 hf
    refine lv_iconst (v := -1) hx hb dJ6_compare_7cf53_5 (by decide) ?_
    refine lv_goto (tgt := 19) hx hb dJ6_compare_7cf53_6 (by decide) ?_
    exact hret _ (opE hf) H locs ls 19 dJ6_compare_7cf53_19 hP hD hS
set_option maxRecDepth 100000 in
set_option maxHeartbeats 4000000 in
theorem c_X8_comparedSizes (l : Launch) (D : va_G) (cI cJ : ClassId) (a_p0 a_p1 : Nat) (p0_kind : Int32) (p0_minus : Int32) (p0_m : Int64) (p0_e : Int32) (p0_narrowBelow : Int32) (p1_kind : Int32) (p1_minus : Int32) (p1_m : Int64) (p1_e : Int32) (p1_narrowBelow : Int32) (u : Int32) (hf : f_X8_comparedSizes p0_kind p0_m p0_e p1_kind p1_m p1_e = some u) : CtI l yX8_comparedSizes cX8_comparedSizes 4 3 63 .int [.ref a_p0, .ref a_p1] D cI cJ [(a_p0, .inr (9, [.int p0_kind, .int p0_minus, .long p0_m, .int p0_e, .int p0_narrowBelow])), (a_p1, .inr (9, [.int p1_kind, .int p1_minus, .long p1_m, .int p1_e, .int p1_narrowBelow]))] [(a_p0, .inr (9, [.int p0_kind, .int p0_minus, .long p0_m, .int p0_e, .int p0_narrowBelow])), (a_p1, .inr (9, [.int p1_kind, .int p1_minus, .long p1_m, .int p1_e, .int p1_narrowBelow]))] u := by
  refine mkI (own := RX8) rfl (by decide +kernel) (Nat.le_of_ble_eq_true rfl) (lv := [(0, .ref a_p0), (1, .ref a_p1)]) rfl ?_
  intro p e s m below meth c Q A ls ar S hA hK hN hret H locs hP hD hS hl
  obtain ⟨hx, hb, hml, hown, hts⟩ := id S
  have hret : ∀ (w : Int32), w = u → ∀ (H : Heap) (locs : List Loc) (ls : Array Slot) (pc : Nat), decode cX8_comparedSizes pc = .ok (.ireturn, 1) → va_P D vwCl [(a_p0, .inr (9, [.int p0_kind, .int p0_minus, .long p0_m, .int p0_e, .int p0_narrowBelow])), (a_p1, .inr (9, [.int p1_kind, .int p1_minus, .long p1_m, .int p1_e, .int p1_narrowBelow]))] H → va_D A [(a_p0, .inr (9, [.int p0_kind, .int p0_minus, .long p0_m, .int p0_e, .int p0_narrowBelow])), (a_p1, .inr (9, [.int p1_kind, .int p1_minus, .long p1_m, .int p1_e, .int p1_narrowBelow]))] → va_S A s.heap H locs → W p l e (rmz 3 63) s m ar below meth c H locs 0 0 Q (F0 m pc ls [.int w]) := fun w hw => hw ▸ hret
  have keyB42 : ∀ (s0 : Int32) (s1 : Int32) (H : Heap) (locs : List Loc) (ls : Array Slot), f_X8_comparedSizes_B42 p0_kind p0_m p0_e p1_kind p1_m p1_e s0 s1 = some u → va_P D vwCl [(a_p0, .inr (9, [.int p0_kind, .int p0_minus, .long p0_m, .int p0_e, .int p0_narrowBelow])), (a_p1, .inr (9, [.int p1_kind, .int p1_minus, .long p1_m, .int p1_e, .int p1_narrowBelow]))] H → va_D A [(a_p0, .inr (9, [.int p0_kind, .int p0_minus, .long p0_m, .int p0_e, .int p0_narrowBelow])), (a_p1, .inr (9, [.int p1_kind, .int p1_minus, .long p1_m, .int p1_e, .int p1_narrowBelow]))] → va_S A s.heap H locs → lv_has ls 4 [] → W p l e (rmz 3 63) s m ar below meth c H locs 0 0 Q (F0 m 42 ls [.int s1, .int s0]) := by
    intro s0 s1 H locs ls hf hP hD hS hl
    unfold f_X8_comparedSizes_B42 at hf
    obtain ⟨u1, hu2, hf⟩ := bdE hf
    refine cS_I (ws' := [(a_p0, .inr (9, [.int p0_kind, .int p0_minus, .long p0_m, .int p0_e, .int p0_narrowBelow])), (a_p1, .inr (9, [.int p1_kind, .int p1_minus, .long p1_m, .int p1_e, .int p1_narrowBelow]))]) (rest := []) S hK hN hA hP hD hS (c_J6_compare_7cf53 l D cI cJ  s0 s1  u1 hu2) mwJ6_compare_7cf53 msJ6_compare_7cf53 kmX8_81 [] rfl (by decide) rfl rfl rfl ⟨Nat.le_of_ble_eq_true rfl, Nat.le_of_ble_eq_true rfl⟩ ⟨Nat.zero_le _, Nat.zero_le _⟩ hl.1 rfl rfl (Nat.le_of_ble_eq_true rfl) dX8_comparedSizes_42 (fun H locs hP hD hS => ?_)
    exact hret _ (opE hf) H locs ls 45 dX8_comparedSizes_45 hP hD hS
  have keyB29 : ∀ (s0 : Int32) (H : Heap) (locs : List Loc) (ls : Array Slot), f_X8_comparedSizes_B29 p0_kind p0_m p0_e p1_kind p1_m p1_e s0 = some u → va_P D vwCl [(a_p0, .inr (9, [.int p0_kind, .int p0_minus, .long p0_m, .int p0_e, .int p0_narrowBelow])), (a_p1, .inr (9, [.int p1_kind, .int p1_minus, .long p1_m, .int p1_e, .int p1_narrowBelow]))] H → va_D A [(a_p0, .inr (9, [.int p0_kind, .int p0_minus, .long p0_m, .int p0_e, .int p0_narrowBelow])), (a_p1, .inr (9, [.int p1_kind, .int p1_minus, .long p1_m, .int p1_e, .int p1_narrowBelow]))] → va_S A s.heap H locs → lv_has ls 4 [(1, .ref a_p1)] → W p l e (rmz 3 63) s m ar below meth c H locs 0 0 Q (F0 m 29 ls [.int s0]) := by
    intro s0 H locs ls hf hP hD hS hl
    unfold f_X8_comparedSizes_B29 at hf
    refine lv_aload_n hx hb dX8_comparedSizes_29 rfl (lv_at hl 0 rfl) ?_
    refine va_get (D := D) (ci := 9) (v := .int p1_kind) (C := RX8) (T := TX8) (N := 5) hx hb hts uwX8 hown hK hP 1 rfl rfl 0 (by decide) (hts _ kfX8_41) (fun _ h9 => h9) rfl dX8_comparedSizes_30 ?_
    refine lv_iconst (v := 3) hx hb dX8_comparedSizes_33 (by decide) ?_
    refine lv_icmp_ne (tgt := 41) hx hb dX8_comparedSizes_34 (by decide) (fun hc3 => ?_) (fun hc3 => ?_)
    · have hf := ifF hc3 hf
      refine lv_iconst (v := 0) hx hb dX8_comparedSizes_41 (by decide) ?_
      exact keyB42 s0 (0 : Int32) H locs ls hf hP hD hS (lv_sub hl [] rfl)
    · have hf := ifT hc3 hf
      refine lv_iconst (v := 1) hx hb dX8_comparedSizes_37 (by decide) ?_
      refine lv_goto (tgt := 42) hx hb dX8_comparedSizes_38 (by decide) ?_
      exact keyB42 s0 (1 : Int32) H locs ls hf hP hD hS (lv_sub hl [] rfl)
  have keyB16 : ∀  (H : Heap) (locs : List Loc) (ls : Array Slot), f_X8_comparedSizes_B16 p0_kind p0_m p0_e p1_kind p1_m p1_e  = some u → va_P D vwCl [(a_p0, .inr (9, [.int p0_kind, .int p0_minus, .long p0_m, .int p0_e, .int p0_narrowBelow])), (a_p1, .inr (9, [.int p1_kind, .int p1_minus, .long p1_m, .int p1_e, .int p1_narrowBelow]))] H → va_D A [(a_p0, .inr (9, [.int p0_kind, .int p0_minus, .long p0_m, .int p0_e, .int p0_narrowBelow])), (a_p1, .inr (9, [.int p1_kind, .int p1_minus, .long p1_m, .int p1_e, .int p1_narrowBelow]))] → va_S A s.heap H locs → lv_has ls 4 [(0, .ref a_p0), (1, .ref a_p1)] → W p l e (rmz 3 63) s m ar below meth c H locs 0 0 Q (F0 m 16 ls []) := by
    intro  H locs ls hf hP hD hS hl
    unfold f_X8_comparedSizes_B16 at hf
    refine lv_aload_n hx hb dX8_comparedSizes_16 rfl (lv_at hl 0 rfl) ?_
    refine va_get (D := D) (ci := 9) (v := .int p0_kind) (C := RX8) (T := TX8) (N := 5) hx hb hts uwX8 hown hK hP 0 rfl rfl 0 (by decide) (hts _ kfX8_41) (fun _ h9 => h9) rfl dX8_comparedSizes_17 ?_
    refine lv_iconst (v := 3) hx hb dX8_comparedSizes_20 (by decide) ?_
    refine lv_icmp_ne (tgt := 28) hx hb dX8_comparedSizes_21 (by decide) (fun hc4 => ?_) (fun hc4 => ?_)
    · have hf := ifF hc4 hf
      refine lv_iconst (v := 0) hx hb dX8_comparedSizes_28 (by decide) ?_
      exact keyB29 (0 : Int32) H locs ls hf hP hD hS (lv_sub hl [1] rfl)
    · have hf := ifT hc4 hf
      refine lv_iconst (v := 1) hx hb dX8_comparedSizes_24 (by decide) ?_
      refine lv_goto (tgt := 29) hx hb dX8_comparedSizes_25 (by decide) ?_
      exact keyB29 (1 : Int32) H locs ls hf hP hD hS (lv_sub hl [1] rfl)
  unfold f_X8_comparedSizes at hf
  refine lv_aload_n hx hb dX8_comparedSizes_0 rfl (lv_at hl 0 rfl) ?_
  refine va_get (D := D) (ci := 9) (v := .int p0_kind) (C := RX8) (T := TX8) (N := 5) hx hb hts uwX8 hown hK hP 0 rfl rfl 0 (by decide) (hts _ kfX8_41) (fun _ h9 => h9) rfl dX8_comparedSizes_1 ?_
  refine lv_iconst (v := 3) hx hb dX8_comparedSizes_4 (by decide) ?_
  refine lv_icmp_eq (tgt := 16) hx hb dX8_comparedSizes_5 (by decide) (fun hc18 => ?_) (fun hc18 => ?_)
  · have hf := ifT hc18 hf
    exact keyB16  H locs ls hf hP hD hS (lv_sub hl [0, 1] rfl)
  · have hf := ifF hc18 hf
    refine lv_aload_n hx hb dX8_comparedSizes_8 rfl (lv_at hl 1 rfl) ?_
    refine va_get (D := D) (ci := 9) (v := .int p1_kind) (C := RX8) (T := TX8) (N := 5) hx hb hts uwX8 hown hK hP 1 rfl rfl 0 (by decide) (hts _ kfX8_41) (fun _ h9 => h9) rfl dX8_comparedSizes_9 ?_
    refine lv_iconst (v := 3) hx hb dX8_comparedSizes_12 (by decide) ?_
    refine lv_icmp_ne (tgt := 46) hx hb dX8_comparedSizes_13 (by decide) (fun hc17 => ?_) (fun hc17 => ?_)
    · have hf := ifF hc17 hf
      refine lv_aload_n hx hb dX8_comparedSizes_46 rfl (lv_at hl 0 rfl) ?_
      obtain ⟨u5, hu6, hf⟩ := bdE hf
      refine cV_I (ws' := [(a_p0, .inr (9, [.int p0_kind, .int p0_minus, .long p0_m, .int p0_e, .int p0_narrowBelow])), (a_p1, .inr (9, [.int p1_kind, .int p1_minus, .long p1_m, .int p1_e, .int p1_narrowBelow]))]) (rest := []) S hK hN hA hP hD hS (c_X8_bits l D cI cJ a_p0  p0_kind p0_minus p0_m p0_e p0_narrowBelow u5 hu6) mwX8_bits miX8_bits kmX8_57 [0] rfl (by decide) rfl rfl rfl 0 rfl rfl ⟨Nat.le_of_ble_eq_true rfl, Nat.le_of_ble_eq_true rfl⟩ ⟨Nat.zero_le _, Nat.zero_le _⟩ hl.1 rfl rfl (Nat.le_of_ble_eq_true rfl) dX8_comparedSizes_47 (fun H locs hP hD hS => ?_)
      refine lv_aload_n hx hb dX8_comparedSizes_50 rfl (lv_at hl 0 rfl) ?_
      refine va_get (D := D) (ci := 9) (v := .int p0_e) (C := RX8) (T := TX8) (N := 5) hx hb hts uwX8 hown hK hP 0 rfl rfl 3 (by decide) (hts _ kfX8_31) (fun _ h9 => h9) rfl dX8_comparedSizes_51 ?_
      refine lv_iadd hx hb dX8_comparedSizes_54 ?_
      refine lv_istore_n (lv' := [(2, .int (u5 + p0_e)), (0, .ref a_p0), (1, .ref a_p1)]) hx hb dX8_comparedSizes_55 rfl hl (by decide) rfl (fun ls hl => ?_)
      refine lv_aload_n hx hb dX8_comparedSizes_56 rfl (lv_at hl 2 rfl) ?_
      obtain ⟨u7, hu8, hf⟩ := bdE hf
      refine cV_I (ws' := [(a_p0, .inr (9, [.int p0_kind, .int p0_minus, .long p0_m, .int p0_e, .int p0_narrowBelow])), (a_p1, .inr (9, [.int p1_kind, .int p1_minus, .long p1_m, .int p1_e, .int p1_narrowBelow]))]) (rest := []) S hK hN hA hP hD hS (c_X8_bits l D cI cJ a_p1  p1_kind p1_minus p1_m p1_e p1_narrowBelow u7 hu8) mwX8_bits miX8_bits kmX8_57 [1] rfl (by decide) rfl rfl rfl 0 rfl rfl ⟨Nat.le_of_ble_eq_true rfl, Nat.le_of_ble_eq_true rfl⟩ ⟨Nat.zero_le _, Nat.zero_le _⟩ hl.1 rfl rfl (Nat.le_of_ble_eq_true rfl) dX8_comparedSizes_57 (fun H locs hP hD hS => ?_)
      refine lv_aload_n hx hb dX8_comparedSizes_60 rfl (lv_at hl 2 rfl) ?_
      refine va_get (D := D) (ci := 9) (v := .int p1_e) (C := RX8) (T := TX8) (N := 5) hx hb hts uwX8 hown hK hP 1 rfl rfl 3 (by decide) (hts _ kfX8_31) (fun _ h9 => h9) rfl dX8_comparedSizes_61 ?_
      refine lv_iadd hx hb dX8_comparedSizes_64 ?_
      refine lv_istore_n (lv' := [(3, .int (u7 + p1_e)), (2, .int (u5 + p0_e)), (0, .ref a_p0), (1, .ref a_p1)]) hx hb dX8_comparedSizes_65 rfl hl (by decide) rfl (fun ls hl => ?_)
      refine lv_iload_n hx hb dX8_comparedSizes_66 rfl (lv_at hl 1 rfl) ?_
      refine lv_iload_n hx hb dX8_comparedSizes_67 rfl (lv_at hl 0 rfl) ?_
      refine lv_icmp_eq (tgt := 82) hx hb dX8_comparedSizes_68 (by decide) (fun hc16 => ?_) (fun hc16 => ?_)
      · have hf := ifT hc16 hf
        refine lv_aload_n hx hb dX8_comparedSizes_82 rfl (lv_at hl 2 rfl) ?_
        refine va_get (D := D) (ci := 9) (v := .long p0_m) (C := RX8) (T := TX8) (N := 5) hx hb hts uwX8 hown hK hP 0 rfl rfl 2 (by decide) (hts _ kfX8_27) (fun _ h9 => h9) rfl dX8_comparedSizes_83 ?_
        refine lv_bipush (v := 63) hx hb dX8_comparedSizes_86 (by decide) ?_
        refine lv_aload_n hx hb dX8_comparedSizes_88 rfl (lv_at hl 2 rfl) ?_
        obtain ⟨u9, hu10, hf⟩ := bdE hf
        refine cV_I (ws' := [(a_p0, .inr (9, [.int p0_kind, .int p0_minus, .long p0_m, .int p0_e, .int p0_narrowBelow])), (a_p1, .inr (9, [.int p1_kind, .int p1_minus, .long p1_m, .int p1_e, .int p1_narrowBelow]))]) (rest := [.int (63 : Int32), .long p0_m]) S hK hN hA hP hD hS (c_X8_bits l D cI cJ a_p0  p0_kind p0_minus p0_m p0_e p0_narrowBelow u9 hu10) mwX8_bits miX8_bits kmX8_57 [0] rfl (by decide) rfl rfl rfl 0 rfl rfl ⟨Nat.le_of_ble_eq_true rfl, Nat.le_of_ble_eq_true rfl⟩ ⟨Nat.zero_le _, Nat.zero_le _⟩ hl.1 rfl rfl (Nat.le_of_ble_eq_true rfl) dX8_comparedSizes_89 (fun H locs hP hD hS => ?_)
        refine lv_isub hx hb dX8_comparedSizes_92 ?_
        refine lv_lshl (v := lsh p0_m ((63 : Int32) - u9)) hx hb dX8_comparedSizes_93 rfl ?_
        refine lv_aload_n hx hb dX8_comparedSizes_94 rfl (lv_at hl 3 rfl) ?_
        refine va_get (D := D) (ci := 9) (v := .long p1_m) (C := RX8) (T := TX8) (N := 5) hx hb hts uwX8 hown hK hP 1 rfl rfl 2 (by decide) (hts _ kfX8_27) (fun _ h9 => h9) rfl dX8_comparedSizes_95 ?_
        refine lv_bipush (v := 63) hx hb dX8_comparedSizes_98 (by decide) ?_
        refine lv_aload_n hx hb dX8_comparedSizes_100 rfl (lv_at hl 3 rfl) ?_
        obtain ⟨u11, hu12, hf⟩ := bdE hf
        refine cV_I (ws' := [(a_p0, .inr (9, [.int p0_kind, .int p0_minus, .long p0_m, .int p0_e, .int p0_narrowBelow])), (a_p1, .inr (9, [.int p1_kind, .int p1_minus, .long p1_m, .int p1_e, .int p1_narrowBelow]))]) (rest := [.int (63 : Int32), .long p1_m, .long (lsh p0_m ((63 : Int32) - u9))]) S hK hN hA hP hD hS (c_X8_bits l D cI cJ a_p1  p1_kind p1_minus p1_m p1_e p1_narrowBelow u11 hu12) mwX8_bits miX8_bits kmX8_57 [1] rfl (by decide) rfl rfl rfl 0 rfl rfl ⟨Nat.le_of_ble_eq_true rfl, Nat.le_of_ble_eq_true rfl⟩ ⟨Nat.zero_le _, Nat.zero_le _⟩ hl.1 rfl rfl (Nat.le_of_ble_eq_true rfl) dX8_comparedSizes_101 (fun H locs hP hD hS => ?_)
        refine lv_isub hx hb dX8_comparedSizes_104 ?_
        refine lv_lshl (v := lsh p1_m ((63 : Int32) - u11)) hx hb dX8_comparedSizes_105 rfl ?_
        obtain ⟨u13, hu14, hf⟩ := bdE hf
        refine cS_I (ws' := [(a_p0, .inr (9, [.int p0_kind, .int p0_minus, .long p0_m, .int p0_e, .int p0_narrowBelow])), (a_p1, .inr (9, [.int p1_kind, .int p1_minus, .long p1_m, .int p1_e, .int p1_narrowBelow]))]) (rest := []) S hK hN hA hP hD hS (c_J13_compare_74951 l D cI cJ  (lsh p0_m ((63 : Int32) - u9)) (lsh p1_m ((63 : Int32) - u11))  u13 hu14) mwJ13_compare_74951 msJ13_compare_74951 kmX8_86 [] rfl (by decide) rfl rfl rfl ⟨Nat.le_of_ble_eq_true rfl, Nat.le_of_ble_eq_true rfl⟩ ⟨Nat.zero_le _, Nat.zero_le _⟩ hl.1 rfl rfl (Nat.le_of_ble_eq_true rfl) dX8_comparedSizes_106 (fun H locs hP hD hS => ?_)
        exact hret _ (opE hf) H locs ls 109 dX8_comparedSizes_109 hP hD hS
      · have hf := ifF hc16 hf
        refine lv_iload_n hx hb dX8_comparedSizes_71 rfl (lv_at hl 1 rfl) ?_
        refine lv_iload_n hx hb dX8_comparedSizes_72 rfl (lv_at hl 0 rfl) ?_
        refine lv_icmp_ge (tgt := 80) hx hb dX8_comparedSizes_73 (by decide) (fun hc15 => ?_) (fun hc15 => ?_)
        · have hf := ifT hc15 hf
          refine lv_iconst (v := 1) hx hb dX8_comparedSizes_80 (by decide) ?_
          exact hret _ (opE hf) H locs ls 81 dX8_comparedSizes_81 hP hD hS
        · have hf := ifF hc15 hf
          refine lv_iconst (v := -1) hx hb dX8_comparedSizes_76 (by decide) ?_
          refine lv_goto (tgt := 81) hx hb dX8_comparedSizes_77 (by decide) ?_
          exact hret _ (opE hf) H locs ls 81 dX8_comparedSizes_81 hP hD hS
    · have hf := ifT hc17 hf
      exact keyB16  H locs ls hf hP hD hS (lv_sub hl [0, 1] rfl)
set_option maxRecDepth 100000 in
set_option maxHeartbeats 4000000 in
theorem c_X8_compared (l : Launch) (D : va_G) (cI cJ : ClassId) (a_p0 a_p1 : Nat) (p0_kind : Int32) (p0_minus : Int32) (p0_m : Int64) (p0_e : Int32) (p0_narrowBelow : Int32) (p1_kind : Int32) (p1_minus : Int32) (p1_m : Int64) (p1_e : Int32) (p1_narrowBelow : Int32) (u : Int32) (hf : f_X8_compared p0_kind p0_minus p0_m p0_e p1_kind p1_minus p1_m p1_e = some u) : CtI l yX8_compared cX8_compared 2 4 86 .int [.ref a_p0, .ref a_p1] D cI cJ [(a_p0, .inr (9, [.int p0_kind, .int p0_minus, .long p0_m, .int p0_e, .int p0_narrowBelow])), (a_p1, .inr (9, [.int p1_kind, .int p1_minus, .long p1_m, .int p1_e, .int p1_narrowBelow]))] [(a_p0, .inr (9, [.int p0_kind, .int p0_minus, .long p0_m, .int p0_e, .int p0_narrowBelow])), (a_p1, .inr (9, [.int p1_kind, .int p1_minus, .long p1_m, .int p1_e, .int p1_narrowBelow]))] u := by
  refine mkI (own := RX8) rfl (by decide +kernel) (Nat.le_of_ble_eq_true rfl) (lv := [(0, .ref a_p0), (1, .ref a_p1)]) rfl ?_
  intro p e s m below meth c Q A ls ar S hA hK hN hret H locs hP hD hS hl
  obtain ⟨hx, hb, hml, hown, hts⟩ := id S
  have hret : ∀ (w : Int32), w = u → ∀ (H : Heap) (locs : List Loc) (ls : Array Slot) (pc : Nat), decode cX8_compared pc = .ok (.ireturn, 1) → va_P D vwCl [(a_p0, .inr (9, [.int p0_kind, .int p0_minus, .long p0_m, .int p0_e, .int p0_narrowBelow])), (a_p1, .inr (9, [.int p1_kind, .int p1_minus, .long p1_m, .int p1_e, .int p1_narrowBelow]))] H → va_D A [(a_p0, .inr (9, [.int p0_kind, .int p0_minus, .long p0_m, .int p0_e, .int p0_narrowBelow])), (a_p1, .inr (9, [.int p1_kind, .int p1_minus, .long p1_m, .int p1_e, .int p1_narrowBelow]))] → va_S A s.heap H locs → W p l e (rmz 4 86) s m ar below meth c H locs 0 0 Q (F0 m pc ls [.int w]) := fun w hw => hw ▸ hret
  unfold f_X8_compared at hf
  refine lv_aload_n hx hb dX8_compared_0 rfl (lv_at hl 0 rfl) ?_
  refine va_get (D := D) (ci := 9) (v := .int p0_kind) (C := RX8) (T := TX8) (N := 5) hx hb hts uwX8 hown hK hP 0 rfl rfl 0 (by decide) (hts _ kfX8_41) (fun _ h9 => h9) rfl dX8_compared_1 ?_
  refine lv_iconst (v := 4) hx hb dX8_compared_4 (by decide) ?_
  refine lv_icmp_eq (tgt := 16) hx hb dX8_compared_5 (by decide) (fun hc16 => ?_) (fun hc16 => ?_)
  · have hf := ifT hc16 hf
    refine lv_iconst (v := 2) hx hb dX8_compared_16 (by decide) ?_
    exact hret _ (opE hf) H locs ls 17 dX8_compared_17 hP hD hS
  · have hf := ifF hc16 hf
    refine lv_aload_n hx hb dX8_compared_8 rfl (lv_at hl 1 rfl) ?_
    refine va_get (D := D) (ci := 9) (v := .int p1_kind) (C := RX8) (T := TX8) (N := 5) hx hb hts uwX8 hown hK hP 1 rfl rfl 0 (by decide) (hts _ kfX8_41) (fun _ h9 => h9) rfl dX8_compared_9 ?_
    refine lv_iconst (v := 4) hx hb dX8_compared_12 (by decide) ?_
    refine lv_icmp_ne (tgt := 18) hx hb dX8_compared_13 (by decide) (fun hc15 => ?_) (fun hc15 => ?_)
    · have hf := ifF hc15 hf
      refine lv_aload_n hx hb dX8_compared_18 rfl (lv_at hl 0 rfl) ?_
      obtain ⟨u1, hu2, hf⟩ := bdE hf
      refine cV_I (ws' := [(a_p0, .inr (9, [.int p0_kind, .int p0_minus, .long p0_m, .int p0_e, .int p0_narrowBelow])), (a_p1, .inr (9, [.int p1_kind, .int p1_minus, .long p1_m, .int p1_e, .int p1_narrowBelow]))]) (rest := []) S hK hN hA hP hD hS (c_X8_side l D cI cJ a_p0  p0_kind p0_minus p0_m p0_e p0_narrowBelow u1 hu2) mwX8_side miX8_side kmX8_74 [0] rfl (by decide) rfl rfl rfl 0 rfl rfl ⟨Nat.le_of_ble_eq_true rfl, Nat.le_of_ble_eq_true rfl⟩ ⟨Nat.zero_le _, Nat.zero_le _⟩ hl.1 rfl rfl (Nat.le_of_ble_eq_true rfl) dX8_compared_19 (fun H locs hP hD hS => ?_)
      refine lv_aload_n hx hb dX8_compared_22 rfl (lv_at hl 1 rfl) ?_
      obtain ⟨u3, hu4, hf⟩ := bdE hf
      refine cV_I (ws' := [(a_p0, .inr (9, [.int p0_kind, .int p0_minus, .long p0_m, .int p0_e, .int p0_narrowBelow])), (a_p1, .inr (9, [.int p1_kind, .int p1_minus, .long p1_m, .int p1_e, .int p1_narrowBelow]))]) (rest := [.int u1]) S hK hN hA hP hD hS (c_X8_side l D cI cJ a_p1  p1_kind p1_minus p1_m p1_e p1_narrowBelow u3 hu4) mwX8_side miX8_side kmX8_74 [1] rfl (by decide) rfl rfl rfl 0 rfl rfl ⟨Nat.le_of_ble_eq_true rfl, Nat.le_of_ble_eq_true rfl⟩ ⟨Nat.zero_le _, Nat.zero_le _⟩ hl.1 rfl rfl (Nat.le_of_ble_eq_true rfl) dX8_compared_23 (fun H locs hP hD hS => ?_)
      refine lv_icmp_eq (tgt := 46) hx hb dX8_compared_26 (by decide) (fun hc14 => ?_) (fun hc14 => ?_)
      · have hf := ifT hc14 hf
        refine lv_aload_n hx hb dX8_compared_46 rfl (lv_at hl 0 rfl) ?_
        obtain ⟨u5, hu6, hf⟩ := bdE hf
        refine cV_I (ws' := [(a_p0, .inr (9, [.int p0_kind, .int p0_minus, .long p0_m, .int p0_e, .int p0_narrowBelow])), (a_p1, .inr (9, [.int p1_kind, .int p1_minus, .long p1_m, .int p1_e, .int p1_narrowBelow]))]) (rest := []) S hK hN hA hP hD hS (c_X8_side l D cI cJ a_p0  p0_kind p0_minus p0_m p0_e p0_narrowBelow u5 hu6) mwX8_side miX8_side kmX8_74 [0] rfl (by decide) rfl rfl rfl 0 rfl rfl ⟨Nat.le_of_ble_eq_true rfl, Nat.le_of_ble_eq_true rfl⟩ ⟨Nat.zero_le _, Nat.zero_le _⟩ hl.1 rfl rfl (Nat.le_of_ble_eq_true rfl) dX8_compared_47 (fun H locs hP hD hS => ?_)
        refine lv_aload_n hx hb dX8_compared_50 rfl (lv_at hl 0 rfl) ?_
        refine lv_aload_n hx hb dX8_compared_51 rfl (lv_at hl 1 rfl) ?_
        obtain ⟨u7, hu8, hf⟩ := bdE hf
        refine cS_I (ws' := [(a_p0, .inr (9, [.int p0_kind, .int p0_minus, .long p0_m, .int p0_e, .int p0_narrowBelow])), (a_p1, .inr (9, [.int p1_kind, .int p1_minus, .long p1_m, .int p1_e, .int p1_narrowBelow]))]) (rest := [.int u5]) S hK hN hA hP hD hS (c_X8_comparedSizes l D cI cJ a_p0 a_p1  p0_kind p0_minus p0_m p0_e p0_narrowBelow p1_kind p1_minus p1_m p1_e p1_narrowBelow u7 hu8) mwX8_comparedSizes msX8_comparedSizes kmX8_77 [0, 1] rfl (by decide) rfl rfl rfl ⟨Nat.le_of_ble_eq_true rfl, Nat.le_of_ble_eq_true rfl⟩ ⟨Nat.zero_le _, Nat.zero_le _⟩ hl.1 rfl rfl (Nat.le_of_ble_eq_true rfl) dX8_compared_52 (fun H locs hP hD hS => ?_)
        refine lv_imul hx hb dX8_compared_55 ?_
        exact hret _ (opE hf) H locs ls 56 dX8_compared_56 hP hD hS
      · have hf := ifF hc14 hf
        refine lv_aload_n hx hb dX8_compared_29 rfl (lv_at hl 0 rfl) ?_
        obtain ⟨u9, hu10, hf⟩ := bdE hf
        refine cV_I (ws' := [(a_p0, .inr (9, [.int p0_kind, .int p0_minus, .long p0_m, .int p0_e, .int p0_narrowBelow])), (a_p1, .inr (9, [.int p1_kind, .int p1_minus, .long p1_m, .int p1_e, .int p1_narrowBelow]))]) (rest := []) S hK hN hA hP hD hS (c_X8_side l D cI cJ a_p0  p0_kind p0_minus p0_m p0_e p0_narrowBelow u9 hu10) mwX8_side miX8_side kmX8_74 [0] rfl (by decide) rfl rfl rfl 0 rfl rfl ⟨Nat.le_of_ble_eq_true rfl, Nat.le_of_ble_eq_true rfl⟩ ⟨Nat.zero_le _, Nat.zero_le _⟩ hl.1 rfl rfl (Nat.le_of_ble_eq_true rfl) dX8_compared_30 (fun H locs hP hD hS => ?_)
        refine lv_aload_n hx hb dX8_compared_33 rfl (lv_at hl 1 rfl) ?_
        obtain ⟨u11, hu12, hf⟩ := bdE hf
        refine cV_I (ws' := [(a_p0, .inr (9, [.int p0_kind, .int p0_minus, .long p0_m, .int p0_e, .int p0_narrowBelow])), (a_p1, .inr (9, [.int p1_kind, .int p1_minus, .long p1_m, .int p1_e, .int p1_narrowBelow]))]) (rest := [.int u9]) S hK hN hA hP hD hS (c_X8_side l D cI cJ a_p1  p1_kind p1_minus p1_m p1_e p1_narrowBelow u11 hu12) mwX8_side miX8_side kmX8_74 [1] rfl (by decide) rfl rfl rfl 0 rfl rfl ⟨Nat.le_of_ble_eq_true rfl, Nat.le_of_ble_eq_true rfl⟩ ⟨Nat.zero_le _, Nat.zero_le _⟩ hl.1 rfl rfl (Nat.le_of_ble_eq_true rfl) dX8_compared_34 (fun H locs hP hD hS => ?_)
        refine lv_icmp_ge (tgt := 44) hx hb dX8_compared_37 (by decide) (fun hc13 => ?_) (fun hc13 => ?_)
        · have hf := ifT hc13 hf
          refine lv_iconst (v := 1) hx hb dX8_compared_44 (by decide) ?_
          exact hret _ (opE hf) H locs ls 45 dX8_compared_45 hP hD hS
        · have hf := ifF hc13 hf
          refine lv_iconst (v := -1) hx hb dX8_compared_40 (by decide) ?_
          refine lv_goto (tgt := 45) hx hb dX8_compared_41 (by decide) ?_
          exact hret _ (opE hf) H locs ls 45 dX8_compared_45 hP hD hS
    · have hf := ifT hc15 hf
      refine lv_iconst (v := 2) hx hb dX8_compared_16 (by decide) ?_
      exact hret _ (opE hf) H locs ls 17 dX8_compared_17 hP hD hS
set_option maxRecDepth 100000 in
set_option maxHeartbeats 4000000 in
theorem c_X9_needFormat (l : Launch) (hst : l.stackTraces = false) (D : va_G) (cI cJ : ClassId) (sa sv : Nat → Nat) (p0 : Int32)  (u : (Nat) ⊕ (Unit)) (hf : f_X9_needFormat p0 = some u) : CxV l yX9_needFormat cX9_needFormat 1 6 1 6 90 [.int p0] D cI cJ sa sv [] (fun w => ∃ y : Unit, u = .inr y ∧ w = []) (fun E w => ∃ x : Nat, u = .inl x ∧ E = exn x ∧ w = []) := by
  refine mkXV hst (own := RX9) rfl (by decide) (Nat.le_of_ble_eq_true rfl) (lv := [(0, .int p0)]) rfl ?_
  intro p e s m below meth c Q A ls ar S hA hK hN hE hret hthr hnew H locs hP hD hS hl
  obtain ⟨hx, hb, hml, hown, hts⟩ := id S
  unfold f_X9_needFormat at hf
  refine lv_iload_n hx hb dX9_needFormat_0 rfl (lv_at hl 0 rfl) ?_
  refine lv_if_eq (tgt := 19) hx hb dX9_needFormat_1 (by decide) (fun hc2 => ?_) (fun hc2 => ?_)
  · have hf := ifT hc2 hf
    exact hret _ H locs ls 19 _ _ ⟨_, (opE hf).symm, rfl⟩ (Nat.le_of_ble_eq_true rfl) (Nat.le_of_ble_eq_true rfl) dX9_needFormat_19 hP hD hS
  · have hf := ifF hc2 hf
    refine lv_iload_n hx hb dX9_needFormat_4 rfl (lv_at hl 0 rfl) ?_
    refine lv_iconst (v := 1) hx hb dX9_needFormat_5 (by decide) ?_
    refine lv_icmp_eq (tgt := 19) hx hb dX9_needFormat_6 (by decide) (fun hc1 => ?_) (fun hc1 => ?_)
    · have hf := ifT hc1 hf
      exact hret _ H locs ls 19 _ _ ⟨_, (opE hf).symm, rfl⟩ (Nat.le_of_ble_eq_true rfl) (Nat.le_of_ble_eq_true rfl) dX9_needFormat_19 hP hD hS
    · have hf := ifF hc1 hf
      exact hnew _ _ 89 202 93 1 _ _ _ H locs ls 9 _ _ _ thrW2 sr1 ⟨_, (opE hf).symm, rfl, rfl⟩ hl.1 dX9_needFormat_9 dX9_needFormat_12 dX9_needFormat_13 dX9_needFormat_15 dX9_needFormat_18 (by decide) (Nat.le_of_ble_eq_true rfl) (Nat.le_of_ble_eq_true rfl) (Nat.le_of_ble_eq_true rfl) hP hD hS
set_option maxRecDepth 100000 in
set_option maxHeartbeats 4000000 in
theorem c_X9_needPlace (l : Launch) (hst : l.stackTraces = false) (D : va_G) (cI cJ : ClassId) (sa sv : Nat → Nat) (p0 : Int32)  (u : (Nat) ⊕ (Unit)) (hf : f_X9_needPlace p0 = some u) : CxV l yX9_needPlace cX9_needPlace 1 6 1 6 90 [.int p0] D cI cJ sa sv [] (fun w => ∃ y : Unit, u = .inr y ∧ w = []) (fun E w => ∃ x : Nat, u = .inl x ∧ E = exn x ∧ w = []) := by
  refine mkXV hst (own := RX9) rfl (by decide) (Nat.le_of_ble_eq_true rfl) (lv := [(0, .int p0)]) rfl ?_
  intro p e s m below meth c Q A ls ar S hA hK hN hE hret hthr hnew H locs hP hD hS hl
  obtain ⟨hx, hb, hml, hown, hts⟩ := id S
  have keyB10 : ∀  (H : Heap) (locs : List Loc) (ls : Array Slot), f_X9_needPlace_B10  = some u → va_P D vwCl [] H → va_D A [] → va_S A s.heap H locs → lv_has ls 1 [] → W p l e (rmc 6 1 6 90) s m ar below meth c H locs 0 0 Q (F0 m 10 ls []) := by
    intro  H locs ls hf hP hD hS hl
    unfold f_X9_needPlace_B10 at hf
    exact hnew _ _ 197 199 201 0 _ _ _ H locs ls 10 _ _ _ thrW1 sr0 ⟨_, (opE hf).symm, rfl, rfl⟩ hl.1 dX9_needPlace_10 dX9_needPlace_13 dX9_needPlace_14 dX9_needPlace_16 dX9_needPlace_19 (by decide) (Nat.le_of_ble_eq_true rfl) (Nat.le_of_ble_eq_true rfl) (Nat.le_of_ble_eq_true rfl) hP hD hS
  unfold f_X9_needPlace at hf
  refine lv_iload_n hx hb dX9_needPlace_0 rfl (lv_at hl 0 rfl) ?_
  refine lv_if_lt (tgt := 10) hx hb dX9_needPlace_1 (by decide) (fun hc2 => ?_) (fun hc2 => ?_)
  · have hf := ifT hc2 hf
    refine W.widen (k := 0) (n := 0) (Nat.le_of_ble_eq_true rfl) (Nat.le_of_ble_eq_true rfl) ?_
    exact keyB10  H locs ls hf hP hD hS (lv_sub hl [] rfl)
  · have hf := ifF hc2 hf
    refine lv_iload_n hx hb dX9_needPlace_4 rfl (lv_at hl 0 rfl) ?_
    refine lv_bipush (v := 16) hx hb dX9_needPlace_5 (by decide) ?_
    refine lv_icmp_lt (tgt := 20) hx hb dX9_needPlace_7 (by decide) (fun hc1 => ?_) (fun hc1 => ?_)
    · have hf := ifT hc1 hf
      exact hret _ H locs ls 20 _ _ ⟨_, (opE hf).symm, rfl⟩ (Nat.le_of_ble_eq_true rfl) (Nat.le_of_ble_eq_true rfl) dX9_needPlace_20 hP hD hS
    · have hf := ifF hc1 hf
      refine W.widen (k := 0) (n := 0) (Nat.le_of_ble_eq_true rfl) (Nat.le_of_ble_eq_true rfl) ?_
      exact keyB10  H locs ls hf hP hD hS (lv_sub hl [] rfl)
set_option maxRecDepth 100000 in
set_option maxHeartbeats 4000000 in
theorem c_X9_put (l : Launch) (D : va_G) (cI cJ : ClassId) (a_p0 a_p0_formats a_p0_patterns a_p0_first a_p0_second a_p0_third a_p0_tape a_p0_acts a_p0_forms : Nat) (p1 : Int32) (p2 : Int32) (p3 : Int64) (p0_formats : (Nat → Int32)) (p0_patterns : (Nat → Int64)) (u : (Nat → Int32) × (Nat → Int64)) (hf : f_X9_put p1 p2 p3 p0_formats p0_patterns = some u) : CtV l yX9_put cX9_put 5 0 0 [.ref a_p0, .int p1, .int p2, .long p3] D cI cJ [(a_p0, .inr (10, [.ref a_p0_formats, .ref a_p0_patterns, .ref a_p0_first, .ref a_p0_second, .ref a_p0_third, .ref a_p0_tape, .ref a_p0_acts, .ref a_p0_forms])), (a_p0_formats, .inl (cI, 16, .inl p0_formats)), (a_p0_patterns, .inl (cJ, 16, .inr (.inl p0_patterns)))] [(a_p0, .inr (10, [.ref a_p0_formats, .ref a_p0_patterns, .ref a_p0_first, .ref a_p0_second, .ref a_p0_third, .ref a_p0_tape, .ref a_p0_acts, .ref a_p0_forms])), (a_p0_formats, .inl (cI, 16, .inl u.1)), (a_p0_patterns, .inl (cJ, 16, .inr (.inl u.2)))] := by
  refine mkV (own := RX9) rfl (by decide +kernel) (Nat.le_of_ble_eq_true rfl) (lv := [(0, .ref a_p0), (1, .int p1), (2, .int p2), (3, .long p3)]) rfl ?_
  intro p e s m below meth c Q A ls ar S hA hK hN hret H locs hP hD hS hl
  obtain ⟨hx, hb, hml, hown, hts⟩ := id S
  have hret : ∀ (w : (Nat → Int32) × (Nat → Int64)), w = u → ∀ (H : Heap) (locs : List Loc) (ls : Array Slot) (pc : Nat), decode cX9_put pc = .ok (.return_, 1) → va_P D vwCl [(a_p0, .inr (10, [.ref a_p0_formats, .ref a_p0_patterns, .ref a_p0_first, .ref a_p0_second, .ref a_p0_third, .ref a_p0_tape, .ref a_p0_acts, .ref a_p0_forms])), (a_p0_formats, .inl (cI, 16, .inl w.1)), (a_p0_patterns, .inl (cJ, 16, .inr (.inl w.2)))] H → va_D A [(a_p0, .inr (10, [.ref a_p0_formats, .ref a_p0_patterns, .ref a_p0_first, .ref a_p0_second, .ref a_p0_third, .ref a_p0_tape, .ref a_p0_acts, .ref a_p0_forms])), (a_p0_formats, .inl (cI, 16, .inl w.1)), (a_p0_patterns, .inl (cJ, 16, .inr (.inl w.2)))] → va_S A s.heap H locs → W p l e (rmz 0 0) s m ar below meth c H locs 0 0 Q (F0 m pc ls []) := fun w hw => hw ▸ hret
  unfold f_X9_put at hf
  refine lv_aload_n hx hb dX9_put_0 rfl (lv_at hl 0 rfl) ?_
  refine va_get (D := D) (ci := 10) (v := .ref a_p0_formats) (C := RX9) (T := TX9) (N := 8) hx hb hts uwX9 hown hK hP 0 rfl rfl 0 (by decide) (hts _ kfX9_9) (fun _ h9 => h9) rfl dX9_put_1 ?_
  refine lv_iload_n hx hb dX9_put_4 rfl (lv_at hl 1 rfl) ?_
  refine lv_iload_n hx hb dX9_put_5 rfl (lv_at hl 2 rfl) ?_
  obtain ⟨hi1, hf⟩ := gdE hf
  refine va_iast hx hb hK hP hD hS 1 0 rfl rfl hi1 dX9_put_6 (fun H locs hP hD hS => ?_)
  have hP : va_P D vwCl [(a_p0, .inr (10, [.ref a_p0_formats, .ref a_p0_patterns, .ref a_p0_first, .ref a_p0_second, .ref a_p0_third, .ref a_p0_tape, .ref a_p0_acts, .ref a_p0_forms])), (a_p0_formats, .inl (cI, 16, .inl (upd p0_formats p1.toNatClampNeg p2))), (a_p0_patterns, .inl (cJ, 16, .inr (.inl p0_patterns)))] H := hP
  have hD : va_D A [(a_p0, .inr (10, [.ref a_p0_formats, .ref a_p0_patterns, .ref a_p0_first, .ref a_p0_second, .ref a_p0_third, .ref a_p0_tape, .ref a_p0_acts, .ref a_p0_forms])), (a_p0_formats, .inl (cI, 16, .inl (upd p0_formats p1.toNatClampNeg p2))), (a_p0_patterns, .inl (cJ, 16, .inr (.inl p0_patterns)))] := hD
  refine lv_aload_n hx hb dX9_put_7 rfl (lv_at hl 0 rfl) ?_
  refine va_get (D := D) (ci := 10) (v := .ref a_p0_patterns) (C := RX9) (T := TX9) (N := 8) hx hb hts uwX9 hown hK hP 0 rfl rfl 1 (by decide) (hts _ kfX9_13) (fun _ h9 => h9) rfl dX9_put_8 ?_
  refine lv_iload_n hx hb dX9_put_11 rfl (lv_at hl 1 rfl) ?_
  refine lv_lload_n hx hb dX9_put_12 rfl (lv_at hl 3 rfl) ?_
  refine va_last hx hb hK hP hD hS 2 1 rfl rfl hi1 dX9_put_13 (fun H locs hP hD hS => ?_)
  have hP : va_P D vwCl [(a_p0, .inr (10, [.ref a_p0_formats, .ref a_p0_patterns, .ref a_p0_first, .ref a_p0_second, .ref a_p0_third, .ref a_p0_tape, .ref a_p0_acts, .ref a_p0_forms])), (a_p0_formats, .inl (cI, 16, .inl (upd p0_formats p1.toNatClampNeg p2))), (a_p0_patterns, .inl (cJ, 16, .inr (.inl (vp_updL p0_patterns p1.toNatClampNeg p3))))] H := hP
  have hD : va_D A [(a_p0, .inr (10, [.ref a_p0_formats, .ref a_p0_patterns, .ref a_p0_first, .ref a_p0_second, .ref a_p0_third, .ref a_p0_tape, .ref a_p0_acts, .ref a_p0_forms])), (a_p0_formats, .inl (cI, 16, .inl (upd p0_formats p1.toNatClampNeg p2))), (a_p0_patterns, .inl (cJ, 16, .inr (.inl (vp_updL p0_patterns p1.toNatClampNeg p3))))] := hD
  exact hret _ (opE hf) H locs ls 14 dX9_put_14 hP hD hS
set_option maxRecDepth 100000 in
set_option maxHeartbeats 4000000 in
theorem c_X9_set (l : Launch) (hst : l.stackTraces = false) (D : va_G) (cI cJ : ClassId) (sa sv : Nat → Nat) (a_p0 a_p0_formats a_p0_patterns a_p0_first a_p0_second a_p0_third a_p0_tape a_p0_acts a_p0_forms : Nat) (p1 : Int32) (p2 : Int32) (p3 : Int64) (p0_formats : (Nat → Int32)) (p0_patterns : (Nat → Int64)) (u : (Nat × (Nat → Int32) × (Nat → Int64)) ⊕ ((Nat → Int32) × (Nat → Int64))) (hf : f_X9_set p1 p2 p3 p0_formats p0_patterns = some u) : CxV l yX9_set cX9_set 5 7 2 12 110 [.ref a_p0, .int p1, .int p2, .long p3] D cI cJ sa sv [(a_p0, .inr (10, [.ref a_p0_formats, .ref a_p0_patterns, .ref a_p0_first, .ref a_p0_second, .ref a_p0_third, .ref a_p0_tape, .ref a_p0_acts, .ref a_p0_forms])), (a_p0_formats, .inl (cI, 16, .inl p0_formats)), (a_p0_patterns, .inl (cJ, 16, .inr (.inl p0_patterns)))] (fun w => ∃ y : (Nat → Int32) × (Nat → Int64), u = .inr y ∧ w = [(a_p0, .inr (10, [.ref a_p0_formats, .ref a_p0_patterns, .ref a_p0_first, .ref a_p0_second, .ref a_p0_third, .ref a_p0_tape, .ref a_p0_acts, .ref a_p0_forms])), (a_p0_formats, .inl (cI, 16, .inl y.1)), (a_p0_patterns, .inl (cJ, 16, .inr (.inl y.2)))]) (fun E w => ∃ x : Nat × (Nat → Int32) × (Nat → Int64), u = .inl x ∧ E = exn x.1 ∧ w = [(a_p0, .inr (10, [.ref a_p0_formats, .ref a_p0_patterns, .ref a_p0_first, .ref a_p0_second, .ref a_p0_third, .ref a_p0_tape, .ref a_p0_acts, .ref a_p0_forms])), (a_p0_formats, .inl (cI, 16, .inl x.2.1)), (a_p0_patterns, .inl (cJ, 16, .inr (.inl x.2.2)))]) := by
  refine mkXV hst (own := RX9) rfl (by decide) (Nat.le_of_ble_eq_true rfl) (lv := [(0, .ref a_p0), (1, .int p1), (2, .int p2), (3, .long p3)]) rfl ?_
  intro p e s m below meth c Q A ls ar S hA hK hN hE hret hthr hnew H locs hP hD hS hl
  obtain ⟨hx, hb, hml, hown, hts⟩ := id S
  have keyB24 : ∀ (s1 : Int32) (s2 : Int32) (s3 : Int64) (p0_formats : (Nat → Int32)) (p0_patterns : (Nat → Int64)) (H : Heap) (locs : List Loc) (ls : Array Slot), f_X9_set_B24 s1 s2 s3 p0_formats p0_patterns = some u → va_P D vwCl [(a_p0, .inr (10, [.ref a_p0_formats, .ref a_p0_patterns, .ref a_p0_first, .ref a_p0_second, .ref a_p0_third, .ref a_p0_tape, .ref a_p0_acts, .ref a_p0_forms])), (a_p0_formats, .inl (cI, 16, .inl p0_formats)), (a_p0_patterns, .inl (cJ, 16, .inr (.inl p0_patterns)))] H → va_D A [(a_p0, .inr (10, [.ref a_p0_formats, .ref a_p0_patterns, .ref a_p0_first, .ref a_p0_second, .ref a_p0_third, .ref a_p0_tape, .ref a_p0_acts, .ref a_p0_forms])), (a_p0_formats, .inl (cI, 16, .inl p0_formats)), (a_p0_patterns, .inl (cJ, 16, .inr (.inl p0_patterns)))] → va_S A s.heap H locs → lv_has ls 5 [] → W p l e (rmc 7 2 12 110) s m ar below meth c H locs 2 12 Q (F0 m 24 ls [.long s3, .int s2, .int s1, .ref a_p0]) := by
    intro s1 s2 s3 p0_formats p0_patterns H locs ls hf hP hD hS hl
    unfold f_X9_set_B24 at hf
    obtain ⟨u9, hu10, hf⟩ := bdE hf
    refine cV_V (ws' := [(a_p0, .inr (10, [.ref a_p0_formats, .ref a_p0_patterns, .ref a_p0_first, .ref a_p0_second, .ref a_p0_third, .ref a_p0_tape, .ref a_p0_acts, .ref a_p0_forms])), (a_p0_formats, .inl (cI, 16, .inl u9.1)), (a_p0_patterns, .inl (cJ, 16, .inr (.inl u9.2)))]) (rest := []) S hK hN hA hP hD hS (c_X9_put l D cI cJ a_p0 a_p0_formats a_p0_patterns a_p0_first a_p0_second a_p0_third a_p0_tape a_p0_acts a_p0_forms s1 s2 s3 p0_formats p0_patterns u9 hu10) mwX9_put miX9_put kmX9_70 [0, 1, 2] rfl (by decide) rfl rfl rfl 0 rfl rfl ⟨Nat.le_of_ble_eq_true rfl, Nat.le_of_ble_eq_true rfl⟩ ⟨Nat.le_of_ble_eq_true rfl, Nat.le_of_ble_eq_true rfl⟩ hl.1 rfl rfl (Nat.le_of_ble_eq_true rfl) dX9_set_24 (fun H locs hP hD hS => ?_)
    exact hret _ H locs ls 27 _ _ ⟨_, (opE hf).symm, rfl⟩ (Nat.le_of_ble_eq_true rfl) (Nat.le_of_ble_eq_true rfl) dX9_set_27 hP hD hS
  unfold f_X9_set at hf
  refine lv_iload_n hx hb dX9_set_0 rfl (lv_at hl 1 rfl) ?_
  obtain ⟨u1, hu2, hf⟩ := bdE hf
  refine xS_V (rest := []) S hK hN hE hA hP hD hS (c_X9_needPlace l hst D cI cJ sa sv  p1  u1 hu2) mwX9_needPlace msX9_needPlace kmX9_61 [] rfl (by decide) ⟨Nat.le_of_ble_eq_true rfl, Nat.le_of_ble_eq_true rfl⟩ ⟨Nat.le_of_ble_eq_true rfl, Nat.le_of_ble_eq_true rfl⟩ hl.1 rfl rfl (Nat.le_of_ble_eq_true rfl) dX9_set_1 (fun E w H locs q ce hX hB hS hq hv hcl => ?_) (fun w H locs hR hB hS => ?_)
  · obtain ⟨x3, hx9, rfl, rfl⟩ := hX
    have hf := smL hx9 hf
    exact hthr _ _ H locs ls 1 _ _ _ q ce ⟨_, (opE hf).symm, rfl, rfl⟩ (Nat.le_of_ble_eq_true rfl) (Nat.le_of_ble_eq_true rfl) hq hv hcl (hB _ rfl rfl) (hD.adr rfl) hS
  · obtain ⟨y4, hy9, rfl⟩ := hR
    have hf := smR hy9 hf
    have hP : va_P D vwCl [(a_p0, .inr (10, [.ref a_p0_formats, .ref a_p0_patterns, .ref a_p0_first, .ref a_p0_second, .ref a_p0_third, .ref a_p0_tape, .ref a_p0_acts, .ref a_p0_forms])), (a_p0_formats, .inl (cI, 16, .inl p0_formats)), (a_p0_patterns, .inl (cJ, 16, .inr (.inl p0_patterns)))] H := hB _ rfl rfl
    have hD : va_D A [(a_p0, .inr (10, [.ref a_p0_formats, .ref a_p0_patterns, .ref a_p0_first, .ref a_p0_second, .ref a_p0_third, .ref a_p0_tape, .ref a_p0_acts, .ref a_p0_forms])), (a_p0_formats, .inl (cI, 16, .inl p0_formats)), (a_p0_patterns, .inl (cJ, 16, .inr (.inl p0_patterns)))] := hD.adr rfl
    refine lv_iload_n hx hb dX9_set_4 rfl (lv_at hl 2 rfl) ?_
    obtain ⟨u5, hu6, hf⟩ := bdE hf
    refine xS_V (rest := []) S hK hN hE hA hP hD hS (c_X9_needFormat l hst D cI cJ sa sv  p2  u5 hu6) mwX9_needFormat msX9_needFormat kmX9_65 [] rfl (by decide) ⟨Nat.le_of_ble_eq_true rfl, Nat.le_of_ble_eq_true rfl⟩ ⟨Nat.le_of_ble_eq_true rfl, Nat.le_of_ble_eq_true rfl⟩ hl.1 rfl rfl (Nat.le_of_ble_eq_true rfl) dX9_set_5 (fun E w H locs q ce hX hB hS hq hv hcl => ?_) (fun w H locs hR hB hS => ?_)
    · obtain ⟨x7, hx9, rfl, rfl⟩ := hX
      have hf := smL hx9 hf
      exact hthr _ _ H locs ls 5 _ _ _ q ce ⟨_, (opE hf).symm, rfl, rfl⟩ (Nat.le_of_ble_eq_true rfl) (Nat.le_of_ble_eq_true rfl) hq hv hcl (hB _ rfl rfl) (hD.adr rfl) hS
    · obtain ⟨y8, hy9, rfl⟩ := hR
      have hf := smR hy9 hf
      have hP : va_P D vwCl [(a_p0, .inr (10, [.ref a_p0_formats, .ref a_p0_patterns, .ref a_p0_first, .ref a_p0_second, .ref a_p0_third, .ref a_p0_tape, .ref a_p0_acts, .ref a_p0_forms])), (a_p0_formats, .inl (cI, 16, .inl p0_formats)), (a_p0_patterns, .inl (cJ, 16, .inr (.inl p0_patterns)))] H := hB _ rfl rfl
      have hD : va_D A [(a_p0, .inr (10, [.ref a_p0_formats, .ref a_p0_patterns, .ref a_p0_first, .ref a_p0_second, .ref a_p0_third, .ref a_p0_tape, .ref a_p0_acts, .ref a_p0_forms])), (a_p0_formats, .inl (cI, 16, .inl p0_formats)), (a_p0_patterns, .inl (cJ, 16, .inr (.inl p0_patterns)))] := hD.adr rfl
      refine lv_aload_n hx hb dX9_set_8 rfl (lv_at hl 0 rfl) ?_
      refine lv_iload_n hx hb dX9_set_9 rfl (lv_at hl 1 rfl) ?_
      refine lv_iload_n hx hb dX9_set_10 rfl (lv_at hl 2 rfl) ?_
      refine lv_iload_n hx hb dX9_set_11 rfl (lv_at hl 2 rfl) ?_
      refine lv_if_ne (tgt := 23) hx hb dX9_set_12 (by decide) (fun hc11 => ?_) (fun hc11 => ?_)
      · have hf := ifF hc11 hf
        refine lv_lload_n hx hb dX9_set_23 rfl (lv_at hl 3 rfl) ?_
        refine W.widen (k := 2) (n := 12) (Nat.le_of_ble_eq_true rfl) (Nat.le_of_ble_eq_true rfl) ?_
        exact keyB24 p1 p2 p3 p0_formats p0_patterns H locs ls hf hP hD hS (lv_sub hl [] rfl)
      · have hf := ifT hc11 hf
        refine lv_lload_n hx hb dX9_set_15 rfl (lv_at hl 3 rfl) ?_
        refine lv_ldc2 hx hb hown (hts _ kcX9_68) dX9_set_16 ?_
        refine lv_land hx hb dX9_set_19 ?_
        refine lv_goto (tgt := 24) hx hb dX9_set_20 (by decide) ?_
        refine W.widen (k := 2) (n := 12) (Nat.le_of_ble_eq_true rfl) (Nat.le_of_ble_eq_true rfl) ?_
        exact keyB24 p1 p2 (p3 &&& (4294967295 : Int64)) p0_formats p0_patterns H locs ls hf hP hD hS (lv_sub hl [] rfl)
set_option maxRecDepth 100000 in
set_option maxHeartbeats 4000000 in
theorem c_X9_pattern (l : Launch) (hst : l.stackTraces = false) (D : va_G) (cI cJ : ClassId) (sa sv : Nat → Nat) (a_p0 a_p0_formats a_p0_patterns a_p0_first a_p0_second a_p0_third a_p0_tape a_p0_acts a_p0_forms : Nat) (p1 : Int32) (p0_patterns : (Nat → Int64)) (u : (Nat) ⊕ (Int64)) (hf : f_X9_pattern p0_patterns p1 = some u) : CxL l yX9_pattern cX9_pattern 2 7 1 6 110 [.ref a_p0, .int p1] D cI cJ sa sv [(a_p0, .inr (10, [.ref a_p0_formats, .ref a_p0_patterns, .ref a_p0_first, .ref a_p0_second, .ref a_p0_third, .ref a_p0_tape, .ref a_p0_acts, .ref a_p0_forms])), (a_p0_patterns, .inl (cJ, 16, .inr (.inl p0_patterns)))] (fun r w => ∃ y : Int64, u = .inr y ∧ r = y ∧ w = [(a_p0, .inr (10, [.ref a_p0_formats, .ref a_p0_patterns, .ref a_p0_first, .ref a_p0_second, .ref a_p0_third, .ref a_p0_tape, .ref a_p0_acts, .ref a_p0_forms])), (a_p0_patterns, .inl (cJ, 16, .inr (.inl p0_patterns)))]) (fun E w => ∃ x : Nat, u = .inl x ∧ E = exn x ∧ w = [(a_p0, .inr (10, [.ref a_p0_formats, .ref a_p0_patterns, .ref a_p0_first, .ref a_p0_second, .ref a_p0_third, .ref a_p0_tape, .ref a_p0_acts, .ref a_p0_forms])), (a_p0_patterns, .inl (cJ, 16, .inr (.inl p0_patterns)))]) := by
  refine mkXL hst (own := RX9) rfl (by decide) (Nat.le_of_ble_eq_true rfl) (lv := [(0, .ref a_p0), (1, .int p1)]) rfl ?_
  intro p e s m below meth c Q A ls ar S hA hK hN hE hret hthr hnew H locs hP hD hS hl
  obtain ⟨hx, hb, hml, hown, hts⟩ := id S
  unfold f_X9_pattern at hf
  refine lv_iload_n hx hb dX9_pattern_0 rfl (lv_at hl 1 rfl) ?_
  obtain ⟨u1, hu2, hf⟩ := bdE hf
  refine xS_V (rest := []) S hK hN hE hA hP hD hS (c_X9_needPlace l hst D cI cJ sa sv  p1  u1 hu2) mwX9_needPlace msX9_needPlace kmX9_61 [] rfl (by decide) ⟨Nat.le_of_ble_eq_true rfl, Nat.le_of_ble_eq_true rfl⟩ ⟨Nat.le_of_ble_eq_true rfl, Nat.le_of_ble_eq_true rfl⟩ hl.1 rfl rfl (Nat.le_of_ble_eq_true rfl) dX9_pattern_1 (fun E w H locs q ce hX hB hS hq hv hcl => ?_) (fun w H locs hR hB hS => ?_)
  · obtain ⟨x3, hx9, rfl, rfl⟩ := hX
    have hf := smL hx9 hf
    exact hthr _ _ H locs ls 1 _ _ _ q ce ⟨_, (opE hf).symm, rfl, rfl⟩ (Nat.le_of_ble_eq_true rfl) (Nat.le_of_ble_eq_true rfl) hq hv hcl (hB _ rfl rfl) (hD.adr rfl) hS
  · obtain ⟨y4, hy9, rfl⟩ := hR
    have hf := smR hy9 hf
    have hP : va_P D vwCl [(a_p0, .inr (10, [.ref a_p0_formats, .ref a_p0_patterns, .ref a_p0_first, .ref a_p0_second, .ref a_p0_third, .ref a_p0_tape, .ref a_p0_acts, .ref a_p0_forms])), (a_p0_patterns, .inl (cJ, 16, .inr (.inl p0_patterns)))] H := hB _ rfl rfl
    have hD : va_D A [(a_p0, .inr (10, [.ref a_p0_formats, .ref a_p0_patterns, .ref a_p0_first, .ref a_p0_second, .ref a_p0_third, .ref a_p0_tape, .ref a_p0_acts, .ref a_p0_forms])), (a_p0_patterns, .inl (cJ, 16, .inr (.inl p0_patterns)))] := hD.adr rfl
    refine lv_aload_n hx hb dX9_pattern_4 rfl (lv_at hl 0 rfl) ?_
    refine va_get (D := D) (ci := 10) (v := .ref a_p0_patterns) (C := RX9) (T := TX9) (N := 8) hx hb hts uwX9 hown hK hP 0 rfl rfl 1 (by decide) (hts _ kfX9_13) (fun _ h9 => h9) rfl dX9_pattern_5 ?_
    refine lv_iload_n hx hb dX9_pattern_8 rfl (lv_at hl 1 rfl) ?_
    obtain ⟨hi5, hf⟩ := gdE hf
    refine va_lald hx hb hK hP 1 1 rfl rfl hi5 dX9_pattern_9 ?_
    exact hret _ _ H locs ls 10 _ _ ⟨_, (opE hf).symm, rfl, rfl⟩ (Nat.le_of_ble_eq_true rfl) (Nat.le_of_ble_eq_true rfl) dX9_pattern_10 hP hD hS
set_option maxRecDepth 100000 in
set_option maxHeartbeats 4000000 in
theorem c_X9_look (l : Launch) (D : va_G) (cI cJ : ClassId) (a_p0 a_p0_formats a_p0_patterns a_p0_first a_p0_second a_p0_third a_p0_tape a_p0_acts a_p0_forms a_p2 : Nat) (p1 : Int32) (p0_formats : (Nat → Int32)) (p0_patterns : (Nat → Int64)) (p2_kind : Int32) (p2_minus : Int32) (p2_m : Int64) (p2_e : Int32) (p2_narrowBelow : Int32) (u : Int32 × Int32 × Int64 × Int32 × Int32) (hf : f_X9_look p0_formats p0_patterns p1 p2_kind p2_minus p2_m p2_e p2_narrowBelow = some u) : CtV l yX9_look cX9_look 3 2 49 [.ref a_p0, .int p1, .ref a_p2] D cI cJ [(a_p0, .inr (10, [.ref a_p0_formats, .ref a_p0_patterns, .ref a_p0_first, .ref a_p0_second, .ref a_p0_third, .ref a_p0_tape, .ref a_p0_acts, .ref a_p0_forms])), (a_p0_formats, .inl (cI, 16, .inl p0_formats)), (a_p0_patterns, .inl (cJ, 16, .inr (.inl p0_patterns))), (a_p2, .inr (9, [.int p2_kind, .int p2_minus, .long p2_m, .int p2_e, .int p2_narrowBelow]))] [(a_p0, .inr (10, [.ref a_p0_formats, .ref a_p0_patterns, .ref a_p0_first, .ref a_p0_second, .ref a_p0_third, .ref a_p0_tape, .ref a_p0_acts, .ref a_p0_forms])), (a_p0_formats, .inl (cI, 16, .inl p0_formats)), (a_p0_patterns, .inl (cJ, 16, .inr (.inl p0_patterns))), (a_p2, .inr (9, [.int u.1, .int u.2.1, .long u.2.2.1, .int u.2.2.2.1, .int u.2.2.2.2]))] := by
  refine mkV (own := RX9) rfl (by decide +kernel) (Nat.le_of_ble_eq_true rfl) (lv := [(0, .ref a_p0), (1, .int p1), (2, .ref a_p2)]) rfl ?_
  intro p e s m below meth c Q A ls ar S hA hK hN hret H locs hP hD hS hl
  obtain ⟨hx, hb, hml, hown, hts⟩ := id S
  have hret : ∀ (w : Int32 × Int32 × Int64 × Int32 × Int32), w = u → ∀ (H : Heap) (locs : List Loc) (ls : Array Slot) (pc : Nat), decode cX9_look pc = .ok (.return_, 1) → va_P D vwCl [(a_p0, .inr (10, [.ref a_p0_formats, .ref a_p0_patterns, .ref a_p0_first, .ref a_p0_second, .ref a_p0_third, .ref a_p0_tape, .ref a_p0_acts, .ref a_p0_forms])), (a_p0_formats, .inl (cI, 16, .inl p0_formats)), (a_p0_patterns, .inl (cJ, 16, .inr (.inl p0_patterns))), (a_p2, .inr (9, [.int w.1, .int w.2.1, .long w.2.2.1, .int w.2.2.2.1, .int w.2.2.2.2]))] H → va_D A [(a_p0, .inr (10, [.ref a_p0_formats, .ref a_p0_patterns, .ref a_p0_first, .ref a_p0_second, .ref a_p0_third, .ref a_p0_tape, .ref a_p0_acts, .ref a_p0_forms])), (a_p0_formats, .inl (cI, 16, .inl p0_formats)), (a_p0_patterns, .inl (cJ, 16, .inr (.inl p0_patterns))), (a_p2, .inr (9, [.int w.1, .int w.2.1, .long w.2.2.1, .int w.2.2.2.1, .int w.2.2.2.2]))] → va_S A s.heap H locs → W p l e (rmz 2 49) s m ar below meth c H locs 0 0 Q (F0 m pc ls []) := fun w hw => hw ▸ hret
  unfold f_X9_look at hf
  refine lv_aload_n hx hb dX9_look_0 rfl (lv_at hl 2 rfl) ?_
  refine lv_aload_n hx hb dX9_look_1 rfl (lv_at hl 0 rfl) ?_
  refine va_get (D := D) (ci := 10) (v := .ref a_p0_formats) (C := RX9) (T := TX9) (N := 8) hx hb hts uwX9 hown hK hP 0 rfl rfl 0 (by decide) (hts _ kfX9_9) (fun _ h9 => h9) rfl dX9_look_2 ?_
  refine lv_iload_n hx hb dX9_look_5 rfl (lv_at hl 1 rfl) ?_
  obtain ⟨hi1, hf⟩ := gdE hf
  refine va_iald hx hb hK hP 1 0 rfl rfl hi1 dX9_look_6 ?_
  refine lv_aload_n hx hb dX9_look_7 rfl (lv_at hl 0 rfl) ?_
  refine va_get (D := D) (ci := 10) (v := .ref a_p0_patterns) (C := RX9) (T := TX9) (N := 8) hx hb hts uwX9 hown hK hP 0 rfl rfl 1 (by decide) (hts _ kfX9_13) (fun _ h9 => h9) rfl dX9_look_8 ?_
  refine lv_iload_n hx hb dX9_look_11 rfl (lv_at hl 1 rfl) ?_
  refine va_lald hx hb hK hP 2 1 rfl rfl hi1 dX9_look_12 ?_
  obtain ⟨u2, hu3, hf⟩ := bdE hf
  refine cV_V (ws' := [(a_p0, .inr (10, [.ref a_p0_formats, .ref a_p0_patterns, .ref a_p0_first, .ref a_p0_second, .ref a_p0_third, .ref a_p0_tape, .ref a_p0_acts, .ref a_p0_forms])), (a_p0_formats, .inl (cI, 16, .inl p0_formats)), (a_p0_patterns, .inl (cJ, 16, .inr (.inl p0_patterns))), (a_p2, .inr (9, [.int u2.1, .int u2.2.1, .long u2.2.2.1, .int u2.2.2.2.1, .int u2.2.2.2.2]))]) (rest := []) S hK hN hA hP hD hS (c_X8_unpack l D cI cJ a_p2 (p0_formats p1.toNatClampNeg) (p0_patterns p1.toNatClampNeg) p2_kind p2_minus p2_m p2_e p2_narrowBelow u2 hu3) mwX8_unpack miX8_unpack kmX9_210 [3] rfl (by decide) rfl rfl rfl 0 rfl rfl ⟨Nat.le_of_ble_eq_true rfl, Nat.le_of_ble_eq_true rfl⟩ ⟨Nat.zero_le _, Nat.zero_le _⟩ hl.1 rfl rfl (Nat.le_of_ble_eq_true rfl) dX9_look_13 (fun H locs hP hD hS => ?_)
  exact hret _ (opE hf) H locs ls 16 dX9_look_16 hP hD hS
set_option maxRecDepth 100000 in
set_option maxHeartbeats 4000000 in
theorem c_X9_told (l : Launch) (hst : l.stackTraces = false) (D : va_G) (cI cJ : ClassId) (sa sv : Nat → Nat) (a_p0 a_p0_formats a_p0_patterns a_p0_first a_p0_second a_p0_third a_p0_tape a_p0_acts a_p0_forms : Nat) (p1 : Int32) (p2 : Int32) (p0_formats : (Nat → Int32)) (p0_patterns : (Nat → Int64)) (p0_first_kind : Int32) (p0_first_minus : Int32) (p0_first_m : Int64) (p0_first_e : Int32) (p0_first_narrowBelow : Int32) (u : (Nat × Int32 × Int32 × Int64 × Int32 × Int32) ⊕ (Int32 × Int32 × Int32 × Int64 × Int32 × Int32)) (hf : f_X9_told p0_formats p0_patterns p1 p2 p0_first_kind p0_first_minus p0_first_m p0_first_e p0_first_narrowBelow = some u) : CxI l yX9_told cX9_told 3 7 2 12 110 .int [.ref a_p0, .int p1, .int p2] D cI cJ sa sv [(a_p0, .inr (10, [.ref a_p0_formats, .ref a_p0_patterns, .ref a_p0_first, .ref a_p0_second, .ref a_p0_third, .ref a_p0_tape, .ref a_p0_acts, .ref a_p0_forms])), (a_p0_formats, .inl (cI, 16, .inl p0_formats)), (a_p0_patterns, .inl (cJ, 16, .inr (.inl p0_patterns))), (a_p0_first, .inr (9, [.int p0_first_kind, .int p0_first_minus, .long p0_first_m, .int p0_first_e, .int p0_first_narrowBelow]))] (fun r w => ∃ y : Int32 × Int32 × Int32 × Int64 × Int32 × Int32, u = .inr y ∧ r = y.1 ∧ w = [(a_p0, .inr (10, [.ref a_p0_formats, .ref a_p0_patterns, .ref a_p0_first, .ref a_p0_second, .ref a_p0_third, .ref a_p0_tape, .ref a_p0_acts, .ref a_p0_forms])), (a_p0_formats, .inl (cI, 16, .inl p0_formats)), (a_p0_patterns, .inl (cJ, 16, .inr (.inl p0_patterns))), (a_p0_first, .inr (9, [.int y.2.1, .int y.2.2.1, .long y.2.2.2.1, .int y.2.2.2.2.1, .int y.2.2.2.2.2]))]) (fun E w => ∃ x : Nat × Int32 × Int32 × Int64 × Int32 × Int32, u = .inl x ∧ E = exn x.1 ∧ w = [(a_p0, .inr (10, [.ref a_p0_formats, .ref a_p0_patterns, .ref a_p0_first, .ref a_p0_second, .ref a_p0_third, .ref a_p0_tape, .ref a_p0_acts, .ref a_p0_forms])), (a_p0_formats, .inl (cI, 16, .inl p0_formats)), (a_p0_patterns, .inl (cJ, 16, .inr (.inl p0_patterns))), (a_p0_first, .inr (9, [.int x.2.1, .int x.2.2.1, .long x.2.2.2.1, .int x.2.2.2.2.1, .int x.2.2.2.2.2]))]) := by
  refine mkXI hst (own := RX9) rfl (by decide) (Nat.le_of_ble_eq_true rfl) (lv := [(0, .ref a_p0), (1, .int p1), (2, .int p2)]) rfl ?_
  intro p e s m below meth c Q A ls ar S hA hK hN hE hret hthr hnew H locs hP hD hS hl
  obtain ⟨hx, hb, hml, hown, hts⟩ := id S
  unfold f_X9_told at hf
  refine lv_iload_n hx hb dX9_told_0 rfl (lv_at hl 1 rfl) ?_
  obtain ⟨u1, hu2, hf⟩ := bdE hf
  refine xS_V (rest := []) S hK hN hE hA hP hD hS (c_X9_needPlace l hst D cI cJ sa sv  p1  u1 hu2) mwX9_needPlace msX9_needPlace kmX9_61 [] rfl (by decide) ⟨Nat.le_of_ble_eq_true rfl, Nat.le_of_ble_eq_true rfl⟩ ⟨Nat.le_of_ble_eq_true rfl, Nat.le_of_ble_eq_true rfl⟩ hl.1 rfl rfl (Nat.le_of_ble_eq_true rfl) dX9_told_1 (fun E w H locs q ce hX hB hS hq hv hcl => ?_) (fun w H locs hR hB hS => ?_)
  · obtain ⟨x3, hx9, rfl, rfl⟩ := hX
    have hf := smL hx9 hf
    exact hthr _ _ H locs ls 1 _ _ _ q ce ⟨_, (opE hf).symm, rfl, rfl⟩ (Nat.le_of_ble_eq_true rfl) (Nat.le_of_ble_eq_true rfl) hq hv hcl (hB _ rfl rfl) (hD.adr rfl) hS
  · obtain ⟨y4, hy9, rfl⟩ := hR
    have hf := smR hy9 hf
    have hP : va_P D vwCl [(a_p0, .inr (10, [.ref a_p0_formats, .ref a_p0_patterns, .ref a_p0_first, .ref a_p0_second, .ref a_p0_third, .ref a_p0_tape, .ref a_p0_acts, .ref a_p0_forms])), (a_p0_formats, .inl (cI, 16, .inl p0_formats)), (a_p0_patterns, .inl (cJ, 16, .inr (.inl p0_patterns))), (a_p0_first, .inr (9, [.int p0_first_kind, .int p0_first_minus, .long p0_first_m, .int p0_first_e, .int p0_first_narrowBelow]))] H := hB _ rfl rfl
    have hD : va_D A [(a_p0, .inr (10, [.ref a_p0_formats, .ref a_p0_patterns, .ref a_p0_first, .ref a_p0_second, .ref a_p0_third, .ref a_p0_tape, .ref a_p0_acts, .ref a_p0_forms])), (a_p0_formats, .inl (cI, 16, .inl p0_formats)), (a_p0_patterns, .inl (cJ, 16, .inr (.inl p0_patterns))), (a_p0_first, .inr (9, [.int p0_first_kind, .int p0_first_minus, .long p0_first_m, .int p0_first_e, .int p0_first_narrowBelow]))] := hD.adr rfl
    refine lv_aload_n hx hb dX9_told_4 rfl (lv_at hl 0 rfl) ?_
    refine lv_iload_n hx hb dX9_told_5 rfl (lv_at hl 1 rfl) ?_
    refine lv_aload_n hx hb dX9_told_6 rfl (lv_at hl 0 rfl) ?_
    refine va_get (D := D) (ci := 10) (v := .ref a_p0_first) (C := RX9) (T := TX9) (N := 8) hx hb hts uwX9 hown hK hP 0 rfl rfl 2 (by decide) (hts _ kfX9_20) (fun _ h9 => h9) rfl dX9_told_7 ?_
    obtain ⟨u5, hu6, hf⟩ := bdE hf
    refine cV_V (ws' := [(a_p0, .inr (10, [.ref a_p0_formats, .ref a_p0_patterns, .ref a_p0_first, .ref a_p0_second, .ref a_p0_third, .ref a_p0_tape, .ref a_p0_acts, .ref a_p0_forms])), (a_p0_formats, .inl (cI, 16, .inl p0_formats)), (a_p0_patterns, .inl (cJ, 16, .inr (.inl p0_patterns))), (a_p0_first, .inr (9, [.int u5.1, .int u5.2.1, .long u5.2.2.1, .int u5.2.2.2.1, .int u5.2.2.2.2]))]) (rest := []) S hK hN hA hP hD hS (c_X9_look l D cI cJ a_p0 a_p0_formats a_p0_patterns a_p0_first a_p0_second a_p0_third a_p0_tape a_p0_acts a_p0_forms a_p0_first p1 p0_formats p0_patterns p0_first_kind p0_first_minus p0_first_m p0_first_e p0_first_narrowBelow u5 hu6) mwX9_look miX9_look kmX9_74 [0, 1, 2, 3] rfl (by decide) rfl rfl rfl 0 rfl rfl ⟨Nat.le_of_ble_eq_true rfl, Nat.le_of_ble_eq_true rfl⟩ ⟨Nat.le_of_ble_eq_true rfl, Nat.le_of_ble_eq_true rfl⟩ hl.1 rfl rfl (Nat.le_of_ble_eq_true rfl) dX9_told_10 (fun H locs hP hD hS => ?_)
    refine lv_iload_n hx hb dX9_told_13 rfl (lv_at hl 2 rfl) ?_
    by_cases hc9 : p2 = (0 : Int32)
    · have hf := ifT hc9 hf
      refine lv_tableIn (tgt := 44) hx hb dX9_told_14 (by rw [hc9]; decide) (by rw [hc9]; decide) (by rw [hc9]; rfl) (by decide) ?_
      refine lv_aload_n hx hb dX9_told_44 rfl (lv_at hl 0 rfl) ?_
      refine va_get (D := D) (ci := 10) (v := .ref a_p0_formats) (C := RX9) (T := TX9) (N := 8) hx hb hts uwX9 hown hK hP 0 rfl rfl 0 (by decide) (hts _ kfX9_9) (fun _ h9 => h9) rfl dX9_told_45 ?_
      refine lv_iload_n hx hb dX9_told_48 rfl (lv_at hl 1 rfl) ?_
      obtain ⟨hi7, hf⟩ := gdE hf
      refine va_iald hx hb hK hP 1 0 rfl rfl hi7 dX9_told_49 ?_
      exact hret _ _ H locs ls 50 _ _ ⟨_, (opE hf).symm, rfl, rfl⟩ (Nat.le_of_ble_eq_true rfl) (Nat.le_of_ble_eq_true rfl) dX9_told_50 hP hD hS
    · have hf := ifF hc9 hf
      by_cases hc10 : p2 = (1 : Int32)
      · have hf := ifT hc10 hf
        refine lv_tableIn (tgt := 51) hx hb dX9_told_14 (by rw [hc10]; decide) (by rw [hc10]; decide) (by rw [hc10]; rfl) (by decide) ?_
        refine lv_aload_n hx hb dX9_told_51 rfl (lv_at hl 0 rfl) ?_
        refine va_get (D := D) (ci := 10) (v := .ref a_p0_first) (C := RX9) (T := TX9) (N := 8) hx hb hts uwX9 hown hK hP 0 rfl rfl 2 (by decide) (hts _ kfX9_20) (fun _ h9 => h9) rfl dX9_told_52 ?_
        refine va_get (D := D) (ci := 9) (v := .int u5.1) (C := RX8) (T := TX8) (N := 5) hx hb hts uwX8 hown hK hP 3 rfl rfl 0 (by decide) (hts _ kfX9_78) (fun _ h9 => h9) rfl dX9_told_55 ?_
        exact hret _ _ H locs ls 58 _ _ ⟨_, (opE hf).symm, rfl, rfl⟩ (Nat.le_of_ble_eq_true rfl) (Nat.le_of_ble_eq_true rfl) dX9_told_58 hP hD hS
      · have hf := ifF hc10 hf
        by_cases hc11 : p2 = (2 : Int32)
        · have hf := ifT hc11 hf
          refine lv_tableIn (tgt := 59) hx hb dX9_told_14 (by rw [hc11]; decide) (by rw [hc11]; decide) (by rw [hc11]; rfl) (by decide) ?_
          refine lv_aload_n hx hb dX9_told_59 rfl (lv_at hl 0 rfl) ?_
          refine va_get (D := D) (ci := 10) (v := .ref a_p0_first) (C := RX9) (T := TX9) (N := 8) hx hb hts uwX9 hown hK hP 0 rfl rfl 2 (by decide) (hts _ kfX9_20) (fun _ h9 => h9) rfl dX9_told_60 ?_
          refine va_get (D := D) (ci := 9) (v := .int u5.2.1) (C := RX8) (T := TX8) (N := 5) hx hb hts uwX8 hown hK hP 3 rfl rfl 1 (by decide) (hts _ kfX9_82) (fun _ h9 => h9) rfl dX9_told_63 ?_
          refine lv_if_eq (tgt := 73) hx hb dX9_told_66 (by decide) (fun hc8 => ?_) (fun hc8 => ?_)
          · have hf := ifT hc8 hf
            refine lv_iconst (v := 0) hx hb dX9_told_73 (by decide) ?_
            exact hret _ _ H locs ls 74 _ _ ⟨_, (opE hf).symm, rfl, rfl⟩ (Nat.le_of_ble_eq_true rfl) (Nat.le_of_ble_eq_true rfl) dX9_told_74 hP hD hS
          · have hf := ifF hc8 hf
            refine lv_iconst (v := 1) hx hb dX9_told_69 (by decide) ?_
            refine lv_goto (tgt := 74) hx hb dX9_told_70 (by decide) ?_
            exact hret _ _ H locs ls 74 _ _ ⟨_, (opE hf).symm, rfl, rfl⟩ (Nat.le_of_ble_eq_true rfl) (Nat.le_of_ble_eq_true rfl) dX9_told_74 hP hD hS
        · have hf := ifF hc11 hf
          by_cases hc12 : p2 = (3 : Int32)
          · have hf := ifT hc12 hf
            refine lv_tableIn (tgt := 75) hx hb dX9_told_14 (by rw [hc12]; decide) (by rw [hc12]; decide) (by rw [hc12]; rfl) (by decide) ?_
            refine lv_aload_n hx hb dX9_told_75 rfl (lv_at hl 0 rfl) ?_
            refine va_get (D := D) (ci := 10) (v := .ref a_p0_first) (C := RX9) (T := TX9) (N := 8) hx hb hts uwX9 hown hK hP 0 rfl rfl 2 (by decide) (hts _ kfX9_20) (fun _ h9 => h9) rfl dX9_told_76 ?_
            refine va_get (D := D) (ci := 9) (v := .int u5.2.2.2.1) (C := RX8) (T := TX8) (N := 5) hx hb hts uwX8 hown hK hP 3 rfl rfl 3 (by decide) (hts _ kfX9_86) (fun _ h9 => h9) rfl dX9_told_79 ?_
            exact hret _ _ H locs ls 82 _ _ ⟨_, (opE hf).symm, rfl, rfl⟩ (Nat.le_of_ble_eq_true rfl) (Nat.le_of_ble_eq_true rfl) dX9_told_82 hP hD hS
          · have hf := ifF hc12 hf
            refine lv_tableOut (tgt := 83) hx hb dX9_told_14 (tsw4 hc9 hc10 hc11 hc12) (by decide) ?_
            exact hnew _ _ 89 91 93 2 _ _ _ H locs ls 83 _ _ _ thrW2 sr2 ⟨_, (opE hf).symm, rfl, rfl⟩ hl.1 dX9_told_83 dX9_told_86 dX9_told_87 dX9_told_89 dX9_told_92 (by decide) (Nat.le_of_ble_eq_true rfl) (Nat.le_of_ble_eq_true rfl) (Nat.le_of_ble_eq_true rfl) hP hD hS
set_option maxRecDepth 100000 in
set_option maxHeartbeats 4000000 in
theorem c_X9_whole (l : Launch) (hst : l.stackTraces = false) (D : va_G) (cI cJ : ClassId) (sa sv : Nat → Nat) (a_p0 a_p0_formats a_p0_patterns a_p0_first a_p0_second a_p0_third a_p0_tape a_p0_acts a_p0_forms : Nat) (p1 : Int32) (p0_formats : (Nat → Int32)) (p0_patterns : (Nat → Int64)) (p0_first_kind : Int32) (p0_first_minus : Int32) (p0_first_m : Int64) (p0_first_e : Int32) (p0_first_narrowBelow : Int32) (u : (Nat × Int32 × Int32 × Int64 × Int32 × Int32) ⊕ (Int64 × Int32 × Int32 × Int64 × Int32 × Int32)) (hf : f_X9_whole p0_formats p0_patterns p1 p0_first_kind p0_first_minus p0_first_m p0_first_e p0_first_narrowBelow = some u) : CxL l yX9_whole cX9_whole 2 7 1 6 110 [.ref a_p0, .int p1] D cI cJ sa sv [(a_p0, .inr (10, [.ref a_p0_formats, .ref a_p0_patterns, .ref a_p0_first, .ref a_p0_second, .ref a_p0_third, .ref a_p0_tape, .ref a_p0_acts, .ref a_p0_forms])), (a_p0_formats, .inl (cI, 16, .inl p0_formats)), (a_p0_patterns, .inl (cJ, 16, .inr (.inl p0_patterns))), (a_p0_first, .inr (9, [.int p0_first_kind, .int p0_first_minus, .long p0_first_m, .int p0_first_e, .int p0_first_narrowBelow]))] (fun r w => ∃ y : Int64 × Int32 × Int32 × Int64 × Int32 × Int32, u = .inr y ∧ r = y.1 ∧ w = [(a_p0, .inr (10, [.ref a_p0_formats, .ref a_p0_patterns, .ref a_p0_first, .ref a_p0_second, .ref a_p0_third, .ref a_p0_tape, .ref a_p0_acts, .ref a_p0_forms])), (a_p0_formats, .inl (cI, 16, .inl p0_formats)), (a_p0_patterns, .inl (cJ, 16, .inr (.inl p0_patterns))), (a_p0_first, .inr (9, [.int y.2.1, .int y.2.2.1, .long y.2.2.2.1, .int y.2.2.2.2.1, .int y.2.2.2.2.2]))]) (fun E w => ∃ x : Nat × Int32 × Int32 × Int64 × Int32 × Int32, u = .inl x ∧ E = exn x.1 ∧ w = [(a_p0, .inr (10, [.ref a_p0_formats, .ref a_p0_patterns, .ref a_p0_first, .ref a_p0_second, .ref a_p0_third, .ref a_p0_tape, .ref a_p0_acts, .ref a_p0_forms])), (a_p0_formats, .inl (cI, 16, .inl p0_formats)), (a_p0_patterns, .inl (cJ, 16, .inr (.inl p0_patterns))), (a_p0_first, .inr (9, [.int x.2.1, .int x.2.2.1, .long x.2.2.2.1, .int x.2.2.2.2.1, .int x.2.2.2.2.2]))]) := by
  refine mkXL hst (own := RX9) rfl (by decide) (Nat.le_of_ble_eq_true rfl) (lv := [(0, .ref a_p0), (1, .int p1)]) rfl ?_
  intro p e s m below meth c Q A ls ar S hA hK hN hE hret hthr hnew H locs hP hD hS hl
  obtain ⟨hx, hb, hml, hown, hts⟩ := id S
  unfold f_X9_whole at hf
  refine lv_iload_n hx hb dX9_whole_0 rfl (lv_at hl 1 rfl) ?_
  obtain ⟨u1, hu2, hf⟩ := bdE hf
  refine xS_V (rest := []) S hK hN hE hA hP hD hS (c_X9_needPlace l hst D cI cJ sa sv  p1  u1 hu2) mwX9_needPlace msX9_needPlace kmX9_61 [] rfl (by decide) ⟨Nat.le_of_ble_eq_true rfl, Nat.le_of_ble_eq_true rfl⟩ ⟨Nat.le_of_ble_eq_true rfl, Nat.le_of_ble_eq_true rfl⟩ hl.1 rfl rfl (Nat.le_of_ble_eq_true rfl) dX9_whole_1 (fun E w H locs q ce hX hB hS hq hv hcl => ?_) (fun w H locs hR hB hS => ?_)
  · obtain ⟨x3, hx9, rfl, rfl⟩ := hX
    have hf := smL hx9 hf
    exact hthr _ _ H locs ls 1 _ _ _ q ce ⟨_, (opE hf).symm, rfl, rfl⟩ (Nat.le_of_ble_eq_true rfl) (Nat.le_of_ble_eq_true rfl) hq hv hcl (hB _ rfl rfl) (hD.adr rfl) hS
  · obtain ⟨y4, hy9, rfl⟩ := hR
    have hf := smR hy9 hf
    have hP : va_P D vwCl [(a_p0, .inr (10, [.ref a_p0_formats, .ref a_p0_patterns, .ref a_p0_first, .ref a_p0_second, .ref a_p0_third, .ref a_p0_tape, .ref a_p0_acts, .ref a_p0_forms])), (a_p0_formats, .inl (cI, 16, .inl p0_formats)), (a_p0_patterns, .inl (cJ, 16, .inr (.inl p0_patterns))), (a_p0_first, .inr (9, [.int p0_first_kind, .int p0_first_minus, .long p0_first_m, .int p0_first_e, .int p0_first_narrowBelow]))] H := hB _ rfl rfl
    have hD : va_D A [(a_p0, .inr (10, [.ref a_p0_formats, .ref a_p0_patterns, .ref a_p0_first, .ref a_p0_second, .ref a_p0_third, .ref a_p0_tape, .ref a_p0_acts, .ref a_p0_forms])), (a_p0_formats, .inl (cI, 16, .inl p0_formats)), (a_p0_patterns, .inl (cJ, 16, .inr (.inl p0_patterns))), (a_p0_first, .inr (9, [.int p0_first_kind, .int p0_first_minus, .long p0_first_m, .int p0_first_e, .int p0_first_narrowBelow]))] := hD.adr rfl
    refine lv_aload_n hx hb dX9_whole_4 rfl (lv_at hl 0 rfl) ?_
    refine lv_iload_n hx hb dX9_whole_5 rfl (lv_at hl 1 rfl) ?_
    refine lv_aload_n hx hb dX9_whole_6 rfl (lv_at hl 0 rfl) ?_
    refine va_get (D := D) (ci := 10) (v := .ref a_p0_first) (C := RX9) (T := TX9) (N := 8) hx hb hts uwX9 hown hK hP 0 rfl rfl 2 (by decide) (hts _ kfX9_20) (fun _ h9 => h9) rfl dX9_whole_7 ?_
    obtain ⟨u5, hu6, hf⟩ := bdE hf
    refine cV_V (ws' := [(a_p0, .inr (10, [.ref a_p0_formats, .ref a_p0_patterns, .ref a_p0_first, .ref a_p0_second, .ref a_p0_third, .ref a_p0_tape, .ref a_p0_acts, .ref a_p0_forms])), (a_p0_formats, .inl (cI, 16, .inl p0_formats)), (a_p0_patterns, .inl (cJ, 16, .inr (.inl p0_patterns))), (a_p0_first, .inr (9, [.int u5.1, .int u5.2.1, .long u5.2.2.1, .int u5.2.2.2.1, .int u5.2.2.2.2]))]) (rest := []) S hK hN hA hP hD hS (c_X9_look l D cI cJ a_p0 a_p0_formats a_p0_patterns a_p0_first a_p0_second a_p0_third a_p0_tape a_p0_acts a_p0_forms a_p0_first p1 p0_formats p0_patterns p0_first_kind p0_first_minus p0_first_m p0_first_e p0_first_narrowBelow u5 hu6) mwX9_look miX9_look kmX9_74 [0, 1, 2, 3] rfl (by decide) rfl rfl rfl 0 rfl rfl ⟨Nat.le_of_ble_eq_true rfl, Nat.le_of_ble_eq_true rfl⟩ ⟨Nat.le_of_ble_eq_true rfl, Nat.le_of_ble_eq_true rfl⟩ hl.1 rfl rfl (Nat.le_of_ble_eq_true rfl) dX9_whole_10 (fun H locs hP hD hS => ?_)
    refine lv_aload_n hx hb dX9_whole_13 rfl (lv_at hl 0 rfl) ?_
    refine va_get (D := D) (ci := 10) (v := .ref a_p0_first) (C := RX9) (T := TX9) (N := 8) hx hb hts uwX9 hown hK hP 0 rfl rfl 2 (by decide) (hts _ kfX9_20) (fun _ h9 => h9) rfl dX9_whole_14 ?_
    refine va_get (D := D) (ci := 9) (v := .long u5.2.2.1) (C := RX8) (T := TX8) (N := 5) hx hb hts uwX8 hown hK hP 3 rfl rfl 2 (by decide) (hts _ kfX9_96) (fun _ h9 => h9) rfl dX9_whole_17 ?_
    exact hret _ _ H locs ls 20 _ _ ⟨_, (opE hf).symm, rfl, rfl⟩ (Nat.le_of_ble_eq_true rfl) (Nat.le_of_ble_eq_true rfl) dX9_whole_20 hP hD hS
set_option maxRecDepth 100000 in
set_option maxHeartbeats 4000000 in
theorem c_X9_needWay (l : Launch) (hst : l.stackTraces = false) (D : va_G) (cI cJ : ClassId) (sa sv : Nat → Nat) (p0 : Int32)  (u : (Nat) ⊕ (Unit)) (hf : f_X9_needWay p0 = some u) : CxV l yX9_needWay cX9_needWay 1 6 1 6 90 [.int p0] D cI cJ sa sv [] (fun w => ∃ y : Unit, u = .inr y ∧ w = []) (fun E w => ∃ x : Nat, u = .inl x ∧ E = exn x ∧ w = []) := by
  refine mkXV hst (own := RX9) rfl (by decide) (Nat.le_of_ble_eq_true rfl) (lv := [(0, .int p0)]) rfl ?_
  intro p e s m below meth c Q A ls ar S hA hK hN hE hret hthr hnew H locs hP hD hS hl
  obtain ⟨hx, hb, hml, hown, hts⟩ := id S
  have keyB9 : ∀  (H : Heap) (locs : List Loc) (ls : Array Slot), f_X9_needWay_B9  = some u → va_P D vwCl [] H → va_D A [] → va_S A s.heap H locs → lv_has ls 1 [] → W p l e (rmc 6 1 6 90) s m ar below meth c H locs 0 0 Q (F0 m 9 ls []) := by
    intro  H locs ls hf hP hD hS hl
    unfold f_X9_needWay_B9 at hf
    exact hnew _ _ 89 204 93 3 _ _ _ H locs ls 9 _ _ _ thrW2 sr3 ⟨_, (opE hf).symm, rfl, rfl⟩ hl.1 dX9_needWay_9 dX9_needWay_12 dX9_needWay_13 dX9_needWay_15 dX9_needWay_18 (by decide) (Nat.le_of_ble_eq_true rfl) (Nat.le_of_ble_eq_true rfl) (Nat.le_of_ble_eq_true rfl) hP hD hS
  unfold f_X9_needWay at hf
  refine lv_iload_n hx hb dX9_needWay_0 rfl (lv_at hl 0 rfl) ?_
  refine lv_if_lt (tgt := 9) hx hb dX9_needWay_1 (by decide) (fun hc2 => ?_) (fun hc2 => ?_)
  · have hf := ifT hc2 hf
    refine W.widen (k := 0) (n := 0) (Nat.le_of_ble_eq_true rfl) (Nat.le_of_ble_eq_true rfl) ?_
    exact keyB9  H locs ls hf hP hD hS (lv_sub hl [] rfl)
  · have hf := ifF hc2 hf
    refine lv_iload_n hx hb dX9_needWay_4 rfl (lv_at hl 0 rfl) ?_
    refine lv_iconst (v := 3) hx hb dX9_needWay_5 (by decide) ?_
    refine lv_icmp_le (tgt := 19) hx hb dX9_needWay_6 (by decide) (fun hc1 => ?_) (fun hc1 => ?_)
    · have hf := ifT hc1 hf
      exact hret _ H locs ls 19 _ _ ⟨_, (opE hf).symm, rfl⟩ (Nat.le_of_ble_eq_true rfl) (Nat.le_of_ble_eq_true rfl) dX9_needWay_19 hP hD hS
    · have hf := ifF hc1 hf
      refine W.widen (k := 0) (n := 0) (Nat.le_of_ble_eq_true rfl) (Nat.le_of_ble_eq_true rfl) ?_
      exact keyB9  H locs ls hf hP hD hS (lv_sub hl [] rfl)
set_option maxRecDepth 100000 in
set_option maxHeartbeats 4000000 in
theorem c_X9_convert (l : Launch) (hst : l.stackTraces = false) (D : va_G) (cI cJ : ClassId) (sa sv : Nat → Nat) (a_p0 a_p0_formats a_p0_patterns a_p0_first a_p0_second a_p0_third a_p0_tape a_p0_acts a_p0_forms a_p0_acts_left a_p0_acts_right a_p0_acts_left_limbs : Nat) (p1 : Int32) (p2 : Int32) (p3 : Int32) (p4 : Int32) (p0_formats : (Nat → Int32)) (p0_patterns : (Nat → Int64)) (p0_first_kind : Int32) (p0_first_minus : Int32) (p0_first_m : Int64) (p0_first_e : Int32) (p0_first_narrowBelow : Int32) (p0_acts_left_size : Int32) (p0_acts_left_limbs : (Nat → Int64)) (u : (Nat × (Nat → Int32) × (Nat → Int64) × Int32 × Int32 × Int64 × Int32 × Int32 × Int32 × (Nat → Int64)) ⊕ ((Nat → Int32) × (Nat → Int64) × Int32 × Int32 × Int64 × Int32 × Int32 × Int32 × (Nat → Int64))) (hf : f_X9_convert p1 p2 p3 p4 p0_formats p0_patterns p0_first_kind p0_first_minus p0_first_m p0_first_e p0_first_narrowBelow p0_acts_left_size p0_acts_left_limbs = some u) : CxV l yX9_convert cX9_convert 5 7 4 24 124 [.ref a_p0, .int p1, .int p2, .int p3, .int p4] D cI cJ sa sv [(a_p0, .inr (10, [.ref a_p0_formats, .ref a_p0_patterns, .ref a_p0_first, .ref a_p0_second, .ref a_p0_third, .ref a_p0_tape, .ref a_p0_acts, .ref a_p0_forms])), (a_p0_formats, .inl (cI, 16, .inl p0_formats)), (a_p0_patterns, .inl (cJ, 16, .inr (.inl p0_patterns))), (a_p0_first, .inr (9, [.int p0_first_kind, .int p0_first_minus, .long p0_first_m, .int p0_first_e, .int p0_first_narrowBelow])), (a_p0_acts, .inr (2, [.ref a_p0_acts_left, .ref a_p0_acts_right])), (a_p0_acts_left, .inr (5, [.ref a_p0_acts_left_limbs, .int p0_acts_left_size])), (a_p0_acts_left_limbs, .inl (cJ, 160, .inr (.inl p0_acts_left_limbs)))] (fun w => ∃ y : (Nat → Int32) × (Nat → Int64) × Int32 × Int32 × Int64 × Int32 × Int32 × Int32 × (Nat → Int64), u = .inr y ∧ w = [(a_p0, .inr (10, [.ref a_p0_formats, .ref a_p0_patterns, .ref a_p0_first, .ref a_p0_second, .ref a_p0_third, .ref a_p0_tape, .ref a_p0_acts, .ref a_p0_forms])), (a_p0_formats, .inl (cI, 16, .inl y.1)), (a_p0_patterns, .inl (cJ, 16, .inr (.inl y.2.1))), (a_p0_first, .inr (9, [.int y.2.2.1, .int y.2.2.2.1, .long y.2.2.2.2.1, .int y.2.2.2.2.2.1, .int y.2.2.2.2.2.2.1])), (a_p0_acts, .inr (2, [.ref a_p0_acts_left, .ref a_p0_acts_right])), (a_p0_acts_left, .inr (5, [.ref a_p0_acts_left_limbs, .int y.2.2.2.2.2.2.2.1])), (a_p0_acts_left_limbs, .inl (cJ, 160, .inr (.inl y.2.2.2.2.2.2.2.2)))]) (fun E w => ∃ x : Nat × (Nat → Int32) × (Nat → Int64) × Int32 × Int32 × Int64 × Int32 × Int32 × Int32 × (Nat → Int64), u = .inl x ∧ E = exn x.1 ∧ w = [(a_p0, .inr (10, [.ref a_p0_formats, .ref a_p0_patterns, .ref a_p0_first, .ref a_p0_second, .ref a_p0_third, .ref a_p0_tape, .ref a_p0_acts, .ref a_p0_forms])), (a_p0_formats, .inl (cI, 16, .inl x.2.1)), (a_p0_patterns, .inl (cJ, 16, .inr (.inl x.2.2.1))), (a_p0_first, .inr (9, [.int x.2.2.2.1, .int x.2.2.2.2.1, .long x.2.2.2.2.2.1, .int x.2.2.2.2.2.2.1, .int x.2.2.2.2.2.2.2.1])), (a_p0_acts, .inr (2, [.ref a_p0_acts_left, .ref a_p0_acts_right])), (a_p0_acts_left, .inr (5, [.ref a_p0_acts_left_limbs, .int x.2.2.2.2.2.2.2.2.1])), (a_p0_acts_left_limbs, .inl (cJ, 160, .inr (.inl x.2.2.2.2.2.2.2.2.2)))]) := by
  refine mkXV hst (own := RX9) rfl (by decide) (Nat.le_of_ble_eq_true rfl) (lv := [(0, .ref a_p0), (1, .int p1), (2, .int p2), (3, .int p3), (4, .int p4)]) rfl ?_
  intro p e s m below meth c Q A ls ar S hA hK hN hE hret hthr hnew H locs hP hD hS hl
  obtain ⟨hx, hb, hml, hown, hts⟩ := id S
  unfold f_X9_convert at hf
  refine lv_iload_n hx hb dX9_convert_0 rfl (lv_at hl 1 rfl) ?_
  obtain ⟨u1, hu2, hf⟩ := bdE hf
  refine xS_V (rest := []) S hK hN hE hA hP hD hS (c_X9_needPlace l hst D cI cJ sa sv  p1  u1 hu2) mwX9_needPlace msX9_needPlace kmX9_61 [] rfl (by decide) ⟨Nat.le_of_ble_eq_true rfl, Nat.le_of_ble_eq_true rfl⟩ ⟨Nat.le_of_ble_eq_true rfl, Nat.le_of_ble_eq_true rfl⟩ hl.1 rfl rfl (Nat.le_of_ble_eq_true rfl) dX9_convert_1 (fun E w H locs q ce hX hB hS hq hv hcl => ?_) (fun w H locs hR hB hS => ?_)
  · obtain ⟨x3, hx9, rfl, rfl⟩ := hX
    have hf := smL hx9 hf
    exact hthr _ _ H locs ls 1 _ _ _ q ce ⟨_, (opE hf).symm, rfl, rfl⟩ (Nat.le_of_ble_eq_true rfl) (Nat.le_of_ble_eq_true rfl) hq hv hcl (hB _ rfl rfl) (hD.adr rfl) hS
  · obtain ⟨y4, hy9, rfl⟩ := hR
    have hf := smR hy9 hf
    have hP : va_P D vwCl [(a_p0, .inr (10, [.ref a_p0_formats, .ref a_p0_patterns, .ref a_p0_first, .ref a_p0_second, .ref a_p0_third, .ref a_p0_tape, .ref a_p0_acts, .ref a_p0_forms])), (a_p0_formats, .inl (cI, 16, .inl p0_formats)), (a_p0_patterns, .inl (cJ, 16, .inr (.inl p0_patterns))), (a_p0_first, .inr (9, [.int p0_first_kind, .int p0_first_minus, .long p0_first_m, .int p0_first_e, .int p0_first_narrowBelow])), (a_p0_acts, .inr (2, [.ref a_p0_acts_left, .ref a_p0_acts_right])), (a_p0_acts_left, .inr (5, [.ref a_p0_acts_left_limbs, .int p0_acts_left_size])), (a_p0_acts_left_limbs, .inl (cJ, 160, .inr (.inl p0_acts_left_limbs)))] H := hB _ rfl rfl
    have hD : va_D A [(a_p0, .inr (10, [.ref a_p0_formats, .ref a_p0_patterns, .ref a_p0_first, .ref a_p0_second, .ref a_p0_third, .ref a_p0_tape, .ref a_p0_acts, .ref a_p0_forms])), (a_p0_formats, .inl (cI, 16, .inl p0_formats)), (a_p0_patterns, .inl (cJ, 16, .inr (.inl p0_patterns))), (a_p0_first, .inr (9, [.int p0_first_kind, .int p0_first_minus, .long p0_first_m, .int p0_first_e, .int p0_first_narrowBelow])), (a_p0_acts, .inr (2, [.ref a_p0_acts_left, .ref a_p0_acts_right])), (a_p0_acts_left, .inr (5, [.ref a_p0_acts_left_limbs, .int p0_acts_left_size])), (a_p0_acts_left_limbs, .inl (cJ, 160, .inr (.inl p0_acts_left_limbs)))] := hD.adr rfl
    refine lv_iload_n hx hb dX9_convert_4 rfl (lv_at hl 2 rfl) ?_
    obtain ⟨u5, hu6, hf⟩ := bdE hf
    refine xS_V (rest := []) S hK hN hE hA hP hD hS (c_X9_needPlace l hst D cI cJ sa sv  p2  u5 hu6) mwX9_needPlace msX9_needPlace kmX9_61 [] rfl (by decide) ⟨Nat.le_of_ble_eq_true rfl, Nat.le_of_ble_eq_true rfl⟩ ⟨Nat.le_of_ble_eq_true rfl, Nat.le_of_ble_eq_true rfl⟩ hl.1 rfl rfl (Nat.le_of_ble_eq_true rfl) dX9_convert_5 (fun E w H locs q ce hX hB hS hq hv hcl => ?_) (fun w H locs hR hB hS => ?_)
    · obtain ⟨x7, hx9, rfl, rfl⟩ := hX
      have hf := smL hx9 hf
      exact hthr _ _ H locs ls 5 _ _ _ q ce ⟨_, (opE hf).symm, rfl, rfl⟩ (Nat.le_of_ble_eq_true rfl) (Nat.le_of_ble_eq_true rfl) hq hv hcl (hB _ rfl rfl) (hD.adr rfl) hS
    · obtain ⟨y8, hy9, rfl⟩ := hR
      have hf := smR hy9 hf
      have hP : va_P D vwCl [(a_p0, .inr (10, [.ref a_p0_formats, .ref a_p0_patterns, .ref a_p0_first, .ref a_p0_second, .ref a_p0_third, .ref a_p0_tape, .ref a_p0_acts, .ref a_p0_forms])), (a_p0_formats, .inl (cI, 16, .inl p0_formats)), (a_p0_patterns, .inl (cJ, 16, .inr (.inl p0_patterns))), (a_p0_first, .inr (9, [.int p0_first_kind, .int p0_first_minus, .long p0_first_m, .int p0_first_e, .int p0_first_narrowBelow])), (a_p0_acts, .inr (2, [.ref a_p0_acts_left, .ref a_p0_acts_right])), (a_p0_acts_left, .inr (5, [.ref a_p0_acts_left_limbs, .int p0_acts_left_size])), (a_p0_acts_left_limbs, .inl (cJ, 160, .inr (.inl p0_acts_left_limbs)))] H := hB _ rfl rfl
      have hD : va_D A [(a_p0, .inr (10, [.ref a_p0_formats, .ref a_p0_patterns, .ref a_p0_first, .ref a_p0_second, .ref a_p0_third, .ref a_p0_tape, .ref a_p0_acts, .ref a_p0_forms])), (a_p0_formats, .inl (cI, 16, .inl p0_formats)), (a_p0_patterns, .inl (cJ, 16, .inr (.inl p0_patterns))), (a_p0_first, .inr (9, [.int p0_first_kind, .int p0_first_minus, .long p0_first_m, .int p0_first_e, .int p0_first_narrowBelow])), (a_p0_acts, .inr (2, [.ref a_p0_acts_left, .ref a_p0_acts_right])), (a_p0_acts_left, .inr (5, [.ref a_p0_acts_left_limbs, .int p0_acts_left_size])), (a_p0_acts_left_limbs, .inl (cJ, 160, .inr (.inl p0_acts_left_limbs)))] := hD.adr rfl
      refine lv_iload_n hx hb dX9_convert_8 rfl (lv_at hl 3 rfl) ?_
      obtain ⟨u9, hu10, hf⟩ := bdE hf
      refine xS_V (rest := []) S hK hN hE hA hP hD hS (c_X9_needFormat l hst D cI cJ sa sv  p3  u9 hu10) mwX9_needFormat msX9_needFormat kmX9_65 [] rfl (by decide) ⟨Nat.le_of_ble_eq_true rfl, Nat.le_of_ble_eq_true rfl⟩ ⟨Nat.le_of_ble_eq_true rfl, Nat.le_of_ble_eq_true rfl⟩ hl.1 rfl rfl (Nat.le_of_ble_eq_true rfl) dX9_convert_9 (fun E w H locs q ce hX hB hS hq hv hcl => ?_) (fun w H locs hR hB hS => ?_)
      · obtain ⟨x11, hx9, rfl, rfl⟩ := hX
        have hf := smL hx9 hf
        exact hthr _ _ H locs ls 9 _ _ _ q ce ⟨_, (opE hf).symm, rfl, rfl⟩ (Nat.le_of_ble_eq_true rfl) (Nat.le_of_ble_eq_true rfl) hq hv hcl (hB _ rfl rfl) (hD.adr rfl) hS
      · obtain ⟨y12, hy9, rfl⟩ := hR
        have hf := smR hy9 hf
        have hP : va_P D vwCl [(a_p0, .inr (10, [.ref a_p0_formats, .ref a_p0_patterns, .ref a_p0_first, .ref a_p0_second, .ref a_p0_third, .ref a_p0_tape, .ref a_p0_acts, .ref a_p0_forms])), (a_p0_formats, .inl (cI, 16, .inl p0_formats)), (a_p0_patterns, .inl (cJ, 16, .inr (.inl p0_patterns))), (a_p0_first, .inr (9, [.int p0_first_kind, .int p0_first_minus, .long p0_first_m, .int p0_first_e, .int p0_first_narrowBelow])), (a_p0_acts, .inr (2, [.ref a_p0_acts_left, .ref a_p0_acts_right])), (a_p0_acts_left, .inr (5, [.ref a_p0_acts_left_limbs, .int p0_acts_left_size])), (a_p0_acts_left_limbs, .inl (cJ, 160, .inr (.inl p0_acts_left_limbs)))] H := hB _ rfl rfl
        have hD : va_D A [(a_p0, .inr (10, [.ref a_p0_formats, .ref a_p0_patterns, .ref a_p0_first, .ref a_p0_second, .ref a_p0_third, .ref a_p0_tape, .ref a_p0_acts, .ref a_p0_forms])), (a_p0_formats, .inl (cI, 16, .inl p0_formats)), (a_p0_patterns, .inl (cJ, 16, .inr (.inl p0_patterns))), (a_p0_first, .inr (9, [.int p0_first_kind, .int p0_first_minus, .long p0_first_m, .int p0_first_e, .int p0_first_narrowBelow])), (a_p0_acts, .inr (2, [.ref a_p0_acts_left, .ref a_p0_acts_right])), (a_p0_acts_left, .inr (5, [.ref a_p0_acts_left_limbs, .int p0_acts_left_size])), (a_p0_acts_left_limbs, .inl (cJ, 160, .inr (.inl p0_acts_left_limbs)))] := hD.adr rfl
        refine lv_iload hx hb dX9_convert_12 (lv_at hl 4 rfl) ?_
        obtain ⟨u13, hu14, hf⟩ := bdE hf
        refine xS_V (rest := []) S hK hN hE hA hP hD hS (c_X9_needWay l hst D cI cJ sa sv  p4  u13 hu14) mwX9_needWay msX9_needWay kmX9_100 [] rfl (by decide) ⟨Nat.le_of_ble_eq_true rfl, Nat.le_of_ble_eq_true rfl⟩ ⟨Nat.le_of_ble_eq_true rfl, Nat.le_of_ble_eq_true rfl⟩ hl.1 rfl rfl (Nat.le_of_ble_eq_true rfl) dX9_convert_14 (fun E w H locs q ce hX hB hS hq hv hcl => ?_) (fun w H locs hR hB hS => ?_)
        · obtain ⟨x15, hx9, rfl, rfl⟩ := hX
          have hf := smL hx9 hf
          exact hthr _ _ H locs ls 14 _ _ _ q ce ⟨_, (opE hf).symm, rfl, rfl⟩ (Nat.le_of_ble_eq_true rfl) (Nat.le_of_ble_eq_true rfl) hq hv hcl (hB _ rfl rfl) (hD.adr rfl) hS
        · obtain ⟨y16, hy9, rfl⟩ := hR
          have hf := smR hy9 hf
          have hP : va_P D vwCl [(a_p0, .inr (10, [.ref a_p0_formats, .ref a_p0_patterns, .ref a_p0_first, .ref a_p0_second, .ref a_p0_third, .ref a_p0_tape, .ref a_p0_acts, .ref a_p0_forms])), (a_p0_formats, .inl (cI, 16, .inl p0_formats)), (a_p0_patterns, .inl (cJ, 16, .inr (.inl p0_patterns))), (a_p0_first, .inr (9, [.int p0_first_kind, .int p0_first_minus, .long p0_first_m, .int p0_first_e, .int p0_first_narrowBelow])), (a_p0_acts, .inr (2, [.ref a_p0_acts_left, .ref a_p0_acts_right])), (a_p0_acts_left, .inr (5, [.ref a_p0_acts_left_limbs, .int p0_acts_left_size])), (a_p0_acts_left_limbs, .inl (cJ, 160, .inr (.inl p0_acts_left_limbs)))] H := hB _ rfl rfl
          have hD : va_D A [(a_p0, .inr (10, [.ref a_p0_formats, .ref a_p0_patterns, .ref a_p0_first, .ref a_p0_second, .ref a_p0_third, .ref a_p0_tape, .ref a_p0_acts, .ref a_p0_forms])), (a_p0_formats, .inl (cI, 16, .inl p0_formats)), (a_p0_patterns, .inl (cJ, 16, .inr (.inl p0_patterns))), (a_p0_first, .inr (9, [.int p0_first_kind, .int p0_first_minus, .long p0_first_m, .int p0_first_e, .int p0_first_narrowBelow])), (a_p0_acts, .inr (2, [.ref a_p0_acts_left, .ref a_p0_acts_right])), (a_p0_acts_left, .inr (5, [.ref a_p0_acts_left_limbs, .int p0_acts_left_size])), (a_p0_acts_left_limbs, .inl (cJ, 160, .inr (.inl p0_acts_left_limbs)))] := hD.adr rfl
          refine lv_aload_n hx hb dX9_convert_17 rfl (lv_at hl 0 rfl) ?_
          refine lv_iload_n hx hb dX9_convert_18 rfl (lv_at hl 1 rfl) ?_
          refine lv_aload_n hx hb dX9_convert_19 rfl (lv_at hl 0 rfl) ?_
          refine va_get (D := D) (ci := 10) (v := .ref a_p0_first) (C := RX9) (T := TX9) (N := 8) hx hb hts uwX9 hown hK hP 0 rfl rfl 2 (by decide) (hts _ kfX9_20) (fun _ h9 => h9) rfl dX9_convert_20 ?_
          obtain ⟨u17, hu18, hf⟩ := bdE hf
          refine cV_V (ws' := [(a_p0, .inr (10, [.ref a_p0_formats, .ref a_p0_patterns, .ref a_p0_first, .ref a_p0_second, .ref a_p0_third, .ref a_p0_tape, .ref a_p0_acts, .ref a_p0_forms])), (a_p0_formats, .inl (cI, 16, .inl p0_formats)), (a_p0_patterns, .inl (cJ, 16, .inr (.inl p0_patterns))), (a_p0_first, .inr (9, [.int u17.1, .int u17.2.1, .long u17.2.2.1, .int u17.2.2.2.1, .int u17.2.2.2.2])), (a_p0_acts, .inr (2, [.ref a_p0_acts_left, .ref a_p0_acts_right])), (a_p0_acts_left, .inr (5, [.ref a_p0_acts_left_limbs, .int p0_acts_left_size])), (a_p0_acts_left_limbs, .inl (cJ, 160, .inr (.inl p0_acts_left_limbs)))]) (rest := []) S hK hN hA hP hD hS (c_X9_look l D cI cJ a_p0 a_p0_formats a_p0_patterns a_p0_first a_p0_second a_p0_third a_p0_tape a_p0_acts a_p0_forms a_p0_first p1 p0_formats p0_patterns p0_first_kind p0_first_minus p0_first_m p0_first_e p0_first_narrowBelow u17 hu18) mwX9_look miX9_look kmX9_74 [0, 1, 2, 3] rfl (by decide) rfl rfl rfl 0 rfl rfl ⟨Nat.le_of_ble_eq_true rfl, Nat.le_of_ble_eq_true rfl⟩ ⟨Nat.le_of_ble_eq_true rfl, Nat.le_of_ble_eq_true rfl⟩ hl.1 rfl rfl (Nat.le_of_ble_eq_true rfl) dX9_convert_23 (fun H locs hP hD hS => ?_)
          refine lv_aload_n hx hb dX9_convert_26 rfl (lv_at hl 0 rfl) ?_
          refine lv_iload_n hx hb dX9_convert_27 rfl (lv_at hl 2 rfl) ?_
          refine lv_iload_n hx hb dX9_convert_28 rfl (lv_at hl 3 rfl) ?_
          refine lv_aload_n hx hb dX9_convert_29 rfl (lv_at hl 0 rfl) ?_
          refine va_get (D := D) (ci := 10) (v := .ref a_p0_acts) (C := RX9) (T := TX9) (N := 8) hx hb hts uwX9 hown hK hP 0 rfl rfl 6 (by decide) (hts _ kfX9_45) (fun _ h9 => h9) rfl dX9_convert_30 ?_
          refine lv_aload_n hx hb dX9_convert_33 rfl (lv_at hl 0 rfl) ?_
          refine va_get (D := D) (ci := 10) (v := .ref a_p0_first) (C := RX9) (T := TX9) (N := 8) hx hb hts uwX9 hown hK hP 0 rfl rfl 2 (by decide) (hts _ kfX9_20) (fun _ h9 => h9) rfl dX9_convert_34 ?_
          refine lv_iload_n hx hb dX9_convert_37 rfl (lv_at hl 3 rfl) ?_
          refine lv_iload hx hb dX9_convert_38 (lv_at hl 4 rfl) ?_
          obtain ⟨u19, hu20, hf⟩ := bdE hf
          refine cV_L (ws' := [(a_p0, .inr (10, [.ref a_p0_formats, .ref a_p0_patterns, .ref a_p0_first, .ref a_p0_second, .ref a_p0_third, .ref a_p0_tape, .ref a_p0_acts, .ref a_p0_forms])), (a_p0_formats, .inl (cI, 16, .inl p0_formats)), (a_p0_patterns, .inl (cJ, 16, .inr (.inl p0_patterns))), (a_p0_first, .inr (9, [.int u17.1, .int u17.2.1, .long u17.2.2.1, .int u17.2.2.2.1, .int u17.2.2.2.2])), (a_p0_acts, .inr (2, [.ref a_p0_acts_left, .ref a_p0_acts_right])), (a_p0_acts_left, .inr (5, [.ref a_p0_acts_left_limbs, .int u19.2.1])), (a_p0_acts_left_limbs, .inl (cJ, 160, .inr (.inl u19.2.2)))]) (rest := [.int p3, .int p2, .ref a_p0]) S hK hN hA hP hD hS (c_X0_converted l D cI cJ a_p0_acts a_p0_acts_left a_p0_acts_right a_p0_acts_left_limbs a_p0_first p3 p4 p0_acts_left_size p0_acts_left_limbs u17.1 u17.2.1 u17.2.2.1 u17.2.2.2.1 u17.2.2.2.2 u19 hu20) mwX0_converted miX0_converted kmX9_103 [4, 5, 6, 3] rfl (by decide) rfl rfl rfl 0 rfl rfl ⟨Nat.le_of_ble_eq_true rfl, Nat.le_of_ble_eq_true rfl⟩ ⟨Nat.le_of_ble_eq_true rfl, Nat.le_of_ble_eq_true rfl⟩ hl.1 rfl rfl (Nat.le_of_ble_eq_true rfl) dX9_convert_40 (fun H locs hP hD hS => ?_)
          obtain ⟨u21, hu22, hf⟩ := bdE hf
          refine cV_V (ws' := [(a_p0, .inr (10, [.ref a_p0_formats, .ref a_p0_patterns, .ref a_p0_first, .ref a_p0_second, .ref a_p0_third, .ref a_p0_tape, .ref a_p0_acts, .ref a_p0_forms])), (a_p0_formats, .inl (cI, 16, .inl u21.1)), (a_p0_patterns, .inl (cJ, 16, .inr (.inl u21.2))), (a_p0_first, .inr (9, [.int u17.1, .int u17.2.1, .long u17.2.2.1, .int u17.2.2.2.1, .int u17.2.2.2.2])), (a_p0_acts, .inr (2, [.ref a_p0_acts_left, .ref a_p0_acts_right])), (a_p0_acts_left, .inr (5, [.ref a_p0_acts_left_limbs, .int u19.2.1])), (a_p0_acts_left_limbs, .inl (cJ, 160, .inr (.inl u19.2.2)))]) (rest := []) S hK hN hA hP hD hS (c_X9_put l D cI cJ a_p0 a_p0_formats a_p0_patterns a_p0_first a_p0_second a_p0_third a_p0_tape a_p0_acts a_p0_forms p2 p3 u19.1 p0_formats p0_patterns u21 hu22) mwX9_put miX9_put kmX9_70 [0, 1, 2] rfl (by decide) rfl rfl rfl 0 rfl rfl ⟨Nat.le_of_ble_eq_true rfl, Nat.le_of_ble_eq_true rfl⟩ ⟨Nat.le_of_ble_eq_true rfl, Nat.le_of_ble_eq_true rfl⟩ hl.1 rfl rfl (Nat.le_of_ble_eq_true rfl) dX9_convert_43 (fun H locs hP hD hS => ?_)
          exact hret _ H locs ls 46 _ _ ⟨_, (opE hf).symm, rfl⟩ (Nat.le_of_ble_eq_true rfl) (Nat.le_of_ble_eq_true rfl) dX9_convert_46 hP hD hS
