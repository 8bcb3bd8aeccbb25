set_option maxRecDepth 100000 in
set_option maxHeartbeats 4000000 in
theorem c_J9_max_7cf53 (l : Launch) (D : va_G) (cI cJ : ClassId) (p0 : Int32) (p1 : Int32)  (u : Int32) (hf : f_J9_max_7cf53 p0 p1 = some u) : CtI l yJ9_max_7cf53 cJ9_max_7cf53 2 0 0 .int [.int p0, .int p1] D cI cJ [] [] u := by
  refine mkI (own := RJ9) rfl (by decide +kernel) (Nat.le_of_ble_eq_true rfl) (lv := [(0, .int p0), (1, .int p1)]) rfl ?_
  intro p e s m below meth c Q A ls ar S hA hK hN hret H locs hP hD hS hl
  obtain ⟨hx, hb, hml, hown, hts⟩ := id S
  have hret : ∀ (w : Int32), w = u → ∀ (H : Heap) (locs : List Loc) (ls : Array Slot) (pc : Nat), decode cJ9_max_7cf53 pc = .ok (.ireturn, 1) → va_P D vwCl [] H → va_D A [] → va_S A s.heap H locs → W p l e (rmz 0 0) s m ar below meth c H locs 0 0 Q (F0 m pc ls [.int w]) := fun w hw => hw ▸ hret
  unfold f_J9_max_7cf53 at hf
  refine lv_iload_n hx hb dJ9_max_7cf53_0 rfl (lv_at hl 0 rfl) ?_
  refine lv_iload_n hx hb dJ9_max_7cf53_1 rfl (lv_at hl 1 rfl) ?_
  refine lv_icmp_lt (tgt := 9) hx hb dJ9_max_7cf53_2 (by decide) (fun hc1 => ?_) (fun hc1 => ?_)
  · have hf := ifT hc1 hf
    refine lv_iload_n hx hb dJ9_max_7cf53_9 rfl (lv_at hl 1 rfl) ?_
    exact hret _ (opE hf) H locs ls 10 dJ9_max_7cf53_10 hP hD hS
  · have hf := ifF hc1 hf
    refine lv_iload_n hx hb dJ9_max_7cf53_5 rfl (lv_at hl 0 rfl) ?_
    refine lv_goto (tgt := 10) hx hb dJ9_max_7cf53_6 (by decide) ?_
    exact hret _ (opE hf) H locs ls 10 dJ9_max_7cf53_10 hP hD hS
set_option maxRecDepth 100000 in
set_option maxHeartbeats 4000000 in
theorem c_X2_endlessSize (l : Launch) (D : va_G) (cI cJ : ClassId) (p0 : Int32)  (u : Int64) (hf : f_X2_endlessSize p0 = some u) : CtL l yX2_endlessSize cX2_endlessSize 1 0 0 [.int p0] D cI cJ [] [] u := by
  refine mkL (own := RX2) rfl (by decide +kernel) (Nat.le_of_ble_eq_true rfl) (lv := [(0, .int p0)]) rfl ?_
  intro p e s m below meth c Q A ls ar S hA hK hN hret H locs hP hD hS hl
  obtain ⟨hx, hb, hml, hown, hts⟩ := id S
  have hret : ∀ (w : Int64), w = u → ∀ (H : Heap) (locs : List Loc) (ls : Array Slot) (pc : Nat), decode cX2_endlessSize pc = .ok (.lreturn, 1) → va_P D vwCl [] H → va_D A [] → va_S A s.heap H locs → W p l e (rmz 0 0) s m ar below meth c H locs 0 0 Q (F0 m pc ls [.long w]) := fun w hw => hw ▸ hret
  unfold f_X2_endlessSize at hf
  refine lv_iload_n hx hb dX2_endlessSize_0 rfl (lv_at hl 0 rfl) ?_
  refine lv_if_ne (tgt := 10) hx hb dX2_endlessSize_1 (by decide) (fun hc1 => ?_) (fun hc1 => ?_)
  · have hf := ifF hc1 hf
    refine lv_ldc2 hx hb hown (hts _ kcX2_17) dX2_endlessSize_10 ?_
    exact hret _ (opE hf) H locs ls 13 dX2_endlessSize_13 hP hD hS
  · have hf := ifT hc1 hf
    refine lv_ldc2 hx hb hown (hts _ kcX2_15) dX2_endlessSize_4 ?_
    refine lv_goto (tgt := 13) hx hb dX2_endlessSize_7 (by decide) ?_
    exact hret _ (opE hf) H locs ls 13 dX2_endlessSize_13 hP hD hS
set_option maxRecDepth 100000 in
set_option maxHeartbeats 4000000 in
theorem c_X2_goesOn (l : Launch) (D : va_G) (cI cJ : ClassId) (p0 : Int32) (p1 : Int32) (p2 : Int32) (p3 : Int32) (p4 : Int32)  (u : Int32) (hf : f_X2_goesOn p0 p1 p2 p3 p4 = some u) : CtI l yX2_goesOn cX2_goesOn 5 0 0 .boolean [.int p0, .int p1, .int p2, .int p3, .int p4] D cI cJ [] [] u := by
  refine mkZ (own := RX2) rfl (by decide +kernel) (Nat.le_of_ble_eq_true rfl) (lv := [(0, .int p0), (1, .int p1), (2, .int p2), (3, .int p3), (4, .int p4)]) rfl ?_
  intro p e s m below meth c Q A ls ar S hA hK hN hret H locs hP hD hS hl
  obtain ⟨hx, hb, hml, hown, hts⟩ := id S
  have hret : ∀ (w : Int32), w = u → ∀ (H : Heap) (locs : List Loc) (ls : Array Slot) (pc : Nat), decode cX2_goesOn pc = .ok (.ireturn, 1) → (w = 0 ∨ w = 1) → va_P D vwCl [] H → va_D A [] → va_S A s.heap H locs → W p l e (rmz 0 0) s m ar below meth c H locs 0 0 Q (F0 m pc ls [.int w]) := fun w hw => hw ▸ hret
  unfold f_X2_goesOn at hf
  refine lv_iload_n hx hb dX2_goesOn_0 rfl (lv_at hl 0 rfl) ?_
  by_cases hc10 : p0 = (0 : Int32)
  · have hf := ifT hc10 hf
    refine lv_tableIn (tgt := 32) hx hb dX2_goesOn_1 (by rw [hc10]; decide) (by rw [hc10]; decide) (by rw [hc10]; rfl) (by decide) ?_
    refine lv_iload_n hx hb dX2_goesOn_32 rfl (lv_at hl 3 rfl) ?_
    refine lv_if_eq (tgt := 49) hx hb dX2_goesOn_33 (by decide) (fun hc3 => ?_) (fun hc3 => ?_)
    · have hf := ifT hc3 hf
      refine lv_iconst (v := 0) hx hb dX2_goesOn_49 (by decide) ?_
      exact hret _ (opE hf) H locs ls 50 dX2_goesOn_50 (Or.inl rfl) hP hD hS
    · have hf := ifF hc3 hf
      refine lv_iload hx hb dX2_goesOn_36 (lv_at hl 4 rfl) ?_
      refine lv_if_ne (tgt := 45) hx hb dX2_goesOn_38 (by decide) (fun hc2 => ?_) (fun hc2 => ?_)
      · have hf := ifF hc2 hf
        refine lv_iconst (v := 1) hx hb dX2_goesOn_45 (by decide) ?_
        refine lv_goto (tgt := 50) hx hb dX2_goesOn_46 (by decide) ?_
        exact hret _ (opE hf) H locs ls 50 dX2_goesOn_50 (Or.inr rfl) hP hD hS
      · have hf := ifT hc2 hf
        refine lv_iload_n hx hb dX2_goesOn_41 rfl (lv_at hl 2 rfl) ?_
        refine lv_if_eq (tgt := 49) hx hb dX2_goesOn_42 (by decide) (fun hc1 => ?_) (fun hc1 => ?_)
        · have hf := ifT hc1 hf
          refine lv_iconst (v := 0) hx hb dX2_goesOn_49 (by decide) ?_
          exact hret _ (opE hf) H locs ls 50 dX2_goesOn_50 (Or.inl rfl) hP hD hS
        · have hf := ifF hc1 hf
          refine lv_iconst (v := 1) hx hb dX2_goesOn_45 (by decide) ?_
          refine lv_goto (tgt := 50) hx hb dX2_goesOn_46 (by decide) ?_
          exact hret _ (opE hf) H locs ls 50 dX2_goesOn_50 (Or.inr rfl) hP hD hS
  · have hf := ifF hc10 hf
    by_cases hc11 : p0 = (1 : Int32)
    · have hf := ifT hc11 hf
      refine lv_tableIn (tgt := 89) hx hb dX2_goesOn_1 (by rw [hc11]; decide) (by rw [hc11]; decide) (by rw [hc11]; rfl) (by decide) ?_
      refine lv_iconst (v := 0) hx hb dX2_goesOn_89 (by decide) ?_
      exact hret _ (opE hf) H locs ls 90 dX2_goesOn_90 (Or.inl rfl) hP hD hS
    · have hf := ifF hc11 hf
      by_cases hc12 : p0 = (2 : Int32)
      · have hf := ifT hc12 hf
        refine lv_tableIn (tgt := 51) hx hb dX2_goesOn_1 (by rw [hc12]; decide) (by rw [hc12]; decide) (by rw [hc12]; rfl) (by decide) ?_
        refine lv_iload_n hx hb dX2_goesOn_51 rfl (lv_at hl 1 rfl) ?_
        refine lv_if_ne (tgt := 68) hx hb dX2_goesOn_52 (by decide) (fun hc6 => ?_) (fun hc6 => ?_)
        · have hf := ifF hc6 hf
          refine lv_iconst (v := 0) hx hb dX2_goesOn_68 (by decide) ?_
          exact hret _ (opE hf) H locs ls 69 dX2_goesOn_69 (Or.inl rfl) hP hD hS
        · have hf := ifT hc6 hf
          refine lv_iload_n hx hb dX2_goesOn_55 rfl (lv_at hl 3 rfl) ?_
          refine lv_if_ne (tgt := 64) hx hb dX2_goesOn_56 (by decide) (fun hc5 => ?_) (fun hc5 => ?_)
          · have hf := ifF hc5 hf
            refine lv_iconst (v := 1) hx hb dX2_goesOn_64 (by decide) ?_
            refine lv_goto (tgt := 69) hx hb dX2_goesOn_65 (by decide) ?_
            exact hret _ (opE hf) H locs ls 69 dX2_goesOn_69 (Or.inr rfl) hP hD hS
          · have hf := ifT hc5 hf
            refine lv_iload hx hb dX2_goesOn_59 (lv_at hl 4 rfl) ?_
            refine lv_if_eq (tgt := 68) hx hb dX2_goesOn_61 (by decide) (fun hc4 => ?_) (fun hc4 => ?_)
            · have hf := ifT hc4 hf
              refine lv_iconst (v := 0) hx hb dX2_goesOn_68 (by decide) ?_
              exact hret _ (opE hf) H locs ls 69 dX2_goesOn_69 (Or.inl rfl) hP hD hS
            · have hf := ifF hc4 hf
              refine lv_iconst (v := 1) hx hb dX2_goesOn_64 (by decide) ?_
              refine lv_goto (tgt := 69) hx hb dX2_goesOn_65 (by decide) ?_
              exact hret _ (opE hf) H locs ls 69 dX2_goesOn_69 (Or.inr rfl) hP hD hS
      · have hf := ifF hc12 hf
        by_cases hc13 : p0 = (3 : Int32)
        · have hf := ifT hc13 hf
          refine lv_tableIn (tgt := 70) hx hb dX2_goesOn_1 (by rw [hc13]; decide) (by rw [hc13]; decide) (by rw [hc13]; rfl) (by decide) ?_
          refine lv_iload_n hx hb dX2_goesOn_70 rfl (lv_at hl 1 rfl) ?_
          refine lv_if_eq (tgt := 87) hx hb dX2_goesOn_71 (by decide) (fun hc9 => ?_) (fun hc9 => ?_)
          · have hf := ifT hc9 hf
            refine lv_iconst (v := 0) hx hb dX2_goesOn_87 (by decide) ?_
            exact hret _ (opE hf) H locs ls 88 dX2_goesOn_88 (Or.inl rfl) hP hD hS
          · have hf := ifF hc9 hf
            refine lv_iload_n hx hb dX2_goesOn_74 rfl (lv_at hl 3 rfl) ?_
            refine lv_if_ne (tgt := 83) hx hb dX2_goesOn_75 (by decide) (fun hc8 => ?_) (fun hc8 => ?_)
            · have hf := ifF hc8 hf
              refine lv_iconst (v := 1) hx hb dX2_goesOn_83 (by decide) ?_
              refine lv_goto (tgt := 88) hx hb dX2_goesOn_84 (by decide) ?_
              exact hret _ (opE hf) H locs ls 88 dX2_goesOn_88 (Or.inr rfl) hP hD hS
            · have hf := ifT hc8 hf
              refine lv_iload hx hb dX2_goesOn_78 (lv_at hl 4 rfl) ?_
              refine lv_if_eq (tgt := 87) hx hb dX2_goesOn_80 (by decide) (fun hc7 => ?_) (fun hc7 => ?_)
              · have hf := ifT hc7 hf
                refine lv_iconst (v := 0) hx hb dX2_goesOn_87 (by decide) ?_
                exact hret _ (opE hf) H locs ls 88 dX2_goesOn_88 (Or.inl rfl) hP hD hS
              · have hf := ifF hc7 hf
                refine lv_iconst (v := 1) hx hb dX2_goesOn_83 (by decide) ?_
                refine lv_goto (tgt := 88) hx hb dX2_goesOn_84 (by decide) ?_
                exact hret _ (opE hf) H locs ls 88 dX2_goesOn_88 (Or.inr rfl) hP hD hS
        · have hf := ifF hc13 hf
          refine lv_tableOut (tgt := 89) hx hb dX2_goesOn_1 (tsw4 hc10 hc11 hc12 hc13) (by decide) ?_
          refine lv_iconst (v := 0) hx hb dX2_goesOn_89 (by decide) ?_
          exact hret _ (opE hf) H locs ls 90 dX2_goesOn_90 (Or.inl rfl) hP hD hS
set_option maxRecDepth 100000 in
set_option maxHeartbeats 4000000 in
theorem c_X2_highest (l : Launch) (D : va_G) (cI cJ : ClassId) (p0 : Int32)  (u : Int32) (hf : f_X2_highest p0 = some u) : CtI l yX2_highest cX2_highest 1 0 0 .int [.int p0] D cI cJ [] [] u := by
  refine mkI (own := RX2) rfl (by decide +kernel) (Nat.le_of_ble_eq_true rfl) (lv := [(0, .int p0)]) rfl ?_
  intro p e s m below meth c Q A ls ar S hA hK hN hret H locs hP hD hS hl
  obtain ⟨hx, hb, hml, hown, hts⟩ := id S
  have hret : ∀ (w : Int32), w = u → ∀ (H : Heap) (locs : List Loc) (ls : Array Slot) (pc : Nat), decode cX2_highest pc = .ok (.ireturn, 1) → va_P D vwCl [] H → va_D A [] → va_S A s.heap H locs → W p l e (rmz 0 0) s m ar below meth c H locs 0 0 Q (F0 m pc ls [.int w]) := fun w hw => hw ▸ hret
  unfold f_X2_highest at hf
  refine lv_iload_n hx hb dX2_highest_0 rfl (lv_at hl 0 rfl) ?_
  refine lv_if_ne (tgt := 9) hx hb dX2_highest_1 (by decide) (fun hc1 => ?_) (fun hc1 => ?_)
  · have hf := ifF hc1 hf
    refine lv_sipush (v := 971) hx hb dX2_highest_9 (by decide) ?_
    exact hret _ (opE hf) H locs ls 12 dX2_highest_12 hP hD hS
  · have hf := ifT hc1 hf
    refine lv_bipush (v := 104) hx hb dX2_highest_4 (by decide) ?_
    refine lv_goto (tgt := 12) hx hb dX2_highest_6 (by decide) ?_
    exact hret _ (opE hf) H locs ls 12 dX2_highest_12 hP hD hS
set_option maxRecDepth 100000 in
set_option maxHeartbeats 4000000 in
theorem c_X2_lowest (l : Launch) (D : va_G) (cI cJ : ClassId) (p0 : Int32)  (u : Int32) (hf : f_X2_lowest p0 = some u) : CtI l yX2_lowest cX2_lowest 1 0 0 .int [.int p0] D cI cJ [] [] u := by
  refine mkI (own := RX2) rfl (by decide +kernel) (Nat.le_of_ble_eq_true rfl) (lv := [(0, .int p0)]) rfl ?_
  intro p e s m below meth c Q A ls ar S hA hK hN hret H locs hP hD hS hl
  obtain ⟨hx, hb, hml, hown, hts⟩ := id S
  have hret : ∀ (w : Int32), w = u → ∀ (H : Heap) (locs : List Loc) (ls : Array Slot) (pc : Nat), decode cX2_lowest pc = .ok (.ireturn, 1) → va_P D vwCl [] H → va_D A [] → va_S A s.heap H locs → W p l e (rmz 0 0) s m ar below meth c H locs 0 0 Q (F0 m pc ls [.int w]) := fun w hw => hw ▸ hret
  unfold f_X2_lowest at hf
  refine lv_iload_n hx hb dX2_lowest_0 rfl (lv_at hl 0 rfl) ?_
  refine lv_if_ne (tgt := 10) hx hb dX2_lowest_1 (by decide) (fun hc1 => ?_) (fun hc1 => ?_)
  · have hf := ifF hc1 hf
    refine lv_sipush (v := -1074) hx hb dX2_lowest_10 (by decide) ?_
    exact hret _ (opE hf) H locs ls 13 dX2_lowest_13 hP hD hS
  · have hf := ifT hc1 hf
    refine lv_sipush (v := -149) hx hb dX2_lowest_4 (by decide) ?_
    refine lv_goto (tgt := 13) hx hb dX2_lowest_7 (by decide) ?_
    exact hret _ (opE hf) H locs ls 13 dX2_lowest_13 hP hD hS
set_option maxRecDepth 100000 in
set_option maxHeartbeats 4000000 in
theorem c_X2_signBit (l : Launch) (D : va_G) (cI cJ : ClassId) (p0 : Int32)  (u : Int64) (hf : f_X2_signBit p0 = some u) : CtL l yX2_signBit cX2_signBit 1 0 0 [.int p0] D cI cJ [] [] u := by
  refine mkL (own := RX2) rfl (by decide +kernel) (Nat.le_of_ble_eq_true rfl) (lv := [(0, .int p0)]) rfl ?_
  intro p e s m below meth c Q A ls ar S hA hK hN hret H locs hP hD hS hl
  obtain ⟨hx, hb, hml, hown, hts⟩ := id S
  have hret : ∀ (w : Int64), w = u → ∀ (H : Heap) (locs : List Loc) (ls : Array Slot) (pc : Nat), decode cX2_signBit pc = .ok (.lreturn, 1) → va_P D vwCl [] H → va_D A [] → va_S A s.heap H locs → W p l e (rmz 0 0) s m ar below meth c H locs 0 0 Q (F0 m pc ls [.long w]) := fun w hw => hw ▸ hret
  unfold f_X2_signBit at hf
  refine lv_iload_n hx hb dX2_signBit_0 rfl (lv_at hl 0 rfl) ?_
  refine lv_if_ne (tgt := 10) hx hb dX2_signBit_1 (by decide) (fun hc1 => ?_) (fun hc1 => ?_)
  · have hf := ifF hc1 hf
    refine lv_ldc2 (v := kMin) hx hb hown (hts _ kcX2_13) dX2_signBit_10 ?_
    exact hret _ (opE hf) H locs ls 13 dX2_signBit_13 hP hD hS
  · have hf := ifT hc1 hf
    refine lv_ldc2 hx hb hown (hts _ kcX2_9) dX2_signBit_4 ?_
    refine lv_goto (tgt := 13) hx hb dX2_signBit_7 (by decide) ?_
    exact hret _ (opE hf) H locs ls 13 dX2_signBit_13 hP hD hS
set_option maxRecDepth 100000 in
set_option maxHeartbeats 4000000 in
theorem c_X2_signed (l : Launch) (D : va_G) (cI cJ : ClassId) (p0 : Int32) (p1 : Int32) (p2 : Int64)  (u : Int64) (hf : f_X2_signed p0 p1 p2 = some u) : CtL l yX2_signed cX2_signed 4 1 20 [.int p0, .int p1, .long p2] D cI cJ [] [] u := by
  refine mkL (own := RX2) rfl (by decide +kernel) (Nat.le_of_ble_eq_true rfl) (lv := [(0, .int p0), (1, .int p1), (2, .long p2)]) rfl ?_
  intro p e s m below meth c Q A ls ar S hA hK hN hret H locs hP hD hS hl
  obtain ⟨hx, hb, hml, hown, hts⟩ := id S
  have hret : ∀ (w : Int64), w = u → ∀ (H : Heap) (locs : List Loc) (ls : Array Slot) (pc : Nat), decode cX2_signed pc = .ok (.lreturn, 1) → va_P D vwCl [] H → va_D A [] → va_S A s.heap H locs → W p l e (rmz 1 20) s m ar below meth c H locs 0 0 Q (F0 m pc ls [.long w]) := fun w hw => hw ▸ hret
  unfold f_X2_signed at hf
  refine lv_iload_n hx hb dX2_signed_0 rfl (lv_at hl 1 rfl) ?_
  refine lv_if_eq (tgt := 13) hx hb dX2_signed_1 (by decide) (fun hc3 => ?_) (fun hc3 => ?_)
  · have hf := ifT hc3 hf
    refine lv_lload_n hx hb dX2_signed_13 rfl (lv_at hl 2 rfl) ?_
    exact hret _ (opE hf) H locs ls 14 dX2_signed_14 hP hD hS
  · have hf := ifF hc3 hf
    refine lv_lload_n hx hb dX2_signed_4 rfl (lv_at hl 2 rfl) ?_
    refine lv_iload_n hx hb dX2_signed_5 rfl (lv_at hl 0 rfl) ?_
    obtain ⟨u1, hu2, hf⟩ := bdE hf
    refine cS_L (ws' := []) (rest := [.long p2]) S hK hN hA hP hD hS (c_X2_signBit l D cI cJ  p0  u1 hu2) mwX2_signBit msX2_signBit kmX2_19 [] rfl (by decide) rfl rfl rfl ⟨Nat.le_of_ble_eq_true rfl, Nat.le_of_ble_eq_true rfl⟩ ⟨Nat.zero_le _, Nat.zero_le _⟩ hl.1 rfl rfl (Nat.le_of_ble_eq_true rfl) dX2_signed_6 (fun H locs hP hD hS => ?_)
    refine lv_lor hx hb dX2_signed_9 ?_
    refine lv_goto (tgt := 14) hx hb dX2_signed_10 (by decide) ?_
    exact hret _ (opE hf) H locs ls 14 dX2_signed_14 hP hD hS
set_option maxRecDepth 100000 in
set_option maxHeartbeats 4000000 in
theorem c_X2_nought (l : Launch) (D : va_G) (cI cJ : ClassId) (p0 : Int32) (p1 : Int32)  (u : Int64) (hf : f_X2_nought p0 p1 = some u) : CtL l yX2_nought cX2_nought 2 2 43 [.int p0, .int p1] D cI cJ [] [] u := by
  refine mkL (own := RX2) rfl (by decide +kernel) (Nat.le_of_ble_eq_true rfl) (lv := [(0, .int p0), (1, .int p1)]) rfl ?_
  intro p e s m below meth c Q A ls ar S hA hK hN hret H locs hP hD hS hl
  obtain ⟨hx, hb, hml, hown, hts⟩ := id S
  have hret : ∀ (w : Int64), w = u → ∀ (H : Heap) (locs : List Loc) (ls : Array Slot) (pc : Nat), decode cX2_nought pc = .ok (.lreturn, 1) → va_P D vwCl [] H → va_D A [] → va_S A s.heap H locs → W p l e (rmz 2 43) s m ar below meth c H locs 0 0 Q (F0 m pc ls [.long w]) := fun w hw => hw ▸ hret
  unfold f_X2_nought at hf
  refine lv_iload_n hx hb dX2_nought_0 rfl (lv_at hl 0 rfl) ?_
  refine lv_iload_n hx hb dX2_nought_1 rfl (lv_at hl 1 rfl) ?_
  refine lv_lconst (v := 0) hx hb dX2_nought_2 (by decide) ?_
  obtain ⟨u1, hu2, hf⟩ := bdE hf
  refine cS_L (ws' := []) (rest := []) S hK hN hA hP hD hS (c_X2_signed l D cI cJ  p0 p1 (0 : Int64)  u1 hu2) mwX2_signed msX2_signed kmX2_25 [] rfl (by decide) rfl rfl rfl ⟨Nat.le_of_ble_eq_true rfl, Nat.le_of_ble_eq_true rfl⟩ ⟨Nat.zero_le _, Nat.zero_le _⟩ hl.1 rfl rfl (Nat.le_of_ble_eq_true rfl) dX2_nought_3 (fun H locs hP hD hS => ?_)
  exact hret _ (opE hf) H locs ls 6 dX2_nought_6 hP hD hS
set_option maxRecDepth 100000 in
set_option maxHeartbeats 4000000 in
theorem c_X2_precision (l : Launch) (D : va_G) (cI cJ : ClassId) (p0 : Int32)  (u : Int32) (hf : f_X2_precision p0 = some u) : CtI l yX2_precision cX2_precision 1 0 0 .int [.int p0] D cI cJ [] [] u := by
  refine mkI (own := RX2) rfl (by decide +kernel) (Nat.le_of_ble_eq_true rfl) (lv := [(0, .int p0)]) rfl ?_
  intro p e s m below meth c Q A ls ar S hA hK hN hret H locs hP hD hS hl
  obtain ⟨hx, hb, hml, hown, hts⟩ := id S
  have hret : ∀ (w : Int32), w = u → ∀ (H : Heap) (locs : List Loc) (ls : Array Slot) (pc : Nat), decode cX2_precision pc = .ok (.ireturn, 1) → va_P D vwCl [] H → va_D A [] → va_S A s.heap H locs → W p l e (rmz 0 0) s m ar below meth c H locs 0 0 Q (F0 m pc ls [.int w]) := fun w hw => hw ▸ hret
  unfold f_X2_precision at hf
  refine lv_iload_n hx hb dX2_precision_0 rfl (lv_at hl 0 rfl) ?_
  refine lv_if_ne (tgt := 9) hx hb dX2_precision_1 (by decide) (fun hc1 => ?_) (fun hc1 => ?_)
  · have hf := ifF hc1 hf
    refine lv_bipush (v := 53) hx hb dX2_precision_9 (by decide) ?_
    exact hret _ (opE hf) H locs ls 11 dX2_precision_11 hP hD hS
  · have hf := ifT hc1 hf
    refine lv_bipush (v := 24) hx hb dX2_precision_4 (by decide) ?_
    refine lv_goto (tgt := 11) hx hb dX2_precision_6 (by decide) ?_
    exact hret _ (opE hf) H locs ls 11 dX2_precision_11 hP hD hS
set_option maxRecDepth 100000 in
set_option maxHeartbeats 4000000 in
theorem c_X2_tooGreat (l : Launch) (D : va_G) (cI cJ : ClassId) (p0 : Int32) (p1 : Int32) (p2 : Int32)  (u : Int64) (hf : f_X2_tooGreat p0 p1 p2 = some u) : CtL l yX2_tooGreat cX2_tooGreat 4 2 43 [.int p0, .int p1, .int p2] D cI cJ [] [] u := by
  refine mkL (own := RX2) rfl (by decide +kernel) (Nat.le_of_ble_eq_true rfl) (lv := [(0, .int p0), (1, .int p1), (2, .int p2)]) rfl ?_
  intro p e s m below meth c Q A ls ar S hA hK hN hret H locs hP hD hS hl
  obtain ⟨hx, hb, hml, hown, hts⟩ := id S
  have hret : ∀ (w : Int64), w = u → ∀ (H : Heap) (locs : List Loc) (ls : Array Slot) (pc : Nat), decode cX2_tooGreat pc = .ok (.lreturn, 1) → va_P D vwCl [] H → va_D A [] → va_S A s.heap H locs → W p l e (rmz 2 43) s m ar below meth c H locs 0 0 Q (F0 m pc ls [.long w]) := fun w hw => hw ▸ hret
  have keyB38 : ∀ (s0 : Int32) (s1 : Int32) (s2 : Int64) (s3 : Int32) (H : Heap) (locs : List Loc) (ls : Array Slot), f_X2_tooGreat_B38 s0 s1 s2 s3 = some u → va_P D vwCl [] H → va_D A [] → va_S A s.heap H locs → lv_has ls 4 [] → W p l e (rmz 2 43) s m ar below meth c H locs 0 0 Q (F0 m 38 ls [.int s3, .long s2, .int s1, .int s0]) := by
    intro s0 s1 s2 s3 H locs ls hf hP hD hS hl
    unfold f_X2_tooGreat_B38 at hf
    refine lv_i2l (v := s3.toInt64) hx hb dX2_tooGreat_38 rfl ?_
    refine lv_lsub hx hb dX2_tooGreat_39 ?_
    obtain ⟨u3, hu4, hf⟩ := bdE hf
    refine cS_L (ws' := []) (rest := []) S hK hN hA hP hD hS (c_X2_signed l D cI cJ  s0 s1 (s2 - s3.toInt64)  u3 hu4) mwX2_signed msX2_signed kmX2_25 [] rfl (by decide) rfl rfl rfl ⟨Nat.le_of_ble_eq_true rfl, Nat.le_of_ble_eq_true rfl⟩ ⟨Nat.zero_le _, Nat.zero_le _⟩ hl.1 rfl rfl (Nat.le_of_ble_eq_true rfl) dX2_tooGreat_40 (fun H locs hP hD hS => ?_)
    exact hret _ (opE hf) H locs ls 43 dX2_tooGreat_43 hP hD hS
  have keyB22 : ∀ (v0 : Int32) (v1 : Int32) (s0 : Int32) (H : Heap) (locs : List Loc) (ls : Array Slot), f_X2_tooGreat_B22 v0 v1 s0 = some u → va_P D vwCl [] H → va_D A [] → va_S A s.heap H locs → lv_has ls 4 [(0, .int v0), (1, .int v1)] → W p l e (rmz 2 43) s m ar below meth c H locs 0 0 Q (F0 m 22 ls [.int s0]) := by
    intro v0 v1 s0 H locs ls hf hP hD hS hl
    unfold f_X2_tooGreat_B22 at hf
    refine lv_istore_n (lv' := [(3, .int s0), (0, .int v0), (1, .int v1)]) hx hb dX2_tooGreat_22 rfl hl (by decide) rfl (fun ls hl => ?_)
    refine lv_iload_n hx hb dX2_tooGreat_23 rfl (lv_at hl 1 rfl) ?_
    refine lv_iload_n hx hb dX2_tooGreat_24 rfl (lv_at hl 2 rfl) ?_
    refine lv_iload_n hx hb dX2_tooGreat_25 rfl (lv_at hl 1 rfl) ?_
    obtain ⟨u1, hu2, hf⟩ := bdE hf
    refine cS_L (ws' := []) (rest := [.int v1, .int v0]) S hK hN hA hP hD hS (c_X2_endlessSize l D cI cJ  v0  u1 hu2) mwX2_endlessSize msX2_endlessSize kmX2_29 [] rfl (by decide) rfl rfl rfl ⟨Nat.le_of_ble_eq_true rfl, Nat.le_of_ble_eq_true rfl⟩ ⟨Nat.zero_le _, Nat.zero_le _⟩ hl.1 rfl rfl (Nat.le_of_ble_eq_true rfl) dX2_tooGreat_26 (fun H locs hP hD hS => ?_)
    refine lv_iload_n hx hb dX2_tooGreat_29 rfl (lv_at hl 0 rfl) ?_
    refine lv_if_eq (tgt := 37) hx hb dX2_tooGreat_30 (by decide) (fun hc5 => ?_) (fun hc5 => ?_)
    · have hf := ifT hc5 hf
      refine lv_iconst (v := 1) hx hb dX2_tooGreat_37 (by decide) ?_
      exact keyB38 v0 v1 u1 (1 : Int32) H locs ls hf hP hD hS (lv_sub hl [] rfl)
    · have hf := ifF hc5 hf
      refine lv_iconst (v := 0) hx hb dX2_tooGreat_33 (by decide) ?_
      refine lv_goto (tgt := 38) hx hb dX2_tooGreat_34 (by decide) ?_
      exact keyB38 v0 v1 u1 (0 : Int32) H locs ls hf hP hD hS (lv_sub hl [] rfl)
  have keyB17 : ∀ (v0 : Int32) (v1 : Int32) (H : Heap) (locs : List Loc) (ls : Array Slot), f_X2_tooGreat_B17 v0 v1 = some u → va_P D vwCl [] H → va_D A [] → va_S A s.heap H locs → lv_has ls 4 [(0, .int v0), (1, .int v1)] → W p l e (rmz 2 43) s m ar below meth c H locs 0 0 Q (F0 m 17 ls []) := by
    intro v0 v1 H locs ls hf hP hD hS hl
    unfold f_X2_tooGreat_B17 at hf
    refine lv_iconst (v := 1) hx hb dX2_tooGreat_17 (by decide) ?_
    refine lv_goto (tgt := 22) hx hb dX2_tooGreat_18 (by decide) ?_
    exact keyB22 v0 v1 (1 : Int32) H locs ls hf hP hD hS (lv_sub hl [0, 1] rfl)
  have keyB14 : ∀ (v0 : Int32) (v1 : Int32) (s0 : Int32) (s1 : Int32) (H : Heap) (locs : List Loc) (ls : Array Slot), f_X2_tooGreat_B14 v0 v1 s0 s1 = some u → va_P D vwCl [] H → va_D A [] → va_S A s.heap H locs → lv_has ls 4 [(0, .int v0), (1, .int v1)] → W p l e (rmz 2 43) s m ar below meth c H locs 0 0 Q (F0 m 14 ls [.int s1, .int s0]) := by
    intro v0 v1 s0 s1 H locs ls hf hP hD hS hl
    unfold f_X2_tooGreat_B14 at hf
    refine lv_icmp_ne (tgt := 21) hx hb dX2_tooGreat_14 (by decide) (fun hc6 => ?_) (fun hc6 => ?_)
    · have hf := ifF hc6 hf
      refine lv_iconst (v := 0) hx hb dX2_tooGreat_21 (by decide) ?_
      exact keyB22 v0 v1 (0 : Int32) H locs ls hf hP hD hS (lv_sub hl [0, 1] rfl)
    · have hf := ifT hc6 hf
      exact keyB17 v0 v1 H locs ls hf hP hD hS (lv_sub hl [0, 1] rfl)
  unfold f_X2_tooGreat at hf
  refine lv_iload_n hx hb dX2_tooGreat_0 rfl (lv_at hl 2 rfl) ?_
  refine lv_if_eq (tgt := 17) hx hb dX2_tooGreat_1 (by decide) (fun hc8 => ?_) (fun hc8 => ?_)
  · have hf := ifT hc8 hf
    exact keyB17 p0 p1 H locs ls hf hP hD hS (lv_sub hl [0, 1] rfl)
  · have hf := ifF hc8 hf
    refine lv_iload_n hx hb dX2_tooGreat_4 rfl (lv_at hl 2 rfl) ?_
    refine lv_iload_n hx hb dX2_tooGreat_5 rfl (lv_at hl 1 rfl) ?_
    refine lv_if_eq (tgt := 13) hx hb dX2_tooGreat_6 (by decide) (fun hc7 => ?_) (fun hc7 => ?_)
    · have hf := ifT hc7 hf
      refine lv_iconst (v := 2) hx hb dX2_tooGreat_13 (by decide) ?_
      exact keyB14 p0 p1 p2 (2 : Int32) H locs ls hf hP hD hS (lv_sub hl [0, 1] rfl)
    · have hf := ifF hc7 hf
      refine lv_iconst (v := 3) hx hb dX2_tooGreat_9 (by decide) ?_
      refine lv_goto (tgt := 14) hx hb dX2_tooGreat_10 (by decide) ?_
      exact keyB14 p0 p1 p2 (3 : Int32) H locs ls hf hP hD hS (lv_sub hl [0, 1] rfl)
set_option maxRecDepth 100000 in
set_option maxHeartbeats 4000000 in
theorem c_X4_limb (l : Launch) (D : va_G) (cI cJ : ClassId) (a_p0 a_p0_limbs : Nat) (p1 : Int32) (p0_size : Int32) (p0_limbs : (Nat → Int64)) (u : Int64) (hf : f_X4_limb p0_size p0_limbs p1 = some u) : CtL l yX4_limb cX4_limb 2 0 0 [.ref a_p0, .int p1] D cI cJ [(a_p0, .inr (5, [.ref a_p0_limbs, .int p0_size])), (a_p0_limbs, .inl (cJ, 160, .inr (.inl p0_limbs)))] [(a_p0, .inr (5, [.ref a_p0_limbs, .int p0_size])), (a_p0_limbs, .inl (cJ, 160, .inr (.inl p0_limbs)))] u := by
  refine mkL (own := RX4) rfl (by decide +kernel) (Nat.le_of_ble_eq_true rfl) (lv := [(0, .ref a_p0), (1, .int p1)]) rfl ?_
  intro p e s m below meth c Q A ls ar S hA hK hN hret H locs hP hD hS hl
  obtain ⟨hx, hb, hml, hown, hts⟩ := id S
  have hret : ∀ (w : Int64), w = u → ∀ (H : Heap) (locs : List Loc) (ls : Array Slot) (pc : Nat), decode cX4_limb pc = .ok (.lreturn, 1) → va_P D vwCl [(a_p0, .inr (5, [.ref a_p0_limbs, .int p0_size])), (a_p0_limbs, .inl (cJ, 160, .inr (.inl p0_limbs)))] H → va_D A [(a_p0, .inr (5, [.ref a_p0_limbs, .int p0_size])), (a_p0_limbs, .inl (cJ, 160, .inr (.inl p0_limbs)))] → va_S A s.heap H locs → W p l e (rmz 0 0) s m ar below meth c H locs 0 0 Q (F0 m pc ls [.long w]) := fun w hw => hw ▸ hret
  unfold f_X4_limb at hf
  refine lv_iload_n hx hb dX4_limb_0 rfl (lv_at hl 1 rfl) ?_
  refine lv_if_lt (tgt := 21) hx hb dX4_limb_1 (by decide) (fun hc3 => ?_) (fun hc3 => ?_)
  · have hf := ifT hc3 hf
    refine lv_lconst (v := 0) hx hb dX4_limb_21 (by decide) ?_
    exact hret _ (opE hf) H locs ls 22 dX4_limb_22 hP hD hS
  · have hf := ifF hc3 hf
    refine lv_iload_n hx hb dX4_limb_4 rfl (lv_at hl 1 rfl) ?_
    refine lv_aload_n hx hb dX4_limb_5 rfl (lv_at hl 0 rfl) ?_
    refine va_get (D := D) (ci := 5) (v := .int p0_size) (C := RX4) (T := TX4) (N := 2) hx hb hts uwX4 hown hK hP 0 rfl rfl 1 (by decide) (hts _ kfX4_15) (fun _ h9 => h9) rfl dX4_limb_6 ?_
    refine lv_icmp_ge (tgt := 21) hx hb dX4_limb_9 (by decide) (fun hc2 => ?_) (fun hc2 => ?_)
    · have hf := ifT hc2 hf
      refine lv_lconst (v := 0) hx hb dX4_limb_21 (by decide) ?_
      exact hret _ (opE hf) H locs ls 22 dX4_limb_22 hP hD hS
    · have hf := ifF hc2 hf
      refine lv_aload_n hx hb dX4_limb_12 rfl (lv_at hl 0 rfl) ?_
      refine va_get (D := D) (ci := 5) (v := .ref a_p0_limbs) (C := RX4) (T := TX4) (N := 2) hx hb hts uwX4 hown hK hP 0 rfl rfl 0 (by decide) (hts _ kfX4_9) (fun _ h9 => h9) rfl dX4_limb_13 ?_
      refine lv_iload_n hx hb dX4_limb_16 rfl (lv_at hl 1 rfl) ?_
      obtain ⟨hi1, hf⟩ := gdE hf
      refine va_lald hx hb hK hP 1 1 rfl rfl hi1 dX4_limb_17 ?_
      refine lv_goto (tgt := 22) hx hb dX4_limb_18 (by decide) ?_
      exact hret _ (opE hf) H locs ls 22 dX4_limb_22 hP hD hS
set_option maxRecDepth 100000 in
set_option maxHeartbeats 4000000 in
theorem c_X4_anyBelow (l : Launch) (D : va_G) (cI cJ : ClassId) (a_p0 a_p0_limbs : Nat) (p1 : Int32) (p0_size : Int32) (p0_limbs : (Nat → Int64)) (u : Int32) (hf : f_X4_anyBelow p0_size p0_limbs p1 = some u) : CtI l yX4_anyBelow cX4_anyBelow 4 1 21 .boolean [.ref a_p0, .int p1] D cI cJ [(a_p0, .inr (5, [.ref a_p0_limbs, .int p0_size])), (a_p0_limbs, .inl (cJ, 160, .inr (.inl p0_limbs)))] [(a_p0, .inr (5, [.ref a_p0_limbs, .int p0_size])), (a_p0_limbs, .inl (cJ, 160, .inr (.inl p0_limbs)))] u := by
  refine mkZ (own := RX4) rfl (by decide +kernel) (Nat.le_of_ble_eq_true rfl) (lv := [(0, .ref a_p0), (1, .int p1)]) rfl ?_
  intro p e s m below meth c Q A ls ar S hA hK hN hret H locs hP hD hS hl
  obtain ⟨hx, hb, hml, hown, hts⟩ := id S
  have hret : ∀ (w : Int32), w = u → ∀ (H : Heap) (locs : List Loc) (ls : Array Slot) (pc : Nat), decode cX4_anyBelow pc = .ok (.ireturn, 1) → (w = 0 ∨ w = 1) → va_P D vwCl [(a_p0, .inr (5, [.ref a_p0_limbs, .int p0_size])), (a_p0_limbs, .inl (cJ, 160, .inr (.inl p0_limbs)))] H → va_D A [(a_p0, .inr (5, [.ref a_p0_limbs, .int p0_size])), (a_p0_limbs, .inl (cJ, 160, .inr (.inl p0_limbs)))] → va_S A s.heap H locs → W p l e (rmz 1 21) s m ar below meth c H locs 0 0 Q (F0 m pc ls [.int w]) := fun w hw => hw ▸ hret
  have keyB38 : ∀ (v1 : Int32) (v2 : Int32) (H : Heap) (locs : List Loc) (ls : Array Slot), f_X4_anyBelow_B38 p0_size p0_limbs v1 v2 = some u → va_P D vwCl [(a_p0, .inr (5, [.ref a_p0_limbs, .int p0_size])), (a_p0_limbs, .inl (cJ, 160, .inr (.inl p0_limbs)))] H → va_D A [(a_p0, .inr (5, [.ref a_p0_limbs, .int p0_size])), (a_p0_limbs, .inl (cJ, 160, .inr (.inl p0_limbs)))] → va_S A s.heap H locs → lv_has ls 4 [(0, .ref a_p0), (1, .int v1), (2, .int v2)] → W p l e (rmz 1 21) s m ar below meth c H locs 0 0 Q (F0 m 38 ls []) := by
    intro v1 v2 H locs ls hf hP hD hS hl
    unfold f_X4_anyBelow_B38 at hf
    refine lv_aload_n hx hb dX4_anyBelow_38 rfl (lv_at hl 0 rfl) ?_
    refine lv_iload_n hx hb dX4_anyBelow_39 rfl (lv_at hl 2 rfl) ?_
    obtain ⟨u1, hu2, hf⟩ := bdE hf
    refine cV_L (ws' := [(a_p0, .inr (5, [.ref a_p0_limbs, .int p0_size])), (a_p0_limbs, .inl (cJ, 160, .inr (.inl p0_limbs)))]) (rest := []) S hK hN hA hP hD hS (c_X4_limb l D cI cJ a_p0 a_p0_limbs v2 p0_size p0_limbs u1 hu2) mwX4_limb miX4_limb kmX4_30 [0, 1] rfl (by decide) rfl rfl rfl 0 rfl rfl ⟨Nat.le_of_ble_eq_true rfl, Nat.le_of_ble_eq_true rfl⟩ ⟨Nat.zero_le _, Nat.zero_le _⟩ hl.1 rfl rfl (Nat.le_of_ble_eq_true rfl) dX4_anyBelow_40 (fun H locs hP hD hS => ?_)
    refine lv_lconst (v := 1) hx hb dX4_anyBelow_43 (by decide) ?_
    refine lv_iload_n hx hb dX4_anyBelow_44 rfl (lv_at hl 1 rfl) ?_
    refine lv_bipush (v := 31) hx hb dX4_anyBelow_45 (by decide) ?_
    refine lv_iand hx hb dX4_anyBelow_47 ?_
    refine lv_lshl (v := lsh (1 : Int64) (v1 &&& (31 : Int32))) hx hb dX4_anyBelow_48 rfl ?_
    refine lv_lconst (v := 1) hx hb dX4_anyBelow_49 (by decide) ?_
    refine lv_lsub hx hb dX4_anyBelow_50 ?_
    refine lv_land hx hb dX4_anyBelow_51 ?_
    refine lv_lconst (v := 0) hx hb dX4_anyBelow_52 (by decide) ?_
    refine W.lcmp hx hb dX4_anyBelow_53 ?_
    refine lv_if_eq (tgt := 61) hx hb dX4_anyBelow_54 (by decide) (fun hc3 => ?_) (fun hc3 => ?_)
    · have hf := ifT hc3 hf
      refine lv_iconst (v := 0) hx hb dX4_anyBelow_61 (by decide) ?_
      exact hret _ (opE hf) H locs ls 62 dX4_anyBelow_62 (Or.inl rfl) hP hD hS
    · have hf := ifF hc3 hf
      refine lv_iconst (v := 1) hx hb dX4_anyBelow_57 (by decide) ?_
      refine lv_goto (tgt := 62) hx hb dX4_anyBelow_58 (by decide) ?_
      exact hret _ (opE hf) H locs ls 62 dX4_anyBelow_62 (Or.inr rfl) hP hD hS
  have keyL6 : ∀ (n : Nat) (v1 : Int32) (v2 : Int32) (v3 : Int32) (H : Heap) (locs : List Loc) (ls : Array Slot), f_X4_anyBelow_L6 p0_size p0_limbs n v1 v2 v3 = some u → va_P D vwCl [(a_p0, .inr (5, [.ref a_p0_limbs, .int p0_size])), (a_p0_limbs, .inl (cJ, 160, .inr (.inl p0_limbs)))] H → va_D A [(a_p0, .inr (5, [.ref a_p0_limbs, .int p0_size])), (a_p0_limbs, .inl (cJ, 160, .inr (.inl p0_limbs)))] → va_S A s.heap H locs → lv_has ls 4 [(0, .ref a_p0), (1, .int v1), (2, .int v2), (3, .int v3)] → W p l e (rmz 1 21) s m ar below meth c H locs 0 0 Q (F0 m 6 ls []) := by
    intro n
    induction n with
      | zero =>
        intro v1 v2 v3 H locs ls hf
        cases hf
      | succ n ih =>
        intro v1 v2 v3 H locs ls hf hP hD hS hl
        rw [f_X4_anyBelow_L6] at hf
        refine lv_iload_n hx hb dX4_anyBelow_6 rfl (lv_at hl 3 rfl) ?_
        refine lv_iload_n hx hb dX4_anyBelow_7 rfl (lv_at hl 2 rfl) ?_
        refine lv_icmp_ge (tgt := 38) hx hb dX4_anyBelow_8 (by decide) (fun hc7 => ?_) (fun hc7 => ?_)
        · have hf := ifT hc7 hf
          exact keyB38 v1 v2 H locs ls hf hP hD hS (lv_sub hl [0, 1, 2] rfl)
        · have hf := ifF hc7 hf
          refine lv_iload_n hx hb dX4_anyBelow_11 rfl (lv_at hl 3 rfl) ?_
          refine lv_aload_n hx hb dX4_anyBelow_12 rfl (lv_at hl 0 rfl) ?_
          refine va_get (D := D) (ci := 5) (v := .int p0_size) (C := RX4) (T := TX4) (N := 2) hx hb hts uwX4 hown hK hP 0 rfl rfl 1 (by decide) (hts _ kfX4_15) (fun _ h9 => h9) rfl dX4_anyBelow_13 ?_
          refine lv_icmp_ge (tgt := 38) hx hb dX4_anyBelow_16 (by decide) (fun hc6 => ?_) (fun hc6 => ?_)
          · have hf := ifT hc6 hf
            exact keyB38 v1 v2 H locs ls hf hP hD hS (lv_sub hl [0, 1, 2] rfl)
          · have hf := ifF hc6 hf
            refine lv_aload_n hx hb dX4_anyBelow_19 rfl (lv_at hl 0 rfl) ?_
            refine va_get (D := D) (ci := 5) (v := .ref a_p0_limbs) (C := RX4) (T := TX4) (N := 2) hx hb hts uwX4 hown hK hP 0 rfl rfl 0 (by decide) (hts _ kfX4_9) (fun _ h9 => h9) rfl dX4_anyBelow_20 ?_
            refine lv_iload_n hx hb dX4_anyBelow_23 rfl (lv_at hl 3 rfl) ?_
            obtain ⟨hi4, hf⟩ := gdE hf
            refine va_lald hx hb hK hP 1 1 rfl rfl hi4 dX4_anyBelow_24 ?_
            refine lv_lconst (v := 0) hx hb dX4_anyBelow_25 (by decide) ?_
            refine W.lcmp hx hb dX4_anyBelow_26 ?_
            refine lv_if_eq (tgt := 32) hx hb dX4_anyBelow_27 (by decide) (fun hc5 => ?_) (fun hc5 => ?_)
            · have hf := ifT hc5 hf
              refine lv_iinc (v := v3 + (1 : Int32)) (lv' := [(3, .int (v3 + (1 : Int32))), (0, .ref a_p0), (1, .int v1), (2, .int v2)]) hx hb dX4_anyBelow_32 hl (k := 3) rfl (by rfl) (by decide) rfl (fun ls hl => ?_)
              refine lv_goto (tgt := 6) hx hb dX4_anyBelow_35 (by decide) ?_
              exact ih v1 v2 (v3 + (1 : Int32)) H locs ls hf hP hD hS (lv_sub hl [1, 2, 3, 0] rfl)
            · have hf := ifF hc5 hf
              refine lv_iconst (v := 1) hx hb dX4_anyBelow_30 (by decide) ?_
              exact hret _ (opE hf) H locs ls 31 dX4_anyBelow_31 (Or.inr rfl) hP hD hS
  unfold f_X4_anyBelow at hf
  refine lv_iload_n hx hb dX4_anyBelow_0 rfl (lv_at hl 1 rfl) ?_
  refine lv_iconst (v := 5) hx hb dX4_anyBelow_1 (by decide) ?_
  refine lv_ishr hx hb dX4_anyBelow_2 ?_
  refine lv_istore_n (lv' := [(2, .int (isr p1 (5 : Int32))), (0, .ref a_p0), (1, .int p1)]) hx hb dX4_anyBelow_3 rfl hl (by decide) rfl (fun ls hl => ?_)
  refine lv_iconst (v := 0) hx hb dX4_anyBelow_4 (by decide) ?_
  refine lv_istore_n (lv' := [(3, .int (0 : Int32)), (2, .int (isr p1 (5 : Int32))), (0, .ref a_p0), (1, .int p1)]) hx hb dX4_anyBelow_5 rfl hl (by decide) rfl (fun ls hl => ?_)
  exact keyL6 FU p1 (isr p1 (5 : Int32)) (0 : Int32) H locs ls hf hP hD hS (lv_sub hl [2, 3, 1, 0] rfl)
set_option maxRecDepth 100000 in
set_option maxHeartbeats 4000000 in
theorem c_X4_bit (l : Launch) (D : va_G) (cI cJ : ClassId) (a_p0 a_p0_limbs : Nat) (p1 : Int32) (p0_size : Int32) (p0_limbs : (Nat → Int64)) (u : Int32) (hf : f_X4_bit p0_size p0_limbs p1 = some u) : CtI l yX4_bit cX4_bit 2 1 21 .boolean [.ref a_p0, .int p1] D cI cJ [(a_p0, .inr (5, [.ref a_p0_limbs, .int p0_size])), (a_p0_limbs, .inl (cJ, 160, .inr (.inl p0_limbs)))] [(a_p0, .inr (5, [.ref a_p0_limbs, .int p0_size])), (a_p0_limbs, .inl (cJ, 160, .inr (.inl p0_limbs)))] u := by
  refine mkZ (own := RX4) rfl (by decide +kernel) (Nat.le_of_ble_eq_true rfl) (lv := [(0, .ref a_p0), (1, .int p1)]) rfl ?_
  intro p e s m below meth c Q A ls ar S hA hK hN hret H locs hP hD hS hl
  obtain ⟨hx, hb, hml, hown, hts⟩ := id S
  have hret : ∀ (w : Int32), w = u → ∀ (H : Heap) (locs : List Loc) (ls : Array Slot) (pc : Nat), decode cX4_bit pc = .ok (.ireturn, 1) → (w = 0 ∨ w = 1) → va_P D vwCl [(a_p0, .inr (5, [.ref a_p0_limbs, .int p0_size])), (a_p0_limbs, .inl (cJ, 160, .inr (.inl p0_limbs)))] H → va_D A [(a_p0, .inr (5, [.ref a_p0_limbs, .int p0_size])), (a_p0_limbs, .inl (cJ, 160, .inr (.inl p0_limbs)))] → va_S A s.heap H locs → W p l e (rmz 1 21) s m ar below meth c H locs 0 0 Q (F0 m pc ls [.int w]) := fun w hw => hw ▸ hret
  unfold f_X4_bit at hf
  refine lv_aload_n hx hb dX4_bit_0 rfl (lv_at hl 0 rfl) ?_
  refine lv_iload_n hx hb dX4_bit_1 rfl (lv_at hl 1 rfl) ?_
  refine lv_iconst (v := 5) hx hb dX4_bit_2 (by decide) ?_
  refine lv_ishr hx hb dX4_bit_3 ?_
  obtain ⟨u1, hu2, hf⟩ := bdE hf
  refine cV_L (ws' := [(a_p0, .inr (5, [.ref a_p0_limbs, .int p0_size])), (a_p0_limbs, .inl (cJ, 160, .inr (.inl p0_limbs)))]) (rest := []) S hK hN hA hP hD hS (c_X4_limb l D cI cJ a_p0 a_p0_limbs (isr p1 (5 : Int32)) p0_size p0_limbs u1 hu2) mwX4_limb miX4_limb kmX4_30 [0, 1] rfl (by decide) rfl rfl rfl 0 rfl rfl ⟨Nat.le_of_ble_eq_true rfl, Nat.le_of_ble_eq_true rfl⟩ ⟨Nat.zero_le _, Nat.zero_le _⟩ hl.1 rfl rfl (Nat.le_of_ble_eq_true rfl) dX4_bit_4 (fun H locs hP hD hS => ?_)
  refine lv_iload_n hx hb dX4_bit_7 rfl (lv_at hl 1 rfl) ?_
  refine lv_bipush (v := 31) hx hb dX4_bit_8 (by decide) ?_
  refine lv_iand hx hb dX4_bit_10 ?_
  refine lv_lushr (v := lus u1 (p1 &&& (31 : Int32))) hx hb dX4_bit_11 rfl ?_
  refine lv_lconst (v := 1) hx hb dX4_bit_12 (by decide) ?_
  refine lv_land hx hb dX4_bit_13 ?_
  refine lv_lconst (v := 0) hx hb dX4_bit_14 (by decide) ?_
  refine W.lcmp hx hb dX4_bit_15 ?_
  refine lv_if_eq (tgt := 23) hx hb dX4_bit_16 (by decide) (fun hc3 => ?_) (fun hc3 => ?_)
  · have hf := ifT hc3 hf
    refine lv_iconst (v := 0) hx hb dX4_bit_23 (by decide) ?_
    exact hret _ (opE hf) H locs ls 24 dX4_bit_24 (Or.inl rfl) hP hD hS
  · have hf := ifF hc3 hf
    refine lv_iconst (v := 1) hx hb dX4_bit_19 (by decide) ?_
    refine lv_goto (tgt := 24) hx hb dX4_bit_20 (by decide) ?_
    exact hret _ (opE hf) H locs ls 24 dX4_bit_24 (Or.inr rfl) hP hD hS
set_option maxRecDepth 100000 in
set_option maxHeartbeats 4000000 in
theorem c_J6_numberOfLeadingZeros_0f7a4 (l : Launch) (D : va_G) (cI cJ : ClassId) (p0 : Int32)  (u : Int32) (hf : f_J6_numberOfLeadingZeros_0f7a4 p0 = some u) : CtI l yJ6_numberOfLeadingZeros_0f7a4 cJ6_numberOfLeadingZeros_0f7a4 2 0 0 .int [.int p0] D cI cJ [] [] u := by
  refine mkI (own := RJ6) rfl (by decide +kernel) (Nat.le_of_ble_eq_true rfl) (lv := [(0, .int p0)]) rfl ?_
  intro p e s m below meth c Q A ls ar S hA hK hN hret H locs hP hD hS hl
  obtain ⟨hx, hb, hml, hown, hts⟩ := id S
  have hret : ∀ (w : Int32), w = u → ∀ (H : Heap) (locs : List Loc) (ls : Array Slot) (pc : Nat), decode cJ6_numberOfLeadingZeros_0f7a4 pc = .ok (.ireturn, 1) → va_P D vwCl [] H → va_D A [] → va_S A s.heap H locs → W p l e (rmz 0 0) s m ar below meth c H locs 0 0 Q (F0 m pc ls [.int w]) := fun w hw => hw ▸ hret
  have keyB61 : ∀ (v0 : Int32) (v1 : Int32) (H : Heap) (locs : List Loc) (ls : Array Slot), f_J6_numberOfLeadingZeros_0f7a4_B61 v0 v1 = some u → va_P D vwCl [] H → va_D A [] → va_S A s.heap H locs → lv_has ls 2 [(0, .int v0), (1, .int v1)] → W p l e (rmz 0 0) s m ar below meth c H locs 0 0 Q (F0 m 61 ls []) := by
    intro v0 v1 H locs ls hf hP hD hS hl
    unfold f_J6_numberOfLeadingZeros_0f7a4_B61 at hf
    refine lv_iload_n hx hb dJ6_numberOfLeadingZeros_0f7a4_61 rfl (lv_at hl 0 rfl) ?_
    refine lv_iconst (v := 4) hx hb dJ6_numberOfLeadingZeros_0f7a4_62 (by decide) ?_
    refine lv_icmp_lt (tgt := 73) hx hb dJ6_numberOfLeadingZeros_0f7a4_63 (by decide) (fun hc1 => ?_) (fun hc1 => ?_)
    · have hf := ifT hc1 hf
      refine lv_iload_n hx hb dJ6_numberOfLeadingZeros_0f7a4_73 rfl (lv_at hl 1 rfl) ?_
      refine lv_iload_n hx hb dJ6_numberOfLeadingZeros_0f7a4_74 rfl (lv_at hl 0 rfl) ?_
      refine lv_iconst (v := 1) hx hb dJ6_numberOfLeadingZeros_0f7a4_75 (by decide) ?_
      refine lv_iushr (v := ius v0 (1 : Int32)) hx hb dJ6_numberOfLeadingZeros_0f7a4_76 rfl ?_
      refine lv_isub hx hb dJ6_numberOfLeadingZeros_0f7a4_77 ?_
      exact hret _ (opE hf) H locs ls 78 dJ6_numberOfLeadingZeros_0f7a4_78 hP hD hS
    · have hf := ifF hc1 hf
      refine lv_iinc (v := v1 + (-2 : Int32)) (lv' := [(1, .int (v1 + (-2 : Int32))), (0, .int v0)]) hx hb dJ6_numberOfLeadingZeros_0f7a4_66 hl (k := 1) rfl (by rfl) (by decide) rfl (fun ls hl => ?_)
      refine lv_iload_n hx hb dJ6_numberOfLeadingZeros_0f7a4_69 rfl (lv_at hl 1 rfl) ?_
      refine lv_iconst (v := 2) hx hb dJ6_numberOfLeadingZeros_0f7a4_70 (by decide) ?_
      refine lv_iushr (v := ius v0 (2 : Int32)) hx hb dJ6_numberOfLeadingZeros_0f7a4_71 rfl ?_
      refine lv_istore_n (lv' := [(0, .int (ius v0 (2 : Int32))), (1, .int (v1 + (-2 : Int32)))]) hx hb dJ6_numberOfLeadingZeros_0f7a4_72 rfl hl (by decide) rfl (fun ls hl => ?_)
      refine lv_iload_n hx hb dJ6_numberOfLeadingZeros_0f7a4_73 rfl (lv_at hl 1 rfl) ?_
      refine lv_iload_n hx hb dJ6_numberOfLeadingZeros_0f7a4_74 rfl (lv_at hl 0 rfl) ?_
      refine lv_iconst (v := 1) hx hb dJ6_numberOfLeadingZeros_0f7a4_75 (by decide) ?_
      refine lv_iushr (v := ius (ius v0 (2 : Int32)) (1 : Int32)) hx hb dJ6_numberOfLeadingZeros_0f7a4_76 rfl ?_
      refine lv_isub hx hb dJ6_numberOfLeadingZeros_0f7a4_77 ?_
      exact hret _ (opE hf) H locs ls 78 dJ6_numberOfLeadingZeros_0f7a4_78 hP hD hS
  have keyB48 : ∀ (v0 : Int32) (v1 : Int32) (H : Heap) (locs : List Loc) (ls : Array Slot), f_J6_numberOfLeadingZeros_0f7a4_B48 v0 v1 = some u → va_P D vwCl [] H → va_D A [] → va_S A s.heap H locs → lv_has ls 2 [(0, .int v0), (1, .int v1)] → W p l e (rmz 0 0) s m ar below meth c H locs 0 0 Q (F0 m 48 ls []) := by
    intro v0 v1 H locs ls hf hP hD hS hl
    unfold f_J6_numberOfLeadingZeros_0f7a4_B48 at hf
    refine lv_iload_n hx hb dJ6_numberOfLeadingZeros_0f7a4_48 rfl (lv_at hl 0 rfl) ?_
    refine lv_bipush (v := 16) hx hb dJ6_numberOfLeadingZeros_0f7a4_49 (by decide) ?_
    refine lv_icmp_lt (tgt := 61) hx hb dJ6_numberOfLeadingZeros_0f7a4_51 (by decide) (fun hc2 => ?_) (fun hc2 => ?_)
    · have hf := ifT hc2 hf
      exact keyB61 v0 v1 H locs ls hf hP hD hS (lv_sub hl [0, 1] rfl)
    · have hf := ifF hc2 hf
      refine lv_iinc (v := v1 + (-4 : Int32)) (lv' := [(1, .int (v1 + (-4 : Int32))), (0, .int v0)]) hx hb dJ6_numberOfLeadingZeros_0f7a4_54 hl (k := 1) rfl (by rfl) (by decide) rfl (fun ls hl => ?_)
      refine lv_iload_n hx hb dJ6_numberOfLeadingZeros_0f7a4_57 rfl (lv_at hl 1 rfl) ?_
      refine lv_iconst (v := 4) hx hb dJ6_numberOfLeadingZeros_0f7a4_58 (by decide) ?_
      refine lv_iushr (v := ius v0 (4 : Int32)) hx hb dJ6_numberOfLeadingZeros_0f7a4_59 rfl ?_
      refine lv_istore_n (lv' := [(0, .int (ius v0 (4 : Int32))), (1, .int (v1 + (-4 : Int32)))]) hx hb dJ6_numberOfLeadingZeros_0f7a4_60 rfl hl (by decide) rfl (fun ls hl => ?_)
      exact keyB61 (ius v0 (4 : Int32)) (v1 + (-4 : Int32)) H locs ls hf hP hD hS (lv_sub hl [0, 1] rfl)
  have keyB33 : ∀ (v0 : Int32) (v1 : Int32) (H : Heap) (locs : List Loc) (ls : Array Slot), f_J6_numberOfLeadingZeros_0f7a4_B33 v0 v1 = some u → va_P D vwCl [] H → va_D A [] → va_S A s.heap H locs → lv_has ls 2 [(0, .int v0), (1, .int v1)] → W p l e (rmz 0 0) s m ar below meth c H locs 0 0 Q (F0 m 33 ls []) := by
    intro v0 v1 H locs ls hf hP hD hS hl
    unfold f_J6_numberOfLeadingZeros_0f7a4_B33 at hf
    refine lv_iload_n hx hb dJ6_numberOfLeadingZeros_0f7a4_33 rfl (lv_at hl 0 rfl) ?_
    refine lv_sipush (v := 256) hx hb dJ6_numberOfLeadingZeros_0f7a4_34 (by decide) ?_
    refine lv_icmp_lt (tgt := 48) hx hb dJ6_numberOfLeadingZeros_0f7a4_37 (by decide) (fun hc3 => ?_) (fun hc3 => ?_)
    · have hf := ifT hc3 hf
      exact keyB48 v0 v1 H locs ls hf hP hD hS (lv_sub hl [0, 1] rfl)
    · have hf := ifF hc3 hf
      refine lv_iinc (v := v1 + (-8 : Int32)) (lv' := [(1, .int (v1 + (-8 : Int32))), (0, .int v0)]) hx hb dJ6_numberOfLeadingZeros_0f7a4_40 hl (k := 1) rfl (by rfl) (by decide) rfl (fun ls hl => ?_)
      refine lv_iload_n hx hb dJ6_numberOfLeadingZeros_0f7a4_43 rfl (lv_at hl 1 rfl) ?_
      refine lv_bipush (v := 8) hx hb dJ6_numberOfLeadingZeros_0f7a4_44 (by decide) ?_
      refine lv_iushr (v := ius v0 (8 : Int32)) hx hb dJ6_numberOfLeadingZeros_0f7a4_46 rfl ?_
      refine lv_istore_n (lv' := [(0, .int (ius v0 (8 : Int32))), (1, .int (v1 + (-8 : Int32)))]) hx hb dJ6_numberOfLeadingZeros_0f7a4_47 rfl hl (by decide) rfl (fun ls hl => ?_)
      exact keyB48 (ius v0 (8 : Int32)) (v1 + (-8 : Int32)) H locs ls hf hP hD hS (lv_sub hl [0, 1] rfl)
  unfold f_J6_numberOfLeadingZeros_0f7a4 at hf
  refine lv_iload_n hx hb dJ6_numberOfLeadingZeros_0f7a4_0 rfl (lv_at hl 0 rfl) ?_
  refine lv_if_gt (tgt := 15) hx hb dJ6_numberOfLeadingZeros_0f7a4_1 (by decide) (fun hc6 => ?_) (fun hc6 => ?_)
  · have hf := ifT hc6 hf
    refine lv_bipush (v := 31) hx hb dJ6_numberOfLeadingZeros_0f7a4_15 (by decide) ?_
    refine lv_istore_n (lv' := [(1, .int (31 : Int32)), (0, .int p0)]) hx hb dJ6_numberOfLeadingZeros_0f7a4_17 rfl hl (by decide) rfl (fun ls hl => ?_)
    refine lv_iload_n hx hb dJ6_numberOfLeadingZeros_0f7a4_18 rfl (lv_at hl 1 rfl) ?_
    refine lv_ldcw hx hb hown (hts _ kcJ6_264) dJ6_numberOfLeadingZeros_0f7a4_19 ?_
    refine lv_icmp_lt (tgt := 33) hx hb dJ6_numberOfLeadingZeros_0f7a4_22 (by decide) (fun hc4 => ?_) (fun hc4 => ?_)
    · have hf := ifT hc4 hf
      exact keyB33 p0 (31 : Int32) H locs ls hf hP hD hS (lv_sub hl [1, 0] rfl)
    · have hf := ifF hc4 hf
      refine lv_iinc (v := (31 : Int32) + (-16 : Int32)) (lv' := [(1, .int ((31 : Int32) + (-16 : Int32))), (0, .int p0)]) hx hb dJ6_numberOfLeadingZeros_0f7a4_25 hl (k := 0) rfl (by rfl) (by decide) rfl (fun ls hl => ?_)
      refine lv_iload_n hx hb dJ6_numberOfLeadingZeros_0f7a4_28 rfl (lv_at hl 1 rfl) ?_
      refine lv_bipush (v := 16) hx hb dJ6_numberOfLeadingZeros_0f7a4_29 (by decide) ?_
      refine lv_iushr (v := ius p0 (16 : Int32)) hx hb dJ6_numberOfLeadingZeros_0f7a4_31 rfl ?_
      refine lv_istore_n (lv' := [(0, .int (ius p0 (16 : Int32))), (1, .int ((31 : Int32) + (-16 : Int32)))]) hx hb dJ6_numberOfLeadingZeros_0f7a4_32 rfl hl (by decide) rfl (fun ls hl => ?_)
      exact keyB33 (ius p0 (16 : Int32)) ((31 : Int32) + (-16 : Int32)) H locs ls hf hP hD hS (lv_sub hl [0, 1] rfl)
  · have hf := ifF hc6 hf
    refine lv_iload_n hx hb dJ6_numberOfLeadingZeros_0f7a4_4 rfl (lv_at hl 0 rfl) ?_
    refine lv_if_ne (tgt := 13) hx hb dJ6_numberOfLeadingZeros_0f7a4_5 (by decide) (fun hc5 => ?_) (fun hc5 => ?_)
    · have hf := ifF hc5 hf
      refine lv_iconst (v := 0) hx hb dJ6_numberOfLeadingZeros_0f7a4_13 (by decide) ?_
      exact hret _ (opE hf) H locs ls 14 dJ6_numberOfLeadingZeros_0f7a4_14 hP hD hS
    · have hf := ifT hc5 hf
      refine lv_bipush (v := 32) hx hb dJ6_numberOfLeadingZeros_0f7a4_8 (by decide) ?_
      refine lv_goto (tgt := 14) hx hb dJ6_numberOfLeadingZeros_0f7a4_10 (by decide) ?_
      exact hret _ (opE hf) H locs ls 14 dJ6_numberOfLeadingZeros_0f7a4_14 hP hD hS
set_option maxRecDepth 100000 in
set_option maxHeartbeats 4000000 in
theorem c_J13_numberOfLeadingZeros_95d88 (l : Launch) (D : va_G) (cI cJ : ClassId) (p0 : Int64)  (u : Int32) (hf : f_J13_numberOfLeadingZeros_95d88 p0 = some u) : CtI l yJ13_numberOfLeadingZeros_95d88 cJ13_numberOfLeadingZeros_95d88 3 1 21 .int [.long p0] D cI cJ [] [] u := by
  refine mkI (own := RJ13) rfl (by decide +kernel) (Nat.le_of_ble_eq_true rfl) (lv := [(0, .long p0)]) rfl ?_
  intro p e s m below meth c Q A ls ar S hA hK hN hret H locs hP hD hS hl
  obtain ⟨hx, hb, hml, hown, hts⟩ := id S
  have hret : ∀ (w : Int32), w = u → ∀ (H : Heap) (locs : List Loc) (ls : Array Slot) (pc : Nat), decode cJ13_numberOfLeadingZeros_95d88 pc = .ok (.ireturn, 1) → va_P D vwCl [] H → va_D A [] → va_S A s.heap H locs → W p l e (rmz 1 21) s m ar below meth c H locs 0 0 Q (F0 m pc ls [.int w]) := fun w hw => hw ▸ hret
  unfold f_J13_numberOfLeadingZeros_95d88 at hf
  refine lv_lload_n hx hb dJ13_numberOfLeadingZeros_95d88_0 rfl (lv_at hl 0 rfl) ?_
  refine lv_bipush (v := 32) hx hb dJ13_numberOfLeadingZeros_95d88_1 (by decide) ?_
  refine lv_lushr (v := lus p0 (32 : Int32)) hx hb dJ13_numberOfLeadingZeros_95d88_3 rfl ?_
  refine lv_l2i (v := (lus p0 (32 : Int32)).toInt32) hx hb dJ13_numberOfLeadingZeros_95d88_4 rfl ?_
  refine lv_istore_n (lv' := [(2, .int ((lus p0 (32 : Int32)).toInt32)), (0, .long p0)]) hx hb dJ13_numberOfLeadingZeros_95d88_5 rfl hl (by decide) rfl (fun ls hl => ?_)
  refine lv_iload_n hx hb dJ13_numberOfLeadingZeros_95d88_6 rfl (lv_at hl 0 rfl) ?_
  refine lv_if_ne (tgt := 21) hx hb dJ13_numberOfLeadingZeros_95d88_7 (by decide) (fun hc5 => ?_) (fun hc5 => ?_)
  · have hf := ifF hc5 hf
    refine lv_iload_n hx hb dJ13_numberOfLeadingZeros_95d88_21 rfl (lv_at hl 0 rfl) ?_
    obtain ⟨u1, hu2, hf⟩ := bdE hf
    refine cS_I (ws' := []) (rest := []) S hK hN hA hP hD hS (c_J6_numberOfLeadingZeros_0f7a4 l D cI cJ  ((lus p0 (32 : Int32)).toInt32)  u1 hu2) mwJ6_numberOfLeadingZeros_0f7a4 msJ6_numberOfLeadingZeros_0f7a4 kmJ13_308 [] rfl (by decide) rfl rfl rfl ⟨Nat.le_of_ble_eq_true rfl, Nat.le_of_ble_eq_true rfl⟩ ⟨Nat.zero_le _, Nat.zero_le _⟩ hl.1 rfl rfl (Nat.le_of_ble_eq_true rfl) dJ13_numberOfLeadingZeros_95d88_22 (fun H locs hP hD hS => ?_)
    exact hret _ (opE hf) H locs ls 25 dJ13_numberOfLeadingZeros_95d88_25 hP hD hS
  · have hf := ifT hc5 hf
    refine lv_bipush (v := 32) hx hb dJ13_numberOfLeadingZeros_95d88_10 (by decide) ?_
    refine lv_lload_n hx hb dJ13_numberOfLeadingZeros_95d88_12 rfl (lv_at hl 1 rfl) ?_
    refine lv_l2i (v := p0.toInt32) hx hb dJ13_numberOfLeadingZeros_95d88_13 rfl ?_
    obtain ⟨u3, hu4, hf⟩ := bdE hf
    refine cS_I (ws' := []) (rest := [.int (32 : Int32)]) S hK hN hA hP hD hS (c_J6_numberOfLeadingZeros_0f7a4 l D cI cJ  p0.toInt32  u3 hu4) mwJ6_numberOfLeadingZeros_0f7a4 msJ6_numberOfLeadingZeros_0f7a4 kmJ13_308 [] rfl (by decide) rfl rfl rfl ⟨Nat.le_of_ble_eq_true rfl, Nat.le_of_ble_eq_true rfl⟩ ⟨Nat.zero_le _, Nat.zero_le _⟩ hl.1 rfl rfl (Nat.le_of_ble_eq_true rfl) dJ13_numberOfLeadingZeros_95d88_14 (fun H locs hP hD hS => ?_)
    refine lv_iadd hx hb dJ13_numberOfLeadingZeros_95d88_17 ?_
    refine lv_goto (tgt := 25) hx hb dJ13_numberOfLeadingZeros_95d88_18 (by decide) ?_
    exact hret _ (opE hf) H locs ls 25 dJ13_numberOfLeadingZeros_95d88_25 hP hD hS
set_option maxRecDepth 100000 in
set_option maxHeartbeats 4000000 in
theorem c_X4_bits (l : Launch) (D : va_G) (cI cJ : ClassId) (a_p0 a_p0_limbs : Nat) (p0_size : Int32) (p0_limbs : (Nat → Int64)) (u : Int32) (hf : f_X4_bits p0_size p0_limbs = some u) : CtI l yX4_bits cX4_bits 1 2 43 .int [.ref a_p0] D cI cJ [(a_p0, .inr (5, [.ref a_p0_limbs, .int p0_size])), (a_p0_limbs, .inl (cJ, 160, .inr (.inl p0_limbs)))] [(a_p0, .inr (5, [.ref a_p0_limbs, .int p0_size])), (a_p0_limbs, .inl (cJ, 160, .inr (.inl p0_limbs)))] u := by
  refine mkI (own := RX4) rfl (by decide +kernel) (Nat.le_of_ble_eq_true rfl) (lv := [(0, .ref a_p0)]) rfl ?_
  intro p e s m below meth c Q A ls ar S hA hK hN hret H locs hP hD hS hl
  obtain ⟨hx, hb, hml, hown, hts⟩ := id S
  have hret : ∀ (w : Int32), w = u → ∀ (H : Heap) (locs : List Loc) (ls : Array Slot) (pc : Nat), decode cX4_bits pc = .ok (.ireturn, 1) → va_P D vwCl [(a_p0, .inr (5, [.ref a_p0_limbs, .int p0_size])), (a_p0_limbs, .inl (cJ, 160, .inr (.inl p0_limbs)))] H → va_D A [(a_p0, .inr (5, [.ref a_p0_limbs, .int p0_size])), (a_p0_limbs, .inl (cJ, 160, .inr (.inl p0_limbs)))] → va_S A s.heap H locs → W p l e (rmz 2 43) s m ar below meth c H locs 0 0 Q (F0 m pc ls [.int w]) := fun w hw => hw ▸ hret
  unfold f_X4_bits at hf
  refine lv_bipush (v := 32) hx hb dX4_bits_0 (by decide) ?_
  refine lv_aload_n hx hb dX4_bits_2 rfl (lv_at hl 0 rfl) ?_
  refine va_get (D := D) (ci := 5) (v := .int p0_size) (C := RX4) (T := TX4) (N := 2) hx hb hts uwX4 hown hK hP 0 rfl rfl 1 (by decide) (hts _ kfX4_15) (fun _ h9 => h9) rfl dX4_bits_3 ?_
  refine lv_imul hx hb dX4_bits_6 ?_
  refine lv_aload_n hx hb dX4_bits_7 rfl (lv_at hl 0 rfl) ?_
  refine va_get (D := D) (ci := 5) (v := .int p0_size) (C := RX4) (T := TX4) (N := 2) hx hb hts uwX4 hown hK hP 0 rfl rfl 1 (by decide) (hts _ kfX4_15) (fun _ h9 => h9) rfl dX4_bits_8 ?_
  refine lv_if_ne (tgt := 18) hx hb dX4_bits_11 (by decide) (fun hc5 => ?_) (fun hc5 => ?_)
  · have hf := ifF hc5 hf
    refine lv_aload_n hx hb dX4_bits_18 rfl (lv_at hl 0 rfl) ?_
    refine lv_aload_n hx hb dX4_bits_19 rfl (lv_at hl 0 rfl) ?_
    refine va_get (D := D) (ci := 5) (v := .int p0_size) (C := RX4) (T := TX4) (N := 2) hx hb hts uwX4 hown hK hP 0 rfl rfl 1 (by decide) (hts _ kfX4_15) (fun _ h9 => h9) rfl dX4_bits_20 ?_
    refine lv_iconst (v := 1) hx hb dX4_bits_23 (by decide) ?_
    refine lv_isub hx hb dX4_bits_24 ?_
    obtain ⟨u1, hu2, hf⟩ := bdE hf
    refine cV_L (ws' := [(a_p0, .inr (5, [.ref a_p0_limbs, .int p0_size])), (a_p0_limbs, .inl (cJ, 160, .inr (.inl p0_limbs)))]) (rest := [.int ((32 : Int32) * p0_size)]) S hK hN hA hP hD hS (c_X4_limb l D cI cJ a_p0 a_p0_limbs (p0_size - (1 : Int32)) p0_size p0_limbs u1 hu2) mwX4_limb miX4_limb kmX4_30 [0, 1] rfl (by decide) rfl rfl rfl 0 rfl rfl ⟨Nat.le_of_ble_eq_true rfl, Nat.le_of_ble_eq_true rfl⟩ ⟨Nat.zero_le _, Nat.zero_le _⟩ hl.1 rfl rfl (Nat.le_of_ble_eq_true rfl) dX4_bits_25 (fun H locs hP hD hS => ?_)
    obtain ⟨u3, hu4, hf⟩ := bdE hf
    refine cS_I (ws' := [(a_p0, .inr (5, [.ref a_p0_limbs, .int p0_size])), (a_p0_limbs, .inl (cJ, 160, .inr (.inl p0_limbs)))]) (rest := [.int ((32 : Int32) * p0_size)]) S hK hN hA hP hD hS (c_J13_numberOfLeadingZeros_95d88 l D cI cJ  u1  u3 hu4) mwJ13_numberOfLeadingZeros_95d88 msJ13_numberOfLeadingZeros_95d88 kmX4_40 [] rfl (by decide) rfl rfl rfl ⟨Nat.le_of_ble_eq_true rfl, Nat.le_of_ble_eq_true rfl⟩ ⟨Nat.zero_le _, Nat.zero_le _⟩ hl.1 rfl rfl (Nat.le_of_ble_eq_true rfl) dX4_bits_28 (fun H locs hP hD hS => ?_)
    refine lv_bipush (v := 32) hx hb dX4_bits_31 (by decide) ?_
    refine lv_isub hx hb dX4_bits_33 ?_
    refine lv_isub hx hb dX4_bits_34 ?_
    exact hret _ (opE hf) H locs ls 35 dX4_bits_35 hP hD hS
  · have hf := ifT hc5 hf
    refine lv_iconst (v := 0) hx hb dX4_bits_14 (by decide) ?_
    refine lv_goto (tgt := 34) hx hb dX4_bits_15 (by decide) ?_
    refine lv_isub hx hb dX4_bits_34 ?_
    exact hret _ (opE hf) H locs ls 35 dX4_bits_35 hP hD hS
set_option maxRecDepth 100000 in
set_option maxHeartbeats 4000000 in
theorem c_X4_bitsFrom (l : Launch) (D : va_G) (cI cJ : ClassId) (a_p0 a_p0_limbs : Nat) (p1 : Int32) (p0_size : Int32) (p0_limbs : (Nat → Int64)) (u : Int64) (hf : f_X4_bitsFrom p0_size p0_limbs p1 = some u) : CtL l yX4_bitsFrom cX4_bitsFrom 6 1 21 [.ref a_p0, .int p1] D cI cJ [(a_p0, .inr (5, [.ref a_p0_limbs, .int p0_size])), (a_p0_limbs, .inl (cJ, 160, .inr (.inl p0_limbs)))] [(a_p0, .inr (5, [.ref a_p0_limbs, .int p0_size])), (a_p0_limbs, .inl (cJ, 160, .inr (.inl p0_limbs)))] u := by
  refine mkL (own := RX4) rfl (by decide +kernel) (Nat.le_of_ble_eq_true rfl) (lv := [(0, .ref a_p0), (1, .int p1)]) rfl ?_
  intro p e s m below meth c Q A ls ar S hA hK hN hret H locs hP hD hS hl
  obtain ⟨hx, hb, hml, hown, hts⟩ := id S
  have hret : ∀ (w : Int64), w = u → ∀ (H : Heap) (locs : List Loc) (ls : Array Slot) (pc : Nat), decode cX4_bitsFrom pc = .ok (.lreturn, 1) → va_P D vwCl [(a_p0, .inr (5, [.ref a_p0_limbs, .int p0_size])), (a_p0_limbs, .inl (cJ, 160, .inr (.inl p0_limbs)))] H → va_D A [(a_p0, .inr (5, [.ref a_p0_limbs, .int p0_size])), (a_p0_limbs, .inl (cJ, 160, .inr (.inl p0_limbs)))] → va_S A s.heap H locs → W p l e (rmz 1 21) s m ar below meth c H locs 0 0 Q (F0 m pc ls [.long w]) := fun w hw => hw ▸ hret
  unfold f_X4_bitsFrom at hf
  refine lv_iload_n hx hb dX4_bitsFrom_0 rfl (lv_at hl 1 rfl) ?_
  refine lv_iconst (v := 5) hx hb dX4_bitsFrom_1 (by decide) ?_
  refine lv_ishr hx hb dX4_bitsFrom_2 ?_
  refine lv_istore_n (lv' := [(2, .int (isr p1 (5 : Int32))), (0, .ref a_p0), (1, .int p1)]) hx hb dX4_bitsFrom_3 rfl hl (by decide) rfl (fun ls hl => ?_)
  refine lv_iload_n hx hb dX4_bitsFrom_4 rfl (lv_at hl 2 rfl) ?_
  refine lv_bipush (v := 31) hx hb dX4_bitsFrom_5 (by decide) ?_
  refine lv_iand hx hb dX4_bitsFrom_7 ?_
  refine lv_istore_n (lv' := [(3, .int (p1 &&& (31 : Int32))), (2, .int (isr p1 (5 : Int32))), (0, .ref a_p0), (1, .int p1)]) hx hb dX4_bitsFrom_8 rfl hl (by decide) rfl (fun ls hl => ?_)
  refine lv_aload_n hx hb dX4_bitsFrom_9 rfl (lv_at hl 2 rfl) ?_
  refine lv_iload_n hx hb dX4_bitsFrom_10 rfl (lv_at hl 1 rfl) ?_
  obtain ⟨u1, hu2, hf⟩ := bdE hf
  refine cV_L (ws' := [(a_p0, .inr (5, [.ref a_p0_limbs, .int p0_size])), (a_p0_limbs, .inl (cJ, 160, .inr (.inl p0_limbs)))]) (rest := []) S hK hN hA hP hD hS (c_X4_limb l D cI cJ a_p0 a_p0_limbs (isr p1 (5 : Int32)) p0_size p0_limbs u1 hu2) mwX4_limb miX4_limb kmX4_30 [0, 1] rfl (by decide) rfl rfl rfl 0 rfl rfl ⟨Nat.le_of_ble_eq_true rfl, Nat.le_of_ble_eq_true rfl⟩ ⟨Nat.zero_le _, Nat.zero_le _⟩ hl.1 rfl rfl (Nat.le_of_ble_eq_true rfl) dX4_bitsFrom_11 (fun H locs hP hD hS => ?_)
  refine lv_iload_n hx hb dX4_bitsFrom_14 rfl (lv_at hl 0 rfl) ?_
  refine lv_lushr (v := lus u1 (p1 &&& (31 : Int32))) hx hb dX4_bitsFrom_15 rfl ?_
  refine lv_aload_n hx hb dX4_bitsFrom_16 rfl (lv_at hl 2 rfl) ?_
  refine lv_iload_n hx hb dX4_bitsFrom_17 rfl (lv_at hl 1 rfl) ?_
  refine lv_iconst (v := 1) hx hb dX4_bitsFrom_18 (by decide) ?_
  refine lv_iadd hx hb dX4_bitsFrom_19 ?_
  obtain ⟨u3, hu4, hf⟩ := bdE hf
  refine cV_L (ws' := [(a_p0, .inr (5, [.ref a_p0_limbs, .int p0_size])), (a_p0_limbs, .inl (cJ, 160, .inr (.inl p0_limbs)))]) (rest := [.long (lus u1 (p1 &&& (31 : Int32)))]) S hK hN hA hP hD hS (c_X4_limb l D cI cJ a_p0 a_p0_limbs ((isr p1 (5 : Int32)) + (1 : Int32)) p0_size p0_limbs u3 hu4) mwX4_limb miX4_limb kmX4_30 [0, 1] rfl (by decide) rfl rfl rfl 0 rfl rfl ⟨Nat.le_of_ble_eq_true rfl, Nat.le_of_ble_eq_true rfl⟩ ⟨Nat.zero_le _, Nat.zero_le _⟩ hl.1 rfl rfl (Nat.le_of_ble_eq_true rfl) dX4_bitsFrom_20 (fun H locs hP hD hS => ?_)
  refine lv_bipush (v := 32) hx hb dX4_bitsFrom_23 (by decide) ?_
  refine lv_iload_n hx hb dX4_bitsFrom_25 rfl (lv_at hl 0 rfl) ?_
  refine lv_isub hx hb dX4_bitsFrom_26 ?_
  refine lv_lshl (v := lsh u3 ((32 : Int32) - (p1 &&& (31 : Int32)))) hx hb dX4_bitsFrom_27 rfl ?_
  refine lv_lor hx hb dX4_bitsFrom_28 ?_
  refine lv_lstore (lv' := [(4, .long ((lus u1 (p1 &&& (31 : Int32))) ||| (lsh u3 ((32 : Int32) - (p1 &&& (31 : Int32)))))), (3, .int (p1 &&& (31 : Int32))), (2, .int (isr p1 (5 : Int32))), (0, .ref a_p0), (1, .int p1)]) hx hb dX4_bitsFrom_29 hl (by decide) rfl (fun ls hl => ?_)
  refine lv_iload_n hx hb dX4_bitsFrom_31 rfl (lv_at hl 1 rfl) ?_
  refine lv_if_ne (tgt := 40) hx hb dX4_bitsFrom_32 (by decide) (fun hc7 => ?_) (fun hc7 => ?_)
  · have hf := ifF hc7 hf
    refine lv_lload hx hb dX4_bitsFrom_40 (lv_at hl 0 rfl) ?_
    refine lv_aload_n hx hb dX4_bitsFrom_42 rfl (lv_at hl 3 rfl) ?_
    refine lv_iload_n hx hb dX4_bitsFrom_43 rfl (lv_at hl 2 rfl) ?_
    refine lv_iconst (v := 2) hx hb dX4_bitsFrom_44 (by decide) ?_
    refine lv_iadd hx hb dX4_bitsFrom_45 ?_
    obtain ⟨u5, hu6, hf⟩ := bdE hf
    refine cV_L (ws' := [(a_p0, .inr (5, [.ref a_p0_limbs, .int p0_size])), (a_p0_limbs, .inl (cJ, 160, .inr (.inl p0_limbs)))]) (rest := [.long ((lus u1 (p1 &&& (31 : Int32))) ||| (lsh u3 ((32 : Int32) - (p1 &&& (31 : Int32)))))]) S hK hN hA hP hD hS (c_X4_limb l D cI cJ a_p0 a_p0_limbs ((isr p1 (5 : Int32)) + (2 : Int32)) p0_size p0_limbs u5 hu6) mwX4_limb miX4_limb kmX4_30 [0, 1] rfl (by decide) rfl rfl rfl 0 rfl rfl ⟨Nat.le_of_ble_eq_true rfl, Nat.le_of_ble_eq_true rfl⟩ ⟨Nat.zero_le _, Nat.zero_le _⟩ hl.1 rfl rfl (Nat.le_of_ble_eq_true rfl) dX4_bitsFrom_46 (fun H locs hP hD hS => ?_)
    refine lv_bipush (v := 64) hx hb dX4_bitsFrom_49 (by decide) ?_
    refine lv_iload_n hx hb dX4_bitsFrom_51 rfl (lv_at hl 1 rfl) ?_
    refine lv_isub hx hb dX4_bitsFrom_52 ?_
    refine lv_lshl (v := lsh u5 ((64 : Int32) - (p1 &&& (31 : Int32)))) hx hb dX4_bitsFrom_53 rfl ?_
    refine lv_lor hx hb dX4_bitsFrom_54 ?_
    exact hret _ (opE hf) H locs ls 55 dX4_bitsFrom_55 hP hD hS
  · have hf := ifT hc7 hf
    refine lv_lload hx hb dX4_bitsFrom_35 (lv_at hl 0 rfl) ?_
    refine lv_goto (tgt := 55) hx hb dX4_bitsFrom_37 (by decide) ?_
    exact hret _ (opE hf) H locs ls 55 dX4_bitsFrom_55 hP hD hS
set_option maxRecDepth 100000 in
set_option maxHeartbeats 4000000 in
theorem c_X4_isNought (l : Launch) (D : va_G) (cI cJ : ClassId) (a_p0 a_p0_limbs : Nat) (p0_size : Int32) (u : Int32) (hf : f_X4_isNought p0_size = some u) : CtI l yX4_isNought cX4_isNought 1 0 0 .boolean [.ref a_p0] D cI cJ [(a_p0, .inr (5, [.ref a_p0_limbs, .int p0_size]))] [(a_p0, .inr (5, [.ref a_p0_limbs, .int p0_size]))] u := by
  refine mkZ (own := RX4) rfl (by decide +kernel) (Nat.le_of_ble_eq_true rfl) (lv := [(0, .ref a_p0)]) rfl ?_
  intro p e s m below meth c Q A ls ar S hA hK hN hret H locs hP hD hS hl
  obtain ⟨hx, hb, hml, hown, hts⟩ := id S
  have hret : ∀ (w : Int32), w = u → ∀ (H : Heap) (locs : List Loc) (ls : Array Slot) (pc : Nat), decode cX4_isNought pc = .ok (.ireturn, 1) → (w = 0 ∨ w = 1) → va_P D vwCl [(a_p0, .inr (5, [.ref a_p0_limbs, .int p0_size]))] H → va_D A [(a_p0, .inr (5, [.ref a_p0_limbs, .int p0_size]))] → va_S A s.heap H locs → W p l e (rmz 0 0) s m ar below meth c H locs 0 0 Q (F0 m pc ls [.int w]) := fun w hw => hw ▸ hret
  unfold f_X4_isNought at hf
  refine lv_aload_n hx hb dX4_isNought_0 rfl (lv_at hl 0 rfl) ?_
  refine va_get (D := D) (ci := 5) (v := .int p0_size) (C := RX4) (T := TX4) (N := 2) hx hb hts uwX4 hown hK hP 0 rfl rfl 1 (by decide) (hts _ kfX4_15) (fun _ h9 => h9) rfl dX4_isNought_1 ?_
  refine lv_if_ne (tgt := 11) hx hb dX4_isNought_4 (by decide) (fun hc1 => ?_) (fun hc1 => ?_)
  · have hf := ifF hc1 hf
    refine lv_iconst (v := 0) hx hb dX4_isNought_11 (by decide) ?_
    exact hret _ (opE hf) H locs ls 12 dX4_isNought_12 (Or.inl rfl) hP hD hS
  · have hf := ifT hc1 hf
    refine lv_iconst (v := 1) hx hb dX4_isNought_7 (by decide) ?_
    refine lv_goto (tgt := 12) hx hb dX4_isNought_8 (by decide) ?_
    exact hret _ (opE hf) H locs ls 12 dX4_isNought_12 (Or.inr rfl) hP hD hS
set_option maxRecDepth 100000 in
set_option maxHeartbeats 4000000 in
theorem c_X0_rounded (l : Launch) (D : va_G) (cI cJ : ClassId) (a_p1 a_p1_limbs : Nat) (p0 : Int32) (p2 : Int32) (p3 : Int32) (p4 : Int32) (p5 : Int32) (p1_size : Int32) (p1_limbs : (Nat → Int64)) (u : Int64) (hf : f_X0_rounded p1_size p1_limbs p0 p2 p3 p4 p5 = some u) : CtL l yX0_rounded cX0_rounded 16 3 66 [.int p0, .ref a_p1, .int p2, .int p3, .int p4, .int p5] D cI cJ [(a_p1, .inr (5, [.ref a_p1_limbs, .int p1_size])), (a_p1_limbs, .inl (cJ, 160, .inr (.inl p1_limbs)))] [(a_p1, .inr (5, [.ref a_p1_limbs, .int p1_size])), (a_p1_limbs, .inl (cJ, 160, .inr (.inl p1_limbs)))] u := by
  refine mkL (own := RX0) rfl (by decide +kernel) (Nat.le_of_ble_eq_true rfl) (lv := [(0, .int p0), (1, .ref a_p1), (2, .int p2), (3, .int p3), (4, .int p4), (5, .int p5)]) rfl ?_
  intro p e s m below meth c Q A ls ar S hA hK hN hret H locs hP hD hS hl
  obtain ⟨hx, hb, hml, hown, hts⟩ := id S
  have hret : ∀ (w : Int64), w = u → ∀ (H : Heap) (locs : List Loc) (ls : Array Slot) (pc : Nat), decode cX0_rounded pc = .ok (.lreturn, 1) → va_P D vwCl [(a_p1, .inr (5, [.ref a_p1_limbs, .int p1_size])), (a_p1_limbs, .inl (cJ, 160, .inr (.inl p1_limbs)))] H → va_D A [(a_p1, .inr (5, [.ref a_p1_limbs, .int p1_size])), (a_p1_limbs, .inl (cJ, 160, .inr (.inl p1_limbs)))] → va_S A s.heap H locs → W p l e (rmz 3 66) s m ar below meth c H locs 0 0 Q (F0 m pc ls [.long w]) := fun w hw => hw ▸ hret
  have keyB193 : ∀ (v0 : Int32) (v4 : Int32) (v5 : Int32) (v14 : Int64) (H : Heap) (locs : List Loc) (ls : Array Slot), f_X0_rounded_B193 p1_size p1_limbs v0 v4 v5 v14 = some u → va_P D vwCl [(a_p1, .inr (5, [.ref a_p1_limbs, .int p1_size])), (a_p1_limbs, .inl (cJ, 160, .inr (.inl p1_limbs)))] H → va_D A [(a_p1, .inr (5, [.ref a_p1_limbs, .int p1_size])), (a_p1_limbs, .inl (cJ, 160, .inr (.inl p1_limbs)))] → va_S A s.heap H locs → lv_has ls 16 [(0, .int v0), (4, .int v4), (5, .int v5), (14, .long v14)] → W p l e (rmz 3 66) s m ar below meth c H locs 0 0 Q (F0 m 193 ls []) := by
    intro v0 v4 v5 v14 H locs ls hf hP hD hS hl
    unfold f_X0_rounded_B193 at hf
    refine lv_lload hx hb dX0_rounded_193 (lv_at hl 3 rfl) ?_
    refine lv_iload hx hb dX0_rounded_195 (lv_at hl 1 rfl) ?_
    obtain ⟨u17, hu18, hf⟩ := bdE hf
    refine cS_L (ws' := [(a_p1, .inr (5, [.ref a_p1_limbs, .int p1_size])), (a_p1_limbs, .inl (cJ, 160, .inr (.inl p1_limbs)))]) (rest := [.long v14]) S hK hN hA hP hD hS (c_X2_endlessSize l D cI cJ  v4  u17 hu18) mwX2_endlessSize msX2_endlessSize kmX0_170 [] rfl (by decide) rfl rfl rfl ⟨Nat.le_of_ble_eq_true rfl, Nat.le_of_ble_eq_true rfl⟩ ⟨Nat.zero_le _, Nat.zero_le _⟩ hl.1 rfl rfl (Nat.le_of_ble_eq_true rfl) dX0_rounded_197 (fun H locs hP hD hS => ?_)
    refine W.lcmp hx hb dX0_rounded_200 ?_
    refine lv_if_lt (tgt := 213) hx hb dX0_rounded_201 (by decide) (fun hc23 => ?_) (fun hc23 => ?_)
    · have hf := ifT hc23 hf
      refine lv_iload hx hb dX0_rounded_213 (lv_at hl 1 rfl) ?_
      refine lv_iload_n hx hb dX0_rounded_215 rfl (lv_at hl 0 rfl) ?_
      refine lv_lload hx hb dX0_rounded_216 (lv_at hl 3 rfl) ?_
      obtain ⟨u19, hu20, hf⟩ := bdE hf
      refine cS_L (ws' := [(a_p1, .inr (5, [.ref a_p1_limbs, .int p1_size])), (a_p1_limbs, .inl (cJ, 160, .inr (.inl p1_limbs)))]) (rest := []) S hK hN hA hP hD hS (c_X2_signed l D cI cJ  v4 v0 v14  u19 hu20) mwX2_signed msX2_signed kmX0_173 [] rfl (by decide) rfl rfl rfl ⟨Nat.le_of_ble_eq_true rfl, Nat.le_of_ble_eq_true rfl⟩ ⟨Nat.zero_le _, Nat.zero_le _⟩ hl.1 rfl rfl (Nat.le_of_ble_eq_true rfl) dX0_rounded_218 (fun H locs hP hD hS => ?_)
      exact hret _ (opE hf) H locs ls 221 dX0_rounded_221 hP hD hS
    · have hf := ifF hc23 hf
      refine lv_iload hx hb dX0_rounded_204 (lv_at hl 1 rfl) ?_
      refine lv_iload_n hx hb dX0_rounded_206 rfl (lv_at hl 0 rfl) ?_
      refine lv_iload hx hb dX0_rounded_207 (lv_at hl 2 rfl) ?_
      obtain ⟨u21, hu22, hf⟩ := bdE hf
      refine cS_L (ws' := [(a_p1, .inr (5, [.ref a_p1_limbs, .int p1_size])), (a_p1_limbs, .inl (cJ, 160, .inr (.inl p1_limbs)))]) (rest := []) S hK hN hA hP hD hS (c_X2_tooGreat l D cI cJ  v4 v0 v5  u21 hu22) mwX2_tooGreat msX2_tooGreat kmX0_152 [] rfl (by decide) rfl rfl rfl ⟨Nat.le_of_ble_eq_true rfl, Nat.le_of_ble_eq_true rfl⟩ ⟨Nat.zero_le _, Nat.zero_le _⟩ hl.1 rfl rfl (Nat.le_of_ble_eq_true rfl) dX0_rounded_209 (fun H locs hP hD hS => ?_)
      exact hret _ (opE hf) H locs ls 212 dX0_rounded_212 hP hD hS
  have keyB177 : ∀ (v0 : Int32) (v4 : Int32) (v5 : Int32) (v12 : Int32) (v13 : Int32) (v14 : Int64) (s0 : Int32) (s1 : Int32) (s2 : Int32) (H : Heap) (locs : List Loc) (ls : Array Slot), f_X0_rounded_B177 p1_size p1_limbs v0 v4 v5 v12 v13 v14 s0 s1 s2 = some u → va_P D vwCl [(a_p1, .inr (5, [.ref a_p1_limbs, .int p1_size])), (a_p1_limbs, .inl (cJ, 160, .inr (.inl p1_limbs)))] H → va_D A [(a_p1, .inr (5, [.ref a_p1_limbs, .int p1_size])), (a_p1_limbs, .inl (cJ, 160, .inr (.inl p1_limbs)))] → va_S A s.heap H locs → lv_has ls 16 [(0, .int v0), (4, .int v4), (5, .int v5), (12, .int v12), (13, .int v13), (14, .long v14)] → W p l e (rmz 3 66) s m ar below meth c H locs 0 0 Q (F0 m 177 ls [.int s2, .int s1, .int s0]) := by
    intro v0 v4 v5 v12 v13 v14 s0 s1 s2 H locs ls hf hP hD hS hl
    unfold f_X0_rounded_B177 at hf
    refine lv_iload hx hb dX0_rounded_177 (lv_at hl 3 rfl) ?_
    refine lv_iload hx hb dX0_rounded_179 (lv_at hl 4 rfl) ?_
    obtain ⟨u15, hu16, hf⟩ := bdE hf
    refine cS_I (ws' := [(a_p1, .inr (5, [.ref a_p1_limbs, .int p1_size])), (a_p1_limbs, .inl (cJ, 160, .inr (.inl p1_limbs)))]) (rest := []) S hK hN hA hP hD hS (c_X2_goesOn l D cI cJ  s0 s1 s2 v12 v13  u15 hu16) mwX2_goesOn msX2_goesOn kmX0_166 [] rfl (by decide) rfl rfl rfl ⟨Nat.le_of_ble_eq_true rfl, Nat.le_of_ble_eq_true rfl⟩ ⟨Nat.zero_le _, Nat.zero_le _⟩ hl.1 rfl rfl (Nat.le_of_ble_eq_true rfl) dX0_rounded_181 (fun H locs hP hD hS => ?_)
    refine lv_if_eq (tgt := 193) hx hb dX0_rounded_184 (by decide) (fun hc24 => ?_) (fun hc24 => ?_)
    · have hf := ifT hc24 hf
      exact keyB193 v0 v4 v5 v14 H locs ls hf hP hD hS (lv_sub hl [0, 1, 2, 5] rfl)
    · have hf := ifF hc24 hf
      refine lv_lload hx hb dX0_rounded_187 (lv_at hl 5 rfl) ?_
      refine lv_lconst (v := 1) hx hb dX0_rounded_189 (by decide) ?_
      refine lv_ladd hx hb dX0_rounded_190 ?_
      refine lv_lstore (lv' := [(14, .long (v14 + (1 : Int64))), (0, .int v0), (4, .int v4), (5, .int v5), (12, .int v12), (13, .int v13)]) hx hb dX0_rounded_191 hl (by decide) rfl (fun ls hl => ?_)
      exact keyB193 v0 v4 v5 (v14 + (1 : Int64)) H locs ls hf hP hD hS (lv_sub hl [1, 2, 3, 0] rfl)
  have keyB142 : ∀ (v0 : Int32) (v4 : Int32) (v5 : Int32) (v6 : Int32) (v7 : Int32) (v8 : Int32) (v10 : Int64) (v12 : Int32) (s0 : Int32) (H : Heap) (locs : List Loc) (ls : Array Slot), f_X0_rounded_B142 p1_size p1_limbs v0 v4 v5 v6 v7 v8 v10 v12 s0 = some u → va_P D vwCl [(a_p1, .inr (5, [.ref a_p1_limbs, .int p1_size])), (a_p1_limbs, .inl (cJ, 160, .inr (.inl p1_limbs)))] H → va_D A [(a_p1, .inr (5, [.ref a_p1_limbs, .int p1_size])), (a_p1_limbs, .inl (cJ, 160, .inr (.inl p1_limbs)))] → va_S A s.heap H locs → lv_has ls 16 [(0, .int v0), (4, .int v4), (5, .int v5), (6, .int v6), (7, .int v7), (8, .int v8), (10, .long v10), (12, .int v12)] → W p l e (rmz 3 66) s m ar below meth c H locs 0 0 Q (F0 m 142 ls [.int s0]) := by
    intro v0 v4 v5 v6 v7 v8 v10 v12 s0 H locs ls hf hP hD hS hl
    unfold f_X0_rounded_B142 at hf
    refine lv_istore (lv' := [(13, .int s0), (0, .int v0), (4, .int v4), (5, .int v5), (6, .int v6), (7, .int v7), (8, .int v8), (10, .long v10), (12, .int v12)]) hx hb dX0_rounded_142 hl (by decide) rfl (fun ls hl => ?_)
    refine lv_iload hx hb dX0_rounded_144 (lv_at hl 6 rfl) ?_
    refine lv_iload hx hb dX0_rounded_146 (lv_at hl 5 rfl) ?_
    refine lv_isub hx hb dX0_rounded_148 ?_
    refine lv_i2l (v := (v8 - v7).toInt64) hx hb dX0_rounded_149 rfl ?_
    refine lv_iload hx hb dX0_rounded_150 (lv_at hl 4 rfl) ?_
    refine lv_iconst (v := 1) hx hb dX0_rounded_152 (by decide) ?_
    refine lv_isub hx hb dX0_rounded_153 ?_
    refine lv_lshl (v := lsh ((v8 - v7).toInt64) (v6 - (1 : Int32))) hx hb dX0_rounded_154 rfl ?_
    refine lv_lload hx hb dX0_rounded_155 (lv_at hl 7 rfl) ?_
    refine lv_ladd hx hb dX0_rounded_157 ?_
    refine lv_lstore (lv' := [(14, .long ((lsh ((v8 - v7).toInt64) (v6 - (1 : Int32))) + v10)), (13, .int s0), (0, .int v0), (4, .int v4), (5, .int v5), (6, .int v6), (7, .int v7), (8, .int v8), (10, .long v10), (12, .int v12)]) hx hb dX0_rounded_158 hl (by decide) rfl (fun ls hl => ?_)
    refine lv_iload hx hb dX0_rounded_160 (lv_at hl 4 rfl) ?_
    refine lv_iload_n hx hb dX0_rounded_162 rfl (lv_at hl 2 rfl) ?_
    refine lv_lload hx hb dX0_rounded_163 (lv_at hl 8 rfl) ?_
    refine lv_lconst (v := 1) hx hb dX0_rounded_165 (by decide) ?_
    refine lv_land hx hb dX0_rounded_166 ?_
    refine lv_lconst (v := 0) hx hb dX0_rounded_167 (by decide) ?_
    refine W.lcmp hx hb dX0_rounded_168 ?_
    refine lv_if_eq (tgt := 176) hx hb dX0_rounded_169 (by decide) (fun hc25 => ?_) (fun hc25 => ?_)
    · have hf := ifT hc25 hf
      refine lv_iconst (v := 0) hx hb dX0_rounded_176 (by decide) ?_
      exact keyB177 v0 v4 v5 v12 s0 ((lsh ((v8 - v7).toInt64) (v6 - (1 : Int32))) + v10) v5 v0 (0 : Int32) H locs ls hf hP hD hS (lv_sub hl [2, 3, 4, 9, 1, 0] rfl)
    · have hf := ifF hc25 hf
      refine lv_iconst (v := 1) hx hb dX0_rounded_172 (by decide) ?_
      refine lv_goto (tgt := 177) hx hb dX0_rounded_173 (by decide) ?_
      exact keyB177 v0 v4 v5 v12 s0 ((lsh ((v8 - v7).toInt64) (v6 - (1 : Int32))) + v10) v5 v0 (1 : Int32) H locs ls hf hP hD hS (lv_sub hl [2, 3, 4, 9, 1, 0] rfl)
  have keyB137 : ∀ (v0 : Int32) (v4 : Int32) (v5 : Int32) (v6 : Int32) (v7 : Int32) (v8 : Int32) (v10 : Int64) (v12 : Int32) (H : Heap) (locs : List Loc) (ls : Array Slot), f_X0_rounded_B137 p1_size p1_limbs v0 v4 v5 v6 v7 v8 v10 v12 = some u → va_P D vwCl [(a_p1, .inr (5, [.ref a_p1_limbs, .int p1_size])), (a_p1_limbs, .inl (cJ, 160, .inr (.inl p1_limbs)))] H → va_D A [(a_p1, .inr (5, [.ref a_p1_limbs, .int p1_size])), (a_p1_limbs, .inl (cJ, 160, .inr (.inl p1_limbs)))] → va_S A s.heap H locs → lv_has ls 16 [(0, .int v0), (4, .int v4), (5, .int v5), (6, .int v6), (7, .int v7), (8, .int v8), (10, .long v10), (12, .int v12)] → W p l e (rmz 3 66) s m ar below meth c H locs 0 0 Q (F0 m 137 ls []) := by
    intro v0 v4 v5 v6 v7 v8 v10 v12 H locs ls hf hP hD hS hl
    unfold f_X0_rounded_B137 at hf
    refine lv_iconst (v := 1) hx hb dX0_rounded_137 (by decide) ?_
    refine lv_goto (tgt := 142) hx hb dX0_rounded_138 (by decide) ?_
    exact keyB142 v0 v4 v5 v6 v7 v8 v10 v12 (1 : Int32) H locs ls hf hP hD hS (lv_sub hl [0, 1, 2, 3, 4, 5, 6, 7] rfl)
  have keyB141 : ∀ (v0 : Int32) (v4 : Int32) (v5 : Int32) (v6 : Int32) (v7 : Int32) (v8 : Int32) (v10 : Int64) (v12 : Int32) (H : Heap) (locs : List Loc) (ls : Array Slot), f_X0_rounded_B141 p1_size p1_limbs v0 v4 v5 v6 v7 v8 v10 v12 = some u → va_P D vwCl [(a_p1, .inr (5, [.ref a_p1_limbs, .int p1_size])), (a_p1_limbs, .inl (cJ, 160, .inr (.inl p1_limbs)))] H → va_D A [(a_p1, .inr (5, [.ref a_p1_limbs, .int p1_size])), (a_p1_limbs, .inl (cJ, 160, .inr (.inl p1_limbs)))] → va_S A s.heap H locs → lv_has ls 16 [(0, .int v0), (4, .int v4), (5, .int v5), (6, .int v6), (7, .int v7), (8, .int v8), (10, .long v10), (12, .int v12)] → W p l e (rmz 3 66) s m ar below meth c H locs 0 0 Q (F0 m 141 ls []) := by
    intro v0 v4 v5 v6 v7 v8 v10 v12 H locs ls hf hP hD hS hl
    unfold f_X0_rounded_B141 at hf
    refine lv_iconst (v := 0) hx hb dX0_rounded_141 (by decide) ?_
    exact keyB142 v0 v4 v5 v6 v7 v8 v10 v12 (0 : Int32) H locs ls hf hP hD hS (lv_sub hl [0, 1, 2, 3, 4, 5, 6, 7] rfl)
  have keyB115 : ∀ (v0 : Int32) (v3 : Int32) (v4 : Int32) (v5 : Int32) (v6 : Int32) (v7 : Int32) (v8 : Int32) (v9 : Int32) (v10 : Int64) (s0 : Int32) (H : Heap) (locs : List Loc) (ls : Array Slot), f_X0_rounded_B115 p1_size p1_limbs v0 v3 v4 v5 v6 v7 v8 v9 v10 s0 = some u → va_P D vwCl [(a_p1, .inr (5, [.ref a_p1_limbs, .int p1_size])), (a_p1_limbs, .inl (cJ, 160, .inr (.inl p1_limbs)))] H → va_D A [(a_p1, .inr (5, [.ref a_p1_limbs, .int p1_size])), (a_p1_limbs, .inl (cJ, 160, .inr (.inl p1_limbs)))] → va_S A s.heap H locs → lv_has ls 16 [(0, .int v0), (1, .ref a_p1), (3, .int v3), (4, .int v4), (5, .int v5), (6, .int v6), (7, .int v7), (8, .int v8), (9, .int v9), (10, .long v10)] → W p l e (rmz 3 66) s m ar below meth c H locs 0 0 Q (F0 m 115 ls [.int s0]) := by
    intro v0 v3 v4 v5 v6 v7 v8 v9 v10 s0 H locs ls hf hP hD hS hl
    unfold f_X0_rounded_B115 at hf
    refine lv_istore (lv' := [(12, .int s0), (0, .int v0), (1, .ref a_p1), (3, .int v3), (4, .int v4), (5, .int v5), (6, .int v6), (7, .int v7), (8, .int v8), (9, .int v9), (10, .long v10)]) hx hb dX0_rounded_115 hl (by decide) rfl (fun ls hl => ?_)
    refine lv_iload_n hx hb dX0_rounded_117 rfl (lv_at hl 3 rfl) ?_
    refine lv_if_ne (tgt := 137) hx hb dX0_rounded_118 (by decide) (fun hc30 => ?_) (fun hc30 => ?_)
    · have hf := ifF hc30 hf
      exact keyB137 v0 v4 v5 v6 v7 v8 v10 s0 H locs ls hf hP hD hS (lv_sub hl [1, 4, 5, 6, 7, 8, 10, 0] rfl)
    · have hf := ifT hc30 hf
      refine lv_iload hx hb dX0_rounded_121 (lv_at hl 9 rfl) ?_
      refine lv_if_le (tgt := 141) hx hb dX0_rounded_123 (by decide) (fun hc29 => ?_) (fun hc29 => ?_)
      · have hf := ifT hc29 hf
        exact keyB141 v0 v4 v5 v6 v7 v8 v10 s0 H locs ls hf hP hD hS (lv_sub hl [1, 4, 5, 6, 7, 8, 10, 0] rfl)
      · have hf := ifF hc29 hf
        refine lv_aload_n hx hb dX0_rounded_126 rfl (lv_at hl 2 rfl) ?_
        refine lv_iload hx hb dX0_rounded_127 (lv_at hl 9 rfl) ?_
        refine lv_iconst (v := 1) hx hb dX0_rounded_129 (by decide) ?_
        refine lv_isub hx hb dX0_rounded_130 ?_
        obtain ⟨u26, hu27, hf⟩ := bdE hf
        refine cV_I (ws' := [(a_p1, .inr (5, [.ref a_p1_limbs, .int p1_size])), (a_p1_limbs, .inl (cJ, 160, .inr (.inl p1_limbs)))]) (rest := []) S hK hN hA hP hD hS (c_X4_anyBelow l D cI cJ a_p1 a_p1_limbs (v9 - (1 : Int32)) p1_size p1_limbs u26 hu27) mwX4_anyBelow miX4_anyBelow kmX0_163 [0, 1] rfl (by decide) rfl rfl rfl 0 rfl rfl ⟨Nat.le_of_ble_eq_true rfl, Nat.le_of_ble_eq_true rfl⟩ ⟨Nat.zero_le _, Nat.zero_le _⟩ hl.1 rfl rfl (Nat.le_of_ble_eq_true rfl) dX0_rounded_131 (fun H locs hP hD hS => ?_)
        refine lv_if_eq (tgt := 141) hx hb dX0_rounded_134 (by decide) (fun hc28 => ?_) (fun hc28 => ?_)
        · have hf := ifT hc28 hf
          exact keyB141 v0 v4 v5 v6 v7 v8 v10 s0 H locs ls hf hP hD hS (lv_sub hl [1, 4, 5, 6, 7, 8, 10, 0] rfl)
        · have hf := ifF hc28 hf
          exact keyB137 v0 v4 v5 v6 v7 v8 v10 s0 H locs ls hf hP hD hS (lv_sub hl [1, 4, 5, 6, 7, 8, 10, 0] rfl)
  have keyB114 : ∀ (v0 : Int32) (v3 : Int32) (v4 : Int32) (v5 : Int32) (v6 : Int32) (v7 : Int32) (v8 : Int32) (v9 : Int32) (v10 : Int64) (H : Heap) (locs : List Loc) (ls : Array Slot), f_X0_rounded_B114 p1_size p1_limbs v0 v3 v4 v5 v6 v7 v8 v9 v10 = some u → va_P D vwCl [(a_p1, .inr (5, [.ref a_p1_limbs, .int p1_size])), (a_p1_limbs, .inl (cJ, 160, .inr (.inl p1_limbs)))] H → va_D A [(a_p1, .inr (5, [.ref a_p1_limbs, .int p1_size])), (a_p1_limbs, .inl (cJ, 160, .inr (.inl p1_limbs)))] → va_S A s.heap H locs → lv_has ls 16 [(0, .int v0), (1, .ref a_p1), (3, .int v3), (4, .int v4), (5, .int v5), (6, .int v6), (7, .int v7), (8, .int v8), (9, .int v9), (10, .long v10)] → W p l e (rmz 3 66) s m ar below meth c H locs 0 0 Q (F0 m 114 ls []) := by
    intro v0 v3 v4 v5 v6 v7 v8 v9 v10 H locs ls hf hP hD hS hl
    unfold f_X0_rounded_B114 at hf
    refine lv_iconst (v := 0) hx hb dX0_rounded_114 (by decide) ?_
    exact keyB115 v0 v3 v4 v5 v6 v7 v8 v9 v10 (0 : Int32) H locs ls hf hP hD hS (lv_sub hl [0, 1, 2, 3, 4, 5, 6, 7, 8, 9] rfl)
  have keyB92 : ∀ (v0 : Int32) (v3 : Int32) (v4 : Int32) (v5 : Int32) (v6 : Int32) (v7 : Int32) (v8 : Int32) (v9 : Int32) (s0 : Int64) (H : Heap) (locs : List Loc) (ls : Array Slot), f_X0_rounded_B92 p1_size p1_limbs v0 v3 v4 v5 v6 v7 v8 v9 s0 = some u → va_P D vwCl [(a_p1, .inr (5, [.ref a_p1_limbs, .int p1_size])), (a_p1_limbs, .inl (cJ, 160, .inr (.inl p1_limbs)))] H → va_D A [(a_p1, .inr (5, [.ref a_p1_limbs, .int p1_size])), (a_p1_limbs, .inl (cJ, 160, .inr (.inl p1_limbs)))] → va_S A s.heap H locs → lv_has ls 16 [(0, .int v0), (1, .ref a_p1), (3, .int v3), (4, .int v4), (5, .int v5), (6, .int v6), (7, .int v7), (8, .int v8), (9, .int v9)] → W p l e (rmz 3 66) s m ar below meth c H locs 0 0 Q (F0 m 92 ls [.long s0]) := by
    intro v0 v3 v4 v5 v6 v7 v8 v9 s0 H locs ls hf hP hD hS hl
    unfold f_X0_rounded_B92 at hf
    refine lv_lstore (lv' := [(10, .long s0), (0, .int v0), (1, .ref a_p1), (3, .int v3), (4, .int v4), (5, .int v5), (6, .int v6), (7, .int v7), (8, .int v8), (9, .int v9)]) hx hb dX0_rounded_92 hl (by decide) rfl (fun ls hl => ?_)
    refine lv_iload hx hb dX0_rounded_94 (lv_at hl 9 rfl) ?_
    refine lv_if_le (tgt := 114) hx hb dX0_rounded_96 (by decide) (fun hc34 => ?_) (fun hc34 => ?_)
    · have hf := ifT hc34 hf
      exact keyB114 v0 v3 v4 v5 v6 v7 v8 v9 s0 H locs ls hf hP hD hS (lv_sub hl [1, 2, 3, 4, 5, 6, 7, 8, 9, 0] rfl)
    · have hf := ifF hc34 hf
      refine lv_aload_n hx hb dX0_rounded_99 rfl (lv_at hl 2 rfl) ?_
      refine lv_iload hx hb dX0_rounded_100 (lv_at hl 9 rfl) ?_
      refine lv_iconst (v := 1) hx hb dX0_rounded_102 (by decide) ?_
      refine lv_isub hx hb dX0_rounded_103 ?_
      obtain ⟨u31, hu32, hf⟩ := bdE hf
      refine cV_I (ws' := [(a_p1, .inr (5, [.ref a_p1_limbs, .int p1_size])), (a_p1_limbs, .inl (cJ, 160, .inr (.inl p1_limbs)))]) (rest := []) S hK hN hA hP hD hS (c_X4_bit l D cI cJ a_p1 a_p1_limbs (v9 - (1 : Int32)) p1_size p1_limbs u31 hu32) mwX4_bit miX4_bit kmX0_159 [0, 1] rfl (by decide) rfl rfl rfl 0 rfl rfl ⟨Nat.le_of_ble_eq_true rfl, Nat.le_of_ble_eq_true rfl⟩ ⟨Nat.zero_le _, Nat.zero_le _⟩ hl.1 rfl rfl (Nat.le_of_ble_eq_true rfl) dX0_rounded_104 (fun H locs hP hD hS => ?_)
      refine lv_if_eq (tgt := 114) hx hb dX0_rounded_107 (by decide) (fun hc33 => ?_) (fun hc33 => ?_)
      · have hf := ifT hc33 hf
        exact keyB114 v0 v3 v4 v5 v6 v7 v8 v9 s0 H locs ls hf hP hD hS (lv_sub hl [1, 2, 3, 4, 5, 6, 7, 8, 9, 0] rfl)
      · have hf := ifF hc33 hf
        refine lv_iconst (v := 1) hx hb dX0_rounded_110 (by decide) ?_
        refine lv_goto (tgt := 115) hx hb dX0_rounded_111 (by decide) ?_
        exact keyB115 v0 v3 v4 v5 v6 v7 v8 v9 s0 (1 : Int32) H locs ls hf hP hD hS (lv_sub hl [1, 2, 3, 4, 5, 6, 7, 8, 9, 0] rfl)
  unfold f_X0_rounded at hf
  refine lv_aload_n hx hb dX0_rounded_0 rfl (lv_at hl 1 rfl) ?_
  obtain ⟨u1, hu2, hf⟩ := bdE hf
  refine cV_I (ws' := [(a_p1, .inr (5, [.ref a_p1_limbs, .int p1_size])), (a_p1_limbs, .inl (cJ, 160, .inr (.inl p1_limbs)))]) (rest := []) S hK hN hA hP hD hS (c_X4_isNought l D cI cJ a_p1 a_p1_limbs  p1_size u1 hu2) mwX4_isNought miX4_isNought kmX0_92 [0] rfl (by decide) rfl rfl rfl 0 rfl rfl ⟨Nat.le_of_ble_eq_true rfl, Nat.le_of_ble_eq_true rfl⟩ ⟨Nat.zero_le _, Nat.zero_le _⟩ hl.1 rfl rfl (Nat.le_of_ble_eq_true rfl) dX0_rounded_1 (fun H locs hP hD hS => ?_)
  refine lv_if_eq (tgt := 14) hx hb dX0_rounded_4 (by decide) (fun hc43 => ?_) (fun hc43 => ?_)
  · have hf := ifT hc43 hf
    refine lv_iload hx hb dX0_rounded_14 (lv_at hl 4 rfl) ?_
    obtain ⟨u3, hu4, hf⟩ := bdE hf
    refine cS_I (ws' := [(a_p1, .inr (5, [.ref a_p1_limbs, .int p1_size])), (a_p1_limbs, .inl (cJ, 160, .inr (.inl p1_limbs)))]) (rest := []) S hK hN hA hP hD hS (c_X2_precision l D cI cJ  p4  u3 hu4) mwX2_precision msX2_precision kmX0_139 [] rfl (by decide) rfl rfl rfl ⟨Nat.le_of_ble_eq_true rfl, Nat.le_of_ble_eq_true rfl⟩ ⟨Nat.zero_le _, Nat.zero_le _⟩ hl.1 rfl rfl (Nat.le_of_ble_eq_true rfl) dX0_rounded_16 (fun H locs hP hD hS => ?_)
    refine lv_istore (lv' := [(6, .int u3), (0, .int p0), (1, .ref a_p1), (2, .int p2), (3, .int p3), (4, .int p4), (5, .int p5)]) hx hb dX0_rounded_19 hl (by decide) rfl (fun ls hl => ?_)
    refine lv_iload hx hb dX0_rounded_21 (lv_at hl 5 rfl) ?_
    obtain ⟨u5, hu6, hf⟩ := bdE hf
    refine cS_I (ws' := [(a_p1, .inr (5, [.ref a_p1_limbs, .int p1_size])), (a_p1_limbs, .inl (cJ, 160, .inr (.inl p1_limbs)))]) (rest := []) S hK hN hA hP hD hS (c_X2_lowest l D cI cJ  p4  u5 hu6) mwX2_lowest msX2_lowest kmX0_143 [] rfl (by decide) rfl rfl rfl ⟨Nat.le_of_ble_eq_true rfl, Nat.le_of_ble_eq_true rfl⟩ ⟨Nat.zero_le _, Nat.zero_le _⟩ hl.1 rfl rfl (Nat.le_of_ble_eq_true rfl) dX0_rounded_23 (fun H locs hP hD hS => ?_)
    refine lv_istore (lv' := [(7, .int u5), (6, .int u3), (0, .int p0), (1, .ref a_p1), (2, .int p2), (3, .int p3), (4, .int p4), (5, .int p5)]) hx hb dX0_rounded_26 hl (by decide) rfl (fun ls hl => ?_)
    refine lv_iload_n hx hb dX0_rounded_28 rfl (lv_at hl 4 rfl) ?_
    refine lv_aload_n hx hb dX0_rounded_29 rfl (lv_at hl 3 rfl) ?_
    obtain ⟨u7, hu8, hf⟩ := bdE hf
    refine cV_I (ws' := [(a_p1, .inr (5, [.ref a_p1_limbs, .int p1_size])), (a_p1_limbs, .inl (cJ, 160, .inr (.inl p1_limbs)))]) (rest := [.int p2]) S hK hN hA hP hD hS (c_X4_bits l D cI cJ a_p1 a_p1_limbs  p1_size p1_limbs u7 hu8) mwX4_bits miX4_bits kmX0_135 [0, 1] rfl (by decide) rfl rfl rfl 0 rfl rfl ⟨Nat.le_of_ble_eq_true rfl, Nat.le_of_ble_eq_true rfl⟩ ⟨Nat.zero_le _, Nat.zero_le _⟩ hl.1 rfl rfl (Nat.le_of_ble_eq_true rfl) dX0_rounded_30 (fun H locs hP hD hS => ?_)
    refine lv_iadd hx hb dX0_rounded_33 ?_
    refine lv_iload hx hb dX0_rounded_34 (lv_at hl 1 rfl) ?_
    refine lv_isub hx hb dX0_rounded_36 ?_
    refine lv_iload hx hb dX0_rounded_37 (lv_at hl 0 rfl) ?_
    obtain ⟨u9, hu10, hf⟩ := bdE hf
    refine cS_I (ws' := [(a_p1, .inr (5, [.ref a_p1_limbs, .int p1_size])), (a_p1_limbs, .inl (cJ, 160, .inr (.inl p1_limbs)))]) (rest := []) S hK hN hA hP hD hS (c_J9_max_7cf53 l D cI cJ  ((p2 + u7) - u3) u5  u9 hu10) mwJ9_max_7cf53 msJ9_max_7cf53 kmX0_146 [] rfl (by decide) rfl rfl rfl ⟨Nat.le_of_ble_eq_true rfl, Nat.le_of_ble_eq_true rfl⟩ ⟨Nat.zero_le _, Nat.zero_le _⟩ hl.1 rfl rfl (Nat.le_of_ble_eq_true rfl) dX0_rounded_39 (fun H locs hP hD hS => ?_)
    refine lv_istore (lv' := [(8, .int u9), (7, .int u5), (6, .int u3), (0, .int p0), (1, .ref a_p1), (2, .int p2), (3, .int p3), (4, .int p4), (5, .int p5)]) hx hb dX0_rounded_42 hl (by decide) rfl (fun ls hl => ?_)
    refine lv_iload hx hb dX0_rounded_44 (lv_at hl 0 rfl) ?_
    refine lv_iload hx hb dX0_rounded_46 (lv_at hl 7 rfl) ?_
    obtain ⟨u11, hu12, hf⟩ := bdE hf
    refine cS_I (ws' := [(a_p1, .inr (5, [.ref a_p1_limbs, .int p1_size])), (a_p1_limbs, .inl (cJ, 160, .inr (.inl p1_limbs)))]) (rest := [.int u9]) S hK hN hA hP hD hS (c_X2_highest l D cI cJ  p4  u11 hu12) mwX2_highest msX2_highest kmX0_149 [] rfl (by decide) rfl rfl rfl ⟨Nat.le_of_ble_eq_true rfl, Nat.le_of_ble_eq_true rfl⟩ ⟨Nat.zero_le _, Nat.zero_le _⟩ hl.1 rfl rfl (Nat.le_of_ble_eq_true rfl) dX0_rounded_48 (fun H locs hP hD hS => ?_)
    refine lv_icmp_le (tgt := 63) hx hb dX0_rounded_51 (by decide) (fun hc40 => ?_) (fun hc40 => ?_)
    · have hf := ifT hc40 hf
      refine lv_iload hx hb dX0_rounded_63 (lv_at hl 0 rfl) ?_
      refine lv_iload_n hx hb dX0_rounded_65 rfl (lv_at hl 5 rfl) ?_
      refine lv_isub hx hb dX0_rounded_66 ?_
      refine lv_istore (lv' := [(9, .int (u9 - p2)), (8, .int u9), (7, .int u5), (6, .int u3), (0, .int p0), (1, .ref a_p1), (2, .int p2), (3, .int p3), (4, .int p4), (5, .int p5)]) hx hb dX0_rounded_67 hl (by decide) rfl (fun ls hl => ?_)
      refine lv_iload hx hb dX0_rounded_69 (lv_at hl 0 rfl) ?_
      refine lv_if_le (tgt := 83) hx hb dX0_rounded_71 (by decide) (fun hc37 => ?_) (fun hc37 => ?_)
      · have hf := ifT hc37 hf
        refine lv_aload_n hx hb dX0_rounded_83 rfl (lv_at hl 5 rfl) ?_
        refine lv_iconst (v := 0) hx hb dX0_rounded_84 (by decide) ?_
        obtain ⟨u13, hu14, hf⟩ := bdE hf
        refine cV_L (ws' := [(a_p1, .inr (5, [.ref a_p1_limbs, .int p1_size])), (a_p1_limbs, .inl (cJ, 160, .inr (.inl p1_limbs)))]) (rest := []) S hK hN hA hP hD hS (c_X4_bitsFrom l D cI cJ a_p1 a_p1_limbs (0 : Int32) p1_size p1_limbs u13 hu14) mwX4_bitsFrom miX4_bitsFrom kmX0_156 [0, 1] rfl (by decide) rfl rfl rfl 0 rfl rfl ⟨Nat.le_of_ble_eq_true rfl, Nat.le_of_ble_eq_true rfl⟩ ⟨Nat.zero_le _, Nat.zero_le _⟩ hl.1 rfl rfl (Nat.le_of_ble_eq_true rfl) dX0_rounded_85 (fun H locs hP hD hS => ?_)
        refine lv_iload hx hb dX0_rounded_88 (lv_at hl 0 rfl) ?_
        refine lv_ineg hx hb dX0_rounded_90 ?_
        refine lv_lshl (v := lsh u13 (-(u9 - p2))) hx hb dX0_rounded_91 rfl ?_
        exact keyB92 p0 p3 p4 p5 u3 u5 u9 (u9 - p2) (lsh u13 (-(u9 - p2))) H locs ls hf hP hD hS (lv_sub hl [4, 5, 7, 8, 9, 3, 2, 1, 0] rfl)
      · have hf := ifF hc37 hf
        refine lv_aload_n hx hb dX0_rounded_74 rfl (lv_at hl 5 rfl) ?_
        refine lv_iload hx hb dX0_rounded_75 (lv_at hl 0 rfl) ?_
        obtain ⟨u35, hu36, hf⟩ := bdE hf
        refine cV_L (ws' := [(a_p1, .inr (5, [.ref a_p1_limbs, .int p1_size])), (a_p1_limbs, .inl (cJ, 160, .inr (.inl p1_limbs)))]) (rest := []) S hK hN hA hP hD hS (c_X4_bitsFrom l D cI cJ a_p1 a_p1_limbs (u9 - p2) p1_size p1_limbs u35 hu36) mwX4_bitsFrom miX4_bitsFrom kmX0_156 [0, 1] rfl (by decide) rfl rfl rfl 0 rfl rfl ⟨Nat.le_of_ble_eq_true rfl, Nat.le_of_ble_eq_true rfl⟩ ⟨Nat.zero_le _, Nat.zero_le _⟩ hl.1 rfl rfl (Nat.le_of_ble_eq_true rfl) dX0_rounded_77 (fun H locs hP hD hS => ?_)
        refine lv_goto (tgt := 92) hx hb dX0_rounded_80 (by decide) ?_
        exact keyB92 p0 p3 p4 p5 u3 u5 u9 (u9 - p2) u35 H locs ls hf hP hD hS (lv_sub hl [4, 5, 7, 8, 9, 3, 2, 1, 0] rfl)
    · have hf := ifF hc40 hf
      refine lv_iload hx hb dX0_rounded_54 (lv_at hl 7 rfl) ?_
      refine lv_iload_n hx hb dX0_rounded_56 rfl (lv_at hl 3 rfl) ?_
      refine lv_iload hx hb dX0_rounded_57 (lv_at hl 8 rfl) ?_
      obtain ⟨u38, hu39, hf⟩ := bdE hf
      refine cS_L (ws' := [(a_p1, .inr (5, [.ref a_p1_limbs, .int p1_size])), (a_p1_limbs, .inl (cJ, 160, .inr (.inl p1_limbs)))]) (rest := []) S hK hN hA hP hD hS (c_X2_tooGreat l D cI cJ  p4 p0 p5  u38 hu39) mwX2_tooGreat msX2_tooGreat kmX0_152 [] rfl (by decide) rfl rfl rfl ⟨Nat.le_of_ble_eq_true rfl, Nat.le_of_ble_eq_true rfl⟩ ⟨Nat.zero_le _, Nat.zero_le _⟩ hl.1 rfl rfl (Nat.le_of_ble_eq_true rfl) dX0_rounded_59 (fun H locs hP hD hS => ?_)
      exact hret _ (opE hf) H locs ls 62 dX0_rounded_62 hP hD hS
  · have hf := ifF hc43 hf
    refine lv_iload hx hb dX0_rounded_7 (lv_at hl 4 rfl) ?_
    refine lv_iload_n hx hb dX0_rounded_9 rfl (lv_at hl 0 rfl) ?_
    obtain ⟨u41, hu42, hf⟩ := bdE hf
    refine cS_L (ws' := [(a_p1, .inr (5, [.ref a_p1_limbs, .int p1_size])), (a_p1_limbs, .inl (cJ, 160, .inr (.inl p1_limbs)))]) (rest := []) S hK hN hA hP hD hS (c_X2_nought l D cI cJ  p4 p0  u41 hu42) mwX2_nought msX2_nought kmX0_67 [] rfl (by decide) rfl rfl rfl ⟨Nat.le_of_ble_eq_true rfl, Nat.le_of_ble_eq_true rfl⟩ ⟨Nat.zero_le _, Nat.zero_le _⟩ hl.1 rfl rfl (Nat.le_of_ble_eq_true rfl) dX0_rounded_10 (fun H locs hP hD hS => ?_)
    exact hret _ (opE hf) H locs ls 13 dX0_rounded_13 hP hD hS
set_option maxRecDepth 100000 in
set_option maxHeartbeats 4000000 in
theorem c_X2_endless (l : Launch) (D : va_G) (cI cJ : ClassId) (p0 : Int32) (p1 : Int32)  (u : Int64) (hf : f_X2_endless p0 p1 = some u) : CtL l yX2_endless cX2_endless 2 2 43 [.int p0, .int p1] D cI cJ [] [] u := by
  refine mkL (own := RX2) rfl (by decide +kernel) (Nat.le_of_ble_eq_true rfl) (lv := [(0, .int p0), (1, .int p1)]) rfl ?_
  intro p e s m below meth c Q A ls ar S hA hK hN hret H locs hP hD hS hl
  obtain ⟨hx, hb, hml, hown, hts⟩ := id S
  have hret : ∀ (w : Int64), w = u → ∀ (H : Heap) (locs : List Loc) (ls : Array Slot) (pc : Nat), decode cX2_endless pc = .ok (.lreturn, 1) → va_P D vwCl [] H → va_D A [] → va_S A s.heap H locs → W p l e (rmz 2 43) s m ar below meth c H locs 0 0 Q (F0 m pc ls [.long w]) := fun w hw => hw ▸ hret
  unfold f_X2_endless at hf
  refine lv_iload_n hx hb dX2_endless_0 rfl (lv_at hl 0 rfl) ?_
  refine lv_iload_n hx hb dX2_endless_1 rfl (lv_at hl 1 rfl) ?_
  refine lv_iload_n hx hb dX2_endless_2 rfl (lv_at hl 0 rfl) ?_
  obtain ⟨u1, hu2, hf⟩ := bdE hf
  refine cS_L (ws' := []) (rest := [.int p1, .int p0]) S hK hN hA hP hD hS (c_X2_endlessSize l D cI cJ  p0  u1 hu2) mwX2_endlessSize msX2_endlessSize kmX2_29 [] rfl (by decide) rfl rfl rfl ⟨Nat.le_of_ble_eq_true rfl, Nat.le_of_ble_eq_true rfl⟩ ⟨Nat.zero_le _, Nat.zero_le _⟩ hl.1 rfl rfl (Nat.le_of_ble_eq_true rfl) dX2_endless_3 (fun H locs hP hD hS => ?_)
  obtain ⟨u3, hu4, hf⟩ := bdE hf
  refine cS_L (ws' := []) (rest := []) S hK hN hA hP hD hS (c_X2_signed l D cI cJ  p0 p1 u1  u3 hu4) mwX2_signed msX2_signed kmX2_25 [] rfl (by decide) rfl rfl rfl ⟨Nat.le_of_ble_eq_true rfl, Nat.le_of_ble_eq_true rfl⟩ ⟨Nat.zero_le _, Nat.zero_le _⟩ hl.1 rfl rfl (Nat.le_of_ble_eq_true rfl) dX2_endless_6 (fun H locs hP hD hS => ?_)
  exact hret _ (opE hf) H locs ls 9 dX2_endless_9 hP hD hS
set_option maxRecDepth 100000 in
set_option maxHeartbeats 4000000 in
theorem c_X2_none (l : Launch) (D : va_G) (cI cJ : ClassId) (p0 : Int32)  (u : Int64) (hf : f_X2_none p0 = some u) : CtL l yX2_none cX2_none 1 1 20 [.int p0] D cI cJ [] [] u := by
  refine mkL (own := RX2) rfl (by decide +kernel) (Nat.le_of_ble_eq_true rfl) (lv := [(0, .int p0)]) rfl ?_
  intro p e s m below meth c Q A ls ar S hA hK hN hret H locs hP hD hS hl
  obtain ⟨hx, hb, hml, hown, hts⟩ := id S
  have hret : ∀ (w : Int64), w = u → ∀ (H : Heap) (locs : List Loc) (ls : Array Slot) (pc : Nat), decode cX2_none pc = .ok (.lreturn, 1) → va_P D vwCl [] H → va_D A [] → va_S A s.heap H locs → W p l e (rmz 1 20) s m ar below meth c H locs 0 0 Q (F0 m pc ls [.long w]) := fun w hw => hw ▸ hret
  unfold f_X2_none at hf
  refine lv_iload_n hx hb dX2_none_0 rfl (lv_at hl 0 rfl) ?_
  obtain ⟨u1, hu2, hf⟩ := bdE hf
  refine cS_L (ws' := []) (rest := []) S hK hN hA hP hD hS (c_X2_endlessSize l D cI cJ  p0  u1 hu2) mwX2_endlessSize msX2_endlessSize kmX2_29 [] rfl (by decide) rfl rfl rfl ⟨Nat.le_of_ble_eq_true rfl, Nat.le_of_ble_eq_true rfl⟩ ⟨Nat.zero_le _, Nat.zero_le _⟩ hl.1 rfl rfl (Nat.le_of_ble_eq_true rfl) dX2_none_1 (fun H locs hP hD hS => ?_)
  refine lv_lconst (v := 1) hx hb dX2_none_4 (by decide) ?_
  refine lv_iload_n hx hb dX2_none_5 rfl (lv_at hl 0 rfl) ?_
  obtain ⟨u3, hu4, hf⟩ := bdE hf
  refine cS_I (ws' := []) (rest := [.long (1 : Int64), .long u1]) S hK hN hA hP hD hS (c_X2_precision l D cI cJ  p0  u3 hu4) mwX2_precision msX2_precision kmX2_32 [] rfl (by decide) rfl rfl rfl ⟨Nat.le_of_ble_eq_true rfl, Nat.le_of_ble_eq_true rfl⟩ ⟨Nat.zero_le _, Nat.zero_le _⟩ hl.1 rfl rfl (Nat.le_of_ble_eq_true rfl) dX2_none_6 (fun H locs hP hD hS => ?_)
  refine lv_iconst (v := 2) hx hb dX2_none_9 (by decide) ?_
  refine lv_isub hx hb dX2_none_10 ?_
  refine lv_lshl (v := lsh (1 : Int64) (u3 - (2 : Int32))) hx hb dX2_none_11 rfl ?_
  refine lv_lor hx hb dX2_none_12 ?_
  exact hret _ (opE hf) H locs ls 13 dX2_none_13 hP hD hS
set_option maxRecDepth 100000 in
set_option maxHeartbeats 4000000 in
theorem c_X4_trim (l : Launch) (D : va_G) (cI cJ : ClassId) (a_p0 a_p0_limbs : Nat) (p0_size : Int32) (p0_limbs : (Nat → Int64)) (u : Int32) (hf : f_X4_trim p0_limbs p0_size = some u) : CtV l yX4_trim cX4_trim 1 0 0 [.ref a_p0] D cI cJ [(a_p0, .inr (5, [.ref a_p0_limbs, .int p0_size])), (a_p0_limbs, .inl (cJ, 160, .inr (.inl p0_limbs)))] [(a_p0, .inr (5, [.ref a_p0_limbs, .int u])), (a_p0_limbs, .inl (cJ, 160, .inr (.inl p0_limbs)))] := by
  refine mkV (own := RX4) rfl (by decide +kernel) (Nat.le_of_ble_eq_true rfl) (lv := [(0, .ref a_p0)]) rfl ?_
  intro p e s m below meth c Q A ls ar S hA hK hN hret H locs hP hD hS hl
  obtain ⟨hx, hb, hml, hown, hts⟩ := id S
  have hret : ∀ (w : Int32), w = u → ∀ (H : Heap) (locs : List Loc) (ls : Array Slot) (pc : Nat), decode cX4_trim pc = .ok (.return_, 1) → va_P D vwCl [(a_p0, .inr (5, [.ref a_p0_limbs, .int w])), (a_p0_limbs, .inl (cJ, 160, .inr (.inl p0_limbs)))] H → va_D A [(a_p0, .inr (5, [.ref a_p0_limbs, .int w])), (a_p0_limbs, .inl (cJ, 160, .inr (.inl p0_limbs)))] → va_S A s.heap H locs → W p l e (rmz 0 0) s m ar below meth c H locs 0 0 Q (F0 m pc ls []) := fun w hw => hw ▸ hret
  have keyL0 : ∀ (n : Nat) (p0_size : Int32) (H : Heap) (locs : List Loc) (ls : Array Slot), f_X4_trim_L0 p0_limbs n p0_size = some u → va_P D vwCl [(a_p0, .inr (5, [.ref a_p0_limbs, .int p0_size])), (a_p0_limbs, .inl (cJ, 160, .inr (.inl p0_limbs)))] H → va_D A [(a_p0, .inr (5, [.ref a_p0_limbs, .int p0_size])), (a_p0_limbs, .inl (cJ, 160, .inr (.inl p0_limbs)))] → va_S A s.heap H locs → lv_has ls 1 [(0, .ref a_p0)] → W p l e (rmz 0 0) s m ar below meth c H locs 0 0 Q (F0 m 0 ls []) := by
    intro n
    induction n with
      | zero =>
        intro p0_size H locs ls hf
        cases hf
      | succ n ih =>
        intro p0_size H locs ls hf hP hD hS hl
        rw [f_X4_trim_L0] at hf
        refine lv_aload_n hx hb dX4_trim_0 rfl (lv_at hl 0 rfl) ?_
        refine va_get (D := D) (ci := 5) (v := .int p0_size) (C := RX4) (T := TX4) (N := 2) hx hb hts uwX4 hown hK hP 0 rfl rfl 1 (by decide) (hts _ kfX4_15) (fun _ h9 => h9) rfl dX4_trim_1 ?_
        refine lv_if_le (tgt := 36) hx hb dX4_trim_4 (by decide) (fun hc3 => ?_) (fun hc3 => ?_)
        · have hf := ifT hc3 hf
          exact hret _ (opE hf) H locs ls 36 dX4_trim_36 hP hD hS
        · have hf := ifF hc3 hf
          refine lv_aload_n hx hb dX4_trim_7 rfl (lv_at hl 0 rfl) ?_
          refine va_get (D := D) (ci := 5) (v := .ref a_p0_limbs) (C := RX4) (T := TX4) (N := 2) hx hb hts uwX4 hown hK hP 0 rfl rfl 0 (by decide) (hts _ kfX4_9) (fun _ h9 => h9) rfl dX4_trim_8 ?_
          refine lv_aload_n hx hb dX4_trim_11 rfl (lv_at hl 0 rfl) ?_
          refine va_get (D := D) (ci := 5) (v := .int p0_size) (C := RX4) (T := TX4) (N := 2) hx hb hts uwX4 hown hK hP 0 rfl rfl 1 (by decide) (hts _ kfX4_15) (fun _ h9 => h9) rfl dX4_trim_12 ?_
          refine lv_iconst (v := 1) hx hb dX4_trim_15 (by decide) ?_
          refine lv_isub hx hb dX4_trim_16 ?_
          obtain ⟨hi1, hf⟩ := gdE hf
          refine va_lald hx hb hK hP 1 1 rfl rfl hi1 dX4_trim_17 ?_
          refine lv_lconst (v := 0) hx hb dX4_trim_18 (by decide) ?_
          refine W.lcmp hx hb dX4_trim_19 ?_
          refine lv_if_ne (tgt := 36) hx hb dX4_trim_20 (by decide) (fun hc2 => ?_) (fun hc2 => ?_)
          · have hf := ifF hc2 hf
            exact hret _ (opE hf) H locs ls 36 dX4_trim_36 hP hD hS
          · have hf := ifT hc2 hf
            refine lv_aload_n hx hb dX4_trim_23 rfl (lv_at hl 0 rfl) ?_
            refine lv_dup hx hb dX4_trim_24 rfl ?_
            refine va_get (D := D) (ci := 5) (v := .int p0_size) (C := RX4) (T := TX4) (N := 2) hx hb hts uwX4 hown hK hP 0 rfl rfl 1 (by decide) (hts _ kfX4_15) (fun _ h9 => h9) rfl dX4_trim_25 ?_
            refine lv_iconst (v := 1) hx hb dX4_trim_28 (by decide) ?_
            refine lv_isub hx hb dX4_trim_29 ?_
            refine va_put (D := D) (ci := 5) (v := .int (p0_size - (1 : Int32))) (ty := tyX4 1) (C := RX4) (T := TX4) (N := 2) hx hb hts uwX4 tyX4 tyX4_ok nmX4 hown hK hP hD hS 0 rfl rfl 1 (by decide) (hts _ kfX4_15) (fun _ h9 => h9) rfl (tyX4_ok 1 (by decide)) rfl rfl (Nat.le_of_ble_eq_true rfl) dX4_trim_30 (fun H locs hP hD hS => ?_)
            have hP : va_P D vwCl [(a_p0, .inr (5, [.ref a_p0_limbs, .int (p0_size - (1 : Int32))])), (a_p0_limbs, .inl (cJ, 160, .inr (.inl p0_limbs)))] H := hP
            have hD : va_D A [(a_p0, .inr (5, [.ref a_p0_limbs, .int (p0_size - (1 : Int32))])), (a_p0_limbs, .inl (cJ, 160, .inr (.inl p0_limbs)))] := hD
            refine lv_goto (tgt := 0) hx hb dX4_trim_33 (by decide) ?_
            exact ih (p0_size - (1 : Int32)) H locs ls hf hP hD hS (lv_sub hl [0] rfl)
  unfold f_X4_trim at hf
  exact keyL0 FU p0_size H locs ls hf hP hD hS (lv_sub hl [0] rfl)
set_option maxRecDepth 100000 in
set_option maxHeartbeats 4000000 in
theorem c_X4_take (l : Launch) (D : va_G) (cI cJ : ClassId) (a_p0 a_p0_limbs : Nat) (p1 : Int64) (p0_size : Int32) (p0_limbs : (Nat → Int64)) (u : Int32 × (Nat → Int64)) (hf : f_X4_take p1 p0_size p0_limbs = some u) : CtV l yX4_take cX4_take 3 1 20 [.ref a_p0, .long p1] D cI cJ [(a_p0, .inr (5, [.ref a_p0_limbs, .int p0_size])), (a_p0_limbs, .inl (cJ, 160, .inr (.inl p0_limbs)))] [(a_p0, .inr (5, [.ref a_p0_limbs, .int u.1])), (a_p0_limbs, .inl (cJ, 160, .inr (.inl u.2)))] := by
  refine mkV (own := RX4) rfl (by decide +kernel) (Nat.le_of_ble_eq_true rfl) (lv := [(0, .ref a_p0), (1, .long p1)]) rfl ?_
  intro p e s m below meth c Q A ls ar S hA hK hN hret H locs hP hD hS hl
  obtain ⟨hx, hb, hml, hown, hts⟩ := id S
  have hret : ∀ (w : Int32 × (Nat → Int64)), w = u → ∀ (H : Heap) (locs : List Loc) (ls : Array Slot) (pc : Nat), decode cX4_take pc = .ok (.return_, 1) → va_P D vwCl [(a_p0, .inr (5, [.ref a_p0_limbs, .int w.1])), (a_p0_limbs, .inl (cJ, 160, .inr (.inl w.2)))] H → va_D A [(a_p0, .inr (5, [.ref a_p0_limbs, .int w.1])), (a_p0_limbs, .inl (cJ, 160, .inr (.inl w.2)))] → va_S A s.heap H locs → W p l e (rmz 1 20) s m ar below meth c H locs 0 0 Q (F0 m pc ls []) := fun w hw => hw ▸ hret
  unfold f_X4_take at hf
  refine lv_aload_n hx hb dX4_take_0 rfl (lv_at hl 0 rfl) ?_
  refine va_get (D := D) (ci := 5) (v := .ref a_p0_limbs) (C := RX4) (T := TX4) (N := 2) hx hb hts uwX4 hown hK hP 0 rfl rfl 0 (by decide) (hts _ kfX4_9) (fun _ h9 => h9) rfl dX4_take_1 ?_
  refine lv_iconst (v := 0) hx hb dX4_take_4 (by decide) ?_
  refine lv_lload_n hx hb dX4_take_5 rfl (lv_at hl 1 rfl) ?_
  refine lv_ldc2 hx hb hown (hts _ kcX4_13) dX4_take_6 ?_
  refine lv_land hx hb dX4_take_9 ?_
  refine va_last hx hb hK hP hD hS 1 1 rfl rfl (vin_lit rfl) dX4_take_10 (fun H locs hP hD hS => ?_)
  have hP : va_P D vwCl [(a_p0, .inr (5, [.ref a_p0_limbs, .int p0_size])), (a_p0_limbs, .inl (cJ, 160, .inr (.inl (vp_updL p0_limbs 0 (p1 &&& (4294967295 : Int64))))))] H := hP
  have hD : va_D A [(a_p0, .inr (5, [.ref a_p0_limbs, .int p0_size])), (a_p0_limbs, .inl (cJ, 160, .inr (.inl (vp_updL p0_limbs 0 (p1 &&& (4294967295 : Int64))))))] := hD
  refine lv_aload_n hx hb dX4_take_11 rfl (lv_at hl 0 rfl) ?_
  refine va_get (D := D) (ci := 5) (v := .ref a_p0_limbs) (C := RX4) (T := TX4) (N := 2) hx hb hts uwX4 hown hK hP 0 rfl rfl 0 (by decide) (hts _ kfX4_9) (fun _ h9 => h9) rfl dX4_take_12 ?_
  refine lv_iconst (v := 1) hx hb dX4_take_15 (by decide) ?_
  refine lv_lload_n hx hb dX4_take_16 rfl (lv_at hl 1 rfl) ?_
  refine lv_bipush (v := 32) hx hb dX4_take_17 (by decide) ?_
  refine lv_lushr (v := lus p1 (32 : Int32)) hx hb dX4_take_19 rfl ?_
  refine va_last hx hb hK hP hD hS 1 1 rfl rfl (vin_lit rfl) dX4_take_20 (fun H locs hP hD hS => ?_)
  have hP : va_P D vwCl [(a_p0, .inr (5, [.ref a_p0_limbs, .int p0_size])), (a_p0_limbs, .inl (cJ, 160, .inr (.inl (vp_updL (vp_updL p0_limbs 0 (p1 &&& (4294967295 : Int64))) 1 (lus p1 (32 : Int32))))))] H := hP
  have hD : va_D A [(a_p0, .inr (5, [.ref a_p0_limbs, .int p0_size])), (a_p0_limbs, .inl (cJ, 160, .inr (.inl (vp_updL (vp_updL p0_limbs 0 (p1 &&& (4294967295 : Int64))) 1 (lus p1 (32 : Int32))))))] := hD
  refine lv_aload_n hx hb dX4_take_21 rfl (lv_at hl 0 rfl) ?_
  refine lv_iconst (v := 2) hx hb dX4_take_22 (by decide) ?_
  refine va_put (D := D) (ci := 5) (v := .int (2 : Int32)) (ty := tyX4 1) (C := RX4) (T := TX4) (N := 2) hx hb hts uwX4 tyX4 tyX4_ok nmX4 hown hK hP hD hS 0 rfl rfl 1 (by decide) (hts _ kfX4_15) (fun _ h9 => h9) rfl (tyX4_ok 1 (by decide)) rfl rfl (Nat.le_of_ble_eq_true rfl) dX4_take_23 (fun H locs hP hD hS => ?_)
  have hP : va_P D vwCl [(a_p0, .inr (5, [.ref a_p0_limbs, .int (2 : Int32)])), (a_p0_limbs, .inl (cJ, 160, .inr (.inl (vp_updL (vp_updL p0_limbs 0 (p1 &&& (4294967295 : Int64))) 1 (lus p1 (32 : Int32))))))] H := hP
  have hD : va_D A [(a_p0, .inr (5, [.ref a_p0_limbs, .int (2 : Int32)])), (a_p0_limbs, .inl (cJ, 160, .inr (.inl (vp_updL (vp_updL p0_limbs 0 (p1 &&& (4294967295 : Int64))) 1 (lus p1 (32 : Int32))))))] := hD
  refine lv_aload_n hx hb dX4_take_26 rfl (lv_at hl 0 rfl) ?_
  obtain ⟨u1, hu2, hf⟩ := bdE hf
  refine cV_V (ws' := [(a_p0, .inr (5, [.ref a_p0_limbs, .int u1])), (a_p0_limbs, .inl (cJ, 160, .inr (.inl (vp_updL (vp_updL p0_limbs 0 (p1 &&& (4294967295 : Int64))) 1 (lus p1 (32 : Int32))))))]) (rest := []) S hK hN hA hP hD hS (c_X4_trim l D cI cJ a_p0 a_p0_limbs  (2 : Int32) (vp_updL (vp_updL p0_limbs 0 (p1 &&& (4294967295 : Int64))) 1 (lus p1 (32 : Int32))) u1 hu2) mwX4_trim miX4_trim kmX4_19 [0, 1] rfl (by decide) rfl rfl rfl 0 rfl rfl ⟨Nat.le_of_ble_eq_true rfl, Nat.le_of_ble_eq_true rfl⟩ ⟨Nat.zero_le _, Nat.zero_le _⟩ hl.1 rfl rfl (Nat.le_of_ble_eq_true rfl) dX4_take_27 (fun H locs hP hD hS => ?_)
  exact hret _ (opE hf) H locs ls 30 dX4_take_30 hP hD hS
