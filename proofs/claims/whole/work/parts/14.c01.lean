set_option maxRecDepth 100000 in
set_option maxHeartbeats 4000000 in
theorem c_X9_needWay (l : Launch) (hst : l.stackTraces = false) (D : va_G) (cI cJ : ClassId) (sa sv : Nat → Nat) (p0 : Int32)  (u : (Nat) ⊕ (Unit)) (hf : f_X9_needWay p0 = some u) : CxV l yX9_needWay cX9_needWay 1 6 1 6 90 [.int p0] D cI cJ sa sv [] (fun w => ∃ y : Unit, u = .inr y ∧ w = []) (fun E w => ∃ x : Nat, u = .inl x ∧ E = exn x ∧ w = []) := by
  refine mkXV hst (own := RX9) rfl (by decide) (Nat.le_of_ble_eq_true rfl) (lv := [(0, .int p0)]) rfl ?_
  intro p e s m below meth c Q A ls ar S hA hK hN hE hret hthr hnew H locs hP hD hS hl
  obtain ⟨hx, hb, hml, hown, hts⟩ := id S
  have keyB9 : ∀  (H : Heap) (locs : List Loc) (ls : Array Slot), f_X9_needWay_B9  = some u → va_P D vwCl [] H → va_D A [] → va_S A s.heap H locs → lv_has ls 1 [] → W p l e (rmc 6 1 6 90) s m ar below meth c H locs 0 0 Q (F0 m 9 ls []) := by
    intro  H locs ls hf hP hD hS hl
    unfold f_X9_needWay_B9 at hf
    exact hnew _ _ 96 205 100 3 _ _ _ H locs ls 9 _ _ _ thrW2 rfl ⟨_, (opE hf).symm, rfl, rfl⟩ hl.1 dX9_needWay_9 dX9_needWay_12 dX9_needWay_13 dX9_needWay_15 dX9_needWay_18 (by decide) (Nat.le_of_ble_eq_true rfl) (Nat.le_of_ble_eq_true rfl) (Nat.le_of_ble_eq_true rfl) hP hD hS
  unfold f_X9_needWay at hf
  refine lv_iload_n hx hb dX9_needWay_0 rfl (lv_at hl 0 rfl) ?_
  refine lv_if_lt (tgt := 9) hx hb dX9_needWay_1 (by decide) (fun hc2 => ?_) (fun hc2 => ?_)
  · have hf := ifT hc2 hf
    refine W.widen (k := 0) (n := 0) (Nat.le_of_ble_eq_true rfl) (Nat.le_of_ble_eq_true rfl) ?_
    exact keyB9  H locs ls hf hP hD hS (lv_sub hl [] rfl)
  · have hf := ifF hc2 hf
    refine lv_iload_n hx hb dX9_needWay_4 rfl (lv_at hl 0 rfl) ?_
    refine lv_iconst (v := 3) hx hb dX9_needWay_5 (by decide) ?_
    refine lv_icmp_le (tgt := 19) hx hb dX9_needWay_6 (by decide) (fun hc1 => ?_) (fun hc1 => ?_)
    · have hf := ifT hc1 hf
      exact hret _ H locs ls 19 _ _ ⟨_, (opE hf).symm, rfl⟩ (Nat.le_of_ble_eq_true rfl) (Nat.le_of_ble_eq_true rfl) dX9_needWay_19 hP hD hS
    · have hf := ifF hc1 hf
      refine W.widen (k := 0) (n := 0) (Nat.le_of_ble_eq_true rfl) (Nat.le_of_ble_eq_true rfl) ?_
      exact keyB9  H locs ls hf hP hD hS (lv_sub hl [] rfl)
set_option maxRecDepth 100000 in
set_option maxHeartbeats 4000000 in
theorem c_X9_lookAtTwo (l : Launch) (hst : l.stackTraces = false) (D : va_G) (cI cJ : ClassId) (sa sv : Nat → Nat) (a_p0 a_p0_formats a_p0_patterns a_p0_first a_p0_second a_p0_third a_p0_tape a_p0_acts a_p0_sheet a_p0_forms : Nat) (p1 : Int32) (p2 : Int32) (p3 : Int32) (p4 : Int32) (p0_formats : (Nat → Int32)) (p0_patterns : (Nat → Int64)) (p0_first_kind : Int32) (p0_first_minus : Int32) (p0_first_m : Int64) (p0_first_e : Int32) (p0_first_narrowBelow : Int32) (p0_second_kind : Int32) (p0_second_minus : Int32) (p0_second_m : Int64) (p0_second_e : Int32) (p0_second_narrowBelow : Int32) (u : (Nat × Int32 × Int32 × Int64 × Int32 × Int32 × Int32 × Int32 × Int64 × Int32 × Int32) ⊕ (Int32 × Int32 × Int64 × Int32 × Int32 × Int32 × Int32 × Int64 × Int32 × Int32)) (hf : f_X9_lookAtTwo p0_formats p0_patterns p1 p2 p3 p4 p0_first_kind p0_first_minus p0_first_m p0_first_e p0_first_narrowBelow p0_second_kind p0_second_minus p0_second_m p0_second_e p0_second_narrowBelow = some u) : CxV l yX9_lookAtTwo cX9_lookAtTwo 5 7 4 24 110 [.ref a_p0, .int p1, .int p2, .int p3, .int p4] D cI cJ sa sv [(a_p0, .inr (10, [.ref a_p0_formats, .ref a_p0_patterns, .ref a_p0_first, .ref a_p0_second, .ref a_p0_third, .ref a_p0_tape, .ref a_p0_acts, .ref a_p0_sheet, .ref a_p0_forms])), (a_p0_formats, .inl (cI, 16, .inl p0_formats)), (a_p0_patterns, .inl (cJ, 16, .inr (.inl p0_patterns))), (a_p0_first, .inr (9, [.int p0_first_kind, .int p0_first_minus, .long p0_first_m, .int p0_first_e, .int p0_first_narrowBelow])), (a_p0_second, .inr (9, [.int p0_second_kind, .int p0_second_minus, .long p0_second_m, .int p0_second_e, .int p0_second_narrowBelow]))] (fun w => ∃ y : Int32 × Int32 × Int64 × Int32 × Int32 × Int32 × Int32 × Int64 × Int32 × Int32, u = .inr y ∧ w = [(a_p0, .inr (10, [.ref a_p0_formats, .ref a_p0_patterns, .ref a_p0_first, .ref a_p0_second, .ref a_p0_third, .ref a_p0_tape, .ref a_p0_acts, .ref a_p0_sheet, .ref a_p0_forms])), (a_p0_formats, .inl (cI, 16, .inl p0_formats)), (a_p0_patterns, .inl (cJ, 16, .inr (.inl p0_patterns))), (a_p0_first, .inr (9, [.int y.1, .int y.2.1, .long y.2.2.1, .int y.2.2.2.1, .int y.2.2.2.2.1])), (a_p0_second, .inr (9, [.int y.2.2.2.2.2.1, .int y.2.2.2.2.2.2.1, .long y.2.2.2.2.2.2.2.1, .int y.2.2.2.2.2.2.2.2.1, .int y.2.2.2.2.2.2.2.2.2]))]) (fun E w => ∃ x : Nat × Int32 × Int32 × Int64 × Int32 × Int32 × Int32 × Int32 × Int64 × Int32 × Int32, u = .inl x ∧ E = exn x.1 ∧ w = [(a_p0, .inr (10, [.ref a_p0_formats, .ref a_p0_patterns, .ref a_p0_first, .ref a_p0_second, .ref a_p0_third, .ref a_p0_tape, .ref a_p0_acts, .ref a_p0_sheet, .ref a_p0_forms])), (a_p0_formats, .inl (cI, 16, .inl p0_formats)), (a_p0_patterns, .inl (cJ, 16, .inr (.inl p0_patterns))), (a_p0_first, .inr (9, [.int x.2.1, .int x.2.2.1, .long x.2.2.2.1, .int x.2.2.2.2.1, .int x.2.2.2.2.2.1])), (a_p0_second, .inr (9, [.int x.2.2.2.2.2.2.1, .int x.2.2.2.2.2.2.2.1, .long x.2.2.2.2.2.2.2.2.1, .int x.2.2.2.2.2.2.2.2.2.1, .int x.2.2.2.2.2.2.2.2.2.2]))]) := by
  refine mkXV hst (own := RX9) rfl (by decide) (Nat.le_of_ble_eq_true rfl) (lv := [(0, .ref a_p0), (1, .int p1), (2, .int p2), (3, .int p3), (4, .int p4)]) rfl ?_
  intro p e s m below meth c Q A ls ar S hA hK hN hE hret hthr hnew H locs hP hD hS hl
  obtain ⟨hx, hb, hml, hown, hts⟩ := id S
  unfold f_X9_lookAtTwo at hf
  refine lv_iload_n hx hb dX9_lookAtTwo_0 rfl (lv_at hl 1 rfl) ?_
  obtain ⟨u1, hu2, hf⟩ := bdE hf
  refine xS_V (rest := []) S hK hN hE hA hP hD hS (c_X9_needPlace l hst D cI cJ sa sv  p1  u1 hu2) mwX9_needPlace msX9_needPlace kmX9_68 [] rfl (by decide) ⟨Nat.le_of_ble_eq_true rfl, Nat.le_of_ble_eq_true rfl⟩ ⟨Nat.le_of_ble_eq_true rfl, Nat.le_of_ble_eq_true rfl⟩ hl.1 rfl rfl (Nat.le_of_ble_eq_true rfl) dX9_lookAtTwo_1 (fun E w H locs q ce hX hB hS hq hv hcl => ?_) (fun w H locs hR hB hS => ?_)
  · obtain ⟨x3, hx9, rfl, rfl⟩ := hX
    have hf := smL hx9 hf
    exact hthr _ _ H locs ls 1 _ _ _ q ce ⟨_, (opE hf).symm, rfl, rfl⟩ (Nat.le_of_ble_eq_true rfl) (Nat.le_of_ble_eq_true rfl) hq hv hcl (hB _ rfl rfl) (hD.adr rfl) hS
  · obtain ⟨y4, hy9, rfl⟩ := hR
    have hf := smR hy9 hf
    have hP : va_P D vwCl [(a_p0, .inr (10, [.ref a_p0_formats, .ref a_p0_patterns, .ref a_p0_first, .ref a_p0_second, .ref a_p0_third, .ref a_p0_tape, .ref a_p0_acts, .ref a_p0_sheet, .ref a_p0_forms])), (a_p0_formats, .inl (cI, 16, .inl p0_formats)), (a_p0_patterns, .inl (cJ, 16, .inr (.inl p0_patterns))), (a_p0_first, .inr (9, [.int p0_first_kind, .int p0_first_minus, .long p0_first_m, .int p0_first_e, .int p0_first_narrowBelow])), (a_p0_second, .inr (9, [.int p0_second_kind, .int p0_second_minus, .long p0_second_m, .int p0_second_e, .int p0_second_narrowBelow]))] H := hB _ rfl rfl
    have hD : va_D A [(a_p0, .inr (10, [.ref a_p0_formats, .ref a_p0_patterns, .ref a_p0_first, .ref a_p0_second, .ref a_p0_third, .ref a_p0_tape, .ref a_p0_acts, .ref a_p0_sheet, .ref a_p0_forms])), (a_p0_formats, .inl (cI, 16, .inl p0_formats)), (a_p0_patterns, .inl (cJ, 16, .inr (.inl p0_patterns))), (a_p0_first, .inr (9, [.int p0_first_kind, .int p0_first_minus, .long p0_first_m, .int p0_first_e, .int p0_first_narrowBelow])), (a_p0_second, .inr (9, [.int p0_second_kind, .int p0_second_minus, .long p0_second_m, .int p0_second_e, .int p0_second_narrowBelow]))] := hD.adr rfl
    refine lv_iload_n hx hb dX9_lookAtTwo_4 rfl (lv_at hl 2 rfl) ?_
    obtain ⟨u5, hu6, hf⟩ := bdE hf
    refine xS_V (rest := []) S hK hN hE hA hP hD hS (c_X9_needPlace l hst D cI cJ sa sv  p2  u5 hu6) mwX9_needPlace msX9_needPlace kmX9_68 [] rfl (by decide) ⟨Nat.le_of_ble_eq_true rfl, Nat.le_of_ble_eq_true rfl⟩ ⟨Nat.le_of_ble_eq_true rfl, Nat.le_of_ble_eq_true rfl⟩ hl.1 rfl rfl (Nat.le_of_ble_eq_true rfl) dX9_lookAtTwo_5 (fun E w H locs q ce hX hB hS hq hv hcl => ?_) (fun w H locs hR hB hS => ?_)
    · obtain ⟨x7, hx9, rfl, rfl⟩ := hX
      have hf := smL hx9 hf
      exact hthr _ _ H locs ls 5 _ _ _ q ce ⟨_, (opE hf).symm, rfl, rfl⟩ (Nat.le_of_ble_eq_true rfl) (Nat.le_of_ble_eq_true rfl) hq hv hcl (hB _ rfl rfl) (hD.adr rfl) hS
    · obtain ⟨y8, hy9, rfl⟩ := hR
      have hf := smR hy9 hf
      have hP : va_P D vwCl [(a_p0, .inr (10, [.ref a_p0_formats, .ref a_p0_patterns, .ref a_p0_first, .ref a_p0_second, .ref a_p0_third, .ref a_p0_tape, .ref a_p0_acts, .ref a_p0_sheet, .ref a_p0_forms])), (a_p0_formats, .inl (cI, 16, .inl p0_formats)), (a_p0_patterns, .inl (cJ, 16, .inr (.inl p0_patterns))), (a_p0_first, .inr (9, [.int p0_first_kind, .int p0_first_minus, .long p0_first_m, .int p0_first_e, .int p0_first_narrowBelow])), (a_p0_second, .inr (9, [.int p0_second_kind, .int p0_second_minus, .long p0_second_m, .int p0_second_e, .int p0_second_narrowBelow]))] H := hB _ rfl rfl
      have hD : va_D A [(a_p0, .inr (10, [.ref a_p0_formats, .ref a_p0_patterns, .ref a_p0_first, .ref a_p0_second, .ref a_p0_third, .ref a_p0_tape, .ref a_p0_acts, .ref a_p0_sheet, .ref a_p0_forms])), (a_p0_formats, .inl (cI, 16, .inl p0_formats)), (a_p0_patterns, .inl (cJ, 16, .inr (.inl p0_patterns))), (a_p0_first, .inr (9, [.int p0_first_kind, .int p0_first_minus, .long p0_first_m, .int p0_first_e, .int p0_first_narrowBelow])), (a_p0_second, .inr (9, [.int p0_second_kind, .int p0_second_minus, .long p0_second_m, .int p0_second_e, .int p0_second_narrowBelow]))] := hD.adr rfl
      refine lv_iload_n hx hb dX9_lookAtTwo_8 rfl (lv_at hl 3 rfl) ?_
      obtain ⟨u9, hu10, hf⟩ := bdE hf
      refine xS_V (rest := []) S hK hN hE hA hP hD hS (c_X9_needPlace l hst D cI cJ sa sv  p3  u9 hu10) mwX9_needPlace msX9_needPlace kmX9_68 [] rfl (by decide) ⟨Nat.le_of_ble_eq_true rfl, Nat.le_of_ble_eq_true rfl⟩ ⟨Nat.le_of_ble_eq_true rfl, Nat.le_of_ble_eq_true rfl⟩ hl.1 rfl rfl (Nat.le_of_ble_eq_true rfl) dX9_lookAtTwo_9 (fun E w H locs q ce hX hB hS hq hv hcl => ?_) (fun w H locs hR hB hS => ?_)
      · obtain ⟨x11, hx9, rfl, rfl⟩ := hX
        have hf := smL hx9 hf
        exact hthr _ _ H locs ls 9 _ _ _ q ce ⟨_, (opE hf).symm, rfl, rfl⟩ (Nat.le_of_ble_eq_true rfl) (Nat.le_of_ble_eq_true rfl) hq hv hcl (hB _ rfl rfl) (hD.adr rfl) hS
      · obtain ⟨y12, hy9, rfl⟩ := hR
        have hf := smR hy9 hf
        have hP : va_P D vwCl [(a_p0, .inr (10, [.ref a_p0_formats, .ref a_p0_patterns, .ref a_p0_first, .ref a_p0_second, .ref a_p0_third, .ref a_p0_tape, .ref a_p0_acts, .ref a_p0_sheet, .ref a_p0_forms])), (a_p0_formats, .inl (cI, 16, .inl p0_formats)), (a_p0_patterns, .inl (cJ, 16, .inr (.inl p0_patterns))), (a_p0_first, .inr (9, [.int p0_first_kind, .int p0_first_minus, .long p0_first_m, .int p0_first_e, .int p0_first_narrowBelow])), (a_p0_second, .inr (9, [.int p0_second_kind, .int p0_second_minus, .long p0_second_m, .int p0_second_e, .int p0_second_narrowBelow]))] H := hB _ rfl rfl
        have hD : va_D A [(a_p0, .inr (10, [.ref a_p0_formats, .ref a_p0_patterns, .ref a_p0_first, .ref a_p0_second, .ref a_p0_third, .ref a_p0_tape, .ref a_p0_acts, .ref a_p0_sheet, .ref a_p0_forms])), (a_p0_formats, .inl (cI, 16, .inl p0_formats)), (a_p0_patterns, .inl (cJ, 16, .inr (.inl p0_patterns))), (a_p0_first, .inr (9, [.int p0_first_kind, .int p0_first_minus, .long p0_first_m, .int p0_first_e, .int p0_first_narrowBelow])), (a_p0_second, .inr (9, [.int p0_second_kind, .int p0_second_minus, .long p0_second_m, .int p0_second_e, .int p0_second_narrowBelow]))] := hD.adr rfl
        refine lv_iload hx hb dX9_lookAtTwo_12 (lv_at hl 4 rfl) ?_
        obtain ⟨u13, hu14, hf⟩ := bdE hf
        refine xS_V (rest := []) S hK hN hE hA hP hD hS (c_X9_needWay l hst D cI cJ sa sv  p4  u13 hu14) mwX9_needWay msX9_needWay kmX9_107 [] rfl (by decide) ⟨Nat.le_of_ble_eq_true rfl, Nat.le_of_ble_eq_true rfl⟩ ⟨Nat.le_of_ble_eq_true rfl, Nat.le_of_ble_eq_true rfl⟩ hl.1 rfl rfl (Nat.le_of_ble_eq_true rfl) dX9_lookAtTwo_14 (fun E w H locs q ce hX hB hS hq hv hcl => ?_) (fun w H locs hR hB hS => ?_)
        · obtain ⟨x15, hx9, rfl, rfl⟩ := hX
          have hf := smL hx9 hf
          exact hthr _ _ H locs ls 14 _ _ _ q ce ⟨_, (opE hf).symm, rfl, rfl⟩ (Nat.le_of_ble_eq_true rfl) (Nat.le_of_ble_eq_true rfl) hq hv hcl (hB _ rfl rfl) (hD.adr rfl) hS
        · obtain ⟨y16, hy9, rfl⟩ := hR
          have hf := smR hy9 hf
          have hP : va_P D vwCl [(a_p0, .inr (10, [.ref a_p0_formats, .ref a_p0_patterns, .ref a_p0_first, .ref a_p0_second, .ref a_p0_third, .ref a_p0_tape, .ref a_p0_acts, .ref a_p0_sheet, .ref a_p0_forms])), (a_p0_formats, .inl (cI, 16, .inl p0_formats)), (a_p0_patterns, .inl (cJ, 16, .inr (.inl p0_patterns))), (a_p0_first, .inr (9, [.int p0_first_kind, .int p0_first_minus, .long p0_first_m, .int p0_first_e, .int p0_first_narrowBelow])), (a_p0_second, .inr (9, [.int p0_second_kind, .int p0_second_minus, .long p0_second_m, .int p0_second_e, .int p0_second_narrowBelow]))] H := hB _ rfl rfl
          have hD : va_D A [(a_p0, .inr (10, [.ref a_p0_formats, .ref a_p0_patterns, .ref a_p0_first, .ref a_p0_second, .ref a_p0_third, .ref a_p0_tape, .ref a_p0_acts, .ref a_p0_sheet, .ref a_p0_forms])), (a_p0_formats, .inl (cI, 16, .inl p0_formats)), (a_p0_patterns, .inl (cJ, 16, .inr (.inl p0_patterns))), (a_p0_first, .inr (9, [.int p0_first_kind, .int p0_first_minus, .long p0_first_m, .int p0_first_e, .int p0_first_narrowBelow])), (a_p0_second, .inr (9, [.int p0_second_kind, .int p0_second_minus, .long p0_second_m, .int p0_second_e, .int p0_second_narrowBelow]))] := hD.adr rfl
          refine lv_aload_n hx hb dX9_lookAtTwo_17 rfl (lv_at hl 0 rfl) ?_
          refine lv_iload_n hx hb dX9_lookAtTwo_18 rfl (lv_at hl 1 rfl) ?_
          refine lv_aload_n hx hb dX9_lookAtTwo_19 rfl (lv_at hl 0 rfl) ?_
          refine va_get (D := D) (ci := 10) (v := .ref a_p0_first) (C := RX9) (T := TX9) (N := 9) hx hb hts uwX9 hown hK hP 0 rfl rfl 2 (by decide) (hts _ kfX9_20) (fun _ h9 => h9) rfl dX9_lookAtTwo_20 ?_
          obtain ⟨u17, hu18, hf⟩ := bdE hf
          refine cV_V (ws' := [(a_p0, .inr (10, [.ref a_p0_formats, .ref a_p0_patterns, .ref a_p0_first, .ref a_p0_second, .ref a_p0_third, .ref a_p0_tape, .ref a_p0_acts, .ref a_p0_sheet, .ref a_p0_forms])), (a_p0_formats, .inl (cI, 16, .inl p0_formats)), (a_p0_patterns, .inl (cJ, 16, .inr (.inl p0_patterns))), (a_p0_first, .inr (9, [.int u17.1, .int u17.2.1, .long u17.2.2.1, .int u17.2.2.2.1, .int u17.2.2.2.2])), (a_p0_second, .inr (9, [.int p0_second_kind, .int p0_second_minus, .long p0_second_m, .int p0_second_e, .int p0_second_narrowBelow]))]) (rest := []) S hK hN hA hP hD hS (c_X9_look l D cI cJ a_p0 a_p0_formats a_p0_patterns a_p0_first a_p0_second a_p0_third a_p0_tape a_p0_acts a_p0_sheet a_p0_forms a_p0_first p1 p0_formats p0_patterns p0_first_kind p0_first_minus p0_first_m p0_first_e p0_first_narrowBelow u17 hu18) mwX9_look miX9_look kmX9_81 [0, 1, 2, 3] rfl (by decide) rfl rfl rfl 0 rfl rfl ⟨Nat.le_of_ble_eq_true rfl, Nat.le_of_ble_eq_true rfl⟩ ⟨Nat.le_of_ble_eq_true rfl, Nat.le_of_ble_eq_true rfl⟩ hl.1 rfl rfl (Nat.le_of_ble_eq_true rfl) dX9_lookAtTwo_23 (fun H locs hP hD hS => ?_)
          refine lv_aload_n hx hb dX9_lookAtTwo_26 rfl (lv_at hl 0 rfl) ?_
          refine lv_iload_n hx hb dX9_lookAtTwo_27 rfl (lv_at hl 2 rfl) ?_
          refine lv_aload_n hx hb dX9_lookAtTwo_28 rfl (lv_at hl 0 rfl) ?_
          refine va_get (D := D) (ci := 10) (v := .ref a_p0_second) (C := RX9) (T := TX9) (N := 9) hx hb hts uwX9 hown hK hP 0 rfl rfl 3 (by decide) (hts _ kfX9_24) (fun _ h9 => h9) rfl dX9_lookAtTwo_29 ?_
          obtain ⟨u19, hu20, hf⟩ := bdE hf
          refine cV_V (ws' := [(a_p0, .inr (10, [.ref a_p0_formats, .ref a_p0_patterns, .ref a_p0_first, .ref a_p0_second, .ref a_p0_third, .ref a_p0_tape, .ref a_p0_acts, .ref a_p0_sheet, .ref a_p0_forms])), (a_p0_formats, .inl (cI, 16, .inl p0_formats)), (a_p0_patterns, .inl (cJ, 16, .inr (.inl p0_patterns))), (a_p0_first, .inr (9, [.int u17.1, .int u17.2.1, .long u17.2.2.1, .int u17.2.2.2.1, .int u17.2.2.2.2])), (a_p0_second, .inr (9, [.int u19.1, .int u19.2.1, .long u19.2.2.1, .int u19.2.2.2.1, .int u19.2.2.2.2]))]) (rest := []) S hK hN hA hP hD hS (c_X9_look l D cI cJ a_p0 a_p0_formats a_p0_patterns a_p0_first a_p0_second a_p0_third a_p0_tape a_p0_acts a_p0_sheet a_p0_forms a_p0_second p2 p0_formats p0_patterns p0_second_kind p0_second_minus p0_second_m p0_second_e p0_second_narrowBelow u19 hu20) mwX9_look miX9_look kmX9_81 [0, 1, 2, 4] rfl (by decide) rfl rfl rfl 0 rfl rfl ⟨Nat.le_of_ble_eq_true rfl, Nat.le_of_ble_eq_true rfl⟩ ⟨Nat.le_of_ble_eq_true rfl, Nat.le_of_ble_eq_true rfl⟩ hl.1 rfl rfl (Nat.le_of_ble_eq_true rfl) dX9_lookAtTwo_32 (fun H locs hP hD hS => ?_)
          exact hret _ H locs ls 35 _ _ ⟨_, (opE hf).symm, rfl⟩ (Nat.le_of_ble_eq_true rfl) (Nat.le_of_ble_eq_true rfl) dX9_lookAtTwo_35 hP hD hS
