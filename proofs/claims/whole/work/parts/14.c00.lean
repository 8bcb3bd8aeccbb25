set_option maxRecDepth 100000 in
set_option maxHeartbeats 4000000 in
theorem c_X9_needFormat (l : Launch) (hst : l.stackTraces = false) (D : va_G) (cI cJ : ClassId) (sa sv : Nat → Nat) (p0 : Int32)  (u : (Nat) ⊕ (Unit)) (hf : f_X9_needFormat p0 = some u) : CxV l yX9_needFormat cX9_needFormat 1 6 1 6 90 [.int p0] D cI cJ sa sv [] (fun w => ∃ y : Unit, u = .inr y ∧ w = []) (fun E w => ∃ x : Nat, u = .inl x ∧ E = exn x ∧ w = []) := by
  refine mkXV hst (own := RX9) rfl (by decide) (Nat.le_of_ble_eq_true rfl) (lv := [(0, .int p0)]) rfl ?_
  intro p e s m below meth c Q A ls ar S hA hK hN hE hret hthr hnew H locs hP hD hS hl
  obtain ⟨hx, hb, hml, hown, hts⟩ := id S
  unfold f_X9_needFormat at hf
  refine lv_iload_n hx hb dX9_needFormat_0 rfl (lv_at hl 0 rfl) ?_
  refine lv_if_eq (tgt := 19) hx hb dX9_needFormat_1 (by decide) (fun hc2 => ?_) (fun hc2 => ?_)
  · have hf := ifT hc2 hf
    exact hret _ H locs ls 19 _ _ ⟨_, (opE hf).symm, rfl⟩ (Nat.le_of_ble_eq_true rfl) (Nat.le_of_ble_eq_true rfl) dX9_needFormat_19 hP hD hS
  · have hf := ifF hc2 hf
    refine lv_iload_n hx hb dX9_needFormat_4 rfl (lv_at hl 0 rfl) ?_
    refine lv_iconst (v := 1) hx hb dX9_needFormat_5 (by decide) ?_
    refine lv_icmp_eq (tgt := 19) hx hb dX9_needFormat_6 (by decide) (fun hc1 => ?_) (fun hc1 => ?_)
    · have hf := ifT hc1 hf
      exact hret _ H locs ls 19 _ _ ⟨_, (opE hf).symm, rfl⟩ (Nat.le_of_ble_eq_true rfl) (Nat.le_of_ble_eq_true rfl) dX9_needFormat_19 hP hD hS
    · have hf := ifF hc1 hf
      exact hnew _ _ 96 203 100 1 _ _ _ H locs ls 9 _ _ _ thrW2 rfl ⟨_, (opE hf).symm, rfl, rfl⟩ hl.1 dX9_needFormat_9 dX9_needFormat_12 dX9_needFormat_13 dX9_needFormat_15 dX9_needFormat_18 (by decide) (Nat.le_of_ble_eq_true rfl) (Nat.le_of_ble_eq_true rfl) (Nat.le_of_ble_eq_true rfl) hP hD hS
set_option maxRecDepth 100000 in
set_option maxHeartbeats 4000000 in
theorem c_X9_needPlace (l : Launch) (hst : l.stackTraces = false) (D : va_G) (cI cJ : ClassId) (sa sv : Nat → Nat) (p0 : Int32)  (u : (Nat) ⊕ (Unit)) (hf : f_X9_needPlace p0 = some u) : CxV l yX9_needPlace cX9_needPlace 1 6 1 6 90 [.int p0] D cI cJ sa sv [] (fun w => ∃ y : Unit, u = .inr y ∧ w = []) (fun E w => ∃ x : Nat, u = .inl x ∧ E = exn x ∧ w = []) := by
  refine mkXV hst (own := RX9) rfl (by decide) (Nat.le_of_ble_eq_true rfl) (lv := [(0, .int p0)]) rfl ?_
  intro p e s m below meth c Q A ls ar S hA hK hN hE hret hthr hnew H locs hP hD hS hl
  obtain ⟨hx, hb, hml, hown, hts⟩ := id S
  have keyB10 : ∀  (H : Heap) (locs : List Loc) (ls : Array Slot), f_X9_needPlace_B10  = some u → va_P D vwCl [] H → va_D A [] → va_S A s.heap H locs → lv_has ls 1 [] → W p l e (rmc 6 1 6 90) s m ar below meth c H locs 0 0 Q (F0 m 10 ls []) := by
    intro  H locs ls hf hP hD hS hl
    unfold f_X9_needPlace_B10 at hf
    exact hnew _ _ 198 200 202 0 _ _ _ H locs ls 10 _ _ _ thrW1 rfl ⟨_, (opE hf).symm, rfl, rfl⟩ hl.1 dX9_needPlace_10 dX9_needPlace_13 dX9_needPlace_14 dX9_needPlace_16 dX9_needPlace_19 (by decide) (Nat.le_of_ble_eq_true rfl) (Nat.le_of_ble_eq_true rfl) (Nat.le_of_ble_eq_true rfl) hP hD hS
  unfold f_X9_needPlace at hf
  refine lv_iload_n hx hb dX9_needPlace_0 rfl (lv_at hl 0 rfl) ?_
  refine lv_if_lt (tgt := 10) hx hb dX9_needPlace_1 (by decide) (fun hc2 => ?_) (fun hc2 => ?_)
  · have hf := ifT hc2 hf
    refine W.widen (k := 0) (n := 0) (Nat.le_of_ble_eq_true rfl) (Nat.le_of_ble_eq_true rfl) ?_
    exact keyB10  H locs ls hf hP hD hS (lv_sub hl [] rfl)
  · have hf := ifF hc2 hf
    refine lv_iload_n hx hb dX9_needPlace_4 rfl (lv_at hl 0 rfl) ?_
    refine lv_bipush (v := 16) hx hb dX9_needPlace_5 (by decide) ?_
    refine lv_icmp_lt (tgt := 20) hx hb dX9_needPlace_7 (by decide) (fun hc1 => ?_) (fun hc1 => ?_)
    · have hf := ifT hc1 hf
      exact hret _ H locs ls 20 _ _ ⟨_, (opE hf).symm, rfl⟩ (Nat.le_of_ble_eq_true rfl) (Nat.le_of_ble_eq_true rfl) dX9_needPlace_20 hP hD hS
    · have hf := ifF hc1 hf
      refine W.widen (k := 0) (n := 0) (Nat.le_of_ble_eq_true rfl) (Nat.le_of_ble_eq_true rfl) ?_
      exact keyB10  H locs ls hf hP hD hS (lv_sub hl [] rfl)
set_option maxRecDepth 100000 in
set_option maxHeartbeats 4000000 in
theorem c_X9_put (l : Launch) (D : va_G) (cI cJ : ClassId) (a_p0 a_p0_formats a_p0_patterns a_p0_first a_p0_second a_p0_third a_p0_tape a_p0_acts a_p0_sheet a_p0_forms : Nat) (p1 : Int32) (p2 : Int32) (p3 : Int64) (p0_formats : (Nat → Int32)) (p0_patterns : (Nat → Int64)) (u : (Nat → Int32) × (Nat → Int64)) (hf : f_X9_put p1 p2 p3 p0_formats p0_patterns = some u) : CtV l yX9_put cX9_put 5 0 0 [.ref a_p0, .int p1, .int p2, .long p3] D cI cJ [(a_p0, .inr (10, [.ref a_p0_formats, .ref a_p0_patterns, .ref a_p0_first, .ref a_p0_second, .ref a_p0_third, .ref a_p0_tape, .ref a_p0_acts, .ref a_p0_sheet, .ref a_p0_forms])), (a_p0_formats, .inl (cI, 16, .inl p0_formats)), (a_p0_patterns, .inl (cJ, 16, .inr (.inl p0_patterns)))] [(a_p0, .inr (10, [.ref a_p0_formats, .ref a_p0_patterns, .ref a_p0_first, .ref a_p0_second, .ref a_p0_third, .ref a_p0_tape, .ref a_p0_acts, .ref a_p0_sheet, .ref a_p0_forms])), (a_p0_formats, .inl (cI, 16, .inl u.1)), (a_p0_patterns, .inl (cJ, 16, .inr (.inl u.2)))] := by
  refine mkV (own := RX9) rfl (by decide +kernel) (Nat.le_of_ble_eq_true rfl) (lv := [(0, .ref a_p0), (1, .int p1), (2, .int p2), (3, .long p3)]) rfl ?_
  intro p e s m below meth c Q A ls ar S hA hK hN hret H locs hP hD hS hl
  obtain ⟨hx, hb, hml, hown, hts⟩ := id S
  have hret : ∀ (w : (Nat → Int32) × (Nat → Int64)), w = u → ∀ (H : Heap) (locs : List Loc) (ls : Array Slot) (pc : Nat), decode cX9_put pc = .ok (.return_, 1) → va_P D vwCl [(a_p0, .inr (10, [.ref a_p0_formats, .ref a_p0_patterns, .ref a_p0_first, .ref a_p0_second, .ref a_p0_third, .ref a_p0_tape, .ref a_p0_acts, .ref a_p0_sheet, .ref a_p0_forms])), (a_p0_formats, .inl (cI, 16, .inl w.1)), (a_p0_patterns, .inl (cJ, 16, .inr (.inl w.2)))] H → va_D A [(a_p0, .inr (10, [.ref a_p0_formats, .ref a_p0_patterns, .ref a_p0_first, .ref a_p0_second, .ref a_p0_third, .ref a_p0_tape, .ref a_p0_acts, .ref a_p0_sheet, .ref a_p0_forms])), (a_p0_formats, .inl (cI, 16, .inl w.1)), (a_p0_patterns, .inl (cJ, 16, .inr (.inl w.2)))] → va_S A s.heap H locs → W p l e (rmz 0 0) s m ar below meth c H locs 0 0 Q (F0 m pc ls []) := fun w hw => hw ▸ hret
  unfold f_X9_put at hf
  refine lv_aload_n hx hb dX9_put_0 rfl (lv_at hl 0 rfl) ?_
  refine va_get (D := D) (ci := 10) (v := .ref a_p0_formats) (C := RX9) (T := TX9) (N := 9) hx hb hts uwX9 hown hK hP 0 rfl rfl 0 (by decide) (hts _ kfX9_9) (fun _ h9 => h9) rfl dX9_put_1 ?_
  refine lv_iload_n hx hb dX9_put_4 rfl (lv_at hl 1 rfl) ?_
  refine lv_iload_n hx hb dX9_put_5 rfl (lv_at hl 2 rfl) ?_
  obtain ⟨hi1, hf⟩ := gdE hf
  refine va_iast hx hb hK hP hD hS 1 0 rfl rfl hi1 dX9_put_6 (fun H locs hP hD hS => ?_)
  have hP : va_P D vwCl [(a_p0, .inr (10, [.ref a_p0_formats, .ref a_p0_patterns, .ref a_p0_first, .ref a_p0_second, .ref a_p0_third, .ref a_p0_tape, .ref a_p0_acts, .ref a_p0_sheet, .ref a_p0_forms])), (a_p0_formats, .inl (cI, 16, .inl (upd p0_formats p1.toNatClampNeg p2))), (a_p0_patterns, .inl (cJ, 16, .inr (.inl p0_patterns)))] H := hP
  have hD : va_D A [(a_p0, .inr (10, [.ref a_p0_formats, .ref a_p0_patterns, .ref a_p0_first, .ref a_p0_second, .ref a_p0_third, .ref a_p0_tape, .ref a_p0_acts, .ref a_p0_sheet, .ref a_p0_forms])), (a_p0_formats, .inl (cI, 16, .inl (upd p0_formats p1.toNatClampNeg p2))), (a_p0_patterns, .inl (cJ, 16, .inr (.inl p0_patterns)))] := hD
  refine lv_aload_n hx hb dX9_put_7 rfl (lv_at hl 0 rfl) ?_
  refine va_get (D := D) (ci := 10) (v := .ref a_p0_patterns) (C := RX9) (T := TX9) (N := 9) hx hb hts uwX9 hown hK hP 0 rfl rfl 1 (by decide) (hts _ kfX9_13) (fun _ h9 => h9) rfl dX9_put_8 ?_
  refine lv_iload_n hx hb dX9_put_11 rfl (lv_at hl 1 rfl) ?_
  refine lv_lload_n hx hb dX9_put_12 rfl (lv_at hl 3 rfl) ?_
  refine va_last hx hb hK hP hD hS 2 1 rfl rfl hi1 dX9_put_13 (fun H locs hP hD hS => ?_)
  have hP : va_P D vwCl [(a_p0, .inr (10, [.ref a_p0_formats, .ref a_p0_patterns, .ref a_p0_first, .ref a_p0_second, .ref a_p0_third, .ref a_p0_tape, .ref a_p0_acts, .ref a_p0_sheet, .ref a_p0_forms])), (a_p0_formats, .inl (cI, 16, .inl (upd p0_formats p1.toNatClampNeg p2))), (a_p0_patterns, .inl (cJ, 16, .inr (.inl (vp_updL p0_patterns p1.toNatClampNeg p3))))] H := hP
  have hD : va_D A [(a_p0, .inr (10, [.ref a_p0_formats, .ref a_p0_patterns, .ref a_p0_first, .ref a_p0_second, .ref a_p0_third, .ref a_p0_tape, .ref a_p0_acts, .ref a_p0_sheet, .ref a_p0_forms])), (a_p0_formats, .inl (cI, 16, .inl (upd p0_formats p1.toNatClampNeg p2))), (a_p0_patterns, .inl (cJ, 16, .inr (.inl (vp_updL p0_patterns p1.toNatClampNeg p3))))] := hD
  exact hret _ (opE hf) H locs ls 14 dX9_put_14 hP hD hS
set_option maxRecDepth 100000 in
set_option maxHeartbeats 4000000 in
theorem c_X9_set (l : Launch) (hst : l.stackTraces = false) (D : va_G) (cI cJ : ClassId) (sa sv : Nat → Nat) (a_p0 a_p0_formats a_p0_patterns a_p0_first a_p0_second a_p0_third a_p0_tape a_p0_acts a_p0_sheet a_p0_forms : Nat) (p1 : Int32) (p2 : Int32) (p3 : Int64) (p0_formats : (Nat → Int32)) (p0_patterns : (Nat → Int64)) (u : (Nat × (Nat → Int32) × (Nat → Int64)) ⊕ ((Nat → Int32) × (Nat → Int64))) (hf : f_X9_set p1 p2 p3 p0_formats p0_patterns = some u) : CxV l yX9_set cX9_set 5 7 2 12 110 [.ref a_p0, .int p1, .int p2, .long p3] D cI cJ sa sv [(a_p0, .inr (10, [.ref a_p0_formats, .ref a_p0_patterns, .ref a_p0_first, .ref a_p0_second, .ref a_p0_third, .ref a_p0_tape, .ref a_p0_acts, .ref a_p0_sheet, .ref a_p0_forms])), (a_p0_formats, .inl (cI, 16, .inl p0_formats)), (a_p0_patterns, .inl (cJ, 16, .inr (.inl p0_patterns)))] (fun w => ∃ y : (Nat → Int32) × (Nat → Int64), u = .inr y ∧ w = [(a_p0, .inr (10, [.ref a_p0_formats, .ref a_p0_patterns, .ref a_p0_first, .ref a_p0_second, .ref a_p0_third, .ref a_p0_tape, .ref a_p0_acts, .ref a_p0_sheet, .ref a_p0_forms])), (a_p0_formats, .inl (cI, 16, .inl y.1)), (a_p0_patterns, .inl (cJ, 16, .inr (.inl y.2)))]) (fun E w => ∃ x : Nat × (Nat → Int32) × (Nat → Int64), u = .inl x ∧ E = exn x.1 ∧ w = [(a_p0, .inr (10, [.ref a_p0_formats, .ref a_p0_patterns, .ref a_p0_first, .ref a_p0_second, .ref a_p0_third, .ref a_p0_tape, .ref a_p0_acts, .ref a_p0_sheet, .ref a_p0_forms])), (a_p0_formats, .inl (cI, 16, .inl x.2.1)), (a_p0_patterns, .inl (cJ, 16, .inr (.inl x.2.2)))]) := by
  refine mkXV hst (own := RX9) rfl (by decide) (Nat.le_of_ble_eq_true rfl) (lv := [(0, .ref a_p0), (1, .int p1), (2, .int p2), (3, .long p3)]) rfl ?_
  intro p e s m below meth c Q A ls ar S hA hK hN hE hret hthr hnew H locs hP hD hS hl
  obtain ⟨hx, hb, hml, hown, hts⟩ := id S
  have keyB24 : ∀ (s1 : Int32) (s2 : Int32) (s3 : Int64) (p0_formats : (Nat → Int32)) (p0_patterns : (Nat → Int64)) (H : Heap) (locs : List Loc) (ls : Array Slot), f_X9_set_B24 s1 s2 s3 p0_formats p0_patterns = some u → va_P D vwCl [(a_p0, .inr (10, [.ref a_p0_formats, .ref a_p0_patterns, .ref a_p0_first, .ref a_p0_second, .ref a_p0_third, .ref a_p0_tape, .ref a_p0_acts, .ref a_p0_sheet, .ref a_p0_forms])), (a_p0_formats, .inl (cI, 16, .inl p0_formats)), (a_p0_patterns, .inl (cJ, 16, .inr (.inl p0_patterns)))] H → va_D A [(a_p0, .inr (10, [.ref a_p0_formats, .ref a_p0_patterns, .ref a_p0_first, .ref a_p0_second, .ref a_p0_third, .ref a_p0_tape, .ref a_p0_acts, .ref a_p0_sheet, .ref a_p0_forms])), (a_p0_formats, .inl (cI, 16, .inl p0_formats)), (a_p0_patterns, .inl (cJ, 16, .inr (.inl p0_patterns)))] → va_S A s.heap H locs → lv_has ls 5 [] → W p l e (rmc 7 2 12 110) s m ar below meth c H locs 2 12 Q (F0 m 24 ls [.long s3, .int s2, .int s1, .ref a_p0]) := by
    intro s1 s2 s3 p0_formats p0_patterns H locs ls hf hP hD hS hl
    unfold f_X9_set_B24 at hf
    obtain ⟨u9, hu10, hf⟩ := bdE hf
    refine cV_V (ws' := [(a_p0, .inr (10, [.ref a_p0_formats, .ref a_p0_patterns, .ref a_p0_first, .ref a_p0_second, .ref a_p0_third, .ref a_p0_tape, .ref a_p0_acts, .ref a_p0_sheet, .ref a_p0_forms])), (a_p0_formats, .inl (cI, 16, .inl u9.1)), (a_p0_patterns, .inl (cJ, 16, .inr (.inl u9.2)))]) (rest := []) S hK hN hA hP hD hS (c_X9_put l D cI cJ a_p0 a_p0_formats a_p0_patterns a_p0_first a_p0_second a_p0_third a_p0_tape a_p0_acts a_p0_sheet a_p0_forms s1 s2 s3 p0_formats p0_patterns u9 hu10) mwX9_put miX9_put kmX9_77 [0, 1, 2] rfl (by decide) rfl rfl rfl 0 rfl rfl ⟨Nat.le_of_ble_eq_true rfl, Nat.le_of_ble_eq_true rfl⟩ ⟨Nat.le_of_ble_eq_true rfl, Nat.le_of_ble_eq_true rfl⟩ hl.1 rfl rfl (Nat.le_of_ble_eq_true rfl) dX9_set_24 (fun H locs hP hD hS => ?_)
    exact hret _ H locs ls 27 _ _ ⟨_, (opE hf).symm, rfl⟩ (Nat.le_of_ble_eq_true rfl) (Nat.le_of_ble_eq_true rfl) dX9_set_27 hP hD hS
  unfold f_X9_set at hf
  refine lv_iload_n hx hb dX9_set_0 rfl (lv_at hl 1 rfl) ?_
  obtain ⟨u1, hu2, hf⟩ := bdE hf
  refine xS_V (rest := []) S hK hN hE hA hP hD hS (c_X9_needPlace l hst D cI cJ sa sv  p1  u1 hu2) mwX9_needPlace msX9_needPlace kmX9_68 [] rfl (by decide) ⟨Nat.le_of_ble_eq_true rfl, Nat.le_of_ble_eq_true rfl⟩ ⟨Nat.le_of_ble_eq_true rfl, Nat.le_of_ble_eq_true rfl⟩ hl.1 rfl rfl (Nat.le_of_ble_eq_true rfl) dX9_set_1 (fun E w H locs q ce hX hB hS hq hv hcl => ?_) (fun w H locs hR hB hS => ?_)
  · obtain ⟨x3, hx9, rfl, rfl⟩ := hX
    have hf := smL hx9 hf
    exact hthr _ _ H locs ls 1 _ _ _ q ce ⟨_, (opE hf).symm, rfl, rfl⟩ (Nat.le_of_ble_eq_true rfl) (Nat.le_of_ble_eq_true rfl) hq hv hcl (hB _ rfl rfl) (hD.adr rfl) hS
  · obtain ⟨y4, hy9, rfl⟩ := hR
    have hf := smR hy9 hf
    have hP : va_P D vwCl [(a_p0, .inr (10, [.ref a_p0_formats, .ref a_p0_patterns, .ref a_p0_first, .ref a_p0_second, .ref a_p0_third, .ref a_p0_tape, .ref a_p0_acts, .ref a_p0_sheet, .ref a_p0_forms])), (a_p0_formats, .inl (cI, 16, .inl p0_formats)), (a_p0_patterns, .inl (cJ, 16, .inr (.inl p0_patterns)))] H := hB _ rfl rfl
    have hD : va_D A [(a_p0, .inr (10, [.ref a_p0_formats, .ref a_p0_patterns, .ref a_p0_first, .ref a_p0_second, .ref a_p0_third, .ref a_p0_tape, .ref a_p0_acts, .ref a_p0_sheet, .ref a_p0_forms])), (a_p0_formats, .inl (cI, 16, .inl p0_formats)), (a_p0_patterns, .inl (cJ, 16, .inr (.inl p0_patterns)))] := hD.adr rfl
    refine lv_iload_n hx hb dX9_set_4 rfl (lv_at hl 2 rfl) ?_
    obtain ⟨u5, hu6, hf⟩ := bdE hf
    refine xS_V (rest := []) S hK hN hE hA hP hD hS (c_X9_needFormat l hst D cI cJ sa sv  p2  u5 hu6) mwX9_needFormat msX9_needFormat kmX9_72 [] rfl (by decide) ⟨Nat.le_of_ble_eq_true rfl, Nat.le_of_ble_eq_true rfl⟩ ⟨Nat.le_of_ble_eq_true rfl, Nat.le_of_ble_eq_true rfl⟩ hl.1 rfl rfl (Nat.le_of_ble_eq_true rfl) dX9_set_5 (fun E w H locs q ce hX hB hS hq hv hcl => ?_) (fun w H locs hR hB hS => ?_)
    · obtain ⟨x7, hx9, rfl, rfl⟩ := hX
      have hf := smL hx9 hf
      exact hthr _ _ H locs ls 5 _ _ _ q ce ⟨_, (opE hf).symm, rfl, rfl⟩ (Nat.le_of_ble_eq_true rfl) (Nat.le_of_ble_eq_true rfl) hq hv hcl (hB _ rfl rfl) (hD.adr rfl) hS
    · obtain ⟨y8, hy9, rfl⟩ := hR
      have hf := smR hy9 hf
      have hP : va_P D vwCl [(a_p0, .inr (10, [.ref a_p0_formats, .ref a_p0_patterns, .ref a_p0_first, .ref a_p0_second, .ref a_p0_third, .ref a_p0_tape, .ref a_p0_acts, .ref a_p0_sheet, .ref a_p0_forms])), (a_p0_formats, .inl (cI, 16, .inl p0_formats)), (a_p0_patterns, .inl (cJ, 16, .inr (.inl p0_patterns)))] H := hB _ rfl rfl
      have hD : va_D A [(a_p0, .inr (10, [.ref a_p0_formats, .ref a_p0_patterns, .ref a_p0_first, .ref a_p0_second, .ref a_p0_third, .ref a_p0_tape, .ref a_p0_acts, .ref a_p0_sheet, .ref a_p0_forms])), (a_p0_formats, .inl (cI, 16, .inl p0_formats)), (a_p0_patterns, .inl (cJ, 16, .inr (.inl p0_patterns)))] := hD.adr rfl
      refine lv_aload_n hx hb dX9_set_8 rfl (lv_at hl 0 rfl) ?_
      refine lv_iload_n hx hb dX9_set_9 rfl (lv_at hl 1 rfl) ?_
      refine lv_iload_n hx hb dX9_set_10 rfl (lv_at hl 2 rfl) ?_
      refine lv_iload_n hx hb dX9_set_11 rfl (lv_at hl 2 rfl) ?_
      refine lv_if_ne (tgt := 23) hx hb dX9_set_12 (by decide) (fun hc11 => ?_) (fun hc11 => ?_)
      · have hf := ifF hc11 hf
        refine lv_lload_n hx hb dX9_set_23 rfl (lv_at hl 3 rfl) ?_
        refine W.widen (k := 2) (n := 12) (Nat.le_of_ble_eq_true rfl) (Nat.le_of_ble_eq_true rfl) ?_
        exact keyB24 p1 p2 p3 p0_formats p0_patterns H locs ls hf hP hD hS (lv_sub hl [] rfl)
      · have hf := ifT hc11 hf
        refine lv_lload_n hx hb dX9_set_15 rfl (lv_at hl 3 rfl) ?_
        refine lv_ldc2 hx hb hown (hts _ kcX9_75) dX9_set_16 ?_
        refine lv_land hx hb dX9_set_19 ?_
        refine lv_goto (tgt := 24) hx hb dX9_set_20 (by decide) ?_
        refine W.widen (k := 2) (n := 12) (Nat.le_of_ble_eq_true rfl) (Nat.le_of_ble_eq_true rfl) ?_
        exact keyB24 p1 p2 (p3 &&& (4294967295 : Int64)) p0_formats p0_patterns H locs ls hf hP hD hS (lv_sub hl [] rfl)
set_option maxRecDepth 100000 in
set_option maxHeartbeats 4000000 in
theorem c_X9_pattern (l : Launch) (hst : l.stackTraces = false) (D : va_G) (cI cJ : ClassId) (sa sv : Nat → Nat) (a_p0 a_p0_formats a_p0_patterns a_p0_first a_p0_second a_p0_third a_p0_tape a_p0_acts a_p0_sheet a_p0_forms : Nat) (p1 : Int32) (p0_patterns : (Nat → Int64)) (u : (Nat) ⊕ (Int64)) (hf : f_X9_pattern p0_patterns p1 = some u) : CxL l yX9_pattern cX9_pattern 2 7 1 6 110 [.ref a_p0, .int p1] D cI cJ sa sv [(a_p0, .inr (10, [.ref a_p0_formats, .ref a_p0_patterns, .ref a_p0_first, .ref a_p0_second, .ref a_p0_third, .ref a_p0_tape, .ref a_p0_acts, .ref a_p0_sheet, .ref a_p0_forms])), (a_p0_patterns, .inl (cJ, 16, .inr (.inl p0_patterns)))] (fun r w => ∃ y : Int64, u = .inr y ∧ r = y ∧ w = [(a_p0, .inr (10, [.ref a_p0_formats, .ref a_p0_patterns, .ref a_p0_first, .ref a_p0_second, .ref a_p0_third, .ref a_p0_tape, .ref a_p0_acts, .ref a_p0_sheet, .ref a_p0_forms])), (a_p0_patterns, .inl (cJ, 16, .inr (.inl p0_patterns)))]) (fun E w => ∃ x : Nat, u = .inl x ∧ E = exn x ∧ w = [(a_p0, .inr (10, [.ref a_p0_formats, .ref a_p0_patterns, .ref a_p0_first, .ref a_p0_second, .ref a_p0_third, .ref a_p0_tape, .ref a_p0_acts, .ref a_p0_sheet, .ref a_p0_forms])), (a_p0_patterns, .inl (cJ, 16, .inr (.inl p0_patterns)))]) := by
  refine mkXL hst (own := RX9) rfl (by decide) (Nat.le_of_ble_eq_true rfl) (lv := [(0, .ref a_p0), (1, .int p1)]) rfl ?_
  intro p e s m below meth c Q A ls ar S hA hK hN hE hret hthr hnew H locs hP hD hS hl
  obtain ⟨hx, hb, hml, hown, hts⟩ := id S
  unfold f_X9_pattern at hf
  refine lv_iload_n hx hb dX9_pattern_0 rfl (lv_at hl 1 rfl) ?_
  obtain ⟨u1, hu2, hf⟩ := bdE hf
  refine xS_V (rest := []) S hK hN hE hA hP hD hS (c_X9_needPlace l hst D cI cJ sa sv  p1  u1 hu2) mwX9_needPlace msX9_needPlace kmX9_68 [] rfl (by decide) ⟨Nat.le_of_ble_eq_true rfl, Nat.le_of_ble_eq_true rfl⟩ ⟨Nat.le_of_ble_eq_true rfl, Nat.le_of_ble_eq_true rfl⟩ hl.1 rfl rfl (Nat.le_of_ble_eq_true rfl) dX9_pattern_1 (fun E w H locs q ce hX hB hS hq hv hcl => ?_) (fun w H locs hR hB hS => ?_)
  · obtain ⟨x3, hx9, rfl, rfl⟩ := hX
    have hf := smL hx9 hf
    exact hthr _ _ H locs ls 1 _ _ _ q ce ⟨_, (opE hf).symm, rfl, rfl⟩ (Nat.le_of_ble_eq_true rfl) (Nat.le_of_ble_eq_true rfl) hq hv hcl (hB _ rfl rfl) (hD.adr rfl) hS
  · obtain ⟨y4, hy9, rfl⟩ := hR
    have hf := smR hy9 hf
    have hP : va_P D vwCl [(a_p0, .inr (10, [.ref a_p0_formats, .ref a_p0_patterns, .ref a_p0_first, .ref a_p0_second, .ref a_p0_third, .ref a_p0_tape, .ref a_p0_acts, .ref a_p0_sheet, .ref a_p0_forms])), (a_p0_patterns, .inl (cJ, 16, .inr (.inl p0_patterns)))] H := hB _ rfl rfl
    have hD : va_D A [(a_p0, .inr (10, [.ref a_p0_formats, .ref a_p0_patterns, .ref a_p0_first, .ref a_p0_second, .ref a_p0_third, .ref a_p0_tape, .ref a_p0_acts, .ref a_p0_sheet, .ref a_p0_forms])), (a_p0_patterns, .inl (cJ, 16, .inr (.inl p0_patterns)))] := hD.adr rfl
    refine lv_aload_n hx hb dX9_pattern_4 rfl (lv_at hl 0 rfl) ?_
    refine va_get (D := D) (ci := 10) (v := .ref a_p0_patterns) (C := RX9) (T := TX9) (N := 9) hx hb hts uwX9 hown hK hP 0 rfl rfl 1 (by decide) (hts _ kfX9_13) (fun _ h9 => h9) rfl dX9_pattern_5 ?_
    refine lv_iload_n hx hb dX9_pattern_8 rfl (lv_at hl 1 rfl) ?_
    obtain ⟨hi5, hf⟩ := gdE hf
    refine va_lald hx hb hK hP 1 1 rfl rfl hi5 dX9_pattern_9 ?_
    exact hret _ _ H locs ls 10 _ _ ⟨_, (opE hf).symm, rfl, rfl⟩ (Nat.le_of_ble_eq_true rfl) (Nat.le_of_ble_eq_true rfl) dX9_pattern_10 hP hD hS
set_option maxRecDepth 100000 in
set_option maxHeartbeats 4000000 in
theorem c_X2_endlessSize (l : Launch) (D : va_G) (cI cJ : ClassId) (p0 : Int32)  (u : Int64) (hf : f_X2_endlessSize p0 = some u) : CtL l yX2_endlessSize cX2_endlessSize 1 0 0 [.int p0] D cI cJ [] [] u := by
  refine mkL (own := RX2) rfl (by decide +kernel) (Nat.le_of_ble_eq_true rfl) (lv := [(0, .int p0)]) rfl ?_
  intro p e s m below meth c Q A ls ar S hA hK hN hret H locs hP hD hS hl
  obtain ⟨hx, hb, hml, hown, hts⟩ := id S
  have hret : ∀ (w : Int64), w = u → ∀ (H : Heap) (locs : List Loc) (ls : Array Slot) (pc : Nat), decode cX2_endlessSize pc = .ok (.lreturn, 1) → va_P D vwCl [] H → va_D A [] → va_S A s.heap H locs → W p l e (rmz 0 0) s m ar below meth c H locs 0 0 Q (F0 m pc ls [.long w]) := fun w hw => hw ▸ hret
  unfold f_X2_endlessSize at hf
  refine lv_iload_n hx hb dX2_endlessSize_0 rfl (lv_at hl 0 rfl) ?_
  refine lv_if_ne (tgt := 10) hx hb dX2_endlessSize_1 (by decide) (fun hc1 => ?_) (fun hc1 => ?_)
  · have hf := ifF hc1 hf
    refine lv_ldc2 hx hb hown (hts _ kcX2_17) dX2_endlessSize_10 ?_
    exact hret _ (opE hf) H locs ls 13 dX2_endlessSize_13 hP hD hS
  · have hf := ifT hc1 hf
    refine lv_ldc2 hx hb hown (hts _ kcX2_15) dX2_endlessSize_4 ?_
    refine lv_goto (tgt := 13) hx hb dX2_endlessSize_7 (by decide) ?_
    exact hret _ (opE hf) H locs ls 13 dX2_endlessSize_13 hP hD hS
set_option maxRecDepth 100000 in
set_option maxHeartbeats 4000000 in
theorem c_X2_lowest (l : Launch) (D : va_G) (cI cJ : ClassId) (p0 : Int32)  (u : Int32) (hf : f_X2_lowest p0 = some u) : CtI l yX2_lowest cX2_lowest 1 0 0 .int [.int p0] D cI cJ [] [] u := by
  refine mkI (own := RX2) rfl (by decide +kernel) (Nat.le_of_ble_eq_true rfl) (lv := [(0, .int p0)]) rfl ?_
  intro p e s m below meth c Q A ls ar S hA hK hN hret H locs hP hD hS hl
  obtain ⟨hx, hb, hml, hown, hts⟩ := id S
  have hret : ∀ (w : Int32), w = u → ∀ (H : Heap) (locs : List Loc) (ls : Array Slot) (pc : Nat), decode cX2_lowest pc = .ok (.ireturn, 1) → va_P D vwCl [] H → va_D A [] → va_S A s.heap H locs → W p l e (rmz 0 0) s m ar below meth c H locs 0 0 Q (F0 m pc ls [.int w]) := fun w hw => hw ▸ hret
  unfold f_X2_lowest at hf
  refine lv_iload_n hx hb dX2_lowest_0 rfl (lv_at hl 0 rfl) ?_
  refine lv_if_ne (tgt := 10) hx hb dX2_lowest_1 (by decide) (fun hc1 => ?_) (fun hc1 => ?_)
  · have hf := ifF hc1 hf
    refine lv_sipush (v := -1074) hx hb dX2_lowest_10 (by decide) ?_
    exact hret _ (opE hf) H locs ls 13 dX2_lowest_13 hP hD hS
  · have hf := ifT hc1 hf
    refine lv_sipush (v := -149) hx hb dX2_lowest_4 (by decide) ?_
    refine lv_goto (tgt := 13) hx hb dX2_lowest_7 (by decide) ?_
    exact hret _ (opE hf) H locs ls 13 dX2_lowest_13 hP hD hS
set_option maxRecDepth 100000 in
set_option maxHeartbeats 4000000 in
theorem c_X2_precision (l : Launch) (D : va_G) (cI cJ : ClassId) (p0 : Int32)  (u : Int32) (hf : f_X2_precision p0 = some u) : CtI l yX2_precision cX2_precision 1 0 0 .int [.int p0] D cI cJ [] [] u := by
  refine mkI (own := RX2) rfl (by decide +kernel) (Nat.le_of_ble_eq_true rfl) (lv := [(0, .int p0)]) rfl ?_
  intro p e s m below meth c Q A ls ar S hA hK hN hret H locs hP hD hS hl
  obtain ⟨hx, hb, hml, hown, hts⟩ := id S
  have hret : ∀ (w : Int32), w = u → ∀ (H : Heap) (locs : List Loc) (ls : Array Slot) (pc : Nat), decode cX2_precision pc = .ok (.ireturn, 1) → va_P D vwCl [] H → va_D A [] → va_S A s.heap H locs → W p l e (rmz 0 0) s m ar below meth c H locs 0 0 Q (F0 m pc ls [.int w]) := fun w hw => hw ▸ hret
  unfold f_X2_precision at hf
  refine lv_iload_n hx hb dX2_precision_0 rfl (lv_at hl 0 rfl) ?_
  refine lv_if_ne (tgt := 9) hx hb dX2_precision_1 (by decide) (fun hc1 => ?_) (fun hc1 => ?_)
  · have hf := ifF hc1 hf
    refine lv_bipush (v := 53) hx hb dX2_precision_9 (by decide) ?_
    exact hret _ (opE hf) H locs ls 11 dX2_precision_11 hP hD hS
  · have hf := ifT hc1 hf
    refine lv_bipush (v := 24) hx hb dX2_precision_4 (by decide) ?_
    refine lv_goto (tgt := 11) hx hb dX2_precision_6 (by decide) ?_
    exact hret _ (opE hf) H locs ls 11 dX2_precision_11 hP hD hS
set_option maxRecDepth 100000 in
set_option maxHeartbeats 4000000 in
theorem c_X2_signBit (l : Launch) (D : va_G) (cI cJ : ClassId) (p0 : Int32)  (u : Int64) (hf : f_X2_signBit p0 = some u) : CtL l yX2_signBit cX2_signBit 1 0 0 [.int p0] D cI cJ [] [] u := by
  refine mkL (own := RX2) rfl (by decide +kernel) (Nat.le_of_ble_eq_true rfl) (lv := [(0, .int p0)]) rfl ?_
  intro p e s m below meth c Q A ls ar S hA hK hN hret H locs hP hD hS hl
  obtain ⟨hx, hb, hml, hown, hts⟩ := id S
  have hret : ∀ (w : Int64), w = u → ∀ (H : Heap) (locs : List Loc) (ls : Array Slot) (pc : Nat), decode cX2_signBit pc = .ok (.lreturn, 1) → va_P D vwCl [] H → va_D A [] → va_S A s.heap H locs → W p l e (rmz 0 0) s m ar below meth c H locs 0 0 Q (F0 m pc ls [.long w]) := fun w hw => hw ▸ hret
  unfold f_X2_signBit at hf
  refine lv_iload_n hx hb dX2_signBit_0 rfl (lv_at hl 0 rfl) ?_
  refine lv_if_ne (tgt := 10) hx hb dX2_signBit_1 (by decide) (fun hc1 => ?_) (fun hc1 => ?_)
  · have hf := ifF hc1 hf
    refine lv_ldc2 (v := kMin) hx hb hown (hts _ kcX2_13) dX2_signBit_10 ?_
    exact hret _ (opE hf) H locs ls 13 dX2_signBit_13 hP hD hS
  · have hf := ifT hc1 hf
    refine lv_ldc2 hx hb hown (hts _ kcX2_9) dX2_signBit_4 ?_
    refine lv_goto (tgt := 13) hx hb dX2_signBit_7 (by decide) ?_
    exact hret _ (opE hf) H locs ls 13 dX2_signBit_13 hP hD hS
set_option maxRecDepth 100000 in
set_option maxHeartbeats 4000000 in
theorem c_X8_unpack (l : Launch) (D : va_G) (cI cJ : ClassId) (a_p0 : Nat) (p1 : Int32) (p2 : Int64) (p0_kind : Int32) (p0_minus : Int32) (p0_m : Int64) (p0_e : Int32) (p0_narrowBelow : Int32) (u : Int32 × Int32 × Int64 × Int32 × Int32) (hf : f_X8_unpack p1 p2 p0_kind p0_minus p0_m p0_e p0_narrowBelow = some u) : CtV l yX8_unpack cX8_unpack 10 1 20 [.ref a_p0, .int p1, .long p2] D cI cJ [(a_p0, .inr (9, [.int p0_kind, .int p0_minus, .long p0_m, .int p0_e, .int p0_narrowBelow]))] [(a_p0, .inr (9, [.int u.1, .int u.2.1, .long u.2.2.1, .int u.2.2.2.1, .int u.2.2.2.2]))] := by
  refine mkV (own := RX8) rfl (by decide +kernel) (Nat.le_of_ble_eq_true rfl) (lv := [(0, .ref a_p0), (1, .int p1), (2, .long p2)]) rfl ?_
  intro p e s m below meth c Q A ls ar S hA hK hN hret H locs hP hD hS hl
  obtain ⟨hx, hb, hml, hown, hts⟩ := id S
  have hret : ∀ (w : Int32 × Int32 × Int64 × Int32 × Int32), w = u → ∀ (H : Heap) (locs : List Loc) (ls : Array Slot) (pc : Nat), decode cX8_unpack pc = .ok (.return_, 1) → va_P D vwCl [(a_p0, .inr (9, [.int w.1, .int w.2.1, .long w.2.2.1, .int w.2.2.2.1, .int w.2.2.2.2]))] H → va_D A [(a_p0, .inr (9, [.int w.1, .int w.2.1, .long w.2.2.1, .int w.2.2.2.1, .int w.2.2.2.2]))] → va_S A s.heap H locs → W p l e (rmz 1 20) s m ar below meth c H locs 0 0 Q (F0 m pc ls []) := fun w hw => hw ▸ hret
  have keyB117 : ∀ (v1 : Int32) (v7 : Int64) (s1 : Int32) (p0_kind : Int32) (p0_minus : Int32) (p0_m : Int64) (p0_e : Int32) (p0_narrowBelow : Int32) (H : Heap) (locs : List Loc) (ls : Array Slot), f_X8_unpack_B117 v1 v7 s1 p0_kind p0_minus p0_m p0_e p0_narrowBelow = some u → va_P D vwCl [(a_p0, .inr (9, [.int p0_kind, .int p0_minus, .long p0_m, .int p0_e, .int p0_narrowBelow]))] H → va_D A [(a_p0, .inr (9, [.int p0_kind, .int p0_minus, .long p0_m, .int p0_e, .int p0_narrowBelow]))] → va_S A s.heap H locs → lv_has ls 10 [(0, .ref a_p0), (1, .int v1), (7, .long v7)] → W p l e (rmz 1 20) s m ar below meth c H locs 0 0 Q (F0 m 117 ls [.int s1, .ref a_p0]) := by
    intro v1 v7 s1 p0_kind p0_minus p0_m p0_e p0_narrowBelow H locs ls hf hP hD hS hl
    unfold f_X8_unpack_B117 at hf
    refine va_put (D := D) (ci := 9) (v := .int s1) (ty := tyX8 0) (C := RX8) (T := TX8) (N := 5) hx hb hts uwX8 tyX8 tyX8_ok nmX8 hown hK hP hD hS 0 rfl rfl 0 (by decide) (hts _ kfX8_41) (fun _ h9 => h9) rfl (tyX8_ok 0 (by decide)) rfl rfl (Nat.le_of_ble_eq_true rfl) dX8_unpack_117 (fun H locs hP hD hS => ?_)
    have hP : va_P D vwCl [(a_p0, .inr (9, [.int s1, .int p0_minus, .long p0_m, .int p0_e, .int p0_narrowBelow]))] H := hP
    have hD : va_D A [(a_p0, .inr (9, [.int s1, .int p0_minus, .long p0_m, .int p0_e, .int p0_narrowBelow]))] := hD
    refine lv_aload_n hx hb dX8_unpack_120 rfl (lv_at hl 0 rfl) ?_
    refine lv_lload hx hb dX8_unpack_121 (lv_at hl 2 rfl) ?_
    refine va_put (D := D) (ci := 9) (v := .long v7) (ty := tyX8 2) (C := RX8) (T := TX8) (N := 5) hx hb hts uwX8 tyX8 tyX8_ok nmX8 hown hK hP hD hS 0 rfl rfl 2 (by decide) (hts _ kfX8_27) (fun _ h9 => h9) rfl (tyX8_ok 2 (by decide)) rfl rfl (Nat.le_of_ble_eq_true rfl) dX8_unpack_123 (fun H locs hP hD hS => ?_)
    have hP : va_P D vwCl [(a_p0, .inr (9, [.int s1, .int p0_minus, .long v7, .int p0_e, .int p0_narrowBelow]))] H := hP
    have hD : va_D A [(a_p0, .inr (9, [.int s1, .int p0_minus, .long v7, .int p0_e, .int p0_narrowBelow]))] := hD
    refine lv_aload_n hx hb dX8_unpack_126 rfl (lv_at hl 0 rfl) ?_
    refine lv_iload_n hx hb dX8_unpack_127 rfl (lv_at hl 1 rfl) ?_
    obtain ⟨u12, hu13, hf⟩ := bdE hf
    refine cS_I (ws' := [(a_p0, .inr (9, [.int s1, .int p0_minus, .long v7, .int p0_e, .int p0_narrowBelow]))]) (rest := [.ref a_p0]) S hK hN hA hP hD hS (c_X2_lowest l D cI cJ  v1  u12 hu13) mwX2_lowest msX2_lowest kmX8_44 [] rfl (by decide) rfl rfl rfl ⟨Nat.le_of_ble_eq_true rfl, Nat.le_of_ble_eq_true rfl⟩ ⟨Nat.zero_le _, Nat.zero_le _⟩ hl.1 rfl rfl (Nat.le_of_ble_eq_true rfl) dX8_unpack_128 (fun H locs hP hD hS => ?_)
    refine va_put (D := D) (ci := 9) (v := .int u12) (ty := tyX8 3) (C := RX8) (T := TX8) (N := 5) hx hb hts uwX8 tyX8 tyX8_ok nmX8 hown hK hP hD hS 0 rfl rfl 3 (by decide) (hts _ kfX8_31) (fun _ h9 => h9) rfl (tyX8_ok 3 (by decide)) rfl rfl (Nat.le_of_ble_eq_true rfl) dX8_unpack_131 (fun H locs hP hD hS => ?_)
    have hP : va_P D vwCl [(a_p0, .inr (9, [.int s1, .int p0_minus, .long v7, .int u12, .int p0_narrowBelow]))] H := hP
    have hD : va_D A [(a_p0, .inr (9, [.int s1, .int p0_minus, .long v7, .int u12, .int p0_narrowBelow]))] := hD
    refine lv_goto (tgt := 188) hx hb dX8_unpack_134 (by decide) ?_
    exact hret _ (opE hf) H locs ls 188 dX8_unpack_188 hP hD hS
  have keyB52 : ∀ (v1 : Int32) (v4 : Int32) (v5 : Int64) (v7 : Int64) (v9 : Int32) (s1 : Int32) (p0_kind : Int32) (p0_minus : Int32) (p0_m : Int64) (p0_e : Int32) (p0_narrowBelow : Int32) (H : Heap) (locs : List Loc) (ls : Array Slot), f_X8_unpack_B52 v1 v4 v5 v7 v9 s1 p0_kind p0_minus p0_m p0_e p0_narrowBelow = some u → va_P D vwCl [(a_p0, .inr (9, [.int p0_kind, .int p0_minus, .long p0_m, .int p0_e, .int p0_narrowBelow]))] H → va_D A [(a_p0, .inr (9, [.int p0_kind, .int p0_minus, .long p0_m, .int p0_e, .int p0_narrowBelow]))] → va_S A s.heap H locs → lv_has ls 10 [(0, .ref a_p0), (1, .int v1), (4, .int v4), (5, .long v5), (7, .long v7), (9, .int v9)] → W p l e (rmz 1 20) s m ar below meth c H locs 0 0 Q (F0 m 52 ls [.int s1, .ref a_p0]) := by
    intro v1 v4 v5 v7 v9 s1 p0_kind p0_minus p0_m p0_e p0_narrowBelow H locs ls hf hP hD hS hl
    unfold f_X8_unpack_B52 at hf
    obtain ⟨hb5, hf⟩ := blE hf
    refine va_put (D := D) (ci := 9) (v := .int s1) (ty := tyX8 1) (C := RX8) (T := TX8) (N := 5) hx hb hts uwX8 tyX8 tyX8_ok nmX8 hown hK hP hD hS 0 rfl rfl 1 (by decide) (hts _ kfX8_21) (fun _ h9 => h9) rfl (tyX8_ok 1 (by decide)) (nar_bool hb5) (fit_bool hb5) (Nat.le_of_ble_eq_true rfl) dX8_unpack_52 (fun H locs hP hD hS => ?_)
    have hP : va_P D vwCl [(a_p0, .inr (9, [.int p0_kind, .int s1, .long p0_m, .int p0_e, .int p0_narrowBelow]))] H := hP
    have hD : va_D A [(a_p0, .inr (9, [.int p0_kind, .int s1, .long p0_m, .int p0_e, .int p0_narrowBelow]))] := hD
    refine lv_aload_n hx hb dX8_unpack_55 rfl (lv_at hl 0 rfl) ?_
    refine lv_lconst (v := 0) hx hb dX8_unpack_56 (by decide) ?_
    refine va_put (D := D) (ci := 9) (v := .long (0 : Int64)) (ty := tyX8 2) (C := RX8) (T := TX8) (N := 5) hx hb hts uwX8 tyX8 tyX8_ok nmX8 hown hK hP hD hS 0 rfl rfl 2 (by decide) (hts _ kfX8_27) (fun _ h9 => h9) rfl (tyX8_ok 2 (by decide)) rfl rfl (Nat.le_of_ble_eq_true rfl) dX8_unpack_57 (fun H locs hP hD hS => ?_)
    have hP : va_P D vwCl [(a_p0, .inr (9, [.int p0_kind, .int s1, .long (0 : Int64), .int p0_e, .int p0_narrowBelow]))] H := hP
    have hD : va_D A [(a_p0, .inr (9, [.int p0_kind, .int s1, .long (0 : Int64), .int p0_e, .int p0_narrowBelow]))] := hD
    refine lv_aload_n hx hb dX8_unpack_60 rfl (lv_at hl 0 rfl) ?_
    refine lv_iconst (v := 0) hx hb dX8_unpack_61 (by decide) ?_
    refine va_put (D := D) (ci := 9) (v := .int (0 : Int32)) (ty := tyX8 3) (C := RX8) (T := TX8) (N := 5) hx hb hts uwX8 tyX8 tyX8_ok nmX8 hown hK hP hD hS 0 rfl rfl 3 (by decide) (hts _ kfX8_31) (fun _ h9 => h9) rfl (tyX8_ok 3 (by decide)) rfl rfl (Nat.le_of_ble_eq_true rfl) dX8_unpack_62 (fun H locs hP hD hS => ?_)
    have hP : va_P D vwCl [(a_p0, .inr (9, [.int p0_kind, .int s1, .long (0 : Int64), .int (0 : Int32), .int p0_narrowBelow]))] H := hP
    have hD : va_D A [(a_p0, .inr (9, [.int p0_kind, .int s1, .long (0 : Int64), .int (0 : Int32), .int p0_narrowBelow]))] := hD
    refine lv_aload_n hx hb dX8_unpack_65 rfl (lv_at hl 0 rfl) ?_
    refine lv_iconst (v := 0) hx hb dX8_unpack_66 (by decide) ?_
    refine va_put (D := D) (ci := 9) (v := .int (0 : Int32)) (ty := tyX8 4) (C := RX8) (T := TX8) (N := 5) hx hb hts uwX8 tyX8 tyX8_ok nmX8 hown hK hP hD hS 0 rfl rfl 4 (by decide) (hts _ kfX8_35) (fun _ h9 => h9) rfl (tyX8_ok 4 (by decide)) rfl rfl (Nat.le_of_ble_eq_true rfl) dX8_unpack_67 (fun H locs hP hD hS => ?_)
    have hP : va_P D vwCl [(a_p0, .inr (9, [.int p0_kind, .int s1, .long (0 : Int64), .int (0 : Int32), .int (0 : Int32)]))] H := hP
    have hD : va_D A [(a_p0, .inr (9, [.int p0_kind, .int s1, .long (0 : Int64), .int (0 : Int32), .int (0 : Int32)]))] := hD
    refine lv_lload hx hb dX8_unpack_70 (lv_at hl 3 rfl) ?_
    refine lv_iload_n hx hb dX8_unpack_72 rfl (lv_at hl 1 rfl) ?_
    obtain ⟨u6, hu7, hf⟩ := bdE hf
    refine cS_L (ws' := [(a_p0, .inr (9, [.int p0_kind, .int s1, .long (0 : Int64), .int (0 : Int32), .int (0 : Int32)]))]) (rest := [.long v5]) S hK hN hA hP hD hS (c_X2_endlessSize l D cI cJ  v1  u6 hu7) mwX2_endlessSize msX2_endlessSize kmX8_38 [] rfl (by decide) rfl rfl rfl ⟨Nat.le_of_ble_eq_true rfl, Nat.le_of_ble_eq_true rfl⟩ ⟨Nat.zero_le _, Nat.zero_le _⟩ hl.1 rfl rfl (Nat.le_of_ble_eq_true rfl) dX8_unpack_73 (fun H locs hP hD hS => ?_)
    refine W.lcmp hx hb dX8_unpack_76 ?_
    refine lv_if_lt (tgt := 99) hx hb dX8_unpack_77 (by decide) (fun hc17 => ?_) (fun hc17 => ?_)
    · have hf := ifT hc17 hf
      refine lv_iload hx hb dX8_unpack_99 (lv_at hl 5 rfl) ?_
      refine lv_if_ne (tgt := 137) hx hb dX8_unpack_101 (by decide) (fun hc15 => ?_) (fun hc15 => ?_)
      · have hf := ifF hc15 hf
        refine lv_aload_n hx hb dX8_unpack_137 rfl (lv_at hl 0 rfl) ?_
        refine lv_iconst (v := 2) hx hb dX8_unpack_138 (by decide) ?_
        refine va_put (D := D) (ci := 9) (v := .int (2 : Int32)) (ty := tyX8 0) (C := RX8) (T := TX8) (N := 5) hx hb hts uwX8 tyX8 tyX8_ok nmX8 hown hK hP hD hS 0 rfl rfl 0 (by decide) (hts _ kfX8_41) (fun _ h9 => h9) rfl (tyX8_ok 0 (by decide)) rfl rfl (Nat.le_of_ble_eq_true rfl) dX8_unpack_139 (fun H locs hP hD hS => ?_)
        have hP : va_P D vwCl [(a_p0, .inr (9, [.int (2 : Int32), .int s1, .long (0 : Int64), .int (0 : Int32), .int (0 : Int32)]))] H := hP
        have hD : va_D A [(a_p0, .inr (9, [.int (2 : Int32), .int s1, .long (0 : Int64), .int (0 : Int32), .int (0 : Int32)]))] := hD
        refine lv_aload_n hx hb dX8_unpack_142 rfl (lv_at hl 0 rfl) ?_
        refine lv_lload hx hb dX8_unpack_143 (lv_at hl 4 rfl) ?_
        refine lv_lconst (v := 1) hx hb dX8_unpack_145 (by decide) ?_
        refine lv_iload hx hb dX8_unpack_146 (lv_at hl 2 rfl) ?_
        refine lv_lshl (v := lsh (1 : Int64) v4) hx hb dX8_unpack_148 rfl ?_
        refine lv_lor hx hb dX8_unpack_149 ?_
        refine va_put (D := D) (ci := 9) (v := .long (v7 ||| (lsh (1 : Int64) v4))) (ty := tyX8 2) (C := RX8) (T := TX8) (N := 5) hx hb hts uwX8 tyX8 tyX8_ok nmX8 hown hK hP hD hS 0 rfl rfl 2 (by decide) (hts _ kfX8_27) (fun _ h9 => h9) rfl (tyX8_ok 2 (by decide)) rfl rfl (Nat.le_of_ble_eq_true rfl) dX8_unpack_150 (fun H locs hP hD hS => ?_)
        have hP : va_P D vwCl [(a_p0, .inr (9, [.int (2 : Int32), .int s1, .long (v7 ||| (lsh (1 : Int64) v4)), .int (0 : Int32), .int (0 : Int32)]))] H := hP
        have hD : va_D A [(a_p0, .inr (9, [.int (2 : Int32), .int s1, .long (v7 ||| (lsh (1 : Int64) v4)), .int (0 : Int32), .int (0 : Int32)]))] := hD
        refine lv_aload_n hx hb dX8_unpack_153 rfl (lv_at hl 0 rfl) ?_
        refine lv_iload_n hx hb dX8_unpack_154 rfl (lv_at hl 1 rfl) ?_
        obtain ⟨u8, hu9, hf⟩ := bdE hf
        refine cS_I (ws' := [(a_p0, .inr (9, [.int (2 : Int32), .int s1, .long (v7 ||| (lsh (1 : Int64) v4)), .int (0 : Int32), .int (0 : Int32)]))]) (rest := [.ref a_p0]) S hK hN hA hP hD hS (c_X2_lowest l D cI cJ  v1  u8 hu9) mwX2_lowest msX2_lowest kmX8_44 [] rfl (by decide) rfl rfl rfl ⟨Nat.le_of_ble_eq_true rfl, Nat.le_of_ble_eq_true rfl⟩ ⟨Nat.zero_le _, Nat.zero_le _⟩ hl.1 rfl rfl (Nat.le_of_ble_eq_true rfl) dX8_unpack_155 (fun H locs hP hD hS => ?_)
        refine lv_iconst (v := 1) hx hb dX8_unpack_158 (by decide) ?_
        refine lv_isub hx hb dX8_unpack_159 ?_
        refine lv_iload hx hb dX8_unpack_160 (lv_at hl 5 rfl) ?_
        refine lv_iadd hx hb dX8_unpack_162 ?_
        refine va_put (D := D) (ci := 9) (v := .int ((u8 - (1 : Int32)) + v9)) (ty := tyX8 3) (C := RX8) (T := TX8) (N := 5) hx hb hts uwX8 tyX8 tyX8_ok nmX8 hown hK hP hD hS 0 rfl rfl 3 (by decide) (hts _ kfX8_31) (fun _ h9 => h9) rfl (tyX8_ok 3 (by decide)) rfl rfl (Nat.le_of_ble_eq_true rfl) dX8_unpack_163 (fun H locs hP hD hS => ?_)
        have hP : va_P D vwCl [(a_p0, .inr (9, [.int (2 : Int32), .int s1, .long (v7 ||| (lsh (1 : Int64) v4)), .int ((u8 - (1 : Int32)) + v9), .int (0 : Int32)]))] H := hP
        have hD : va_D A [(a_p0, .inr (9, [.int (2 : Int32), .int s1, .long (v7 ||| (lsh (1 : Int64) v4)), .int ((u8 - (1 : Int32)) + v9), .int (0 : Int32)]))] := hD
        refine lv_aload_n hx hb dX8_unpack_166 rfl (lv_at hl 0 rfl) ?_
        refine lv_lload hx hb dX8_unpack_167 (lv_at hl 4 rfl) ?_
        refine lv_lconst (v := 0) hx hb dX8_unpack_169 (by decide) ?_
        refine W.lcmp hx hb dX8_unpack_170 ?_
        refine lv_if_ne (tgt := 184) hx hb dX8_unpack_171 (by decide) (fun hc11 => ?_) (fun hc11 => ?_)
        · have hf := ifF hc11 hf
          refine lv_iconst (v := 0) hx hb dX8_unpack_184 (by decide) ?_
          refine va_put (D := D) (ci := 9) (v := .int (0 : Int32)) (ty := tyX8 4) (C := RX8) (T := TX8) (N := 5) hx hb hts uwX8 tyX8 tyX8_ok nmX8 hown hK hP hD hS 0 rfl rfl 4 (by decide) (hts _ kfX8_35) (fun _ h9 => h9) rfl (tyX8_ok 4 (by decide)) rfl rfl (Nat.le_of_ble_eq_true rfl) dX8_unpack_185 (fun H locs hP hD hS => ?_)
          have hP : va_P D vwCl [(a_p0, .inr (9, [.int (2 : Int32), .int s1, .long (v7 ||| (lsh (1 : Int64) v4)), .int ((u8 - (1 : Int32)) + v9), .int (0 : Int32)]))] H := hP
          have hD : va_D A [(a_p0, .inr (9, [.int (2 : Int32), .int s1, .long (v7 ||| (lsh (1 : Int64) v4)), .int ((u8 - (1 : Int32)) + v9), .int (0 : Int32)]))] := hD
          exact hret _ (opE hf) H locs ls 188 dX8_unpack_188 hP hD hS
        · have hf := ifT hc11 hf
          refine lv_iload hx hb dX8_unpack_174 (lv_at hl 5 rfl) ?_
          refine lv_iconst (v := 1) hx hb dX8_unpack_176 (by decide) ?_
          refine lv_icmp_le (tgt := 184) hx hb dX8_unpack_177 (by decide) (fun hc10 => ?_) (fun hc10 => ?_)
          · have hf := ifT hc10 hf
            refine lv_iconst (v := 0) hx hb dX8_unpack_184 (by decide) ?_
            refine va_put (D := D) (ci := 9) (v := .int (0 : Int32)) (ty := tyX8 4) (C := RX8) (T := TX8) (N := 5) hx hb hts uwX8 tyX8 tyX8_ok nmX8 hown hK hP hD hS 0 rfl rfl 4 (by decide) (hts _ kfX8_35) (fun _ h9 => h9) rfl (tyX8_ok 4 (by decide)) rfl rfl (Nat.le_of_ble_eq_true rfl) dX8_unpack_185 (fun H locs hP hD hS => ?_)
            have hP : va_P D vwCl [(a_p0, .inr (9, [.int (2 : Int32), .int s1, .long (v7 ||| (lsh (1 : Int64) v4)), .int ((u8 - (1 : Int32)) + v9), .int (0 : Int32)]))] H := hP
            have hD : va_D A [(a_p0, .inr (9, [.int (2 : Int32), .int s1, .long (v7 ||| (lsh (1 : Int64) v4)), .int ((u8 - (1 : Int32)) + v9), .int (0 : Int32)]))] := hD
            exact hret _ (opE hf) H locs ls 188 dX8_unpack_188 hP hD hS
          · have hf := ifF hc10 hf
            refine lv_iconst (v := 1) hx hb dX8_unpack_180 (by decide) ?_
            refine lv_goto (tgt := 185) hx hb dX8_unpack_181 (by decide) ?_
            refine va_put (D := D) (ci := 9) (v := .int (1 : Int32)) (ty := tyX8 4) (C := RX8) (T := TX8) (N := 5) hx hb hts uwX8 tyX8 tyX8_ok nmX8 hown hK hP hD hS 0 rfl rfl 4 (by decide) (hts _ kfX8_35) (fun _ h9 => h9) rfl (tyX8_ok 4 (by decide)) rfl rfl (Nat.le_of_ble_eq_true rfl) dX8_unpack_185 (fun H locs hP hD hS => ?_)
            have hP : va_P D vwCl [(a_p0, .inr (9, [.int (2 : Int32), .int s1, .long (v7 ||| (lsh (1 : Int64) v4)), .int ((u8 - (1 : Int32)) + v9), .int (1 : Int32)]))] H := hP
            have hD : va_D A [(a_p0, .inr (9, [.int (2 : Int32), .int s1, .long (v7 ||| (lsh (1 : Int64) v4)), .int ((u8 - (1 : Int32)) + v9), .int (1 : Int32)]))] := hD
            exact hret _ (opE hf) H locs ls 188 dX8_unpack_188 hP hD hS
      · have hf := ifT hc15 hf
        refine lv_aload_n hx hb dX8_unpack_104 rfl (lv_at hl 0 rfl) ?_
        refine lv_lload hx hb dX8_unpack_105 (lv_at hl 4 rfl) ?_
        refine lv_lconst (v := 0) hx hb dX8_unpack_107 (by decide) ?_
        refine W.lcmp hx hb dX8_unpack_108 ?_
        refine lv_if_ne (tgt := 116) hx hb dX8_unpack_109 (by decide) (fun hc14 => ?_) (fun hc14 => ?_)
        · have hf := ifF hc14 hf
          refine lv_iconst (v := 1) hx hb dX8_unpack_116 (by decide) ?_
          exact keyB117 v1 v7 (1 : Int32) p0_kind s1 (0 : Int64) (0 : Int32) (0 : Int32) H locs ls hf hP hD hS (lv_sub hl [0, 1, 4] rfl)
        · have hf := ifT hc14 hf
          refine lv_iconst (v := 0) hx hb dX8_unpack_112 (by decide) ?_
          refine lv_goto (tgt := 117) hx hb dX8_unpack_113 (by decide) ?_
          exact keyB117 v1 v7 (0 : Int32) p0_kind s1 (0 : Int64) (0 : Int32) (0 : Int32) H locs ls hf hP hD hS (lv_sub hl [0, 1, 4] rfl)
    · have hf := ifF hc17 hf
      refine lv_aload_n hx hb dX8_unpack_80 rfl (lv_at hl 0 rfl) ?_
      refine lv_lload hx hb dX8_unpack_81 (lv_at hl 4 rfl) ?_
      refine lv_lconst (v := 0) hx hb dX8_unpack_83 (by decide) ?_
      refine W.lcmp hx hb dX8_unpack_84 ?_
      refine lv_if_ne (tgt := 92) hx hb dX8_unpack_85 (by decide) (fun hc16 => ?_) (fun hc16 => ?_)
      · have hf := ifF hc16 hf
        refine lv_iconst (v := 4) hx hb dX8_unpack_92 (by decide) ?_
        refine va_put (D := D) (ci := 9) (v := .int (4 : Int32)) (ty := tyX8 0) (C := RX8) (T := TX8) (N := 5) hx hb hts uwX8 tyX8 tyX8_ok nmX8 hown hK hP hD hS 0 rfl rfl 0 (by decide) (hts _ kfX8_41) (fun _ h9 => h9) rfl (tyX8_ok 0 (by decide)) rfl rfl (Nat.le_of_ble_eq_true rfl) dX8_unpack_93 (fun H locs hP hD hS => ?_)
        have hP : va_P D vwCl [(a_p0, .inr (9, [.int (4 : Int32), .int s1, .long (0 : Int64), .int (0 : Int32), .int (0 : Int32)]))] H := hP
        have hD : va_D A [(a_p0, .inr (9, [.int (4 : Int32), .int s1, .long (0 : Int64), .int (0 : Int32), .int (0 : Int32)]))] := hD
        refine lv_goto (tgt := 188) hx hb dX8_unpack_96 (by decide) ?_
        exact hret _ (opE hf) H locs ls 188 dX8_unpack_188 hP hD hS
      · have hf := ifT hc16 hf
        refine lv_iconst (v := 3) hx hb dX8_unpack_88 (by decide) ?_
        refine lv_goto (tgt := 93) hx hb dX8_unpack_89 (by decide) ?_
        refine va_put (D := D) (ci := 9) (v := .int (3 : Int32)) (ty := tyX8 0) (C := RX8) (T := TX8) (N := 5) hx hb hts uwX8 tyX8 tyX8_ok nmX8 hown hK hP hD hS 0 rfl rfl 0 (by decide) (hts _ kfX8_41) (fun _ h9 => h9) rfl (tyX8_ok 0 (by decide)) rfl rfl (Nat.le_of_ble_eq_true rfl) dX8_unpack_93 (fun H locs hP hD hS => ?_)
        have hP : va_P D vwCl [(a_p0, .inr (9, [.int (3 : Int32), .int s1, .long (0 : Int64), .int (0 : Int32), .int (0 : Int32)]))] H := hP
        have hD : va_D A [(a_p0, .inr (9, [.int (3 : Int32), .int s1, .long (0 : Int64), .int (0 : Int32), .int (0 : Int32)]))] := hD
        refine lv_goto (tgt := 188) hx hb dX8_unpack_96 (by decide) ?_
        exact hret _ (opE hf) H locs ls 188 dX8_unpack_188 hP hD hS
  unfold f_X8_unpack at hf
  refine lv_iload_n hx hb dX8_unpack_0 rfl (lv_at hl 1 rfl) ?_
  obtain ⟨u1, hu2, hf⟩ := bdE hf
  refine cS_I (ws' := [(a_p0, .inr (9, [.int p0_kind, .int p0_minus, .long p0_m, .int p0_e, .int p0_narrowBelow]))]) (rest := []) S hK hN hA hP hD hS (c_X2_precision l D cI cJ  p1  u1 hu2) mwX2_precision msX2_precision kmX8_9 [] rfl (by decide) rfl rfl rfl ⟨Nat.le_of_ble_eq_true rfl, Nat.le_of_ble_eq_true rfl⟩ ⟨Nat.zero_le _, Nat.zero_le _⟩ hl.1 rfl rfl (Nat.le_of_ble_eq_true rfl) dX8_unpack_1 (fun H locs hP hD hS => ?_)
  refine lv_iconst (v := 1) hx hb dX8_unpack_4 (by decide) ?_
  refine lv_isub hx hb dX8_unpack_5 ?_
  refine lv_istore (lv' := [(4, .int (u1 - (1 : Int32))), (0, .ref a_p0), (1, .int p1), (2, .long p2)]) hx hb dX8_unpack_6 hl (by decide) rfl (fun ls hl => ?_)
  refine lv_lload_n hx hb dX8_unpack_8 rfl (lv_at hl 3 rfl) ?_
  refine lv_iload_n hx hb dX8_unpack_9 rfl (lv_at hl 2 rfl) ?_
  obtain ⟨u3, hu4, hf⟩ := bdE hf
  refine cS_L (ws' := [(a_p0, .inr (9, [.int p0_kind, .int p0_minus, .long p0_m, .int p0_e, .int p0_narrowBelow]))]) (rest := [.long p2]) S hK hN hA hP hD hS (c_X2_signBit l D cI cJ  p1  u3 hu4) mwX2_signBit msX2_signBit kmX8_15 [] rfl (by decide) rfl rfl rfl ⟨Nat.le_of_ble_eq_true rfl, Nat.le_of_ble_eq_true rfl⟩ ⟨Nat.zero_le _, Nat.zero_le _⟩ hl.1 rfl rfl (Nat.le_of_ble_eq_true rfl) dX8_unpack_10 (fun H locs hP hD hS => ?_)
  refine lv_ldc2 hx hb hown (hts _ kcX8_19) dX8_unpack_13 ?_
  refine lv_lxor hx hb dX8_unpack_16 ?_
  refine lv_land hx hb dX8_unpack_17 ?_
  refine lv_lstore (lv' := [(5, .long (p2 &&& (u3 ^^^ (-1 : Int64)))), (4, .int (u1 - (1 : Int32))), (0, .ref a_p0), (1, .int p1), (2, .long p2)]) hx hb dX8_unpack_18 hl (by decide) rfl (fun ls hl => ?_)
  refine lv_lload hx hb dX8_unpack_20 (lv_at hl 0 rfl) ?_
  refine lv_lconst (v := 1) hx hb dX8_unpack_22 (by decide) ?_
  refine lv_iload hx hb dX8_unpack_23 (lv_at hl 1 rfl) ?_
  refine lv_lshl (v := lsh (1 : Int64) (u1 - (1 : Int32))) hx hb dX8_unpack_25 rfl ?_
  refine lv_lconst (v := 1) hx hb dX8_unpack_26 (by decide) ?_
  refine lv_lsub hx hb dX8_unpack_27 ?_
  refine lv_land hx hb dX8_unpack_28 ?_
  refine lv_lstore (lv' := [(7, .long ((p2 &&& (u3 ^^^ (-1 : Int64))) &&& ((lsh (1 : Int64) (u1 - (1 : Int32))) - (1 : Int64)))), (5, .long (p2 &&& (u3 ^^^ (-1 : Int64)))), (4, .int (u1 - (1 : Int32))), (0, .ref a_p0), (1, .int p1), (2, .long p2)]) hx hb dX8_unpack_29 hl (by decide) rfl (fun ls hl => ?_)
  refine lv_lload hx hb dX8_unpack_31 (lv_at hl 1 rfl) ?_
  refine lv_iload hx hb dX8_unpack_33 (lv_at hl 2 rfl) ?_
  refine lv_lushr (v := lus (p2 &&& (u3 ^^^ (-1 : Int64))) (u1 - (1 : Int32))) hx hb dX8_unpack_35 rfl ?_
  refine lv_l2i (v := (lus (p2 &&& (u3 ^^^ (-1 : Int64))) (u1 - (1 : Int32))).toInt32) hx hb dX8_unpack_36 rfl ?_
  refine lv_istore (lv' := [(9, .int ((lus (p2 &&& (u3 ^^^ (-1 : Int64))) (u1 - (1 : Int32))).toInt32)), (7, .long ((p2 &&& (u3 ^^^ (-1 : Int64))) &&& ((lsh (1 : Int64) (u1 - (1 : Int32))) - (1 : Int64)))), (5, .long (p2 &&& (u3 ^^^ (-1 : Int64)))), (4, .int (u1 - (1 : Int32))), (0, .ref a_p0), (1, .int p1), (2, .long p2)]) hx hb dX8_unpack_37 hl (by decide) rfl (fun ls hl => ?_)
  refine lv_aload_n hx hb dX8_unpack_39 rfl (lv_at hl 4 rfl) ?_
  refine lv_lload hx hb dX8_unpack_40 (lv_at hl 2 rfl) ?_
  refine lv_lload_n hx hb dX8_unpack_42 rfl (lv_at hl 6 rfl) ?_
  refine W.lcmp hx hb dX8_unpack_43 ?_
  refine lv_if_eq (tgt := 51) hx hb dX8_unpack_44 (by decide) (fun hc18 => ?_) (fun hc18 => ?_)
  · have hf := ifT hc18 hf
    refine lv_iconst (v := 0) hx hb dX8_unpack_51 (by decide) ?_
    exact keyB52 p1 (u1 - (1 : Int32)) (p2 &&& (u3 ^^^ (-1 : Int64))) ((p2 &&& (u3 ^^^ (-1 : Int64))) &&& ((lsh (1 : Int64) (u1 - (1 : Int32))) - (1 : Int64))) ((lus (p2 &&& (u3 ^^^ (-1 : Int64))) (u1 - (1 : Int32))).toInt32) (0 : Int32) p0_kind p0_minus p0_m p0_e p0_narrowBelow H locs ls hf hP hD hS (lv_sub hl [4, 5, 3, 2, 1, 0] rfl)
  · have hf := ifF hc18 hf
    refine lv_iconst (v := 1) hx hb dX8_unpack_47 (by decide) ?_
    refine lv_goto (tgt := 52) hx hb dX8_unpack_48 (by decide) ?_
    exact keyB52 p1 (u1 - (1 : Int32)) (p2 &&& (u3 ^^^ (-1 : Int64))) ((p2 &&& (u3 ^^^ (-1 : Int64))) &&& ((lsh (1 : Int64) (u1 - (1 : Int32))) - (1 : Int64))) ((lus (p2 &&& (u3 ^^^ (-1 : Int64))) (u1 - (1 : Int32))).toInt32) (1 : Int32) p0_kind p0_minus p0_m p0_e p0_narrowBelow H locs ls hf hP hD hS (lv_sub hl [4, 5, 3, 2, 1, 0] rfl)
set_option maxRecDepth 100000 in
set_option maxHeartbeats 4000000 in
theorem c_X9_look (l : Launch) (D : va_G) (cI cJ : ClassId) (a_p0 a_p0_formats a_p0_patterns a_p0_first a_p0_second a_p0_third a_p0_tape a_p0_acts a_p0_sheet a_p0_forms a_p2 : Nat) (p1 : Int32) (p0_formats : (Nat → Int32)) (p0_patterns : (Nat → Int64)) (p2_kind : Int32) (p2_minus : Int32) (p2_m : Int64) (p2_e : Int32) (p2_narrowBelow : Int32) (u : Int32 × Int32 × Int64 × Int32 × Int32) (hf : f_X9_look p0_formats p0_patterns p1 p2_kind p2_minus p2_m p2_e p2_narrowBelow = some u) : CtV l yX9_look cX9_look 3 2 49 [.ref a_p0, .int p1, .ref a_p2] D cI cJ [(a_p0, .inr (10, [.ref a_p0_formats, .ref a_p0_patterns, .ref a_p0_first, .ref a_p0_second, .ref a_p0_third, .ref a_p0_tape, .ref a_p0_acts, .ref a_p0_sheet, .ref a_p0_forms])), (a_p0_formats, .inl (cI, 16, .inl p0_formats)), (a_p0_patterns, .inl (cJ, 16, .inr (.inl p0_patterns))), (a_p2, .inr (9, [.int p2_kind, .int p2_minus, .long p2_m, .int p2_e, .int p2_narrowBelow]))] [(a_p0, .inr (10, [.ref a_p0_formats, .ref a_p0_patterns, .ref a_p0_first, .ref a_p0_second, .ref a_p0_third, .ref a_p0_tape, .ref a_p0_acts, .ref a_p0_sheet, .ref a_p0_forms])), (a_p0_formats, .inl (cI, 16, .inl p0_formats)), (a_p0_patterns, .inl (cJ, 16, .inr (.inl p0_patterns))), (a_p2, .inr (9, [.int u.1, .int u.2.1, .long u.2.2.1, .int u.2.2.2.1, .int u.2.2.2.2]))] := by
  refine mkV (own := RX9) rfl (by decide +kernel) (Nat.le_of_ble_eq_true rfl) (lv := [(0, .ref a_p0), (1, .int p1), (2, .ref a_p2)]) rfl ?_
  intro p e s m below meth c Q A ls ar S hA hK hN hret H locs hP hD hS hl
  obtain ⟨hx, hb, hml, hown, hts⟩ := id S
  have hret : ∀ (w : Int32 × Int32 × Int64 × Int32 × Int32), w = u → ∀ (H : Heap) (locs : List Loc) (ls : Array Slot) (pc : Nat), decode cX9_look pc = .ok (.return_, 1) → va_P D vwCl [(a_p0, .inr (10, [.ref a_p0_formats, .ref a_p0_patterns, .ref a_p0_first, .ref a_p0_second, .ref a_p0_third, .ref a_p0_tape, .ref a_p0_acts, .ref a_p0_sheet, .ref a_p0_forms])), (a_p0_formats, .inl (cI, 16, .inl p0_formats)), (a_p0_patterns, .inl (cJ, 16, .inr (.inl p0_patterns))), (a_p2, .inr (9, [.int w.1, .int w.2.1, .long w.2.2.1, .int w.2.2.2.1, .int w.2.2.2.2]))] H → va_D A [(a_p0, .inr (10, [.ref a_p0_formats, .ref a_p0_patterns, .ref a_p0_first, .ref a_p0_second, .ref a_p0_third, .ref a_p0_tape, .ref a_p0_acts, .ref a_p0_sheet, .ref a_p0_forms])), (a_p0_formats, .inl (cI, 16, .inl p0_formats)), (a_p0_patterns, .inl (cJ, 16, .inr (.inl p0_patterns))), (a_p2, .inr (9, [.int w.1, .int w.2.1, .long w.2.2.1, .int w.2.2.2.1, .int w.2.2.2.2]))] → va_S A s.heap H locs → W p l e (rmz 2 49) s m ar below meth c H locs 0 0 Q (F0 m pc ls []) := fun w hw => hw ▸ hret
  unfold f_X9_look at hf
  refine lv_aload_n hx hb dX9_look_0 rfl (lv_at hl 2 rfl) ?_
  refine lv_aload_n hx hb dX9_look_1 rfl (lv_at hl 0 rfl) ?_
  refine va_get (D := D) (ci := 10) (v := .ref a_p0_formats) (C := RX9) (T := TX9) (N := 9) hx hb hts uwX9 hown hK hP 0 rfl rfl 0 (by decide) (hts _ kfX9_9) (fun _ h9 => h9) rfl dX9_look_2 ?_
  refine lv_iload_n hx hb dX9_look_5 rfl (lv_at hl 1 rfl) ?_
  obtain ⟨hi1, hf⟩ := gdE hf
  refine va_iald hx hb hK hP 1 0 rfl rfl hi1 dX9_look_6 ?_
  refine lv_aload_n hx hb dX9_look_7 rfl (lv_at hl 0 rfl) ?_
  refine va_get (D := D) (ci := 10) (v := .ref a_p0_patterns) (C := RX9) (T := TX9) (N := 9) hx hb hts uwX9 hown hK hP 0 rfl rfl 1 (by decide) (hts _ kfX9_13) (fun _ h9 => h9) rfl dX9_look_8 ?_
  refine lv_iload_n hx hb dX9_look_11 rfl (lv_at hl 1 rfl) ?_
  refine va_lald hx hb hK hP 2 1 rfl rfl hi1 dX9_look_12 ?_
  obtain ⟨u2, hu3, hf⟩ := bdE hf
  refine cV_V (ws' := [(a_p0, .inr (10, [.ref a_p0_formats, .ref a_p0_patterns, .ref a_p0_first, .ref a_p0_second, .ref a_p0_third, .ref a_p0_tape, .ref a_p0_acts, .ref a_p0_sheet, .ref a_p0_forms])), (a_p0_formats, .inl (cI, 16, .inl p0_formats)), (a_p0_patterns, .inl (cJ, 16, .inr (.inl p0_patterns))), (a_p2, .inr (9, [.int u2.1, .int u2.2.1, .long u2.2.2.1, .int u2.2.2.2.1, .int u2.2.2.2.2]))]) (rest := []) S hK hN hA hP hD hS (c_X8_unpack l D cI cJ a_p2 (p0_formats p1.toNatClampNeg) (p0_patterns p1.toNatClampNeg) p2_kind p2_minus p2_m p2_e p2_narrowBelow u2 hu3) mwX8_unpack miX8_unpack kmX9_211 [3] rfl (by decide) rfl rfl rfl 0 rfl rfl ⟨Nat.le_of_ble_eq_true rfl, Nat.le_of_ble_eq_true rfl⟩ ⟨Nat.zero_le _, Nat.zero_le _⟩ hl.1 rfl rfl (Nat.le_of_ble_eq_true rfl) dX9_look_13 (fun H locs hP hD hS => ?_)
  exact hret _ (opE hf) H locs ls 16 dX9_look_16 hP hD hS
set_option maxRecDepth 100000 in
set_option maxHeartbeats 4000000 in
theorem c_X9_told (l : Launch) (hst : l.stackTraces = false) (D : va_G) (cI cJ : ClassId) (sa sv : Nat → Nat) (a_p0 a_p0_formats a_p0_patterns a_p0_first a_p0_second a_p0_third a_p0_tape a_p0_acts a_p0_sheet a_p0_forms : Nat) (p1 : Int32) (p2 : Int32) (p0_formats : (Nat → Int32)) (p0_patterns : (Nat → Int64)) (p0_first_kind : Int32) (p0_first_minus : Int32) (p0_first_m : Int64) (p0_first_e : Int32) (p0_first_narrowBelow : Int32) (u : (Nat × Int32 × Int32 × Int64 × Int32 × Int32) ⊕ (Int32 × Int32 × Int32 × Int64 × Int32 × Int32)) (hf : f_X9_told p0_formats p0_patterns p1 p2 p0_first_kind p0_first_minus p0_first_m p0_first_e p0_first_narrowBelow = some u) : CxI l yX9_told cX9_told 3 7 2 12 110 .int [.ref a_p0, .int p1, .int p2] D cI cJ sa sv [(a_p0, .inr (10, [.ref a_p0_formats, .ref a_p0_patterns, .ref a_p0_first, .ref a_p0_second, .ref a_p0_third, .ref a_p0_tape, .ref a_p0_acts, .ref a_p0_sheet, .ref a_p0_forms])), (a_p0_formats, .inl (cI, 16, .inl p0_formats)), (a_p0_patterns, .inl (cJ, 16, .inr (.inl p0_patterns))), (a_p0_first, .inr (9, [.int p0_first_kind, .int p0_first_minus, .long p0_first_m, .int p0_first_e, .int p0_first_narrowBelow]))] (fun r w => ∃ y : Int32 × Int32 × Int32 × Int64 × Int32 × Int32, u = .inr y ∧ r = y.1 ∧ w = [(a_p0, .inr (10, [.ref a_p0_formats, .ref a_p0_patterns, .ref a_p0_first, .ref a_p0_second, .ref a_p0_third, .ref a_p0_tape, .ref a_p0_acts, .ref a_p0_sheet, .ref a_p0_forms])), (a_p0_formats, .inl (cI, 16, .inl p0_formats)), (a_p0_patterns, .inl (cJ, 16, .inr (.inl p0_patterns))), (a_p0_first, .inr (9, [.int y.2.1, .int y.2.2.1, .long y.2.2.2.1, .int y.2.2.2.2.1, .int y.2.2.2.2.2]))]) (fun E w => ∃ x : Nat × Int32 × Int32 × Int64 × Int32 × Int32, u = .inl x ∧ E = exn x.1 ∧ w = [(a_p0, .inr (10, [.ref a_p0_formats, .ref a_p0_patterns, .ref a_p0_first, .ref a_p0_second, .ref a_p0_third, .ref a_p0_tape, .ref a_p0_acts, .ref a_p0_sheet, .ref a_p0_forms])), (a_p0_formats, .inl (cI, 16, .inl p0_formats)), (a_p0_patterns, .inl (cJ, 16, .inr (.inl p0_patterns))), (a_p0_first, .inr (9, [.int x.2.1, .int x.2.2.1, .long x.2.2.2.1, .int x.2.2.2.2.1, .int x.2.2.2.2.2]))]) := by
  refine mkXI hst (own := RX9) rfl (by decide) (Nat.le_of_ble_eq_true rfl) (lv := [(0, .ref a_p0), (1, .int p1), (2, .int p2)]) rfl ?_
  intro p e s m below meth c Q A ls ar S hA hK hN hE hret hthr hnew H locs hP hD hS hl
  obtain ⟨hx, hb, hml, hown, hts⟩ := id S
  unfold f_X9_told at hf
  refine lv_iload_n hx hb dX9_told_0 rfl (lv_at hl 1 rfl) ?_
  obtain ⟨u1, hu2, hf⟩ := bdE hf
  refine xS_V (rest := []) S hK hN hE hA hP hD hS (c_X9_needPlace l hst D cI cJ sa sv  p1  u1 hu2) mwX9_needPlace msX9_needPlace kmX9_68 [] rfl (by decide) ⟨Nat.le_of_ble_eq_true rfl, Nat.le_of_ble_eq_true rfl⟩ ⟨Nat.le_of_ble_eq_true rfl, Nat.le_of_ble_eq_true rfl⟩ hl.1 rfl rfl (Nat.le_of_ble_eq_true rfl) dX9_told_1 (fun E w H locs q ce hX hB hS hq hv hcl => ?_) (fun w H locs hR hB hS => ?_)
  · obtain ⟨x3, hx9, rfl, rfl⟩ := hX
    have hf := smL hx9 hf
    exact hthr _ _ H locs ls 1 _ _ _ q ce ⟨_, (opE hf).symm, rfl, rfl⟩ (Nat.le_of_ble_eq_true rfl) (Nat.le_of_ble_eq_true rfl) hq hv hcl (hB _ rfl rfl) (hD.adr rfl) hS
  · obtain ⟨y4, hy9, rfl⟩ := hR
    have hf := smR hy9 hf
    have hP : va_P D vwCl [(a_p0, .inr (10, [.ref a_p0_formats, .ref a_p0_patterns, .ref a_p0_first, .ref a_p0_second, .ref a_p0_third, .ref a_p0_tape, .ref a_p0_acts, .ref a_p0_sheet, .ref a_p0_forms])), (a_p0_formats, .inl (cI, 16, .inl p0_formats)), (a_p0_patterns, .inl (cJ, 16, .inr (.inl p0_patterns))), (a_p0_first, .inr (9, [.int p0_first_kind, .int p0_first_minus, .long p0_first_m, .int p0_first_e, .int p0_first_narrowBelow]))] H := hB _ rfl rfl
    have hD : va_D A [(a_p0, .inr (10, [.ref a_p0_formats, .ref a_p0_patterns, .ref a_p0_first, .ref a_p0_second, .ref a_p0_third, .ref a_p0_tape, .ref a_p0_acts, .ref a_p0_sheet, .ref a_p0_forms])), (a_p0_formats, .inl (cI, 16, .inl p0_formats)), (a_p0_patterns, .inl (cJ, 16, .inr (.inl p0_patterns))), (a_p0_first, .inr (9, [.int p0_first_kind, .int p0_first_minus, .long p0_first_m, .int p0_first_e, .int p0_first_narrowBelow]))] := hD.adr rfl
    refine lv_aload_n hx hb dX9_told_4 rfl (lv_at hl 0 rfl) ?_
    refine lv_iload_n hx hb dX9_told_5 rfl (lv_at hl 1 rfl) ?_
    refine lv_aload_n hx hb dX9_told_6 rfl (lv_at hl 0 rfl) ?_
    refine va_get (D := D) (ci := 10) (v := .ref a_p0_first) (C := RX9) (T := TX9) (N := 9) hx hb hts uwX9 hown hK hP 0 rfl rfl 2 (by decide) (hts _ kfX9_20) (fun _ h9 => h9) rfl dX9_told_7 ?_
    obtain ⟨u5, hu6, hf⟩ := bdE hf
    refine cV_V (ws' := [(a_p0, .inr (10, [.ref a_p0_formats, .ref a_p0_patterns, .ref a_p0_first, .ref a_p0_second, .ref a_p0_third, .ref a_p0_tape, .ref a_p0_acts, .ref a_p0_sheet, .ref a_p0_forms])), (a_p0_formats, .inl (cI, 16, .inl p0_formats)), (a_p0_patterns, .inl (cJ, 16, .inr (.inl p0_patterns))), (a_p0_first, .inr (9, [.int u5.1, .int u5.2.1, .long u5.2.2.1, .int u5.2.2.2.1, .int u5.2.2.2.2]))]) (rest := []) S hK hN hA hP hD hS (c_X9_look l D cI cJ a_p0 a_p0_formats a_p0_patterns a_p0_first a_p0_second a_p0_third a_p0_tape a_p0_acts a_p0_sheet a_p0_forms a_p0_first p1 p0_formats p0_patterns p0_first_kind p0_first_minus p0_first_m p0_first_e p0_first_narrowBelow u5 hu6) mwX9_look miX9_look kmX9_81 [0, 1, 2, 3] rfl (by decide) rfl rfl rfl 0 rfl rfl ⟨Nat.le_of_ble_eq_true rfl, Nat.le_of_ble_eq_true rfl⟩ ⟨Nat.le_of_ble_eq_true rfl, Nat.le_of_ble_eq_true rfl⟩ hl.1 rfl rfl (Nat.le_of_ble_eq_true rfl) dX9_told_10 (fun H locs hP hD hS => ?_)
    refine lv_iload_n hx hb dX9_told_13 rfl (lv_at hl 2 rfl) ?_
    by_cases hc9 : p2 = (0 : Int32)
    · have hf := ifT hc9 hf
      refine lv_tableIn (tgt := 44) hx hb dX9_told_14 (by rw [hc9]; decide) (by rw [hc9]; decide) (by rw [hc9]; rfl) (by decide) ?_
      refine lv_aload_n hx hb dX9_told_44 rfl (lv_at hl 0 rfl) ?_
      refine va_get (D := D) (ci := 10) (v := .ref a_p0_formats) (C := RX9) (T := TX9) (N := 9) hx hb hts uwX9 hown hK hP 0 rfl rfl 0 (by decide) (hts _ kfX9_9) (fun _ h9 => h9) rfl dX9_told_45 ?_
      refine lv_iload_n hx hb dX9_told_48 rfl (lv_at hl 1 rfl) ?_
      obtain ⟨hi7, hf⟩ := gdE hf
      refine va_iald hx hb hK hP 1 0 rfl rfl hi7 dX9_told_49 ?_
      exact hret _ _ H locs ls 50 _ _ ⟨_, (opE hf).symm, rfl, rfl⟩ (Nat.le_of_ble_eq_true rfl) (Nat.le_of_ble_eq_true rfl) dX9_told_50 hP hD hS
    · have hf := ifF hc9 hf
      by_cases hc10 : p2 = (1 : Int32)
      · have hf := ifT hc10 hf
        refine lv_tableIn (tgt := 51) hx hb dX9_told_14 (by rw [hc10]; decide) (by rw [hc10]; decide) (by rw [hc10]; rfl) (by decide) ?_
        refine lv_aload_n hx hb dX9_told_51 rfl (lv_at hl 0 rfl) ?_
        refine va_get (D := D) (ci := 10) (v := .ref a_p0_first) (C := RX9) (T := TX9) (N := 9) hx hb hts uwX9 hown hK hP 0 rfl rfl 2 (by decide) (hts _ kfX9_20) (fun _ h9 => h9) rfl dX9_told_52 ?_
        refine va_get (D := D) (ci := 9) (v := .int u5.1) (C := RX8) (T := TX8) (N := 5) hx hb hts uwX8 hown hK hP 3 rfl rfl 0 (by decide) (hts _ kfX9_85) (fun _ h9 => h9) rfl dX9_told_55 ?_
        exact hret _ _ H locs ls 58 _ _ ⟨_, (opE hf).symm, rfl, rfl⟩ (Nat.le_of_ble_eq_true rfl) (Nat.le_of_ble_eq_true rfl) dX9_told_58 hP hD hS
      · have hf := ifF hc10 hf
        by_cases hc11 : p2 = (2 : Int32)
        · have hf := ifT hc11 hf
          refine lv_tableIn (tgt := 59) hx hb dX9_told_14 (by rw [hc11]; decide) (by rw [hc11]; decide) (by rw [hc11]; rfl) (by decide) ?_
          refine lv_aload_n hx hb dX9_told_59 rfl (lv_at hl 0 rfl) ?_
          refine va_get (D := D) (ci := 10) (v := .ref a_p0_first) (C := RX9) (T := TX9) (N := 9) hx hb hts uwX9 hown hK hP 0 rfl rfl 2 (by decide) (hts _ kfX9_20) (fun _ h9 => h9) rfl dX9_told_60 ?_
          refine va_get (D := D) (ci := 9) (v := .int u5.2.1) (C := RX8) (T := TX8) (N := 5) hx hb hts uwX8 hown hK hP 3 rfl rfl 1 (by decide) (hts _ kfX9_89) (fun _ h9 => h9) rfl dX9_told_63 ?_
          refine lv_if_eq (tgt := 73) hx hb dX9_told_66 (by decide) (fun hc8 => ?_) (fun hc8 => ?_)
          · have hf := ifT hc8 hf
            refine lv_iconst (v := 0) hx hb dX9_told_73 (by decide) ?_
            exact hret _ _ H locs ls 74 _ _ ⟨_, (opE hf).symm, rfl, rfl⟩ (Nat.le_of_ble_eq_true rfl) (Nat.le_of_ble_eq_true rfl) dX9_told_74 hP hD hS
          · have hf := ifF hc8 hf
            refine lv_iconst (v := 1) hx hb dX9_told_69 (by decide) ?_
            refine lv_goto (tgt := 74) hx hb dX9_told_70 (by decide) ?_
            exact hret _ _ H locs ls 74 _ _ ⟨_, (opE hf).symm, rfl, rfl⟩ (Nat.le_of_ble_eq_true rfl) (Nat.le_of_ble_eq_true rfl) dX9_told_74 hP hD hS
        · have hf := ifF hc11 hf
          by_cases hc12 : p2 = (3 : Int32)
          · have hf := ifT hc12 hf
            refine lv_tableIn (tgt := 75) hx hb dX9_told_14 (by rw [hc12]; decide) (by rw [hc12]; decide) (by rw [hc12]; rfl) (by decide) ?_
            refine lv_aload_n hx hb dX9_told_75 rfl (lv_at hl 0 rfl) ?_
            refine va_get (D := D) (ci := 10) (v := .ref a_p0_first) (C := RX9) (T := TX9) (N := 9) hx hb hts uwX9 hown hK hP 0 rfl rfl 2 (by decide) (hts _ kfX9_20) (fun _ h9 => h9) rfl dX9_told_76 ?_
            refine va_get (D := D) (ci := 9) (v := .int u5.2.2.2.1) (C := RX8) (T := TX8) (N := 5) hx hb hts uwX8 hown hK hP 3 rfl rfl 3 (by decide) (hts _ kfX9_93) (fun _ h9 => h9) rfl dX9_told_79 ?_
            exact hret _ _ H locs ls 82 _ _ ⟨_, (opE hf).symm, rfl, rfl⟩ (Nat.le_of_ble_eq_true rfl) (Nat.le_of_ble_eq_true rfl) dX9_told_82 hP hD hS
          · have hf := ifF hc12 hf
            refine lv_tableOut (tgt := 83) hx hb dX9_told_14 (tsw4 hc9 hc10 hc11 hc12) (by decide) ?_
            exact hnew _ _ 96 98 100 2 _ _ _ H locs ls 83 _ _ _ thrW2 rfl ⟨_, (opE hf).symm, rfl, rfl⟩ hl.1 dX9_told_83 dX9_told_86 dX9_told_87 dX9_told_89 dX9_told_92 (by decide) (Nat.le_of_ble_eq_true rfl) (Nat.le_of_ble_eq_true rfl) (Nat.le_of_ble_eq_true rfl) hP hD hS
set_option maxRecDepth 100000 in
set_option maxHeartbeats 4000000 in
theorem c_X2_signed (l : Launch) (D : va_G) (cI cJ : ClassId) (p0 : Int32) (p1 : Int32) (p2 : Int64)  (u : Int64) (hf : f_X2_signed p0 p1 p2 = some u) : CtL l yX2_signed cX2_signed 4 1 20 [.int p0, .int p1, .long p2] D cI cJ [] [] u := by
  refine mkL (own := RX2) rfl (by decide +kernel) (Nat.le_of_ble_eq_true rfl) (lv := [(0, .int p0), (1, .int p1), (2, .long p2)]) rfl ?_
  intro p e s m below meth c Q A ls ar S hA hK hN hret H locs hP hD hS hl
  obtain ⟨hx, hb, hml, hown, hts⟩ := id S
  have hret : ∀ (w : Int64), w = u → ∀ (H : Heap) (locs : List Loc) (ls : Array Slot) (pc : Nat), decode cX2_signed pc = .ok (.lreturn, 1) → va_P D vwCl [] H → va_D A [] → va_S A s.heap H locs → W p l e (rmz 1 20) s m ar below meth c H locs 0 0 Q (F0 m pc ls [.long w]) := fun w hw => hw ▸ hret
  unfold f_X2_signed at hf
  refine lv_iload_n hx hb dX2_signed_0 rfl (lv_at hl 1 rfl) ?_
  refine lv_if_eq (tgt := 13) hx hb dX2_signed_1 (by decide) (fun hc3 => ?_) (fun hc3 => ?_)
  · have hf := ifT hc3 hf
    refine lv_lload_n hx hb dX2_signed_13 rfl (lv_at hl 2 rfl) ?_
    exact hret _ (opE hf) H locs ls 14 dX2_signed_14 hP hD hS
  · have hf := ifF hc3 hf
    refine lv_lload_n hx hb dX2_signed_4 rfl (lv_at hl 2 rfl) ?_
    refine lv_iload_n hx hb dX2_signed_5 rfl (lv_at hl 0 rfl) ?_
    obtain ⟨u1, hu2, hf⟩ := bdE hf
    refine cS_L (ws' := []) (rest := [.long p2]) S hK hN hA hP hD hS (c_X2_signBit l D cI cJ  p0  u1 hu2) mwX2_signBit msX2_signBit kmX2_19 [] rfl (by decide) rfl rfl rfl ⟨Nat.le_of_ble_eq_true rfl, Nat.le_of_ble_eq_true rfl⟩ ⟨Nat.zero_le _, Nat.zero_le _⟩ hl.1 rfl rfl (Nat.le_of_ble_eq_true rfl) dX2_signed_6 (fun H locs hP hD hS => ?_)
    refine lv_lor hx hb dX2_signed_9 ?_
    refine lv_goto (tgt := 14) hx hb dX2_signed_10 (by decide) ?_
    exact hret _ (opE hf) H locs ls 14 dX2_signed_14 hP hD hS
set_option maxRecDepth 100000 in
set_option maxHeartbeats 4000000 in
theorem c_X2_beside (l : Launch) (D : va_G) (cI cJ : ClassId) (p0 : Int32) (p1 : Int64) (p2 : Int32)  (u : Int64) (hf : f_X2_beside p0 p1 p2 = some u) : CtL l yX2_beside cX2_beside 9 2 43 [.int p0, .long p1, .int p2] D cI cJ [] [] u := by
  refine mkL (own := RX2) rfl (by decide +kernel) (Nat.le_of_ble_eq_true rfl) (lv := [(0, .int p0), (1, .long p1), (3, .int p2)]) rfl ?_
  intro p e s m below meth c Q A ls ar S hA hK hN hret H locs hP hD hS hl
  obtain ⟨hx, hb, hml, hown, hts⟩ := id S
  have hret : ∀ (w : Int64), w = u → ∀ (H : Heap) (locs : List Loc) (ls : Array Slot) (pc : Nat), decode cX2_beside pc = .ok (.lreturn, 1) → va_P D vwCl [] H → va_D A [] → va_S A s.heap H locs → W p l e (rmz 2 43) s m ar below meth c H locs 0 0 Q (F0 m pc ls [.long w]) := fun w hw => hw ▸ hret
  have keyB59 : ∀ (s0 : Int32) (s1 : Int32) (H : Heap) (locs : List Loc) (ls : Array Slot), f_X2_beside_B59 s0 s1 = some u → va_P D vwCl [] H → va_D A [] → va_S A s.heap H locs → lv_has ls 9 [] → W p l e (rmz 2 43) s m ar below meth c H locs 0 0 Q (F0 m 59 ls [.int s1, .int s0]) := by
    intro s0 s1 H locs ls hf hP hD hS hl
    unfold f_X2_beside_B59 at hf
    refine lv_lconst (v := 1) hx hb dX2_beside_59 (by decide) ?_
    obtain ⟨u11, hu12, hf⟩ := bdE hf
    refine cS_L (ws' := []) (rest := []) S hK hN hA hP hD hS (c_X2_signed l D cI cJ  s0 s1 (1 : Int64)  u11 hu12) mwX2_signed msX2_signed kmX2_25 [] rfl (by decide) rfl rfl rfl ⟨Nat.le_of_ble_eq_true rfl, Nat.le_of_ble_eq_true rfl⟩ ⟨Nat.zero_le _, Nat.zero_le _⟩ hl.1 rfl rfl (Nat.le_of_ble_eq_true rfl) dX2_beside_60 (fun H locs hP hD hS => ?_)
    exact hret _ (opE hf) H locs ls 63 dX2_beside_63 hP hD hS
  have keyB24 : ∀ (v0 : Int32) (v1 : Int64) (v3 : Int32) (v4 : Int64) (s0 : Int32) (H : Heap) (locs : List Loc) (ls : Array Slot), f_X2_beside_B24 v0 v1 v3 v4 s0 = some u → va_P D vwCl [] H → va_D A [] → va_S A s.heap H locs → lv_has ls 9 [(0, .int v0), (1, .long v1), (3, .int v3), (4, .long v4)] → W p l e (rmz 2 43) s m ar below meth c H locs 0 0 Q (F0 m 24 ls [.int s0]) := by
    intro v0 v1 v3 v4 s0 H locs ls hf hP hD hS hl
    unfold f_X2_beside_B24 at hf
    refine lv_istore (lv' := [(6, .int s0), (0, .int v0), (1, .long v1), (3, .int v3), (4, .long v4)]) hx hb dX2_beside_24 hl (by decide) rfl (fun ls hl => ?_)
    refine lv_iload_n hx hb dX2_beside_26 rfl (lv_at hl 1 rfl) ?_
    obtain ⟨u3, hu4, hf⟩ := bdE hf
    refine cS_L (ws' := []) (rest := []) S hK hN hA hP hD hS (c_X2_endlessSize l D cI cJ  v0  u3 hu4) mwX2_endlessSize msX2_endlessSize kmX2_29 [] rfl (by decide) rfl rfl rfl ⟨Nat.le_of_ble_eq_true rfl, Nat.le_of_ble_eq_true rfl⟩ ⟨Nat.zero_le _, Nat.zero_le _⟩ hl.1 rfl rfl (Nat.le_of_ble_eq_true rfl) dX2_beside_27 (fun H locs hP hD hS => ?_)
    refine lv_lstore (lv' := [(7, .long u3), (6, .int s0), (0, .int v0), (1, .long v1), (3, .int v3), (4, .long v4)]) hx hb dX2_beside_30 hl (by decide) rfl (fun ls hl => ?_)
    refine lv_lload hx hb dX2_beside_32 (lv_at hl 5 rfl) ?_
    refine lv_lload hx hb dX2_beside_34 (lv_at hl 0 rfl) ?_
    refine W.lcmp hx hb dX2_beside_36 ?_
    refine lv_if_le (tgt := 42) hx hb dX2_beside_37 (by decide) (fun hc15 => ?_) (fun hc15 => ?_)
    · have hf := ifT hc15 hf
      refine lv_lload hx hb dX2_beside_42 (lv_at hl 5 rfl) ?_
      refine lv_lconst (v := 0) hx hb dX2_beside_44 (by decide) ?_
      refine W.lcmp hx hb dX2_beside_45 ?_
      refine lv_if_ne (tgt := 64) hx hb dX2_beside_46 (by decide) (fun hc14 => ?_) (fun hc14 => ?_)
      · have hf := ifF hc14 hf
        refine lv_iload_n hx hb dX2_beside_64 rfl (lv_at hl 4 rfl) ?_
        refine lv_iload hx hb dX2_beside_65 (lv_at hl 1 rfl) ?_
        refine lv_icmp_ne (tgt := 81) hx hb dX2_beside_67 (by decide) (fun hc10 => ?_) (fun hc10 => ?_)
        · have hf := ifF hc10 hf
          refine lv_lload hx hb dX2_beside_81 (lv_at hl 5 rfl) ?_
          refine lv_lload hx hb dX2_beside_83 (lv_at hl 0 rfl) ?_
          refine W.lcmp hx hb dX2_beside_85 ?_
          refine lv_if_ne (tgt := 93) hx hb dX2_beside_86 (by decide) (fun hc7 => ?_) (fun hc7 => ?_)
          · have hf := ifF hc7 hf
            refine lv_iload_n hx hb dX2_beside_93 rfl (lv_at hl 2 rfl) ?_
            refine lv_iload hx hb dX2_beside_94 (lv_at hl 1 rfl) ?_
            refine lv_lload hx hb dX2_beside_96 (lv_at hl 5 rfl) ?_
            refine lv_lconst (v := 1) hx hb dX2_beside_98 (by decide) ?_
            refine lv_ladd hx hb dX2_beside_99 ?_
            obtain ⟨u5, hu6, hf⟩ := bdE hf
            refine cS_L (ws' := []) (rest := []) S hK hN hA hP hD hS (c_X2_signed l D cI cJ  v0 s0 (v4 + (1 : Int64))  u5 hu6) mwX2_signed msX2_signed kmX2_25 [] rfl (by decide) rfl rfl rfl ⟨Nat.le_of_ble_eq_true rfl, Nat.le_of_ble_eq_true rfl⟩ ⟨Nat.zero_le _, Nat.zero_le _⟩ hl.1 rfl rfl (Nat.le_of_ble_eq_true rfl) dX2_beside_100 (fun H locs hP hD hS => ?_)
            exact hret _ (opE hf) H locs ls 103 dX2_beside_103 hP hD hS
          · have hf := ifT hc7 hf
            refine lv_lload_n hx hb dX2_beside_89 rfl (lv_at hl 3 rfl) ?_
            refine lv_goto (tgt := 103) hx hb dX2_beside_90 (by decide) ?_
            exact hret _ (opE hf) H locs ls 103 dX2_beside_103 hP hD hS
        · have hf := ifT hc10 hf
          refine lv_iload_n hx hb dX2_beside_70 rfl (lv_at hl 2 rfl) ?_
          refine lv_iload hx hb dX2_beside_71 (lv_at hl 1 rfl) ?_
          refine lv_lload hx hb dX2_beside_73 (lv_at hl 5 rfl) ?_
          refine lv_lconst (v := 1) hx hb dX2_beside_75 (by decide) ?_
          refine lv_lsub hx hb dX2_beside_76 ?_
          obtain ⟨u8, hu9, hf⟩ := bdE hf
          refine cS_L (ws' := []) (rest := []) S hK hN hA hP hD hS (c_X2_signed l D cI cJ  v0 s0 (v4 - (1 : Int64))  u8 hu9) mwX2_signed msX2_signed kmX2_25 [] rfl (by decide) rfl rfl rfl ⟨Nat.le_of_ble_eq_true rfl, Nat.le_of_ble_eq_true rfl⟩ ⟨Nat.zero_le _, Nat.zero_le _⟩ hl.1 rfl rfl (Nat.le_of_ble_eq_true rfl) dX2_beside_77 (fun H locs hP hD hS => ?_)
          exact hret _ (opE hf) H locs ls 80 dX2_beside_80 hP hD hS
      · have hf := ifT hc14 hf
        refine lv_iload_n hx hb dX2_beside_49 rfl (lv_at hl 2 rfl) ?_
        refine lv_iload_n hx hb dX2_beside_50 rfl (lv_at hl 4 rfl) ?_
        refine lv_if_ne (tgt := 58) hx hb dX2_beside_51 (by decide) (fun hc13 => ?_) (fun hc13 => ?_)
        · have hf := ifF hc13 hf
          refine lv_iconst (v := 0) hx hb dX2_beside_58 (by decide) ?_
          exact keyB59 v0 (0 : Int32) H locs ls hf hP hD hS (lv_sub hl [] rfl)
        · have hf := ifT hc13 hf
          refine lv_iconst (v := 1) hx hb dX2_beside_54 (by decide) ?_
          refine lv_goto (tgt := 59) hx hb dX2_beside_55 (by decide) ?_
          exact keyB59 v0 (1 : Int32) H locs ls hf hP hD hS (lv_sub hl [] rfl)
    · have hf := ifF hc15 hf
      refine lv_lload_n hx hb dX2_beside_40 rfl (lv_at hl 3 rfl) ?_
      exact hret _ (opE hf) H locs ls 41 dX2_beside_41 hP hD hS
  unfold f_X2_beside at hf
  refine lv_lload_n hx hb dX2_beside_0 rfl (lv_at hl 1 rfl) ?_
  refine lv_iload_n hx hb dX2_beside_1 rfl (lv_at hl 0 rfl) ?_
  obtain ⟨u1, hu2, hf⟩ := bdE hf
  refine cS_L (ws' := []) (rest := [.long p1]) S hK hN hA hP hD hS (c_X2_signBit l D cI cJ  p0  u1 hu2) mwX2_signBit msX2_signBit kmX2_19 [] rfl (by decide) rfl rfl rfl ⟨Nat.le_of_ble_eq_true rfl, Nat.le_of_ble_eq_true rfl⟩ ⟨Nat.zero_le _, Nat.zero_le _⟩ hl.1 rfl rfl (Nat.le_of_ble_eq_true rfl) dX2_beside_2 (fun H locs hP hD hS => ?_)
  refine lv_ldc2 hx hb hown (hts _ kcX2_36) dX2_beside_5 ?_
  refine lv_lxor hx hb dX2_beside_8 ?_
  refine lv_land hx hb dX2_beside_9 ?_
  refine lv_lstore (lv' := [(4, .long (p1 &&& (u1 ^^^ (-1 : Int64)))), (0, .int p0), (1, .long p1), (3, .int p2)]) hx hb dX2_beside_10 hl (by decide) rfl (fun ls hl => ?_)
  refine lv_lload hx hb dX2_beside_12 (lv_at hl 0 rfl) ?_
  refine lv_lload_n hx hb dX2_beside_14 rfl (lv_at hl 2 rfl) ?_
  refine W.lcmp hx hb dX2_beside_15 ?_
  refine lv_if_eq (tgt := 23) hx hb dX2_beside_16 (by decide) (fun hc16 => ?_) (fun hc16 => ?_)
  · have hf := ifT hc16 hf
    refine lv_iconst (v := 0) hx hb dX2_beside_23 (by decide) ?_
    exact keyB24 p0 p1 p2 (p1 &&& (u1 ^^^ (-1 : Int64))) (0 : Int32) H locs ls hf hP hD hS (lv_sub hl [1, 2, 3, 0] rfl)
  · have hf := ifF hc16 hf
    refine lv_iconst (v := 1) hx hb dX2_beside_19 (by decide) ?_
    refine lv_goto (tgt := 24) hx hb dX2_beside_20 (by decide) ?_
    exact keyB24 p0 p1 p2 (p1 &&& (u1 ^^^ (-1 : Int64))) (1 : Int32) H locs ls hf hP hD hS (lv_sub hl [1, 2, 3, 0] rfl)
set_option maxRecDepth 100000 in
set_option maxHeartbeats 4000000 in
theorem c_X9_step (l : Launch) (hst : l.stackTraces = false) (D : va_G) (cI cJ : ClassId) (sa sv : Nat → Nat) (a_p0 a_p0_formats a_p0_patterns a_p0_first a_p0_second a_p0_third a_p0_tape a_p0_acts a_p0_sheet a_p0_forms : Nat) (p1 : Int32) (p2 : Int32) (p0_formats : (Nat → Int32)) (p0_patterns : (Nat → Int64)) (u : (Nat × (Nat → Int64)) ⊕ ((Nat → Int64))) (hf : f_X9_step p0_formats p1 p2 p0_patterns = some u) : CxV l yX9_step cX9_step 3 7 1 6 110 [.ref a_p0, .int p1, .int p2] D cI cJ sa sv [(a_p0, .inr (10, [.ref a_p0_formats, .ref a_p0_patterns, .ref a_p0_first, .ref a_p0_second, .ref a_p0_third, .ref a_p0_tape, .ref a_p0_acts, .ref a_p0_sheet, .ref a_p0_forms])), (a_p0_formats, .inl (cI, 16, .inl p0_formats)), (a_p0_patterns, .inl (cJ, 16, .inr (.inl p0_patterns)))] (fun w => ∃ y : (Nat → Int64), u = .inr y ∧ w = [(a_p0, .inr (10, [.ref a_p0_formats, .ref a_p0_patterns, .ref a_p0_first, .ref a_p0_second, .ref a_p0_third, .ref a_p0_tape, .ref a_p0_acts, .ref a_p0_sheet, .ref a_p0_forms])), (a_p0_formats, .inl (cI, 16, .inl p0_formats)), (a_p0_patterns, .inl (cJ, 16, .inr (.inl y)))]) (fun E w => ∃ x : Nat × (Nat → Int64), u = .inl x ∧ E = exn x.1 ∧ w = [(a_p0, .inr (10, [.ref a_p0_formats, .ref a_p0_patterns, .ref a_p0_first, .ref a_p0_second, .ref a_p0_third, .ref a_p0_tape, .ref a_p0_acts, .ref a_p0_sheet, .ref a_p0_forms])), (a_p0_formats, .inl (cI, 16, .inl p0_formats)), (a_p0_patterns, .inl (cJ, 16, .inr (.inl x.2)))]) := by
  refine mkXV hst (own := RX9) rfl (by decide) (Nat.le_of_ble_eq_true rfl) (lv := [(0, .ref a_p0), (1, .int p1), (2, .int p2)]) rfl ?_
  intro p e s m below meth c Q A ls ar S hA hK hN hE hret hthr hnew H locs hP hD hS hl
  obtain ⟨hx, hb, hml, hown, hts⟩ := id S
  unfold f_X9_step at hf
  refine lv_iload_n hx hb dX9_step_0 rfl (lv_at hl 1 rfl) ?_
  obtain ⟨u1, hu2, hf⟩ := bdE hf
  refine xS_V (rest := []) S hK hN hE hA hP hD hS (c_X9_needPlace l hst D cI cJ sa sv  p1  u1 hu2) mwX9_needPlace msX9_needPlace kmX9_68 [] rfl (by decide) ⟨Nat.le_of_ble_eq_true rfl, Nat.le_of_ble_eq_true rfl⟩ ⟨Nat.le_of_ble_eq_true rfl, Nat.le_of_ble_eq_true rfl⟩ hl.1 rfl rfl (Nat.le_of_ble_eq_true rfl) dX9_step_1 (fun E w H locs q ce hX hB hS hq hv hcl => ?_) (fun w H locs hR hB hS => ?_)
  · obtain ⟨x3, hx9, rfl, rfl⟩ := hX
    have hf := smL hx9 hf
    exact hthr _ _ H locs ls 1 _ _ _ q ce ⟨_, (opE hf).symm, rfl, rfl⟩ (Nat.le_of_ble_eq_true rfl) (Nat.le_of_ble_eq_true rfl) hq hv hcl (hB _ rfl rfl) (hD.adr rfl) hS
  · obtain ⟨y4, hy9, rfl⟩ := hR
    have hf := smR hy9 hf
    have hP : va_P D vwCl [(a_p0, .inr (10, [.ref a_p0_formats, .ref a_p0_patterns, .ref a_p0_first, .ref a_p0_second, .ref a_p0_third, .ref a_p0_tape, .ref a_p0_acts, .ref a_p0_sheet, .ref a_p0_forms])), (a_p0_formats, .inl (cI, 16, .inl p0_formats)), (a_p0_patterns, .inl (cJ, 16, .inr (.inl p0_patterns)))] H := hB _ rfl rfl
    have hD : va_D A [(a_p0, .inr (10, [.ref a_p0_formats, .ref a_p0_patterns, .ref a_p0_first, .ref a_p0_second, .ref a_p0_third, .ref a_p0_tape, .ref a_p0_acts, .ref a_p0_sheet, .ref a_p0_forms])), (a_p0_formats, .inl (cI, 16, .inl p0_formats)), (a_p0_patterns, .inl (cJ, 16, .inr (.inl p0_patterns)))] := hD.adr rfl
    refine lv_aload_n hx hb dX9_step_4 rfl (lv_at hl 0 rfl) ?_
    refine va_get (D := D) (ci := 10) (v := .ref a_p0_patterns) (C := RX9) (T := TX9) (N := 9) hx hb hts uwX9 hown hK hP 0 rfl rfl 1 (by decide) (hts _ kfX9_13) (fun _ h9 => h9) rfl dX9_step_5 ?_
    refine lv_iload_n hx hb dX9_step_8 rfl (lv_at hl 1 rfl) ?_
    refine lv_aload_n hx hb dX9_step_9 rfl (lv_at hl 0 rfl) ?_
    refine va_get (D := D) (ci := 10) (v := .ref a_p0_formats) (C := RX9) (T := TX9) (N := 9) hx hb hts uwX9 hown hK hP 0 rfl rfl 0 (by decide) (hts _ kfX9_9) (fun _ h9 => h9) rfl dX9_step_10 ?_
    refine lv_iload_n hx hb dX9_step_13 rfl (lv_at hl 1 rfl) ?_
    obtain ⟨hi5, hf⟩ := gdE hf
    refine va_iald hx hb hK hP 1 0 rfl rfl hi5 dX9_step_14 ?_
    refine lv_aload_n hx hb dX9_step_15 rfl (lv_at hl 0 rfl) ?_
    refine va_get (D := D) (ci := 10) (v := .ref a_p0_patterns) (C := RX9) (T := TX9) (N := 9) hx hb hts uwX9 hown hK hP 0 rfl rfl 1 (by decide) (hts _ kfX9_13) (fun _ h9 => h9) rfl dX9_step_16 ?_
    refine lv_iload_n hx hb dX9_step_19 rfl (lv_at hl 1 rfl) ?_
    refine va_lald hx hb hK hP 2 1 rfl rfl hi5 dX9_step_20 ?_
    refine lv_iload_n hx hb dX9_step_21 rfl (lv_at hl 2 rfl) ?_
    obtain ⟨u6, hu7, hf⟩ := bdE hf
    refine cS_L (ws' := [(a_p0, .inr (10, [.ref a_p0_formats, .ref a_p0_patterns, .ref a_p0_first, .ref a_p0_second, .ref a_p0_third, .ref a_p0_tape, .ref a_p0_acts, .ref a_p0_sheet, .ref a_p0_forms])), (a_p0_formats, .inl (cI, 16, .inl p0_formats)), (a_p0_patterns, .inl (cJ, 16, .inr (.inl p0_patterns)))]) (rest := [.int p1, .ref a_p0_patterns]) S hK hN hA hP hD hS (c_X2_beside l D cI cJ  (p0_formats p1.toNatClampNeg) (p0_patterns p1.toNatClampNeg) p2  u6 hu7) mwX2_beside msX2_beside kmX9_135 [] rfl (by decide) rfl rfl rfl ⟨Nat.le_of_ble_eq_true rfl, Nat.le_of_ble_eq_true rfl⟩ ⟨Nat.le_of_ble_eq_true rfl, Nat.le_of_ble_eq_true rfl⟩ hl.1 rfl rfl (Nat.le_of_ble_eq_true rfl) dX9_step_22 (fun H locs hP hD hS => ?_)
    refine va_last hx hb hK hP hD hS 2 1 rfl rfl hi5 dX9_step_25 (fun H locs hP hD hS => ?_)
    have hP : va_P D vwCl [(a_p0, .inr (10, [.ref a_p0_formats, .ref a_p0_patterns, .ref a_p0_first, .ref a_p0_second, .ref a_p0_third, .ref a_p0_tape, .ref a_p0_acts, .ref a_p0_sheet, .ref a_p0_forms])), (a_p0_formats, .inl (cI, 16, .inl p0_formats)), (a_p0_patterns, .inl (cJ, 16, .inr (.inl (vp_updL p0_patterns p1.toNatClampNeg u6))))] H := hP
    have hD : va_D A [(a_p0, .inr (10, [.ref a_p0_formats, .ref a_p0_patterns, .ref a_p0_first, .ref a_p0_second, .ref a_p0_third, .ref a_p0_tape, .ref a_p0_acts, .ref a_p0_sheet, .ref a_p0_forms])), (a_p0_formats, .inl (cI, 16, .inl p0_formats)), (a_p0_patterns, .inl (cJ, 16, .inr (.inl (vp_updL p0_patterns p1.toNatClampNeg u6))))] := hD
    exact hret _ H locs ls 26 _ _ ⟨_, (opE hf).symm, rfl⟩ (Nat.le_of_ble_eq_true rfl) (Nat.le_of_ble_eq_true rfl) dX9_step_26 hP hD hS
set_option maxRecDepth 100000 in
set_option maxHeartbeats 4000000 in
theorem c_X7_append (l : Launch) (D : va_G) (cI cJ : ClassId) (a_p0 a_p0_bytes : Nat) (p1 : Int32) (p0_length : Int32) (p0_minus : Int32) (p0_kind : Int32) (p0_sixteens : Int32) (p0_behindPoint : Int32) (p0_counting : Int32) (p0_power : Int32) (p0_begin : Int32) (p0_end : Int32) (p0_bytes : (Nat → Int32)) (u : Int32 × (Nat → Int32)) (hf : f_X7_append p1 p0_length p0_bytes = some u) : CtV l yX7_append cX7_append 2 0 0 [.ref a_p0, .int p1] D cI cJ [(a_p0, .inr (8, [.ref a_p0_bytes, .int p0_length, .int p0_minus, .int p0_kind, .int p0_sixteens, .int p0_behindPoint, .int p0_counting, .int p0_power, .int p0_begin, .int p0_end])), (a_p0_bytes, .inl (cI, 1200, .inl p0_bytes))] [(a_p0, .inr (8, [.ref a_p0_bytes, .int u.1, .int p0_minus, .int p0_kind, .int p0_sixteens, .int p0_behindPoint, .int p0_counting, .int p0_power, .int p0_begin, .int p0_end])), (a_p0_bytes, .inl (cI, 1200, .inl u.2))] := by
  refine mkV (own := RX7) rfl (by decide +kernel) (Nat.le_of_ble_eq_true rfl) (lv := [(0, .ref a_p0), (1, .int p1)]) rfl ?_
  intro p e s m below meth c Q A ls ar S hA hK hN hret H locs hP hD hS hl
  obtain ⟨hx, hb, hml, hown, hts⟩ := id S
  have hret : ∀ (w : Int32 × (Nat → Int32)), w = u → ∀ (H : Heap) (locs : List Loc) (ls : Array Slot) (pc : Nat), decode cX7_append pc = .ok (.return_, 1) → va_P D vwCl [(a_p0, .inr (8, [.ref a_p0_bytes, .int w.1, .int p0_minus, .int p0_kind, .int p0_sixteens, .int p0_behindPoint, .int p0_counting, .int p0_power, .int p0_begin, .int p0_end])), (a_p0_bytes, .inl (cI, 1200, .inl w.2))] H → va_D A [(a_p0, .inr (8, [.ref a_p0_bytes, .int w.1, .int p0_minus, .int p0_kind, .int p0_sixteens, .int p0_behindPoint, .int p0_counting, .int p0_power, .int p0_begin, .int p0_end])), (a_p0_bytes, .inl (cI, 1200, .inl w.2))] → va_S A s.heap H locs → W p l e (rmz 0 0) s m ar below meth c H locs 0 0 Q (F0 m pc ls []) := fun w hw => hw ▸ hret
  unfold f_X7_append at hf
  refine lv_aload_n hx hb dX7_append_0 rfl (lv_at hl 0 rfl) ?_
  refine va_get (D := D) (ci := 8) (v := .int p0_length) (C := RX7) (T := TX7) (N := 10) hx hb hts uwX7 hown hK hP 0 rfl rfl 1 (by decide) (hts _ kfX7_15) (fun _ h9 => h9) rfl dX7_append_1 ?_
  refine lv_sipush (v := 1200) hx hb dX7_append_4 (by decide) ?_
  refine lv_icmp_ge (tgt := 30) hx hb dX7_append_7 (by decide) (fun hc2 => ?_) (fun hc2 => ?_)
  · have hf := ifT hc2 hf
    exact hret _ (opE hf) H locs ls 30 dX7_append_30 hP hD hS
  · have hf := ifF hc2 hf
    refine lv_aload_n hx hb dX7_append_10 rfl (lv_at hl 0 rfl) ?_
    refine va_get (D := D) (ci := 8) (v := .ref a_p0_bytes) (C := RX7) (T := TX7) (N := 10) hx hb hts uwX7 hown hK hP 0 rfl rfl 0 (by decide) (hts _ kfX7_11) (fun _ h9 => h9) rfl dX7_append_11 ?_
    refine lv_aload_n hx hb dX7_append_14 rfl (lv_at hl 0 rfl) ?_
    refine va_get (D := D) (ci := 8) (v := .int p0_length) (C := RX7) (T := TX7) (N := 10) hx hb hts uwX7 hown hK hP 0 rfl rfl 1 (by decide) (hts _ kfX7_15) (fun _ h9 => h9) rfl dX7_append_15 ?_
    refine lv_iload_n hx hb dX7_append_18 rfl (lv_at hl 1 rfl) ?_
    obtain ⟨hi1, hf⟩ := gdE hf
    refine va_iast hx hb hK hP hD hS 1 0 rfl rfl hi1 dX7_append_19 (fun H locs hP hD hS => ?_)
    have hP : va_P D vwCl [(a_p0, .inr (8, [.ref a_p0_bytes, .int p0_length, .int p0_minus, .int p0_kind, .int p0_sixteens, .int p0_behindPoint, .int p0_counting, .int p0_power, .int p0_begin, .int p0_end])), (a_p0_bytes, .inl (cI, 1200, .inl (upd p0_bytes p0_length.toNatClampNeg p1)))] H := hP
    have hD : va_D A [(a_p0, .inr (8, [.ref a_p0_bytes, .int p0_length, .int p0_minus, .int p0_kind, .int p0_sixteens, .int p0_behindPoint, .int p0_counting, .int p0_power, .int p0_begin, .int p0_end])), (a_p0_bytes, .inl (cI, 1200, .inl (upd p0_bytes p0_length.toNatClampNeg p1)))] := hD
    refine lv_aload_n hx hb dX7_append_20 rfl (lv_at hl 0 rfl) ?_
    refine lv_dup hx hb dX7_append_21 rfl ?_
    refine va_get (D := D) (ci := 8) (v := .int p0_length) (C := RX7) (T := TX7) (N := 10) hx hb hts uwX7 hown hK hP 0 rfl rfl 1 (by decide) (hts _ kfX7_15) (fun _ h9 => h9) rfl dX7_append_22 ?_
    refine lv_iconst (v := 1) hx hb dX7_append_25 (by decide) ?_
    refine lv_iadd hx hb dX7_append_26 ?_
    refine va_put (D := D) (ci := 8) (v := .int (p0_length + (1 : Int32))) (ty := tyX7 1) (C := RX7) (T := TX7) (N := 10) hx hb hts uwX7 tyX7 tyX7_ok nmX7 hown hK hP hD hS 0 rfl rfl 1 (by decide) (hts _ kfX7_15) (fun _ h9 => h9) rfl (tyX7_ok 1 (by decide)) rfl rfl (Nat.le_of_ble_eq_true rfl) dX7_append_27 (fun H locs hP hD hS => ?_)
    have hP : va_P D vwCl [(a_p0, .inr (8, [.ref a_p0_bytes, .int (p0_length + (1 : Int32)), .int p0_minus, .int p0_kind, .int p0_sixteens, .int p0_behindPoint, .int p0_counting, .int p0_power, .int p0_begin, .int p0_end])), (a_p0_bytes, .inl (cI, 1200, .inl (upd p0_bytes p0_length.toNatClampNeg p1)))] H := hP
    have hD : va_D A [(a_p0, .inr (8, [.ref a_p0_bytes, .int (p0_length + (1 : Int32)), .int p0_minus, .int p0_kind, .int p0_sixteens, .int p0_behindPoint, .int p0_counting, .int p0_power, .int p0_begin, .int p0_end])), (a_p0_bytes, .inl (cI, 1200, .inl (upd p0_bytes p0_length.toNatClampNeg p1)))] := hD
    exact hret _ (opE hf) H locs ls 30 dX7_append_30 hP hD hS
set_option maxRecDepth 100000 in
set_option maxHeartbeats 4000000 in
theorem c_X7_hasRoomFor (l : Launch) (D : va_G) (cI cJ : ClassId) (a_p0 a_p0_bytes : Nat) (p1 : Int32) (p0_length : Int32) (p0_minus : Int32) (p0_kind : Int32) (p0_sixteens : Int32) (p0_behindPoint : Int32) (p0_counting : Int32) (p0_power : Int32) (p0_begin : Int32) (p0_end : Int32) (u : Int32) (hf : f_X7_hasRoomFor p0_length p1 = some u) : CtI l yX7_hasRoomFor cX7_hasRoomFor 2 0 0 .boolean [.ref a_p0, .int p1] D cI cJ [(a_p0, .inr (8, [.ref a_p0_bytes, .int p0_length, .int p0_minus, .int p0_kind, .int p0_sixteens, .int p0_behindPoint, .int p0_counting, .int p0_power, .int p0_begin, .int p0_end]))] [(a_p0, .inr (8, [.ref a_p0_bytes, .int p0_length, .int p0_minus, .int p0_kind, .int p0_sixteens, .int p0_behindPoint, .int p0_counting, .int p0_power, .int p0_begin, .int p0_end]))] u := by
  refine mkZ (own := RX7) rfl (by decide +kernel) (Nat.le_of_ble_eq_true rfl) (lv := [(0, .ref a_p0), (1, .int p1)]) rfl ?_
  intro p e s m below meth c Q A ls ar S hA hK hN hret H locs hP hD hS hl
  obtain ⟨hx, hb, hml, hown, hts⟩ := id S
  have hret : ∀ (w : Int32), w = u → ∀ (H : Heap) (locs : List Loc) (ls : Array Slot) (pc : Nat), decode cX7_hasRoomFor pc = .ok (.ireturn, 1) → (w = 0 ∨ w = 1) → va_P D vwCl [(a_p0, .inr (8, [.ref a_p0_bytes, .int p0_length, .int p0_minus, .int p0_kind, .int p0_sixteens, .int p0_behindPoint, .int p0_counting, .int p0_power, .int p0_begin, .int p0_end]))] H → va_D A [(a_p0, .inr (8, [.ref a_p0_bytes, .int p0_length, .int p0_minus, .int p0_kind, .int p0_sixteens, .int p0_behindPoint, .int p0_counting, .int p0_power, .int p0_begin, .int p0_end]))] → va_S A s.heap H locs → W p l e (rmz 0 0) s m ar below meth c H locs 0 0 Q (F0 m pc ls [.int w]) := fun w hw => hw ▸ hret
  unfold f_X7_hasRoomFor at hf
  refine lv_iload_n hx hb dX7_hasRoomFor_0 rfl (lv_at hl 1 rfl) ?_
  refine lv_sipush (v := 1200) hx hb dX7_hasRoomFor_1 (by decide) ?_
  refine lv_aload_n hx hb dX7_hasRoomFor_4 rfl (lv_at hl 0 rfl) ?_
  refine va_get (D := D) (ci := 8) (v := .int p0_length) (C := RX7) (T := TX7) (N := 10) hx hb hts uwX7 hown hK hP 0 rfl rfl 1 (by decide) (hts _ kfX7_15) (fun _ h9 => h9) rfl dX7_hasRoomFor_5 ?_
  refine lv_isub hx hb dX7_hasRoomFor_8 ?_
  refine lv_icmp_gt (tgt := 16) hx hb dX7_hasRoomFor_9 (by decide) (fun hc1 => ?_) (fun hc1 => ?_)
  · have hf := ifT hc1 hf
    refine lv_iconst (v := 0) hx hb dX7_hasRoomFor_16 (by decide) ?_
    exact hret _ (opE hf) H locs ls 17 dX7_hasRoomFor_17 (Or.inl rfl) hP hD hS
  · have hf := ifF hc1 hf
    refine lv_iconst (v := 1) hx hb dX7_hasRoomFor_12 (by decide) ?_
    refine lv_goto (tgt := 17) hx hb dX7_hasRoomFor_13 (by decide) ?_
    exact hret _ (opE hf) H locs ls 17 dX7_hasRoomFor_17 (Or.inr rfl) hP hD hS
set_option maxRecDepth 100000 in
set_option maxHeartbeats 4000000 in
theorem c_X9_feed (l : Launch) (hst : l.stackTraces = false) (D : va_G) (cI cJ : ClassId) (sa sv : Nat → Nat) (a_p0 a_p0_formats a_p0_patterns a_p0_first a_p0_second a_p0_third a_p0_tape a_p0_acts a_p0_sheet a_p0_forms a_p0_tape_bytes : Nat) (p1 : Int64) (p2 : Int32) (p0_tape_length : Int32) (p0_tape_minus : Int32) (p0_tape_kind : Int32) (p0_tape_sixteens : Int32) (p0_tape_behindPoint : Int32) (p0_tape_counting : Int32) (p0_tape_power : Int32) (p0_tape_begin : Int32) (p0_tape_end : Int32) (p0_tape_bytes : (Nat → Int32)) (u : (Nat × Int32 × (Nat → Int32)) ⊕ (Int32 × Int32 × (Nat → Int32))) (hf : f_X9_feed p1 p2 p0_tape_length p0_tape_bytes = some u) : CxI l yX9_feed cX9_feed 5 6 1 6 90 .int [.ref a_p0, .long p1, .int p2] D cI cJ sa sv [(a_p0, .inr (10, [.ref a_p0_formats, .ref a_p0_patterns, .ref a_p0_first, .ref a_p0_second, .ref a_p0_third, .ref a_p0_tape, .ref a_p0_acts, .ref a_p0_sheet, .ref a_p0_forms])), (a_p0_tape, .inr (8, [.ref a_p0_tape_bytes, .int p0_tape_length, .int p0_tape_minus, .int p0_tape_kind, .int p0_tape_sixteens, .int p0_tape_behindPoint, .int p0_tape_counting, .int p0_tape_power, .int p0_tape_begin, .int p0_tape_end])), (a_p0_tape_bytes, .inl (cI, 1200, .inl p0_tape_bytes))] (fun r w => ∃ y : Int32 × Int32 × (Nat → Int32), u = .inr y ∧ r = y.1 ∧ w = [(a_p0, .inr (10, [.ref a_p0_formats, .ref a_p0_patterns, .ref a_p0_first, .ref a_p0_second, .ref a_p0_third, .ref a_p0_tape, .ref a_p0_acts, .ref a_p0_sheet, .ref a_p0_forms])), (a_p0_tape, .inr (8, [.ref a_p0_tape_bytes, .int y.2.1, .int p0_tape_minus, .int p0_tape_kind, .int p0_tape_sixteens, .int p0_tape_behindPoint, .int p0_tape_counting, .int p0_tape_power, .int p0_tape_begin, .int p0_tape_end])), (a_p0_tape_bytes, .inl (cI, 1200, .inl y.2.2))]) (fun E w => ∃ x : Nat × Int32 × (Nat → Int32), u = .inl x ∧ E = exn x.1 ∧ w = [(a_p0, .inr (10, [.ref a_p0_formats, .ref a_p0_patterns, .ref a_p0_first, .ref a_p0_second, .ref a_p0_third, .ref a_p0_tape, .ref a_p0_acts, .ref a_p0_sheet, .ref a_p0_forms])), (a_p0_tape, .inr (8, [.ref a_p0_tape_bytes, .int x.2.1, .int p0_tape_minus, .int p0_tape_kind, .int p0_tape_sixteens, .int p0_tape_behindPoint, .int p0_tape_counting, .int p0_tape_power, .int p0_tape_begin, .int p0_tape_end])), (a_p0_tape_bytes, .inl (cI, 1200, .inl x.2.2))]) := by
  refine mkXI hst (own := RX9) rfl (by decide) (Nat.le_of_ble_eq_true rfl) (lv := [(0, .ref a_p0), (1, .long p1), (3, .int p2)]) rfl ?_
  intro p e s m below meth c Q A ls ar S hA hK hN hE hret hthr hnew H locs hP hD hS hl
  obtain ⟨hx, hb, hml, hown, hts⟩ := id S
  have keyB22 : ∀ (p0_tape_length : Int32) (p0_tape_bytes : (Nat → Int32)) (H : Heap) (locs : List Loc) (ls : Array Slot), f_X9_feed_B22 p0_tape_length p0_tape_bytes = some u → va_P D vwCl [(a_p0, .inr (10, [.ref a_p0_formats, .ref a_p0_patterns, .ref a_p0_first, .ref a_p0_second, .ref a_p0_third, .ref a_p0_tape, .ref a_p0_acts, .ref a_p0_sheet, .ref a_p0_forms])), (a_p0_tape, .inr (8, [.ref a_p0_tape_bytes, .int p0_tape_length, .int p0_tape_minus, .int p0_tape_kind, .int p0_tape_sixteens, .int p0_tape_behindPoint, .int p0_tape_counting, .int p0_tape_power, .int p0_tape_begin, .int p0_tape_end])), (a_p0_tape_bytes, .inl (cI, 1200, .inl p0_tape_bytes))] H → va_D A [(a_p0, .inr (10, [.ref a_p0_formats, .ref a_p0_patterns, .ref a_p0_first, .ref a_p0_second, .ref a_p0_third, .ref a_p0_tape, .ref a_p0_acts, .ref a_p0_sheet, .ref a_p0_forms])), (a_p0_tape, .inr (8, [.ref a_p0_tape_bytes, .int p0_tape_length, .int p0_tape_minus, .int p0_tape_kind, .int p0_tape_sixteens, .int p0_tape_behindPoint, .int p0_tape_counting, .int p0_tape_power, .int p0_tape_begin, .int p0_tape_end])), (a_p0_tape_bytes, .inl (cI, 1200, .inl p0_tape_bytes))] → va_S A s.heap H locs → lv_has ls 5 [] → W p l e (rmc 6 1 6 90) s m ar below meth c H locs 0 0 Q (F0 m 22 ls []) := by
    intro p0_tape_length p0_tape_bytes H locs ls hf hP hD hS hl
    unfold f_X9_feed_B22 at hf
    exact hnew _ _ 96 166 100 5 _ _ _ H locs ls 22 _ _ _ thrW2 rfl ⟨_, (opE hf).symm, rfl, rfl⟩ hl.1 dX9_feed_22 dX9_feed_25 dX9_feed_26 dX9_feed_28 dX9_feed_31 (by decide) (Nat.le_of_ble_eq_true rfl) (Nat.le_of_ble_eq_true rfl) (Nat.le_of_ble_eq_true rfl) hP hD hS
  have keyL35 : ∀ (n : Nat) (v1 : Int64) (v3 : Int32) (v4 : Int32) (p0_tape_length : Int32) (p0_tape_bytes : (Nat → Int32)) (H : Heap) (locs : List Loc) (ls : Array Slot), f_X9_feed_L35 n v1 v3 v4 p0_tape_length p0_tape_bytes = some u → va_P D vwCl [(a_p0, .inr (10, [.ref a_p0_formats, .ref a_p0_patterns, .ref a_p0_first, .ref a_p0_second, .ref a_p0_third, .ref a_p0_tape, .ref a_p0_acts, .ref a_p0_sheet, .ref a_p0_forms])), (a_p0_tape, .inr (8, [.ref a_p0_tape_bytes, .int p0_tape_length, .int p0_tape_minus, .int p0_tape_kind, .int p0_tape_sixteens, .int p0_tape_behindPoint, .int p0_tape_counting, .int p0_tape_power, .int p0_tape_begin, .int p0_tape_end])), (a_p0_tape_bytes, .inl (cI, 1200, .inl p0_tape_bytes))] H → va_D A [(a_p0, .inr (10, [.ref a_p0_formats, .ref a_p0_patterns, .ref a_p0_first, .ref a_p0_second, .ref a_p0_third, .ref a_p0_tape, .ref a_p0_acts, .ref a_p0_sheet, .ref a_p0_forms])), (a_p0_tape, .inr (8, [.ref a_p0_tape_bytes, .int p0_tape_length, .int p0_tape_minus, .int p0_tape_kind, .int p0_tape_sixteens, .int p0_tape_behindPoint, .int p0_tape_counting, .int p0_tape_power, .int p0_tape_begin, .int p0_tape_end])), (a_p0_tape_bytes, .inl (cI, 1200, .inl p0_tape_bytes))] → va_S A s.heap H locs → lv_has ls 5 [(0, .ref a_p0), (1, .long v1), (3, .int v3), (4, .int v4)] → W p l e (rmc 6 1 6 90) s m ar below meth c H locs 0 0 Q (F0 m 35 ls []) := by
    intro n
    induction n with
      | zero =>
        intro v1 v3 v4 p0_tape_length p0_tape_bytes H locs ls hf
        cases hf
      | succ n ih =>
        intro v1 v3 v4 p0_tape_length p0_tape_bytes H locs ls hf hP hD hS hl
        rw [f_X9_feed_L35] at hf
        refine lv_iload hx hb dX9_feed_35 (lv_at hl 3 rfl) ?_
        refine lv_iload_n hx hb dX9_feed_37 rfl (lv_at hl 2 rfl) ?_
        refine lv_icmp_ge (tgt := 66) hx hb dX9_feed_38 (by decide) (fun hc5 => ?_) (fun hc5 => ?_)
        · have hf := ifT hc5 hf
          refine lv_aload_n hx hb dX9_feed_66 rfl (lv_at hl 0 rfl) ?_
          refine va_get (D := D) (ci := 10) (v := .ref a_p0_tape) (C := RX9) (T := TX9) (N := 9) hx hb hts uwX9 hown hK hP 0 rfl rfl 5 (by decide) (hts _ kfX9_33) (fun _ h9 => h9) rfl dX9_feed_67 ?_
          refine va_get (D := D) (ci := 8) (v := .int p0_tape_length) (C := RX7) (T := TX7) (N := 10) hx hb hts uwX7 hown hK hP 1 rfl rfl 1 (by decide) (hts _ kfX9_171) (fun _ h9 => h9) rfl dX9_feed_70 ?_
          exact hret _ _ H locs ls 73 _ _ ⟨_, (opE hf).symm, rfl, rfl⟩ (Nat.le_of_ble_eq_true rfl) (Nat.le_of_ble_eq_true rfl) dX9_feed_73 hP hD hS
        · have hf := ifF hc5 hf
          refine lv_aload_n hx hb dX9_feed_41 rfl (lv_at hl 0 rfl) ?_
          refine va_get (D := D) (ci := 10) (v := .ref a_p0_tape) (C := RX9) (T := TX9) (N := 9) hx hb hts uwX9 hown hK hP 0 rfl rfl 5 (by decide) (hts _ kfX9_33) (fun _ h9 => h9) rfl dX9_feed_42 ?_
          refine lv_lload_n hx hb dX9_feed_45 rfl (lv_at hl 1 rfl) ?_
          refine lv_bipush (v := 8) hx hb dX9_feed_46 (by decide) ?_
          refine lv_iload hx hb dX9_feed_48 (lv_at hl 3 rfl) ?_
          refine lv_imul hx hb dX9_feed_50 ?_
          refine lv_lushr (v := lus v1 ((8 : Int32) * v4)) hx hb dX9_feed_51 rfl ?_
          refine lv_l2i (v := (lus v1 ((8 : Int32) * v4)).toInt32) hx hb dX9_feed_52 rfl ?_
          refine lv_sipush (v := 255) hx hb dX9_feed_53 (by decide) ?_
          refine lv_iand hx hb dX9_feed_56 ?_
          obtain ⟨u3, hu4, hf⟩ := bdE hf
          refine cV_V (ws' := [(a_p0, .inr (10, [.ref a_p0_formats, .ref a_p0_patterns, .ref a_p0_first, .ref a_p0_second, .ref a_p0_third, .ref a_p0_tape, .ref a_p0_acts, .ref a_p0_sheet, .ref a_p0_forms])), (a_p0_tape, .inr (8, [.ref a_p0_tape_bytes, .int u3.1, .int p0_tape_minus, .int p0_tape_kind, .int p0_tape_sixteens, .int p0_tape_behindPoint, .int p0_tape_counting, .int p0_tape_power, .int p0_tape_begin, .int p0_tape_end])), (a_p0_tape_bytes, .inl (cI, 1200, .inl u3.2))]) (rest := []) S hK hN hA hP hD hS (c_X7_append l D cI cJ a_p0_tape a_p0_tape_bytes (((lus v1 ((8 : Int32) * v4)).toInt32) &&& (255 : Int32)) p0_tape_length p0_tape_minus p0_tape_kind p0_tape_sixteens p0_tape_behindPoint p0_tape_counting p0_tape_power p0_tape_begin p0_tape_end p0_tape_bytes u3 hu4) mwX7_append miX7_append kmX9_168 [1, 2] rfl (by decide) rfl rfl rfl 0 rfl rfl ⟨Nat.le_of_ble_eq_true rfl, Nat.le_of_ble_eq_true rfl⟩ ⟨Nat.le_of_ble_eq_true rfl, Nat.le_of_ble_eq_true rfl⟩ hl.1 rfl rfl (Nat.le_of_ble_eq_true rfl) dX9_feed_57 (fun H locs hP hD hS => ?_)
          refine lv_iinc (v := v4 + (1 : Int32)) (lv' := [(4, .int (v4 + (1 : Int32))), (0, .ref a_p0), (1, .long v1), (3, .int v3)]) hx hb dX9_feed_60 hl (k := 3) rfl (by rfl) (by decide) rfl (fun ls hl => ?_)
          refine lv_goto (tgt := 35) hx hb dX9_feed_63 (by decide) ?_
          refine W.widen (k := 0) (n := 0) (Nat.le_of_ble_eq_true rfl) (Nat.le_of_ble_eq_true rfl) ?_
          exact ih v1 v3 (v4 + (1 : Int32)) u3.1 u3.2 H locs ls hf hP hD hS (lv_sub hl [1, 2, 3, 0] rfl)
  unfold f_X9_feed at hf
  refine lv_iload_n hx hb dX9_feed_0 rfl (lv_at hl 2 rfl) ?_
  refine lv_iconst (v := 1) hx hb dX9_feed_1 (by decide) ?_
  refine lv_icmp_lt (tgt := 22) hx hb dX9_feed_2 (by decide) (fun hc8 => ?_) (fun hc8 => ?_)
  · have hf := ifT hc8 hf
    refine W.widen (k := 0) (n := 0) (Nat.le_of_ble_eq_true rfl) (Nat.le_of_ble_eq_true rfl) ?_
    exact keyB22 p0_tape_length p0_tape_bytes H locs ls hf hP hD hS (lv_sub hl [] rfl)
  · have hf := ifF hc8 hf
    refine lv_iload_n hx hb dX9_feed_5 rfl (lv_at hl 2 rfl) ?_
    refine lv_bipush (v := 8) hx hb dX9_feed_6 (by decide) ?_
    refine lv_icmp_gt (tgt := 22) hx hb dX9_feed_8 (by decide) (fun hc7 => ?_) (fun hc7 => ?_)
    · have hf := ifT hc7 hf
      refine W.widen (k := 0) (n := 0) (Nat.le_of_ble_eq_true rfl) (Nat.le_of_ble_eq_true rfl) ?_
      exact keyB22 p0_tape_length p0_tape_bytes H locs ls hf hP hD hS (lv_sub hl [] rfl)
    · have hf := ifF hc7 hf
      refine lv_aload_n hx hb dX9_feed_11 rfl (lv_at hl 0 rfl) ?_
      refine va_get (D := D) (ci := 10) (v := .ref a_p0_tape) (C := RX9) (T := TX9) (N := 9) hx hb hts uwX9 hown hK hP 0 rfl rfl 5 (by decide) (hts _ kfX9_33) (fun _ h9 => h9) rfl dX9_feed_12 ?_
      refine lv_iload_n hx hb dX9_feed_15 rfl (lv_at hl 2 rfl) ?_
      obtain ⟨u1, hu2, hf⟩ := bdE hf
      refine cV_I (ws' := [(a_p0, .inr (10, [.ref a_p0_formats, .ref a_p0_patterns, .ref a_p0_first, .ref a_p0_second, .ref a_p0_third, .ref a_p0_tape, .ref a_p0_acts, .ref a_p0_sheet, .ref a_p0_forms])), (a_p0_tape, .inr (8, [.ref a_p0_tape_bytes, .int p0_tape_length, .int p0_tape_minus, .int p0_tape_kind, .int p0_tape_sixteens, .int p0_tape_behindPoint, .int p0_tape_counting, .int p0_tape_power, .int p0_tape_begin, .int p0_tape_end])), (a_p0_tape_bytes, .inl (cI, 1200, .inl p0_tape_bytes))]) (rest := []) S hK hN hA hP hD hS (c_X7_hasRoomFor l D cI cJ a_p0_tape a_p0_tape_bytes p2 p0_tape_length p0_tape_minus p0_tape_kind p0_tape_sixteens p0_tape_behindPoint p0_tape_counting p0_tape_power p0_tape_begin p0_tape_end u1 hu2) mwX7_hasRoomFor miX7_hasRoomFor kmX9_162 [1] rfl (by decide) rfl rfl rfl 0 rfl rfl ⟨Nat.le_of_ble_eq_true rfl, Nat.le_of_ble_eq_true rfl⟩ ⟨Nat.le_of_ble_eq_true rfl, Nat.le_of_ble_eq_true rfl⟩ hl.1 rfl rfl (Nat.le_of_ble_eq_true rfl) dX9_feed_16 (fun H locs hP hD hS => ?_)
      refine lv_if_ne (tgt := 32) hx hb dX9_feed_19 (by decide) (fun hc6 => ?_) (fun hc6 => ?_)
      · have hf := ifF hc6 hf
        refine lv_iconst (v := 0) hx hb dX9_feed_32 (by decide) ?_
        refine lv_istore (lv' := [(4, .int (0 : Int32)), (0, .ref a_p0), (1, .long p1), (3, .int p2)]) hx hb dX9_feed_33 hl (by decide) rfl (fun ls hl => ?_)
        refine W.widen (k := 0) (n := 0) (Nat.le_of_ble_eq_true rfl) (Nat.le_of_ble_eq_true rfl) ?_
        exact keyL35 FU p1 p2 (0 : Int32) p0_tape_length p0_tape_bytes H locs ls hf hP hD hS (lv_sub hl [1, 2, 3, 0] rfl)
      · have hf := ifT hc6 hf
        refine W.widen (k := 0) (n := 0) (Nat.le_of_ble_eq_true rfl) (Nat.le_of_ble_eq_true rfl) ?_
        exact keyB22 p0_tape_length p0_tape_bytes H locs ls hf hP hD hS (lv_sub hl [] rfl)
