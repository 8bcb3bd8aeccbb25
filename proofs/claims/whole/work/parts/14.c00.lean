set_option maxRecDepth 100000 in
set_option maxHeartbeats 4000000 in
theorem c_X9_needPlace (l : Launch) (hst : l.stackTraces = false) (D : va_G) (cI cJ : ClassId) (sa sv : Nat → Nat) (p0 : Int32)  (u : (Nat) ⊕ (Unit)) (hf : f_X9_needPlace p0 = some u) : CxV l yX9_needPlace cX9_needPlace 1 6 1 6 90 [.int p0] D cI cJ sa sv [] (fun w => ∃ y : Unit, u = .inr y ∧ w = []) (fun E w => ∃ x : Nat, u = .inl x ∧ E = exn x ∧ w = []) := by
  refine mkXV hst (own := RX9) rfl (by decide) (Nat.le_of_ble_eq_true rfl) (lv := [(0, .int p0)]) rfl ?_
  intro p e s m below meth c Q A ls ar S hA hK hN hE hret hthr hnew H locs hP hD hS hl
  obtain ⟨hx, hb, hml, hown, hts⟩ := id S
  have keyB10 : ∀  (H : Heap) (locs : List Loc) (ls : Array Slot), f_X9_needPlace_B10  = some u → va_P D vwCl [] H → va_D A [] → va_S A s.heap H locs → lv_has ls 1 [] → W p l e (rmc 6 1 6 90) s m ar below meth c H locs 0 0 Q (F0 m 10 ls []) := by
    intro  H locs ls hf hP hD hS hl
    unfold f_X9_needPlace_B10 at hf
    exact hnew _ _ 198 200 202 0 _ _ _ H locs ls 10 _ _ _ thrW1 rfl ⟨_, (opE hf).symm, rfl, rfl⟩ hl.1 dX9_needPlace_10 dX9_needPlace_13 dX9_needPlace_14 dX9_needPlace_16 dX9_needPlace_19 (by decide) (Nat.le_of_ble_eq_true rfl) (Nat.le_of_ble_eq_true rfl) (Nat.le_of_ble_eq_true rfl) hP hD hS
  unfold f_X9_needPlace at hf
  refine lv_iload_n hx hb dX9_needPlace_0 rfl (lv_at hl 0 rfl) ?_
  refine lv_if_lt (tgt := 10) hx hb dX9_needPlace_1 (by decide) (fun hc2 => ?_) (fun hc2 => ?_)
  · have hf := ifT hc2 hf
    refine W.widen (k := 0) (n := 0) (Nat.le_of_ble_eq_true rfl) (Nat.le_of_ble_eq_true rfl) ?_
    exact keyB10  H locs ls hf hP hD hS (lv_sub hl [] rfl)
  · have hf := ifF hc2 hf
    refine lv_iload_n hx hb dX9_needPlace_4 rfl (lv_at hl 0 rfl) ?_
    refine lv_bipush (v := 16) hx hb dX9_needPlace_5 (by decide) ?_
    refine lv_icmp_lt (tgt := 20) hx hb dX9_needPlace_7 (by decide) (fun hc1 => ?_) (fun hc1 => ?_)
    · have hf := ifT hc1 hf
      exact hret _ H locs ls 20 _ _ ⟨_, (opE hf).symm, rfl⟩ (Nat.le_of_ble_eq_true rfl) (Nat.le_of_ble_eq_true rfl) dX9_needPlace_20 hP hD hS
    · have hf := ifF hc1 hf
      refine W.widen (k := 0) (n := 0) (Nat.le_of_ble_eq_true rfl) (Nat.le_of_ble_eq_true rfl) ?_
      exact keyB10  H locs ls hf hP hD hS (lv_sub hl [] rfl)
