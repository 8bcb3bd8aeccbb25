/-! the law's loop -/
theorem ofN_uI (L : Nat) : Int32.ofNat L = uI L := by
  apply Int32.toBitVec_inj.mp
  rw [iI_ofNat]
  rfl
theorem vp_u {a n : Nat} (h : a < n) (hn : n < 2147483648) : vp_in (uI a) n := by
  intro hh
  rcases hh with hh | hh
  · exact uI_nneg (by omega) hh
  · rw [uI_clamp (by omega)] at hh; omega
theorem tsw19 {x : Int32} (h0 : ¬ x = 0) (h1 : ¬ x = 1) (h2 : ¬ x = 2) (h3 : ¬ x = 3) (h4 : ¬ x = 4) (h5 : ¬ x = 5) (h6 : ¬ x = 6) (h7 : ¬ x = 7) (h8 : ¬ x = 8) (h9 : ¬ x = 9) (h10 : ¬ x = 10) (h11 : ¬ x = 11) (h12 : ¬ x = 12) (h13 : ¬ x = 13) (h14 : ¬ x = 14) (h15 : ¬ x = 15) (h16 : ¬ x = 16) (h17 : ¬ x = 17) (h18 : ¬ x = 18) : x.toInt < 0 ∨ 18 < x.toInt := by
  have a0 : x.toInt ≠ 0 := fun e => h0 (Int32.toInt_inj.mp (e.trans (by decide)))
  have a1 : x.toInt ≠ 1 := fun e => h1 (Int32.toInt_inj.mp (e.trans (by decide)))
  have a2 : x.toInt ≠ 2 := fun e => h2 (Int32.toInt_inj.mp (e.trans (by decide)))
  have a3 : x.toInt ≠ 3 := fun e => h3 (Int32.toInt_inj.mp (e.trans (by decide)))
  have a4 : x.toInt ≠ 4 := fun e => h4 (Int32.toInt_inj.mp (e.trans (by decide)))
  have a5 : x.toInt ≠ 5 := fun e => h5 (Int32.toInt_inj.mp (e.trans (by decide)))
  have a6 : x.toInt ≠ 6 := fun e => h6 (Int32.toInt_inj.mp (e.trans (by decide)))
  have a7 : x.toInt ≠ 7 := fun e => h7 (Int32.toInt_inj.mp (e.trans (by decide)))
  have a8 : x.toInt ≠ 8 := fun e => h8 (Int32.toInt_inj.mp (e.trans (by decide)))
  have a9 : x.toInt ≠ 9 := fun e => h9 (Int32.toInt_inj.mp (e.trans (by decide)))
  have a10 : x.toInt ≠ 10 := fun e => h10 (Int32.toInt_inj.mp (e.trans (by decide)))
  have a11 : x.toInt ≠ 11 := fun e => h11 (Int32.toInt_inj.mp (e.trans (by decide)))
  have a12 : x.toInt ≠ 12 := fun e => h12 (Int32.toInt_inj.mp (e.trans (by decide)))
  have a13 : x.toInt ≠ 13 := fun e => h13 (Int32.toInt_inj.mp (e.trans (by decide)))
  have a14 : x.toInt ≠ 14 := fun e => h14 (Int32.toInt_inj.mp (e.trans (by decide)))
  have a15 : x.toInt ≠ 15 := fun e => h15 (Int32.toInt_inj.mp (e.trans (by decide)))
  have a16 : x.toInt ≠ 16 := fun e => h16 (Int32.toInt_inj.mp (e.trans (by decide)))
  have a17 : x.toInt ≠ 17 := fun e => h17 (Int32.toInt_inj.mp (e.trans (by decide)))
  have a18 : x.toInt ≠ 18 := fun e => h18 (Int32.toInt_inj.mp (e.trans (by decide)))
  omega
set_option maxHeartbeats 4000000 in
theorem law_loop {p : Program} {l : Launch} {e : Env} {s : State} {m : MethodId} {ar : Array Value} {below : List Frame} {meth : Method} {c : Code} {Q : State → Prop} {D : va_G} {cI cJ : ClassId} {sa sv : Nat → Nat} {A : Nat → Prop} {ad : Nat → Nat} {b L : Nat} {xs : Nat → Int32} (hC : LC l D cI cJ sa sv A p m c s ar b L xs) (hL : L ≤ 3072)
    (hend : ∀ (H : Heap) (locs : List Loc) (ls : Array Slot) (cells slots : Nat), cells ≤ 3132 → slots ≤ 132442 → va_S A s.heap H locs → W p l e room_1 s m ar below meth c H locs cells slots Q (F0 m 1500 ls [])) :
    ∀ (k j : Nat) (H : Heap) (locs : List Loc) (ls : Array Slot), j + k = 513 → 6 * j ≤ L → LAt D cI cJ ad A H → va_S A s.heap H locs → lv_has ls 8 [(0, .ref b), (1, .ref (ad 0)), (2, .ref (ad 23)), (3, .ref (ad 51)), (4, .int (uI (6 * j)))] → W p l e room_1 s m ar below meth c H locs (52 + 4 * j) (13610 + 24 * j) Q (F0 m 23 ls []) := by
  intro k
  induction k with
  | zero => intro j H locs ls hk hj; omega
  | succ k ih =>
    intro j H locs ls hk hj hI hS hl
    obtain ⟨hst, S, hK, hN, hE, hNC, hA, hX, hbl, hbA⟩ := id hC
    obtain ⟨hx, hb, hml, hown, hts⟩ := id S
    refine lv_iload hx hb dL_law_23 (lv_at hl 4 rfl) ?_
    refine lv_aload_n hx hb dL_law_25 rfl (lv_at hl 0 rfl) ?_
    refine va_slen hx hb hX hbl hbA hS dL_law_26 ?_
    refine lv_bipush (v := 6) hx hb dL_law_27 (by decide) ?_
    refine lv_isub hx hb dL_law_29 ?_
    refine lv_icmp_gt (tgt := 1500) hx hb dL_law_30 (by decide) (fun hc => ?_) (fun hc => ?_)
    · exact hend H locs ls _ _ (by omega) (by omega) hS
    · have hj6 : 6 * j + 6 ≤ L := by
        apply Nat.le_of_not_lt
        intro hlt
        apply hc
        rw [ofN_uI, show (6 : Int32) = iI 6 from rfl, iI_sub]
        exact (iI_lt (by omega) (by omega) (by omega) (by omega)).mpr (by omega)
      have hi0 : vp_in (uI (6 * j)) L := vp_u (by omega) (by omega)
      have hin : ∀ k : Int32, k = 1 ∨ k = 2 ∨ k = 3 ∨ k = 4 ∨ k = 5 → vp_in (uI (6 * j) + k) L := by
        intro k hk
        rcases hk with rfl | rfl | rfl | rfl | rfl
        · rw [show uI (6 * j) + 1 = uI (6 * j + 1) from uI_add _ 1]; exact vp_u (by omega) (by omega)
        · rw [show uI (6 * j) + 2 = uI (6 * j + 2) from uI_add _ 2]; exact vp_u (by omega) (by omega)
        · rw [show uI (6 * j) + 3 = uI (6 * j + 3) from uI_add _ 3]; exact vp_u (by omega) (by omega)
        · rw [show uI (6 * j) + 4 = uI (6 * j + 4) from uI_add _ 4]; exact vp_u (by omega) (by omega)
        · rw [show uI (6 * j) + 5 = uI (6 * j + 5) from uI_add _ 5]; exact vp_u (by omega) (by omega)
      have kk : ∀ (H : Heap) (locs : List Loc) (ls : Array Slot), LAt D cI cJ ad A H → va_S A s.heap H locs → lv_has ls 8 [(0, .ref b), (1, .ref (ad 0)), (2, .ref (ad 23)), (3, .ref (ad 51)), (4, .int (uI (6 * j)))] → W p l e room_1 s m ar below meth c H locs (52 + 4 * j + 4) (13610 + 24 * j + 24) Q (F0 m 1494 ls []) := by
        intro H locs ls hI hS hl
        refine lv_iinc (v := uI (6 * (j + 1))) (lv' := [(4, .int (uI (6 * (j + 1)))), (0, .ref b), (1, .ref (ad 0)), (2, .ref (ad 23)), (3, .ref (ad 51))]) hx hb dL_law_1494 hl (k := 4) rfl (by rw [show Int32.ofInt 6 = uI 6 from rfl, uI_add]; exact congrArg uI (by omega)) (by decide) rfl (fun ls hl => ?_)
        refine lv_goto (tgt := 23) hx hb dL_law_1497 (by decide) ?_
        exact ih (j + 1) H locs ls (by omega) (by omega) hI hS (lv_sub hl [1, 2, 3, 4, 0] rfl)
      refine lv_aload_n hx hb dL_law_33 rfl (lv_at hl 0 rfl) ?_
      refine lv_iload hx hb dL_law_34 (lv_at hl 4 rfl) ?_
      refine va_sld hx hb hX hbl hbA hS hi0 dL_law_36 ?_
      refine lv_bipush (v := 31) hx hb dL_law_37 (by decide) ?_
      refine lv_iand hx hb dL_law_39 ?_
      generalize (xs (uI (6 * j)).toNatClampNeg &&& (31 : Int32)) = v9
      by_cases h0 : v9 = 0
      · refine lv_tableIn (tgt := 132) hx hb dL_law_40 (by rw [h0]; decide) (by rw [h0]; decide) (by rw [h0]; rfl) (by decide) ?_
        exact lc_set hC hin (by omega) (by omega) hI hS hl kk
      by_cases h1 : v9 = 1
      · refine lv_tableIn (tgt := 224) hx hb dL_law_40 (by rw [h1]; decide) (by rw [h1]; decide) (by rw [h1]; rfl) (by decide) ?_
        exact lc_pattern hC hin (by omega) (by omega) hI hS hl kk
      by_cases h2 : v9 = 2
      · refine lv_tableIn (tgt := 279) hx hb dL_law_40 (by rw [h2]; decide) (by rw [h2]; decide) (by rw [h2]; rfl) (by decide) ?_
        exact lc_told hC hin (by omega) (by omega) hI hS hl kk
      by_cases h3 : v9 = 3
      · refine lv_tableIn (tgt := 347) hx hb dL_law_40 (by rw [h3]; decide) (by rw [h3]; decide) (by rw [h3]; rfl) (by decide) ?_
        exact lc_whole hC hin (by omega) (by omega) hI hS hl kk
      by_cases h4 : v9 = 4
      · refine lv_tableIn (tgt := 402) hx hb dL_law_40 (by rw [h4]; decide) (by rw [h4]; decide) (by rw [h4]; rfl) (by decide) ?_
        exact lc_convert hC hin (by omega) (by omega) hI hS hl kk
      by_cases h5 : v9 = 5
      · refine lv_tableIn (tgt := 474) hx hb dL_law_40 (by rw [h5]; decide) (by rw [h5]; decide) (by rw [h5]; rfl) (by decide) ?_
        exact lc_from hC hin (by omega) (by omega) hI hS hl kk
      by_cases h6 : v9 = 6
      · refine lv_tableIn (tgt := 578) hx hb dL_law_40 (by rw [h6]; decide) (by rw [h6]; decide) (by rw [h6]; rfl) (by decide) ?_
        exact lc_to hC hin (by omega) (by omega) hI hS hl kk
      by_cases h7 : v9 = 7
      · refine lv_tableIn (tgt := 645) hx hb dL_law_40 (by rw [h7]; decide) (by rw [h7]; decide) (by rw [h7]; rfl) (by decide) ?_
        exact lc_order hC hin (by omega) (by omega) hI hS hl kk
      by_cases h8 : v9 = 8
      · refine lv_tableIn (tgt := 713) hx hb dL_law_40 (by rw [h8]; decide) (by rw [h8]; decide) (by rw [h8]; rfl) (by decide) ?_
        exact lc_step hC hin (by omega) (by omega) hI hS hl kk
      by_cases h9 : v9 = 9
      · refine lv_tableIn (tgt := 777) hx hb dL_law_40 (by rw [h9]; decide) (by rw [h9]; decide) (by rw [h9]; rfl) (by decide) ?_
        exact lc_add hC hin (by omega) (by omega) hI hS hl kk
      by_cases h10 : v9 = 10
      · refine lv_tableIn (tgt := 849) hx hb dL_law_40 (by rw [h10]; decide) (by rw [h10]; decide) (by rw [h10]; rfl) (by decide) ?_
        exact lc_less hC hin (by omega) (by omega) hI hS hl kk
      by_cases h11 : v9 = 11
      · refine lv_tableIn (tgt := 921) hx hb dL_law_40 (by rw [h11]; decide) (by rw [h11]; decide) (by rw [h11]; rfl) (by decide) ?_
        exact lc_times hC hin (by omega) (by omega) hI hS hl kk
      by_cases h12 : v9 = 12
      · refine lv_tableIn (tgt := 993) hx hb dL_law_40 (by rw [h12]; decide) (by rw [h12]; decide) (by rw [h12]; rfl) (by decide) ?_
        exact lc_over hC hin (by omega) (by omega) hI hS hl kk
      by_cases h13 : v9 = 13
      · refine lv_tableIn (tgt := 1065) hx hb dL_law_40 (by rw [h13]; decide) (by rw [h13]; decide) (by rw [h13]; rfl) (by decide) ?_
        exact lc_fused hC hin (by omega) (by omega) hI hS hl kk
      by_cases h14 : v9 = 14
      · refine lv_tableIn (tgt := 1137) hx hb dL_law_40 (by rw [h14]; decide) (by rw [h14]; decide) (by rw [h14]; rfl) (by decide) ?_
        exact lc_root hC hin (by omega) (by omega) hI hS hl kk
      by_cases h15 : v9 = 15
      · refine lv_tableIn (tgt := 1197) hx hb dL_law_40 (by rw [h15]; decide) (by rw [h15]; decide) (by rw [h15]; rfl) (by decide) ?_
        exact lc_feed hC hin (by omega) (by omega) hI hS hl kk
      by_cases h16 : v9 = 16
      · refine lv_tableIn (tgt := 1297) hx hb dL_law_40 (by rw [h16]; decide) (by rw [h16]; decide) (by rw [h16]; rfl) (by decide) ?_
        exact lc_read hC hin (by omega) (by omega) hI hS hl kk
      by_cases h17 : v9 = 17
      · refine lv_tableIn (tgt := 1377) hx hb dL_law_40 (by rw [h17]; decide) (by rw [h17]; decide) (by rw [h17]; rfl) (by decide) ?_
        exact lc_write hC hin (by omega) (by omega) hI hS hl kk
      by_cases h18 : v9 = 18
      · refine lv_tableIn (tgt := 1469) hx hb dL_law_40 (by rw [h18]; decide) (by rw [h18]; decide) (by rw [h18]; rfl) (by decide) ?_
        exact lc_letter hC hin (by omega) (by omega) hI hS hl kk
      refine lv_tableOut (tgt := 1494) hx hb dL_law_40 (tsw19 h0 h1 h2 h3 h4 h5 h6 h7 h8 h9 h10 h11 h12 h13 h14 h15 h16 h17 h18) (by decide) ?_
      refine W.widen (k := 52 + 4 * j + 4) (n := 13610 + 24 * j + 24) (by omega) (by omega) ?_
      exact kk H locs ls hI hS hl
