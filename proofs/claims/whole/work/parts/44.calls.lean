/-! the calls, class and reference -/
theorem k_set {F : Nat → Int32} {G : Nat → Int64} (h : wfp F G) (p1 : Int32) (p2 : Int32) (p3 : Int64) (r_thrown : Int32) :
    (∃ n, (n = 1 ∨ n = 2) ∧ f_X9_set p1 p2 p3 F G = some (.inl (n, F, G)) ∧ f_X11_set p1 p2 p3 r_thrown F G = some (uI n, F, G)) ∨
    (∃ F' G', wfp F' G' ∧ f_X9_set p1 p2 p3 F G = some (.inr (F', G')) ∧ f_X11_set p1 p2 p3 r_thrown F G = some (0, F', G')) := by
  rcases pl_cases p1 with ⟨n, hn, rfl, a1, a2⟩ | ⟨a1, a2⟩
  · rcases fm_cases p2 with ⟨f, hf, rfl, b1, b2⟩ | ⟨b1, b2⟩
    · right
      obtain ⟨u, hu, rfl⟩ := L_of p3
      have hgo : ∀ P, isP f P → (uL P = if uI f = 0 then uL u &&& (4294967295 : Int64) else uL u) → ∃ F' G', wfp F' G' ∧ f_X9_set (uI n) (uI f) (uL u) F G = some (.inr (F', G')) ∧ f_X11_set (uI n) (uI f) (uL u) r_thrown F G = some (0, F', G') := by
        intro P hP e
        refine ⟨_, _, wfp_upd (r := n) h hf hP, ?_, ?_⟩
        · unfold f_X9_set f_X9_set_B24
          simp only [a1, b1, Option.bind_some, sm, Sum.elim_inl, Sum.elim_inr, i00, i10, i20, if_true, if_false, go0, go10, go11, x9_put hn]
          by_cases h0 : uI f = 0
          · rw [if_pos h0] at e ⊢; rw [e]
          · rw [if_neg h0] at e ⊢; rw [e]
        · unfold f_X11_set
          simp only [a2, b2, Option.bind_some, sm, Sum.elim_inl, Sum.elim_inr, i00, i10, i20, if_true, if_false, go0, go10, go11, if_pos (vIn16 hn), uI_clamp (show n < 2147483648 by omega)]
          by_cases h0 : uI f = 0
          · rw [if_pos h0] at e ⊢; rw [e]
          · rw [if_neg h0] at e ⊢; rw [e]
      rcases f_cases hf with rfl | rfl
      · exact hgo (u % 4294967296) (isP_float (by omega)) (by rw [if_pos (by decide), uL_mask32])
      · exact hgo u (isP_double hu) (by rw [if_neg (by decide)])
    · left
      refine ⟨2, Or.inr rfl, ?_, ?_⟩
      · unfold f_X9_set; simp only [a1, b1, Option.bind_some, sm, Sum.elim_inl, Sum.elim_inr, i00, i10, i20, if_true, if_false, go0, go10, go11]
      · unfold f_X11_set; simp only [a2, b2, Option.bind_some, sm, Sum.elim_inl, Sum.elim_inr, i00, i10, i20, if_true, if_false, go0, go10, go11]; rfl
  · left
    refine ⟨1, Or.inl rfl, ?_, ?_⟩
    · unfold f_X9_set; simp only [a1, Option.bind_some, sm, Sum.elim_inl, Sum.elim_inr, i00, i10, i20, if_true, if_false, go0, go10, go11]
    · unfold f_X11_set
      rcases fm_cases p2 with ⟨f, hf, rfl, b1, b2⟩ | ⟨b1, b2⟩
      · simp only [a2, b2, Option.bind_some, sm, Sum.elim_inl, Sum.elim_inr, i00, i10, i20, if_true, if_false, go0, go10, go11]; rfl
      · simp only [a2, b2, Option.bind_some, sm, Sum.elim_inl, Sum.elim_inr, i00, i10, i20, if_true, if_false, go0, go10, go11]; rfl
theorem k_pattern {F : Nat → Int32} {G : Nat → Int64} (h : wfp F G) (p1 : Int32) (r_thrown : Int32) :
    (f_X9_pattern G p1 = some (.inl 1) ∧ f_X11_pattern G p1 r_thrown = some (0, 1)) ∨
    (∃ v, f_X9_pattern G p1 = some (.inr v) ∧ f_X11_pattern G p1 r_thrown = some (v, 0)) := by
  rcases pl_cases p1 with ⟨n, hn, rfl, a1, a2⟩ | ⟨a1, a2⟩
  · right
    refine ⟨G n, ?_, ?_⟩
    · unfold f_X9_pattern; simp only [a1, Option.bind_some, sm, Sum.elim_inl, Sum.elim_inr, i00, i10, i20, if_true, if_false, go0, go10, go11, if_pos (vIn16 hn), uI_clamp (show n < 2147483648 by omega)]
    · unfold f_X11_pattern; simp only [a2, Option.bind_some, sm, Sum.elim_inl, Sum.elim_inr, i00, i10, i20, if_true, if_false, go0, go10, go11, if_pos (vIn16 hn), uI_clamp (show n < 2147483648 by omega)]
  · left
    refine ⟨?_, ?_⟩
    · unfold f_X9_pattern; simp only [a1, Option.bind_some, sm, Sum.elim_inl, Sum.elim_inr, i00, i10, i20, if_true, if_false, go0, go10, go11]
    · unfold f_X11_pattern; simp only [a2, Option.bind_some, sm, Sum.elim_inl, Sum.elim_inr, i00, i10, i20, if_true, if_false, go0, go10, go11]
theorem k_whole {F : Nat → Int32} {G : Nat → Int64} (h : wfp F G) (p1 : Int32) (c_first_kind : Int32) (c_first_minus : Int32) (c_first_m : Int64) (c_first_e : Int32) (c_first_narrowBelow : Int32) (r_kind : Int32) (r_minus : Int32) (r_m : Int64) (r_e : Int32) (r_thrown : Int32) :
    ((∃ x, f_X9_whole F G p1 c_first_kind c_first_minus c_first_m c_first_e c_first_narrowBelow = some (.inl (1, x))) ∧ (∃ v k m l e, f_X11_whole F G p1 r_kind r_minus r_m r_e r_thrown = some (v, k, m, l, e, 1))) ∨
    (∃ v, (∃ x, f_X9_whole F G p1 c_first_kind c_first_minus c_first_m c_first_e c_first_narrowBelow = some (.inr (v, x))) ∧ (∃ k m l e, f_X11_whole F G p1 r_kind r_minus r_m r_e r_thrown = some (v, k, m, l, e, 0))) := by
  rcases pl_cases p1 with ⟨n, hn, rfl, a1, a2⟩ | ⟨a1, a2⟩
  · right
    obtain ⟨f, sg, t, hf, hs, ht, hF, hG⟩ := h n hn
    refine ⟨uL (vM f t), ⟨(uI (vK f t), uI sg, uL (vM f t), iI (vE f t), bI (vN f t)), ?_⟩, ⟨uI (vK f t), uI sg, uL (vM f t), iI (vE f t), ?_⟩⟩
    · unfold f_X9_whole; simp only [a1, Option.bind_some, sm, Sum.elim_inl, Sum.elim_inr, i00, i10, i20, if_true, if_false, go0, go10, go11, x9_look hn hF hG hf hs ht]
    · unfold f_X11_whole; simp only [a2, Option.bind_some, sm, Sum.elim_inl, Sum.elim_inr, i00, i10, i20, if_true, if_false, go0, go10, go11, x11_look hn hF hG hf hs ht]
  · left
    refine ⟨⟨(c_first_kind, c_first_minus, c_first_m, c_first_e, c_first_narrowBelow), ?_⟩, ⟨0, r_kind, r_minus, r_m, r_e, ?_⟩⟩
    · unfold f_X9_whole; simp only [a1, Option.bind_some, sm, Sum.elim_inl, Sum.elim_inr, i00, i10, i20, if_true, if_false, go0, go10, go11]
    · unfold f_X11_whole; simp only [a2, Option.bind_some, sm, Sum.elim_inl, Sum.elim_inr, i00, i10, i20, if_true, if_false, go0, go10, go11]
theorem k_told {F : Nat → Int32} {G : Nat → Int64} (h : wfp F G) (p1 : Int32) (p2 : Int32) (c_first_kind : Int32) (c_first_minus : Int32) (c_first_m : Int64) (c_first_e : Int32) (c_first_narrowBelow : Int32) (r_kind : Int32) (r_minus : Int32) (r_m : Int64) (r_e : Int32) (r_thrown : Int32) :
    (∃ n, (n = 1 ∨ n = 2) ∧ (∃ x, f_X9_told F G p1 p2 c_first_kind c_first_minus c_first_m c_first_e c_first_narrowBelow = some (.inl (n, x))) ∧ (∃ v k m l e, f_X11_told F G p1 p2 r_kind r_minus r_m r_e r_thrown = some (v, k, m, l, e, uI n))) ∨
    (∃ v, (∃ x, f_X9_told F G p1 p2 c_first_kind c_first_minus c_first_m c_first_e c_first_narrowBelow = some (.inr (v, x))) ∧ (∃ k m l e, f_X11_told F G p1 p2 r_kind r_minus r_m r_e r_thrown = some (v, k, m, l, e, 0))) := by
  obtain ⟨w, hw1, hw2, rfl⟩ := iI_of p2
  have c0 : iI w = (0 : Int32) ↔ w = 0 := by rw [wI_0, iI_eq hw1 hw2 (by omega) (by omega)]
  have c1 : iI w = (1 : Int32) ↔ w = 1 := by rw [wI_1, iI_eq hw1 hw2 (by omega) (by omega)]
  have c2 : iI w = (2 : Int32) ↔ w = 2 := by rw [wI_2, iI_eq hw1 hw2 (by omega) (by omega)]
  have c3 : iI w = (3 : Int32) ↔ w = 3 := by rw [wI_3, iI_eq hw1 hw2 (by omega) (by omega)]
  have cn : iI w < (0 : Int32) ↔ w < 0 := by rw [wI_0, iI_lt hw1 hw2 (by omega) (by omega)]
  have cg : (3 : Int32) < iI w ↔ 3 < w := by rw [wI_3, iI_lt (by omega) (by omega) hw1 hw2]
  rcases pl_cases p1 with ⟨n, hn, rfl, a1, a2⟩ | ⟨a1, a2⟩
  · obtain ⟨f, sg, t, hf, hs, ht, hF, hG⟩ := h n hn
    by_cases hw : 0 ≤ w ∧ w ≤ 3
    · right
      have hsgn : (if uI sg = (0 : Int32) then (0 : Int32) else 1) = uI sg := by
        have : sg = 0 ∨ sg = 1 := by omega
        rcases this with rfl | rfl <;> decide
      have hc : f_X9_told F G (uI n) (iI w) c_first_kind c_first_minus c_first_m c_first_e c_first_narrowBelow = some (.inr (if w = 0 then uI f else if w = 1 then uI (vK f t) else if w = 2 then uI sg else iI (vE f t), uI (vK f t), uI sg, uL (vM f t), iI (vE f t), bI (vN f t))) := by
        unfold f_X9_told
        simp only [a1, Option.bind_some, sm, Sum.elim_inl, Sum.elim_inr, i00, i10, i20, if_true, if_false, go0, go10, go11, x9_look hn hF hG hf hs ht, if_pos (vIn16 hn), uI_clamp (show n < 2147483648 by omega), hF, c0, c1, c2, c3]
        by_cases h0 : w = 0
        · simp only [if_pos h0]
        · by_cases h1 : w = 1
          · simp only [if_neg h0, if_pos h1]
          · by_cases h2 : w = 2
            · simp only [if_neg h0, if_neg h1, if_pos h2]
              rw [← hsgn]
              split <;> rfl
            · simp only [if_neg h0, if_neg h1, if_neg h2, if_pos (show w = 3 by omega)]
      have hr : f_X11_told F G (uI n) (iI w) r_kind r_minus r_m r_e r_thrown = some (if w = 0 then uI f else if w = 1 then uI (vK f t) else if w = 2 then uI sg else iI (vE f t), uI (vK f t), uI sg, uL (vM f t), iI (vE f t), 0) := by
        unfold f_X11_told f_X11_told_B19
        simp only [a2, Option.bind_some, sm, Sum.elim_inl, Sum.elim_inr, i00, i10, i20, if_true, if_false, go0, go10, go11, cn, cg, if_neg (show ¬ w < 0 by omega), if_neg (show ¬ 3 < w by omega), x11_look hn hF hG hf hs ht, if_pos (vIn16 hn), uI_clamp (show n < 2147483648 by omega), hF, c0, c1, c2]
        by_cases h0 : w = 0
        · simp only [if_pos h0]
        · by_cases h1 : w = 1
          · simp only [if_neg h0, if_pos h1]
          · by_cases h2 : w = 2
            · simp only [if_neg h0, if_neg h1, if_pos h2]
            · simp only [if_neg h0, if_neg h1, if_neg h2]
      exact ⟨_, ⟨_, hc⟩, ⟨_, _, _, _, hr⟩⟩
    · left
      refine ⟨2, Or.inr rfl, ⟨(uI (vK f t), uI sg, uL (vM f t), iI (vE f t), bI (vN f t)), ?_⟩, ⟨0, r_kind, r_minus, r_m, r_e, ?_⟩⟩
      · unfold f_X9_told
        simp only [a1, Option.bind_some, sm, Sum.elim_inl, Sum.elim_inr, i00, i10, i20, if_true, if_false, go0, go10, go11, x9_look hn hF hG hf hs ht, c0, c1, c2, c3, if_neg (show ¬ w = 0 by omega), if_neg (show ¬ w = 1 by omega), if_neg (show ¬ w = 2 by omega), if_neg (show ¬ w = 3 by omega)]
      · unfold f_X11_told f_X11_told_B18 f_X11_told_B19
        simp only [a2, Option.bind_some, sm, Sum.elim_inl, Sum.elim_inr, i00, i10, i20, if_true, if_false, go0, go10, go11, cn, cg]
        by_cases hneg : w < 0
        · simp only [if_pos hneg]; rfl
        · simp only [if_neg hneg, if_pos (show 3 < w by omega)]; rfl
  · left
    refine ⟨1, Or.inl rfl, ⟨(c_first_kind, c_first_minus, c_first_m, c_first_e, c_first_narrowBelow), ?_⟩, ⟨0, r_kind, r_minus, r_m, r_e, ?_⟩⟩
    · unfold f_X9_told; simp only [a1, Option.bind_some, sm, Sum.elim_inl, Sum.elim_inr, i00, i10, i20, if_true, if_false, go0, go10, go11]
    · unfold f_X11_told f_X11_told_B18 f_X11_told_B19
      simp only [a2, Option.bind_some, sm, Sum.elim_inl, Sum.elim_inr, i00, i10, i20, if_true, if_false, go0, go10, go11]
      split
      · rfl
      · split <;> rfl
theorem k_convert {F : Nat → Int32} {G : Nat → Int64} (h : wfp F G) (p1 : Int32) (p2 : Int32) (p3 : Int32) (p4 : Int32) (c_first_kind : Int32) (c_first_minus : Int32) (c_first_m : Int64) (c_first_e : Int32) (c_first_narrowBelow : Int32) (c_acts_left_size : Int32) (c_acts_left_limbs : Nat → Int64) (r_kind : Int32) (r_minus : Int32) (r_m : Int64) (r_e : Int32) (r_sign : Int32) (r_power : Int32) (r_root : Int32) (r_thrown : Int32) (r_a_len : Int32) (r_a_d : Nat → Int32) (r_b_len : Int32) (r_b_d : Nat → Int32) (r_left_len : Int32) (r_left_d : Nat → Int32) (r_right_len : Int32) (r_right_d : Nat → Int32) (r_longs_len : Int32) (r_longs_d : Nat → Int32) (r_third_len : Int32) (r_third_d : Nat → Int32) :
    (∃ n, (n = 1 ∨ n = 2) ∧ (∃ x, f_X9_convert p1 p2 p3 p4 F G c_first_kind c_first_minus c_first_m c_first_e c_first_narrowBelow c_acts_left_size c_acts_left_limbs = some (.inl (n, F, G, x))) ∧ (∃ k m l e sg pw rt y, f_X11_convert p1 p2 p3 p4 r_kind r_minus r_m r_e r_sign r_power r_root r_thrown F G r_a_len r_a_d r_b_len r_b_d r_left_len r_left_d r_right_len r_right_d r_longs_len r_longs_d r_third_len r_third_d = some (k, m, l, e, sg, pw, rt, uI n, F, G, y))) ∨
    (∃ F' G', wfp F' G' ∧ (∃ x, f_X9_convert p1 p2 p3 p4 F G c_first_kind c_first_minus c_first_m c_first_e c_first_narrowBelow c_acts_left_size c_acts_left_limbs = some (.inr (F', G', x))) ∧ (∃ k m l e sg pw rt y, f_X11_convert p1 p2 p3 p4 r_kind r_minus r_m r_e r_sign r_power r_root r_thrown F G r_a_len r_a_d r_b_len r_b_d r_left_len r_left_d r_right_len r_right_d r_longs_len r_longs_d r_third_len r_third_d = some (k, m, l, e, sg, pw, rt, 0, F', G', y))) := by
  have hbad1 : ∀ z, f_X11_convert_B20 p1 p2 p3 p4 0 r_kind r_minus r_m r_e r_sign r_power r_root r_thrown F G r_a_len r_a_d r_b_len r_b_d r_left_len r_left_d r_right_len r_right_d r_longs_len r_longs_d r_third_len r_third_d = z → z = some (r_kind, r_minus, r_m, r_e, r_sign, r_power, r_root, 1, F, G, r_a_len, r_a_d, r_b_len, r_b_d, r_left_len, r_left_d, r_right_len, r_right_d, r_longs_len, r_longs_d, r_third_len, r_third_d) := by
    rintro z rfl
    unfold f_X11_convert_B20 f_X11_convert_B39 f_X11_convert_B40
    rcases fm_cases p3 with ⟨_, _, _, _, b2⟩ | ⟨_, b2⟩
    · rcases wy_cases p4 with ⟨_, _, _, _, c2⟩ | ⟨_, c2⟩
      · simp only [b2, c2, Option.bind_some, sm, Sum.elim_inl, Sum.elim_inr, i00, i10, i20, if_true, if_false, go0, go10, go11]
      · simp only [b2, c2, Option.bind_some, sm, Sum.elim_inl, Sum.elim_inr, i00, i10, i20, if_true, if_false, go0, go10, go11]
    · simp only [b2, Option.bind_some, sm, Sum.elim_inl, Sum.elim_inr, i00, i10, i20, if_true, if_false, go0, go10, go11]
  rcases pl_cases p1 with ⟨n, hn, rfl, a1, a2⟩ | ⟨a1, a2⟩
  · rcases pl_cases p2 with ⟨n2, hn2, rfl, d1, d2⟩ | ⟨d1, d2⟩
    · rcases fm_cases p3 with ⟨f, hf, rfl, b1, b2⟩ | ⟨b1, b2⟩
      · rcases wy_cases p4 with ⟨w, hw, rfl, e1, e2⟩ | ⟨e1, e2⟩
        · right
          obtain ⟨f0, sg, t, hf0, hs, ht, hF, hG⟩ := h n hn
          have hV := isV_of hf0 hs ht
          obtain ⟨s, L, hcv⟩ := x0_converted hV hf hw c_acts_left_size c_acts_left_limbs
          have hm := hV.2.2.1
          have hP : isP f (if vK f0 t = 4 then patNone f else if vK f0 t = 3 then pat f sg (fInf f) else rcP f w sg (vM f0 t) (vE f0 t) false) := by
            split
            · exact isP_none hf
            · split
              · exact isP_inf hf hs
              · exact isP_rcP hf hs
          refine ⟨_, _, wfp_upd (r := n2) h hf hP, ⟨(uI (vK f0 t), uI sg, uL (vM f0 t), iI (vE f0 t), bI (vN f0 t), s, L), ?_⟩, ?_⟩
          · unfold f_X9_convert
            simp only [a1, b1, d1, e1, Option.bind_some, sm, Sum.elim_inl, Sum.elim_inr, i00, i10, i20, if_true, if_false, go0, go10, go11, x9_look hn hF hG hf0 hs ht, hcv, x9_put hn2]
          · unfold f_X11_convert f_X11_convert_B20 f_X11_convert_B40
            simp only [a2, b2, d2, e2, Option.bind_some, sm, Sum.elim_inl, Sum.elim_inr, i00, i10, i20, if_true, if_false, go0, go10, go11, x11_look hn hF hG hf0 hs ht]
            have hk := hV.1
            by_cases h4 : vK f0 t = 4
            · simp only [if_pos h4, if_pos (show uI (vK f0 t) = (4 : Int32) by rw [h4]; rfl), x11_putNone F G hf hn2, Option.bind_some]
              exact ⟨_, _, _, _, _, _, _, _, rfl⟩
            · have n4 : ¬ uI (vK f0 t) = (4 : Int32) := fun x => h4 ((uI_eq (b := 4) (by omega) (by omega)).mp x)
              simp only [if_neg h4, if_neg n4]
              by_cases h3 : vK f0 t = 3
              · simp only [if_pos h3, if_pos (show uI (vK f0 t) = (3 : Int32) by rw [h3]; rfl), x11_putEndless F G hf hs hn2, Option.bind_some]
                exact ⟨_, _, _, _, _, _, _, _, rfl⟩
              · have n3 : ¬ uI (vK f0 t) = (3 : Int32) := fun x => h3 ((uI_eq (b := 3) (by omega) (by omega)).mp x)
                simp only [if_neg h3, if_neg n3]
                obtain ⟨sa, Da, sb, Db, t1, t2, t3⟩ := x11_take (m := vM f0 t) (by omega) (uI sg) (iI (vE f0 t)) r_sign r_power r_root r_a_len r_a_d r_b_len r_b_d
                have hmb : bl (vM f0 t) ≤ 53 := bl_le_of_lt hm
                obtain ⟨q, hq⟩ := x11_round1 (p := vE f0 t) (sg := sg) F G t2 t3 (by omega) (by have := hV.2.2.2.1; omega) (by have := hV.2.2.2.2.1; omega) hf hs hw hn2 r_left_len r_left_d r_right_len r_right_d r_longs_len r_longs_d r_third_len r_third_d
                simp only [t1, Option.bind_some, hq]
                exact ⟨_, _, _, _, _, _, _, _, rfl⟩
        · left
          refine ⟨2, Or.inr rfl, ⟨(c_first_kind, c_first_minus, c_first_m, c_first_e, c_first_narrowBelow, c_acts_left_size, c_acts_left_limbs), ?_⟩, ?_⟩
          · unfold f_X9_convert; simp only [a1, b1, d1, e1, Option.bind_some, sm, Sum.elim_inl, Sum.elim_inr, i00, i10, i20, if_true, if_false, go0, go10, go11]
          · unfold f_X11_convert f_X11_convert_B20 f_X11_convert_B39 f_X11_convert_B40
            simp only [a2, b2, d2, e2, Option.bind_some, sm, Sum.elim_inl, Sum.elim_inr, i00, i10, i20, if_true, if_false, go0, go10, go11]
            exact ⟨_, _, _, _, _, _, _, _, rfl⟩
      · left
        refine ⟨2, Or.inr rfl, ⟨(c_first_kind, c_first_minus, c_first_m, c_first_e, c_first_narrowBelow, c_acts_left_size, c_acts_left_limbs), ?_⟩, ?_⟩
        · unfold f_X9_convert; simp only [a1, b1, d1, Option.bind_some, sm, Sum.elim_inl, Sum.elim_inr, i00, i10, i20, if_true, if_false, go0, go10, go11]
        · unfold f_X11_convert f_X11_convert_B20 f_X11_convert_B39 f_X11_convert_B40
          simp only [a2, b2, d2, Option.bind_some, sm, Sum.elim_inl, Sum.elim_inr, i00, i10, i20, if_true, if_false, go0, go10, go11]
          exact ⟨_, _, _, _, _, _, _, _, rfl⟩
    · left
      refine ⟨1, Or.inl rfl, ⟨(c_first_kind, c_first_minus, c_first_m, c_first_e, c_first_narrowBelow, c_acts_left_size, c_acts_left_limbs), ?_⟩, ?_⟩
      · unfold f_X9_convert; simp only [a1, d1, Option.bind_some, sm, Sum.elim_inl, Sum.elim_inr, i00, i10, i20, if_true, if_false, go0, go10, go11]
      · unfold f_X11_convert f_X11_convert_B19
        simp only [a2, d2, Option.bind_some, sm, Sum.elim_inl, Sum.elim_inr, i00, i10, i20, if_true, if_false, go0, go10, go11]
        exact ⟨_, _, _, _, _, _, _, _, hbad1 _ rfl⟩
  · left
    refine ⟨1, Or.inl rfl, ⟨(c_first_kind, c_first_minus, c_first_m, c_first_e, c_first_narrowBelow, c_acts_left_size, c_acts_left_limbs), ?_⟩, ?_⟩
    · unfold f_X9_convert; simp only [a1, Option.bind_some, sm, Sum.elim_inl, Sum.elim_inr, i00, i10, i20, if_true, if_false, go0, go10, go11]
    · unfold f_X11_convert f_X11_convert_B19
      simp only [a2, Option.bind_some, sm, Sum.elim_inl, Sum.elim_inr, i00, i10, i20, if_true, if_false, go0, go10, go11]
      exact ⟨_, _, _, _, _, _, _, _, hbad1 _ rfl⟩
