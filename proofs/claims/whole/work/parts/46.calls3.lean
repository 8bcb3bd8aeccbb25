/-! add, less, times, fused -/
/-- the checks of a call with three places and a way -/
theorem l2_cases {F : Nat → Int32} {G : Nat → Int64} (h : wfp F G) (p1 p2 p3 p4 : Int32) (k0 m0 : Int32) (l0 : Int64) (e0 n0 : Int32) (k1 m1 : Int32) (l1 : Int64) (e1 n1 : Int32) :
    (∃ a b r w f1 s1 t1 f2 s2 t2, a < 16 ∧ b < 16 ∧ r < 16 ∧ w < 4 ∧ p1 = uI a ∧ p2 = uI b ∧ p3 = uI r ∧ p4 = uI w ∧ f_X11_isPlace p1 = some 1 ∧ f_X11_isPlace p2 = some 1 ∧ f_X11_isPlace p3 = some 1 ∧ f_X11_isWay p4 = some 1 ∧ f1 ≤ 1 ∧ s1 ≤ 1 ∧ t1 < 2 ^ fTop f1 ∧ F a = uI f1 ∧ G a = uL (pat f1 s1 t1) ∧ f2 ≤ 1 ∧ s2 ≤ 1 ∧ t2 < 2 ^ fTop f2 ∧ F b = uI f2 ∧ G b = uL (pat f2 s2 t2) ∧ f_X9_lookAtTwo F G p1 p2 p3 p4 k0 m0 l0 e0 n0 k1 m1 l1 e1 n1 = some (.inr (uI (vK f1 t1), uI s1, uL (vM f1 t1), iI (vE f1 t1), bI (vN f1 t1), uI (vK f2 t2), uI s2, uL (vM f2 t2), iI (vE f2 t2), bI (vN f2 t2)))) ∨
    (f_X9_lookAtTwo F G p1 p2 p3 p4 k0 m0 l0 e0 n0 k1 m1 l1 e1 n1 = some (.inl (1, k0, m0, l0, e0, n0, k1, m1, l1, e1, n1)) ∧ (f_X11_isPlace p1 = some 0 ∨ (f_X11_isPlace p1 = some 1 ∧ f_X11_isPlace p2 = some 0) ∨ (f_X11_isPlace p1 = some 1 ∧ f_X11_isPlace p2 = some 1 ∧ f_X11_isPlace p3 = some 0))) ∨
    (f_X9_lookAtTwo F G p1 p2 p3 p4 k0 m0 l0 e0 n0 k1 m1 l1 e1 n1 = some (.inl (2, k0, m0, l0, e0, n0, k1, m1, l1, e1, n1)) ∧ f_X11_isPlace p1 = some 1 ∧ f_X11_isPlace p2 = some 1 ∧ f_X11_isPlace p3 = some 1 ∧ f_X11_isWay p4 = some 0) := by
  unfold f_X9_lookAtTwo
  rcases pl_cases p1 with ⟨a, ha, rfl, a1, a2⟩ | ⟨a1, a2⟩
  · rcases pl_cases p2 with ⟨b, hb, rfl, b1, b2⟩ | ⟨b1, b2⟩
    · rcases pl_cases p3 with ⟨r, hr, rfl, c1, c2⟩ | ⟨c1, c2⟩
      · rcases wy_cases p4 with ⟨w, hw, rfl, d1, d2⟩ | ⟨d1, d2⟩
        · left
          obtain ⟨f1, s1, t1, g1, g2, g3, g4, g5⟩ := h a ha
          obtain ⟨f2, s2, t2, q1, q2, q3, q4, q5⟩ := h b hb
          refine ⟨a, b, r, w, f1, s1, t1, f2, s2, t2, ha, hb, hr, hw, rfl, rfl, rfl, rfl, a2, b2, c2, d2, g1, g2, g3, g4, g5, q1, q2, q3, q4, q5, ?_⟩
          simp only [a1, b1, c1, d1, Option.bind_some, sm, Sum.elim_inl, Sum.elim_inr, x9_look ha g4 g5 g1 g2 g3, x9_look hb q4 q5 q1 q2 q3]
        · right; right
          refine ⟨?_, a2, b2, c2, d2⟩
          simp only [a1, b1, c1, d1, Option.bind_some, sm, Sum.elim_inl, Sum.elim_inr]
      · right; left
        refine ⟨?_, Or.inr (Or.inr ⟨a2, b2, c2⟩)⟩
        simp only [a1, b1, c1, Option.bind_some, sm, Sum.elim_inl, Sum.elim_inr]
    · right; left
      refine ⟨?_, Or.inr (Or.inl ⟨a2, b2⟩)⟩
      simp only [a1, b1, Option.bind_some, sm, Sum.elim_inl, Sum.elim_inr]
  · right; left
    refine ⟨?_, Or.inl a2⟩
    simp only [a1, Option.bind_some, sm, Sum.elim_inl, Sum.elim_inr]
theorem k_add {F : Nat → Int32} {G : Nat → Int64} (h : wfp F G) (p1 : Int32) (p2 : Int32) (p3 : Int32) (p4 : Int32) (c_first_kind : Int32) (c_first_minus : Int32) (c_first_m : Int64) (c_first_e : Int32) (c_first_narrowBelow : Int32) (c_second_kind : Int32) (c_second_minus : Int32) (c_second_m : Int64) (c_second_e : Int32) (c_second_narrowBelow : Int32) (c_acts_left_size : Int32) (c_acts_left_limbs : Nat → Int64) (c_acts_right_size : Int32) (c_acts_right_limbs : Nat → Int64) (r_kind : Int32) (r_minus : Int32) (r_m : Int64) (r_e : Int32) (r_sign : Int32) (r_power : Int32) (r_root : Int32) (r_thrown : Int32) (r_otherSign : Int32) (r_otherPower : Int32) (r_a_len : Int32) (r_a_d : Nat → Int32) (r_b_len : Int32) (r_b_d : Nat → Int32) (r_left_len : Int32) (r_left_d : Nat → Int32) (r_right_len : Int32) (r_right_d : Nat → Int32) (r_longs_len : Int32) (r_longs_d : Nat → Int32) (r_third_len : Int32) (r_third_d : Nat → Int32) (r_other_len : Int32) (r_other_d : Nat → Int32) :
    (∃ n, (n = 1 ∨ n = 2) ∧ (∃ x, f_X9_add F p1 p2 p3 p4 G c_first_kind c_first_minus c_first_m c_first_e c_first_narrowBelow c_second_kind c_second_minus c_second_m c_second_e c_second_narrowBelow c_acts_left_size c_acts_left_limbs c_acts_right_size c_acts_right_limbs = some (.inl (n, G, x))) ∧ (∃ k m l e sg pw rt os op y, f_X11_add p1 p2 p3 p4 r_kind r_minus r_m r_e r_sign r_power r_root r_thrown r_otherSign r_otherPower F G r_a_len r_a_d r_b_len r_b_d r_left_len r_left_d r_right_len r_right_d r_longs_len r_longs_d r_third_len r_third_d r_other_len r_other_d = some (k, m, l, e, sg, pw, rt, uI n, os, op, F, G, y))) ∨
    (∃ G', wfp F G' ∧ (∃ x, f_X9_add F p1 p2 p3 p4 G c_first_kind c_first_minus c_first_m c_first_e c_first_narrowBelow c_second_kind c_second_minus c_second_m c_second_e c_second_narrowBelow c_acts_left_size c_acts_left_limbs c_acts_right_size c_acts_right_limbs = some (.inr (G', x))) ∧ (∃ k m l e sg pw rt os op y, f_X11_add p1 p2 p3 p4 r_kind r_minus r_m r_e r_sign r_power r_root r_thrown r_otherSign r_otherPower F G r_a_len r_a_d r_b_len r_b_d r_left_len r_left_d r_right_len r_right_d r_longs_len r_longs_d r_third_len r_third_d r_other_len r_other_d = some (k, m, l, e, sg, pw, rt, 0, os, op, F, G', y))) := by
  rcases l2_cases h p1 p2 p3 p4 c_first_kind c_first_minus c_first_m c_first_e c_first_narrowBelow c_second_kind c_second_minus c_second_m c_second_e c_second_narrowBelow with ⟨a, b, r, w, f1, s1, t1, f2, s2, t2, ha, hb, hr, hw, rfl, rfl, rfl, rfl, i1, i2, i3, i4, g1, g2, g3, g4, g5, q1, q2, q3, q4, q5, hl⟩ | ⟨hl, hi⟩ | ⟨hl, i1, i2, i3, i4⟩
  · right
    obtain ⟨f, s3, t3, z1, z2, z3, z4, z5⟩ := h r hr
    have hV1 := isV_of g1 g2 g3
    have hV2 := isV_of q1 q2 q3
    have hupd : ∀ P, isP f P → wfp F (vp_updL G r (uL P)) := by
      intro P hP
      have := wfp_upd (r := r) h z1 hP
      rw [upd_self z4] at this
      exact this
    have hV2' : isV (vK f2 t2) s2 (vM f2 t2) (vE f2 t2) := by
      obtain ⟨x1, x2, x3, x4, x5, x6, x7, x8⟩ := hV2
      exact ⟨x1, by omega, x3, x4, x5, x6, x7, x8⟩
    obtain ⟨a5, a6, a7, a8, hc⟩ := x0_sum hV1 hV2' z1 hw c_acts_left_size c_acts_left_limbs c_acts_right_size c_acts_right_limbs
    have hP : isP f (if vK f1 t1 = 4 ∨ vK f2 t2 = 4 then patNone f else sumP f w (vK f1 t1 == 3) s1 (vM f1 t1) (vE f1 t1) (vK f2 t2) s2 (vM f2 t2) (vE f2 t2)) := by
      split
      · exact isP_none z1
      · exact isP_sumP z1 g2 hV2'.2.1
    refine ⟨_, hupd _ hP, ⟨(uI (vK f1 t1), uI s1, uL (vM f1 t1), iI (vE f1 t1), bI (vN f1 t1), uI (vK f2 t2), uI s2, uL (vM f2 t2), iI (vE f2 t2), bI (vN f2 t2), a5, a6, a7, a8), ?_⟩, ?_⟩
    ·   unfold f_X9_add
        simp only [hl, Option.bind_some, sm, Sum.elim_inl, Sum.elim_inr, i00, i10, i20, if_true, if_false, go0, go10, go11, if_pos (vIn16 hr), uI_clamp (show r < 2147483648 by omega), z4, hc]
    · unfold f_X11_add f_X11_joined f_X11_joined_B27
      have hx : uI s2 ^^^ (0 : Int32) = uI s2 := by
        have h9 : s2 = 0 ∨ s2 = 1 := by omega
        rcases h9 with rfl | rfl <;> decide
      obtain ⟨sa, Da, sb, Db, y1, y2, y3⟩ := x11_take (m := vM f1 t1) (by have := hV1.2.2.1; omega) (uI s1) (iI (vE f1 t1)) r_sign r_power r_root r_a_len r_a_d r_b_len r_b_d
      have hmb : bl (vM f1 t1) ≤ 53 := bl_le_of_lt hV1.2.2.1
      have e1 := hV1.2.2.2.1
      have e2 := hV1.2.2.2.2.1
      obtain ⟨b1, b2, b3, b4, b5, hal⟩ := x11_addLooked (sa := s1) (k1 := vK f1 t1) (p := vE f1 t1) (way := w) (rr := r) F G y2 y3 (by omega) hV1.1 g2 (by omega) (by omega) hV2' z4 z1 hw hr r_otherSign r_otherPower r_left_len r_left_d r_right_len r_right_d r_longs_len r_longs_d r_third_len r_third_d r_other_len r_other_d
      rw [upd_self z4] at hal
      simp only [i1, i2, i3, i4, Option.bind_some, sm, Sum.elim_inl, Sum.elim_inr, i00, i10, i20, if_true, if_false, go0, go10, go11, x11_look ha g4 g5 g1 g2 g3, y1, x11_look hb q4 q5 q1 q2 q3, hx, hal]
      exact ⟨_, _, _, _, _, _, _, _, _, _, rfl⟩
  · left
    refine ⟨1, Or.inl rfl, ⟨(c_first_kind, c_first_minus, c_first_m, c_first_e, c_first_narrowBelow, c_second_kind, c_second_minus, c_second_m, c_second_e, c_second_narrowBelow, c_acts_left_size, c_acts_left_limbs, c_acts_right_size, c_acts_right_limbs), ?_⟩, ?_⟩
    · unfold f_X9_add; simp only [hl, Option.bind_some, sm, Sum.elim_inl, Sum.elim_inr, i00, i10, i20, if_true, if_false, go0, go10, go11]
    · unfold f_X11_add f_X11_joined f_X11_joined_B26 f_X11_joined_B27
      rcases hi with i1 | ⟨i1, i2⟩ | ⟨i1, i2, i3⟩
      · rcases wy_cases p4 with ⟨_, _, _, _, d2⟩ | ⟨_, d2⟩
        · simp only [i1, d2, Option.bind_some, sm, Sum.elim_inl, Sum.elim_inr, i00, i10, i20, if_true, if_false, go0, go10, go11]; exact ⟨_, _, _, _, _, _, _, _, _, _, rfl⟩
        · simp only [i1, d2, Option.bind_some, sm, Sum.elim_inl, Sum.elim_inr, i00, i10, i20, if_true, if_false, go0, go10, go11]; exact ⟨_, _, _, _, _, _, _, _, _, _, rfl⟩
      · rcases wy_cases p4 with ⟨_, _, _, _, d2⟩ | ⟨_, d2⟩
        · simp only [i1, i2, d2, Option.bind_some, sm, Sum.elim_inl, Sum.elim_inr, i00, i10, i20, if_true, if_false, go0, go10, go11]; exact ⟨_, _, _, _, _, _, _, _, _, _, rfl⟩
        · simp only [i1, i2, d2, Option.bind_some, sm, Sum.elim_inl, Sum.elim_inr, i00, i10, i20, if_true, if_false, go0, go10, go11]; exact ⟨_, _, _, _, _, _, _, _, _, _, rfl⟩
      · rcases wy_cases p4 with ⟨_, _, _, _, d2⟩ | ⟨_, d2⟩
        · simp only [i1, i2, i3, d2, Option.bind_some, sm, Sum.elim_inl, Sum.elim_inr, i00, i10, i20, if_true, if_false, go0, go10, go11]; exact ⟨_, _, _, _, _, _, _, _, _, _, rfl⟩
        · simp only [i1, i2, i3, d2, Option.bind_some, sm, Sum.elim_inl, Sum.elim_inr, i00, i10, i20, if_true, if_false, go0, go10, go11]; exact ⟨_, _, _, _, _, _, _, _, _, _, rfl⟩
  · left
    refine ⟨2, Or.inr rfl, ⟨(c_first_kind, c_first_minus, c_first_m, c_first_e, c_first_narrowBelow, c_second_kind, c_second_minus, c_second_m, c_second_e, c_second_narrowBelow, c_acts_left_size, c_acts_left_limbs, c_acts_right_size, c_acts_right_limbs), ?_⟩, ?_⟩
    · unfold f_X9_add; simp only [hl, Option.bind_some, sm, Sum.elim_inl, Sum.elim_inr, i00, i10, i20, if_true, if_false, go0, go10, go11]
    · unfold f_X11_add f_X11_joined f_X11_joined_B26 f_X11_joined_B27
      simp only [i1, i2, i3, i4, Option.bind_some, sm, Sum.elim_inl, Sum.elim_inr, i00, i10, i20, if_true, if_false, go0, go10, go11]; exact ⟨_, _, _, _, _, _, _, _, _, _, rfl⟩
theorem k_less {F : Nat → Int32} {G : Nat → Int64} (h : wfp F G) (p1 : Int32) (p2 : Int32) (p3 : Int32) (p4 : Int32) (c_first_kind : Int32) (c_first_minus : Int32) (c_first_m : Int64) (c_first_e : Int32) (c_first_narrowBelow : Int32) (c_second_kind : Int32) (c_second_minus : Int32) (c_second_m : Int64) (c_second_e : Int32) (c_second_narrowBelow : Int32) (c_acts_left_size : Int32) (c_acts_left_limbs : Nat → Int64) (c_acts_right_size : Int32) (c_acts_right_limbs : Nat → Int64) (r_kind : Int32) (r_minus : Int32) (r_m : Int64) (r_e : Int32) (r_sign : Int32) (r_power : Int32) (r_root : Int32) (r_thrown : Int32) (r_otherSign : Int32) (r_otherPower : Int32) (r_a_len : Int32) (r_a_d : Nat → Int32) (r_b_len : Int32) (r_b_d : Nat → Int32) (r_left_len : Int32) (r_left_d : Nat → Int32) (r_right_len : Int32) (r_right_d : Nat → Int32) (r_longs_len : Int32) (r_longs_d : Nat → Int32) (r_third_len : Int32) (r_third_d : Nat → Int32) (r_other_len : Int32) (r_other_d : Nat → Int32) :
    (∃ n, (n = 1 ∨ n = 2) ∧ (∃ x, f_X9_less F p1 p2 p3 p4 G c_first_kind c_first_minus c_first_m c_first_e c_first_narrowBelow c_second_kind c_second_minus c_second_m c_second_e c_second_narrowBelow c_acts_left_size c_acts_left_limbs c_acts_right_size c_acts_right_limbs = some (.inl (n, G, x))) ∧ (∃ k m l e sg pw rt os op y, f_X11_less p1 p2 p3 p4 r_kind r_minus r_m r_e r_sign r_power r_root r_thrown r_otherSign r_otherPower F G r_a_len r_a_d r_b_len r_b_d r_left_len r_left_d r_right_len r_right_d r_longs_len r_longs_d r_third_len r_third_d r_other_len r_other_d = some (k, m, l, e, sg, pw, rt, uI n, os, op, F, G, y))) ∨
    (∃ G', wfp F G' ∧ (∃ x, f_X9_less F p1 p2 p3 p4 G c_first_kind c_first_minus c_first_m c_first_e c_first_narrowBelow c_second_kind c_second_minus c_second_m c_second_e c_second_narrowBelow c_acts_left_size c_acts_left_limbs c_acts_right_size c_acts_right_limbs = some (.inr (G', x))) ∧ (∃ k m l e sg pw rt os op y, f_X11_less p1 p2 p3 p4 r_kind r_minus r_m r_e r_sign r_power r_root r_thrown r_otherSign r_otherPower F G r_a_len r_a_d r_b_len r_b_d r_left_len r_left_d r_right_len r_right_d r_longs_len r_longs_d r_third_len r_third_d r_other_len r_other_d = some (k, m, l, e, sg, pw, rt, 0, os, op, F, G', y))) := by
  rcases l2_cases h p1 p2 p3 p4 c_first_kind c_first_minus c_first_m c_first_e c_first_narrowBelow c_second_kind c_second_minus c_second_m c_second_e c_second_narrowBelow with ⟨a, b, r, w, f1, s1, t1, f2, s2, t2, ha, hb, hr, hw, rfl, rfl, rfl, rfl, i1, i2, i3, i4, g1, g2, g3, g4, g5, q1, q2, q3, q4, q5, hl⟩ | ⟨hl, hi⟩ | ⟨hl, i1, i2, i3, i4⟩
  · right
    obtain ⟨f, s3, t3, z1, z2, z3, z4, z5⟩ := h r hr
    have hV1 := isV_of g1 g2 g3
    have hV2 := isV_of q1 q2 q3
    have hupd : ∀ P, isP f P → wfp F (vp_updL G r (uL P)) := by
      intro P hP
      have := wfp_upd (r := r) h z1 hP
      rw [upd_self z4] at this
      exact this
    have hV2' : isV (vK f2 t2) (1 - s2) (vM f2 t2) (vE f2 t2) := by
      obtain ⟨x1, x2, x3, x4, x5, x6, x7, x8⟩ := hV2
      exact ⟨x1, by omega, x3, x4, x5, x6, x7, x8⟩
    obtain ⟨a5, a6, a7, a8, hc⟩ := x0_sum hV1 hV2' z1 hw c_acts_left_size c_acts_left_limbs c_acts_right_size c_acts_right_limbs
    have hP : isP f (if vK f1 t1 = 4 ∨ vK f2 t2 = 4 then patNone f else sumP f w (vK f1 t1 == 3) s1 (vM f1 t1) (vE f1 t1) (vK f2 t2) (1 - s2) (vM f2 t2) (vE f2 t2)) := by
      split
      · exact isP_none z1
      · exact isP_sumP z1 g2 hV2'.2.1
    refine ⟨_, hupd _ hP, ⟨(uI (vK f1 t1), uI s1, uL (vM f1 t1), iI (vE f1 t1), bI (vN f1 t1), uI (vK f2 t2), uI (1 - s2), uL (vM f2 t2), iI (vE f2 t2), bI (vN f2 t2), a5, a6, a7, a8), ?_⟩, ?_⟩
    ·   unfold f_X9_less f_X9_less_B28
        have h9 : s2 = 0 ∨ s2 = 1 := by omega
        rcases h9 with rfl | rfl
        · have hc' : f_X0_sum (uI (vK f1 t1)) (uI s1) (uL (vM f1 t1)) (iI (vE f1 t1)) (uI (vK f2 t2)) (1 : Int32) (uL (vM f2 t2)) (iI (vE f2 t2)) (uI f) (uI w) c_acts_left_size c_acts_left_limbs c_acts_right_size c_acts_right_limbs = _ := hc
          simp only [hl, Option.bind_some, sm, Sum.elim_inl, Sum.elim_inr, i00, i10, i20, if_true, if_false, go0, go10, go11, kc_00, if_pos (show vBl (1 : Int32) = true by decide), if_pos (vIn16 hr), uI_clamp (show r < 2147483648 by omega), z4, hc']
          rfl
        · have hc' : f_X0_sum (uI (vK f1 t1)) (uI s1) (uL (vM f1 t1)) (iI (vE f1 t1)) (uI (vK f2 t2)) (0 : Int32) (uL (vM f2 t2)) (iI (vE f2 t2)) (uI f) (uI w) c_acts_left_size c_acts_left_limbs c_acts_right_size c_acts_right_limbs = _ := hc
          simp only [hl, Option.bind_some, sm, Sum.elim_inl, Sum.elim_inr, i00, i10, i20, if_true, if_false, go0, go10, go11, kc_10, if_pos (show vBl (0 : Int32) = true by decide), if_pos (vIn16 hr), uI_clamp (show r < 2147483648 by omega), z4, hc']
          rfl
    · unfold f_X11_less f_X11_joined f_X11_joined_B27
      have hx : uI s2 ^^^ (1 : Int32) = uI (1 - s2) := by
        have h9 : s2 = 0 ∨ s2 = 1 := by omega
        rcases h9 with rfl | rfl <;> decide
      obtain ⟨sa, Da, sb, Db, y1, y2, y3⟩ := x11_take (m := vM f1 t1) (by have := hV1.2.2.1; omega) (uI s1) (iI (vE f1 t1)) r_sign r_power r_root r_a_len r_a_d r_b_len r_b_d
      have hmb : bl (vM f1 t1) ≤ 53 := bl_le_of_lt hV1.2.2.1
      have e1 := hV1.2.2.2.1
      have e2 := hV1.2.2.2.2.1
      obtain ⟨b1, b2, b3, b4, b5, hal⟩ := x11_addLooked (sa := s1) (k1 := vK f1 t1) (p := vE f1 t1) (way := w) (rr := r) F G y2 y3 (by omega) hV1.1 g2 (by omega) (by omega) hV2' z4 z1 hw hr r_otherSign r_otherPower r_left_len r_left_d r_right_len r_right_d r_longs_len r_longs_d r_third_len r_third_d r_other_len r_other_d
      rw [upd_self z4] at hal
      simp only [i1, i2, i3, i4, Option.bind_some, sm, Sum.elim_inl, Sum.elim_inr, i00, i10, i20, if_true, if_false, go0, go10, go11, x11_look ha g4 g5 g1 g2 g3, y1, x11_look hb q4 q5 q1 q2 q3, hx, hal]
      exact ⟨_, _, _, _, _, _, _, _, _, _, rfl⟩
  · left
    refine ⟨1, Or.inl rfl, ⟨(c_first_kind, c_first_minus, c_first_m, c_first_e, c_first_narrowBelow, c_second_kind, c_second_minus, c_second_m, c_second_e, c_second_narrowBelow, c_acts_left_size, c_acts_left_limbs, c_acts_right_size, c_acts_right_limbs), ?_⟩, ?_⟩
    · unfold f_X9_less; simp only [hl, Option.bind_some, sm, Sum.elim_inl, Sum.elim_inr, i00, i10, i20, if_true, if_false, go0, go10, go11]
    · unfold f_X11_less f_X11_joined f_X11_joined_B26 f_X11_joined_B27
      rcases hi with i1 | ⟨i1, i2⟩ | ⟨i1, i2, i3⟩
      · rcases wy_cases p4 with ⟨_, _, _, _, d2⟩ | ⟨_, d2⟩
        · simp only [i1, d2, Option.bind_some, sm, Sum.elim_inl, Sum.elim_inr, i00, i10, i20, if_true, if_false, go0, go10, go11]; exact ⟨_, _, _, _, _, _, _, _, _, _, rfl⟩
        · simp only [i1, d2, Option.bind_some, sm, Sum.elim_inl, Sum.elim_inr, i00, i10, i20, if_true, if_false, go0, go10, go11]; exact ⟨_, _, _, _, _, _, _, _, _, _, rfl⟩
      · rcases wy_cases p4 with ⟨_, _, _, _, d2⟩ | ⟨_, d2⟩
        · simp only [i1, i2, d2, Option.bind_some, sm, Sum.elim_inl, Sum.elim_inr, i00, i10, i20, if_true, if_false, go0, go10, go11]; exact ⟨_, _, _, _, _, _, _, _, _, _, rfl⟩
        · simp only [i1, i2, d2, Option.bind_some, sm, Sum.elim_inl, Sum.elim_inr, i00, i10, i20, if_true, if_false, go0, go10, go11]; exact ⟨_, _, _, _, _, _, _, _, _, _, rfl⟩
      · rcases wy_cases p4 with ⟨_, _, _, _, d2⟩ | ⟨_, d2⟩
        · simp only [i1, i2, i3, d2, Option.bind_some, sm, Sum.elim_inl, Sum.elim_inr, i00, i10, i20, if_true, if_false, go0, go10, go11]; exact ⟨_, _, _, _, _, _, _, _, _, _, rfl⟩
        · simp only [i1, i2, i3, d2, Option.bind_some, sm, Sum.elim_inl, Sum.elim_inr, i00, i10, i20, if_true, if_false, go0, go10, go11]; exact ⟨_, _, _, _, _, _, _, _, _, _, rfl⟩
  · left
    refine ⟨2, Or.inr rfl, ⟨(c_first_kind, c_first_minus, c_first_m, c_first_e, c_first_narrowBelow, c_second_kind, c_second_minus, c_second_m, c_second_e, c_second_narrowBelow, c_acts_left_size, c_acts_left_limbs, c_acts_right_size, c_acts_right_limbs), ?_⟩, ?_⟩
    · unfold f_X9_less; simp only [hl, Option.bind_some, sm, Sum.elim_inl, Sum.elim_inr, i00, i10, i20, if_true, if_false, go0, go10, go11]
    · unfold f_X11_less f_X11_joined f_X11_joined_B26 f_X11_joined_B27
      simp only [i1, i2, i3, i4, Option.bind_some, sm, Sum.elim_inl, Sum.elim_inr, i00, i10, i20, if_true, if_false, go0, go10, go11]; exact ⟨_, _, _, _, _, _, _, _, _, _, rfl⟩

/-- the reference's product of two places -/
theorem x11_product {F : Nat → Int32} {G : Nat → Int64} {a b f1 s1 t1 f2 s2 t2 : Nat} (ha : a < 16) (hb : b < 16) (g1 : f1 ≤ 1) (g2 : s1 ≤ 1) (g3 : t1 < 2 ^ fTop f1) (g4 : F a = uI f1) (g5 : G a = uL (pat f1 s1 t1)) (q1 : f2 ≤ 1) (q2 : s2 ≤ 1) (q3 : t2 < 2 ^ fTop f2) (q4 : F b = uI f2) (q5 : G b = uL (pat f2 s2 t2)) (k0 m0 : Int32) (l0 : Int64) (e0 sg pw rt al : Int32) (ad : Nat → Int32) (bl' : Int32) (bd : Nat → Int32) (ll : Int32) (ld : Nat → Int32) (tl : Int32) (td : Nat → Int32) :
    ∃ K A p sa Da sb Db l1 l2 l3 l4, f_X11_product F G (uI a) (uI b) k0 m0 l0 e0 sg pw rt al ad bl' bd ll ld tl td = some (uI K, uI (vK f2 t2), uI s2, uL (vM f2 t2), iI (vE f2 t2), uI (prS s1 s2), iI p, 1, sa, Da, sb, Db, l1, l2, l3, l4) ∧ R30 sa Da A ∧ R30 sb Db 1 ∧ K ≤ 4 ∧ (K = 4 ↔ noPr (vK f1 t1) (vK f2 t2) = true) ∧ (noPr (vK f1 t1) (vK f2 t2) = false → (K = 3 ↔ (vK f1 t1 = 3 ∨ vK f2 t2 = 3))) ∧ bl A ≤ 106 ∧ -2200 ≤ p ∧ p ≤ 2200 ∧ (noPr (vK f1 t1) (vK f2 t2) = false → ¬ (vK f1 t1 = 3 ∨ vK f2 t2 = 3) → A = vM f1 t1 * vM f2 t2 ∧ p = vE f1 t1 + vE f2 t2) := by
  have hV1 := isV_of g1 g2 g3
  have hV2 := isV_of q1 q2 q3
  obtain ⟨hk1, _, hm1, e11, e12, _⟩ := hV1
  obtain ⟨hk2, _, hm2, e21, e22, _⟩ := hV2
  obtain ⟨sa, Da, sb, Db, y1, y2, y3⟩ := x11_take (m := vM f1 t1) (by omega) (uI s1) (iI (vE f1 t1)) sg pw rt al ad bl' bd
  have hmb : bl (vM f1 t1) ≤ 53 := bl_le_of_lt hm1
  have c4 : ∀ k : Nat, k ≤ 4 → k ≠ 4 → ¬ uI k = (4 : Int32) := fun k h1 h2 x => h2 ((uI_eq (b := 4) (by omega) (by omega)).mp x)
  have c3 : ∀ k : Nat, k ≤ 4 → k ≠ 3 → ¬ uI k = (3 : Int32) := fun k h1 h2 x => h2 ((uI_eq (b := 3) (by omega) (by omega)).mp x)
  have c0 : ∀ k : Nat, k ≤ 4 → k ≠ 0 → ¬ uI k = (0 : Int32) := fun k h1 h2 x => h2 ((uI_eq0 (by omega)).mp x)
  unfold f_X11_product f_X11_product_B57 f_X11_product_B71
  simp only [x11_look ha g4 g5 g1 g2 g3, Option.bind_some, y1, x11_look hb q4 q5 q1 q2 q3, xor_sg g2 q2]
  generalize hK1 : vK f1 t1 = k1 at *
  generalize hK2 : vK f2 t2 = k2 at *
  have hbad : ∀ (hno : noPr k1 k2 = true), ∃ K A p sa' Da' sb' Db' l1 l2 l3 l4, (some ((4 : Int32), uI k2, uI s2, uL (vM f2 t2), iI (vE f2 t2), uI (prS s1 s2), iI (vE f1 t1), (1 : Int32), sa, Da, sb, Db, ll, ld, tl, td) : Option _) = some (uI K, uI k2, uI s2, uL (vM f2 t2), iI (vE f2 t2), uI (prS s1 s2), iI p, 1, sa', Da', sb', Db', l1, l2, l3, l4) ∧ R30 sa' Da' A ∧ R30 sb' Db' 1 ∧ K ≤ 4 ∧ (K = 4 ↔ noPr k1 k2 = true) ∧ (noPr k1 k2 = false → (K = 3 ↔ (k1 = 3 ∨ k2 = 3))) ∧ bl A ≤ 106 ∧ -2200 ≤ p ∧ p ≤ 2200 ∧ (noPr k1 k2 = false → ¬ (k1 = 3 ∨ k2 = 3) → A = vM f1 t1 * vM f2 t2 ∧ p = vE f1 t1 + vE f2 t2) := by
    intro hno
    exact ⟨4, vM f1 t1, vE f1 t1, sa, Da, sb, Db, ll, ld, tl, td, rfl, y2, y3, by omega, ⟨fun _ => hno, fun _ => rfl⟩, (fun h => by rw [hno] at h; cases h), by omega, by omega, by omega, (fun h => by rw [hno] at h; cases h)⟩
  have hend : ∀ (hno : noPr k1 k2 = false) (h3 : k1 = 3 ∨ k2 = 3), ∃ K A p sa' Da' sb' Db' l1 l2 l3 l4, (some ((3 : Int32), uI k2, uI s2, uL (vM f2 t2), iI (vE f2 t2), uI (prS s1 s2), iI (vE f1 t1), (1 : Int32), sa, Da, sb, Db, ll, ld, tl, td) : Option _) = some (uI K, uI k2, uI s2, uL (vM f2 t2), iI (vE f2 t2), uI (prS s1 s2), iI p, 1, sa', Da', sb', Db', l1, l2, l3, l4) ∧ R30 sa' Da' A ∧ R30 sb' Db' 1 ∧ K ≤ 4 ∧ (K = 4 ↔ noPr k1 k2 = true) ∧ (noPr k1 k2 = false → (K = 3 ↔ (k1 = 3 ∨ k2 = 3))) ∧ bl A ≤ 106 ∧ -2200 ≤ p ∧ p ≤ 2200 ∧ (noPr k1 k2 = false → ¬ (k1 = 3 ∨ k2 = 3) → A = vM f1 t1 * vM f2 t2 ∧ p = vE f1 t1 + vE f2 t2) := by
    intro hno h3
    exact ⟨3, vM f1 t1, vE f1 t1, sa, Da, sb, Db, ll, ld, tl, td, rfl, y2, y3, by omega, ⟨fun h => absurd h (by decide), fun h => by rw [hno] at h; cases h⟩, fun _ => ⟨fun _ => h3, fun _ => rfl⟩, by omega, by omega, by omega, fun _ h => absurd h3 h⟩
  by_cases h14 : k1 = 4
  · rw [if_pos (by rw [h14]; rfl)]; exact hbad (by rw [h14]; rfl)
  · rw [if_neg (c4 k1 hk1 h14)]
    by_cases h24 : k2 = 4
    · rw [if_pos (by rw [h24]; rfl)]; exact hbad (by rw [h24]; unfold noPr; simp)
    · rw [if_neg (c4 k2 hk2 h24)]
      by_cases h13 : k1 = 3
      · rw [if_pos (by rw [h13]; rfl)]
        by_cases h20 : k2 = 0
        · rw [if_pos (by rw [h20]; rfl)]; exact hbad (by rw [h13, h20]; rfl)
        · have hno : noPr k1 k2 = false := by rw [h13]; unfold noPr; simp; omega
          rw [if_neg (c0 k2 hk2 h20), if_neg (c0 k1 hk1 (by omega)), if_pos (by rw [h13]; rfl)]
          exact hend hno (Or.inl h13)
      · rw [if_neg (c3 k1 hk1 h13)]
        by_cases h23 : k2 = 3
        · by_cases h10 : k1 = 0
          · rw [if_pos (by rw [h10]; rfl), if_pos (by rw [h23]; rfl)]; exact hbad (by rw [h10, h23]; rfl)
          · have hno : noPr k1 k2 = false := by rw [h23]; unfold noPr; simp; omega
            rw [if_neg (c0 k1 hk1 h10), if_neg (c3 k1 hk1 h13), if_pos (by rw [h23]; rfl)]
            exact hend hno (Or.inr h23)
        · have hno : noPr k1 k2 = false := by unfold noPr; simp; omega
          obtain ⟨l1, l2, l3, l4, sc, Dc, w1, w2⟩ := x11_timesLong y2 (u := vM f2 t2) (by omega) (p519' (bl_mul106 hm1 hm2) (by omega)) ll ld tl td
          have hfin : ∃ K A p sa' Da' sb' Db' l1 l2 l3 l4, ((f_X11_timesLong (uL (vM f2 t2)) ll ld tl td sa Da).bind fun u7 => if u7.2.2.2.2.1 = 0 then some ((0 : Int32), uI k2, uI s2, uL (vM f2 t2), iI (vE f2 t2), uI (prS s1 s2), iI (vE f1 t1) + iI (vE f2 t2), (1 : Int32), u7.2.2.2.2.1, u7.2.2.2.2.2, sb, Db, u7.1, u7.2.1, u7.2.2.1, u7.2.2.2.1) else some ((2 : Int32), uI k2, uI s2, uL (vM f2 t2), iI (vE f2 t2), uI (prS s1 s2), iI (vE f1 t1) + iI (vE f2 t2), (1 : Int32), u7.2.2.2.2.1, u7.2.2.2.2.2, sb, Db, u7.1, u7.2.1, u7.2.2.1, u7.2.2.2.1)) = some (uI K, uI k2, uI s2, uL (vM f2 t2), iI (vE f2 t2), uI (prS s1 s2), iI p, 1, sa', Da', sb', Db', l1, l2, l3, l4) ∧ R30 sa' Da' A ∧ R30 sb' Db' 1 ∧ K ≤ 4 ∧ (K = 4 ↔ noPr k1 k2 = true) ∧ (noPr k1 k2 = false → (K = 3 ↔ (k1 = 3 ∨ k2 = 3))) ∧ bl A ≤ 106 ∧ -2200 ≤ p ∧ p ≤ 2200 ∧ (noPr k1 k2 = false → ¬ (k1 = 3 ∨ k2 = 3) → A = vM f1 t1 * vM f2 t2 ∧ p = vE f1 t1 + vE f2 t2) := by
            rw [w1, Option.bind_some, iI_add]
            by_cases hz : sc = 0
            · rw [if_pos (by exact hz)]
              exact ⟨0, vM f1 t1 * vM f2 t2, vE f1 t1 + vE f2 t2, sc, Dc, sb, Db, l1, l2, l3, l4, rfl, w2, y3, by omega, ⟨fun h => absurd h (by decide), fun h => by rw [hno] at h; cases h⟩, fun _ => ⟨fun h => absurd h (by decide), fun h => by omega⟩, bl_mul106 hm1 hm2, by omega, by omega, fun _ _ => ⟨rfl, rfl⟩⟩
            · rw [if_neg (by exact hz)]
              exact ⟨2, vM f1 t1 * vM f2 t2, vE f1 t1 + vE f2 t2, sc, Dc, sb, Db, l1, l2, l3, l4, rfl, w2, y3, by omega, ⟨fun h => absurd h (by decide), fun h => by rw [hno] at h; cases h⟩, fun _ => ⟨fun h => absurd h (by decide), fun h => by omega⟩, bl_mul106 hm1 hm2, by omega, by omega, fun _ _ => ⟨rfl, rfl⟩⟩
          by_cases h10 : k1 = 0
          · rw [if_pos (by rw [h10]; rfl), if_neg (c3 k2 hk2 h23), if_neg (c3 k1 hk1 h13), if_neg (c3 k2 hk2 h23)]; exact hfin
          · rw [if_neg (c0 k1 hk1 h10), if_neg (c3 k1 hk1 h13), if_neg (c3 k2 hk2 h23)]; exact hfin
theorem k_times {F : Nat → Int32} {G : Nat → Int64} (h : wfp F G) (p1 : Int32) (p2 : Int32) (p3 : Int32) (p4 : Int32) (c_first_kind : Int32) (c_first_minus : Int32) (c_first_m : Int64) (c_first_e : Int32) (c_first_narrowBelow : Int32) (c_second_kind : Int32) (c_second_minus : Int32) (c_second_m : Int64) (c_second_e : Int32) (c_second_narrowBelow : Int32) (c_acts_left_size : Int32) (c_acts_left_limbs : Nat → Int64) (c_acts_right_size : Int32) (c_acts_right_limbs : Nat → Int64) (r_kind : Int32) (r_minus : Int32) (r_m : Int64) (r_e : Int32) (r_sign : Int32) (r_power : Int32) (r_root : Int32) (r_thrown : Int32) (r_a_len : Int32) (r_a_d : Nat → Int32) (r_b_len : Int32) (r_b_d : Nat → Int32) (r_left_len : Int32) (r_left_d : Nat → Int32) (r_right_len : Int32) (r_right_d : Nat → Int32) (r_longs_len : Int32) (r_longs_d : Nat → Int32) (r_third_len : Int32) (r_third_d : Nat → Int32) :
    (∃ n, (n = 1 ∨ n = 2) ∧ (∃ x, f_X9_times F p1 p2 p3 p4 G c_first_kind c_first_minus c_first_m c_first_e c_first_narrowBelow c_second_kind c_second_minus c_second_m c_second_e c_second_narrowBelow c_acts_left_size c_acts_left_limbs c_acts_right_size c_acts_right_limbs = some (.inl (n, G, x))) ∧ (∃ k m l e sg pw rt y, f_X11_times p1 p2 p3 p4 r_kind r_minus r_m r_e r_sign r_power r_root r_thrown F G r_a_len r_a_d r_b_len r_b_d r_left_len r_left_d r_right_len r_right_d r_longs_len r_longs_d r_third_len r_third_d = some (k, m, l, e, sg, pw, rt, uI n, F, G, y))) ∨
    (∃ G', wfp F G' ∧ (∃ x, f_X9_times F p1 p2 p3 p4 G c_first_kind c_first_minus c_first_m c_first_e c_first_narrowBelow c_second_kind c_second_minus c_second_m c_second_e c_second_narrowBelow c_acts_left_size c_acts_left_limbs c_acts_right_size c_acts_right_limbs = some (.inr (G', x))) ∧ (∃ k m l e sg pw rt y, f_X11_times p1 p2 p3 p4 r_kind r_minus r_m r_e r_sign r_power r_root r_thrown F G r_a_len r_a_d r_b_len r_b_d r_left_len r_left_d r_right_len r_right_d r_longs_len r_longs_d r_third_len r_third_d = some (k, m, l, e, sg, pw, rt, 0, F, G', y))) := by
  rcases l2_cases h p1 p2 p3 p4 c_first_kind c_first_minus c_first_m c_first_e c_first_narrowBelow c_second_kind c_second_minus c_second_m c_second_e c_second_narrowBelow with ⟨a, b, r, w, f1, s1, t1, f2, s2, t2, ha, hb, hr, hw, rfl, rfl, rfl, rfl, i1, i2, i3, i4, g1, g2, g3, g4, g5, q1, q2, q3, q4, q5, hl⟩ | ⟨hl, hi⟩ | ⟨hl, i1, i2, i3, i4⟩
  · right
    obtain ⟨f, s3, t3, z1, z2, z3, z4, z5⟩ := h r hr
    have hV1 := isV_of g1 g2 g3
    have hV2 := isV_of q1 q2 q3
    have hupd : ∀ P, isP f P → wfp F (vp_updL G r (uL P)) := by
      intro P hP
      have := wfp_upd (r := r) h z1 hP
      rw [upd_self z4] at this
      exact this
    obtain ⟨a5, a6, a7, a8, hc⟩ := x0_product hV1 hV2 z1 hw c_acts_left_size c_acts_left_limbs c_acts_right_size c_acts_right_limbs
    have hP : isP f (if noPr (vK f1 t1) (vK f2 t2) then patNone f else if vK f1 t1 = 3 ∨ vK f2 t2 = 3 then pat f (prS s1 s2) (fInf f) else rcP f w (prS s1 s2) (vM f1 t1 * vM f2 t2) (vE f1 t1 + vE f2 t2) false) := by
      split
      · exact isP_none z1
      · split
        · exact isP_inf z1 (prS_le _ _)
        · exact isP_rcP z1 (prS_le _ _)
    refine ⟨_, hupd _ hP, ⟨(uI (vK f1 t1), uI s1, uL (vM f1 t1), iI (vE f1 t1), bI (vN f1 t1), uI (vK f2 t2), uI s2, uL (vM f2 t2), iI (vE f2 t2), bI (vN f2 t2), a5, a6, a7, a8), ?_⟩, ?_⟩
    · unfold f_X9_times
      simp only [hl, Option.bind_some, sm, Sum.elim_inl, Sum.elim_inr, i00, i10, i20, if_true, if_false, go0, go10, go11, if_pos (vIn16 hr), uI_clamp (show r < 2147483648 by omega), z4, hc]
    · unfold f_X11_times f_X11_times_B27
      obtain ⟨K, A, p, sa, Da, sb, Db, l1, l2, l3, l4, y1, y2, y3, y4, y5, y6, y7, y8, y9, y10⟩ := x11_product ha hb g1 g2 g3 g4 g5 q1 q2 q3 q4 q5 r_kind r_minus r_m r_e r_sign r_power r_root r_a_len r_a_d r_b_len r_b_d r_longs_len r_longs_d r_third_len r_third_d
      simp only [i1, i2, i3, i4, Option.bind_some, sm, Sum.elim_inl, Sum.elim_inr, i00, i10, i20, if_true, if_false, go0, go10, go11, y1, if_pos (vIn16 hr), uI_clamp (show r < 2147483648 by omega), z4]
      cases hno : noPr (vK f1 t1) (vK f2 t2)
      · have k4 : ¬ K = 4 := fun x => by rw [y5.mp x] at hno; cases hno
        have n4 : ¬ uI K = (4 : Int32) := fun x => k4 ((uI_eq (b := 4) (by omega) (by omega)).mp x)
        simp only [if_neg n4, if_neg (show ¬ (false = true) by decide)]
        by_cases h3 : vK f1 t1 = 3 ∨ vK f2 t2 = 3
        · have k3 := (y6 hno).mpr h3
          simp only [if_pos h3, if_pos (show uI K = (3 : Int32) by rw [k3]; rfl), x11_putEndless F G z1 (prS_le s1 s2) hr, Option.bind_some, upd_self z4]
          exact ⟨_, _, _, _, _, _, _, _, rfl⟩
        · have k3 : ¬ K = 3 := fun x => h3 ((y6 hno).mp x)
          have n3 : ¬ uI K = (3 : Int32) := fun x => k3 ((uI_eq (b := 3) (by omega) (by omega)).mp x)
          obtain ⟨rfl, rfl⟩ := y10 hno h3
          obtain ⟨q, hq⟩ := x11_round1 (p := vE f1 t1 + vE f2 t2) (sg := prS s1 s2) F G y2 y3 (by omega) (by omega) (by omega) z1 (prS_le s1 s2) hw hr r_left_len r_left_d r_right_len r_right_d l1 l2 l3 l4
          rw [upd_self z4] at hq
          simp only [if_neg h3, if_neg n3, hq, Option.bind_some]
          exact ⟨_, _, _, _, _, _, _, _, rfl⟩
      · have k4 := y5.mpr hno
        simp only [if_pos (show uI K = (4 : Int32) by rw [k4]; rfl), if_true, x11_putNone F G z1 hr, Option.bind_some, upd_self z4]
        exact ⟨_, _, _, _, _, _, _, _, rfl⟩
  · left
    refine ⟨1, Or.inl rfl, ⟨(c_first_kind, c_first_minus, c_first_m, c_first_e, c_first_narrowBelow, c_second_kind, c_second_minus, c_second_m, c_second_e, c_second_narrowBelow, c_acts_left_size, c_acts_left_limbs, c_acts_right_size, c_acts_right_limbs), ?_⟩, ?_⟩
    · unfold f_X9_times; simp only [hl, Option.bind_some, sm, Sum.elim_inl, Sum.elim_inr, i00, i10, i20, if_true, if_false, go0, go10, go11]
    · unfold f_X11_times f_X11_times_B26 f_X11_times_B27
      rcases hi with i1 | ⟨i1, i2⟩ | ⟨i1, i2, i3⟩
      · rcases wy_cases p4 with ⟨_, _, _, _, d2⟩ | ⟨_, d2⟩
        · simp only [i1, d2, Option.bind_some, sm, Sum.elim_inl, Sum.elim_inr, i00, i10, i20, if_true, if_false, go0, go10, go11]; exact ⟨_, _, _, _, _, _, _, _, rfl⟩
        · simp only [i1, d2, Option.bind_some, sm, Sum.elim_inl, Sum.elim_inr, i00, i10, i20, if_true, if_false, go0, go10, go11]; exact ⟨_, _, _, _, _, _, _, _, rfl⟩
      · rcases wy_cases p4 with ⟨_, _, _, _, d2⟩ | ⟨_, d2⟩
        · simp only [i1, i2, d2, Option.bind_some, sm, Sum.elim_inl, Sum.elim_inr, i00, i10, i20, if_true, if_false, go0, go10, go11]; exact ⟨_, _, _, _, _, _, _, _, rfl⟩
        · simp only [i1, i2, d2, Option.bind_some, sm, Sum.elim_inl, Sum.elim_inr, i00, i10, i20, if_true, if_false, go0, go10, go11]; exact ⟨_, _, _, _, _, _, _, _, rfl⟩
      · rcases wy_cases p4 with ⟨_, _, _, _, d2⟩ | ⟨_, d2⟩
        · simp only [i1, i2, i3, d2, Option.bind_some, sm, Sum.elim_inl, Sum.elim_inr, i00, i10, i20, if_true, if_false, go0, go10, go11]; exact ⟨_, _, _, _, _, _, _, _, rfl⟩
        · simp only [i1, i2, i3, d2, Option.bind_some, sm, Sum.elim_inl, Sum.elim_inr, i00, i10, i20, if_true, if_false, go0, go10, go11]; exact ⟨_, _, _, _, _, _, _, _, rfl⟩
  · left
    refine ⟨2, Or.inr rfl, ⟨(c_first_kind, c_first_minus, c_first_m, c_first_e, c_first_narrowBelow, c_second_kind, c_second_minus, c_second_m, c_second_e, c_second_narrowBelow, c_acts_left_size, c_acts_left_limbs, c_acts_right_size, c_acts_right_limbs), ?_⟩, ?_⟩
    · unfold f_X9_times; simp only [hl, Option.bind_some, sm, Sum.elim_inl, Sum.elim_inr, i00, i10, i20, if_true, if_false, go0, go10, go11]
    · unfold f_X11_times f_X11_times_B26 f_X11_times_B27
      simp only [i1, i2, i3, i4, Option.bind_some, sm, Sum.elim_inl, Sum.elim_inr, i00, i10, i20, if_true, if_false, go0, go10, go11]; exact ⟨_, _, _, _, _, _, _, _, rfl⟩
theorem k_fused {F : Nat → Int32} {G : Nat → Int64} (h : wfp F G) (p1 : Int32) (p2 : Int32) (p3 : Int32) (p4 : Int32) (c_first_kind : Int32) (c_first_minus : Int32) (c_first_m : Int64) (c_first_e : Int32) (c_first_narrowBelow : Int32) (c_second_kind : Int32) (c_second_minus : Int32) (c_second_m : Int64) (c_second_e : Int32) (c_second_narrowBelow : Int32) (c_third_kind : Int32) (c_third_minus : Int32) (c_third_m : Int64) (c_third_e : Int32) (c_third_narrowBelow : Int32) (c_acts_left_size : Int32) (c_acts_left_limbs : Nat → Int64) (c_acts_right_size : Int32) (c_acts_right_limbs : Nat → Int64) (r_kind : Int32) (r_minus : Int32) (r_m : Int64) (r_e : Int32) (r_sign : Int32) (r_power : Int32) (r_root : Int32) (r_thrown : Int32) (r_otherSign : Int32) (r_otherPower : Int32) (r_a_len : Int32) (r_a_d : Nat → Int32) (r_b_len : Int32) (r_b_d : Nat → Int32) (r_left_len : Int32) (r_left_d : Nat → Int32) (r_right_len : Int32) (r_right_d : Nat → Int32) (r_longs_len : Int32) (r_longs_d : Nat → Int32) (r_third_len : Int32) (r_third_d : Nat → Int32) (r_other_len : Int32) (r_other_d : Nat → Int32) :
    (∃ n, (n = 1 ∨ n = 2) ∧ (∃ x, f_X9_fused F p1 p2 p3 p4 G c_first_kind c_first_minus c_first_m c_first_e c_first_narrowBelow c_second_kind c_second_minus c_second_m c_second_e c_second_narrowBelow c_third_kind c_third_minus c_third_m c_third_e c_third_narrowBelow c_acts_left_size c_acts_left_limbs c_acts_right_size c_acts_right_limbs = some (.inl (n, G, x))) ∧ (∃ k m l e sg pw rt os op y, f_X11_fused p1 p2 p3 p4 r_kind r_minus r_m r_e r_sign r_power r_root r_thrown r_otherSign r_otherPower F G r_a_len r_a_d r_b_len r_b_d r_left_len r_left_d r_right_len r_right_d r_longs_len r_longs_d r_third_len r_third_d r_other_len r_other_d = some (k, m, l, e, sg, pw, rt, uI n, os, op, F, G, y))) ∨
    (∃ G', wfp F G' ∧ (∃ x, f_X9_fused F p1 p2 p3 p4 G c_first_kind c_first_minus c_first_m c_first_e c_first_narrowBelow c_second_kind c_second_minus c_second_m c_second_e c_second_narrowBelow c_third_kind c_third_minus c_third_m c_third_e c_third_narrowBelow c_acts_left_size c_acts_left_limbs c_acts_right_size c_acts_right_limbs = some (.inr (G', x))) ∧ (∃ k m l e sg pw rt os op y, f_X11_fused p1 p2 p3 p4 r_kind r_minus r_m r_e r_sign r_power r_root r_thrown r_otherSign r_otherPower F G r_a_len r_a_d r_b_len r_b_d r_left_len r_left_d r_right_len r_right_d r_longs_len r_longs_d r_third_len r_third_d r_other_len r_other_d = some (k, m, l, e, sg, pw, rt, 0, os, op, F, G', y))) := by
  rcases l2_cases h p1 p2 p3 p4 c_first_kind c_first_minus c_first_m c_first_e c_first_narrowBelow c_second_kind c_second_minus c_second_m c_second_e c_second_narrowBelow with ⟨a, b, r, w, f1, s1, t1, f2, s2, t2, ha, hb, hr, hw, rfl, rfl, rfl, rfl, i1, i2, i3, i4, g1, g2, g3, g4, g5, q1, q2, q3, q4, q5, hl⟩ | ⟨hl, hi⟩ | ⟨hl, i1, i2, i3, i4⟩
  · right
    obtain ⟨f, s3, t3, z1, z2, z3, z4, z5⟩ := h r hr
    have hV1 := isV_of g1 g2 g3
    have hV2 := isV_of q1 q2 q3
    have hupd : ∀ P, isP f P → wfp F (vp_updL G r (uL P)) := by
      intro P hP
      have := wfp_upd (r := r) h z1 hP
      rw [upd_self z4] at this
      exact this
    have hV3 := isV_of z1 z2 z3
    obtain ⟨a5, a6, a7, a8, hc⟩ := x0_productAndSum hV1 hV2 hV3 z1 hw c_acts_left_size c_acts_left_limbs c_acts_right_size c_acts_right_limbs
    have hP : isP f (if noPr (vK f1 t1) (vK f2 t2) ∨ vK f t3 = 4 then patNone f else sumP f w (vK f1 t1 == 3 || vK f2 t2 == 3) (prS s1 s2) (vM f1 t1 * vM f2 t2) (vE f1 t1 + vE f2 t2) (vK f t3) s3 (vM f t3) (vE f t3)) := by
      split
      · exact isP_none z1
      · exact isP_sumP z1 (prS_le _ _) z2
    refine ⟨_, hupd _ hP, ⟨(uI (vK f1 t1), uI s1, uL (vM f1 t1), iI (vE f1 t1), bI (vN f1 t1), uI (vK f2 t2), uI s2, uL (vM f2 t2), iI (vE f2 t2), bI (vN f2 t2), uI (vK f t3), uI s3, uL (vM f t3), iI (vE f t3), bI (vN f t3), a5, a6, a7, a8), ?_⟩, ?_⟩
    · unfold f_X9_fused
      simp only [hl, Option.bind_some, sm, Sum.elim_inl, Sum.elim_inr, i00, i10, i20, if_true, if_false, go0, go10, go11, x9_look hr z4 z5 z1 z2 z3, if_pos (vIn16 hr), uI_clamp (show r < 2147483648 by omega), z4, hc]
    · unfold f_X11_fused f_X11_fused_B27
      obtain ⟨K, A, p, sa, Da, sb, Db, l1, l2, l3, l4, y1, y2, y3, y4, y5, y6, y7, y8, y9, y10⟩ := x11_product ha hb g1 g2 g3 g4 g5 q1 q2 q3 q4 q5 r_kind r_minus r_m r_e r_sign r_power r_root r_a_len r_a_d r_b_len r_b_d r_longs_len r_longs_d r_third_len r_third_d
      obtain ⟨b1, b2, b3, b4, b5, hal⟩ := x11_addLooked (sa := prS s1 s2) (k1 := K) (p := p) (way := w) (rr := r) F G y2 y3 (by omega) y4 (prS_le _ _) (by omega) (by omega) hV3 z4 z1 hw hr r_otherSign r_otherPower r_left_len r_left_d r_right_len r_right_d l1 l2 l3 l4 r_other_len r_other_d
      rw [upd_self z4] at hal
      have he : (if K = 4 ∨ vK f t3 = 4 then patNone f else sumP f w (K == 3) (prS s1 s2) A p (vK f t3) s3 (vM f t3) (vE f t3)) = (if noPr (vK f1 t1) (vK f2 t2) ∨ vK f t3 = 4 then patNone f else sumP f w (vK f1 t1 == 3 || vK f2 t2 == 3) (prS s1 s2) (vM f1 t1 * vM f2 t2) (vE f1 t1 + vE f2 t2) (vK f t3) s3 (vM f t3) (vE f t3)) := by
        by_cases hor : K = 4 ∨ vK f t3 = 4
        · rw [if_pos hor, if_pos (by rcases hor with x | x; exact Or.inl (y5.mp x); exact Or.inr x)]
        · have hno : noPr (vK f1 t1) (vK f2 t2) = false := by
            cases hh : noPr (vK f1 t1) (vK f2 t2)
            · rfl
            · exact absurd (Or.inl (y5.mpr hh)) hor
          rw [if_neg hor, hno, if_neg (by rintro (x | x); cases x; exact hor (Or.inr x))]
          by_cases h3 : vK f1 t1 = 3 ∨ vK f2 t2 = 3
          · have k3 := (y6 hno).mpr h3
            have e1 : (K == 3) = true := beq_iff_eq.mpr k3
            have e2 : (vK f1 t1 == 3 || vK f2 t2 == 3) = true := by
              rw [Bool.or_eq_true, beq_iff_eq, beq_iff_eq]; exact h3
            rw [e1, e2]
            unfold sumP
            rw [if_pos (Or.inl rfl), if_pos (Or.inl rfl)]
          · have k3 : ¬ K = 3 := fun x => h3 ((y6 hno).mp x)
            have e1 : (K == 3) = false := beq_false_of_ne k3
            have e2 : (vK f1 t1 == 3 || vK f2 t2 == 3) = false := by
              rw [beq_false_of_ne (fun x => h3 (Or.inl x)), beq_false_of_ne (fun x => h3 (Or.inr x))]; rfl
            obtain ⟨rfl, rfl⟩ := y10 hno h3
            rw [e1, e2]
      rw [he] at hal
      simp only [i1, i2, i3, i4, Option.bind_some, sm, Sum.elim_inl, Sum.elim_inr, i00, i10, i20, if_true, if_false, go0, go10, go11, y1, x11_look hr z4 z5 z1 z2 z3, hal]
      exact ⟨_, _, _, _, _, _, _, _, _, _, rfl⟩
  · left
    refine ⟨1, Or.inl rfl, ⟨(c_first_kind, c_first_minus, c_first_m, c_first_e, c_first_narrowBelow, c_second_kind, c_second_minus, c_second_m, c_second_e, c_second_narrowBelow, c_third_kind, c_third_minus, c_third_m, c_third_e, c_third_narrowBelow, c_acts_left_size, c_acts_left_limbs, c_acts_right_size, c_acts_right_limbs), ?_⟩, ?_⟩
    · unfold f_X9_fused; simp only [hl, Option.bind_some, sm, Sum.elim_inl, Sum.elim_inr, i00, i10, i20, if_true, if_false, go0, go10, go11]
    · unfold f_X11_fused f_X11_fused_B26 f_X11_fused_B27
      rcases hi with i1 | ⟨i1, i2⟩ | ⟨i1, i2, i3⟩
      · rcases wy_cases p4 with ⟨_, _, _, _, d2⟩ | ⟨_, d2⟩
        · simp only [i1, d2, Option.bind_some, sm, Sum.elim_inl, Sum.elim_inr, i00, i10, i20, if_true, if_false, go0, go10, go11]; exact ⟨_, _, _, _, _, _, _, _, _, _, rfl⟩
        · simp only [i1, d2, Option.bind_some, sm, Sum.elim_inl, Sum.elim_inr, i00, i10, i20, if_true, if_false, go0, go10, go11]; exact ⟨_, _, _, _, _, _, _, _, _, _, rfl⟩
      · rcases wy_cases p4 with ⟨_, _, _, _, d2⟩ | ⟨_, d2⟩
        · simp only [i1, i2, d2, Option.bind_some, sm, Sum.elim_inl, Sum.elim_inr, i00, i10, i20, if_true, if_false, go0, go10, go11]; exact ⟨_, _, _, _, _, _, _, _, _, _, rfl⟩
        · simp only [i1, i2, d2, Option.bind_some, sm, Sum.elim_inl, Sum.elim_inr, i00, i10, i20, if_true, if_false, go0, go10, go11]; exact ⟨_, _, _, _, _, _, _, _, _, _, rfl⟩
      · rcases wy_cases p4 with ⟨_, _, _, _, d2⟩ | ⟨_, d2⟩
        · simp only [i1, i2, i3, d2, Option.bind_some, sm, Sum.elim_inl, Sum.elim_inr, i00, i10, i20, if_true, if_false, go0, go10, go11]; exact ⟨_, _, _, _, _, _, _, _, _, _, rfl⟩
        · simp only [i1, i2, i3, d2, Option.bind_some, sm, Sum.elim_inl, Sum.elim_inr, i00, i10, i20, if_true, if_false, go0, go10, go11]; exact ⟨_, _, _, _, _, _, _, _, _, _, rfl⟩
  · left
    refine ⟨2, Or.inr rfl, ⟨(c_first_kind, c_first_minus, c_first_m, c_first_e, c_first_narrowBelow, c_second_kind, c_second_minus, c_second_m, c_second_e, c_second_narrowBelow, c_third_kind, c_third_minus, c_third_m, c_third_e, c_third_narrowBelow, c_acts_left_size, c_acts_left_limbs, c_acts_right_size, c_acts_right_limbs), ?_⟩, ?_⟩
    · unfold f_X9_fused; simp only [hl, Option.bind_some, sm, Sum.elim_inl, Sum.elim_inr, i00, i10, i20, if_true, if_false, go0, go10, go11]
    · unfold f_X11_fused f_X11_fused_B26 f_X11_fused_B27
      simp only [i1, i2, i3, i4, Option.bind_some, sm, Sum.elim_inl, Sum.elim_inr, i00, i10, i20, if_true, if_false, go0, go10, go11]; exact ⟨_, _, _, _, _, _, _, _, _, _, rfl⟩
