/-! over, root -/
/-- a quotient's pattern -/
def quR (f way k1 s1 m1 : Nat) (e1 : Int) (k2 s2 m2 : Nat) (e2 : Int) (P : Nat) : Prop :=
  if k1 = 4 ∨ k2 = 4 ∨ (k1 = 0 ∧ k2 = 0) ∨ (k1 = 3 ∧ k2 = 3) then P = patNone f
  else if k1 = 3 ∨ k2 = 0 then P = pat f (prS s1 s2) (fInf f)
  else if k1 = 0 ∨ k2 = 3 then P = pat f (prS s1 s2) 0
  else isR f way (prS s1 s2) (m1 * 2 ^ lnU f (e1 - e2)) (m2 * 2 ^ lnD f (e1 - e2)) 1 P
theorem quR_uniq {f way k1 s1 m1 k2 s2 m2 P Q : Nat} {e1 e2 : Int} (h1 : quR f way k1 s1 m1 e1 k2 s2 m2 e2 P) (h2 : quR f way k1 s1 m1 e1 k2 s2 m2 e2 Q) : P = Q := by
  unfold quR at h1 h2
  split at h1
  · rename_i hh; rw [if_pos hh] at h2; rw [h1, h2]
  · rename_i hh; rw [if_neg hh] at h2
    split at h1
    · rename_i hh; rw [if_pos hh] at h2; rw [h1, h2]
    · rename_i hh; rw [if_neg hh] at h2
      split at h1
      · rename_i hh; rw [if_pos hh] at h2; rw [h1, h2]
      · rename_i hh; rw [if_neg hh] at h2
        exact isR_uniq h1 h2
theorem quR_isP {f way k1 s1 m1 k2 s2 m2 P : Nat} {e1 e2 : Int} (hf : f ≤ 1) (h1 : quR f way k1 s1 m1 e1 k2 s2 m2 e2 P) : isP f P := by
  unfold quR at h1
  split at h1
  · rw [h1]; exact isP_none hf
  · split at h1
    · rw [h1]; exact isP_inf hf (prS_le _ _)
    · split at h1
      · rw [h1]; exact isP_zero (prS_le _ _)
      · exact isP_isR hf (prS_le _ _) h1
theorem x0_quotient {k1 s1 m1 k2 s2 m2 f way : Nat} {e1 e2 : Int} (h1 : isV k1 s1 m1 e1) (h2 : isV k2 s2 m2 e2) (hf : f ≤ 1) (hw : way < 4) (ls : Int32) (ll : Nat → Int64) (rs : Int32) (rl : Nat → Int64) :
    ∃ P s L s3 L3, f_X0_quotient (uI k1) (uI s1) (uL m1) (iI e1) (uI k2) (uI s2) (uL m2) (iI e2) (uI f) (uI way) ls ll rs rl = some (uL P, s, L, s3, L3) ∧ quR f way k1 s1 m1 e1 k2 s2 m2 e2 P := by
  obtain ⟨hk1, hs1, hm1, e11, e12, z1, nz1, _⟩ := h1
  obtain ⟨hk2, hs2, hm2, e21, e22, z2, nz2, _⟩ := h2
  have c4 : ∀ k : Nat, k ≤ 4 → k ≠ 4 → ¬ uI k = (4 : Int32) := fun k h1 h2 x => h2 ((uI_eq (b := 4) (by omega) (by omega)).mp x)
  have c3 : ∀ k : Nat, k ≤ 4 → k ≠ 3 → ¬ uI k = (3 : Int32) := fun k h1 h2 x => h2 ((uI_eq (b := 3) (by omega) (by omega)).mp x)
  have c0 : ∀ k : Nat, k ≤ 4 → k ≠ 0 → ¬ uI k = (0 : Int32) := fun k h1 h2 x => h2 ((uI_eq0 (by omega)).mp x)
  have hB : ∃ P s L s3 L3, f_X0_quotient_B16 (uI k1) (uI s1) (uL m1) (iI e1) (uI k2) (uI s2) (uL m2) (iI e2) (uI f) (uI way) (uI (prS s1 s2)) ls ll rs rl = some (uL P, s, L, s3, L3) ∧ quR f way k1 s1 m1 e1 k2 s2 m2 e2 P := by
    have hnone : (k1 = 4 ∨ k2 = 4 ∨ (k1 = 0 ∧ k2 = 0) ∨ (k1 = 3 ∧ k2 = 3)) → ∃ P s L s3 L3, f_X0_quotient_B88 (uI k1) (uI s1) (uL m1) (iI e1) (uI k2) (uI s2) (uL m2) (iI e2) (uI f) ls ll rs rl = some (uL P, s, L, s3, L3) ∧ quR f way k1 s1 m1 e1 k2 s2 m2 e2 P := by
      intro hh
      unfold f_X0_quotient_B88 quR
      rw [x2_none hf, Option.bind_some]
      exact ⟨_, _, _, _, _, rfl, by rw [if_pos hh]⟩
    have hrest : ¬ (k1 = 4 ∨ k2 = 4 ∨ (k1 = 0 ∧ k2 = 0) ∨ (k1 = 3 ∧ k2 = 3)) → ∀ a b : Int32, a = 0 → b = 0 → ∃ P s L s3 L3, f_X0_quotient_B60 (uI k1) (uI s1) (uL m1) (iI e1) (uI k2) (uI s2) (uL m2) (iI e2) (uI f) (uI way) (uI (prS s1 s2)) a b ls ll rs rl = some (uL P, s, L, s3, L3) ∧ quR f way k1 s1 m1 e1 k2 s2 m2 e2 P := by
      rintro hh a b rfl rfl
      unfold f_X0_quotient_B60 f_X0_quotient_B108 f_X0_quotient_B130 quR
      simp only [if_neg hh]
      rw [if_neg (c4 k1 hk1 (by omega)), if_neg (c4 k2 hk2 (by omega)), if_pos (by first | exact rfl | exact trivial), if_pos (by first | exact rfl | exact trivial)]
      by_cases h13 : k1 = 3
      · rw [if_pos (by rw [h13]; rfl), x2_endless hf (prS_le _ _), Option.bind_some]
        exact ⟨_, _, _, _, _, rfl, by rw [if_pos (Or.inl h13)]⟩
      · rw [if_neg (c3 k1 hk1 h13)]
        by_cases h20 : k2 = 0
        · rw [if_pos (by rw [h20]; rfl), x2_endless hf (prS_le _ _), Option.bind_some]
          exact ⟨_, _, _, _, _, rfl, by rw [if_pos (Or.inr h20)]⟩
        · rw [if_neg (c0 k2 hk2 h20)]
          simp only [if_neg (show ¬ (k1 = 3 ∨ k2 = 0) by omega)]
          by_cases h10 : k1 = 0
          · rw [if_pos (by rw [h10]; rfl), x2_nought hf (prS_le _ _), Option.bind_some]
            exact ⟨_, _, _, _, _, rfl, by rw [if_pos (Or.inl h10)]⟩
          · rw [if_neg (c0 k1 hk1 h10)]
            by_cases h23 : k2 = 3
            · rw [if_pos (by rw [h23]; rfl), x2_nought hf (prS_le _ _), Option.bind_some]
              exact ⟨_, _, _, _, _, rfl, by rw [if_pos (Or.inr h23)]⟩
            · rw [if_neg (c3 k2 hk2 h23)]
              simp only [if_neg (show ¬ (k1 = 0 ∨ k2 = 3) by omega)]
              obtain ⟨sx, Lx, t1, t2⟩ := x4_take ls ll (u := m1) (by omega)
              obtain ⟨sy, Ly, t3, t4⟩ := x4_take rs rl (u := m2) (by omega)
              have hb1 : bl m1 ≤ 53 := bl_le_of_lt hm1
              have hb2 : bl m2 ≤ 53 := bl_le_of_lt hm2
              obtain ⟨P, s, L, s3, L3, t5, t6⟩ := x0_divided (x := e1 - e2) (sg := prS s1 s2) t2 t4 (nz1 (by omega)) (nz2 (by omega)) (by omega) (by omega) hf (prS_le _ _) hw (by omega) (by omega)
              rw [t1, Option.bind_some, t3, Option.bind_some, iI_sub, t5, Option.bind_some]
              exact ⟨_, _, _, _, _, rfl, t6⟩
    have hB60n : ∀ a b : Int32, (k1 = 4 ∨ k2 = 4 ∨ (k1 = 0 ∧ k2 = 0 ∧ a = 1) ∨ (k1 = 3 ∧ k2 = 3 ∧ b = 1 ∧ a = 0)) → ∃ P s L s3 L3, f_X0_quotient_B60 (uI k1) (uI s1) (uL m1) (iI e1) (uI k2) (uI s2) (uL m2) (iI e2) (uI f) (uI way) (uI (prS s1 s2)) a b ls ll rs rl = some (uL P, s, L, s3, L3) ∧ quR f way k1 s1 m1 e1 k2 s2 m2 e2 P := by
      intro a b hh
      have hn := hnone (by rcases hh with x | x | ⟨x, y, _⟩ | ⟨x, y, _, _⟩; exact Or.inl x; exact Or.inr (Or.inl x); exact Or.inr (Or.inr (Or.inl ⟨x, y⟩)); exact Or.inr (Or.inr (Or.inr ⟨x, y⟩)))
      unfold f_X0_quotient_B60
      by_cases h14 : k1 = 4
      · rw [if_pos (by rw [h14]; rfl)]; exact hn
      · rw [if_neg (c4 k1 hk1 h14)]
        by_cases h24 : k2 = 4
        · rw [if_pos (by rw [h24]; rfl)]; exact hn
        · rw [if_neg (c4 k2 hk2 h24)]
          rcases hh with x | x | ⟨_, _, rfl⟩ | ⟨_, _, rfl, rfl⟩
          · exact absurd x h14
          · exact absurd x h24
          · rw [if_neg (by decide)]; exact hn
          · rw [if_pos (by exact rfl), if_neg (by decide)]; exact hn
    unfold f_X0_quotient_B16 f_X0_quotient_B36 f_X0_quotient_B37 f_X0_quotient_B59
    by_cases h10 : k1 = 0
    · rw [if_pos (by rw [h10]; rfl)]
      by_cases h20 : k2 = 0
      · rw [if_pos (by rw [h20]; rfl), if_neg (c3 k1 hk1 (by omega))]
        exact hB60n 1 0 (Or.inr (Or.inr (Or.inl ⟨h10, h20, rfl⟩)))
      · rw [if_neg (c0 k2 hk2 h20), if_neg (c3 k1 hk1 (by omega))]
        by_cases h24 : k2 = 4
        · exact hB60n 0 0 (Or.inr (Or.inl h24))
        · exact hrest (by omega) 0 0 rfl rfl
    · rw [if_neg (c0 k1 hk1 h10)]
      by_cases h13 : k1 = 3
      · rw [if_pos (by rw [h13]; rfl)]
        by_cases h23 : k2 = 3
        · rw [if_pos (by rw [h23]; rfl)]
          exact hB60n 0 1 (Or.inr (Or.inr (Or.inr ⟨h13, h23, rfl, rfl⟩)))
        · rw [if_neg (c3 k2 hk2 h23)]
          by_cases h24 : k2 = 4
          · exact hB60n 0 0 (Or.inr (Or.inl h24))
          · exact hrest (by omega) 0 0 rfl rfl
      · rw [if_neg (c3 k1 hk1 h13)]
        by_cases h44 : k1 = 4 ∨ k2 = 4
        · exact hB60n 0 0 (by rcases h44 with x | x; exact Or.inl x; exact Or.inr (Or.inl x))
        · exact hrest (by omega) 0 0 rfl rfl
  unfold f_X0_quotient
  unfold prS at hB
  by_cases hss : s1 = s2
  · rw [if_pos (by rw [hss])]
    rw [if_pos hss] at hB
    exact hB
  · rw [if_neg (by exact fun x => hss ((uI_eq (by omega) (by omega)).mp x))]
    rw [if_neg hss] at hB
    exact hB
theorem k_over {F : Nat → Int32} {G : Nat → Int64} (h : wfp F G) (p1 : Int32) (p2 : Int32) (p3 : Int32) (p4 : Int32) (c_first_kind : Int32) (c_first_minus : Int32) (c_first_m : Int64) (c_first_e : Int32) (c_first_narrowBelow : Int32) (c_second_kind : Int32) (c_second_minus : Int32) (c_second_m : Int64) (c_second_e : Int32) (c_second_narrowBelow : Int32) (c_acts_left_size : Int32) (c_acts_left_limbs : Nat → Int64) (c_acts_right_size : Int32) (c_acts_right_limbs : Nat → Int64) (r_kind : Int32) (r_minus : Int32) (r_m : Int64) (r_e : Int32) (r_sign : Int32) (r_power : Int32) (r_root : Int32) (r_thrown : Int32) (r_a_len : Int32) (r_a_d : Nat → Int32) (r_b_len : Int32) (r_b_d : Nat → Int32) (r_left_len : Int32) (r_left_d : Nat → Int32) (r_right_len : Int32) (r_right_d : Nat → Int32) (r_longs_len : Int32) (r_longs_d : Nat → Int32) (r_third_len : Int32) (r_third_d : Nat → Int32) :
    (∃ n, (n = 1 ∨ n = 2) ∧ (∃ x, f_X9_over F p1 p2 p3 p4 G c_first_kind c_first_minus c_first_m c_first_e c_first_narrowBelow c_second_kind c_second_minus c_second_m c_second_e c_second_narrowBelow c_acts_left_size c_acts_left_limbs c_acts_right_size c_acts_right_limbs = some (.inl (n, G, x))) ∧ (∃ k m l e sg pw rt y, f_X11_over p1 p2 p3 p4 r_kind r_minus r_m r_e r_sign r_power r_root r_thrown F G r_a_len r_a_d r_b_len r_b_d r_left_len r_left_d r_right_len r_right_d r_longs_len r_longs_d r_third_len r_third_d = some (k, m, l, e, sg, pw, rt, uI n, F, G, y))) ∨
    (∃ G', wfp F G' ∧ (∃ x, f_X9_over F p1 p2 p3 p4 G c_first_kind c_first_minus c_first_m c_first_e c_first_narrowBelow c_second_kind c_second_minus c_second_m c_second_e c_second_narrowBelow c_acts_left_size c_acts_left_limbs c_acts_right_size c_acts_right_limbs = some (.inr (G', x))) ∧ (∃ k m l e sg pw rt y, f_X11_over p1 p2 p3 p4 r_kind r_minus r_m r_e r_sign r_power r_root r_thrown F G r_a_len r_a_d r_b_len r_b_d r_left_len r_left_d r_right_len r_right_d r_longs_len r_longs_d r_third_len r_third_d = some (k, m, l, e, sg, pw, rt, 0, F, G', y))) := by
  rcases l2_cases h p1 p2 p3 p4 c_first_kind c_first_minus c_first_m c_first_e c_first_narrowBelow c_second_kind c_second_minus c_second_m c_second_e c_second_narrowBelow with ⟨a, b, r, w, f1, s1, t1, f2, s2, t2, ha, hb, hr, hw, rfl, rfl, rfl, rfl, i1, i2, i3, i4, g1, g2, g3, g4, g5, q1, q2, q3, q4, q5, hl⟩ | ⟨hl, hi⟩ | ⟨hl, i1, i2, i3, i4⟩
  · right
    obtain ⟨f, s3, t3, z1, z2, z3, z4, z5⟩ := h r hr
    have hV1 := isV_of g1 g2 g3
    have hV2 := isV_of q1 q2 q3
    have hupd : ∀ P, isP f P → wfp F (vp_updL G r (uL P)) := by
      intro P hP
      have := wfp_upd (r := r) h z1 hP
      rw [upd_self z4] at this
      exact this
    obtain ⟨P, a5, a6, a7, a8, hc, hQ⟩ := x0_quotient hV1 hV2 z1 hw c_acts_left_size c_acts_left_limbs c_acts_right_size c_acts_right_limbs
    refine ⟨_, hupd _ (quR_isP z1 hQ), ⟨(uI (vK f1 t1), uI s1, uL (vM f1 t1), iI (vE f1 t1), bI (vN f1 t1), uI (vK f2 t2), uI s2, uL (vM f2 t2), iI (vE f2 t2), bI (vN f2 t2), a5, a6, a7, a8), ?_⟩, ?_⟩
    · unfold f_X9_over
      simp only [hl, Option.bind_some, sm, Sum.elim_inl, Sum.elim_inr, i00, i10, i20, if_true, if_false, go0, go10, go11, if_pos (vIn16 hr), uI_clamp (show r < 2147483648 by omega), z4, hc]
    · unfold f_X11_over f_X11_over_B27
      obtain ⟨hk1, _, hm1, e11, e12, _, nz1, _⟩ := hV1
      obtain ⟨hk2, _, hm2, e21, e22, _, nz2, _⟩ := hV2
      obtain ⟨sa, Da, sb, Db, y1, y2, y3⟩ := x11_take (m := vM f1 t1) (by omega) (uI s1) (iI (vE f1 t1)) r_sign r_power r_root r_a_len r_a_d r_b_len r_b_d
      have c4 : ∀ k : Nat, k ≤ 4 → k ≠ 4 → ¬ uI k = (4 : Int32) := fun k h1 h2 x => h2 ((uI_eq (b := 4) (by omega) (by omega)).mp x)
      have c3 : ∀ k : Nat, k ≤ 4 → k ≠ 3 → ¬ uI k = (3 : Int32) := fun k h1 h2 x => h2 ((uI_eq (b := 3) (by omega) (by omega)).mp x)
      have c0 : ∀ k : Nat, k ≤ 4 → k ≠ 0 → ¬ uI k = (0 : Int32) := fun k h1 h2 x => h2 ((uI_eq0 (by omega)).mp x)
      simp only [i1, i2, i3, i4, Option.bind_some, sm, Sum.elim_inl, Sum.elim_inr, i00, i10, i20, if_true, if_false, go0, go10, go11, x11_look ha g4 g5 g1 g2 g3, y1, x11_look hb q4 q5 q1 q2 q3, if_pos (vIn16 hr), uI_clamp (show r < 2147483648 by omega), z4, xor_sg g2 q2]
      generalize hK1 : vK f1 t1 = k1 at *
      generalize hK2 : vK f2 t2 = k2 at *
      have hnone : (k1 = 4 ∨ k2 = 4 ∨ (k1 = 0 ∧ k2 = 0) ∨ (k1 = 3 ∧ k2 = 3)) → ∃ k m l e sg pw rt y, f_X11_over_B120 (uI r) (uI f) (uI k2) (uI s2) (uL (vM f2 t2)) (iI (vE f2 t2)) (uI (prS s1 s2)) (iI (vE f1 t1)) 1 0 F G sa Da sb Db r_left_len r_left_d r_right_len r_right_d r_longs_len r_longs_d r_third_len r_third_d = some (k, m, l, e, sg, pw, rt, 0, F, vp_updL G r (uL P), y) := by
        intro hh
        have hp : P = patNone f := by unfold quR at hQ; rw [if_pos hh] at hQ; exact hQ
        unfold f_X11_over_B120
        rw [x11_putNone F G z1 hr, Option.bind_some, upd_self z4, hp]
        exact ⟨_, _, _, _, _, _, _, _, rfl⟩
      have hrest : ¬ (k1 = 4 ∨ k2 = 4 ∨ (k1 = 0 ∧ k2 = 0) ∨ (k1 = 3 ∧ k2 = 3)) → ∃ k m l e sg pw rt y, f_X11_over_B130 (uI r) (uI w) (uI k1) (uI f) (uI k2) (uI s2) (uL (vM f2 t2)) (iI (vE f2 t2)) (uI (prS s1 s2)) (iI (vE f1 t1)) 1 0 F G sa Da sb Db r_left_len r_left_d r_right_len r_right_d r_longs_len r_longs_d r_third_len r_third_d = some (k, m, l, e, sg, pw, rt, 0, F, vp_updL G r (uL P), y) := by
        intro hh
        unfold quR at hQ
        rw [if_neg hh] at hQ
        unfold f_X11_over_B130 f_X11_over_B143
        by_cases h1e : k1 = 3 ∨ k2 = 0
        · rw [if_pos h1e] at hQ
          have hend : ∃ k m l e sg pw rt y, ((f_X11_putEndless (uI r) (uI f) (uI (prS s1 s2)) F G).bind fun u16 => some (uI k2, uI s2, uL (vM f2 t2), iI (vE f2 t2), uI (prS s1 s2), iI (vE f1 t1), (1 : Int32), (0 : Int32), u16.1, u16.2, sa, Da, sb, Db, r_left_len, r_left_d, r_right_len, r_right_d, r_longs_len, r_longs_d, r_third_len, r_third_d)) = some (k, m, l, e, sg, pw, rt, 0, F, vp_updL G r (uL P), y) := by
            rw [x11_putEndless F G z1 (prS_le s1 s2) hr, Option.bind_some, upd_self z4, hQ]
            exact ⟨_, _, _, _, _, _, _, _, rfl⟩
          by_cases h13 : k1 = 3
          · rw [if_pos (by rw [h13]; rfl)]; exact hend
          · rw [if_neg (c3 k1 hk1 h13), if_pos (by rw [show k2 = 0 by omega]; rfl)]; exact hend
        · rw [if_neg h1e] at hQ
          rw [if_neg (c3 k1 hk1 (by omega)), if_neg (c0 k2 hk2 (by omega))]
          by_cases h23 : k2 = 3
          · rw [if_pos (Or.inr h23)] at hQ
            have hput : f_X11_put (uI r) (uI f) (0 : Int64) (uI (prS s1 s2)) F G = some (upd F r (uI f), vp_updL G r (uL (pat f (prS s1 s2) 0))) := x11_put (t := 0) F G z1 (prS_le s1 s2) (Nat.two_pow_pos _) hr
            rw [if_pos (by rw [h23]; rfl), hput, Option.bind_some, upd_self z4, hQ]
            exact ⟨_, _, _, _, _, _, _, _, rfl⟩
          · rw [if_neg (c3 k2 hk2 h23)]
            obtain ⟨sc, Dc, y4, y5⟩ := x10_set sb Db (u := vM f2 t2) (by omega)
            have hb1 : bl (vM f1 t1) ≤ 53 := bl_le_of_lt hm1
            have hb2 : bl (vM f2 t2) ≤ 53 := bl_le_of_lt hm2
            obtain ⟨P', q, w1, w2⟩ := x11_round (r := 1) (p := vE f1 t1 - vE f2 t2) (sg := prS s1 s2) (way := w) F G y2 y5 (by omega) (by omega) (Nat.pos_of_ne_zero (nz2 (by omega))) (by omega) (by omega) (by omega) (by omega) z1 (prS_le s1 s2) hw hr (r_left_len, r_left_d, r_right_len, r_right_d, r_longs_len, r_longs_d, r_third_len, r_third_d)
            have w1' : f_X11_round (uI (prS s1 s2)) (iI (vE f1 t1 - vE f2 t2)) (1 : Int32) sa Da sc Dc (uI r) (uI f) (uI w) F G r_left_len r_left_d r_right_len r_right_d r_longs_len r_longs_d r_third_len r_third_d = some (upd F r (uI f), vp_updL G r (uL P'), q) := w1
            have hPP : P = P' := by
              have e1 : lnU f (vE f1 t1 - vE f2 t2) = (vE f1 t1 - vE f2 t2 - ((1 : Nat) : Int) * (fLo f - 1)).toNat := by unfold lnU; omega
              have e2 : lnD f (vE f1 t1 - vE f2 t2) = (((1 : Nat) : Int) * (fLo f - 1) - (vE f1 t1 - vE f2 t2)).toNat := by unfold lnD; omega
              by_cases h10 : k1 = 0
              · -- nought by a number
                rw [if_pos (Or.inl h10)] at hQ
                have hm0 : vM f1 t1 = 0 := (by assumption : (k1 = 0 → vM f1 t1 = 0)) h10
                rw [hm0, Nat.zero_mul] at w2
                have hz := rc_isR (way := w) (sg := prS s1 s2) z1 (lnk_exact f 0 0) (fun h => by cases h)
                rw [rcP_zero] at hz
                rw [hQ]
                rcases w2 with ⟨u1, u2⟩ | ⟨t, u1, u2, u3⟩
                · exfalso
                  have hi0 : 0 < fInf f := by rcases f_cases z1 with rfl | rfl <;> decide
                  have := stV_mono (f := f) hi0
                  have hD : 0 < vM f2 t2 * 2 ^ (((1 : Nat) : Int) * (fLo f - 1) - (vE f1 t1 - vE f2 t2)).toNat := Nat.mul_pos (Nat.pos_of_ne_zero (nz2 (by omega))) (Nat.two_pow_pos _)
                  have := Nat.mul_pos hD (Nat.pow_pos (n := 1) (show 0 < 2 * stV f (fInf f) by omega))
                  omega
                · have hD : 0 < vM f2 t2 * 2 ^ (((1 : Nat) : Int) * (fLo f - 1) - (vE f1 t1 - vE f2 t2)).toNat := Nat.mul_pos (Nat.pos_of_ne_zero (nz2 (by omega))) (Nat.two_pow_pos _)
                  have hv0 : stV f 0 = 0 := by unfold stV stM; rw [Nat.zero_div, if_pos rfl, Nat.zero_mul]
                  have ht0 : t = 0 := by
                    apply Nat.eq_zero_of_not_pos
                    intro hp
                    have := stV_mono (f := f) hp
                    have h5 := Nat.mul_pos hD (Nat.pow_pos (n := 1) (show 0 < 2 * stV f t by omega))
                    have := u2.1
                    omega
                  subst ht0
                  rw [u3]
                  unfold outP
                  rw [if_neg (by omega), outT_exact hD (by omega) (by rw [hv0]; simp), if_neg (by omega)]
              · rw [if_neg (show ¬ (k1 = 0 ∨ k2 = 3) by omega), e1, e2] at hQ
                exact isR_uniq hQ w2
            rw [y4, Option.bind_some, iI_sub, w1', Option.bind_some, upd_self z4, hPP]
            exact ⟨_, _, _, _, _, _, _, _, rfl⟩
      unfold f_X11_over_B106
      by_cases h14 : k1 = 4
      · rw [if_pos (by rw [h14]; rfl)]; exact hnone (Or.inl h14)
      · rw [if_neg (c4 k1 hk1 h14)]
        by_cases h24 : k2 = 4
        · rw [if_pos (by rw [h24]; rfl)]; exact hnone (Or.inr (Or.inl h24))
        · rw [if_neg (c4 k2 hk2 h24)]
          by_cases h10 : k1 = 0
          · rw [if_pos (by rw [h10]; rfl)]
            by_cases h20 : k2 = 0
            · rw [if_pos (by rw [h20]; rfl)]; exact hnone (Or.inr (Or.inr (Or.inl ⟨h10, h20⟩)))
            · rw [if_neg (c0 k2 hk2 h20), if_neg (c3 k1 hk1 (by omega))]; exact hrest (by omega)
          · rw [if_neg (c0 k1 hk1 h10)]
            by_cases h13 : k1 = 3
            · rw [if_pos (by rw [h13]; rfl)]
              by_cases h23 : k2 = 3
              · rw [if_pos (by rw [h23]; rfl)]; exact hnone (Or.inr (Or.inr (Or.inr ⟨h13, h23⟩)))
              · rw [if_neg (c3 k2 hk2 h23)]; exact hrest (by omega)
            · rw [if_neg (c3 k1 hk1 h13)]; exact hrest (by omega)
  · left
    refine ⟨1, Or.inl rfl, ⟨(c_first_kind, c_first_minus, c_first_m, c_first_e, c_first_narrowBelow, c_second_kind, c_second_minus, c_second_m, c_second_e, c_second_narrowBelow, c_acts_left_size, c_acts_left_limbs, c_acts_right_size, c_acts_right_limbs), ?_⟩, ?_⟩
    · unfold f_X9_over; simp only [hl, Option.bind_some, sm, Sum.elim_inl, Sum.elim_inr, i00, i10, i20, if_true, if_false, go0, go10, go11]
    · unfold f_X11_over f_X11_over_B26 f_X11_over_B27
      rcases hi with i1 | ⟨i1, i2⟩ | ⟨i1, i2, i3⟩
      · rcases wy_cases p4 with ⟨_, _, _, _, d2⟩ | ⟨_, d2⟩
        · simp only [i1, d2, Option.bind_some, sm, Sum.elim_inl, Sum.elim_inr, i00, i10, i20, if_true, if_false, go0, go10, go11]; exact ⟨_, _, _, _, _, _, _, _, rfl⟩
        · simp only [i1, d2, Option.bind_some, sm, Sum.elim_inl, Sum.elim_inr, i00, i10, i20, if_true, if_false, go0, go10, go11]; exact ⟨_, _, _, _, _, _, _, _, rfl⟩
      · rcases wy_cases p4 with ⟨_, _, _, _, d2⟩ | ⟨_, d2⟩
        · simp only [i1, i2, d2, Option.bind_some, sm, Sum.elim_inl, Sum.elim_inr, i00, i10, i20, if_true, if_false, go0, go10, go11]; exact ⟨_, _, _, _, _, _, _, _, rfl⟩
        · simp only [i1, i2, d2, Option.bind_some, sm, Sum.elim_inl, Sum.elim_inr, i00, i10, i20, if_true, if_false, go0, go10, go11]; exact ⟨_, _, _, _, _, _, _, _, rfl⟩
      · rcases wy_cases p4 with ⟨_, _, _, _, d2⟩ | ⟨_, d2⟩
        · simp only [i1, i2, i3, d2, Option.bind_some, sm, Sum.elim_inl, Sum.elim_inr, i00, i10, i20, if_true, if_false, go0, go10, go11]; exact ⟨_, _, _, _, _, _, _, _, rfl⟩
        · simp only [i1, i2, i3, d2, Option.bind_some, sm, Sum.elim_inl, Sum.elim_inr, i00, i10, i20, if_true, if_false, go0, go10, go11]; exact ⟨_, _, _, _, _, _, _, _, rfl⟩
  · left
    refine ⟨2, Or.inr rfl, ⟨(c_first_kind, c_first_minus, c_first_m, c_first_e, c_first_narrowBelow, c_second_kind, c_second_minus, c_second_m, c_second_e, c_second_narrowBelow, c_acts_left_size, c_acts_left_limbs, c_acts_right_size, c_acts_right_limbs), ?_⟩, ?_⟩
    · unfold f_X9_over; simp only [hl, Option.bind_some, sm, Sum.elim_inl, Sum.elim_inr, i00, i10, i20, if_true, if_false, go0, go10, go11]
    · unfold f_X11_over f_X11_over_B26 f_X11_over_B27
      simp only [i1, i2, i3, i4, Option.bind_some, sm, Sum.elim_inl, Sum.elim_inr, i00, i10, i20, if_true, if_false, go0, go10, go11]; exact ⟨_, _, _, _, _, _, _, _, rfl⟩
theorem k_root {F : Nat → Int32} {G : Nat → Int64} (h : wfp F G) (p1 : Int32) (p2 : Int32) (p3 : Int32) (c_first_kind : Int32) (c_first_minus : Int32) (c_first_m : Int64) (c_first_e : Int32) (c_first_narrowBelow : Int32) (c_acts_left_size : Int32) (c_acts_left_limbs : Nat → Int64) (r_kind : Int32) (r_minus : Int32) (r_m : Int64) (r_e : Int32) (r_sign : Int32) (r_power : Int32) (r_root : Int32) (r_thrown : Int32) (r_a_len : Int32) (r_a_d : Nat → Int32) (r_b_len : Int32) (r_b_d : Nat → Int32) (r_left_len : Int32) (r_left_d : Nat → Int32) (r_right_len : Int32) (r_right_d : Nat → Int32) (r_longs_len : Int32) (r_longs_d : Nat → Int32) (r_third_len : Int32) (r_third_d : Nat → Int32) :
    (∃ n, (n = 1 ∨ n = 2) ∧ (∃ x, f_X9_root F p1 p2 p3 G c_first_kind c_first_minus c_first_m c_first_e c_first_narrowBelow c_acts_left_size c_acts_left_limbs = some (.inl (n, G, x))) ∧ (∃ k m l e sg pw rt y, f_X11_root p1 p2 p3 r_kind r_minus r_m r_e r_sign r_power r_root r_thrown F G r_a_len r_a_d r_b_len r_b_d r_left_len r_left_d r_right_len r_right_d r_longs_len r_longs_d r_third_len r_third_d = some (k, m, l, e, sg, pw, rt, uI n, F, G, y))) ∨
    (∃ G', wfp F G' ∧ (∃ x, f_X9_root F p1 p2 p3 G c_first_kind c_first_minus c_first_m c_first_e c_first_narrowBelow c_acts_left_size c_acts_left_limbs = some (.inr (G', x))) ∧ (∃ k m l e sg pw rt y, f_X11_root p1 p2 p3 r_kind r_minus r_m r_e r_sign r_power r_root r_thrown F G r_a_len r_a_d r_b_len r_b_d r_left_len r_left_d r_right_len r_right_d r_longs_len r_longs_d r_third_len r_third_d = some (k, m, l, e, sg, pw, rt, 0, F, G', y))) := by
  rcases pl_cases p1 with ⟨a, ha, rfl, a1, a2⟩ | ⟨a1, a2⟩
  · rcases pl_cases p2 with ⟨r, hr, rfl, d1, d2⟩ | ⟨d1, d2⟩
    · rcases wy_cases p3 with ⟨w, hw, rfl, b1, b2⟩ | ⟨b1, b2⟩
      · right
        obtain ⟨f1, s1, t1, g1, g2, g3, g4, g5⟩ := h a ha
        obtain ⟨f, s3, t3, z1, z2, z3, z4, z5⟩ := h r hr
        have hV := isV_of g1 g2 g3
        have hupd : ∀ P, isP f P → wfp F (vp_updL G r (uL P)) := by
          intro P hP
          have := wfp_upd (r := r) h z1 hP
          rw [upd_self z4] at this
          exact this
        obtain ⟨P, s, L, hc, hQ⟩ := x0_squareRoot hV z1 hw c_acts_left_size c_acts_left_limbs
        have hP : isP f P := by
          split at hQ
          · rw [hQ]; exact isP_zero g2
          · split at hQ
            · rw [hQ]; exact isP_none z1
            · split at hQ
              · rw [hQ]; exact isP_inf z1 (by omega)
              · exact isP_isR z1 (by omega) hQ
        refine ⟨_, hupd _ hP, ⟨(uI (vK f1 t1), uI s1, uL (vM f1 t1), iI (vE f1 t1), bI (vN f1 t1), s, L), ?_⟩, ?_⟩
        · unfold f_X9_root
          simp only [a1, d1, b1, Option.bind_some, sm, Sum.elim_inl, Sum.elim_inr, i00, i10, i20, if_true, if_false, go0, go10, go11, x9_look ha g4 g5 g1 g2 g3, if_pos (vIn16 hr), uI_clamp (show r < 2147483648 by omega), z4, hc]
        · unfold f_X11_root f_X11_root_B20
          obtain ⟨hk1, _, hm1, e11, e12, hz1, nz1, _⟩ := hV
          have hb1 : bl (vM f1 t1) ≤ 53 := bl_le_of_lt hm1
          have c4 : ∀ k : Nat, k ≤ 4 → k ≠ 4 → ¬ uI k = (4 : Int32) := fun k h1 h2 x => h2 ((uI_eq (b := 4) (by omega) (by omega)).mp x)
          have c3 : ∀ k : Nat, k ≤ 4 → k ≠ 3 → ¬ uI k = (3 : Int32) := fun k h1 h2 x => h2 ((uI_eq (b := 3) (by omega) (by omega)).mp x)
          have c0 : ∀ k : Nat, k ≤ 4 → k ≠ 0 → ¬ uI k = (0 : Int32) := fun k h1 h2 x => h2 ((uI_eq0 (by omega)).mp x)
          simp only [a2, d2, b2, Option.bind_some, sm, Sum.elim_inl, Sum.elim_inr, i00, i10, i20, if_true, if_false, go0, go10, go11, x11_look ha g4 g5 g1 g2 g3, if_pos (vIn16 hr), uI_clamp (show r < 2147483648 by omega), z4]
          generalize hK1 : vK f1 t1 = k1 at *
          have hnone : P = patNone f → ∃ k m l e sg pw rt y, f_X11_root_B67 (uI r) (uI f) (uI k1) (uI s1) (uL (vM f1 t1)) (iI (vE f1 t1)) r_sign r_power r_root 0 F G r_a_len r_a_d r_b_len r_b_d r_left_len r_left_d r_right_len r_right_d r_longs_len r_longs_d r_third_len r_third_d = some (k, m, l, e, sg, pw, rt, 0, F, vp_updL G r (uL P), y) := by
            intro hh
            unfold f_X11_root_B67
            rw [x11_putNone F G z1 hr, Option.bind_some, upd_self z4, hh]
            exact ⟨_, _, _, _, _, _, _, _, rfl⟩
          have hnum : k1 ≠ 4 → (k1 = 0 ∨ s1 = 0) → ∃ k m l e sg pw rt y, f_X11_root_B77 (uI r) (uI w) (uI f) (uI k1) (uI s1) (uL (vM f1 t1)) (iI (vE f1 t1)) r_sign r_power r_root 0 F G r_a_len r_a_d r_b_len r_b_d r_left_len r_left_d r_right_len r_right_d r_longs_len r_longs_d r_third_len r_third_d = some (k, m, l, e, sg, pw, rt, 0, F, vp_updL G r (uL P), y) := by
            intro h4 hor
            unfold f_X11_root_B77
            by_cases h3 : k1 = 3
            · have hs0 : s1 = 0 := by omega
              rw [if_neg (by omega), if_neg (by omega), if_pos h3] at hQ
              have hpe : f_X11_putEndless (uI r) (uI f) (0 : Int32) F G = some (upd F r (uI f), vp_updL G r (uL (pat f 0 (fInf f)))) := x11_putEndless (sg := 0) F G z1 (by omega) hr
              rw [if_pos (by rw [h3]; rfl), hpe, Option.bind_some, upd_self z4, hQ]
              exact ⟨_, _, _, _, _, _, _, _, rfl⟩
            · rw [if_neg (c3 k1 hk1 h3)]
              obtain ⟨sa, Da, sb, Db, y1, y2, y3⟩ := x11_take (m := vM f1 t1) (by omega) (uI s1) (iI (vE f1 t1)) r_sign r_power r_root r_a_len r_a_d r_b_len r_b_d
              have hb11 : bl 1 = 1 := by decide
              obtain ⟨P', q, w1, w2⟩ := x11_round (r := 2) (p := vE f1 t1) (sg := s1) (way := w) F G y2 y3 (by omega) (by omega) (by omega) (by omega) (by omega) (by omega) (by omega) z1 g2 hw hr (r_left_len, r_left_d, r_right_len, r_right_d, r_longs_len, r_longs_d, r_third_len, r_third_d)
              have w1' : f_X11_round (uI s1) (iI (vE f1 t1)) (2 : Int32) sa Da sb Db (uI r) (uI f) (uI w) F G r_left_len r_left_d r_right_len r_right_d r_longs_len r_longs_d r_third_len r_third_d = some (upd F r (uI f), vp_updL G r (uL P'), q) := w1
              have hPP : P = P' := by
                by_cases h0 : k1 = 0
                · rw [if_pos h0] at hQ
                  rw [hz1 h0, Nat.zero_mul] at w2
                  have hD : 0 < 1 * 2 ^ (((2 : Nat) : Int) * (fLo f - 1) - vE f1 t1).toNat := Nat.mul_pos (by omega) (Nat.two_pow_pos _)
                  have hv0 : stV f 0 = 0 := by unfold stV stM; rw [Nat.zero_div, if_pos rfl, Nat.zero_mul]
                  rw [hQ]
                  rcases w2 with ⟨u1, u2⟩ | ⟨t, u1, u2, u3⟩
                  · exfalso
                    have hi0 : 0 < fInf f := by rcases f_cases z1 with rfl | rfl <;> decide
                    have := stV_mono (f := f) hi0
                    have := Nat.mul_pos hD (Nat.pow_pos (n := 2) (show 0 < 2 * stV f (fInf f) by omega))
                    omega
                  · have ht0 : t = 0 := by
                      apply Nat.eq_zero_of_not_pos
                      intro hp
                      have := stV_mono (f := f) hp
                      have h5 := Nat.mul_pos hD (Nat.pow_pos (n := 2) (show 0 < 2 * stV f t by omega))
                      have := u2.1
                      omega
                    subst ht0
                    rw [u3]
                    unfold outP
                    rw [if_neg (by omega), outT_exact hD (by omega) (by rw [hv0]; simp), if_neg (by omega)]
                · have hs0 : s1 = 0 := by omega
                  subst hs0
                  rw [if_neg h0, if_neg (by omega), if_neg h3] at hQ
                  rw [Nat.one_mul] at w2
                  exact isR_uniq hQ w2
              rw [y1, Option.bind_some, w1', Option.bind_some, upd_self z4, hPP]
              exact ⟨_, _, _, _, _, _, _, _, rfl⟩
          by_cases h4 : k1 = 4
          · rw [if_pos (by rw [h4]; rfl)]
            exact hnone (by rw [if_neg (by omega), if_pos (Or.inl h4)] at hQ; exact hQ)
          · rw [if_neg (c4 k1 hk1 h4)]
            by_cases h0 : k1 = 0
            · rw [if_pos (by rw [h0]; rfl)]; exact hnum h4 (Or.inl h0)
            · rw [if_neg (c0 k1 hk1 h0)]
              by_cases hs : s1 = 1
              · rw [if_pos (by rw [hs]; rfl)]
                exact hnone (by rw [if_neg h0, if_pos (Or.inr hs)] at hQ; exact hQ)
              · rw [if_neg (by exact fun x => hs ((uI_eq (b := 1) (by omega) (by omega)).mp x))]
                exact hnum h4 (Or.inr (by omega))
      · left
        refine ⟨2, Or.inr rfl, ⟨(c_first_kind, c_first_minus, c_first_m, c_first_e, c_first_narrowBelow, c_acts_left_size, c_acts_left_limbs), ?_⟩, ?_⟩
        · unfold f_X9_root; simp only [a1, d1, b1, Option.bind_some, sm, Sum.elim_inl, Sum.elim_inr, i00, i10, i20, if_true, if_false, go0, go10, go11]
        · unfold f_X11_root f_X11_root_B20; simp only [a2, d2, b2, Option.bind_some, sm, Sum.elim_inl, Sum.elim_inr, i00, i10, i20, if_true, if_false, go0, go10, go11]; exact ⟨_, _, _, _, _, _, _, _, rfl⟩
    · left
      refine ⟨1, Or.inl rfl, ⟨(c_first_kind, c_first_minus, c_first_m, c_first_e, c_first_narrowBelow, c_acts_left_size, c_acts_left_limbs), ?_⟩, ?_⟩
      · unfold f_X9_root; simp only [a1, d1, Option.bind_some, sm, Sum.elim_inl, Sum.elim_inr, i00, i10, i20, if_true, if_false, go0, go10, go11]
      · unfold f_X11_root f_X11_root_B19 f_X11_root_B20
        rcases wy_cases p3 with ⟨_, _, _, _, b2⟩ | ⟨_, b2⟩
        · simp only [a2, d2, b2, Option.bind_some, sm, Sum.elim_inl, Sum.elim_inr, i00, i10, i20, if_true, if_false, go0, go10, go11]; exact ⟨_, _, _, _, _, _, _, _, rfl⟩
        · simp only [a2, d2, b2, Option.bind_some, sm, Sum.elim_inl, Sum.elim_inr, i00, i10, i20, if_true, if_false, go0, go10, go11]; exact ⟨_, _, _, _, _, _, _, _, rfl⟩
  · left
    refine ⟨1, Or.inl rfl, ⟨(c_first_kind, c_first_minus, c_first_m, c_first_e, c_first_narrowBelow, c_acts_left_size, c_acts_left_limbs), ?_⟩, ?_⟩
    · unfold f_X9_root; simp only [a1, Option.bind_some, sm, Sum.elim_inl, Sum.elim_inr, i00, i10, i20, if_true, if_false, go0, go10, go11]
    · unfold f_X11_root f_X11_root_B19 f_X11_root_B20
      rcases wy_cases p3 with ⟨_, _, _, _, b2⟩ | ⟨_, b2⟩
      · simp only [a2, b2, Option.bind_some, sm, Sum.elim_inl, Sum.elim_inr, i00, i10, i20, if_true, if_false, go0, go10, go11]; exact ⟨_, _, _, _, _, _, _, _, rfl⟩
      · simp only [a2, b2, Option.bind_some, sm, Sum.elim_inl, Sum.elim_inr, i00, i10, i20, if_true, if_false, go0, go10, go11]; exact ⟨_, _, _, _, _, _, _, _, rfl⟩
