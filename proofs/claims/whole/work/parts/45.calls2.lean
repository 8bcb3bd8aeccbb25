/-! from, step -/
theorem x11_neg {a : Int} (h1 : -9223372036854775808 ≤ a) (h2 : a < 9223372036854775808) : (if 0 ≤ a then iL a else -iL a) = uL a.natAbs := by
  split
  · show iL a = iL (a.natAbs : Int)
    congr 1; omega
  · rw [iL_neg]; show iL (-a) = iL (a.natAbs : Int)
    congr 1; omega
theorem k_from {F : Nat → Int32} {G : Nat → Int64} (h : wfp F G) (p1 : Int32) (p2 : Int32) (p3 : Int64) (p4 : Int32) (c_acts_left_size : Int32) (c_acts_left_limbs : Nat → Int64) (r_sign : Int32) (r_power : Int32) (r_root : Int32) (r_thrown : Int32) (r_a_len : Int32) (r_a_d : Nat → Int32) (r_b_len : Int32) (r_b_d : Nat → Int32) (r_left_len : Int32) (r_left_d : Nat → Int32) (r_right_len : Int32) (r_right_d : Nat → Int32) (r_longs_len : Int32) (r_longs_d : Nat → Int32) (r_third_len : Int32) (r_third_d : Nat → Int32) :
    (∃ n, (n = 1 ∨ n = 2) ∧ (∃ x, f_X9_from p1 p2 p3 p4 F G c_acts_left_size c_acts_left_limbs = some (.inl (n, F, G, x))) ∧ (∃ sg pw rt y, f_X11_from p1 p2 p3 p4 r_sign r_power r_root r_thrown F G r_a_len r_a_d r_b_len r_b_d r_left_len r_left_d r_right_len r_right_d r_longs_len r_longs_d r_third_len r_third_d = some (sg, pw, rt, uI n, F, G, y))) ∨
    (∃ F' G', wfp F' G' ∧ (∃ x, f_X9_from p1 p2 p3 p4 F G c_acts_left_size c_acts_left_limbs = some (.inr (F', G', x))) ∧ (∃ sg pw rt y, f_X11_from p1 p2 p3 p4 r_sign r_power r_root r_thrown F G r_a_len r_a_d r_b_len r_b_d r_left_len r_left_d r_right_len r_right_d r_longs_len r_longs_d r_third_len r_third_d = some (sg, pw, rt, 0, F', G', y))) := by
  rcases pl_cases p1 with ⟨n, hn, rfl, a1, a2⟩ | ⟨a1, a2⟩
  · rcases fm_cases p2 with ⟨f, hf, rfl, b1, b2⟩ | ⟨b1, b2⟩
    · rcases wy_cases p4 with ⟨w, hw, rfl, e1, e2⟩ | ⟨e1, e2⟩
      · right
        obtain ⟨a, ha1, ha2, rfl⟩ := iL_of p3
        obtain ⟨s, L, hcv⟩ := x0_ofLong (iL a) hf hw c_acts_left_size c_acts_left_limbs
        rw [iL_toInt ha1 ha2] at hcv
        have hs1 : (if a < 0 then 1 else 0) ≤ 1 := by split <;> omega
        refine ⟨_, _, wfp_upd (r := n) h hf (isP_rcP (way := w) (sg := if a < 0 then 1 else 0) (n := a.natAbs) (x := 0) (rest := false) hf hs1), ⟨(s, L), ?_⟩, ?_⟩
        · unfold f_X9_from
          simp only [a1, b1, e1, Option.bind_some, sm, Sum.elim_inl, Sum.elim_inr, i00, i10, i20, if_true, if_false, go0, go10, go11, hcv, x9_put hn]
        · have hge : (0 : Int32) ≤ lg_cmp (iL a) (0 : Int64) ↔ 0 ≤ a := by rw [wL_0, lc_ge ha1 ha2 (by omega) (by omega)]
          have hgo : ∀ s0 : Nat, s0 ≤ 1 → ∃ sg pw rt y, f_X11_from_B44 (uI n) (uI f) (iL a) (uI w) (uI s0) r_sign r_power r_root 0 F G r_a_len r_a_d r_b_len r_b_d r_left_len r_left_d r_right_len r_right_d r_longs_len r_longs_d r_third_len r_third_d = some (sg, pw, rt, 0, upd F n (uI f), vp_updL G n (uL (rcP f w s0 a.natAbs 0 false)), y) := by
            intro s0 hs0
            unfold f_X11_from_B44 f_X11_from_B63
            obtain ⟨sa, Da, sb, Db, t1, t2, t3⟩ := x11_begin (uI s0) r_sign r_power r_root r_a_len r_a_d r_b_len r_b_d
            obtain ⟨sc, Dc, t4, t5⟩ := x10_set sa Da (u := a.natAbs) (by omega)
            have hab : bl a.natAbs ≤ 64 := bl_le_of_lt (by omega)
            obtain ⟨q, hq⟩ := x11_round1 (p := 0) (sg := s0) F G t5 t3 (by omega) (by omega) (by omega) hf hs0 hw hn r_left_len r_left_d r_right_len r_right_d r_longs_len r_longs_d r_third_len r_third_d
            have hq' : f_X11_round (uI s0) (0 : Int32) 1 sc Dc sb Db (uI n) (uI f) (uI w) F G r_left_len r_left_d r_right_len r_right_d r_longs_len r_longs_d r_third_len r_third_d = _ := hq
            have hneg := x11_neg ha1 ha2
            simp only [t1, Option.bind_some, hge]
            by_cases h0 : 0 ≤ a
            · rw [if_pos h0] at hneg
              simp only [if_pos h0, hneg, t4, Option.bind_some, hq']
              exact ⟨_, _, _, _, rfl⟩
            · rw [if_neg h0] at hneg
              simp only [if_neg h0, hneg, t4, Option.bind_some, hq']
              exact ⟨_, _, _, _, rfl⟩
          unfold f_X11_from f_X11_from_B25
          simp only [a2, b2, e2, Option.bind_some, sm, Sum.elim_inl, Sum.elim_inr, i00, i10, i20, if_true, if_false, go0, go10, go11, hge]
          by_cases h0 : 0 ≤ a
          · simp only [if_pos h0, if_neg (show ¬ a < 0 by omega)]
            exact hgo 0 (by omega)
          · simp only [if_neg h0, if_pos (show a < 0 by omega)]
            exact hgo 1 (by omega)
      · left
        refine ⟨2, Or.inr rfl, ⟨(c_acts_left_size, c_acts_left_limbs), ?_⟩, ?_⟩
        · unfold f_X9_from; simp only [a1, b1, e1, Option.bind_some, sm, Sum.elim_inl, Sum.elim_inr, i00, i10, i20, if_true, if_false, go0, go10, go11]
        · unfold f_X11_from f_X11_from_B24 f_X11_from_B25
          simp only [a2, b2, e2, Option.bind_some, sm, Sum.elim_inl, Sum.elim_inr, i00, i10, i20, if_true, if_false, go0, go10, go11]
          exact ⟨_, _, _, _, rfl⟩
    · left
      refine ⟨2, Or.inr rfl, ⟨(c_acts_left_size, c_acts_left_limbs), ?_⟩, ?_⟩
      · unfold f_X9_from; simp only [a1, b1, Option.bind_some, sm, Sum.elim_inl, Sum.elim_inr, i00, i10, i20, if_true, if_false, go0, go10, go11]
      · unfold f_X11_from f_X11_from_B24 f_X11_from_B25
        simp only [a2, b2, Option.bind_some, sm, Sum.elim_inl, Sum.elim_inr, i00, i10, i20, if_true, if_false, go0, go10, go11]
        exact ⟨_, _, _, _, rfl⟩
  · left
    refine ⟨1, Or.inl rfl, ⟨(c_acts_left_size, c_acts_left_limbs), ?_⟩, ?_⟩
    · unfold f_X9_from; simp only [a1, Option.bind_some, sm, Sum.elim_inl, Sum.elim_inr, i00, i10, i20, if_true, if_false, go0, go10, go11]
    · unfold f_X11_from f_X11_from_B24 f_X11_from_B25
      rcases fm_cases p2 with ⟨_, _, _, _, b2⟩ | ⟨_, b2⟩
      · rcases wy_cases p4 with ⟨_, _, _, _, e2⟩ | ⟨_, e2⟩
        · simp only [a2, b2, e2, Option.bind_some, sm, Sum.elim_inl, Sum.elim_inr, i00, i10, i20, if_true, if_false, go0, go10, go11]; exact ⟨_, _, _, _, rfl⟩
        · simp only [a2, b2, e2, Option.bind_some, sm, Sum.elim_inl, Sum.elim_inr, i00, i10, i20, if_true, if_false, go0, go10, go11]; exact ⟨_, _, _, _, rfl⟩
      · simp only [a2, b2, Option.bind_some, sm, Sum.elim_inl, Sum.elim_inr, i00, i10, i20, if_true, if_false, go0, go10, go11]; exact ⟨_, _, _, _, rfl⟩
/-- the pattern beside one -/
def besT (f sg t : Nat) (up : Bool) : Nat :=
  if fInf f < t then pat f sg t else if t = 0 then pat f (if up then 0 else 1) 1 else if up = (sg == 1) then pat f sg (t - 1) else if t = fInf f then pat f sg t else pat f sg (t + 1)
theorem x2_beside {f sg t : Nat} (hf : f ≤ 1) (hs : sg ≤ 1) (ht : t < 2 ^ fTop f) (up : Bool) : f_X2_beside (uI f) (uL (pat f sg t)) (bI up) = some (uL (besT f sg t up)) := by
  have hi := fInf_lt hf
  have h63 := top_t63 hf ht
  have hi63 := top_t63 hf hi
  have hp := pat_lt hf hs ht
  have hone : 1 < 2 ^ fTop f := by rcases f_cases hf with rfl | rfl <;> decide
  have hB : f_X2_beside_B24 (uI f) (uL (pat f sg t)) (bI up) (uL t) (uI sg) = some (uL (besT f sg t up)) := by
    unfold f_X2_beside_B24 f_X2_beside_B59 besT
    rw [x2_endlessSize hf, Option.bind_some]
    by_cases hg : fInf f < t
    · rw [if_neg (by rw [lc_le (by omega) (by omega) (by omega) (by omega)]; omega), if_pos hg]
    · rw [if_pos (by rw [lc_le (by omega) (by omega) (by omega) (by omega)]; omega), if_neg hg]
      by_cases h0 : t = 0
      · subst h0
        have hsg : ∀ s0 : Nat, s0 ≤ 1 → f_X2_signed (uI f) (uI s0) (1 : Int64) = some (uL (pat f s0 1)) := fun s0 h => x2_signed (t := 1) hf h hone
        rw [if_pos (by exact (uL_cmp0 (by decide)).mpr rfl), if_pos rfl]
        cases up
        · rw [if_pos (by decide)]
          have := hsg 1 (by omega)
          have h2 : f_X2_signed (uI f) (1 : Int32) (1 : Int64) = some (uL (pat f 1 1)) := this
          rw [h2]; rfl
        · rw [if_neg (by decide)]
          have := hsg 0 (by omega)
          have h2 : f_X2_signed (uI f) (0 : Int32) (1 : Int64) = some (uL (pat f 0 1)) := this
          rw [h2]; rfl
      · rw [if_neg (by exact fun x => h0 ((uL_cmp0 (by omega)).mp x)), if_neg h0]
        have hup : (bI up = uI sg) ↔ up = (sg == 1) := by
          have : sg = 0 ∨ sg = 1 := by omega
          rcases this with rfl | rfl <;> cases up <;> decide
        by_cases hu : up = (sg == 1)
        · rw [if_pos (by exact hup.mpr hu), if_pos hu, show uL t - (1 : Int64) = uL (t - 1) from uL_sub (b := 1) (by omega), x2_signed hf hs (by omega)]; rfl
        · rw [if_neg (by exact fun x => hu (hup.mp x)), if_neg hu]
          by_cases he : t = fInf f
          · rw [if_pos (by exact (uL_ceq (by omega) (by omega)).mpr he), if_pos he]
          · rw [if_neg (by exact fun x => he ((uL_ceq (by omega) (by omega)).mp x)), if_neg he, show uL t + (1 : Int64) = uL (t + 1) from uL_add t 1, x2_signed hf hs (by omega)]; rfl
  unfold f_X2_beside
  rw [x2_signBit hf, Option.bind_some, and_nsign hf hs ht]
  have : sg = 0 ∨ sg = 1 := by omega
  rcases this with rfl | rfl
  · rw [if_pos (by exact (uL_ceq (by omega) hp).mpr (by unfold pat; omega))]
    exact hB
  · have hne : ¬ t = pat f 1 t := by
      have := Nat.two_pow_pos (fTop f)
      unfold pat; omega
    rw [if_neg (by exact fun x => hne ((uL_ceq (by omega) hp).mp x))]
    exact hB
theorem isP_besT {f sg t : Nat} (hf : f ≤ 1) (hs : sg ≤ 1) (ht : t < 2 ^ fTop f) (up : Bool) : isP f (besT f sg t up) := by
  have hi := fInf_lt hf
  have hone : 1 < 2 ^ fTop f := by rcases f_cases hf with rfl | rfl <;> decide
  unfold besT
  split
  · exact isP_pat hs ht
  · split
    · exact isP_pat (by split <;> omega) hone
    · split
      · exact isP_pat hs (by omega)
      · split
        · exact isP_pat hs ht
        · exact isP_pat hs (by omega)
theorem k_step {F : Nat → Int32} {G : Nat → Int64} (h : wfp F G) (up : Bool) (p1 : Int32) (r_kind : Int32) (r_minus : Int32) (r_m : Int64) (r_e : Int32) (r_thrown : Int32) :
    (f_X9_step F p1 (bI up) G = some (.inl (1, G)) ∧ (∃ k m l e, f_X11_step p1 (bI up) r_kind r_minus r_m r_e r_thrown F G = some (k, m, l, e, 1, F, G))) ∨
    (∃ G', wfp F G' ∧ f_X9_step F p1 (bI up) G = some (.inr G') ∧ (∃ k m l e, f_X11_step p1 (bI up) r_kind r_minus r_m r_e r_thrown F G = some (k, m, l, e, 0, F, G'))) := by
  rcases pl_cases p1 with ⟨n, hn, rfl, a1, a2⟩ | ⟨a1, a2⟩
  · right
    obtain ⟨f, sg, t, hf, hs, ht, hF, hG⟩ := h n hn
    have hupd : ∀ P, isP f P → wfp F (vp_updL G n (uL P)) := by
      intro P hP
      have := wfp_upd (r := n) h hf hP
      rw [upd_self hF] at this
      exact this
    have hi := fInf_lt hf
    have hone : 1 < 2 ^ fTop f := by rcases f_cases hf with rfl | rfl <;> decide
    refine ⟨vp_updL G n (uL (besT f sg t up)), hupd _ (isP_besT hf hs ht up), ?_, ?_⟩
    · unfold f_X9_step
      simp only [a1, Option.bind_some, sm, Sum.elim_inl, Sum.elim_inr, i00, i10, i20, if_true, if_false, go0, go10, go11, if_pos (vIn16 hn), uI_clamp (show n < 2147483648 by omega), hF, hG, x2_beside hf hs ht up]
    · have hV := isV_of hf hs ht
      have hE := top_E hf ht
      have hinf := inf_iff hf ht
      unfold f_X11_step f_X11_step_B90 f_X11_step_B113 f_X11_step_B71
      simp only [a2, Option.bind_some, sm, Sum.elim_inl, Sum.elim_inr, i00, i10, i20, if_true, if_false, go0, go10, go11, x11_look hn hF hG hf hs ht, if_pos (vIn16 hn), uI_clamp (show n < 2147483648 by omega), hF, hG, x11_signBit hf, and_nsign hf hs ht]
      have hput : ∀ s0 u, s0 ≤ 1 → u < 2 ^ fTop f → f_X11_put (uI n) (uI f) (uL u) (uI s0) F G = some (F, vp_updL G n (uL (pat f s0 u))) := by
        intro s0 u hs0 hu
        rw [x11_put F G hf hs0 hu hn, upd_self hF]
      have hp0 : 0 < 2 ^ fWd f := Nat.two_pow_pos _
      have hdm := Nat.div_add_mod t (2 ^ fWd f)
      have hinfdef : fInf f = fEx f * 2 ^ fWd f := rfl
      have hipos : 0 < fInf f := by rw [hinfdef]; exact Nat.mul_pos (by have := fEx_cases hf; omega) hp0
      -- by kinds
      by_cases hi1 : t / 2 ^ fWd f = fEx f
      · have hbase : 2 ^ fWd f * (t / 2 ^ fWd f) = fInf f := by rw [hi1, hinfdef, Nat.mul_comm]
        by_cases hfr : t % 2 ^ fWd f = 0
        · have hk : vK f t = 3 := by unfold vK; rw [if_pos hi1, if_pos hfr]
          have htinf : t = fInf f := by omega
          have em : uL t - (1 : Int64) = uL (t - 1) := uL_sub (b := 1) (by omega)
          have hb : besT f sg t up = if up = (sg == 1) then pat f sg (t - 1) else pat f sg t := by
            unfold besT
            rw [if_neg (by omega), if_neg (by have := fEx_cases hf; rw [htinf, hinfdef]; exact Nat.mul_ne_zero (by omega) (by omega))]
            split
            · rfl
            · first | rfl | rw [if_pos htinf]
          rw [hk, hb]
          simp only [kc_34, kc_30, kc_33, if_true, if_false]
          have : sg = 0 ∨ sg = 1 := by omega
          rcases this with rfl | rfl
          · cases up
            · simp only [kc_00, if_true, show (bI false = (1 : Int32)) = False from eq_false (by decide), if_false, em, hput 0 (t - 1) (by omega) (by omega), Option.bind_some]
              exact ⟨_, _, _, _, rfl⟩
            · simp only [kc_00, if_true, show (bI true = (1 : Int32)) = True from eq_true rfl, hput 0 t (by omega) ht, Option.bind_some]
              exact ⟨_, _, _, _, rfl⟩
          · cases up
            · simp only [kc_10, if_false, show (bI false = (0 : Int32)) = True from eq_true rfl, if_true, hput 1 t (by omega) ht, Option.bind_some]
              exact ⟨_, _, _, _, rfl⟩
            · simp only [kc_10, if_false, show (bI true = (0 : Int32)) = False from eq_false (by decide), em, hput 1 (t - 1) (by omega) (by omega), Option.bind_some]
              exact ⟨_, _, _, _, rfl⟩
        · have hk : vK f t = 4 := by unfold vK; rw [if_pos hi1, if_neg hfr]
          have hgt : fInf f < t := by omega
          have hb : besT f sg t up = pat f sg t := by unfold besT; rw [if_pos hgt]
          rw [hk, hb]
          simp only [kc_44, if_true]
          rw [updL_self hG]
          exact ⟨_, _, _, _, rfl⟩
      · have hlt := hinf.mpr hi1
        by_cases h0 : t = 0
        · have hk : vK f t = 0 := by
            unfold vK
            rw [if_neg hi1, if_pos (by rw [h0, Nat.zero_div]), if_pos h0]
          have hb : besT f sg t up = pat f (if up then 0 else 1) 1 := by unfold besT; rw [if_neg (by omega), if_pos h0]
          rw [hk, hb]
          simp only [kc_04, kc_00, if_true, if_false]
          have q1 : f_X11_put (uI n) (uI f) (1 : Int64) (1 : Int32) F G = some (F, vp_updL G n (uL (pat f 1 1))) := hput 1 1 (by omega) hone
          have q0 : f_X11_put (uI n) (uI f) (1 : Int64) (0 : Int32) F G = some (F, vp_updL G n (uL (pat f 0 1))) := hput 0 1 (by omega) hone
          cases up
          · simp only [show (bI false = (0 : Int32)) = True from eq_true rfl, if_true, q1, Option.bind_some]
            exact ⟨_, _, _, _, rfl⟩
          · simp only [show (bI true = (0 : Int32)) = False from eq_false (by decide), if_false, q0, Option.bind_some]
            exact ⟨_, _, _, _, rfl⟩
        · have hb : besT f sg t up = if up = (sg == 1) then pat f sg (t - 1) else pat f sg (t + 1) := by
            unfold besT
            rw [if_neg (by omega), if_neg h0]
            split
            · rfl
            · rw [if_neg (by omega)]
          have hk : (uI (vK f t) = (4 : Int32)) = False ∧ (uI (vK f t) = (0 : Int32)) = False ∧ (uI (vK f t) = (3 : Int32)) = False := by
            unfold vK
            rw [if_neg hi1]
            split
            · first | exact ⟨kc_14, kc_10, kc_13⟩ | (rw [if_neg h0]; exact ⟨kc_14, kc_10, kc_13⟩)
            · exact ⟨kc_24, kc_20, kc_23⟩
          rw [hb]
          simp only [hk.1, hk.2.1, hk.2.2, if_false]
          have em : uL t - (1 : Int64) = uL (t - 1) := uL_sub (b := 1) (by omega)
          have ep : uL t + (1 : Int64) = uL (t + 1) := uL_add t 1
          have : sg = 0 ∨ sg = 1 := by omega
          rcases this with rfl | rfl
          · cases up
            · simp only [kc_00, if_true, show (bI false = (1 : Int32)) = False from eq_false (by decide), if_false, em, hput 0 (t - 1) (by omega) (by omega), Option.bind_some]
              exact ⟨_, _, _, _, rfl⟩
            · simp only [kc_00, if_true, show (bI true = (1 : Int32)) = True from eq_true rfl, ep, hput 0 (t + 1) (by omega) (by omega), Option.bind_some]
              exact ⟨_, _, _, _, rfl⟩
          · cases up
            · simp only [kc_10, if_false, show (bI false = (0 : Int32)) = True from eq_true rfl, if_true, ep, hput 1 (t + 1) (by omega) (by omega), Option.bind_some]
              exact ⟨_, _, _, _, rfl⟩
            · simp only [kc_10, if_false, show (bI true = (0 : Int32)) = False from eq_false (by decide), em, hput 1 (t - 1) (by omega) (by omega), Option.bind_some]
              exact ⟨_, _, _, _, rfl⟩
  · left
    refine ⟨?_, ?_⟩
    · unfold f_X9_step; simp only [a1, Option.bind_some, sm, Sum.elim_inl, Sum.elim_inr, i00, i10, i20, if_true, if_false, go0, go10, go11]
    · unfold f_X11_step; simp only [a2, Option.bind_some, sm, Sum.elim_inl, Sum.elim_inr, i00, i10, i20, if_true, if_false, go0, go10, go11]; exact ⟨_, _, _, _, rfl⟩
