/-! kinds -/
theorem kc_00 : (uI 0 = (0 : Int32)) = True := eq_true rfl
theorem kc_01 : (uI 0 = (1 : Int32)) = False := eq_false (by decide)
theorem kc_02 : (uI 0 = (2 : Int32)) = False := eq_false (by decide)
theorem kc_03 : (uI 0 = (3 : Int32)) = False := eq_false (by decide)
theorem kc_04 : (uI 0 = (4 : Int32)) = False := eq_false (by decide)
theorem kc_10 : (uI 1 = (0 : Int32)) = False := eq_false (by decide)
theorem kc_11 : (uI 1 = (1 : Int32)) = True := eq_true rfl
theorem kc_12 : (uI 1 = (2 : Int32)) = False := eq_false (by decide)
theorem kc_13 : (uI 1 = (3 : Int32)) = False := eq_false (by decide)
theorem kc_14 : (uI 1 = (4 : Int32)) = False := eq_false (by decide)
theorem kc_20 : (uI 2 = (0 : Int32)) = False := eq_false (by decide)
theorem kc_21 : (uI 2 = (1 : Int32)) = False := eq_false (by decide)
theorem kc_22 : (uI 2 = (2 : Int32)) = True := eq_true rfl
theorem kc_23 : (uI 2 = (3 : Int32)) = False := eq_false (by decide)
theorem kc_24 : (uI 2 = (4 : Int32)) = False := eq_false (by decide)
theorem kc_30 : (uI 3 = (0 : Int32)) = False := eq_false (by decide)
theorem kc_31 : (uI 3 = (1 : Int32)) = False := eq_false (by decide)
theorem kc_32 : (uI 3 = (2 : Int32)) = False := eq_false (by decide)
theorem kc_33 : (uI 3 = (3 : Int32)) = True := eq_true rfl
theorem kc_34 : (uI 3 = (4 : Int32)) = False := eq_false (by decide)
theorem kc_40 : (uI 4 = (0 : Int32)) = False := eq_false (by decide)
theorem kc_41 : (uI 4 = (1 : Int32)) = False := eq_false (by decide)
theorem kc_42 : (uI 4 = (2 : Int32)) = False := eq_false (by decide)
theorem kc_43 : (uI 4 = (3 : Int32)) = False := eq_false (by decide)
theorem kc_44 : (uI 4 = (4 : Int32)) = True := eq_true rfl
/-- a value taken apart -/
def isV (k sg m : Nat) (e : Int) : Prop := k ≤ 4 ∧ sg ≤ 1 ∧ m < 2 ^ 53 ∧ -1074 ≤ e ∧ e ≤ 971 ∧ (k = 0 → m = 0) ∧ (k = 1 ∨ k = 2 → m ≠ 0) ∧ (3 ≤ k → m = 0 ∧ e = 0)
theorem isV_of {f sg t : Nat} (hf : f ≤ 1) (hs : sg ≤ 1) (ht : t < 2 ^ fTop f) : isV (vK f t) sg (vM f t) (vE f t) := by
  have hE := top_E hf ht
  have hm := stM_lt f t
  have hlo := fLo_bd f
  have hp : 0 < 2 ^ fWd f := Nat.two_pow_pos _
  have hhi : fLo f + fEx f - 2 ≤ 971 := by rcases f_cases hf with rfl | rfl <;> decide
  unfold isV vK vM vE
  by_cases hi : t / 2 ^ fWd f = fEx f
  · simp only [if_pos hi]
    split <;> refine ⟨by omega, hs, by decide, by omega, by omega, fun _ => trivial, fun h => by omega, fun _ => ⟨trivial, trivial⟩⟩
  · simp only [if_neg hi]
    have hst : fLo f + (stE f t : Int) ≤ 971 := by
      unfold stE
      have h2 := fEx_cases hf
      generalize t / 2 ^ fWd f = E at *
      omega
    by_cases hz : t / 2 ^ fWd f = 0
    · have hM : stM f t = t := by unfold stM; rw [if_pos hz]
      simp only [if_pos hz]
      rw [hM] at hm ⊢
      split
      · refine ⟨by omega, hs, hm, by omega, hst, fun _ => by omega, by omega, by omega⟩
      · refine ⟨by omega, hs, hm, by omega, hst, by omega, fun _ => by omega, by omega⟩
    · have hM : stM f t = t % 2 ^ fWd f + 2 ^ fWd f := by unfold stM; rw [if_neg hz]
      simp only [if_neg hz]
      rw [hM] at hm ⊢
      refine ⟨by omega, hs, hm, by omega, hst, by omega, fun _ => by omega, by omega⟩
/-! the class's acts -/
theorem x0_converted {k sg m f way : Nat} {e : Int} (h : isV k sg m e) (hf : f ≤ 1) (hw : way < 4) (ls : Int32) (ll : Nat → Int64) :
    ∃ s L, f_X0_converted (uI k) (uI sg) (uL m) (iI e) (uI f) (uI way) ls ll = some (uL (if k = 4 then patNone f else if k = 3 then pat f sg (fInf f) else rcP f way sg m e false), s, L) := by
  obtain ⟨hk, hs, hm, he1, he2, _⟩ := h
  unfold f_X0_converted
  by_cases h4 : k = 4
  · subst h4
    rw [if_pos (by exact rfl), x2_none hf, Option.bind_some, if_pos rfl]; exact ⟨_, _, rfl⟩
  · rw [if_neg (by exact fun x => h4 ((uI_eq (b := 4) (by omega) (by omega)).mp x)), if_neg h4]
    by_cases h3 : k = 3
    · subst h3
      rw [if_pos (by exact rfl), x2_endless hf hs, Option.bind_some, if_pos rfl]; exact ⟨_, _, rfl⟩
    · rw [if_neg (by exact fun x => h3 ((uI_eq (b := 3) (by omega) (by omega)).mp x)), if_neg h3]
      obtain ⟨s, L, h1, h2⟩ := x4_take ls ll (u := m) (by omega)
      rw [h1, Option.bind_some]
      have := x0_rounded (x := e) false h2 hf hs hw (by omega) (by omega)
      have h5 : f_X0_rounded (s, L).1 (s, L).2 (uI sg) (iI e) (0 : Int32) (uI f) (uI way) = some (uL (rcP f way sg m e false)) := this
      rw [h5, Option.bind_some]; exact ⟨_, _, rfl⟩
/-- a long without its sign -/
theorem x0_ofLong {f way : Nat} (v : Int64) (hf : f ≤ 1) (hw : way < 4) (ls : Int32) (ll : Nat → Int64) :
    ∃ s L, f_X0_ofLong v (uI f) (uI way) ls ll = some (uL (rcP f way (if v.toInt < 0 then 1 else 0) v.toInt.natAbs 0 false), s, L) := by
  obtain ⟨a, ha1, ha2, rfl⟩ := iL_of v
  rw [iL_toInt ha1 ha2]
  unfold f_X0_ofLong
  have hB : ∀ u : Nat, u < 18446744073709551616 → ∃ s L, f_X0_ofLong_B16 (iL a) (uI f) (uI way) (uL u) ls ll = some (uL (rcP f way (if a < 0 then 1 else 0) u 0 false), s, L) := by
    intro u hu
    unfold f_X0_ofLong_B16 f_X0_ofLong_B30
    obtain ⟨s, L, h1, h2⟩ := x4_take ls ll hu
    rw [h1, Option.bind_some]
    by_cases hn : a < 0
    · have h3 := x0_rounded (sg := 1) (x := 0) false h2 hf (by omega) hw (by omega) (by omega)
      have h5 : f_X0_rounded (s, L).1 (s, L).2 (1 : Int32) (0 : Int32) (0 : Int32) (uI f) (uI way) = some (uL (rcP f way 1 u 0 false)) := h3
      rw [if_neg (by rw [wL_0, lc_ge ha1 ha2 (by omega) (by omega)]; omega), h5, Option.bind_some, if_pos hn]; exact ⟨_, _, rfl⟩
    · have h3 := x0_rounded (sg := 0) (x := 0) false h2 hf (by omega) hw (by omega) (by omega)
      have h5 : f_X0_rounded (s, L).1 (s, L).2 (0 : Int32) (0 : Int32) (0 : Int32) (uI f) (uI way) = some (uL (rcP f way 0 u 0 false)) := h3
      rw [if_pos (by rw [wL_0, lc_ge ha1 ha2 (by omega) (by omega)]; omega), h5, Option.bind_some, if_neg hn]; exact ⟨_, _, rfl⟩
  by_cases hn : a < 0
  · rw [if_neg (by rw [wL_0, lc_ge ha1 ha2 (by omega) (by omega)]; omega), iL_neg, show iL (-a) = uL a.natAbs from by congr 1; omega]
    exact hB _ (by omega)
  · have e : iL a = uL a.natAbs := by
      show iL a = iL (a.natAbs : Int)
      congr 1; omega
    rw [if_pos (by rw [wL_0, lc_ge ha1 ha2 (by omega) (by omega)]; omega)]
    have := hB a.natAbs (by omega)
    rw [← e] at this
    exact this
/-- the sum of two numbers with signs, at the lower one's power -/
def suN (sa A : Nat) (p : Int) (sb B : Nat) (q : Int) : Nat :=
  if sa = sb then A * 2 ^ (p - min p q).toNat + B * 2 ^ (q - min p q).toNat
  else if B * 2 ^ (q - min p q).toNat ≤ A * 2 ^ (p - min p q).toNat then A * 2 ^ (p - min p q).toNat - B * 2 ^ (q - min p q).toNat
  else B * 2 ^ (q - min p q).toNat - A * 2 ^ (p - min p q).toNat
def suS (sa A : Nat) (p : Int) (sb B : Nat) (q : Int) (way : Nat) : Nat :=
  if sa = sb then sa else if B * 2 ^ (q - min p q).toNat = A * 2 ^ (p - min p q).toNat then (if way = 3 then 1 else 0)
  else if B * 2 ^ (q - min p q).toNat ≤ A * 2 ^ (p - min p q).toNat then sa else sb
theorem sh_room {v s : Nat} (h : bl v + s ≤ 5000) : v * 2 ^ s < 4294967296 ^ 159 := by
  have h1 : v * 2 ^ s < 2 ^ (bl v + s) := by
    rw [Nat.pow_add]; exact Nat.mul_lt_mul_of_pos_right (bl_lt v) (Nat.two_pow_pos _)
  refine Nat.lt_of_lt_of_le h1 ?_
  rw [q_pow]; exact Nat.pow_le_pow_right (by decide) (by omega)
theorem x4_shiftI {sz : Int32} {L : Nat → Int64} {v : Nat} {a : Int} (h : R32 sz L v) (h1 : 0 ≤ a) (h2 : bl v + a.toNat ≤ 5000) : ∃ s' L', f_X4_shiftUp (iI a) sz L = some (s', L') ∧ R32 s' L' (v * 2 ^ a.toNat) := by
  have := x4_shift (s := a.toNat) h (by omega) (sh_room h2)
  rw [show iI a = uI a.toNat from by congr 1; omega]
  exact this
theorem rcP_zero {f way sg : Nat} {x : Int} {rest : Bool} : rcP f way sg 0 x rest = pat f sg 0 := by
  unfold rcP; rw [if_pos rfl]
theorem x0_leftAnd {A sa f way k sg m : Nat} {p e : Int} (endl : Bool) {ls rs : Int32} {ll rl : Nat → Int64} (hL : R32 ls ll A) (hA : bl A ≤ 130) (hp1 : -2200 ≤ p) (hp2 : p ≤ 2200) (hsa : sa ≤ 1) (h : isV k sg m e) (hk4 : k ≠ 4) (hf : f ≤ 1) (hw : way < 4) :
    ∃ s L s2 L2, f_X0_leftAnd (uI k) (uI sg) (uL m) (iI e) (bI endl) (uI sa) (iI p) (uI f) (uI way) ls ll rs rl = some (uL (if endl = true ∨ k = 3 then (if endl = true ∧ k = 3 ∧ sa ≠ sg then patNone f else pat f (if endl then sa else sg) (fInf f)) else rcP f way (suS sa A p sg m e way) (suN sa A p sg m e) (min p e) false), s, L, s2, L2) := by
  obtain ⟨hk, hs, hm, he1, he2, _⟩ := h
  have hmb : bl m ≤ 53 := bl_le_of_lt hm
  unfold f_X0_leftAnd f_X0_leftAnd_B13 f_X0_leftAnd_B39 f_X0_leftAnd_B40 f_X0_leftAnd_B70 f_X0_leftAnd_B190
  by_cases h3 : k = 3
  · subst h3
    rw [if_pos (Or.inr rfl)]
    cases endl
    · rw [if_pos (by exact rfl), if_pos (by exact rfl), if_pos (by exact rfl), if_pos (by exact rfl), if_pos (by exact rfl), x2_endless hf hs, Option.bind_some, if_neg (by rintro ⟨hh, _⟩; cases hh)]
      exact ⟨_, _, _, _, rfl⟩
    · rw [if_neg (by decide), if_neg (by decide), if_pos (by exact rfl)]
      by_cases hss : sa = sg
      · subst hss
        rw [if_pos rfl, if_pos (by exact rfl), if_neg (by decide), x2_endless hf hsa, Option.bind_some, if_neg (by rintro ⟨_, _, hh⟩; exact hh rfl)]
        exact ⟨_, _, _, _, rfl⟩
      · rw [if_neg (by exact fun x => hss ((uI_eq (by omega) (by omega)).mp x)), if_neg (by decide), x2_none hf, Option.bind_some, if_pos ⟨rfl, rfl, hss⟩]
        exact ⟨_, _, _, _, rfl⟩
  · have hk3 : ¬ uI k = (3 : Int32) := fun x => h3 ((uI_eq (b := 3) (by omega) (by omega)).mp x)
    cases endl
    · rw [if_pos (by exact rfl), if_neg hk3, if_neg (by rintro (hh | hh); cases hh; exact h3 hh)]
      obtain ⟨s1, L1, h1, h2⟩ := x4_take rs rl (u := m) (by omega)
      rw [h1, Option.bind_some, min_iI (by omega) (by omega) (by omega) (by omega), Option.bind_some, iI_sub, iI_sub]
      obtain ⟨s3, L3, h5, h6⟩ := x4_shiftI (a := p - min p e) hL (by omega) (by omega)
      obtain ⟨s4, L4, h7, h8⟩ := x4_shiftI (a := e - min p e) h2 (by omega) (by omega)
      have h7' : f_X4_shiftUp (iI (e - min p e)) (s1, L1).1 (s1, L1).2 = some (s4, L4) := h7
      rw [h5, Option.bind_some, h7', Option.bind_some]
      unfold suN suS
      generalize hu : A * 2 ^ (p - min p e).toNat = u at *
      generalize hv : m * 2 ^ (e - min p e).toNat = v at *
      have hu5 : u < 2 ^ 5000 := by
        rw [← hu]
        refine Nat.lt_of_lt_of_le (Nat.mul_lt_mul_of_pos_right (bl_lt A) (Nat.two_pow_pos _)) ?_
        rw [← Nat.pow_add]; exact Nat.pow_le_pow_right (by decide) (by omega)
      have hv5 : v < 2 ^ 5000 := by
        rw [← hv]
        refine Nat.lt_of_lt_of_le (Nat.mul_lt_mul_of_pos_right (bl_lt m) (Nat.two_pow_pos _)) ?_
        rw [← Nat.pow_add]; exact Nat.pow_le_pow_right (by decide) (by omega)
      by_cases hss : sa = sg
      · subst hss
        have hsum : u + v < 4294967296 ^ 160 := by
          have : (2 : Nat) ^ 5000 + 2 ^ 5000 ≤ 4294967296 ^ 160 := by
            rw [q_pow, ← Nat.two_mul, ← Nat.pow_succ']; exact Nat.pow_le_pow_right (by decide) (by decide)
          omega
        obtain ⟨s6, L6, h9, h10⟩ := x4_plus h6 h8 hsum
        have h11 := x0_rounded (x := min p e) false h10 hf hs hw (by omega) (by omega)
        have h12 : f_X0_rounded (s6, L6).1 (s6, L6).2 (uI sa) (iI (min p e)) (0 : Int32) (uI f) (uI way) = some (uL (rcP f way sa (u + v) (min p e) false)) := h11
        have h9' : f_X4_plus (s4, L4).1 (s4, L4).2 (s3, L3).1 (s3, L3).2 = some (s6, L6) := h9
        rw [if_pos rfl, h9', Option.bind_some, h12, Option.bind_some, if_pos rfl, if_pos rfl]
        exact ⟨_, _, _, _, rfl⟩
      · have hcmp : f_X4_comparedWith (s3, L3).1 (s3, L3).2 (s4, L4).1 (s4, L4).2 = some (iI (cmpI u v)) := x4_cmp h6 h8
        rw [if_neg (by exact fun x => hss ((uI_eq (by omega) (by omega)).mp x)), hcmp, Option.bind_some, if_neg hss, if_neg hss]
        by_cases heq : u = v
        · subst heq
          rw [if_pos (by exact (cmp_iI_eq _ _).mpr rfl), if_pos rfl, if_pos (Nat.le_refl _), Nat.sub_self, rcP_zero]
          by_cases hw3 : way = 3
          · subst hw3
            have hn0 : f_X2_nought (uI f) (1 : Int32) = some (uL (pat f 1 0)) := x2_nought (sg := 1) hf (by omega)
            rw [if_pos (by exact rfl), hn0, Option.bind_some, if_pos rfl]
            exact ⟨_, _, _, _, rfl⟩
          · have hn0 : f_X2_nought (uI f) (0 : Int32) = some (uL (pat f 0 0)) := x2_nought (sg := 0) hf (by omega)
            rw [if_neg (by exact fun x => hw3 ((uI_eq (b := 3) (by omega) (by omega)).mp x)), hn0, Option.bind_some, if_neg hw3]
            exact ⟨_, _, _, _, rfl⟩
        · rw [if_neg (by exact fun x => heq ((cmp_iI_eq _ _).mp x)), if_neg (show ¬ v = u by omega)]
          by_cases hlt : u < v
          · obtain ⟨s6, L6, h9, h10⟩ := x4_minus h8 h6 (by omega)
            have h11 := x0_rounded (x := min p e) false h10 hf hs hw (by omega) (by omega)
            have h12 : f_X0_rounded (s6, L6).1 (s6, L6).2 (uI sg) (iI (min p e)) (0 : Int32) (uI f) (uI way) = some (uL (rcP f way sg (v - u) (min p e) false)) := h11
            have h9' : f_X4_minus (s3, L3).1 (s3, L3).2 (s4, L4).1 (s4, L4).2 = some (s6, L6) := h9
            rw [if_pos (by exact (cmp_iI_le _ _).mpr (by omega)), h9', Option.bind_some, h12, Option.bind_some, if_neg (by omega), if_neg (by omega)]
            exact ⟨_, _, _, _, rfl⟩
          · obtain ⟨s6, L6, h9, h10⟩ := x4_minus h6 h8 (by omega)
            have h11 := x0_rounded (x := min p e) false h10 hf hsa hw (by omega) (by omega)
            have h12 : f_X0_rounded (s6, L6).1 (s6, L6).2 (uI sa) (iI (min p e)) (0 : Int32) (uI f) (uI way) = some (uL (rcP f way sa (u - v) (min p e) false)) := h11
            have h9' : f_X4_minus (s4, L4).1 (s4, L4).2 (s3, L3).1 (s3, L3).2 = some (s6, L6) := h9
            rw [if_neg (by exact fun x => by have := (cmp_iI_le _ _).mp x; omega), h9', Option.bind_some, h12, Option.bind_some, if_pos (by omega), if_pos (by omega)]
            exact ⟨_, _, _, _, rfl⟩
    · rw [if_neg (by decide), if_neg (by decide), if_neg hk3, if_pos (by exact rfl), if_neg (by decide), x2_endless hf hsa, Option.bind_some, if_pos (Or.inl rfl), if_neg (by rintro ⟨_, hh, _⟩; exact h3 hh)]
      exact ⟨_, _, _, _, rfl⟩
/-- what a sum of a looked-at thing and a value becomes -/
def sumP (f way : Nat) (endl : Bool) (sa A : Nat) (p : Int) (k sg m : Nat) (e : Int) : Nat :=
  if endl = true ∨ k = 3 then (if endl = true ∧ k = 3 ∧ sa ≠ sg then patNone f else pat f (if endl then sa else sg) (fInf f)) else rcP f way (suS sa A p sg m e way) (suN sa A p sg m e) (min p e) false
theorem x0_sum {k1 s1 m1 k2 s2 m2 f way : Nat} {e1 e2 : Int} (h1 : isV k1 s1 m1 e1) (h2 : isV k2 s2 m2 e2) (hf : f ≤ 1) (hw : way < 4) (ls : Int32) (ll : Nat → Int64) (rs : Int32) (rl : Nat → Int64) :
    ∃ s L s3 L3, f_X0_sum (uI k1) (uI s1) (uL m1) (iI e1) (uI k2) (uI s2) (uL m2) (iI e2) (uI f) (uI way) ls ll rs rl = some (uL (if k1 = 4 ∨ k2 = 4 then patNone f else sumP f way (k1 == 3) s1 m1 e1 k2 s2 m2 e2), s, L, s3, L3) := by
  have hh1 := h1
  obtain ⟨hk1, hs1, hm1, he1, he1', _⟩ := h1
  have hk2 := h2.1
  unfold f_X0_sum f_X0_sum_B16 f_X0_sum_B46
  by_cases h14 : k1 = 4
  · subst h14
    rw [if_pos (by exact rfl), x2_none hf, Option.bind_some, if_pos (Or.inl rfl)]; exact ⟨_, _, _, _, rfl⟩
  · rw [if_neg (by exact fun x => h14 ((uI_eq (b := 4) (by omega) (by omega)).mp x))]
    by_cases h24 : k2 = 4
    · subst h24
      rw [if_pos (by exact rfl), x2_none hf, Option.bind_some, if_pos (Or.inr rfl)]; exact ⟨_, _, _, _, rfl⟩
    · rw [if_neg (by exact fun x => h24 ((uI_eq (b := 4) (by omega) (by omega)).mp x)), if_neg (by omega)]
      obtain ⟨s, L, h3, h4⟩ := x4_take ls ll (u := m1) (by omega)
      have hmb : bl m1 ≤ 53 := bl_le_of_lt hm1
      rw [h3, Option.bind_some]
      obtain ⟨s5, L5, s6, L6, h5⟩ := x0_leftAnd (p := e1) (sa := s1) (rs := rs) (rl := rl) (k1 == 3) h4 (by omega) (by omega) (by omega) hs1 h2 h24 hf hw
      unfold sumP
      by_cases h13 : k1 = 3
      · subst h13
        have h5' : f_X0_leftAnd (uI k2) (uI s2) (uL m2) (iI e2) (1 : Int32) (uI s1) (iI e1) (uI f) (uI way) (s, L).1 (s, L).2 rs rl = _ := h5
        rw [if_pos (by exact rfl), h5', Option.bind_some]; exact ⟨_, _, _, _, rfl⟩
      · have hb : (k1 == 3) = false := beq_false_of_ne h13
        rw [hb] at h5 ⊢
        have h5' : f_X0_leftAnd (uI k2) (uI s2) (uL m2) (iI e2) (0 : Int32) (uI s1) (iI e1) (uI f) (uI way) (s, L).1 (s, L).2 rs rl = _ := h5
        rw [if_neg (by exact fun x => h13 ((uI_eq (b := 3) (by omega) (by omega)).mp x)), h5', Option.bind_some]; exact ⟨_, _, _, _, rfl⟩
/-! products -/
theorem x0_multiply {a b : Nat} (ha : a < 2 ^ 53) (hb : b < 2 ^ 53) (ls : Int32) (ll : Nat → Int64) (rs : Int32) (rl : Nat → Int64) :
    ∃ s L s2 L2, f_X0_multiply (uL a) (uL b) ls ll rs rl = some (s, L, s2, L2) ∧ R32 s L (a * b) := by
  unfold f_X0_multiply
  have hab : a * b < 2 ^ 106 := by
    have : a * b ≤ 2 ^ 53 * b := Nat.mul_le_mul_right _ (by omega)
    have h2 : 2 ^ 53 * b < 2 ^ 53 * 2 ^ 53 := Nat.mul_lt_mul_of_pos_left hb (by decide)
    have h3 : (2 : Nat) ^ 53 * 2 ^ 53 = 2 ^ 106 := by decide
    omega
  have hroom : (2 : Nat) ^ 200 ≤ 4294967296 ^ 159 := by rw [q_pow]; exact Nat.pow_le_pow_right (by decide) (by decide)
  have hroom2 : (2 : Nat) ^ 200 ≤ 4294967296 ^ 160 := by rw [q_pow]; exact Nat.pow_le_pow_right (by decide) (by decide)
  have h106 : (2 : Nat) ^ 106 * 2 < 2 ^ 200 := by decide
  have hhi : a * (b / 4294967296) * 4294967296 ≤ a * b := by
    rw [Nat.mul_assoc]; exact Nat.mul_le_mul_left _ (Nat.div_mul_le_self _ _)
  have hlo : a * (b % 4294967296) ≤ a * b := Nat.mul_le_mul_left _ (Nat.mod_le _ _)
  obtain ⟨s1, L1, h1, h2⟩ := x4_take ls ll (u := a) (by omega)
  obtain ⟨s3, L3, h3, h4⟩ := x4_scale h2 (f := b / 4294967296) (x := 0) (by omega) (by decide) (by omega)
  rw [Nat.add_zero] at h4
  obtain ⟨s5, L5, h5, h6⟩ := x4_shift h4 (s := 32) (by decide) (by
    have : a * (b / 4294967296) * 2 ^ 32 = a * (b / 4294967296) * 4294967296 := rfl
    omega)
  obtain ⟨s7, L7, h7, h8⟩ := x4_take rs rl (u := a) (by omega)
  obtain ⟨s9, L9, h9, h10⟩ := x4_scale h8 (f := b % 4294967296) (x := 0) (by omega) (by decide) (by omega)
  rw [Nat.add_zero] at h10
  have hsum : a * (b / 4294967296) * 2 ^ 32 + a * (b % 4294967296) = a * b := by
    have e := Nat.div_add_mod b 4294967296
    rw [Nat.mul_assoc, ← Nat.mul_add]
    congr 1
    omega
  obtain ⟨s11, L11, h11, h12⟩ := x4_plus h6 h10 (by rw [hsum]; omega)
  rw [hsum] at h12
  refine ⟨s11, L11, s9, L9, ?_, h12⟩
  have g3 : f_X4_scale (uL (b / 4294967296)) (0 : Int64) (s1, L1).1 (s1, L1).2 = some (s3, L3) := h3
  have g5 : f_X4_shiftUp (32 : Int32) (s3, L3).1 (s3, L3).2 = some (s5, L5) := h5
  have g9 : f_X4_scale (uL (b % 4294967296)) (0 : Int64) (s7, L7).1 (s7, L7).2 = some (s9, L9) := h9
  have g11 : f_X4_plus (s9, L9).1 (s9, L9).2 (s5, L5).1 (s5, L5).2 = some (s11, L11) := h11
  rw [h1, Option.bind_some, uL_shr32 (by omega), g3, Option.bind_some, g5, Option.bind_some, h7, Option.bind_some, uL_mask32, g9, Option.bind_some, g11]; rfl
def noPr (k1 k2 : Nat) : Bool := k1 == 4 || k2 == 4 || (k1 == 0 && k2 == 3) || (k1 == 3 && k2 == 0)
theorem x0_noPr {k1 k2 : Nat} (h1 : k1 ≤ 4) (h2 : k2 ≤ 4) : f_X0_hasNoProduct (uI k1) (uI k2) = some (bI (noPr k1 k2)) := by
  have key : ∀ a b : Fin 5, f_X0_hasNoProduct (uI a.val) (uI b.val) = some (bI (noPr a.val b.val)) := by decide +kernel
  exact key ⟨k1, by omega⟩ ⟨k2, by omega⟩
/-- the sign of a product -/
def prS (s1 s2 : Nat) : Nat := if s1 = s2 then 0 else 1
theorem prS_le (s1 s2 : Nat) : prS s1 s2 ≤ 1 := by unfold prS; split <;> omega
theorem bl_mul106 {a b : Nat} (ha : a < 2 ^ 53) (hb : b < 2 ^ 53) : bl (a * b) ≤ 106 := by
  have := bl_mul_le a b
  have h1 := bl_le_of_lt ha
  have h2 := bl_le_of_lt hb
  omega
theorem x0_product {k1 s1 m1 k2 s2 m2 f way : Nat} {e1 e2 : Int} (h1 : isV k1 s1 m1 e1) (h2 : isV k2 s2 m2 e2) (hf : f ≤ 1) (hw : way < 4) (ls : Int32) (ll : Nat → Int64) (rs : Int32) (rl : Nat → Int64) :
    ∃ s L s3 L3, f_X0_product (uI k1) (uI s1) (uL m1) (iI e1) (uI k2) (uI s2) (uL m2) (iI e2) (uI f) (uI way) ls ll rs rl = some (uL (if noPr k1 k2 then patNone f else if k1 = 3 ∨ k2 = 3 then pat f (prS s1 s2) (fInf f) else rcP f way (prS s1 s2) (m1 * m2) (e1 + e2) false), s, L, s3, L3) := by
  obtain ⟨hk1, hs1, hm1, he1, he1', _⟩ := h1
  obtain ⟨hk2, hs2, hm2, he2, he2', _⟩ := h2
  have hB : ∀ s0 : Nat, s0 ≤ 1 → ∃ s L s3 L3, f_X0_product_B16 (uI k1) (uI s1) (uL m1) (iI e1) (uI k2) (uI s2) (uL m2) (iI e2) (uI f) (uI way) (uI s0) ls ll rs rl = some (uL (if noPr k1 k2 then patNone f else if k1 = 3 ∨ k2 = 3 then pat f s0 (fInf f) else rcP f way s0 (m1 * m2) (e1 + e2) false), s, L, s3, L3) := by
    intro s0 hs0
    unfold f_X0_product_B16 f_X0_product_B47
    rw [x0_noPr hk1 hk2, Option.bind_some]
    cases noPr k1 k2
    · rw [if_pos (by decide), if_neg (show ¬ (false = true) by decide)]
      by_cases h13 : k1 = 3
      · subst h13
        rw [if_pos (by exact rfl), x2_endless hf hs0, Option.bind_some, if_pos (Or.inl rfl)]; exact ⟨_, _, _, _, rfl⟩
      · rw [if_neg (by exact fun x => h13 ((uI_eq (b := 3) (by omega) (by omega)).mp x))]
        by_cases h23 : k2 = 3
        · subst h23
          rw [if_pos (by exact rfl), x2_endless hf hs0, Option.bind_some, if_pos (Or.inr rfl)]; exact ⟨_, _, _, _, rfl⟩
        · rw [if_neg (by exact fun x => h23 ((uI_eq (b := 3) (by omega) (by omega)).mp x)), if_neg (by omega)]
          obtain ⟨s, L, s5, L5, h5, h6⟩ := x0_multiply hm1 hm2 ls ll rs rl
          rw [h5, Option.bind_some, iI_add]
          have h7 := x0_rounded (sg := s0) (x := e1 + e2) false h6 hf hs0 hw (by omega) (by omega)
          have h8 : f_X0_rounded (s, L, s5, L5).1 (s, L, s5, L5).2.1 (uI s0) (iI (e1 + e2)) (0 : Int32) (uI f) (uI way) = some (uL (rcP f way s0 (m1 * m2) (e1 + e2) false)) := h7
          rw [h8, Option.bind_some]; exact ⟨_, _, _, _, rfl⟩
    · rw [if_neg (by decide), if_pos rfl, x2_none hf, Option.bind_some]; exact ⟨_, _, _, _, rfl⟩
  unfold f_X0_product prS
  by_cases hss : s1 = s2
  · rw [if_pos (by rw [hss]), if_pos hss]
    exact hB 0 (by omega)
  · rw [if_neg (by exact fun x => hss ((uI_eq (by omega) (by omega)).mp x)), if_neg hss]
    exact hB 1 (by omega)
theorem x0_productAndSum {k1 s1 m1 k2 s2 m2 k3 s3 m3 f way : Nat} {e1 e2 e3 : Int} (h1 : isV k1 s1 m1 e1) (h2 : isV k2 s2 m2 e2) (h3 : isV k3 s3 m3 e3) (hf : f ≤ 1) (hw : way < 4) (ls : Int32) (ll : Nat → Int64) (rs : Int32) (rl : Nat → Int64) :
    ∃ s L s5 L5, f_X0_productAndSum (uI k1) (uI s1) (uL m1) (iI e1) (uI k2) (uI s2) (uL m2) (iI e2) (uI k3) (uI s3) (uL m3) (iI e3) (uI f) (uI way) ls ll rs rl = some (uL (if noPr k1 k2 ∨ k3 = 4 then patNone f else sumP f way (k1 == 3 || k2 == 3) (prS s1 s2) (m1 * m2) (e1 + e2) k3 s3 m3 e3), s, L, s5, L5) := by
  obtain ⟨hk1, hs1, hm1, he1, he1', _⟩ := h1
  obtain ⟨hk2, hs2, hm2, he2, he2', _⟩ := h2
  have hk3 := h3.1
  unfold f_X0_productAndSum f_X0_productAndSum_B16 f_X0_productAndSum_B50
  rw [x0_noPr hk1 hk2, Option.bind_some]
  cases noPr k1 k2
  · rw [if_pos (by decide)]
    by_cases h34 : k3 = 4
    · subst h34
      rw [if_pos (by exact rfl), x2_none hf, Option.bind_some, if_pos (Or.inr rfl)]; exact ⟨_, _, _, _, rfl⟩
    · rw [if_neg (by exact fun x => h34 ((uI_eq (b := 4) (by omega) (by omega)).mp x)), if_neg (by rintro (hh | hh); cases hh; exact h34 hh)]
      obtain ⟨s, L, s5, L5, h5, h6⟩ := x0_multiply hm1 hm2 ls ll rs rl
      rw [h5, Option.bind_some]
      have hbl := bl_mul106 hm1 hm2
      have hgo : ∀ endl : Bool, ∃ s' L' s6 L6, f_X0_productAndSum_B55 (uI k1) (uI s1) (uL m1) (iI e1) (uI k2) (uI s2) (uL m2) (iI e2) (uI k3) (uI s3) (uL m3) (iI e3) (uI f) (uI way) (bI endl) s L s5 L5 = some (uL (sumP f way endl (prS s1 s2) (m1 * m2) (e1 + e2) k3 s3 m3 e3), s', L', s6, L6) := by
        intro endl
        unfold f_X0_productAndSum_B55 f_X0_productAndSum_B76
        obtain ⟨s7, L7, s8, L8, h7⟩ := x0_leftAnd (p := e1 + e2) (sa := prS s1 s2) (rs := s5) (rl := L5) endl h6 (by omega) (by omega) (by omega) (prS_le _ _) h3 h34 hf hw
        rw [iI_add]
        unfold prS at h7 ⊢
        by_cases hss : s1 = s2
        · rw [if_pos hss] at h7 ⊢
          have h7' : f_X0_leftAnd (uI k3) (uI s3) (uL m3) (iI e3) (bI endl) (0 : Int32) (iI (e1 + e2)) (uI f) (uI way) s L s5 L5 = _ := h7
          rw [if_pos (by rw [hss]), h7', Option.bind_some]; exact ⟨_, _, _, _, rfl⟩
        · rw [if_neg hss] at h7 ⊢
          have h7' : f_X0_leftAnd (uI k3) (uI s3) (uL m3) (iI e3) (bI endl) (1 : Int32) (iI (e1 + e2)) (uI f) (uI way) s L s5 L5 = _ := h7
          rw [if_neg (by exact fun x => hss ((uI_eq (by omega) (by omega)).mp x)), h7', Option.bind_some]; exact ⟨_, _, _, _, rfl⟩
      by_cases h13 : k1 = 3
      · subst h13
        rw [if_pos (by exact rfl)]
        exact hgo true
      · have hb1 : (k1 == 3) = false := beq_false_of_ne h13
        rw [if_neg (by exact fun x => h13 ((uI_eq (b := 3) (by omega) (by omega)).mp x)), hb1, Bool.false_or]
        by_cases h23 : k2 = 3
        · subst h23
          rw [if_pos (by exact rfl)]
          exact hgo true
        · have hb2 : (k2 == 3) = false := beq_false_of_ne h23
          rw [if_neg (by exact fun x => h23 ((uI_eq (b := 3) (by omega) (by omega)).mp x)), hb2]
          exact hgo false
  · rw [if_neg (by decide), if_pos (Or.inl rfl), x2_none hf, Option.bind_some]; exact ⟨_, _, _, _, rfl⟩
