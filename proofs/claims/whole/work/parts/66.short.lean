/-! the shortest: reference, and both together -/
theorem x11_shL {f t A U R N0 D i0 : Nat} {T : Int} (hf : f ≤ 1) (ht : t < 2 ^ fTop f) (ht0 : t ≠ 0) (hfin : t / 2 ^ fWd f ≠ fEx f) (hm0 : stM f t ≠ 0) (hU : 0 < U) (hR : 0 < R) (hUA : U ≤ A) (hA : A = stM f t * 2 ^ (if vN f t then 2 else 1) * R) (hsv : sv R U T 1 (fLo f + stE f t - (if vN f t then 2 else 1 : Nat))) (hT1 : -326 ≤ T) (hT2 : T ≤ 311)
    (hD : 0 < D) (hN2 : N0 < D * 10) (hDl : D < 10 ^ 400) (hAD : A * D = N0 * U) (hi0 : i0 ≤ 17) (hno : ∀ j, j < i0 → (loP A U R (stM f t % 2 == 0) j || hiP A U R (if vN f t then 2 else 1) (stM f t % 2 == 0) j) = false) (hyes : (loP A U R (stM f t % 2 == 0) i0 || hiP A U R (if vN f t then 2 else 1) (stM f t % 2 == 0) i0) = true) (mm : Int64) (ee fm la : Int32) (fg : Nat → Int32) {dl : Int32} {dd : Nat → Int32} (hRd : R30 dl dd D) :
    ∀ (k i fuel Qp V : Nat) (sg pw rt al : Int32) (ad : Nat → Int32) (bl0 : Int32) (bd : Nat → Int32) (ll : Int32) (ld : Nat → Int32) (rl : Int32) (rd : Nat → Int32) (gl : Int32) (gd : Nat → Int32) (tl : Int32) (td : Nat → Int32) (nl : Int32) (nd : Nat → Int32) (wl : Int32) (wd : Nat → Int32) (hl : Int32) (hd : Nat → Int32), i + k = i0 → k < fuel → Qp * 10 * D + V = N0 * 10 ^ i → V < D * 10 → R30 nl nd V → R30 wl wd Qp →
    ∃ (N' c' y : Nat) (o1 o2 o3 o4 a1 : Int32) (a2 : Nat → Int32) (a3 : Int32) (a4 : Nat → Int32) (a5 : Int32) (a6 : Nat → Int32) (a7 : Int32) (a8 : Nat → Int32) (a9 : Int32) (a10 : Nat → Int32) (a11 : Int32) (a12 fg' : Nat → Int32) (b1 : Int32) (b2 : Nat → Int32) (b3 : Int32) (b4 : Nat → Int32) (b5 : Int32) (b6 : Nat → Int32) (b7 : Int32) (b8 : Nat → Int32), f_X11_shorten_L15 mm ee fuel (uI f) (uL t) (uI i) sg pw rt fm la (iI T) al ad bl0 bd ll ld rl rd gl gd tl td fg nl nd dl dd wl wd hl hd = some (o1, o2, o3, uI c', iI (T - i0 + y), o4, a1, a2, a3, a4, a5, a6, a7, a8, a9, a10, a11, a12, fg', b1, b2, b3, b4, b5, b6, b7, b8) ∧ tlOK N' c' fg' ∧ 1 ≤ c' ∧ c' ≤ 100 ∧ A * 10 ^ i0 / U + (if upP A U R (if vN f t then 2 else 1) (stM f t % 2 == 0) i0 then 1 else 0) = N' * 10 ^ y ∧ (c' = 1 ∨ N' % 10 ≠ 0) := by
  intro k
  induction k with
  | zero =>
    intro i fuel Qp V sg pw rt al ad bl0 bd ll ld rl rd gl gd tl td nl nd wl wd hl hd hi hf' hW hV hRn hRw
    obtain ⟨fu, rfl, _⟩ := ex_succ hf'
    have hii : i = i0 := by omega
    subst hii
    have h10 : V / D < 10 := Nat.div_lt_of_lt_mul hV
    have hdm := Nat.div_add_mod V D
    have hm := Nat.mod_lt V hD
    have hW2 : (Qp * 10 + V / D) * D + V % D = N0 * 10 ^ i := by
      rw [Nat.add_mul, Nat.mul_comm (V / D) D, Nat.add_assoc, hdm, hW]
    obtain ⟨hq, hr2⟩ := rnd_flags hD hW2 hm
    obtain ⟨hfq, hfr⟩ := frac_eq (N1 := A * 10 ^ i) (D1 := U) (N2 := N0 * 10 ^ i) (D2 := D) hU hD (by rw [Nat.mul_right_comm, hAD, Nat.mul_right_comm])
    rw [hq] at hfq
    rw [hr2] at hfr
    obtain ⟨c1, c2, g1, g2⟩ := x11_next hRd hD hRn hV
    have hqb : Qp * 10 + V / D + 1 < 10 ^ 30 := by
      have h1 : Qp * 10 + V / D ≤ N0 * 10 ^ i / D := Nat.le_of_eq hq.symm
      have h2 : N0 * 10 ^ i / D < 10 * 10 ^ i := by
        refine (Nat.div_lt_iff_lt_mul hD).mpr ?_
        have := Nat.mul_lt_mul_of_pos_right hN2 (ten_pos i)
        rw [show 10 * 10 ^ i * D = D * 10 * 10 ^ i by simp only [Nat.mul_comm, Nat.mul_left_comm, Nat.mul_assoc]]
        exact this
      have h3 : 10 * 10 ^ i ≤ 10 ^ 29 := by rw [Nat.mul_comm, ← Nat.pow_succ]; exact Nat.pow_le_pow_right (by decide) (by omega)
      have h4 : (10 : Nat) ^ 29 < 10 ^ 30 := by decide
      omega
    have hqb2 := lim_lt (Nat.lt_trans (Nat.lt_trans (Nat.lt_succ_self _) hqb) (Nat.pow_lt_pow_right (by decide) (by decide)))
    obtain ⟨c3, c4, g3, g4⟩ := x10_times hRw (f := 10) (x := V / D) (by decide) (by omega) (Nat.lt_trans (Nat.lt_succ_self _) hqb2.2.2)
    have g3' : f_X10_times (10 : Int64) (uI (V / D)) wl wd = some (c3, c4) := g3
    obtain ⟨c5, c6, g5, g6⟩ := x10_copy g4 hl hd
    obtain ⟨c7, c8, g7, g8⟩ := x10_small g6 (x := 1) (by decide) hqb2.2.2
    have g7' : f_X10_addSmall (1 : Int32) c5 c6 = some (c7, c8) := g7
    have ek : iI T - (uI i + 1) + 1 = iI (T - i) := by rw [uI_succ, show uI (i + 1) = iI ((i + 1 : Nat) : Int) from rfl, iI_sub, wI_1, iI_add]; exact congrArg iI (by omega)
    obtain ⟨w, g9⟩ := x11_leads (k := T - i) (Nat.lt_trans (Nat.lt_succ_self _) hqb) (by omega) (by omega) hf ht ht0 g4 (sg, pw, rt, al, ad, bl0, bd, ll, ld, rl, rd, gl, gd, tl, td)
    dsimp only at g9
    obtain ⟨w', g10⟩ := x11_leads (k := T - i) hqb (by omega) (by omega) hf ht ht0 g8 w
    have hle := lead_eq (i := i) hf ht0 hfin hm0 hU hR hA hsv
    rw [hfq] at hle
    rw [hle.1] at g9
    rw [hle.2] at g10
    rw [f_X11_shorten_L15, g1, Option.bind_some, g3', Option.bind_some, g5, Option.bind_some, g7', Option.bind_some, ek, g9, Option.bind_some]
    dsimp only
    rw [g10, Option.bind_some]
    dsimp only
    have hup : (hiP A U R (if vN f t then 2 else 1) (stM f t % 2 == 0) i && (!loP A U R (stM f t % 2 == 0) i || decide (D < 2 * (V % D)))) = upP A U R (if vN f t then 2 else 1) (stM f t % 2 == 0) i := by
      have hmid : D < 2 * (V % D) ↔ U < 2 * (A * 10 ^ i % U) := by
        refine (cmp_scale (P := U) (Q := D) hU hD (Nat.mul_comm _ _) ?_).1
        rw [Nat.mul_left_comm, Nat.mul_comm U, ← hfr, Nat.mul_left_comm D 2, Nat.mul_comm D]
      unfold upP
      rw [dec_iff hmid]
    have hq0 : Qp * 10 + V / D ≠ 0 := by
      rw [← hfq]
      have := q_low hU hUA i
      have := ten_pos i
      omega
    have hend := x11_sh100 _ _ hyes (T - i) mm ee fm la fg w'.1 w'.2.1 w'.2.2.1 (iI T) w'.2.2.2.1 w'.2.2.2.2.1 w'.2.2.2.2.2.1 w'.2.2.2.2.2.2.1 w'.2.2.2.2.2.2.2.1 w'.2.2.2.2.2.2.2.2.1 w'.2.2.2.2.2.2.2.2.2.1 w'.2.2.2.2.2.2.2.2.2.2.1 w'.2.2.2.2.2.2.2.2.2.2.2.1 w'.2.2.2.2.2.2.2.2.2.2.2.2.1 w'.2.2.2.2.2.2.2.2.2.2.2.2.2.1 w'.2.2.2.2.2.2.2.2.2.2.2.2.2.2 c1 c2 dl dd c3 c4 c7 c8 g4 g8 g2 hRd (Nat.lt_trans hm hDl) hq0 hqb
    rw [hup, ← hfq] at hend
    cases hlo : loP A U R (stM f t % 2 == 0) i with
    | true =>
      rw [if_neg (by decide)]
      rw [hlo] at hend
      exact hend
    | false =>
      rw [if_pos (by rfl)]
      have hh : hiP A U R (if vN f t then 2 else 1) (stM f t % 2 == 0) i = true := by rw [hlo, Bool.false_or] at hyes; exact hyes
      rw [hlo, hh] at hend
      rw [hh, if_neg (by decide)]
      exact hend
  | succ k ih =>
    intro i fuel Qp V sg pw rt al ad bl0 bd ll ld rl rd gl gd tl td nl nd wl wd hl hd hi hf' hW hV hRn hRw
    obtain ⟨fu, rfl, hfu⟩ := ex_succ hf'
    have h10 : V / D < 10 := Nat.div_lt_of_lt_mul hV
    have hdm := Nat.div_add_mod V D
    have hm := Nat.mod_lt V hD
    have hW2 : (Qp * 10 + V / D) * D + V % D = N0 * 10 ^ i := by
      rw [Nat.add_mul, Nat.mul_comm (V / D) D, Nat.add_assoc, hdm, hW]
    obtain ⟨hq, hr2⟩ := rnd_flags hD hW2 hm
    obtain ⟨hfq, hfr⟩ := frac_eq (N1 := A * 10 ^ i) (D1 := U) (N2 := N0 * 10 ^ i) (D2 := D) hU hD (by rw [Nat.mul_right_comm, hAD, Nat.mul_right_comm])
    rw [hq] at hfq
    rw [hr2] at hfr
    obtain ⟨c1, c2, g1, g2⟩ := x11_next hRd hD hRn hV
    have hqb : Qp * 10 + V / D + 1 < 10 ^ 30 := by
      have h1 : Qp * 10 + V / D ≤ N0 * 10 ^ i / D := Nat.le_of_eq hq.symm
      have h2 : N0 * 10 ^ i / D < 10 * 10 ^ i := by
        refine (Nat.div_lt_iff_lt_mul hD).mpr ?_
        have := Nat.mul_lt_mul_of_pos_right hN2 (ten_pos i)
        rw [show 10 * 10 ^ i * D = D * 10 * 10 ^ i by simp only [Nat.mul_comm, Nat.mul_left_comm, Nat.mul_assoc]]
        exact this
      have h3 : 10 * 10 ^ i ≤ 10 ^ 29 := by rw [Nat.mul_comm, ← Nat.pow_succ]; exact Nat.pow_le_pow_right (by decide) (by omega)
      have h4 : (10 : Nat) ^ 29 < 10 ^ 30 := by decide
      omega
    have hqb2 := lim_lt (Nat.lt_trans (Nat.lt_trans (Nat.lt_succ_self _) hqb) (Nat.pow_lt_pow_right (by decide) (by decide)))
    obtain ⟨c3, c4, g3, g4⟩ := x10_times hRw (f := 10) (x := V / D) (by decide) (by omega) (Nat.lt_trans (Nat.lt_succ_self _) hqb2.2.2)
    have g3' : f_X10_times (10 : Int64) (uI (V / D)) wl wd = some (c3, c4) := g3
    obtain ⟨c5, c6, g5, g6⟩ := x10_copy g4 hl hd
    obtain ⟨c7, c8, g7, g8⟩ := x10_small g6 (x := 1) (by decide) hqb2.2.2
    have g7' : f_X10_addSmall (1 : Int32) c5 c6 = some (c7, c8) := g7
    have ek : iI T - (uI i + 1) + 1 = iI (T - i) := by rw [uI_succ, show uI (i + 1) = iI ((i + 1 : Nat) : Int) from rfl, iI_sub, wI_1, iI_add]; exact congrArg iI (by omega)
    obtain ⟨w, g9⟩ := x11_leads (k := T - i) (Nat.lt_trans (Nat.lt_succ_self _) hqb) (by omega) (by omega) hf ht ht0 g4 (sg, pw, rt, al, ad, bl0, bd, ll, ld, rl, rd, gl, gd, tl, td)
    dsimp only at g9
    obtain ⟨w', g10⟩ := x11_leads (k := T - i) hqb (by omega) (by omega) hf ht ht0 g8 w
    have hle := lead_eq (i := i) hf ht0 hfin hm0 hU hR hA hsv
    rw [hfq] at hle
    rw [hle.1] at g9
    rw [hle.2] at g10
    rw [f_X11_shorten_L15, g1, Option.bind_some, g3', Option.bind_some, g5, Option.bind_some, g7', Option.bind_some, ek, g9, Option.bind_some]
    dsimp only
    rw [g10, Option.bind_some]
    dsimp only
    have hn := hno i (by omega)
    have hlo : loP A U R (stM f t % 2 == 0) i = false := (Bool.or_eq_false_iff.mp hn).1
    have hhi : hiP A U R (if vN f t then 2 else 1) (stM f t % 2 == 0) i = false := (Bool.or_eq_false_iff.mp hn).2
    obtain ⟨c9, c10, g11, g12⟩ := x10_times g2 (f := 10) (x := 0) (by decide) (by decide) (lim401' (lim401 (Nat.lt_trans hm hDl))).2
    have g11' : f_X10_times (10 : Int64) (0 : Int32) c1 c2 = some (c9, c10) := g11
    rw [hlo, hhi, if_pos (by rfl), if_pos (by rfl), g11', Option.bind_some, uI_succ]
    refine ih (i + 1) fu (Qp * 10 + V / D) (V % D * 10) _ _ _ _ _ _ _ _ _ _ _ _ _ _ _ c9 c10 c3 c4 c7 c8 (by omega) (by omega) ?_ ?_ g12 g4
    · rw [Nat.pow_succ, ← Nat.mul_assoc, ← hW2, Nat.add_mul ((Qp * 10 + V / D) * D), Nat.mul_right_comm (Qp * 10 + V / D) D 10]
    · exact Nat.mul_lt_mul_of_pos_right hm (by decide)
