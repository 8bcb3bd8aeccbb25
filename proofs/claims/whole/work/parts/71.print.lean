/-! write: every value but the one that is none -/
theorem k_B41 {F : Nat → Int32} {G : Nat → Int64} {p f sg t fo w kd : Nat} {p3 : Int32} (hp : p < 16) (hF : F p = uI f) (hG : G p = uL (pat f sg t)) (hf : f ≤ 1) (hs1 : sg ≤ 1) (ht : t < 2 ^ fTop f) (hw : w < 4) (hfo : fo ≤ 5) (h2 : fo = 2 → ∃ n : Nat, n ≤ 60 ∧ p3 = uI n) (h3 : fo = 3 → ∃ n : Nat, 1 ≤ n ∧ n ≤ 60 ∧ p3 = uI n)
    {m : Nat} {e : Int} {nw : Bool} (hkd : kd = vK f t) (hk4 : kd ≠ 4) (hm : m = vM f t) (he : e = vE f t) (hnw : nw = vN f t)
    (cl : Int32) (cB : Nat → Int32) (z1 : Int32) (z2 : Int32) (z3 : Int32) (z4 : Nat → Int64) (z5 : Int32) (z6 : Nat → Int64) (z7 : Int32) (z8 : Nat → Int64) (z9 : Int32) (z10 : Nat → Int64) (ct : Int32) (tp : Int32) (row : Nat → Int32) (sign : Int32) (power : Int32) (root : Int32) (th : Int32) (wr : Int32) (fm : Int32) (la : Int32) (te : Int32) (al : Int32) (ad : Nat → Int32) (bl0 : Int32) (bd : Nat → Int32) (ll : Int32) (ld : Nat → Int32) (rl : Int32) (rd : Nat → Int32) (gl : Int32) (gd : Nat → Int32) (tl : Int32) (td : Nat → Int32) (tx : Nat → Int32) (fg : Nat → Int32) (nl : Int32) (nd : Nat → Int32) (dl : Int32) (dd : Nat → Int32) (wl : Int32) (wd : Nat → Int32) (hl : Int32) (hd : Nat → Int32) {l : List Nat} (hsc : shOK l cl cB) (hsr : shOK l wr tx) (hln : l.length ≤ 1) :
    ∃ l' : List Nat, l'.length ≤ 1077 ∧ (∃ (q0 : Int32) (q1 : Nat → Int32) (q2 : Int32) (q3 : Int32) (q4 : Int32) (q5 : Nat → Int64) (q6 : Int32) (q7 : Nat → Int64) (q8 : Int32) (q9 : Nat → Int64) (q10 : Int32) (q11 : Nat → Int64) (q12 : Int32) (q13 : Int32) (q14 : Nat → Int32), f_X3_print_B41 (uI kd) (uI sg) (uL m) (iI e) (bI nw) (uI fo) p3 (uI w) cl cB z1 z2 z3 z4 z5 z6 z7 z8 z9 z10 ct tp row = some (q0, q1, q2, q3, q4, q5, q6, q7, q8, q9, q10, q11, q12, q13, q14) ∧ shOK l' q0 q1) ∧ (∃ (s0 : Int32) (s1 : Int32) (s2 : Int32) (s5 : Int32) (s6 : Int32) (s7 : Int32) (s8 : Int32) (s9 : Nat → Int32) (s10 : Int32) (s11 : Nat → Int32) (s12 : Int32) (s13 : Nat → Int32) (s14 : Int32) (s15 : Nat → Int32) (s16 : Int32) (s17 : Nat → Int32) (s18 : Int32) (s19 : Nat → Int32) (s21 : Nat → Int32) (s22 : Int32) (s23 : Nat → Int32) (s24 : Int32) (s25 : Nat → Int32) (s26 : Int32) (s27 : Nat → Int32) (s28 : Int32) (s29 : Nat → Int32) (wr' : Int32) (tx' : Nat → Int32), f_X11_write_B114 F G (uI p) (uI fo) p3 (uI w) (uI kd) (uI sg) (uL m) (iI e) sign power root th wr fm la te al ad bl0 bd ll ld rl rd gl gd tl td tx fg nl nd dl dd wl wd hl hd = some (wr', uI kd, uI sg, uL m, iI e, s0, s1, s2, th, wr', s5, s6, s7, s8, s9, s10, s11, s12, s13, s14, s15, s16, s17, s18, s19, tx', s21, s22, s23, s24, s25, s26, s27, s28, s29) ∧ shOK l' wr' tx') := by
  have hV := isV_of hf hs1 ht
  rw [← hkd, ← hm, ← he] at hV
  obtain ⟨_, _, hmb, he1, he2, hv0, hvn, hv3⟩ := hV
  by_cases hfin : t / 2 ^ fWd f = fEx f
  · have hk3 : kd = 3 := by
      unfold vK at hkd
      rw [if_pos hfin] at hkd
      split at hkd
      · exact hkd
      · exact absurd hkd hk4
    subst hk3
    obtain ⟨len1, B1, g1, g2⟩ := x5_textT (t := 11) (bs := [105, 110, 102]) (by simp) hsc (by simp; omega)
    obtain ⟨len2, B2, g3, g4⟩ := x11_wordT (t := 15) (bs := [105, 110, 102]) (by simp) hsr (by simp; omega)
    refine ⟨l ++ [105, 110, 102], by simp; omega, ?_, ?_⟩
    · unfold f_X3_print_B41
      rw [if_pos (by rfl), g1, Option.bind_some]
      exact ⟨_, _, _, _, _, _, _, _, _, _, _, _, _, _, _, rfl, g2⟩
    · unfold f_X11_write_B114
      rw [if_pos (by rfl), g3, Option.bind_some]
      exact ⟨_, _, _, _, _, _, _, _, _, _, _, _, _, _, _, _, _, _, _, _, _, _, _, _, _, _, _, _, _, rfl, g4⟩
  · by_cases ht0 : t = 0
    · have hk0 : kd = 0 := by
        unfold vK at hkd
        rw [if_neg hfin, ht0, Nat.zero_div, if_pos rfl, if_pos rfl] at hkd
        exact hkd
      subst hk0
      by_cases h4 : fo = 4
      · subst h4
        obtain ⟨len1, B1, g1, g2⟩ := x5_textT (t := 12) (bs := [48, 120, 48, 112, 48]) (by simp) hsc (by simp; omega)
        obtain ⟨len2, B2, g3, g4⟩ := x11_wordT (t := 17) (bs := [48, 120, 48, 112, 48]) (by simp) hsr (by simp; omega)
        refine ⟨l ++ [48, 120, 48, 112, 48], by simp; omega, ?_, ?_⟩
        · unfold f_X3_print_B41 f_X3_printSixteens
          rw [if_neg (by decide), if_pos (by rfl), if_pos (by rfl), g1, Option.bind_some, Option.bind_some]
          exact ⟨_, _, _, _, _, _, _, _, _, _, _, _, _, _, _, rfl, g2⟩
        · unfold f_X11_write_B114 f_X11_putNought
          rw [if_neg (by decide), if_pos (by rfl), if_neg (by decide), if_pos (by rfl), g3, Option.bind_some, Option.bind_some]
          exact ⟨_, _, _, _, _, _, _, _, _, _, _, _, _, _, _, _, _, _, _, _, _, _, _, _, _, _, _, _, _, rfl, g4⟩
      · have n4 : ¬ uI fo = 4 := fun x => h4 ((uI_eq (b := 4) (by omega) (by omega)).mp x)
        obtain ⟨l', hl', ⟨len1, B1, g1, g2⟩, ⟨len2, B2, g3, g4⟩⟩ := k_no (p3 := p3) hfo h4 h2 h3 row hsc hln hsr
        refine ⟨l', hl', ?_, ?_⟩
        · unfold f_X3_print_B41 f_X3_findFigures f_X1_clear
          rw [if_neg (by decide), if_neg n4, Option.bind_some, if_pos (by rfl), Option.bind_some, g1, Option.bind_some]
          exact ⟨_, _, _, _, _, _, _, _, _, _, _, _, _, _, _, rfl, g2⟩
        · unfold f_X11_write_B114
          rw [if_neg (by decide), if_pos (by rfl), g3, Option.bind_some]
          exact ⟨_, _, _, _, _, _, _, _, _, _, _, _, _, _, _, _, _, _, _, _, _, _, _, _, _, _, _, _, _, rfl, g4⟩
    · have hk12 : kd = 1 ∨ kd = 2 := by
        unfold vK at hkd
        rw [if_neg hfin] at hkd
        split at hkd
        · exact Or.inl hkd
        · exact Or.inr hkd
      have hm' : m = stM f t := by rw [hm]; unfold vM; rw [if_neg hfin]
      have he' : e = fLo f + stE f t := by rw [he]; unfold vE; rw [if_neg hfin]
      exact k_finite hp hF hG hf hs1 ht ht0 hfin hk12 hw hfo h2 h3 hm' he' hnw (hvn hk12) he1 he2 cl cB z1 z2 z3 z4 z5 z6 z7 z8 z9 z10 ct tp row sign power root th wr fm la te al ad bl0 bd ll ld rl rd gl gd tl td tx fg nl nd dl dd wl wd hl hd hsc hsr hln
