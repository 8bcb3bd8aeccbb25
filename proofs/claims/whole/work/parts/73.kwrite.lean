/-! write -/
theorem k_write {F : Nat → Int32} {G : Nat → Int64} (h : wfp F G) (p1 p2 p3 p4 : Int32) (k0 : Int32) (m0 : Int32) (l0 : Int64) (e0 : Int32) (n0 : Int32) (z3 : Int32) (z4 : Nat → Int64) (z5 : Int32) (z6 : Nat → Int64) (cl : Int32) (cB : Nat → Int32) (z1 : Int32) (z2 : Int32) (z7 : Int32) (z8 : Nat → Int64) (z9 : Int32) (z10 : Nat → Int64) (ct : Int32) (tp : Int32) (row : Nat → Int32) (rk rm : Int32) (rl0 : Int64) (re : Int32) (sign : Int32) (power : Int32) (root : Int32) (th : Int32) (wr : Int32) (fm : Int32) (la : Int32) (te : Int32) (al : Int32) (ad : Nat → Int32) (bl0 : Int32) (bd : Nat → Int32) (ll : Int32) (ld : Nat → Int32) (rl : Int32) (rd : Nat → Int32) (gl : Int32) (gd : Nat → Int32) (tl : Int32) (td : Nat → Int32) (tx : Nat → Int32) (fg : Nat → Int32) (nl : Int32) (nd : Nat → Int32) (dl : Int32) (dd : Nat → Int32) (wl : Int32) (wd : Nat → Int32) (hl : Int32) (hd : Nat → Int32) :
    (∃ n : Nat, (n = 1 ∨ n = 2) ∧ f_X9_write F G p1 p2 p3 p4 k0 m0 l0 e0 n0 z3 z4 z5 z6 cl cB z1 z2 z7 z8 z9 z10 ct tp row = some (.inl (n, k0, m0, l0, e0, n0, z3, z4, z5, z6, cl, cB, z1, z2, z7, z8, z9, z10, ct, tp, row)) ∧ f_X11_write F G p1 p2 p3 p4 rk rm rl0 re sign power root th wr fm la te al ad bl0 bd ll ld rl rd gl gd tl td tx fg nl nd dl dd wl wd hl hd = some ((0 : Int32), rk, rm, rl0, re, sign, power, root, uI n, wr, fm, la, te, al, ad, bl0, bd, ll, ld, rl, rd, gl, gd, tl, td, tx, fg, nl, nd, dl, dd, wl, wd, hl, hd)) ∨
    (∃ l' : List Nat, l'.length ≤ 1077 ∧ (∃ (y0 : Int32) (y1 : Int32) (y2 : Int64) (y3 : Int32) (y4 : Int32) (y5 : Int32) (y6 : Nat → Int64) (y7 : Int32) (y8 : Nat → Int64) (y9 : Int32) (y10 : Nat → Int32) (y11 : Int32) (y12 : Int32) (y13 : Int32) (y14 : Nat → Int64) (y15 : Int32) (y16 : Nat → Int64) (y17 : Int32) (y18 : Int32) (y19 : Nat → Int32), f_X9_write F G p1 p2 p3 p4 k0 m0 l0 e0 n0 z3 z4 z5 z6 cl cB z1 z2 z7 z8 z9 z10 ct tp row = some (.inr (y9, y0, y1, y2, y3, y4, y5, y6, y7, y8, y9, y10, y11, y12, y13, y14, y15, y16, y17, y18, y19)) ∧ shOK l' y9 y10) ∧ (∃ (x1 x2 : Int32) (x3 : Int64) (x4 : Int32) (s0 : Int32) (s1 : Int32) (s2 : Int32) (s5 : Int32) (s6 : Int32) (s7 : Int32) (s8 : Int32) (s9 : Nat → Int32) (s10 : Int32) (s11 : Nat → Int32) (s12 : Int32) (s13 : Nat → Int32) (s14 : Int32) (s15 : Nat → Int32) (s16 : Int32) (s17 : Nat → Int32) (s18 : Int32) (s19 : Nat → Int32) (s21 : Nat → Int32) (s22 : Int32) (s23 : Nat → Int32) (s24 : Int32) (s25 : Nat → Int32) (s26 : Int32) (s27 : Nat → Int32) (s28 : Int32) (s29 : Nat → Int32) (wr' : Int32) (tx' : Nat → Int32), f_X11_write F G p1 p2 p3 p4 rk rm rl0 re sign power root th wr fm la te al ad bl0 bd ll ld rl rd gl gd tl td tx fg nl nd dl dd wl wd hl hd = some (wr', x1, x2, x3, x4, s0, s1, s2, (0 : Int32), wr', s5, s6, s7, s8, s9, s10, s11, s12, s13, s14, s15, s16, s17, s18, s19, tx', s21, s22, s23, s24, s25, s26, s27, s28, s29) ∧ shOK l' wr' tx')) := by
  rcases pl_cases p1 with ⟨p, hp, rfl, a1, a2⟩ | ⟨a1, a2⟩
  · rcases fr_cases p2 p3 with ⟨fo, hfo, rfl, h2, h3, b1⟩ | ⟨b1, b2⟩
    · rcases wy_cases p4 with ⟨w, hw, rfl, c1, c2⟩ | ⟨c1, c2⟩
      · right
        obtain ⟨f, sg, t, g1, g2, g3, g4, g5⟩ := h p hp
        have hl9 := x9_look hp g4 g5 g1 g2 g3 k0 m0 l0 e0 n0
        have hl11 := x11_look hp g4 g5 g1 g2 g3 rk rm rl0 re
        rw [wr_good hfo h2 h3 c2]
        unfold f_X11_write_B53 f_X9_write f_X3_print f_X5_clear
        simp only [a1, a2, b1, c1, Option.bind_some, sm, Sum.elim_inr, go11, i10, if_false, hl9, hl11]
        by_cases hk4 : vK f t = 4
        · obtain ⟨len1, B1, q1, q2⟩ := x5_textT (t := 10) (bs := [110, 97, 110]) (by simp) (sh_nil cB) (by simp)
          have q1' : f_X5_putText 10 (0 : Int32) cB = some (len1, B1) := q1
          obtain ⟨len2, B2, q3, q4⟩ := x11_wordT (t := 14) (bs := [110, 97, 110]) (by simp) (sh_nil tx) (by simp)
          have q3' : f_X11_putWord 14 (0 : Int32) tx = some (len2, B2) := q3
          refine ⟨[] ++ [110, 97, 110], by simp, ?_, ?_⟩
          · rw [if_pos (by rw [hk4]; rfl), q1', Option.bind_some, Option.bind_some]
            exact ⟨_, _, _, _, _, _, _, _, _, _, _, _, _, _, _, _, _, _, _, _, rfl, q2⟩
          · rw [if_pos (by rw [hk4]; rfl), q3', Option.bind_some]
            exact ⟨_, _, _, _, _, _, _, _, _, _, _, _, _, _, _, _, _, _, _, _, _, _, _, _, _, _, _, _, _, _, _, _, _, rfl, q4⟩
        · have n4 : ¬ uI (vK f t) = 4 := fun x => hk4 ((uI_eq (b := 4) (by have := isV_of g1 g2 g3; have := this.1; omega) (by omega)).mp x)
          rw [if_neg n4]
          have hsg : sg = 0 ∨ sg = 1 := by omega
          rcases hsg with rfl | rfl
          · obtain ⟨l', hl', ⟨q0, q1, q2, q3, q4, q5, q6, q7, q8, q9, q10, q11, q12, q13, q14, q1, q2'⟩, ⟨s0, s1, s2, s5, s6, s7, s8, s9, s10, s11, s12, s13, s14, s15, s16, s17, s18, s19, s21, s22, s23, s24, s25, s26, s27, s28, s29, wr', tx', q3, q4'⟩⟩ := k_B41 (F := F) (G := G) (p3 := p3) hp g4 g5 g1 g2 g3 hw hfo h2 h3 rfl hk4 rfl rfl rfl (0 : Int32) cB z1 z2 z3 z4 z5 z6 z7 z8 z9 z10 ct tp row sign power root (0 : Int32) (0 : Int32) fm la te al ad bl0 bd ll ld rl rd gl gd tl td tx fg nl nd dl dd wl wd hl hd (sh_nil cB) (sh_nil tx) (by simp)
            refine ⟨l', hl', ?_, ?_⟩
            · rw [if_pos (by rfl), q1, Option.bind_some]
              exact ⟨_, _, _, _, _, _, _, _, _, _, _, _, _, _, _, _, _, _, _, _, rfl, q2'⟩
            · rw [if_neg n4, if_neg (by decide), q3]
              exact ⟨_, _, _, _, _, _, _, _, _, _, _, _, _, _, _, _, _, _, _, _, _, _, _, _, _, _, _, _, _, _, _, _, _, rfl, q4'⟩
          · obtain ⟨d1, d2, e1, e2⟩ := x5_put (c := 45) (sh_nil cB) (by simp)
            obtain ⟨d3, d4, e3, e4⟩ := x11_putc (c := 45) (sh_nil tx) (by simp)
            have e1' : f_X5_put (45 : Int32) (0 : Int32) cB = some (d1, d2) := e1
            have e3' : f_X11_put_ (45 : Int32) (0 : Int32) tx = some (d3, d4) := e3
            obtain ⟨l', hl', ⟨q0, q1, q2, q3, q4, q5, q6, q7, q8, q9, q10, q11, q12, q13, q14, q1, q2'⟩, ⟨s0, s1, s2, s5, s6, s7, s8, s9, s10, s11, s12, s13, s14, s15, s16, s17, s18, s19, s21, s22, s23, s24, s25, s26, s27, s28, s29, wr', tx', q3, q4'⟩⟩ := k_B41 (F := F) (G := G) (p3 := p3) hp g4 g5 g1 g2 g3 hw hfo h2 h3 rfl hk4 rfl rfl rfl d1 d2 z1 z2 z3 z4 z5 z6 z7 z8 z9 z10 ct tp row sign power root (0 : Int32) d3 fm la te al ad bl0 bd ll ld rl rd gl gd tl td d4 fg nl nd dl dd wl wd hl hd e2 e4 (by simp)
            refine ⟨l', hl', ?_, ?_⟩
            · rw [if_neg (by decide), e1', Option.bind_some, q1, Option.bind_some]
              exact ⟨_, _, _, _, _, _, _, _, _, _, _, _, _, _, _, _, _, _, _, _, rfl, q2'⟩
            · rw [if_neg n4, if_pos (by rfl), e3', Option.bind_some, q3]
              exact ⟨_, _, _, _, _, _, _, _, _, _, _, _, _, _, _, _, _, _, _, _, _, _, _, _, _, _, _, _, _, _, _, _, _, rfl, q4'⟩
      · left
        refine ⟨2, Or.inr rfl, ?_, ?_⟩
        · unfold f_X9_write
          simp only [a1, b1, c1, Option.bind_some, sm, Sum.elim_inl, Sum.elim_inr]
        · rw [wr_bad (Or.inl rfl) c2 (Or.inl rfl)]
          unfold f_X11_write_B53
          simp only [a2, Option.bind_some, go10, i00, if_true]
          rfl
    · left
      refine ⟨2, Or.inr rfl, ?_, ?_⟩
      · unfold f_X9_write
        simp only [a1, b1, Option.bind_some, sm, Sum.elim_inl, Sum.elim_inr]
      · rcases wy_cases p4 with ⟨w, hw, rfl, c1, c2⟩ | ⟨c1, c2⟩
        · rw [wr_bad (Or.inr rfl) c2 (Or.inr b2)]
          unfold f_X11_write_B53
          simp only [a2, Option.bind_some, go10, i00, if_true]
          rfl
        · rw [wr_bad (Or.inl rfl) c2 (Or.inl rfl)]
          unfold f_X11_write_B53
          simp only [a2, Option.bind_some, go10, i00, if_true]
          rfl
  · left
    refine ⟨1, Or.inl rfl, ?_, ?_⟩
    · unfold f_X9_write
      simp only [a1, Option.bind_some, sm, Sum.elim_inl]
    · have hB : ∀ b : Int32, f_X11_write_B53 F G p1 p2 p3 p4 b rk rm rl0 re sign power root th wr fm la te al ad bl0 bd ll ld rl rd gl gd tl td tx fg nl nd dl dd wl wd hl hd = some ((0 : Int32), rk, rm, rl0, re, sign, power, root, uI 1, wr, fm, la, te, al, ad, bl0, bd, ll, ld, rl, rd, gl, gd, tl, td, tx, fg, nl, nd, dl, dd, wl, wd, hl, hd) := by
        intro b
        unfold f_X11_write_B53
        simp only [a2, Option.bind_some, go0, i00, if_true]
        rfl
      rcases wy_cases p4 with ⟨w, hw, rfl, c1, c2⟩ | ⟨c1, c2⟩
      · rcases fr_cases p2 p3 with ⟨fo, hfo, rfl, h2, h3, b1⟩ | ⟨b1, b2⟩
        · rw [wr_good hfo h2 h3 c2]; exact hB 1
        · rw [wr_bad (Or.inr rfl) c2 (Or.inr b2)]; exact hB 0
      · rw [wr_bad (Or.inl rfl) c2 (Or.inl rfl)]; exact hB 0
