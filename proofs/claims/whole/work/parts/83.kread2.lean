/-- read: the class and the reference agree -/
theorem k_read {n : Nat} {F : Nat → Int32} {G : Nat → Int64} {T : Nat → Int32} (h : wfp F G) (hT : tpOK n T) (p1 p2 p3 : Int32) (mi ki sx be co po bg en : Int32) (ls : Int32) (ll : Nat → Int64) (rs : Int32) (rl : Nat → Int64)
    (sg0 pw rt th at0 en0 a2 a3 a4 al : Int32) (ad : Nat → Int32) (bl0 : Int32) (bd : Nat → Int32) (z1 : Int32) (z2 : Nat → Int32) (z3 : Int32) (z4 : Nat → Int32) (z5 : Int32) (z6 : Nat → Int32) (z7 : Int32) (z8 : Nat → Int32) :
    (∃ e : Nat, (e = 1 ∨ e = 2) ∧ f_X9_read T p1 p2 p3 F G (uI n) mi ki sx be co po bg en ls ll rs rl = some (.inl (e, F, G, uI n, mi, ki, sx, be, co, po, bg, en, ls, ll, rs, rl)) ∧
      f_X11_read T p1 p2 p3 sg0 pw rt th (uI n) at0 en0 a2 a3 a4 F G al ad bl0 bd z1 z2 z3 z4 z5 z6 z7 z8 = some (0, sg0, pw, rt, uI e, uI n, at0, en0, a2, a3, a4, F, G, al, ad, bl0, bd, z1, z2, z3, z4, z5, z6, z7, z8)) ∨
    (∃ (ret : Int32) (F' : Nat → Int32) (G' : Nat → Int64), wfp F' G' ∧
      (∃ (y1 y2 y3 y4 y5 y6 y7 y8 y9 : Int32) (y10 : Nat → Int64) (y11 : Int32) (y12 : Nat → Int64), f_X9_read T p1 p2 p3 F G (uI n) mi ki sx be co po bg en ls ll rs rl = some (.inr (ret, F', G', 0, y1, y2, y3, y4, y5, y6, y7, y8, y9, y10, y11, y12))) ∧
      rdOut (f_X11_read T p1 p2 p3 sg0 pw rt th (uI n) at0 en0 a2 a3 a4 F G al ad bl0 bd z1 z2 z3 z4 z5 z6 z7 z8) ret 0 0 F' G') := by
  have hn := hT.1
  rcases pl_cases p1 with ⟨r, hr, rfl, a1, b1⟩ | ⟨a1, b1⟩
  · rcases fm_cases p2 with ⟨f, hf, rfl, c1, d1⟩ | ⟨c1, d1⟩
    · rcases wy_cases p3 with ⟨w, hw, rfl, e1, g1⟩ | ⟨e1, g1⟩
      · right
        obtain ⟨ha1, ha2, ha3, ha4⟩ := at_bd hT 0
        have hat0 : f_X7_at (uI n) T 0 = some (iI (atI T n 0)) := x7_at (i := 0) hT (by decide)
        have hh0 : f_X11_here 0 (uI n) T = some (iI (atI T n 0)) := x11_here (i := 0) hT (by decide)
        have hsl : f_X7_signLength (uI n) T 0 = some (uI (if atI T n 0 = 45 ∨ atI T n 0 = 43 then 1 else 0)) := x7_sl (p := 0) hT (by decide)
        have hpn : (if atI T n 0 = 45 ∨ atI T n 0 = 43 then 1 else 0 : Nat) ≤ n := by
          split
          · apply Nat.le_of_not_lt
            intro hh
            have := ha4 (by omega)
            omega
          · omega
        -- the two sides, cut down to the inner part
        have hgo : ∀ (sg p : Nat), sg ≤ 1 → p ≤ n → f_X7_signLength (uI n) T 0 = some (uI p) →
            f_X7_parse (uI n) T mi ki sx be co po bg en = f_X7_parse_B16 (uI n) T (uI sg) mi ki sx be co po bg en →
            f_X11_read T (uI r) (uI f) (uI w) sg0 pw rt th (uI n) at0 en0 a2 a3 a4 F G al ad bl0 bd z1 z2 z3 z4 z5 z6 z7 z8 = f_X11_read_B91 T (uI r) (uI f) (uI w) (uI sg) sg0 pw rt 0 0 (uI p) (uI n) a2 a3 a4 F G al ad bl0 bd z1 z2 z3 z4 z5 z6 z7 z8 →
            ∃ (ret : Int32) (F' : Nat → Int32) (G' : Nat → Int64), wfp F' G' ∧
            (∃ (y1 y2 y3 y4 y5 y6 y7 y8 y9 : Int32) (y10 : Nat → Int64) (y11 : Int32) (y12 : Nat → Int64), f_X9_read T (uI r) (uI f) (uI w) F G (uI n) mi ki sx be co po bg en ls ll rs rl = some (.inr (ret, F', G', 0, y1, y2, y3, y4, y5, y6, y7, y8, y9, y10, y11, y12))) ∧
            rdOut (f_X11_read T (uI r) (uI f) (uI w) sg0 pw rt th (uI n) at0 en0 a2 a3 a4 F G al ad bl0 bd z1 z2 z3 z4 z5 z6 z7 z8) ret 0 0 F' G' := by
          intro sg p hs hp hsl2 hparse hread
          rw [hread]
          unfold f_X9_read f_X9_read_B46 f_X7_clear
          simp only [a1, c1, e1, Option.bind_some, sm, Sum.elim_inl, Sum.elim_inr]
          rw [hparse]
          rcases rd_inner hT hp hf hs hw hr F G hsl2 sx be co po bg en sg0 pw rt 0 0 a2 a3 a4 al ad bl0 bd z1 z2 z3 z4 z5 z6 z7 z8 mi ki ls ll rs rl with ⟨q, k5, k6, u0, u1, u2, u3, u4, u5, w1, w2, w3⟩ | ⟨P, k5, k6, u0, u1, u2, u3, u4, u5, s2, L2, s3, L3, w1, w2, w3, w4⟩
          · refine ⟨-1 - uI q, F, G, h, ?_, w3⟩
            rw [w2, Option.bind_some, if_neg (m1_ne w1), if_neg (m1_ne w1)]
            exact ⟨_, _, _, _, _, _, _, _, _, _, _, _, rfl⟩
          · refine ⟨0, _, _, wfp_upd h hf w1, ?_, w4⟩
            rw [w2, Option.bind_some, if_pos (by rfl), w3, Option.bind_some, x9_put hr, Option.bind_some, if_pos (by rfl)]
            exact ⟨_, _, _, _, _, _, _, _, _, _, _, _, rfl⟩
        have hread0 : f_X11_read T (uI r) (uI f) (uI w) sg0 pw rt th (uI n) at0 en0 a2 a3 a4 F G al ad bl0 bd z1 z2 z3 z4 z5 z6 z7 z8 = if iI (atI T n 0) = 45 then f_X11_read_B64 T (uI r) (uI f) (uI w) 1 sg0 pw rt 0 0 0 (uI n) a2 a3 a4 F G al ad bl0 bd z1 z2 z3 z4 z5 z6 z7 z8 else f_X11_read_B64 T (uI r) (uI f) (uI w) 0 sg0 pw rt 0 0 0 (uI n) a2 a3 a4 F G al ad bl0 bd z1 z2 z3 z4 z5 z6 z7 z8 := by
          unfold f_X11_read f_X11_read_B24
          simp only [b1, d1, g1, Option.bind_some, i10, if_false, go11, hh0]
        by_cases h45 : atI T n 0 = 45
        · rw [if_pos (Or.inl h45)] at hsl hpn
          refine hgo 1 1 (by omega) hpn hsl ?_ ?_
          · unfold f_X7_parse
            rw [hat0, Option.bind_some, h45, if_pos (by rfl)]; rfl
          · rw [hread0, h45, if_pos (by rfl)]
            unfold f_X11_read_B64 f_X11_read_B81
            rw [if_pos (by rfl)]; rfl
        · have hno : ¬ iI (atI T n 0) = 45 := fun x => h45 ((iI_eq (b := 45) (by omega) (by omega) (by omega) (by omega)).mp x)
          have hparse : f_X7_parse (uI n) T mi ki sx be co po bg en = f_X7_parse_B16 (uI n) T (uI 0) mi ki sx be co po bg en := by
            unfold f_X7_parse
            rw [hat0, Option.bind_some, if_neg hno]; rfl
          rw [if_neg hno] at hread0
          by_cases h43 : atI T n 0 = 43
          · rw [if_pos (Or.inr h43)] at hsl hpn
            refine hgo 0 1 (by omega) hpn hsl hparse ?_
            rw [hread0]
            unfold f_X11_read_B64 f_X11_read_B81
            rw [if_neg (by decide), hh0, Option.bind_some, h43, if_pos (by rfl)]; rfl
          · rw [if_neg (by omega)] at hsl hpn
            refine hgo 0 0 (by omega) hpn hsl hparse ?_
            rw [hread0]
            unfold f_X11_read_B64
            rw [if_neg (by decide), hh0, Option.bind_some, if_neg (by exact fun x => h43 ((iI_eq (b := 43) (by omega) (by omega) (by omega) (by omega)).mp x))]; rfl
      · left
        refine ⟨2, Or.inr rfl, ?_, ?_⟩
        · unfold f_X9_read; simp only [a1, c1, e1, Option.bind_some, sm, Sum.elim_inl, Sum.elim_inr]
        · unfold f_X11_read f_X11_read_B23 f_X11_read_B24; simp only [b1, d1, g1, Option.bind_some, i00, i10, if_true, if_false, go0, go10, go11]; rfl
    · left
      refine ⟨2, Or.inr rfl, ?_, ?_⟩
      · unfold f_X9_read; simp only [a1, c1, Option.bind_some, sm, Sum.elim_inl, Sum.elim_inr]
      · unfold f_X11_read f_X11_read_B23 f_X11_read_B24; simp only [b1, d1, Option.bind_some, i00, i10, if_true, if_false, go0, go10, go11]; rfl
  · left
    refine ⟨1, Or.inl rfl, ?_, ?_⟩
    · unfold f_X9_read; simp only [a1, Option.bind_some, sm, Sum.elim_inl, Sum.elim_inr]
    · unfold f_X11_read f_X11_read_B23 f_X11_read_B24
      rcases fm_cases p2 with ⟨_, _, _, _, d1⟩ | ⟨_, d1⟩
      · rcases wy_cases p3 with ⟨_, _, _, _, g1⟩ | ⟨_, g1⟩
        · simp only [b1, d1, g1, Option.bind_some, i00, i10, if_true, if_false, go0, go10, go11]; rfl
        · simp only [b1, d1, g1, Option.bind_some, i00, i10, if_true, if_false, go0, go10, go11]; rfl
      · simp only [b1, d1, Option.bind_some, i00, i10, if_true, if_false, go0, go10, go11]; rfl
