/-! read -/
theorem sg_vBl {sg : Nat} (h : sg ≤ 1) : vBl (uI sg) = true := by
  rcases f_cases h with rfl | rfl <;> rfl
theorem rd_inner {n f way sg p r : Nat} {T : Nat → Int32} (hT : tpOK n T) (hp : p ≤ n) (hf : f ≤ 1) (hs : sg ≤ 1) (hw : way < 4) (hr : r < 16) (F : Nat → Int32) (G : Nat → Int64) (hsl : f_X7_signLength (uI n) T 0 = some (uI p))
    (sx0 be co po bg en : Int32) (sg0 pw rt th tp a2 a3 a4 al : Int32) (ad : Nat → Int32) (bl0 : Int32) (bd : Nat → Int32) (z1 : Int32) (z2 : Nat → Int32) (z3 : Int32) (z4 : Nat → Int32) (z5 : Int32) (z6 : Nat → Int32) (z7 : Int32) (z8 : Nat → Int32) (mi ki : Int32) (ls : Int32) (ll : Nat → Int64) (rs : Int32) (rl : Nat → Int64) :
    (∃ (q : Nat) (k5 k6 u0 u1 u2 u3 u4 u5 : Int32), q < 100000 ∧ f_X7_parse_B16 (uI n) T (uI sg) mi ki sx0 be co po bg en = some (uI q, k5, k6, u0, u1, u2, u3, u4, u5) ∧
      rdOut (f_X11_read_B91 T (uI r) (uI f) (uI way) (uI sg) sg0 pw rt th tp (uI p) (uI n) a2 a3 a4 F G al ad bl0 bd z1 z2 z3 z4 z5 z6 z7 z8) (-1 - uI q) th tp F G) ∨
    (∃ (P : Nat) (k5 k6 u0 u1 u2 u3 u4 u5 : Int32) (s2 : Int32) (L2 : Nat → Int64) (s3 : Int32) (L3 : Nat → Int64), isP f P ∧
      f_X7_parse_B16 (uI n) T (uI sg) mi ki sx0 be co po bg en = some (-1, k5, k6, u0, u1, u2, u3, u4, u5) ∧
      f_X0_valueOf (uI n) k5 k6 u0 u1 u2 u3 u4 u5 T (uI f) (uI way) ls ll rs rl = some (uL P, s2, L2, s3, L3) ∧
      rdOut (f_X11_read_B91 T (uI r) (uI f) (uI way) (uI sg) sg0 pw rt th tp (uI p) (uI n) a2 a3 a4 F G al ad bl0 bd z1 z2 z3 z4 z5 z6 z7 z8) 0 th tp (upd F r (uI f)) (vp_updL G r (uL P))) := by
  have hn := hT.1
  obtain ⟨ha1, ha2, ha3, ha4⟩ := at_bd hT p
  unfold f_X7_parse_B16 f_X11_read_B91
  rw [if_pos (c := vBl (uI sg) = true) (sg_vBl hs), hsl, x11_here hT (by omega)]
  simp only [Option.bind_some]
  rw [x7_at hT (by omega), uI_succ]
  simp only [Option.bind_some]
  have hne : ∀ c : Nat, c < 256 → atI T n p ≠ c → ¬ iI (atI T n p) = uI c := fun c hc h x => h ((iI_eq (by omega) (by omega) (by omega) (by omega)).mp x)
  -- a word's end in the reference
  have hB159 : ∀ (q : Nat) (v5 : Bool), q ≤ n → ∀ P, P = (if v5 then pat f sg (fInf f) else patNone f) →
      (q = n → rdOut (f_X11_read_B159 T (uI r) (uI f) (uI sg) (bI v5) sg0 pw rt th tp (uI q) (uI n) a2 a3 a4 F G al ad bl0 bd z1 z2 z3 z4 z5 z6 z7 z8) 0 th tp (upd F r (uI f)) (vp_updL G r (uL P))) ∧
      (q ≠ n → rdOut (f_X11_read_B159 T (uI r) (uI f) (uI sg) (bI v5) sg0 pw rt th tp (uI q) (uI n) a2 a3 a4 F G al ad bl0 bd z1 z2 z3 z4 z5 z6 z7 z8) (-1 - uI q) th tp F G) := by
    intro q v5 hq P hP
    unfold f_X11_read_B159
    constructor
    · intro hqn
      rw [if_pos (by exact (uI_le (by omega) (by omega)).mpr (by omega))]
      cases v5
      · rw [if_pos (by rfl), x11_putNone F G hf hr, Option.bind_some, hP]
        exact rd_out _ _ _ _ _ _ _ _ _ _ _ _ _ _ _ _ _ _ _ _ _ _ _ _ _
      · rw [if_neg (by decide), x11_putEndless F G hf hs hr, Option.bind_some, hP]
        exact rd_out _ _ _ _ _ _ _ _ _ _ _ _ _ _ _ _ _ _ _ _ _ _ _ _ _
    · intro hqn
      rw [if_neg (by exact fun x => by have := (uI_le (by omega) (by omega)).mp x; omega)]
      exact rd_out _ _ _ _ _ _ _ _ _ _ _ _ _ _ _ _ _ _ _ _ _ _ _ _ _
  by_cases h105 : atI T n p = 105
  · rw [h105, if_pos (c := iI 105 = 105) (by rfl), if_pos (c := iI 105 = 105) (by rfl)]
    unfold f_X11_read_B109 f_X11_read_B123
    rw [x11_here hT (by omega), h105]
    simp only [Option.bind_some]
    rw [if_pos (c := iI 105 = 105) (by rfl), if_neg (c := (1 : Int32) = 0) (by decide)]
    obtain ⟨q, hq, hc⟩ := rd_word (t := 6) (c0 := 105) (c1 := 110) (c2 := 102) hT hp (by decide +kernel) (by decide +kernel) (by decide +kernel) (by decide +kernel) (by decide +kernel) (by decide) (by decide) (by decide)
    rcases hc with ⟨c1, c2⟩ | ⟨hqn, c1, c2⟩
    · left
      have c2' : f_X11_takesWord (uI n) T 105 110 102 (uI p) = some (0, uI q) := c2
      rw [c1, c2']
      simp only [Option.bind_some]
      rw [if_pos trivial]
      exact ⟨q, _, _, _, _, _, _, _, _, hq, rfl, rd_out _ _ _ _ _ _ _ _ _ _ _ _ _ _ _ _ _ _ _ _ _ _ _ _ _⟩
    · have c2' : f_X11_takesWord (uI n) T 105 110 102 (uI p) = some (1, uI q) := c2
      rw [c1, c2']
      simp only [Option.bind_some]
      rw [if_neg (c := (1 : Int32) = 0) (by decide)]
      obtain ⟨b1, b2⟩ := hB159 q true hqn _ rfl
      by_cases hh : q = n
      · right
        rw [if_pos hh]
        refine ⟨pat f sg (fInf f), _, _, _, _, _, _, _, _, ls, ll, rs, rl, isP_inf hf hs, rfl, ?_, b1 hh⟩
        unfold f_X0_valueOf
        rw [if_neg (by decide), if_pos (by rfl), x2_endless hf hs, Option.bind_some]
      · left
        rw [if_neg hh]
        exact ⟨q, _, _, _, _, _, _, _, _, hq, rfl, b2 hh⟩
  · rw [if_neg (c := iI (atI T n p) = 105) (hne 105 (by decide) h105), if_neg (c := iI (atI T n p) = 105) (hne 105 (by decide) h105)]
    by_cases h110 : atI T n p = 110
    · rw [h110, if_pos (c := iI 110 = 110) (by rfl), if_pos (c := iI 110 = 110) (by rfl)]
      unfold f_X11_read_B109 f_X11_read_B123
      rw [x11_here hT (by omega), h110]
      simp only [Option.bind_some]
      rw [if_neg (c := iI 110 = 105) (by decide), if_pos (c := True) trivial]
      obtain ⟨q, hq, hc⟩ := rd_word (t := 7) (c0 := 110) (c1 := 97) (c2 := 110) hT hp (by decide +kernel) (by decide +kernel) (by decide +kernel) (by decide +kernel) (by decide +kernel) (by decide) (by decide) (by decide)
      rcases hc with ⟨c1, c2⟩ | ⟨hqn, c1, c2⟩
      · left
        have c2' : f_X11_takesWord (uI n) T 110 97 110 (uI p) = some (0, uI q) := c2
        rw [c1, c2']
        simp only [Option.bind_some]
        rw [if_pos trivial]
        exact ⟨q, _, _, _, _, _, _, _, _, hq, rfl, rd_out _ _ _ _ _ _ _ _ _ _ _ _ _ _ _ _ _ _ _ _ _ _ _ _ _⟩
      · have c2' : f_X11_takesWord (uI n) T 110 97 110 (uI p) = some (1, uI q) := c2
        rw [c1, c2']
        simp only [Option.bind_some]
        rw [if_neg (c := (1 : Int32) = 0) (by decide)]
        obtain ⟨b1, b2⟩ := hB159 q false hqn _ rfl
        by_cases hh : q = n
        · right
          rw [if_pos hh]
          refine ⟨patNone f, _, _, _, _, _, _, _, _, ls, ll, rs, rl, isP_none hf, rfl, ?_, b1 hh⟩
          unfold f_X0_valueOf
          rw [if_pos (by rfl), x2_none hf, Option.bind_some]
        · left
          rw [if_neg hh]
          exact ⟨q, _, _, _, _, _, _, _, _, hq, rfl, b2 hh⟩
    · rw [if_neg (c := iI (atI T n p) = 110) (hne 110 (by decide) h110), if_neg (c := iI (atI T n p) = 110) (hne 110 (by decide) h110)]
      have hnum : ∀ (sx : Bool) (g : Nat), g ≤ n → ∀ (at0 ad1 : Int32), at0 + ad1 = uI g →
          (∃ (q : Nat) (k5 k6 u0 u1 u2 u3 u4 u5 : Int32), q < 100000 ∧ f_X7_parse_B122 (uI n) T (uI g) (uI sg) 2 (bI sx) be co po bg en = some (uI q, k5, k6, u0, u1, u2, u3, u4, u5) ∧
            rdOut (f_X11_read_B267 T (uI r) (uI f) (uI way) (bI sx) at0 ad1 (uI sg) pw rt th tp (uI p) (uI n) a2 a3 a4 F G al ad bl0 bd z1 z2 z3 z4 z5 z6 z7 z8) (-1 - uI q) th tp F G) ∨
          (∃ (P : Nat) (k5 k6 u0 u1 u2 u3 u4 u5 : Int32) (s2 : Int32) (L2 : Nat → Int64) (s3 : Int32) (L3 : Nat → Int64), isP f P ∧
            f_X7_parse_B122 (uI n) T (uI g) (uI sg) 2 (bI sx) be co po bg en = some (-1, k5, k6, u0, u1, u2, u3, u4, u5) ∧
            f_X0_valueOf (uI n) k5 k6 u0 u1 u2 u3 u4 u5 T (uI f) (uI way) ls ll rs rl = some (uL P, s2, L2, s3, L3) ∧
            rdOut (f_X11_read_B267 T (uI r) (uI f) (uI way) (bI sx) at0 ad1 (uI sg) pw rt th tp (uI p) (uI n) a2 a3 a4 F G al ad bl0 bd z1 z2 z3 z4 z5 z6 z7 z8) 0 th tp (upd F r (uI f)) (vp_updL G r (uL P))) := by
        intro sx g hg at0 ad1 hat
        rcases rd_number hT sx hg hf hs hw hr F G at0 ad1 hat be co po bg en pw rt th tp (uI p) a2 a3 a4 al ad bl0 bd z1 z2 z3 z4 z5 z6 z7 z8 with ⟨q, u1, u2, u3, u4, u5, w1, w2, w3⟩ | ⟨e, V, many, behind, P, told, w1, w2, w3, w4, w5, w6, w7, w8, w9⟩
        · left
          exact ⟨q, _, _, _, _, _, _, _, _, w1, w2, w3⟩
        · right
          obtain ⟨P2, s2, L2, s3, L3, y1, y2⟩ := x0_valueOf hT sx w1 w2 w3 w4 w5 w6 hf hs hw ls ll rs rl
          have hPP := rdP_uniq y2 w8
          rw [hPP] at y1
          exact ⟨P, _, _, _, _, _, _, _, _, s2, L2, s3, L3, rdP_isP hf hs w8, w7, y1, w9⟩
      unfold f_X7_parse_B103 f_X7_parse_B104 f_X11_read_B249 f_X11_read_B250
      have hten := hnum false p hp (uI p) 0 (by rw [wI_0, iI_add]; exact congrArg iI (by omega))
      have hsix := fun (h : p + 2 ≤ n) => hnum true (p + 2) h (uI p) 2 (uI_add p 2)
      rw [if_pos (c := vBl 0 = true) (by rfl), if_pos (c := (0 : Int32) = 0) (by rfl)]
      by_cases h48 : atI T n p = 48
      · rw [h48, if_pos (c := iI 48 = 48) (by rfl), if_pos (c := iI 48 = 48) (by rfl), x7_at hT (by omega)]
        simp only [Option.bind_some]
        obtain ⟨hb1, hb2, hb3, hb4⟩ := at_bd hT (p + 1)
        by_cases h120 : atI T n (p + 1) = 120
        · have hpn : p + 1 < n := by
            apply Nat.lt_of_not_le
            intro hh
            have := hb4 hh
            omega
          rw [if_neg (c := uI n ≤ uI (p + 1)) (by exact fun x => by have := (uI_le (by omega) (by omega)).mp x; omega), if_pos (c := vIn (uI (p + 1)) 1200 = true) (by exact (uI_vIn (by omega)).mpr (by omega)), uI_clamp (by omega), (hb3 hpn).1, h120,
            if_pos (c := iI 120 = 120) (by rfl), if_pos (c := iI 120 = 120) (by rfl), if_pos (c := vBl 1 = true) (by rfl), if_neg (c := (1 : Int32) = 0) (by decide), if_neg (c := (1 : Int32) = 0) (by decide), show uI p + 2 = uI (p + 2) from uI_add p 2]
          exact hsix (by omega)
        · have hno : ¬ iI (atI T n (p + 1)) = 120 := fun x => h120 ((iI_eq (b := 120) (by omega) (by omega) (by omega) (by omega)).mp x)
          rw [if_neg hno]
          by_cases hpn : p + 1 < n
          · rw [if_neg (c := uI n ≤ uI (p + 1)) (by exact fun x => by have := (uI_le (by omega) (by omega)).mp x; omega), if_pos (c := vIn (uI (p + 1)) 1200 = true) (by exact (uI_vIn (by omega)).mpr (by omega)), uI_clamp (by omega), (hb3 hpn).1, if_neg hno]
            exact hten
          · rw [if_pos (c := uI n ≤ uI (p + 1)) (by exact (uI_le (by omega) (by omega)).mpr (by omega))]
            exact hten
      · rw [if_neg (c := iI (atI T n p) = 48) (hne 48 (by decide) h48), if_neg (c := iI (atI T n p) = 48) (hne 48 (by decide) h48)]
        exact hten
