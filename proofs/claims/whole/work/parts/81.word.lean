/-! reading: the words, the numbers -/
theorem rd_word {n p t c0 c1 c2 : Nat} {T : Nat → Int32} (hT : tpOK n T) (hp : p ≤ n) (h1 : sLen t = uI 3) (h2 : (sByt t).length = 3) (e0 : sChr t (uI 0) = uI c0) (e1 : sChr t (uI 1) = uI c1) (e2 : sChr t (uI 2) = uI c2) (b0 : c0 < 256) (b1 : c1 < 256) (b2 : c2 < 256) :
    ∃ q : Nat, q < 100000 ∧ ((f_X7_parseWord (uI n) T t (uI p) = some (uI q) ∧ f_X11_takesWord (uI n) T (uI c0) (uI c1) (uI c2) (uI p) = some (0, uI q)) ∨
      (q ≤ n ∧ f_X7_parseWord (uI n) T t (uI p) = some (if q = n then -1 else uI q) ∧ f_X11_takesWord (uI n) T (uI c0) (uI c1) (uI c2) (uI p) = some (1, uI q))) := by
  have hn := hT.1
  have hfu : FU = 99996 + 1 + 1 + 1 + 1 := rfl
  have hz : (0 : Int32) = uI 0 := rfl
  have heq : ∀ (c i : Nat), c < 256 → (iI (atI T n i) = uI c ↔ atI T n i = c) := by
    intro c i hc
    have := at_bd hT i
    exact iI_eq (by omega) (by omega) (by omega) (by omega)
  have hr : f_X11_takesWord (uI n) T (uI c0) (uI c1) (uI c2) (uI p) = if atI T n p = c0 then if atI T n (p + 1) = c1 then if atI T n (p + 2) = c2 then some (1, uI (p + 3)) else some (0, uI (p + 2)) else some (0, uI (p + 1)) else some (0, uI p) := by
    unfold f_X11_takesWord
    rw [uI_succ, uI_succ, uI_succ, x11_here hT (by omega), Option.bind_some, x11_here hT (by omega), Option.bind_some, x11_here hT (by omega), Option.bind_some]
    simp only [heq c0 p b0, heq c1 (p + 1) b1, heq c2 (p + 1 + 1) b2]
  have hc : f_X7_parseWord (uI n) T t (uI p) = if atI T n p = c0 then if atI T n (p + 1) = c1 then if atI T n (p + 2) = c2 then some (if p + 3 = n then -1 else uI (p + 3)) else some (uI (p + 2)) else some (uI (p + 1)) else some (uI p) := by
    unfold f_X7_parseWord
    rw [hfu, f_X7_parseWord_L2, h1, hz, if_neg (c := uI 3 ≤ uI 0) (by decide), uI_add, Nat.add_zero, x7_at hT (by omega), Option.bind_some, h2, if_pos (c := vIn (uI 0) 3 = true) (by decide), e0, uI_succ]
    by_cases g0 : atI T n p = c0
    · rw [if_pos (c := iI (atI T n p) = uI c0) ((heq c0 p b0).mpr g0), if_pos g0, f_X7_parseWord_L2, h1, if_neg (c := uI 3 ≤ uI (0 + 1)) (by decide), uI_add, x7_at hT (by omega), Option.bind_some, h2, if_pos (c := vIn (uI (0 + 1)) 3 = true) (by decide), Nat.zero_add, e1, uI_succ]
      by_cases g1 : atI T n (p + 1) = c1
      · rw [if_pos (c := iI (atI T n (p + 1)) = uI c1) ((heq c1 (p + 1) b1).mpr g1), if_pos g1, f_X7_parseWord_L2, h1, if_neg (c := uI 3 ≤ uI (1 + 1)) (by decide), uI_add, x7_at hT (by omega), Option.bind_some, h2, if_pos (c := vIn (uI (1 + 1)) 3 = true) (by decide), show 1 + 1 = 2 from rfl, e2, uI_succ]
        by_cases g2 : atI T n (p + 2) = c2
        · rw [if_pos (c := iI (atI T n (p + 2)) = uI c2) ((heq c2 (p + 2) b2).mpr g2), if_pos g2, f_X7_parseWord_L2, h1, if_pos (c := uI 3 ≤ uI (2 + 1)) (by decide)]
          unfold f_X7_parseWord_B35
          rw [h1, uI_add]
          by_cases hh : p + 3 = n
          · rw [if_pos (by rw [hh]), if_pos hh]
          · rw [if_neg (by exact fun x => hh ((uI_eq (by omega) (by omega)).mp x)), if_neg hh]
        · rw [if_neg (c := iI (atI T n (p + 2)) = uI c2) (fun x => g2 ((heq c2 (p + 2) b2).mp x)), if_neg g2]
      · rw [if_neg (c := iI (atI T n (p + 1)) = uI c1) (fun x => g1 ((heq c1 (p + 1) b1).mp x)), if_neg g1]
    · rw [if_neg (c := iI (atI T n p) = uI c0) (fun x => g0 ((heq c0 p b0).mp x)), if_neg g0]
  rw [hr, hc]
  by_cases g0 : atI T n p = c0
  · simp only [if_pos g0]
    by_cases g1 : atI T n (p + 1) = c1
    · simp only [if_pos g1]
      by_cases g2 : atI T n (p + 2) = c2
      · have hpn : p + 2 < n := by
          apply Nat.lt_of_not_le
          intro hh
          have := (at_bd hT (p + 2)).2.2.2 hh
          omega
        simp only [if_pos g2]
        exact ⟨p + 3, by omega, Or.inr ⟨by omega, rfl, rfl⟩⟩
      · simp only [if_neg g2]
        exact ⟨p + 2, by omega, Or.inl ⟨rfl, rfl⟩⟩
    · simp only [if_neg g1]
      exact ⟨p + 1, by omega, Or.inl ⟨rfl, rfl⟩⟩
  · simp only [if_neg g0]
    exact ⟨p, by omega, Or.inl ⟨rfl, rfl⟩⟩
/-- what the reference's read leaves -/
def rdOut (o : Option (Int32 × Int32 × Int32 × Int32 × Int32 × Int32 × Int32 × Int32 × Int32 × Int32 × Int32 × (Nat → Int32) × (Nat → Int64) × Int32 × (Nat → Int32) × Int32 × (Nat → Int32) × Int32 × (Nat → Int32) × Int32 × (Nat → Int32) × Int32 × (Nat → Int32) × Int32 × (Nat → Int32))) (ret th tp : Int32) (F' : Nat → Int32) (G' : Nat → Int64) : Prop :=
  ∃ (x1 x2 x3 x6 x7 x8 x9 x10 y1 : Int32) (y2 : Nat → Int32) (y3 : Int32) (y4 : Nat → Int32) (y5 : Int32) (y6 : Nat → Int32) (y7 : Int32) (y8 : Nat → Int32) (y9 : Int32) (y10 : Nat → Int32) (y11 : Int32) (y12 : Nat → Int32), o = some (ret, x1, x2, x3, th, tp, x6, x7, x8, x9, x10, F', G', y1, y2, y3, y4, y5, y6, y7, y8, y9, y10, y11, y12)
theorem rd_out (ret x1 x2 x3 th tp x6 x7 x8 x9 x10 : Int32) (F' : Nat → Int32) (G' : Nat → Int64) (y1 : Int32) (y2 : Nat → Int32) (y3 : Int32) (y4 : Nat → Int32) (y5 : Int32) (y6 : Nat → Int32) (y7 : Int32) (y8 : Nat → Int32) (y9 : Int32) (y10 : Nat → Int32) (y11 : Int32) (y12 : Nat → Int32) :
    rdOut (some (ret, x1, x2, x3, th, tp, x6, x7, x8, x9, x10, F', G', y1, y2, y3, y4, y5, y6, y7, y8, y9, y10, y11, y12)) ret th tp F' G' := ⟨x1, x2, x3, x6, x7, x8, x9, x10, y1, y2, y3, y4, y5, y6, y7, y8, y9, y10, y11, y12, rfl⟩
theorem x11_B335 {A B f sg way r : Nat} {p : Int} {al bl0 : Int32} {ad bd : Nat → Int32} (F : Nat → Int32) (G : Nat → Int64) (ha : R30 al ad A) (hb : R30 bl0 bd B) (hA : bl A ≤ 14000) (hB : bl B ≤ 14000) (hB0 : 0 < B) (hp1 : -3000000 ≤ p) (hp2 : p ≤ 3000000) (hf : f ≤ 1) (hs : sg ≤ 1) (hw : way < 4) (hr : r < 16) (T : Nat → Int32) (th tp a1 a2 a3 a4 a5 z1 : Int32) (z2 : Nat → Int32) (z3 : Int32) (z4 : Nat → Int32) (z5 : Int32) (z6 : Nat → Int32) (z7 : Int32) (z8 : Nat → Int32) :
    ∃ P, rdOut (f_X11_read_B335 T (uI r) (uI f) (uI way) (uI sg) (iI p) 1 th tp a1 a2 a3 a4 a5 F G al ad bl0 bd z1 z2 z3 z4 z5 z6 z7 z8) 0 th tp (upd F r (uI f)) (vp_updL G r (uL P)) ∧ isR f way sg (A * 2 ^ lnU f p) (B * 2 ^ lnD f p) 1 P := by
  obtain ⟨P, q, h1, h2⟩ := x11_round (r := 1) F G ha hb hA hB hB0 (by omega) (by omega) hp1 hp2 hf hs hw hr (z1, z2, z3, z4, z5, z6, z7, z8)
  have e1 : lnU f p = (p - ((1 : Nat) : Int) * (fLo f - 1)).toNat := by unfold lnU; omega
  have e2 : lnD f p = (((1 : Nat) : Int) * (fLo f - 1) - p).toNat := by unfold lnD; omega
  rw [← e1, ← e2] at h2
  refine ⟨P, ?_, h2⟩
  have h1' : f_X11_round (uI sg) (iI p) 1 al ad bl0 bd (uI r) (uI f) (uI way) F G z1 z2 z3 z4 z5 z6 z7 z8 = _ := h1
  unfold f_X11_read_B335
  rw [h1', Option.bind_some]
  exact rd_out _ _ _ _ _ _ _ _ _ _ _ _ _ _ _ _ _ _ _ _ _ _ _ _ _
theorem m1_ne {q : Nat} (h : q < 100000) : ¬ uI q = (-1 : Int32) := by
  rw [m1_iI]
  intro x
  have := (iI_eq (by omega) (by omega) (by omega) (by omega)).mp x
  omega
theorem rd_number {n f way sg g r : Nat} {T : Nat → Int32} (hT : tpOK n T) (sx : Bool) (hg : g ≤ n) (hf : f ≤ 1) (hs : sg ≤ 1) (hw : way < 4) (hr : r < 16) (F : Nat → Int32) (G : Nat → Int64) (at0 ad1 : Int32) (hat : at0 + ad1 = uI g)
    (be co po bg en : Int32) (pw rt th tp a1 a2 a3 a4 al : Int32) (ad : Nat → Int32) (bl0 : Int32) (bd : Nat → Int32) (z1 : Int32) (z2 : Nat → Int32) (z3 : Int32) (z4 : Nat → Int32) (z5 : Int32) (z6 : Nat → Int32) (z7 : Int32) (z8 : Nat → Int32) :
    (∃ (q : Nat) (u1 u2 u3 u4 u5 : Int32), q < 100000 ∧ f_X7_parse_B122 (uI n) T (uI g) (uI sg) 2 (bI sx) be co po bg en = some (uI q, uI sg, 2, bI sx, u1, u2, u3, u4, u5) ∧
      rdOut (f_X11_read_B267 T (uI r) (uI f) (uI way) (bI sx) at0 ad1 (uI sg) pw rt th tp a1 (uI n) a2 a3 a4 F G al ad bl0 bd z1 z2 z3 z4 z5 z6 z7 z8) (-1 - uI q) th tp F G) ∨
    (∃ (e V many behind P : Nat) (told : Int), g ≤ e ∧ e ≤ n ∧ V = rdV sx T n g (e - g) ∧ rdI sx V many behind (e - g) ∧ -1000000 < told ∧ told < 1000000 ∧
      f_X7_parse_B122 (uI n) T (uI g) (uI sg) 2 (bI sx) be co po bg en = some (-1, uI sg, 2, bI sx, uI behind, uI many, iI told, uI g, uI e) ∧ rdP f way sg sx V behind told P ∧
      rdOut (f_X11_read_B267 T (uI r) (uI f) (uI way) (bI sx) at0 ad1 (uI sg) pw rt th tp a1 (uI n) a2 a3 a4 F G al ad bl0 bd z1 z2 z3 z4 z5 z6 z7 z8) 0 th tp (upd F r (uI f)) (vp_updL G r (uL P))) := by
  have hn := hT.1
  obtain ⟨sa, Da, sb, Db, hbeg, hRa, hRb⟩ := x11_begin (uI sg) (uI sg) pw rt al ad bl0 bd
  obtain ⟨any', many, behind, e, V, al', ad', w1, w2, w3, w4, w5, w6, w7⟩ := rd_figs hT sx g (uI (if sx then 112 else 101)) 0 (uI sg) 0 1 sb Db (n - g) g FU FU false false 0 0 0 sa Da (by omega) (Nat.le_refl _) (by rw [hFU]; omega) (by rw [hFU]; omega) hRa (by rw [Nat.sub_self]; rfl) ⟨by rw [Nat.pow_zero]; decide, fun hh => absurd hh (by decide), by omega, by omega⟩
  have hbV : bl V ≤ 4800 := by rw [w4]; exact rdV_room sx T n g (by omega)
  have hpf : f_X7_parseFigures (uI n) (bI sx) (uI g) T be co en = some (bI any', uI behind, uI many, uI e) := w6
  have htf : f_X11_takesFigures (uI n) T (uI (if sx then 16 else 10)) (uI (if sx then 112 else 101)) (uI sg) pw rt (uI g) a2 a3 a4 al ad bl0 bd = f_X11_takesFigures_B149 (uI n) T (uI (if sx then 112 else 101)) (bI any') (uI sg) 0 1 (uI e) (uI many) (uI behind) 0 al' ad' sb Db := by
    unfold f_X11_takesFigures
    rw [hbeg, Option.bind_some]
    exact w7
  -- the reference's tail
  have hB267 : ∀ (any2 at2 told2 : Int32) (ma2 be2 : Int32) (al2 : Int32) (ad2 : Nat → Int32), f_X11_takesFigures (uI n) T (uI (if sx then 16 else 10)) (uI (if sx then 112 else 101)) (uI sg) pw rt (uI g) a2 a3 a4 al ad bl0 bd = some (any2, uI sg, 0, 1, at2, ma2, be2, told2, al2, ad2, sb, Db) →
      f_X11_read_B267 T (uI r) (uI f) (uI way) (bI sx) at0 ad1 (uI sg) pw rt th tp a1 (uI n) a2 a3 a4 F G al ad bl0 bd z1 z2 z3 z4 z5 z6 z7 z8 = if any2 = 0 then some (-1 - at2, uI sg, 0, 1, th, tp, at2, uI n, ma2, be2, told2, F, G, al2, ad2, sb, Db, z1, z2, z3, z4, z5, z6, z7, z8) else f_X11_read_B301 T (uI r) (uI f) (uI way) (bI sx) (uI sg) 0 1 th tp at2 (uI n) ma2 be2 told2 F G al2 ad2 sb Db z1 z2 z3 z4 z5 z6 z7 z8 := by
    intro any2 at2 told2 ma2 be2 al2 ad2 hh
    unfold f_X11_read_B267
    rw [hat]
    cases sx
    · have hh' : f_X11_takesFigures (uI n) T 10 101 (uI sg) pw rt (uI g) a2 a3 a4 al ad bl0 bd = _ := hh
      rw [if_pos (by rfl), hh', Option.bind_some]
    · have hh' : f_X11_takesFigures (uI n) T 16 112 (uI sg) pw rt (uI g) a2 a3 a4 al ad bl0 bd = _ := hh
      rw [if_neg (by decide), hh', Option.bind_some]
  have hB301bad : ∀ (q : Nat) (told2 : Int32), q < n → rdOut (f_X11_read_B301 T (uI r) (uI f) (uI way) (bI sx) (uI sg) 0 1 th tp (uI q) (uI n) (uI many) (uI behind) told2 F G al' ad' sb Db z1 z2 z3 z4 z5 z6 z7 z8) (-1 - uI q) th tp F G := by
    intro q told2 hq
    unfold f_X11_read_B301
    rw [if_neg (by exact fun x => by have := (uI_le (by omega) (by omega)).mp x; omega)]
    exact rd_out _ _ _ _ _ _ _ _ _ _ _ _ _ _ _ _ _ _ _ _ _ _ _ _ _
  have hmb := w5.2.2.1
  have hbb := w5.2.2.2
  have hB301good : ∀ (told : Int), -1000000 < told → told < 1000000 → ∃ P, rdP f way sg sx V behind told P ∧ rdOut (f_X11_read_B301 T (uI r) (uI f) (uI way) (bI sx) (uI sg) 0 1 th tp (uI n) (uI n) (uI many) (uI behind) (iI told) F G al' ad' sb Db z1 z2 z3 z4 z5 z6 z7 z8) 0 th tp (upd F r (uI f)) (vp_updL G r (uL P)) := by
    intro told ht1 ht2
    unfold f_X11_read_B301
    rw [if_pos (by exact (uI_le (by omega) (by omega)).mpr (Nat.le_refl _))]
    cases sx
    · rw [if_pos (by rfl)]
      obtain ⟨p, A, B, al2, ad2, bl2, bd2, v1, v2, v3, v4, v5, v6, v7, v8, v9⟩ := x11_scaleTen w3 hRb w5 (by omega) ht1 ht2
      rw [v1, Option.bind_some]
      obtain ⟨P, y1, y2⟩ := x11_B335 (p := p) F G v2 v3 v4 v5 v6 (by omega) (by omega) hf hs hw hr T th tp (uI n) (uI n) (uI many) (uI behind) (iI told) z1 z2 z3 z4 z5 z6 z7 z8
      exact ⟨P, v9 f way sg P hf y2, y1⟩
    · rw [if_neg (by decide)]
      obtain ⟨p, A, al2, ad2, v1, v2, v3, v4, v5, v6⟩ := x11_scaleTwo (behind := behind) w3 hbV (by omega) ht1 ht2 0
      rw [v1, Option.bind_some]
      have hb1 : bl 1 = 1 := by decide
      obtain ⟨P, y1, y2⟩ := x11_B335 F G v2 hRb (by omega) (by omega) (by omega) (p := p) (by omega) (by omega) hf hs hw hr T th tp (uI n) (uI n) (uI many) (uI behind) (iI told) z1 z2 z3 z4 z5 z6 z7 z8
      refine ⟨P, ?_, y1⟩
      have e3 : P = rcP f way sg A p false := by
        refine isR_uniq y2 ?_
        rw [Nat.one_mul (2 ^ lnD f _)]
        exact rc_isR hf (lnk_exact f A _) (fun hh => by cases hh)
      rw [e3]
      exact v6 f way sg hf
  obtain ⟨ha1, ha2, ha3, ha4⟩ := at_bd hT e
  have hcs : (if sx then 112 else 101 : Nat) < 256 ∧ (101 : Nat) ≤ (if sx then 112 else 101 : Nat) := by cases sx <;> decide
  unfold f_X7_parse_B122
  rw [hpf, Option.bind_some]
  cases any'
  · left
    have hB149 : f_X11_takesFigures_B149 (uI n) T (uI (if sx then 112 else 101)) (bI false) (uI sg) 0 1 (uI e) (uI many) (uI behind) 0 al' ad' sb Db = some (0, uI sg, 0, 1, uI e, uI many, uI behind, 0, al', ad', sb, Db) := by
      unfold f_X11_takesFigures_B149; rw [if_pos (by rfl)]
    have h267 := hB267 0 (uI e) 0 (uI many) (uI behind) al' ad' (by rw [htf, hB149])
    refine ⟨e, uI behind, uI many, po, uI g, uI e, by omega, ?_, ?_⟩
    · rw [if_pos (by rfl)]
    · rw [h267, if_pos rfl]
      exact rd_out _ _ _ _ _ _ _ _ _ _ _ _ _ _ _ _ _ _ _ _ _ _ _ _ _
  · rw [if_neg (c := bI true = 0) (by decide)]
    have hB149 : f_X11_takesFigures_B149 (uI n) T (uI (if sx then 112 else 101)) (bI true) (uI sg) 0 1 (uI e) (uI many) (uI behind) 0 al' ad' sb Db = if iI (atI T n e) = uI (if sx then 112 else 101) then (f_X11_takesPower (uI n) T (uI (e + 1)) 0).bind fun u23 => if vBl u23.1 = true then some (u23.1, uI sg, 0, 1, u23.2.1, uI many, uI behind, u23.2.2, al', ad', sb, Db) else none else some (1, uI sg, 0, 1, uI e, uI many, uI behind, 0, al', ad', sb, Db) := by
      unfold f_X11_takesFigures_B149
      rw [if_neg (c := bI true = 0) (by decide), x11_here hT (by omega), Option.bind_some, uI_succ]
    by_cases hen : e = n
    · right
      have hno : ¬ iI (atI T n e) = uI (if sx then 112 else 101) := by
        rw [ha4 (by omega)]
        intro x
        have := (iI_eq (by omega) (by omega) (by omega) (by omega)).mp x
        omega
      rw [if_neg hno] at hB149
      have h267 := hB267 1 (uI e) 0 (uI many) (uI behind) al' ad' (by rw [htf, hB149])
      obtain ⟨P, v1, v2⟩ := hB301good 0 (by omega) (by omega)
      refine ⟨e, V, many, behind, P, 0, w1, w2, w4, w5, by omega, by omega, ?_, v1, ?_⟩
      · rw [if_pos (by rw [hen])]; rfl
      · rw [h267, if_neg (by decide), hen]
        exact v2
    · rw [if_neg (c := uI e = uI n) (fun x => hen ((uI_eq (by omega) (by omega)).mp x)), x7_at hT (by omega), Option.bind_some]
      have hB177 : ∀ (X : Option (Int32 × Int32 × Int32 × Int32 × Int32 × Int32 × Int32 × Int32 × Int32)), X = (if bI sx = 0 then f_X7_parse_B177 (uI n) T (iI (atI T n e)) 101 (uI sg) 2 (bI sx) (uI behind) (uI many) 0 (uI g) (uI e) else f_X7_parse_B177 (uI n) T (iI (atI T n e)) 112 (uI sg) 2 (bI sx) (uI behind) (uI many) 0 (uI g) (uI e)) →
          X = if iI (atI T n e) = uI (if sx then 112 else 101) then (f_X7_parsePower (uI n) T (uI (e + 1)) 0).bind fun u17 => some (u17.1, uI sg, 2, bI sx, uI behind, uI many, u17.2, uI g, uI e) else some (uI e, uI sg, 2, bI sx, uI behind, uI many, 0, uI g, uI e) := by
        intro X hX
        rw [hX]
        unfold f_X7_parse_B177
        cases sx
        · rw [if_pos (c := bI false = 0) (by rfl), uI_succ]; rfl
        · rw [if_neg (c := bI true = 0) (by decide), uI_succ]; rfl
      rw [hB177 _ rfl]
      by_cases hle : iI (atI T n e) = uI (if sx then 112 else 101)
      · rw [if_pos hle] at hB149
        rw [if_pos hle]
        obtain ⟨q, hq, hcase⟩ := rd_power hT (p := e + 1) (by omega)
        rcases hcase with ⟨x, y, c1, c2⟩ | ⟨told, t1, t2, c1, c2⟩
        · left
          rw [c2, Option.bind_some, if_pos (c := vBl ((0 : Int32), uI q, y).1 = true) (by rfl)] at hB149
          have h267 := hB267 0 (uI q) y (uI many) (uI behind) al' ad' (by rw [htf, hB149])
          refine ⟨q, uI behind, uI many, x, uI g, uI e, by omega, ?_, ?_⟩
          · rw [c1, Option.bind_some]
          · rw [h267, if_pos rfl]
            exact rd_out _ _ _ _ _ _ _ _ _ _ _ _ _ _ _ _ _ _ _ _ _ _ _ _ _
        · rw [c2, Option.bind_some, if_pos (c := vBl ((1 : Int32), uI q, iI told).1 = true) (by rfl)] at hB149
          have h267 := hB267 1 (uI q) (iI told) (uI many) (uI behind) al' ad' (by rw [htf, hB149])
          rw [c1, Option.bind_some]
          by_cases hqn : q = n
          · right
            obtain ⟨P, v1, v2⟩ := hB301good told t1 t2
            refine ⟨e, V, many, behind, P, told, w1, w2, w4, w5, t1, t2, ?_, v1, ?_⟩
            · rw [if_pos hqn]
            · rw [h267, if_neg (by decide), hqn]
              exact v2
          · left
            refine ⟨q, uI behind, uI many, iI told, uI g, uI e, by omega, ?_, ?_⟩
            · rw [if_neg hqn]
            · rw [h267, if_neg (by decide)]
              exact hB301bad q (iI told) (by omega)
      · rw [if_neg hle] at hB149
        rw [if_neg hle]
        left
        have h267 := hB267 1 (uI e) 0 (uI many) (uI behind) al' ad' (by rw [htf, hB149])
        refine ⟨e, uI behind, uI many, 0, uI g, uI e, by omega, rfl, ?_⟩
        rw [h267, if_neg (by decide)]
        exact hB301bad e 0 (by omega)
