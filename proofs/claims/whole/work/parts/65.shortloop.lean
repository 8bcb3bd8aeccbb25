/-! the reference's shorten, its loops -/
theorem x11_sh179 (mm : Int64) (ee : Int32) (fg : Nat → Int32) (sg pw rt te al : Int32) (ad : Nat → Int32) (bl0 : Int32) (bd : Nat → Int32) (ll : Int32) (ld : Nat → Int32) (rl : Int32) (rd : Nat → Int32) (gl : Int32) (gd : Nat → Int32) (tl : Int32) (td : Nat → Int32) (nl : Int32) (nd : Nat → Int32) (dl : Int32) (dd : Nat → Int32) (wl : Int32) (wd : Nat → Int32) (hl : Int32) (hd : Nat → Int32) : ∀ (c fuel N : Nat) (k : Int), tlOK N c fg → 1 ≤ c → c ≤ 100 → c < fuel →
    ∃ (N' c' y : Nat), f_X11_shorten_L179 mm ee fuel sg pw rt (uI c) (iI k) te al ad bl0 bd ll ld rl rd gl gd tl td fg nl nd dl dd wl wd hl hd = some (sg, pw, rt, uI c', iI (k + y), te, al, ad, bl0, bd, ll, ld, rl, rd, gl, gd, tl, td, fg, nl, nd, dl, dd, wl, wd, hl, hd) ∧ tlOK N' c' fg ∧ 1 ≤ c' ∧ c' ≤ c ∧ N = N' * 10 ^ y ∧ (c' = 1 ∨ N' % 10 ≠ 0) := by
  intro c
  induction c with
  | zero => intro fuel N k h h1; omega
  | succ c ih =>
    intro fuel N k h h1 h2 hf
    obtain ⟨f, rfl, hf'⟩ := ex_succ hf
    rw [f_X11_shorten_L179]
    by_cases hc : c + 1 ≤ 1
    · rw [if_pos (by exact (uI_le (b := 1) (by omega) (by omega)).mpr hc)]
      refine ⟨N, c + 1, 0, ?_, h, h1, Nat.le_refl _, by rw [Nat.pow_zero, Nat.mul_one], Or.inl (by omega)⟩
      rw [Int.natCast_zero, Int.add_zero]
    · have hfig := h.2.2.2 c (by omega)
      rw [show c + 1 - 1 - c = 0 by omega, Nat.pow_zero, Nat.div_one] at hfig
      have hc1 : uI (c + 1) - 1 = uI c := uI_pred c
      rw [if_neg (by exact fun x => hc ((uI_le (b := 1) (by omega) (by omega)).mp x)), hc1, if_pos (by exact (uI_vIn (by omega)).mpr (by omega)), uI_clamp (by omega), hfig]
      by_cases h0 : N % 10 = 0
      · have hk' : iI k + 1 = iI (k + 1) := by rw [wI_1, iI_add]
        have ht := tl_tenth h (by omega)
        rw [Nat.add_sub_cancel] at ht
        obtain ⟨N', c', y, q1, q2, q3, q4, q5, q6⟩ := ih f (N / 10) (k + 1) ht (by omega) (by omega) (by omega)
        rw [if_pos (by rw [h0]; rfl), hk', q1]
        refine ⟨N', c', y + 1, ?_, q2, q3, by omega, ?_, q6⟩
        · rw [show k + 1 + (y : Int) = k + ((y + 1 : Nat) : Int) by omega]
        · rw [Nat.pow_succ, ← Nat.mul_assoc, ← q5]; omega
      · rw [if_neg (by rw [uI_eq0 (by omega)]; exact h0)]
        refine ⟨N, c + 1, 0, ?_, h, h1, Nat.le_refl _, by rw [Nat.pow_zero, Nat.mul_one], Or.inr h0⟩
        rw [Int.natCast_zero, Int.add_zero]
theorem tl_count {N c : Nat} {fg : Nat → Int32} (h : tlOK N c fg) (hN : N < 10 ^ 30) (hN0 : N ≠ 0) : 1 ≤ c ∧ c ≤ 100 := by
  refine ⟨dc_pos (tl_dc h) hN0, ?_⟩
  rcases h.2.2.1 with g | g
  · omega
  · have := (Nat.pow_lt_pow_iff_right (a := 10) (by decide)).mp (Nat.lt_of_le_of_lt g hN)
    omega
theorem x11_sh151 {q : Nat} (up : Bool) (k : Int) (mm : Int64) (ee fm la : Int32) (fg : Nat → Int32) (sg pw rt te al : Int32) (ad : Nat → Int32) (bl0 : Int32) (bd : Nat → Int32) (ll : Int32) (ld : Nat → Int32) (rl : Int32) (rd : Nat → Int32) (gl : Int32) (gd : Nat → Int32) (tl : Int32) (td : Nat → Int32) (nl : Int32) (nd : Nat → Int32) (dl : Int32) (dd : Nat → Int32) (wl : Int32) (wd : Nat → Int32) (hl : Int32) (hd : Nat → Int32) (hw : R30 wl wd q) (hh : R30 hl hd (q + 1)) (hq0 : q ≠ 0) (hq : q + 1 < 10 ^ 30) :
    ∃ (N' c' y : Nat) (o1 o2 o3 o4 a1 : Int32) (a2 : Nat → Int32) (a3 : Int32) (a4 : Nat → Int32) (a5 : Int32) (a6 : Nat → Int32) (a7 : Int32) (a8 : Nat → Int32) (a9 : Int32) (a10 : Nat → Int32) (a11 : Int32) (a12 fg' : Nat → Int32) (b1 : Int32) (b2 : Nat → Int32) (b3 : Int32) (b4 : Nat → Int32) (b5 : Int32) (b6 : Nat → Int32) (b7 : Int32) (b8 : Nat → Int32), f_X11_shorten_B151 mm ee (iI k) (bI up) sg pw rt fm la te al ad bl0 bd ll ld rl rd gl gd tl td fg nl nd dl dd wl wd hl hd = some (o1, o2, o3, uI c', iI (k + y), o4, a1, a2, a3, a4, a5, a6, a7, a8, a9, a10, a11, a12, fg', b1, b2, b3, b4, b5, b6, b7, b8) ∧ tlOK N' c' fg' ∧ 1 ≤ c' ∧ c' ≤ 100 ∧ q + (if up then 1 else 0) = N' * 10 ^ y ∧ (c' = 1 ∨ N' % 10 ≠ 0) := by
  unfold f_X11_shorten_B151
  have hl12 : (10 : Nat) ^ 30 < 10 ^ 1200 := Nat.pow_lt_pow_right (by decide) (by decide)
  cases up with
  | false =>
    obtain ⟨c, s2, D2, fg2, g3, g4⟩ := x11_tell hw (Nat.lt_trans (Nat.lt_trans (Nat.lt_succ_self _) hq) hl12) fm ll ld fg
    obtain ⟨hc1, hc2⟩ := tl_count g4 (Nat.lt_trans (Nat.lt_succ_self _) hq) hq0
    obtain ⟨N', c', y, q1, q2, q3, q4, q5, q6⟩ := x11_sh179 mm ee fg2 sg pw rt te al ad bl0 bd s2 D2 rl rd gl gd tl td nl nd dl dd wl wd hl hd c FU q k g4 hc1 hc2 (by rw [hFU]; omega)
    rw [if_pos (by rfl), g3, Option.bind_some, if_neg (by decide)]
    exact ⟨N', c', y, _, _, _, _, _, _, _, _, _, _, _, _, _, _, _, _, _, _, _, _, _, _, _, _, _, q1, q2, q3, by omega, q5, q6⟩
  | true =>
    obtain ⟨c, s2, D2, fg2, g3, g4⟩ := x11_tell hh (Nat.lt_trans hq hl12) fm ll ld fg
    obtain ⟨hc1, hc2⟩ := tl_count g4 hq (by omega)
    obtain ⟨N', c', y, q1, q2, q3, q4, q5, q6⟩ := x11_sh179 mm ee fg2 sg pw rt te al ad bl0 bd s2 D2 rl rd gl gd tl td nl nd dl dd wl wd hl hd c FU (q + 1) k g4 hc1 hc2 (by rw [hFU]; omega)
    rw [if_neg (by decide), g3, Option.bind_some, if_pos rfl]
    exact ⟨N', c', y, _, _, _, _, _, _, _, _, _, _, _, _, _, _, _, _, _, _, _, _, _, _, _, _, _, q1, q2, q3, by omega, q5, q6⟩
theorem x11_sh100 {q r D : Nat} (lo hi : Bool) (hyes : (lo || hi) = true) (k : Int) (mm : Int64) (ee fm la : Int32) (fg : Nat → Int32) (sg pw rt te al : Int32) (ad : Nat → Int32) (bl0 : Int32) (bd : Nat → Int32) (ll : Int32) (ld : Nat → Int32) (rl : Int32) (rd : Nat → Int32) (gl : Int32) (gd : Nat → Int32) (tl : Int32) (td : Nat → Int32) (nl : Int32) (nd : Nat → Int32) (dl : Int32) (dd : Nat → Int32) (wl : Int32) (wd : Nat → Int32) (hl : Int32) (hd : Nat → Int32) (hw : R30 wl wd q) (hh : R30 hl hd (q + 1)) (hn : R30 nl nd r) (hdn : R30 dl dd D) (hr : r < 10 ^ 400) (hq0 : q ≠ 0) (hq : q + 1 < 10 ^ 30) :
    ∃ (N' c' y : Nat) (o1 o2 o3 o4 a1 : Int32) (a2 : Nat → Int32) (a3 : Int32) (a4 : Nat → Int32) (a5 : Int32) (a6 : Nat → Int32) (a7 : Int32) (a8 : Nat → Int32) (a9 : Int32) (a10 : Nat → Int32) (a11 : Int32) (a12 fg' : Nat → Int32) (b1 : Int32) (b2 : Nat → Int32) (b3 : Int32) (b4 : Nat → Int32) (b5 : Int32) (b6 : Nat → Int32) (b7 : Int32) (b8 : Nat → Int32), f_X11_shorten_B100 mm ee (iI k) (bI lo) (bI hi) sg pw rt fm la te al ad bl0 bd ll ld rl rd gl gd tl td fg nl nd dl dd wl wd hl hd = some (o1, o2, o3, uI c', iI (k + y), o4, a1, a2, a3, a4, a5, a6, a7, a8, a9, a10, a11, a12, fg', b1, b2, b3, b4, b5, b6, b7, b8) ∧ tlOK N' c' fg' ∧ 1 ≤ c' ∧ c' ≤ 100 ∧ q + (if hi && (!lo || decide (D < 2 * r)) then 1 else 0) = N' * 10 ^ y ∧ (c' = 1 ∨ N' % 10 ≠ 0) := by
  unfold f_X11_shorten_B100
  obtain ⟨s1, D1, g1, g2⟩ := x10_copy hn ll ld
  have hNl := (lim401' (Nat.lt_trans hr (Nat.pow_lt_pow_right (by decide) (by decide)))).1
  obtain ⟨s2, D2, g3, g4⟩ := x10_add g2 hn hNl hNl
  have hB := fun up => x11_sh151 up k mm ee fm la fg sg pw rt te al ad bl0 bd s2 D2 rl rd gl gd tl td nl nd dl dd wl wd hl hd hw hh hq0 hq
  have h0 := hB false
  have h1 := hB true
  rw [g1, Option.bind_some, g3, Option.bind_some]
  cases hi with
  | false =>
    rw [if_pos (by rfl)]
    exact h0
  | true =>
    rw [if_neg (by decide)]
    cases lo with
    | false =>
      rw [if_pos (by rfl)]
      exact h1
    | true =>
      rw [if_neg (by decide), x10_cmp g4 hdn, Option.bind_some]
      by_cases hc : r + r ≤ D
      · rw [if_pos (by exact (cmp_iI_le _ _).mpr hc), decide_eq_false (show ¬ D < 2 * r by omega)]
        exact h0
      · rw [if_neg (by exact fun x => hc ((cmp_iI_le _ _).mp x)), decide_eq_true (show D < 2 * r by omega)]
        exact h1
