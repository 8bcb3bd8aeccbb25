/-! the reference's putRounded -/
theorem tl_tenth {Z c : Nat} {fg : Nat → Int32} (h : tlOK Z c fg) (hc : 2 ≤ c) : tlOK (Z / 10) (c - 1) fg := by
  refine ⟨by have := h.1; omega, ?_, Or.inr ?_, ?_⟩
  · have := h.2.1
    rw [show c = c - 1 + 1 by omega, Nat.pow_succ] at this
    exact Nat.div_lt_of_lt_mul (by omega)
  · rcases h.2.2.1 with g | g
    · omega
    · rw [show c - 1 = c - 1 - 1 + 1 by omega, Nat.pow_succ] at g
      exact (Nat.le_div_iff_mul_le (by decide)).mpr g
  · intro i hi
    rw [h.2.2.2 i (by omega), show c - 1 - i = c - 1 - 1 - i + 1 by omega, Nat.pow_succ, Nat.mul_comm (10 ^ _) 10, ← Nat.div_div_eq_div_mul]
theorem x11_rd159 {Z n : Nat} {t : Int} (hn1 : 1 ≤ n) (hn : n ≤ 60) (ht1 : -324 ≤ t) (ht2 : t ≤ 400) (hZ1 : 10 ^ (n - 1) ≤ Z) (hZ2 : Z ≤ 10 ^ n) {wl : Int32} {wd : Nat → Int32} (hR : R30 wl wd Z) (sg : Int32) (m : Int64) (e : Int32) {l : List Nat} {len : Int32} {B : Nat → Int32} (hs : shOK l len B) (hl : l.length ≤ 1) (fm la ll : Int32) (ld fg : Nat → Int32) (nl : Int32) (nd : Nat → Int32) (dl : Int32) (dd : Nat → Int32) :
    ∃ (c : Nat) (len' fm' la' te' ll' : Int32) (ld' B' fg' : Nat → Int32) (nl' : Int32) (nd' : Nat → Int32) (dl' : Int32) (dd' : Nat → Int32) (wl' : Int32) (wd' : Nat → Int32), f_X11_putRounded_B159 sg m e (uI n) len fm la (iI t) ll ld B fg nl nd dl dd wl wd = some (len', fm', la', te', ll', ld', B', fg', nl', nd', dl', dd', wl', wd') ∧ dcP Z c ∧ (c = n ∨ c = n + 1) ∧ shOK (l ++ pwL Z (t - n + 1) (t - n + c) n) len' B' := by
  unfold f_X11_putRounded_B159
  have hZlim : Z < 10 ^ 1200 := Nat.lt_of_le_of_lt hZ2 (Nat.pow_lt_pow_right (by decide) (by omega))
  obtain ⟨c, s1, D1, fg1, g1, g2⟩ := x11_tell hR hZlim fm ll ld fg
  have hdc := tl_dc g2
  have hc1 : n ≤ c := by
    rcases Nat.lt_or_ge c n with g | g
    · have h1 := hdc.1
      have h2 : 10 ^ c ≤ 10 ^ (n - 1) := Nat.pow_le_pow_right (by decide) (by omega)
      omega
    · exact g
  have hc2 : c ≤ n + 1 := by
    rcases hdc.2 with g | g
    · omega
    · have := (Nat.pow_le_pow_iff_right (a := 10) (by decide)).mp (Nat.le_trans g hZ2)
      omega
  have hlast : iI t - uI n + 1 = iI (t - n + 1) := by rw [iI_sub, wI_1, iI_add]
  rw [g1, Option.bind_some]
  dsimp only
  unfold f_X11_putRounded_B207
  by_cases hcn : c ≤ n
  · have hce : c = n := by omega
    subst hce
    obtain ⟨a, b, q1, q2⟩ := x11_powered g2 hn1 (by omega) (k := t - c + 1) (by omega) (by omega) hs hl
    rw [if_pos (by exact (uI_le (by omega) (by omega)).mpr hcn), hlast, q1, Option.bind_some]
    refine ⟨c, _, _, _, _, _, _, _, _, _, _, _, _, _, _, rfl, hdc, Or.inl rfl, ?_⟩
    rw [show (c : Int) + (t - c + 1) - 1 = t - c + c by omega] at q2
    exact q2
  · have hce : c = n + 1 := by omega
    have h2 := tl_tenth g2 (by omega)
    have hcs : uI c - 1 = uI (c - 1) := uI_sub (b := 1) (by omega)
    have hl2 : iI (t - n + 1) + 1 = iI (t - n + 1 + 1) := by rw [wI_1, iI_add]
    obtain ⟨a, b, q1, q2⟩ := x11_powered h2 (by omega) (by omega) (k := t - n + 1 + 1) (by omega) (by omega) hs hl
    rw [if_neg (by exact fun x => hcn ((uI_le (by omega) (by omega)).mp x)), hlast, hl2, hcs, q1, Option.bind_some]
    refine ⟨c, _, _, _, _, _, _, _, _, _, _, _, _, _, _, rfl, hdc, Or.inr hce, ?_⟩
    have hZe : Z = Z / 10 * 10 ^ 1 := by
      have : Z = 10 ^ n := by
        rcases hdc.2 with g | g
        · omega
        · rw [hce, Nat.add_sub_cancel] at g; omega
      rw [this, show n = n - 1 + 1 by omega, Nat.pow_succ, Nat.mul_div_cancel _ (by decide), Nat.pow_one]
    rw [pwL_eq (E := Z / 10) (k' := t - n + 1 + 1) (z := 1) (by omega) hZe, show t - n + (c : Int) = ((c - 1 : Nat) : Int) + (t - n + 1 + 1) - 1 by omega, show n = c - 1 by omega]
    rw [show n = c - 1 by omega] at q2
    exact q2
theorem rnd_flags {Nr D Lw W : Nat} (hD : 0 < D) (hW : Lw * D + Nr = W) (hN : Nr < D) : W / D = Lw ∧ W % D = Nr := by
  subst hW
  rw [Nat.mul_comm, Nat.mul_add_div hD, Nat.mul_add_mod, Nat.div_eq_of_lt hN, Nat.mod_eq_of_lt hN]
  exact ⟨rfl, rfl⟩
theorem x11_rd54 {Nr D Lw W n way sg : Nat} {t : Int} (hn1 : 1 ≤ n) (hn : n ≤ 60) (ht1 : -324 ≤ t) (ht2 : t ≤ 400) (hs1 : sg ≤ 1) (hw : way < 4) (hD : 0 < D) (hDl : D < 10 ^ 400) (hW : Lw * D + Nr = W) (hN : Nr < D) (hZ1 : 10 ^ (n - 1) ≤ Lw) (hZ2 : Lw < 10 ^ n) {wl : Int32} {wd : Nat → Int32} (hR : R30 wl wd Lw) (m : Int64) (e : Int32) {l : List Nat} {len : Int32} {B : Nat → Int32} (hs : shOK l len B) (hl : l.length ≤ 1) (fm la ll : Int32) (ld fg : Nat → Int32) {nl : Int32} {nd : Nat → Int32} {dl : Int32} {dd : Nat → Int32} (hRn : R30 nl nd Nr) (hRd : R30 dl dd D) :
    ∃ (c : Nat) (len' fm' la' te' ll' : Int32) (ld' B' fg' : Nat → Int32) (nl' : Int32) (nd' : Nat → Int32) (dl' : Int32) (dd' : Nat → Int32) (wl' : Int32) (wd' : Nat → Int32), f_X11_putRounded_B54 (uI sg) m e (uI n) (uI way) len fm la (iI t) ll ld B fg nl nd dl dd wl wd = some (len', fm', la', te', ll', ld', B', fg', nl', nd', dl', dd', wl', wd') ∧ dcP (rndZ way sg W D) c ∧ (c = n ∨ c = n + 1) ∧ shOK (l ++ pwL (rndZ way sg W D) (t - n + 1) (t - n + c) n) len' B' := by
  obtain ⟨hq, hr⟩ := rnd_flags hD hW hN
  have hLl : Lw < 10 ^ 450 := Nat.lt_trans hZ2 (Nat.pow_lt_pow_right (by decide) (by omega))
  have hlim := lim_lt hLl
  have key : ∀ (d : Nat), d < 4 → hfB W D = decide (2 ≤ d) → rfB W D = (d % 2 == 1) → ∀ (ll : Int32) (ld : Nat → Int32), ∃ (c : Nat) (len' fm' la' te' ll' : Int32) (ld' B' fg' : Nat → Int32) (nl' : Int32) (nd' : Nat → Int32) (dl' : Int32) (dd' : Nat → Int32) (wl' : Int32) (wd' : Nat → Int32), f_X11_putRounded_B119 (uI sg) m e (uI n) (uI way) (uI d) len fm la (iI t) ll ld B fg nl nd dl dd wl wd = some (len', fm', la', te', ll', ld', B', fg', nl', nd', dl', dd', wl', wd') ∧ dcP (rndZ way sg W D) c ∧ (c = n ∨ c = n + 1) ∧ shOK (l ++ pwL (rndZ way sg W D) (t - n + 1) (t - n + c) n) len' B' := by
    intro d hd f1 f2 ll ld
    have hz : rndZ way sg W D = Lw + (if gO way sg (Lw % 2 == 1) (decide (2 ≤ d)) (d % 2 == 1) then 1 else 0) := by
      unfold rndZ
      rw [f1, f2, hq]
    rw [hz]
    have hgo : ∀ odd : Bool, ∃ (c : Nat) (len' fm' la' te' ll' : Int32) (ld' B' fg' : Nat → Int32) (nl' : Int32) (nd' : Nat → Int32) (dl' : Int32) (dd' : Nat → Int32) (wl' : Int32) (wd' : Nat → Int32), f_X11_putRounded_B140 (uI sg) m e (uI n) (uI way) (uI d) (bI odd) len fm la (iI t) ll ld B fg nl nd dl dd wl wd = some (len', fm', la', te', ll', ld', B', fg', nl', nd', dl', dd', wl', wd') ∧ dcP (Lw + (if gO way sg odd (decide (2 ≤ d)) (d % 2 == 1) then 1 else 0)) c ∧ (c = n ∨ c = n + 1) ∧ shOK (l ++ pwL (Lw + (if gO way sg odd (decide (2 ≤ d)) (d % 2 == 1) then 1 else 0)) (t - n + 1) (t - n + c) n) len' B' := by
      intro odd
      unfold f_X11_putRounded_B140
      rw [x11_isMore odd hd hs1 hw, Option.bind_some]
      cases gO way sg odd (decide (2 ≤ d)) (d % 2 == 1) with
      | false =>
        rw [if_pos (by rfl), if_neg (by decide)]
        exact x11_rd159 hn1 hn ht1 ht2 hZ1 (Nat.le_of_lt hZ2) hR (uI sg) m e hs hl fm la ll ld fg nl nd dl dd
      | true =>
        obtain ⟨s2, D2, g3, g4⟩ := x10_small hR (x := 1) (by decide) hlim.2.2
        have g3' : f_X10_addSmall (1 : Int32) wl wd = some (s2, D2) := g3
        rw [if_neg (by decide), if_pos rfl, g3', Option.bind_some]
        exact x11_rd159 hn1 hn ht1 ht2 (Nat.le_succ_of_le hZ1) hZ2 g4 (uI sg) m e hs hl fm la ll ld fg nl nd dl dd
    unfold f_X11_putRounded_B119
    rw [bit0 hR, Option.bind_some]
    rcases Nat.mod_two_eq_zero_or_one Lw with g | g
    · rw [g, if_neg (by decide)]
      exact hgo false
    · rw [g, if_pos (by rfl)]
      exact hgo true
  unfold f_X11_putRounded_B54
  obtain ⟨s1, D1, g1, g2⟩ := x10_copy hRn ll ld
  have hNl := (lim401' (Nat.lt_trans (Nat.lt_trans hN hDl) (Nat.pow_lt_pow_right (by decide) (by decide)))).1
  obtain ⟨s2, D2, g3, g4⟩ := x10_add g2 hRn hNl hNl
  rw [g1, Option.bind_some, g3, Option.bind_some, x10_cmp g4 hRd, Option.bind_some]
  have hfl : hfB W D = decide (D ≤ Nr + Nr) := by unfold hfB; rw [hr, Nat.two_mul]
  have hrl : rfB W D = (decide (Nr ≠ 0) && decide (Nr + Nr ≠ D)) := by unfold rfB; rw [hr, Nat.two_mul]
  by_cases h0 : Nr = 0
  · rw [if_pos (by exact (r30_len0 hRn).mpr h0)]
    refine key 0 (by decide) ?_ ?_ _ _
    · rw [hfl, h0]; simp; omega
    · rw [hrl, h0]; simp
  · rw [if_neg (by exact fun x => h0 ((r30_len0 hRn).mp x))]
    by_cases h1 : D ≤ Nr + Nr
    · rw [if_pos (by exact (cmp_iI_ge _ _).mpr h1)]
      by_cases h2 : Nr + Nr = D
      · rw [if_pos (by exact (cmp_iI_eq _ _).mpr h2)]
        refine key 2 (by decide) ?_ ?_ _ _
        · rw [hfl]; simp; omega
        · rw [hrl]; simp [h2]
      · rw [if_neg (by exact fun x => h2 ((cmp_iI_eq _ _).mp x))]
        refine key 3 (by decide) ?_ ?_ _ _
        · rw [hfl]; simp; omega
        · rw [hrl]; simp [h2, h0]
    · rw [if_neg (by exact fun x => h1 ((cmp_iI_ge _ _).mp x))]
      refine key 1 (by decide) ?_ ?_ _ _
      · rw [hfl]; simp; omega
      · rw [hrl]; simp [h0]; omega
theorem x11_rd14 {N0 D n way sg : Nat} {t : Int} (hn1 : 1 ≤ n) (hn : n ≤ 60) (ht1 : -324 ≤ t) (ht2 : t ≤ 400) (hs1 : sg ≤ 1) (hw : way < 4) (hD : 0 < D) (hN1 : D ≤ N0) (hN2 : N0 < D * 10) (hNl : N0 < 10 ^ 400) (m : Int64) (e : Int32) {l : List Nat} {len : Int32} {B : Nat → Int32} (hs : shOK l len B) (hl : l.length ≤ 1) (fm la ll : Int32) (ld fg : Nat → Int32) {dl : Int32} {dd : Nat → Int32} (hRd : R30 dl dd D) : ∀ (k i fuel Nr Lw : Nat) (nl : Int32) (nd : Nat → Int32) (wl : Int32) (wd : Nat → Int32), i + k = n → k < fuel → R30 nl nd Nr → R30 wl wd Lw → ((i = 0 ∧ Nr = N0 ∧ Lw = 0) ∨ (1 ≤ i ∧ Lw * D + Nr = N0 * 10 ^ (i - 1) ∧ Nr < D)) →
    ∃ (c : Nat) (len' fm' la' te' ll' : Int32) (ld' B' fg' : Nat → Int32) (nl' : Int32) (nd' : Nat → Int32) (dl' : Int32) (dd' : Nat → Int32) (wl' : Int32) (wd' : Nat → Int32), f_X11_putRounded_L14 (uI sg) m e fuel (uI n) (uI way) (uI i) len fm la (iI t) ll ld B fg nl nd dl dd wl wd = some (len', fm', la', te', ll', ld', B', fg', nl', nd', dl', dd', wl', wd') ∧ dcP (rndZ way sg (N0 * 10 ^ (n - 1)) D) c ∧ (c = n ∨ c = n + 1) ∧ shOK (l ++ pwL (rndZ way sg (N0 * 10 ^ (n - 1)) D) (t - n + 1) (t - n + c) n) len' B' := by
  have hDl : D < 10 ^ 400 := Nat.lt_of_le_of_lt hN1 hNl
  intro k
  induction k with
  | zero =>
    intro i fuel Nr Lw nl nd wl wd hi hf hRn hRw hinv
    obtain ⟨f, rfl, _⟩ := ex_succ hf
    have hin : i = n := by omega
    subst hin
    rcases hinv with ⟨h, _⟩ | ⟨_, hW, hN⟩
    · omega
    obtain ⟨hq, _⟩ := rnd_flags hD hW hN
    have hp := ten_pos (i - 1)
    have hZ1 : 10 ^ (i - 1) ≤ Lw := by
      rw [← hq]
      refine (Nat.le_div_iff_mul_le hD).mpr ?_
      rw [Nat.mul_comm]
      exact Nat.mul_le_mul_right _ hN1
    have hZ2 : Lw < 10 ^ i := by
      rw [← hq]
      refine (Nat.div_lt_iff_lt_mul hD).mpr ?_
      have : 10 ^ i * D = D * 10 * 10 ^ (i - 1) := by
        rw [show 10 ^ i = 10 ^ (i - 1) * 10 by rw [← Nat.pow_succ]; congr 1; omega]
        simp only [Nat.mul_comm, Nat.mul_left_comm, Nat.mul_assoc]
      rw [this]
      exact Nat.mul_lt_mul_of_pos_right hN2 hp
    rw [f_X11_putRounded_L14, if_pos (by exact (uI_le (by omega) (by omega)).mpr (Nat.le_refl _))]
    exact x11_rd54 hn1 hn ht1 ht2 hs1 hw hD hDl hW hN hZ1 hZ2 hRw m e hs hl fm la ll ld fg hRn hRd
  | succ k ih =>
    intro i fuel Nr Lw nl nd wl wd hi hf hRn hRw hinv
    obtain ⟨f, rfl, hf'⟩ := ex_succ hf
    have key : ∀ (V : Nat) (nl : Int32) (nd : Nat → Int32), R30 nl nd V → V < D * 10 → Lw * 10 * D + V = N0 * 10 ^ i → ∃ (c : Nat) (len' fm' la' te' ll' : Int32) (ld' B' fg' : Nat → Int32) (nl' : Int32) (nd' : Nat → Int32) (dl' : Int32) (dd' : Nat → Int32) (wl' : Int32) (wd' : Nat → Int32), f_X11_putRounded_B34 (uI sg) m e (f_X11_putRounded_L14 (uI sg) m e f) (uI n) (uI way) (uI i) len fm la (iI t) ll ld B fg nl nd dl dd wl wd = some (len', fm', la', te', ll', ld', B', fg', nl', nd', dl', dd', wl', wd') ∧ dcP (rndZ way sg (N0 * 10 ^ (n - 1)) D) c ∧ (c = n ∨ c = n + 1) ∧ shOK (l ++ pwL (rndZ way sg (N0 * 10 ^ (n - 1)) D) (t - n + 1) (t - n + c) n) len' B' := by
      intro V nl nd hR hV hW
      have h10 : V / D < 10 := Nat.div_lt_of_lt_mul hV
      have hdm := Nat.div_add_mod V D
      have hm := Nat.mod_lt V hD
      obtain ⟨a, b, q1, q2⟩ := x11_next hRd hD hR hV
      have hW2 : (Lw * 10 + V / D) * D + V % D = N0 * 10 ^ i := by
        rw [Nat.add_mul, Nat.mul_comm (V / D) D, Nat.add_assoc, hdm, hW]
      have hlw : Lw * 10 + V / D < 10 ^ 450 := by
        have h1 : Lw * 10 + V / D ≤ N0 * 10 ^ i / D := (Nat.le_div_iff_mul_le hD).mpr (by omega)
        have h2 : N0 * 10 ^ i / D < 10 * 10 ^ i := by
          refine (Nat.div_lt_iff_lt_mul hD).mpr ?_
          have := Nat.mul_lt_mul_of_pos_right hN2 (ten_pos i)
          rw [show 10 * 10 ^ i * D = D * 10 * 10 ^ i by simp only [Nat.mul_comm, Nat.mul_left_comm, Nat.mul_assoc]]
          exact this
        rw [Nat.mul_comm 10, ← Nat.pow_succ] at h2
        exact Nat.lt_of_le_of_lt h1 (Nat.lt_trans h2 (Nat.pow_lt_pow_right (by decide) (by omega)))
      obtain ⟨s2, D2, g3, g4⟩ := x10_times hRw (f := 10) (x := V / D) (by decide) (by omega) (Nat.lt_trans (Nat.lt_succ_self _) (lim_lt hlw).2.2)
      have g3' : f_X10_times (10 : Int64) (uI (V / D)) wl wd = some (s2, D2) := g3
      unfold f_X11_putRounded_B34
      rw [q1, Option.bind_some, g3', Option.bind_some, uI_succ]
      exact ih (i + 1) f _ _ a b s2 D2 (by omega) (by omega) q2 g4 (Or.inr ⟨by omega, by rw [Nat.add_sub_cancel]; exact hW2, hm⟩)
    rw [f_X11_putRounded_L14, if_neg (by exact fun x => by have := (uI_le (by omega) (by omega)).mp x; omega)]
    rcases hinv with ⟨rfl, rfl, rfl⟩ | ⟨h1, hW, hN⟩
    · rw [if_pos (by decide)]
      exact key Nr nl nd hRn hN2 (by rw [Nat.zero_mul, Nat.pow_zero]; omega)
    · obtain ⟨s2, D2, g3, g4⟩ := x10_times hRn (f := 10) (x := 0) (by decide) (by decide) (lim401' (lim401 (Nat.lt_trans hN hDl))).2
      have g3' : f_X10_times (10 : Int64) (0 : Int32) nl nd = some (s2, D2) := g3
      rw [if_neg (by exact fun x => by have := (uI_le (b := 0) (by omega) (by omega)).mp x; omega), g3', Option.bind_some]
      refine key (Nr * 10) s2 D2 g4 (Nat.mul_lt_mul_of_pos_right hN (by decide)) ?_
      rw [show 10 ^ i = 10 ^ (i - 1) * 10 by rw [← Nat.pow_succ]; congr 1; omega, ← Nat.mul_assoc, ← hW, Nat.add_mul]
      simp only [Nat.mul_comm, Nat.mul_left_comm, Nat.mul_assoc]
theorem x11_rounded {m n way sg : Nat} {e : Int} (hm0 : m ≠ 0) (hm : m < 2 ^ 53) (he1 : -1074 ≤ e) (he2 : e ≤ 971) (hn1 : 1 ≤ n) (hn : n ≤ 60) (hs1 : sg ≤ 1) (hw : way < 4) {l : List Nat} {len : Int32} {B : Nat → Int32} (hs : shOK l len B) (hl : l.length ≤ 1) (fm la te ll : Int32) (ld fg : Nat → Int32) (nl : Int32) (nd : Nat → Int32) (dl : Int32) (dd : Nat → Int32) (wl : Int32) (wd : Nat → Int32) :
    ∃ (N0 D : Nat) (t : Int) (c : Nat) (len' fm' la' te' ll' : Int32) (ld' B' fg' : Nat → Int32) (nl' : Int32) (nd' : Nat → Int32) (dl' : Int32) (dd' : Nat → Int32) (wl' : Int32) (wd' : Nat → Int32), f_X11_putRounded (uI sg) (uL m) (iI e) (uI n) (uI way) len fm la te ll ld B fg nl nd dl dd wl wd = some (len', fm', la', te', ll', ld', B', fg', nl', nd', dl', dd', wl', wd') ∧ sv N0 D t m e ∧ 0 < D ∧ D ≤ N0 ∧ N0 < D * 10 ∧ dcP (rndZ way sg (N0 * 10 ^ (n - 1)) D) c ∧ (c = n ∨ c = n + 1) ∧ shOK (l ++ pwL (rndZ way sg (N0 * 10 ^ (n - 1)) D) (t - n + 1) (t - n + c) n) len' B' := by
  unfold f_X11_putRounded
  obtain ⟨t, N, D, a1, a2, a3, a4, a5, a6, g1, g2, g3, g4, g5, g6, g7, g8, g9, g10⟩ := x11_scale hm0 hm he1 he2 te ll ld nl nd dl dd
  obtain ⟨s1, D1, g11, g12⟩ := x10_set wl wd (u := 0) (by omega)
  have g11' : f_X10_set (0 : Int64) wl wd = some (s1, D1) := g11
  obtain ⟨c, b1, b2, b3, b4, b5, b6, b7, b8, b9, b10, b11, b12, b13, b14, q1, q2, q3, q4⟩ := x11_rd14 hn1 hn g9 g10 hs1 hw g4 g5 g6 g7 (uL m) (iI e) hs hl fm la a1 a2 fg g3 n 0 FU N 0 a3 a4 s1 D1 (by omega) (by rw [hFU]; omega) g2 g12 (Or.inl ⟨rfl, rfl, rfl⟩)
  rw [g1, Option.bind_some, g11', Option.bind_some]
  exact ⟨N, D, t, c, _, _, _, _, _, _, _, _, _, _, _, _, _, _, q1, g8, g4, g5, g6, q2, q3, q4⟩
