/-! the reference's putExact -/
theorem lim_ex : (2 : Nat) ^ 53 * 5 ^ 1074 < 10 ^ 800 := by decide +kernel
theorem lim_ex2 : (10 : Nat) ^ 800 < 1073741824 ^ 519 := by decide +kernel
theorem lim_ex3 : (2 : Nat) ^ 53 * 2 ^ 971 < 10 ^ 400 := by decide +kernel
theorem five_lim {m j : Nat} (hm : m < 2 ^ 53) (hj : j ≤ 1074) : m * 5 ^ j < 10 ^ 800 := by
  refine Nat.lt_of_le_of_lt ?_ lim_ex
  exact Nat.mul_le_mul (Nat.le_of_lt hm) (Nat.pow_le_pow_right (by decide) hj)
theorem dv_drop {N m : Nat} {k e : Int} (h : dv N k m e) (h0 : N % 10 = 0) : dv (N / 10) (k + 1) m e := by
  have : N = N / 10 * 10 ^ 1 := by omega
  rw [this] at h
  exact dv_scale h
theorem x11_ex89 {m0 : Nat} {e0 : Int} (mm : Int64) (ee ll : Int32) (ld : Nat → Int32) (wl : Int32) (wd fg : Nat → Int32) {l : List Nat} {len : Int32} {B : Nat → Int32} (hs : shOK l len B) (hl : l.length ≤ 1) : ∀ (j : Nat) (k : Int) (N c fuel : Nat), k = -(j : Int) → j < fuel → j ≤ 1100 → tlOK N c fg → c ≤ 800 → N ≠ 0 → dv N k m0 e0 →
    ∃ N' c' k' len' B', f_X11_putExact_L89 mm ee fuel len (uI c) (iI k) ll ld B fg wl wd = some (len', uI c', iI k', ll, ld, B', fg, wl, wd) ∧ dcP N' c' ∧ N' ≠ 0 ∧ dv N' k' m0 e0 ∧ k' ≤ 0 ∧ (k' = 0 ∨ N' % 10 ≠ 0) ∧ shOK (l ++ plc N' k' ((max (c' + k' - 1) 0).toNat + 1 + (-k').toNat) (max (c' + k' - 1) 0)) len' B' := by
  intro j
  have hend : ∀ (k : Int) (N c : Nat), -1100 ≤ k → k ≤ 0 → tlOK N c fg → c ≤ 800 → N ≠ 0 → dv N k m0 e0 → (k = 0 ∨ N % 10 ≠ 0) →
    ∃ N' c' k' len' B', f_X11_putExact_B133 mm ee len (uI c) (iI k) ll ld B fg wl wd = some (len', uI c', iI k', ll, ld, B', fg, wl, wd) ∧ dcP N' c' ∧ N' ≠ 0 ∧ dv N' k' m0 e0 ∧ k' ≤ 0 ∧ (k' = 0 ∨ N' % 10 ≠ 0) ∧ shOK (l ++ plc N' k' ((max (c' + k' - 1) 0).toNat + 1 + (-k').toNat) (max (c' + k' - 1) 0)) len' B' := by
    intro k N c hk1 hk2 ht hc hN hv hz
    obtain ⟨a, b, g1, g2⟩ := x11_plain ht (k := k) (by omega) (by omega) hs (by omega)
    unfold f_X11_putExact_B133
    rw [g1, Option.bind_some]
    exact ⟨N, c, k, a, b, rfl, tl_dc ht, hN, hv, hk2, hz, g2⟩
  induction j with
  | zero =>
    intro k N c fuel hk hf hj ht hc hN hv
    obtain ⟨f, rfl, _⟩ := ex_succ hf
    rw [f_X11_putExact_L89, if_pos (by rw [wI_0, iI_le (by omega) (by omega) (by omega) (by omega)]; omega)]
    exact hend k N c (by omega) (by omega) ht hc hN hv (Or.inl (by omega))
  | succ j ih =>
    intro k N c fuel hk hf hj ht hc hN hv
    obtain ⟨f, rfl, hf'⟩ := ex_succ hf
    have hc0 := dc_pos (tl_dc ht) hN
    have hfig := ht.2.2.2 (c - 1) (by omega)
    rw [show c - 1 - (c - 1) = 0 by omega, Nat.pow_zero, Nat.div_one] at hfig
    have hc1 : uI c - 1 = uI (c - 1) := uI_sub (b := 1) (by omega)
    rw [f_X11_putExact_L89, if_neg (by rw [wI_0, iI_le (by omega) (by omega) (by omega) (by omega)]; omega), hc1, if_pos (by exact (uI_vIn (by omega)).mpr (by omega)), uI_clamp (by omega), hfig]
    by_cases h0 : N % 10 = 0
    · have hk' : iI k + 1 = iI (k + 1) := by rw [wI_1, iI_add]
      rw [if_pos (by rw [h0]; rfl), hk']
      have hN10 : N / 10 ≠ 0 := by omega
      have hcc : c ≠ 1 := by
        intro h1
        have := ht.2.1
        rw [h1, Nat.pow_one] at this
        omega
      refine ih (k + 1) (N / 10) (c - 1) f (by omega) (by omega) (by omega) ⟨by omega, ?_, Or.inr ?_, ?_⟩ (by omega) hN10 (dv_drop hv h0)
      · have := ht.2.1
        rw [show c = c - 1 + 1 by omega, Nat.pow_succ] at this
        exact Nat.div_lt_of_lt_mul (by omega)
      · rcases ht.2.2.1 with g | g
        · omega
        · rw [show c - 1 = c - 1 - 1 + 1 by omega, Nat.pow_succ] at g
          exact (Nat.le_div_iff_mul_le (by decide)).mpr g
      · intro i hi
        have := ht.2.2.2 i (by omega)
        rw [this, show c - 1 - i = c - 1 - 1 - i + 1 by omega, Nat.pow_succ, Nat.mul_comm (10 ^ _) 10, ← Nat.div_div_eq_div_mul]
    · rw [if_neg (by rw [uI_eq0 (by omega)]; exact h0)]
      exact hend k N c (by omega) (by omega) ht hc hN hv (Or.inr h0)
theorem x11_exact {m : Nat} {e : Int} (hm0 : m ≠ 0) (hm : m < 2 ^ 53) (he1 : -1074 ≤ e) (he2 : e ≤ 971) {l : List Nat} {len : Int32} {B : Nat → Int32} (hs : shOK l len B) (hl : l.length ≤ 1) (fm la : Int32) (ll : Int32) (ld : Nat → Int32) (fg : Nat → Int32) (wl : Int32) (wd : Nat → Int32) :
    ∃ N' c' k' len' fm' la' ll' ld' B' fg' wl' wd', f_X11_putExact (uL m) (iI e) len fm la ll ld B fg wl wd = some (len', fm', la', ll', ld', B', fg', wl', wd') ∧ dcP N' c' ∧ N' ≠ 0 ∧ dv N' k' m e ∧ k' ≤ 0 ∧ (k' = 0 ∨ N' % 10 ≠ 0) ∧ shOK (l ++ plc N' k' ((max (c' + k' - 1) 0).toNat + 1 + (-k').toNat) (max (c' + k' - 1) 0)) len' B' := by
  unfold f_X11_putExact
  obtain ⟨s1, D1, g1, g2⟩ := x10_set wl wd (u := m) (by omega)
  rw [g1, Option.bind_some]
  by_cases he : e < 0
  · rw [if_pos (by rw [wI_0, iI_lt (by omega) (by omega) (by omega) (by omega)]; exact he)]
    have hneg : - iI e = uI (-e).toNat := by rw [iI_neg]; exact congrArg iI (by omega)
    have hL : ∀ k i fuel s D, i + k = (-e).toNat → k < fuel → R30 s D (m * 5 ^ i) → ∃ N' c' k' len' fm' la' ll' ld' B' fg' wl' wd', f_X11_putExact_L47 (uL m) (iI e) fuel (uI i) len fm la ll ld B fg s D = some (len', fm', la', ll', ld', B', fg', wl', wd') ∧ dcP N' c' ∧ N' ≠ 0 ∧ dv N' k' m e ∧ k' ≤ 0 ∧ (k' = 0 ∨ N' % 10 ≠ 0) ∧ shOK (l ++ plc N' k' ((max (c' + k' - 1) 0).toNat + 1 + (-k').toNat) (max (c' + k' - 1) 0)) len' B' := by
      intro k
      induction k with
      | zero =>
        intro i fuel s D hi hf hR
        obtain ⟨f, rfl, _⟩ := ex_succ hf
        rw [f_X11_putExact_L47, hneg, if_pos (by exact (uI_le (by omega) (by omega)).mpr (by omega))]
        unfold f_X11_putExact_B73
        have hlim := five_lim hm (j := i) (by omega)
        obtain ⟨c, s2, D2, fg2, g3, g4⟩ := x11_tell hR (Nat.lt_trans hlim (Nat.pow_lt_pow_right (by decide) (by decide))) fm ll ld fg
        have hc : c ≤ 800 := by
          rcases g4.2.2.1 with g | g
          · omega
          · have := (Nat.pow_lt_pow_iff_right (by decide)).mp (Nat.lt_of_le_of_lt g hlim)
            omega
        have hv : dv (m * 5 ^ i) e m e := by
          unfold dv
          rw [show e.toNat = 0 by omega, Nat.pow_zero, Nat.mul_one, Nat.mul_one, show (-e).toNat = i by omega, five_two, Nat.mul_assoc]
        have hN : m * 5 ^ i ≠ 0 := Nat.mul_ne_zero hm0 (Nat.pos_iff_ne_zero.mp (Nat.pow_pos (by decide)))
        obtain ⟨N', c', k', a, b, q1, q2, q3, q4, q5, q6, q7⟩ := x11_ex89 (uL m) (iI e) s2 D2 s D fg2 hs hl (-e).toNat e (m * 5 ^ i) c FU (by omega) (by rw [hFU]; omega) (by omega) g4 hc hN hv
        rw [g3, Option.bind_some]
        exact ⟨N', c', k', _, _, _, _, _, _, _, _, _, q1, q2, q3, q4, q5, q6, q7⟩
      | succ k ih =>
        intro i fuel s D hi hf hR
        obtain ⟨f, rfl, hf'⟩ := ex_succ hf
        have hb := five_lim hm (j := i + 1) (by omega)
        rw [Nat.pow_succ, ← Nat.mul_assoc] at hb
        obtain ⟨s2, D2, g3, g4⟩ := x10_times hR (f := 5) (x := 0) (by decide) (by decide) (Nat.lt_trans hb (Nat.lt_trans lim_ex2 lim30'))
        have g3' : f_X10_times (5 : Int64) (0 : Int32) s D = some (s2, D2) := g3
        rw [f_X11_putExact_L47, hneg, if_neg (by exact fun x => by have := (uI_le (by omega) (by omega)).mp x; omega), g3', Option.bind_some, uI_succ]
        rw [Nat.add_zero, Nat.mul_assoc, ← Nat.pow_succ] at g4
        exact ih (i + 1) f s2 D2 (by omega) (by omega) g4
    exact hL (-e).toNat 0 FU s1 D1 (by omega) (by rw [hFU]; omega) (by rw [Nat.pow_zero, Nat.mul_one]; exact g2)
  · obtain ⟨s, rfl⟩ : ∃ s : Nat, e = (s : Int) := ⟨e.toNat, by omega⟩
    have hlim : m * 2 ^ s < 10 ^ 400 := by
      refine Nat.lt_of_le_of_lt ?_ lim_ex3
      exact Nat.mul_le_mul (Nat.le_of_lt hm) (Nat.pow_le_pow_right (by decide) (by omega))
    obtain ⟨s2, D2, g3, g4⟩ := x10_shift g2 (s := s) (by omega) (Nat.lt_trans hlim (Nat.lt_trans (Nat.pow_lt_pow_right (by decide) (by decide)) lim30))
    obtain ⟨c, s3, D3, fg2, g5, g6⟩ := x11_tell g4 (Nat.lt_trans hlim (Nat.pow_lt_pow_right (by decide) (by decide))) fm ll ld fg
    have hc : c ≤ 800 := by
      rcases g6.2.2.1 with g | g
      · omega
      · have := (Nat.pow_lt_pow_iff_right (by decide)).mp (Nat.lt_of_le_of_lt g hlim)
        omega
    have hv : dv (m * 2 ^ s) 0 m (s : Int) := by
      unfold dv
      rw [show (-(s : Int)).toNat = 0 by omega, show (0 : Int).toNat = 0 from rfl, show (-(0 : Int)).toNat = 0 from rfl, Int.toNat_natCast, Nat.pow_zero, Nat.mul_one, Nat.mul_one]
    have hN : m * 2 ^ s ≠ 0 := Nat.mul_ne_zero hm0 (Nat.pos_iff_ne_zero.mp (Nat.pow_pos (by decide)))
    obtain ⟨a, b, g7, g8⟩ := x11_plain g6 (k := 0) (by omega) (by omega) hs (by omega)
    have g7' : f_X11_putPlain (uI c) (0 : Int32) fg2 len B = some (a, b) := g7
    rw [if_neg (by rw [wI_0, iI_lt (by omega) (by omega) (by omega) (by omega)]; exact he), show iI ((s : Nat) : Int) = uI s from rfl, g3, Option.bind_some, g5, Option.bind_some]
    unfold f_X11_putExact_B133
    rw [g7', Option.bind_some]
    exact ⟨m * 2 ^ s, c, 0, _, _, _, _, _, _, _, _, _, rfl, tl_dc g6, hN, hv, Int.le_refl _, Or.inl rfl, g8⟩
/-! what has no nought at its end is one only -/
theorem ten_split {a b : Nat} (h : a ≤ b) : 10 ^ b = 10 ^ (b - a) * 10 ^ a := by rw [← Nat.pow_add]; congr 1; omega
theorem dv_rel {D N m : Nat} {K k e : Int} (h1 : dv D K m e) (h2 : dv N k m e) (hk : k ≤ K) : N = D * 10 ^ (K - k).toNat := by
  unfold dv at h1 h2
  have hp : 0 < 2 ^ (-e).toNat := Nat.pow_pos (by decide)
  have a1 := ten_pos K.toNat
  have a2 := ten_pos (-K).toNat
  have a3 := ten_pos k.toNat
  have a4 := ten_pos (-k).toNat
  -- cross
  have hx : D * 10 ^ K.toNat * 2 ^ (-e).toNat * 10 ^ (-k).toNat = N * 10 ^ k.toNat * 2 ^ (-e).toNat * 10 ^ (-K).toNat := by
    rw [h1, h2]; simp only [Nat.mul_comm, Nat.mul_left_comm, Nat.mul_assoc]
  have hy : 10 ^ K.toNat * 10 ^ (-k).toNat = 10 ^ (K - k).toNat * (10 ^ k.toNat * 10 ^ (-K).toNat) := by
    rw [← Nat.pow_add, ← Nat.pow_add, ← Nat.pow_add]; congr 1; omega
  have hz : D * 10 ^ (K - k).toNat * (10 ^ k.toNat * 10 ^ (-K).toNat * 2 ^ (-e).toNat) = N * (10 ^ k.toNat * 10 ^ (-K).toNat * 2 ^ (-e).toNat) := by
    have e1 : D * 10 ^ (K - k).toNat * (10 ^ k.toNat * 10 ^ (-K).toNat * 2 ^ (-e).toNat) = D * (10 ^ (K - k).toNat * (10 ^ k.toNat * 10 ^ (-K).toNat)) * 2 ^ (-e).toNat := by simp only [Nat.mul_assoc]
    rw [e1, ← hy]
    have e2 : D * (10 ^ K.toNat * 10 ^ (-k).toNat) * 2 ^ (-e).toNat = D * 10 ^ K.toNat * 2 ^ (-e).toNat * 10 ^ (-k).toNat := by simp only [Nat.mul_comm, Nat.mul_left_comm, Nat.mul_assoc]
    rw [e2, hx]; simp only [Nat.mul_comm, Nat.mul_left_comm, Nat.mul_assoc]
  have := Nat.eq_of_mul_eq_mul_right (Nat.mul_pos (Nat.mul_pos a3 a2) hp) hz
  exact this.symm
theorem mod10_pow {D z : Nat} (h : (D * 10 ^ z) % 10 ≠ 0) : z = 0 := by
  rcases Nat.eq_zero_or_pos z with g | g
  · exact g
  · exfalso; apply h
    rw [show z = z - 1 + 1 by omega, Nat.pow_succ, ← Nat.mul_assoc, Nat.mul_mod_left]
theorem dv_uniq {D N m : Nat} {K k e : Int} (h1 : dv D K m e) (h2 : dv N k m e) (hD : D % 10 ≠ 0) : ∃ z : Nat, N = D * 10 ^ z ∧ K = k + z := by
  by_cases hk : k ≤ K
  · exact ⟨(K - k).toNat, dv_rel h1 h2 hk, by omega⟩
  · have := dv_rel h2 h1 (by omega)
    rw [this] at hD
    have := mod10_pow hD
    omega
