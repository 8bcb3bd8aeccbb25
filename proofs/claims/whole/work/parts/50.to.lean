/-! to -/
/-- whether a number is a long, and as what -/
def toFit (k sg m : Nat) (e : Int) : Bool := decide (k ≤ 2) && (decide (m = 0) || decide ((bl m : Int) + e < 64) || (decide (sg = 1) && decide ((bl m : Int) + e = 64) && decide (m = 2 ^ (bl m - 1))))
def toV (way sg m : Nat) (e : Int) : Nat :=
  if 0 ≤ e then m * 2 ^ e.toNat else m / 2 ^ (-e).toNat + (if gO way sg (m / 2 ^ (-e).toNat % 2 == 1) (m / 2 ^ ((-e).toNat - 1) % 2 == 1) (m % 2 ^ ((-e).toNat - 1) != 0) then 1 else 0)
theorem x8_fits {k sg m : Nat} {e : Int} (h : isV k sg m e) : f_X8_fitsLong (uI k) (uI sg) (uL m) (iI e) = some (bI (toFit k sg m e)) := by
  obtain ⟨hk, hs, hm, h1, h2, _⟩ := h
  have hb : bl m ≤ 53 := bl_le_of_lt hm
  unfold f_X8_fitsLong f_X8_isNumber toFit
  by_cases h3 : 3 ≤ k
  · rw [if_pos (by exact (uI_le (a := 3) (by omega) (by omega)).mpr h3), Option.bind_some, if_pos (by exact rfl), decide_eq_false (show ¬ k ≤ 2 by omega), Bool.false_and]; rfl
  · rw [if_neg (by exact fun x => h3 ((uI_le (a := 3) (by omega) (by omega)).mp x)), Option.bind_some, if_neg (by decide), decide_eq_true (show k ≤ 2 by omega), Bool.true_and]
    have hB : ∀ s0 : Bool, f_X8_fitsLong_B46 (uI k) (uI sg) (uL m) (iI e) (bI s0) = some (bI (decide (m = 0) || decide ((bl m : Int) + e < 64) || s0)) := by
      intro s0
      unfold f_X8_fitsLong_B46
      by_cases h0 : m = 0
      · rw [if_pos (by exact (uL_cmp0 (by omega)).mpr h0), decide_eq_true h0, Bool.true_or, Bool.true_or]; rfl
      · rw [if_neg (by exact fun x => h0 ((uL_cmp0 (by omega)).mp x)), x8_bits hm, Option.bind_some, iI_add, wI_64, decide_eq_false h0, Bool.false_or]
        by_cases hl : (bl m : Int) + e < 64
        · rw [if_pos (by exact (iI_lt (by omega) (by omega) (by omega) (by omega)).mpr hl), decide_eq_true hl, Bool.true_or]; rfl
        · rw [if_neg (by exact fun x => hl ((iI_lt (by omega) (by omega) (by omega) (by omega)).mp x)), decide_eq_false hl, Bool.false_or]
          cases s0
          · rw [if_pos (by decide)]; rfl
          · rw [if_neg (by decide)]; rfl
    unfold f_X8_fitsLong_B45
    have hsc : sg = 0 ∨ sg = 1 := by omega
    rcases hsc with rfl | rfl
    · rw [if_pos (by exact rfl), decide_eq_false (show ¬ (0 : Nat) = 1 by decide), Bool.false_and, Bool.false_and]
      exact hB false
    · rw [if_neg (by decide), x8_bits hm, Option.bind_some, iI_add, wI_64, decide_eq_true (rfl : (1 : Nat) = 1), Bool.true_and]
      by_cases h64 : (bl m : Int) + e = 64
      · rw [if_pos (by rw [h64]), decide_eq_true h64, Bool.true_and]
        obtain ⟨cnt, hcnt⟩ := pop_ex m (by omega)
        rw [hcnt, Option.bind_some]
        by_cases hpw : m = 2 ^ (bl m - 1)
        · have hone := one_pop ⟨bl m - 1, by omega⟩
          have hone' : f_J13_bitCount_95d88 (uL (2 ^ (bl m - 1))) = some (1 : Int32) := hone
          rw [← hpw, hcnt] at hone'
          rw [if_pos (by exact Option.some.inj hone'), decide_eq_true hpw]
          exact hB true
        · have hne : ¬ cnt = 1 := by
            intro hc1
            rw [hc1] at hcnt
            obtain ⟨q, hq⟩ := pop_one hm hcnt
            have hbq : bl m = q + 1 := by rw [hq]; exact bl_eq (Nat.le_refl _) (Nat.pow_lt_pow_right (by decide) (by omega))
            apply hpw
            rw [hbq, Nat.add_sub_cancel]; exact hq
          rw [if_neg (by exact hne), decide_eq_false hpw]
          exact hB false
      · rw [if_neg (by rw [iI_eq (by omega) (by omega) (by omega) (by omega)]; exact h64), decide_eq_false h64, Bool.false_and]
        exact hB false
theorem toV_cut {way sg m c : Nat} (hm : m < 2 ^ 53) (hc : 62 ≤ c) : (if gO way sg (m / 2 ^ c % 2 == 1) (m / 2 ^ (c - 1) % 2 == 1) (m % 2 ^ (c - 1) != 0) then 1 else 0) = (if gO way sg (m / 2 ^ 62 % 2 == 1) (m / 2 ^ 61 % 2 == 1) (m % 2 ^ 61 != 0) then 1 else 0) ∧ m / 2 ^ c = m / 2 ^ 62 := by
  have h1 : (2 : Nat) ^ 53 ≤ 2 ^ (c - 1) := Nat.pow_le_pow_right (by decide) (by omega)
  have h2 : (2 : Nat) ^ 53 ≤ 2 ^ c := Nat.pow_le_pow_right (by decide) (by omega)
  rw [Nat.div_eq_of_lt (show m < 2 ^ c by omega), Nat.div_eq_of_lt (show m < 2 ^ (c - 1) by omega), Nat.mod_eq_of_lt (show m < 2 ^ (c - 1) by omega), Nat.div_eq_of_lt (show m < 2 ^ 62 by omega), Nat.div_eq_of_lt (show m < 2 ^ 61 by omega), Nat.mod_eq_of_lt (show m < 2 ^ 61 by omega)]
  exact ⟨rfl, rfl⟩
theorem x8_asLong {sg m way : Nat} {e : Int} (hs : sg ≤ 1) (hm : m < 2 ^ 53) (h1 : -1074 ≤ e) (h2 : e < 64) (hw : way < 4) : f_X8_asLong (uI sg) (uL m) (iI e) (uI way) = some (if sg = 0 then uL (toV way sg m e) else -uL (toV way sg m e)) := by
  have hB134 : ∀ v, f_X8_asLong_B134 (uI sg) (uL m) (iI e) (uL v) = some (if sg = 0 then uL v else -uL v) := by
    intro v
    unfold f_X8_asLong_B134
    have hsc : sg = 0 ∨ sg = 1 := by omega
    rcases hsc with rfl | rfl <;> rfl
  unfold f_X8_asLong toV
  by_cases he : 0 ≤ e
  · rw [if_neg (by rw [wI_0, iI_lt (by omega) (by omega) (by omega) (by omega)]; omega), if_pos he, show iI e = uI e.toNat from by show iI _ = iI _; congr 1; omega, uL_lsh _ (by omega)]
    have := hB134 (m * 2 ^ e.toNat)
    rw [show iI e = uI e.toNat from by show iI _ = iI _; congr 1; omega] at this
    exact this
  · rw [if_pos (by rw [wI_0, iI_lt (by omega) (by omega) (by omega) (by omega)]; omega), if_neg he, iI_neg, wI_62, min_iI (by omega) (by omega) (by omega) (by omega), Option.bind_some]
    have hgen : ∀ c : Nat, 0 < c → c ≤ 62 → iI (min (-e) 62) = uI c → m / 2 ^ (-e).toNat = m / 2 ^ c → (if gO way sg (m / 2 ^ (-e).toNat % 2 == 1) (m / 2 ^ ((-e).toNat - 1) % 2 == 1) (m % 2 ^ ((-e).toNat - 1) != 0) then 1 else 0) = (if gO way sg (m / 2 ^ c % 2 == 1) (m / 2 ^ (c - 1) % 2 == 1) (m % 2 ^ (c - 1) != 0) then 1 else 0) →
        (if (lg_cmp (uL m &&& (lsh 1 (iI (min (-e) 62)) - 1)) (lsh 1 (iI (min (-e) 62) - 1))) < 0 then f_X8_asLong_B66 (uI sg) (uL m) (iI e) (uI way) (iI (min (-e) 62)) (uL m &&& (lsh 1 (iI (min (-e) 62)) - 1)) (lsh 1 (iI (min (-e) 62) - 1)) 0 else f_X8_asLong_B66 (uI sg) (uL m) (iI e) (uI way) (iI (min (-e) 62)) (uL m &&& (lsh 1 (iI (min (-e) 62)) - 1)) (lsh 1 (iI (min (-e) 62) - 1)) 1) = some (if sg = 0 then uL (m / 2 ^ (-e).toNat + (if gO way sg (m / 2 ^ (-e).toNat % 2 == 1) (m / 2 ^ ((-e).toNat - 1) % 2 == 1) (m % 2 ^ ((-e).toNat - 1) != 0) then 1 else 0)) else -uL (m / 2 ^ (-e).toNat + (if gO way sg (m / 2 ^ (-e).toNat % 2 == 1) (m / 2 ^ ((-e).toNat - 1) % 2 == 1) (m % 2 ^ ((-e).toNat - 1) != 0) then 1 else 0))) := by
      intro c hc0 hc hcI hd hgg
      have hpc : 2 ^ c = 2 ^ (c - 1) * 2 := by rw [← Nat.pow_succ]; congr 1; omega
      have hp0 : 0 < 2 ^ (c - 1) := Nat.two_pow_pos _
      have hc62 : 2 ^ c ≤ 2 ^ 62 := Nat.pow_le_pow_right (by decide) hc
      have em : lsh (1 : Int64) (uI c) - (1 : Int64) = uL (2 ^ c - 1) := by
        have e1 : lsh (1 : Int64) (uI c) = uL (1 * 2 ^ c) := uL_lsh 1 (by omega)
        rw [e1, Nat.one_mul]
        exact uL_sub (b := 1) (by omega)
      have emid : lsh (1 : Int64) (uI c - (1 : Int32)) = uL (2 ^ (c - 1)) := by
        rw [uI_pos_pred hc0]
        have e1 : lsh (1 : Int64) (uI (c - 1)) = uL (1 * 2 ^ (c - 1)) := uL_lsh 1 (by omega)
        rw [e1, Nat.one_mul]
      have hoff : m % 2 ^ c < 2 ^ c := Nat.mod_lt _ (by omega)
      have hq : m / 2 ^ c < 2 ^ 53 := Nat.lt_of_le_of_lt (Nat.div_le_self _ _) hm
      rw [hcI, em, emid, uL_maskk (by omega), hgg, hd]
      -- off by halves
      have hdm : m % 2 ^ c = 2 ^ (c - 1) * (m / 2 ^ (c - 1) % 2) + m % 2 ^ (c - 1) := by
        rw [hpc, Nat.mod_mul]; omega
      have hrl : m % 2 ^ (c - 1) < 2 ^ (c - 1) := Nat.mod_lt _ hp0
      have tail : ∀ half rest : Bool, f_X8_asLong_B88 (uI sg) (uL m) (iI e) (uI way) (uI c) (bI half) (bI rest) = some (if sg = 0 then uL (m / 2 ^ c + (if gO way sg (m / 2 ^ c % 2 == 1) half rest then 1 else 0)) else -uL (m / 2 ^ c + (if gO way sg (m / 2 ^ c % 2 == 1) half rest then 1 else 0))) := by
        intro half rest
        have h117 : ∀ odd : Bool, f_X8_asLong_B117 (uI sg) (uL m) (iI e) (bI half) (bI rest) (uL (m / 2 ^ c)) (uI way) (uI sg) (bI odd) = some (if sg = 0 then uL (m / 2 ^ c + (if gO way sg odd half rest then 1 else 0)) else -uL (m / 2 ^ c + (if gO way sg odd half rest then 1 else 0))) := by
          intro odd
          unfold f_X8_asLong_B117 f_X8_asLong_B132
          rw [x2_goesOn odd half rest hs hw, Option.bind_some]
          cases gO way sg odd half rest
          · rw [if_pos (by decide), show uL (m / 2 ^ c) + (0 : Int64) = uL (m / 2 ^ c + 0) from uL_add _ 0, hB134]; rfl
          · rw [if_neg (by decide), show uL (m / 2 ^ c) + (1 : Int64) = uL (m / 2 ^ c + 1) from uL_add _ 1, hB134]; rfl
        unfold f_X8_asLong_B88
        rw [uL_lus (by omega) (by omega), uL_mask1]
        have ho : m / 2 ^ c % 2 = 0 ∨ m / 2 ^ c % 2 = 1 := by omega
        rcases ho with ho | ho
        · rw [ho, if_pos (by exact (uL_cmp0 (by decide)).mpr rfl)]; exact h117 false
        · rw [ho, if_neg (by exact fun x => absurd ((uL_cmp0 (by decide)).mp x) (by decide))]; exact h117 true
      have h66 : ∀ half : Bool, f_X8_asLong_B66 (uI sg) (uL m) (iI e) (uI way) (uI c) (uL (m % 2 ^ c)) (uL (2 ^ (c - 1))) (bI half) = some (if sg = 0 then uL (m / 2 ^ c + (if gO way sg (m / 2 ^ c % 2 == 1) half (m % 2 ^ (c - 1) != 0) then 1 else 0)) else -uL (m / 2 ^ c + (if gO way sg (m / 2 ^ c % 2 == 1) half (m % 2 ^ (c - 1) != 0) then 1 else 0))) := by
        intro half
        unfold f_X8_asLong_B66 f_X8_asLong_B87
        have hb2 : m / 2 ^ (c - 1) % 2 = 0 ∨ m / 2 ^ (c - 1) % 2 = 1 := by omega
        by_cases hz : m % 2 ^ (c - 1) = 0
        · have e0 : (m % 2 ^ (c - 1) != 0) = false := by rw [hz]; rfl
          rw [e0]
          rcases hb2 with g | g
          · rw [if_pos (by exact (uL_cmp0 (by omega)).mpr (by rw [hdm, g, hz]; omega))]; exact tail half false
          · have hne : ¬ m % 2 ^ c = 0 := by rw [hdm, g]; omega
            rw [if_neg (by exact fun x => hne ((uL_cmp0 (by omega)).mp x)), if_pos (by exact (uL_ceq (by omega) (by omega)).mpr (by rw [hdm, g, hz]; omega))]; exact tail half false
        · have e0 : (m % 2 ^ (c - 1) != 0) = true := by rw [bne_iff_ne]; exact hz
          have hne0 : ¬ m % 2 ^ c = 0 := by rw [hdm]; omega
          have hne1 : ¬ m % 2 ^ c = 2 ^ (c - 1) := by rw [hdm]; rcases hb2 with g | g <;> rw [g] <;> omega
          rw [e0, if_neg (by exact fun x => hne0 ((uL_cmp0 (by omega)).mp x)), if_neg (by exact fun x => hne1 ((uL_ceq (by omega) (by omega)).mp x))]
          exact tail half true
      have hb2 : m / 2 ^ (c - 1) % 2 = 0 ∨ m / 2 ^ (c - 1) % 2 = 1 := by omega
      rcases hb2 with g | g
      · rw [if_pos (by exact (uL_clt (by omega) (by omega)).mpr (by rw [hdm, g]; omega)), g]; exact h66 false
      · have hge : ¬ m % 2 ^ c < 2 ^ (c - 1) := by rw [hdm, g]; omega
        rw [if_neg (by exact fun x => hge ((uL_clt (by omega) (by omega)).mp x)), g]; exact h66 true
    by_cases hc : -e ≤ 62
    · exact hgen (-e).toNat (by omega) (by omega) (by show iI _ = iI _; congr 1; omega) rfl rfl
    · have hcut := toV_cut (way := way) (sg := sg) hm (show 62 ≤ (-e).toNat by omega)
      exact hgen 62 (by omega) (by omega) (by show iI _ = iI _; congr 1; omega) hcut.2 hcut.1
theorem x11_isMore {d way sg : Nat} (odd : Bool) (hd : d < 4) (hs : sg ≤ 1) (hw : way < 4) : f_X11_isMore (uI d) (bI odd) (uI way) (uI sg) = some (bI (gO way sg odd (decide (2 ≤ d)) (d % 2 == 1))) := by
  have key : ∀ d : Fin 4, ∀ sg : Fin 2, ∀ way : Fin 4, ∀ odd : Bool, f_X11_isMore (uI d.val) (bI odd) (uI way.val) (uI sg.val) = some (bI (gO way.val sg.val odd (decide (2 ≤ d.val)) (d.val % 2 == 1))) := by decide +kernel
  exact key ⟨d, hd⟩ ⟨sg, by omega⟩ ⟨way, hw⟩ odd
theorem x11_toL {V n : Nat} {D : Nat → Int32} (F : Nat → Int32) (G : Nat → Int64) (hV : V < 18446744073709551616) (hn : n ≤ 520) (hd : ∀ j, j < n → D j = uI (V / 1073741824 ^ j % 1073741824)) (k0 m0 : Int32) (l0 : Int64) (e0 th sz r1 : Int32) (r2 : Nat → Int32) :
    ∀ k fuel, k ≤ n → k < fuel → f_X11_to_L186 F G fuel (uL (V / 1073741824 ^ k)) (iI ((k : Int) - 1)) k0 m0 l0 e0 th sz D r1 r2 = f_X11_to_B216 F G (uL V) k0 m0 l0 e0 th sz D r1 r2 := by
  intro k
  induction k with
  | zero =>
    intro fuel hk hf
    obtain ⟨m, rfl, _⟩ := ex_succ hf
    rw [f_X11_to_L186, if_pos (by rw [wI_0, iI_lt (by omega) (by omega) (by omega) (by omega)]; omega), Nat.pow_zero, Nat.div_one]
  | succ k ih =>
    intro fuel hk hf
    obtain ⟨m, rfl, hm⟩ := ex_succ hf
    have e1 : iI (((k + 1 : Nat) : Int) - 1) = uI k := by congr 1; omega
    have e2 : uI k + (-1 : Int32) = iI ((k : Int) - 1) := by rw [wI_m1, iI_add]; rfl
    have hdn := dg_down (B := 1073741824) (v := V) (i := k)
    have hdq : V / 1073741824 ^ k % 1073741824 < 1073741824 := Nat.mod_lt _ (by decide)
    have hq : V / 1073741824 ^ k < 18446744073709551616 := Nat.lt_of_le_of_lt (Nat.div_le_self _ _) hV
    rw [e1, f_X11_to_L186, if_neg (uI_nneg (by omega)), if_pos (by exact (uI_vIn (by omega)).mpr (by omega)), uI_clamp (by omega), hd k (by omega), uI_toL (by omega), show (30 : Int32) = uI 30 from rfl, uL_lsh _ (by decide), lor_add (k := 30) (by omega) (by omega), e2]
    have e3 : V / 1073741824 ^ (k + 1) * 2 ^ 30 + V / 1073741824 ^ k % 1073741824 = V / 1073741824 ^ k := by omega
    rw [e3]
    exact ih m (by omega) (by omega)
theorem x11_toB128 {V sg : Nat} {sz : Int32} {D : Nat → Int32} (F : Nat → Int32) (G : Nat → Int64) (h : R30 sz D V) (hs : sg ≤ 1) (k0 : Int32) (l0 : Int64) (e0 th r1 : Int32) (r2 : Nat → Int32) :
    ∃ x, f_X11_to_B128 F G k0 (uI sg) l0 e0 th sz D r1 r2 = some (if V > 2 ^ 63 ∨ (V = 2 ^ 63 ∧ sg = 0) then (0 : Int64) else (if sg = 0 then uL V else -uL V), k0, uI sg, l0, e0, if V > 2 ^ 63 ∨ (V = 2 ^ 63 ∧ sg = 0) then (3 : Int32) else th, x) := by
  unfold f_X11_to_B128 f_X11_to_B172
  obtain ⟨s1, D1, h1, h2⟩ := x10_set r1 r2 (u := 2 ^ 63) (by decide)
  have hk : kMin = uL (2 ^ 63) := by decide
  rw [hk, h1, Option.bind_some, x10_cmp h h2, Option.bind_some]
  obtain ⟨n, hn, rfl, hv, hl, hd⟩ := h
  have hgo : V ≤ 2 ^ 63 → ∃ x, f_X11_to_L186 F G FU 0 (uI n - 1) k0 (uI sg) l0 e0 th (uI n) D s1 D1 = some (if sg = 0 then uL V else -uL V, k0, uI sg, l0, e0, th, x) := by
    intro hle
    have := x11_toL F G (V := V) (by omega) hn hd k0 (uI sg) l0 e0 th (uI n) s1 D1 n FU (Nat.le_refl _) (by rw [hFU]; omega)
    rw [Nat.div_eq_of_lt hv] at this
    have this' : f_X11_to_L186 F G FU (0 : Int64) (iI ((n : Int) - 1)) k0 (uI sg) l0 e0 th (uI n) D s1 D1 = _ := this
    rw [wI_1, iI_sub, this']
    unfold f_X11_to_B216
    have hsc : sg = 0 ∨ sg = 1 := by omega
    rcases hsc with rfl | rfl
    · rw [if_neg (by decide), if_pos rfl]; exact ⟨_, rfl⟩
    · rw [if_pos (by decide), if_neg (by decide)]; exact ⟨_, rfl⟩
  by_cases hgt : V > 2 ^ 63
  · rw [if_pos (by exact (cmp_iI_gt _ _).mpr hgt), if_pos (Or.inl hgt), if_pos (Or.inl hgt)]; exact ⟨_, rfl⟩
  · rw [if_neg (by exact fun x => hgt ((cmp_iI_gt _ _).mp x))]
    by_cases heq : V = 2 ^ 63
    · rw [if_pos (by exact (cmp_iI_eq _ _).mpr heq)]
      have hsc : sg = 0 ∨ sg = 1 := by omega
      rcases hsc with rfl | rfl
      · rw [if_pos (by exact rfl), if_pos (Or.inr ⟨heq, rfl⟩), if_pos (Or.inr ⟨heq, rfl⟩)]; exact ⟨_, rfl⟩
      · have hno : ¬ (V > 2 ^ 63 ∨ (V = 2 ^ 63 ∧ 1 = 0)) := by rintro (x | ⟨_, x⟩); exact hgt x; cases x
        rw [if_neg (by decide), if_neg hno, if_neg hno]; exact hgo (by omega)
    · have hno : ¬ (V > 2 ^ 63 ∨ (V = 2 ^ 63 ∧ sg = 0)) := by rintro (x | ⟨x, _⟩); exact hgt x; exact heq x
      rw [if_neg (by exact fun x => heq ((cmp_iI_eq _ _).mp x)), if_neg hno, if_neg hno]; exact hgo (by omega)
/-- what fits is what isn't refused -/
theorem to_fit {k sg m way : Nat} {e : Int} (h : isV k sg m e) (hk : k ≤ 2) (he : e ≤ 64) : toFit k sg m e = false ↔ (toV way sg m e > 2 ^ 63 ∨ (toV way sg m e = 2 ^ 63 ∧ sg = 0)) := by
  obtain ⟨_, hs, hm, h1, h2, z, nz, _⟩ := h
  have hb : bl m ≤ 53 := bl_le_of_lt hm
  unfold toFit toV
  rw [decide_eq_true hk, Bool.true_and]
  by_cases hneg : 0 ≤ e
  · rw [if_pos hneg]
    by_cases h0 : m = 0
    · subst h0
      rw [decide_eq_true rfl, Nat.zero_mul]
      constructor
      · intro x; cases x
      · intro x; omega
    · have hbm := bl_mul (k := e.toNat) h0
      have hpos : m * 2 ^ e.toNat ≠ 0 := Nat.mul_ne_zero h0 (by have := Nat.two_pow_pos e.toNat; omega)
      rw [decide_eq_false h0, Bool.false_or]
      by_cases hl : (bl m : Int) + e < 64
      · have hlt : m * 2 ^ e.toNat < 2 ^ 63 := lt_of_bl_le (by omega)
        rw [decide_eq_true hl, Bool.true_or]
        constructor
        · intro x; cases x
        · intro x; omega
      · rw [decide_eq_false hl, Bool.false_or]
        have hge : 2 ^ 63 ≤ m * 2 ^ e.toNat := by
          apply Nat.le_of_not_lt
          intro hlt
          have := bl_le_of_lt hlt
          omega
        by_cases h64 : (bl m : Int) + e = 64
        · rw [decide_eq_true h64, Bool.and_true]
          have heq : m = 2 ^ (bl m - 1) ↔ m * 2 ^ e.toNat = 2 ^ 63 := by
            have e63 : (2 : Nat) ^ 63 = 2 ^ (bl m - 1) * 2 ^ e.toNat := by
              rw [← Nat.pow_add]; congr 1
              have := bl_pos h0
              omega
            rw [e63]
            exact (Nat.mul_left_inj (show 2 ^ e.toNat ≠ 0 by have := Nat.two_pow_pos e.toNat; omega)).symm
          by_cases hpw : m = 2 ^ (bl m - 1)
          · have hq := heq.mp hpw
            rw [decide_eq_true hpw, Bool.and_true, hq]
            have hsc : sg = 0 ∨ sg = 1 := by omega
            rcases hsc with rfl | rfl
            · constructor
              · intro _; exact Or.inr ⟨rfl, rfl⟩
              · intro _; rfl
            · constructor
              · intro x; cases x
              · intro x; omega
          · have hq : m * 2 ^ e.toNat ≠ 2 ^ 63 := fun x => hpw (heq.mpr x)
            rw [decide_eq_false hpw, Bool.and_false]
            constructor
            · intro _; left; omega
            · intro _; rfl
        · rw [decide_eq_false h64, Bool.and_false, Bool.false_and]
          have hgt : m * 2 ^ e.toNat > 2 ^ 63 := by
            apply Nat.lt_of_not_le
            intro hle
            have := bl_le_of_lt (n := m * 2 ^ e.toNat) (k := 64) (by omega)
            omega
          constructor
          · intro _; exact Or.inl hgt
          · intro _; rfl
  · rw [if_neg hneg, decide_eq_true (show (bl m : Int) + e < 64 by omega), Bool.or_true, Bool.true_or]
    have hq : m / 2 ^ (-e).toNat < 2 ^ 53 := Nat.lt_of_le_of_lt (Nat.div_le_self _ _) hm
    constructor
    · intro x; cases x
    · intro x
      exfalso
      split at x <;> omega
theorem k_to {F : Nat → Int32} {G : Nat → Int64} (h : wfp F G) (p1 : Int32) (p2 : Int32) (c_first_kind : Int32) (c_first_minus : Int32) (c_first_m : Int64) (c_first_e : Int32) (c_first_narrowBelow : Int32) (r_kind : Int32) (r_minus : Int32) (r_m : Int64) (r_e : Int32) (r_thrown : Int32) (r_left_len : Int32) (r_left_d : Nat → Int32) (r_right_len : Int32) (r_right_d : Nat → Int32) :
    (∃ n, (n = 1 ∨ n = 2 ∨ n = 3) ∧ (∃ x, f_X9_to F G p1 p2 c_first_kind c_first_minus c_first_m c_first_e c_first_narrowBelow = some (.inl (n, x))) ∧ (∃ v k m l e y, f_X11_to F G p1 p2 r_kind r_minus r_m r_e r_thrown r_left_len r_left_d r_right_len r_right_d = some (v, k, m, l, e, uI n, y))) ∨
    (∃ v, (∃ x, f_X9_to F G p1 p2 c_first_kind c_first_minus c_first_m c_first_e c_first_narrowBelow = some (.inr (v, x))) ∧ (∃ k m l e y, f_X11_to F G p1 p2 r_kind r_minus r_m r_e r_thrown r_left_len r_left_d r_right_len r_right_d = some (v, k, m, l, e, 0, y))) := by
  rcases pl_cases p1 with ⟨a, ha, rfl, a1, a2⟩ | ⟨a1, a2⟩
  · rcases wy_cases p2 with ⟨w, hw, rfl, b1, b2⟩ | ⟨b1, b2⟩
    · obtain ⟨f1, s1, t1, g1, g2, g3, g4, g5⟩ := h a ha
      have hV := isV_of g1 g2 g3
      have hfit := x8_fits hV
      have hV2 := hV
      obtain ⟨hk, _, hm, h11, h12, z0, nz, big⟩ := hV2
      have hclbad : toFit (vK f1 t1) s1 (vM f1 t1) (vE f1 t1) = false → f_X9_to F G (uI a) (uI w) c_first_kind c_first_minus c_first_m c_first_e c_first_narrowBelow = some (.inl (3, uI (vK f1 t1), uI s1, uL (vM f1 t1), iI (vE f1 t1), bI (vN f1 t1))) := by
        intro hno
        rw [hno] at hfit
        have hfit' : f_X8_fitsLong (uI (vK f1 t1)) (uI s1) (uL (vM f1 t1)) (iI (vE f1 t1)) = some (0 : Int32) := hfit
        unfold f_X9_to
        simp only [a1, b1, Option.bind_some, sm, Sum.elim_inl, Sum.elim_inr, i00, i10, i20, if_true, if_false, go0, go10, go11, x9_look ha g4 g5 g1 g2 g3, hfit']
      have hclgood : toFit (vK f1 t1) s1 (vM f1 t1) (vE f1 t1) = true → vE f1 t1 < 64 → f_X9_to F G (uI a) (uI w) c_first_kind c_first_minus c_first_m c_first_e c_first_narrowBelow = some (.inr (if s1 = 0 then uL (toV w s1 (vM f1 t1) (vE f1 t1)) else -uL (toV w s1 (vM f1 t1) (vE f1 t1)), uI (vK f1 t1), uI s1, uL (vM f1 t1), iI (vE f1 t1), bI (vN f1 t1))) := by
        intro hyes he
        rw [hyes] at hfit
        have hfit' : f_X8_fitsLong (uI (vK f1 t1)) (uI s1) (uL (vM f1 t1)) (iI (vE f1 t1)) = some (1 : Int32) := hfit
        unfold f_X9_to
        simp only [a1, b1, Option.bind_some, sm, Sum.elim_inl, Sum.elim_inr, i00, i10, i20, if_true, if_false, go0, go10, go11, x9_look ha g4 g5 g1 g2 g3, hfit', x8_asLong g2 hm h11 he hw]
      have hrf : f_X11_to F G (uI a) (uI w) r_kind r_minus r_m r_e r_thrown r_left_len r_left_d r_right_len r_right_d = (if (2 : Int32) < uI (vK f1 t1) then some ((0 : Int64), uI (vK f1 t1), uI s1, uL (vM f1 t1), iI (vE f1 t1), (3 : Int32), r_left_len, r_left_d, r_right_len, r_right_d) else if iI (vE f1 t1) ≤ (64 : Int32) then (f_X10_set (uL (vM f1 t1)) r_left_len r_left_d).bind fun u9 => if iI (vE f1 t1) < 0 then (f_X10_drop (-iI (vE f1 t1)) u9.1 u9.2).bind fun u11 => (f_X10_bit u11.2.1 u11.2.2 0).bind fun u13 => if u13 = 1 then f_X11_to_B109 F G (uI w) u11.1 1 (uI (vK f1 t1)) (uI s1) (uL (vM f1 t1)) (iI (vE f1 t1)) 0 u11.2.1 u11.2.2 r_right_len r_right_d else f_X11_to_B109 F G (uI w) u11.1 0 (uI (vK f1 t1)) (uI s1) (uL (vM f1 t1)) (iI (vE f1 t1)) 0 u11.2.1 u11.2.2 r_right_len r_right_d else (f_X10_shift (iI (vE f1 t1)) u9.1 u9.2).bind fun u31 => f_X11_to_B128 F G (uI (vK f1 t1)) (uI s1) (uL (vM f1 t1)) (iI (vE f1 t1)) 0 u31.1 u31.2 r_right_len r_right_d else some ((0 : Int64), uI (vK f1 t1), uI s1, uL (vM f1 t1), iI (vE f1 t1), (3 : Int32), r_left_len, r_left_d, r_right_len, r_right_d)) := by
        unfold f_X11_to
        simp only [a2, b2, Option.bind_some, sm, Sum.elim_inl, Sum.elim_inr, i00, i10, i20, if_true, if_false, go0, go10, go11, x11_look ha g4 g5 g1 g2 g3]
      rw [hrf]
      by_cases hk3 : 2 < vK f1 t1
      · left
        refine ⟨3, Or.inr (Or.inr rfl), ⟨_, hclbad (by unfold toFit; rw [decide_eq_false (by omega), Bool.false_and])⟩, ?_⟩
        rw [if_pos (by exact (uI_lt (a := 2) (by omega) (by omega)).mpr hk3)]; exact ⟨_, _, _, _, _, _, rfl⟩
      · rw [if_neg (by exact fun x => hk3 ((uI_lt (a := 2) (by omega) (by omega)).mp x))]
        by_cases he64 : vE f1 t1 ≤ 64
        · rw [if_pos (by rw [wI_64, iI_le (by omega) (by omega) (by omega) (by omega)]; exact he64)]
          obtain ⟨sa, Da, y1, y2⟩ := x10_set r_left_len r_left_d (u := vM f1 t1) (by omega)
          have hmb : bl (vM f1 t1) ≤ 53 := bl_le_of_lt hm
          have htf := to_fit (way := w) hV (by omega) he64
          -- the reference comes to B128 with the value
          have hmain : ∃ x, ((f_X10_set (uL (vM f1 t1)) r_left_len r_left_d).bind fun u9 => if iI (vE f1 t1) < 0 then (f_X10_drop (-iI (vE f1 t1)) u9.1 u9.2).bind fun u11 => (f_X10_bit u11.2.1 u11.2.2 0).bind fun u13 => if u13 = 1 then f_X11_to_B109 F G (uI w) u11.1 1 (uI (vK f1 t1)) (uI s1) (uL (vM f1 t1)) (iI (vE f1 t1)) 0 u11.2.1 u11.2.2 r_right_len r_right_d else f_X11_to_B109 F G (uI w) u11.1 0 (uI (vK f1 t1)) (uI s1) (uL (vM f1 t1)) (iI (vE f1 t1)) 0 u11.2.1 u11.2.2 r_right_len r_right_d else (f_X10_shift (iI (vE f1 t1)) u9.1 u9.2).bind fun u31 => f_X11_to_B128 F G (uI (vK f1 t1)) (uI s1) (uL (vM f1 t1)) (iI (vE f1 t1)) 0 u31.1 u31.2 r_right_len r_right_d) = some (if toV w s1 (vM f1 t1) (vE f1 t1) > 2 ^ 63 ∨ (toV w s1 (vM f1 t1) (vE f1 t1) = 2 ^ 63 ∧ s1 = 0) then (0 : Int64) else (if s1 = 0 then uL (toV w s1 (vM f1 t1) (vE f1 t1)) else -uL (toV w s1 (vM f1 t1) (vE f1 t1))), uI (vK f1 t1), uI s1, uL (vM f1 t1), iI (vE f1 t1), if toV w s1 (vM f1 t1) (vE f1 t1) > 2 ^ 63 ∨ (toV w s1 (vM f1 t1) (vE f1 t1) = 2 ^ 63 ∧ s1 = 0) then (3 : Int32) else 0, x) := by
            rw [y1, Option.bind_some]
            by_cases hneg : 0 ≤ vE f1 t1
            · have hbs := bl_shift_le (vM f1 t1) (vE f1 t1).toNat
              obtain ⟨sb, Db, y3, y4⟩ := x10_shift y2 (s := (vE f1 t1).toNat) (by omega) (p519' (k := 200) (by omega) (by omega))
              have y3' : f_X10_shift (iI (vE f1 t1)) (sa, Da).1 (sa, Da).2 = some (sb, Db) := by
                rw [show iI (vE f1 t1) = uI (vE f1 t1).toNat from by show iI _ = iI _; congr 1; omega]; exact y3
              rw [if_neg (by rw [wI_0, iI_lt (by omega) (by omega) (by omega) (by omega)]; omega), y3', Option.bind_some]
              have hv : toV w s1 (vM f1 t1) (vE f1 t1) = vM f1 t1 * 2 ^ (vE f1 t1).toNat := by unfold toV; rw [if_pos hneg]
              rw [hv]
              exact x11_toB128 F G y4 g2 _ _ _ 0 r_right_len r_right_d
            · obtain ⟨sb, Db, y3, y4⟩ := x10_drop (c := (-vE f1 t1).toNat) y2 (by omega) (by omega)
              have y3' : f_X10_drop (-iI (vE f1 t1)) (sa, Da).1 (sa, Da).2 = some (uI (2 * (vM f1 t1 / 2 ^ ((-vE f1 t1).toNat - 1) % 2) + if vM f1 t1 % 2 ^ ((-vE f1 t1).toNat - 1) = 0 then 0 else 1), sb, Db) := by
                rw [iI_neg, show iI (-vE f1 t1) = uI (-vE f1 t1).toNat from by show iI _ = iI _; congr 1; omega]; exact y3
              rw [if_pos (by rw [wI_0, iI_lt (by omega) (by omega) (by omega) (by omega)]; omega), y3', Option.bind_some]
              have hbit := x10_bit y4 (i := 0) (by omega)
              rw [Nat.pow_zero, Nat.div_one] at hbit
              have hbit' : f_X10_bit sb Db (0 : Int32) = some (uI (vM f1 t1 / 2 ^ (-vE f1 t1).toNat % 2)) := hbit
              have hv : toV w s1 (vM f1 t1) (vE f1 t1) = vM f1 t1 / 2 ^ (-vE f1 t1).toNat + (if gO w s1 (vM f1 t1 / 2 ^ (-vE f1 t1).toNat % 2 == 1) (vM f1 t1 / 2 ^ ((-vE f1 t1).toNat - 1) % 2 == 1) (vM f1 t1 % 2 ^ ((-vE f1 t1).toNat - 1) != 0) then 1 else 0) := by unfold toV; rw [if_neg hneg]
              rw [hv]
              have hq53 : vM f1 t1 / 2 ^ (-vE f1 t1).toNat < 2 ^ 53 := Nat.lt_of_le_of_lt (Nat.div_le_self _ _) hm
              have hb2 : vM f1 t1 / 2 ^ ((-vE f1 t1).toNat - 1) % 2 = 0 ∨ vM f1 t1 / 2 ^ ((-vE f1 t1).toNat - 1) % 2 = 1 := by omega
              generalize hdd : 2 * (vM f1 t1 / 2 ^ ((-vE f1 t1).toNat - 1) % 2) + (if vM f1 t1 % 2 ^ ((-vE f1 t1).toNat - 1) = 0 then 0 else 1) = d
              have hd4 : d < 4 := by rw [← hdd]; split <;> omega
              have hhalf : decide (2 ≤ d) = (vM f1 t1 / 2 ^ ((-vE f1 t1).toNat - 1) % 2 == 1) := by
                rw [← hdd, Bool.eq_iff_iff, decide_eq_true_iff, beq_iff_eq]; split <;> omega
              have hrest : (d % 2 == 1) = (vM f1 t1 % 2 ^ ((-vE f1 t1).toNat - 1) != 0) := by
                rw [← hdd, Bool.eq_iff_iff, beq_iff_eq, bne_iff_ne]
                by_cases hz : vM f1 t1 % 2 ^ ((-vE f1 t1).toNat - 1) = 0
                · rw [if_pos hz]; constructor
                  · intro x; omega
                  · intro x; exact absurd hz x
                · rw [if_neg hz]; constructor
                  · intro _; exact hz
                  · intro _; omega
              rw [← hhalf, ← hrest]
              have hB109 : ∀ odd : Bool, ∃ x, f_X11_to_B109 F G (uI w) (uI d) (bI odd) (uI (vK f1 t1)) (uI s1) (uL (vM f1 t1)) (iI (vE f1 t1)) 0 sb Db r_right_len r_right_d = some (if vM f1 t1 / 2 ^ (-vE f1 t1).toNat + (if gO w s1 odd (decide (2 ≤ d)) (d % 2 == 1) then 1 else 0) > 2 ^ 63 ∨ (vM f1 t1 / 2 ^ (-vE f1 t1).toNat + (if gO w s1 odd (decide (2 ≤ d)) (d % 2 == 1) then 1 else 0) = 2 ^ 63 ∧ s1 = 0) then (0 : Int64) else (if s1 = 0 then uL (vM f1 t1 / 2 ^ (-vE f1 t1).toNat + (if gO w s1 odd (decide (2 ≤ d)) (d % 2 == 1) then 1 else 0)) else -uL (vM f1 t1 / 2 ^ (-vE f1 t1).toNat + (if gO w s1 odd (decide (2 ≤ d)) (d % 2 == 1) then 1 else 0))), uI (vK f1 t1), uI s1, uL (vM f1 t1), iI (vE f1 t1), if vM f1 t1 / 2 ^ (-vE f1 t1).toNat + (if gO w s1 odd (decide (2 ≤ d)) (d % 2 == 1) then 1 else 0) > 2 ^ 63 ∨ (vM f1 t1 / 2 ^ (-vE f1 t1).toNat + (if gO w s1 odd (decide (2 ≤ d)) (d % 2 == 1) then 1 else 0) = 2 ^ 63 ∧ s1 = 0) then (3 : Int32) else 0, x) := by
                intro odd
                unfold f_X11_to_B109
                rw [x11_isMore odd hd4 g2 hw, Option.bind_some]
                cases gO w s1 odd (decide (2 ≤ d)) (d % 2 == 1)
                · rw [if_pos (by decide)]
                  exact x11_toB128 F G y4 g2 _ _ _ 0 r_right_len r_right_d
                · have hroom : vM f1 t1 / 2 ^ (-vE f1 t1).toNat + 1 < 1073741824 ^ 520 := by
                    have : (2 : Nat) ^ 60 ≤ 1073741824 ^ 520 := by rw [p_pow]; exact Nat.pow_le_pow_right (by decide) (by decide)
                    omega
                  obtain ⟨sc, Dc, y5, y6⟩ := x10_small y4 (x := 1) (by decide) hroom
                  have y5' : f_X10_addSmall (1 : Int32) sb Db = some (sc, Dc) := y5
                  rw [if_neg (by decide), y5', Option.bind_some]
                  exact x11_toB128 F G y6 g2 _ _ _ 0 r_right_len r_right_d
              have hbit2 : f_X10_bit (uI d, sb, Db).2.1 (uI d, sb, Db).2.2 (0 : Int32) = some (uI (vM f1 t1 / 2 ^ (-vE f1 t1).toNat % 2)) := hbit'
              rw [hbit2, Option.bind_some]
              have ho : vM f1 t1 / 2 ^ (-vE f1 t1).toNat % 2 = 0 ∨ vM f1 t1 / 2 ^ (-vE f1 t1).toNat % 2 = 1 := by omega
              rcases ho with ho | ho
              · rw [ho, if_neg (by decide)]; exact hB109 false
              · rw [ho, if_pos (by decide)]; exact hB109 true
          obtain ⟨x, hx⟩ := hmain
          rw [hx]
          cases hft : toFit (vK f1 t1) s1 (vM f1 t1) (vE f1 t1)
          · left
            have hcond := htf.mp hft
            refine ⟨3, Or.inr (Or.inr rfl), ⟨_, hclbad hft⟩, ?_⟩
            rw [if_pos hcond, if_pos hcond]; exact ⟨_, _, _, _, _, _, rfl⟩
          · right
            have hcond : ¬ (toV w s1 (vM f1 t1) (vE f1 t1) > 2 ^ 63 ∨ (toV w s1 (vM f1 t1) (vE f1 t1) = 2 ^ 63 ∧ s1 = 0)) := fun x => by rw [htf.mpr x] at hft; cases hft
            have he : vE f1 t1 < 64 := by
              apply Classical.byContradiction
              intro hge
              have h64 : vE f1 t1 = 64 := by omega
              by_cases hm0 : vM f1 t1 = 0
              · have : vK f1 t1 = 0 := by
                  apply Classical.byContradiction
                  intro hne
                  exact nz (by omega) hm0
                -- a nought has the lowest power
                unfold vK at this
                unfold vE at h64
                have hlo := fLo_bd f1
                split at h64
                · omega
                · rename_i hne
                  rw [if_neg hne] at this
                  split at this
                  · rename_i hz
                    unfold stE at h64
                    rw [hz] at h64
                    omega
                  · cases this
              · have hb := bl_pos hm0
                unfold toFit at hft
                rw [decide_eq_false hm0, decide_eq_false (show ¬ ((bl (vM f1 t1) : Int) + vE f1 t1 < 64) by omega), decide_eq_false (show ¬ ((bl (vM f1 t1) : Int) + vE f1 t1 = 64) by omega)] at hft
                simp at hft
            rw [if_neg hcond, if_neg hcond]
            exact ⟨_, ⟨_, hclgood hft he⟩, ⟨_, _, _, _, _, rfl⟩⟩
        · left
          rw [if_neg (by rw [wI_64, iI_le (by omega) (by omega) (by omega) (by omega)]; exact he64)]
          have hm0 : vM f1 t1 ≠ 0 := by
            intro hm0
            have hk0 : vK f1 t1 = 0 := by
              apply Classical.byContradiction
              intro hne
              exact nz (by omega) hm0
            unfold vK at hk0
            have hlo := fLo_bd f1
            unfold vE at he64
            split at he64
            · omega
            · rename_i hne
              rw [if_neg hne] at hk0
              split at hk0
              · rename_i hz
                unfold stE at he64
                rw [hz] at he64
                omega
              · cases hk0
          have hb := bl_pos hm0
          refine ⟨3, Or.inr (Or.inr rfl), ⟨_, hclbad ?_⟩, ⟨_, _, _, _, _, _, rfl⟩⟩
          unfold toFit
          rw [decide_eq_false hm0, decide_eq_false (show ¬ ((bl (vM f1 t1) : Int) + vE f1 t1 < 64) by omega), decide_eq_false (show ¬ ((bl (vM f1 t1) : Int) + vE f1 t1 = 64) by omega)]
          simp
    · left
      refine ⟨2, Or.inr (Or.inl rfl), ⟨(c_first_kind, c_first_minus, c_first_m, c_first_e, c_first_narrowBelow), ?_⟩, ?_⟩
      · unfold f_X9_to; simp only [a1, b1, Option.bind_some, sm, Sum.elim_inl, Sum.elim_inr, i00, i10, i20, if_true, if_false, go0, go10, go11]
      · unfold f_X11_to; simp only [a2, b2, Option.bind_some, sm, Sum.elim_inl, Sum.elim_inr, i00, i10, i20, if_true, if_false, go0, go10, go11]; exact ⟨_, _, _, _, _, _, rfl⟩
  · left
    refine ⟨1, Or.inl rfl, ⟨(c_first_kind, c_first_minus, c_first_m, c_first_e, c_first_narrowBelow), ?_⟩, ?_⟩
    · unfold f_X9_to; simp only [a1, Option.bind_some, sm, Sum.elim_inl, Sum.elim_inr, i00, i10, i20, if_true, if_false, go0, go10, go11]
    · unfold f_X11_to
      rcases wy_cases p2 with ⟨_, _, _, _, b2⟩ | ⟨_, b2⟩
      · simp only [a2, b2, Option.bind_some, sm, Sum.elim_inl, Sum.elim_inr, i00, i10, i20, if_true, if_false, go0, go10, go11]; exact ⟨_, _, _, _, _, _, rfl⟩
      · simp only [a2, b2, Option.bind_some, sm, Sum.elim_inl, Sum.elim_inr, i00, i10, i20, if_true, if_false, go0, go10, go11]; exact ⟨_, _, _, _, _, _, rfl⟩
