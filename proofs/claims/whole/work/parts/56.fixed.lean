/-! the reference's putFixed and putExact -/
/-- how many figures -/
def dcP (N c : Nat) : Prop := N < 10 ^ c ∧ (c = 0 ∨ 10 ^ (c - 1) ≤ N)
theorem dc_uniq {N a b : Nat} (ha : dcP N a) (hb : dcP N b) : a = b := by
  have key : ∀ x y, dcP N x → dcP N y → ¬ x < y := by
    intro x y hx hy h
    rcases hy.2 with g | g
    · omega
    · have : 10 ^ x ≤ 10 ^ (y - 1) := Nat.pow_le_pow_right (by decide) (by omega)
      have := hx.1
      omega
  have h1 := key a b ha hb
  have h2 := key b a hb ha
  omega
theorem dc_scale {N c : Nat} (z : Nat) (h : dcP N c) (h0 : 0 < c) : dcP (N * 10 ^ z) (c + z) := by
  refine ⟨?_, Or.inr ?_⟩
  · rw [Nat.pow_add]; exact Nat.mul_lt_mul_of_pos_right h.1 (ten_pos z)
  · rw [show c + z - 1 = c - 1 + z by omega, Nat.pow_add]
    rcases h.2 with g | g
    · omega
    · exact Nat.mul_le_mul_right _ g
theorem dc_zero {c : Nat} (h : dcP 0 c) : c = 0 := by
  rcases h.2 with g | g
  · exact g
  · have := ten_pos (c - 1); omega
theorem dc_pos {N c : Nat} (h : dcP N c) (h0 : N ≠ 0) : 0 < c := by
  rcases Nat.eq_zero_or_pos c with rfl | g
  · have := h.1; rw [Nat.pow_zero] at this; omega
  · exact g
theorem tl_dc {N c : Nat} {fg : Nat → Int32} (h : tlOK N c fg) : dcP N c := ⟨h.2.1, h.2.2.1⟩
theorem x11_fix136 {Z c n : Nat} {fg : Nat → Int32} (h : tlOK Z c fg) (hn : n ≤ 60) (sg : Int32) (m : Int64) (e ll : Int32) (ld : Nat → Int32) (wl : Int32) (wd : Nat → Int32) : ∀ j fuel l len B, j < fuel → j ≤ 1300 → shOK l len B → l.length + j + 1 ≤ 1600 ∧ (n < j → l.length + j + 2 ≤ 1600) →
    ∃ len' B', f_X11_putFixed_L136 sg m e fuel (uI n) (uI j) len (uI c) ll ld B fg wl wd = some (len', uI c, ll, ld, B', fg, wl, wd) ∧ shOK (l ++ (if j ≤ n then pdl Z (-(n : Int)) j ((j : Int) - n - 1) else plc Z (-(n : Int)) j ((j : Int) - n - 1))) len' B' := by
  intro j
  induction j with
  | zero =>
    intro fuel l len B hf hj hs hl
    obtain ⟨f, rfl, _⟩ := ex_succ hf
    rw [f_X11_putFixed_L136, if_pos (by exact (uI_le (b := 0) (by omega) (by omega)).mpr (by omega)), if_pos (Nat.zero_le _)]
    refine ⟨len, B, rfl, ?_⟩
    unfold pdl
    rw [List.append_nil]
    exact hs
  | succ j ih =>
    intro fuel l len B hf hj hs hl
    obtain ⟨f, rfl, hm⟩ := ex_succ hf
    have hc := h.1
    have hput : ∀ (s1 : Int32), s1 = uI (48 + dig Z (-(n : Int)) (((j + 1 : Nat) : Int) - n - 1)) → ∃ len' B', f_X11_putFixed_B168 sg m e (f_X11_putFixed_L136 sg m e f) (uI n) (uI (j + 1)) s1 len (uI c) ll ld B fg wl wd = some (len', uI c, ll, ld, B', fg, wl, wd) ∧ shOK (l ++ (if j + 1 ≤ n then pdl Z (-(n : Int)) (j + 1) (((j + 1 : Nat) : Int) - n - 1) else plc Z (-(n : Int)) (j + 1) (((j + 1 : Nat) : Int) - n - 1))) len' B' := by
      intro s1 hs1
      obtain ⟨a, b, g1, g2⟩ := x11_putc (c := 48 + dig Z (-(n : Int)) (((j + 1 : Nat) : Int) - n - 1)) hs (by omega)
      have hlen : (l ++ [48 + dig Z (-(n : Int)) (((j + 1 : Nat) : Int) - n - 1)]).length = l.length + 1 := by rw [List.length_append, List.length_singleton]
      have e1 : uI (j + 1) + (-1 : Int32) = uI j := by rw [wI_m1, show uI (j + 1) = iI ((j + 1 : Nat) : Int) from rfl, iI_add]; show iI _ = iI _; congr 1; omega
      unfold f_X11_putFixed_B168
      rw [hs1, g1, Option.bind_some, e1, uI_succ]
      by_cases hq : j = n
      · rw [if_pos (by rw [hq]), if_neg (show ¬ (j + 1 ≤ n) by omega)]
        by_cases hn0 : n = 0
        · obtain ⟨p, q, g3, g4⟩ := ih f _ a b (by omega) (by omega) g2 (by rw [hlen]; omega)
          rw [if_pos (by exact (uI_le (b := 0) (by omega) (by omega)).mpr (by omega))]
          refine ⟨p, q, g3, ?_⟩
          rw [if_pos (by omega), show j = 0 by omega] at g4
          unfold pdl at g4
          rw [List.append_nil] at g4
          rw [plc_pos _ (by omega), show j = 0 by omega]
          unfold plc
          exact g4
        · obtain ⟨a2, b2, g5, g6⟩ := x11_putc (c := 46) g2 (by omega)
          have g5' : f_X11_put_ (46 : Int32) (a, b).1 (a, b).2 = some (a2, b2) := g5
          obtain ⟨p, q, g3, g4⟩ := ih f _ a2 b2 (by omega) (by omega) g6 (by rw [List.length_append, List.length_singleton, hlen]; omega)
          rw [if_neg (by exact fun x => by have := (uI_le (b := 0) (by omega) (by omega)).mp x; omega), g5', Option.bind_some]
          refine ⟨p, q, g3, ?_⟩
          rw [if_pos (by omega)] at g4
          obtain ⟨i, rfl⟩ : ∃ i, j = i + 1 := ⟨j - 1, by omega⟩
          rw [plc_pos _ (by omega), show ((i + 1 + 1 : Nat) : Int) - n - 1 - 1 = -1 by omega, plc_m1]
          rw [show ((i + 1 : Nat) : Int) - n - 1 = -1 by omega, List.append_assoc, List.append_assoc] at g4
          exact g4
      · obtain ⟨p, q, g3, g4⟩ := ih f _ a b (by omega) (by omega) g2 (by rw [hlen]; omega)
        rw [if_neg (by exact fun x => hq (by have := (uI_eq (by omega) (by omega)).mp x; omega))]
        refine ⟨p, q, g3, ?_⟩
        rw [List.append_assoc] at g4
        by_cases hjn : j + 1 ≤ n
        · rw [if_pos hjn]
          rw [if_pos (by omega)] at g4
          rw [pdl, show ((j + 1 : Nat) : Int) - n - 1 - 1 = (j : Int) - n - 1 by omega]
          exact g4
        · rw [if_neg hjn, plc_pos _ (by omega), show ((j + 1 : Nat) : Int) - n - 1 - 1 = (j : Int) - n - 1 by omega]
          rw [if_neg (by omega)] at g4
          exact g4
    rw [f_X11_putFixed_L136, if_neg (by exact fun x => by have := (uI_le (b := 0) (by omega) (by omega)).mp x; omega)]
    by_cases hjc : j + 1 ≤ c
    · have hd := tl_dig (k := -(n : Int)) h (j := c - (j + 1)) (by omega)
      rw [show (c : Int) + -(n : Int) - 1 - ((c - (j + 1) : Nat) : Int) = ((j + 1 : Nat) : Int) - n - 1 by omega] at hd
      rw [if_pos (by exact (uI_le (by omega) (by omega)).mpr hjc), uI_sub (by omega), if_pos (by exact (uI_vIn (by omega)).mpr (by omega)), uI_clamp (by omega)]
      exact hput _ hd
    · rw [if_neg (by exact fun x => hjc ((uI_le (by omega) (by omega)).mp x))]
      refine hput _ ?_
      rw [dig_hi h.2.1 (by omega)]
      rfl
theorem x11_fix106 {Z n : Nat} {ll : Int32} {ld : Nat → Int32} (h : R30 ll ld Z) (hZ : Z < 10 ^ 500) (hn : n ≤ 60) (sg : Int32) (m : Int64) (e : Int32) {l : List Nat} {len : Int32} {B : Nat → Int32} (hs : shOK l len B) (hl : l.length ≤ 1) (fm : Int32) (fg : Nat → Int32) (wl : Int32) (wd : Nat → Int32) :
    ∃ c len' fm' ll' ld' B' fg' wl' wd', f_X11_putFixed_B106 sg m e (uI n) len fm ll ld B fg wl wd = some (len', fm', ll', ld', B', fg', wl', wd') ∧ dcP Z c ∧ shOK (l ++ plc Z (-(n : Int)) (max c (n + 1)) (((max c (n + 1) : Nat) : Int) - n - 1)) len' B' := by
  unfold f_X11_putFixed_B106
  obtain ⟨s1, D1, g1, g2⟩ := x10_copy h wl wd
  obtain ⟨c, s2, D2, fg2, g3, g4⟩ := x11_tell g2 (Nat.lt_trans hZ (Nat.pow_lt_pow_right (by decide) (by decide))) fm ll ld fg
  have hc : c ≤ 500 := by
    rcases g4.2.2.1 with g | g
    · omega
    · have : 10 ^ (c - 1) < 10 ^ 500 := Nat.lt_of_le_of_lt g hZ
      have := (Nat.pow_lt_pow_iff_right (by decide)).mp this
      omega
  obtain ⟨a, b, g5, g6⟩ := x11_fix136 g4 hn sg m e s2 D2 s1 D1 (max c (n + 1)) FU l len B (by rw [hFU]; omega) (by omega) hs (by omega)
  rw [if_neg (by omega)] at g6
  rw [g1, Option.bind_some, g3, Option.bind_some, uI_succ, max_uI (by omega) (by omega), Option.bind_some]
  exact ⟨c, _, _, _, _, _, _, _, _, g5, tl_dc g4, g6⟩
theorem pow_lt_pow_of {a b c d : Nat} (h : a < b ^ c) (hcd : c ≤ d) (hb : 0 < b) : a < b ^ d := Nat.lt_of_lt_of_le h (Nat.pow_le_pow_right hb hcd)
theorem lim30 : (10 : Nat) ^ 500 < 1073741824 ^ 519 := by decide +kernel
theorem lim30' : (1073741824 : Nat) ^ 519 < 1073741824 ^ 520 := by decide +kernel
theorem lim_fix : (2 : Nat) ^ 53 * 10 ^ 60 * 2 ^ 1074 < 10 ^ 450 := by decide +kernel
/-- the flags of a number that is dropped -/
theorem drop_flags (v s : Nat) : hfB v (2 ^ (s + 1)) = decide (2 ≤ 2 * (v / 2 ^ s % 2) + (if v % 2 ^ s = 0 then 0 else 1)) ∧ rfB v (2 ^ (s + 1)) = ((2 * (v / 2 ^ s % 2) + (if v % 2 ^ s = 0 then 0 else 1)) % 2 == 1) := by
  have hp : 0 < 2 ^ s := Nat.pow_pos (by decide)
  have hm : v % 2 ^ (s + 1) = v % 2 ^ s + 2 ^ s * (v / 2 ^ s % 2) := Nat.mod_pow_succ
  have hr := Nat.mod_lt v hp
  unfold hfB rfB
  rw [hm, Nat.pow_succ]
  have h2 := Nat.mod_two_eq_zero_or_one (v / 2 ^ s)
  generalize v % 2 ^ s = r at *
  generalize 2 ^ s = P at *
  rcases h2 with g | g <;> rw [g] <;> by_cases h0 : r = 0
  · simp only [h0]; constructor <;> simp; omega
  · simp only [h0]; constructor <;> simp <;> omega
  · simp only [h0]; constructor <;> simp <;> omega
  · simp only [h0]; constructor <;> simp <;> omega
theorem bit0 {s : Int32} {D : Nat → Int32} {v : Nat} (h : R30 s D v) : f_X10_bit s D (0 : Int32) = some (uI (v % 2)) := by
  have := x10_bit h (i := 0) (by decide)
  rw [Nat.pow_zero, Nat.div_one] at this
  exact this
theorem odd_bI (v : Nat) : (v % 2 == 1) = true ↔ v % 2 = 1 := by simp
theorem mul_pow_lim {m e : Nat} (hm : m < 2 ^ 53) {n : Nat} (hn : n ≤ 60) (he : e ≤ 1074) : m * 10 ^ n * 2 ^ e < 10 ^ 450 := by
  refine Nat.lt_of_le_of_lt ?_ lim_fix
  exact Nat.mul_le_mul (Nat.mul_le_mul (Nat.le_of_lt hm) (Nat.pow_le_pow_right (by decide) hn)) (Nat.pow_le_pow_right (by decide) he)
theorem lim_lt {a : Nat} (h : a < 10 ^ 450) : a + 1 < 10 ^ 500 ∧ a < 1073741824 ^ 519 ∧ a + 1 < 1073741824 ^ 520 := by
  have h1 : (10 : Nat) ^ 450 < 10 ^ 500 := Nat.pow_lt_pow_right (by decide) (by decide)
  have h2 := lim30
  have h3 := lim30'
  generalize (10 : Nat) ^ 450 = x at *
  generalize (10 : Nat) ^ 500 = y at *
  generalize (1073741824 : Nat) ^ 519 = z at *
  generalize (1073741824 : Nat) ^ 520 = w at *
  omega
theorem x11_fix35 {m n way sg : Nat} {e : Int} (hm : m < 2 ^ 53) (he1 : -1074 ≤ e) (he2 : e ≤ 971) (hn : n ≤ 60) (hs1 : sg ≤ 1) (hw : way < 4) (mm : Int64) {ll : Int32} {ld : Nat → Int32} (h : R30 ll ld (m * 10 ^ n)) {l : List Nat} {len : Int32} {B : Nat → Int32} (hs : shOK l len B) (hl : l.length ≤ 1) (fm : Int32) (fg : Nat → Int32) (wl : Int32) (wd : Nat → Int32) :
    ∃ c len' fm' ll' ld' B' fg' wl' wd', f_X11_putFixed_B35 (uI sg) mm (iI e) (uI n) (uI way) len fm ll ld B fg wl wd = some (len', fm', ll', ld', B', fg', wl', wd') ∧ dcP (rndZ way sg (m * 10 ^ n * 2 ^ e.toNat) (2 ^ (-e).toNat)) c ∧ shOK (l ++ plc (rndZ way sg (m * 10 ^ n * 2 ^ e.toNat) (2 ^ (-e).toNat)) (-(n : Int)) (max c (n + 1)) (((max c (n + 1) : Nat) : Int) - n - 1)) len' B' := by
  unfold f_X11_putFixed_B35
  by_cases he : e < 0
  · obtain ⟨s, rfl⟩ : ∃ s : Nat, e = -((s + 1 : Nat) : Int) := ⟨(-e - 1).toNat, by omega⟩
    have e0 : (-((s + 1 : Nat) : Int)).toNat = 0 := by omega
    have e1 : (-(-((s + 1 : Nat) : Int))).toNat = s + 1 := by omega
    rw [e0, e1, Nat.pow_zero, Nat.mul_one]
    have hneg : - iI (-((s + 1 : Nat) : Int)) = uI (s + 1) := by rw [iI_neg]; exact congrArg iI (by omega)
    obtain ⟨s1, D1, g1, g2⟩ := x10_drop h (c := s + 1) (by omega) (by omega)
    rw [Nat.add_sub_cancel] at g1
    have hb := bit0 g2
    have hbound := lim_lt (Nat.lt_of_le_of_lt (Nat.div_le_self (m * 10 ^ n) (2 ^ (s + 1))) (show m * 10 ^ n < 10 ^ 450 by have := mul_pow_lim (e := 0) hm hn (by omega); rwa [Nat.pow_zero, Nat.mul_one] at this))
    obtain ⟨f1, f2⟩ := drop_flags (m * 10 ^ n) s
    have hz : rndZ way sg (m * 10 ^ n) (2 ^ (s + 1)) = m * 10 ^ n / 2 ^ (s + 1) + (if gO way sg (m * 10 ^ n / 2 ^ (s + 1) % 2 == 1) (decide (2 ≤ 2 * (m * 10 ^ n / 2 ^ s % 2) + (if m * 10 ^ n % 2 ^ s = 0 then 0 else 1))) ((2 * (m * 10 ^ n / 2 ^ s % 2) + (if m * 10 ^ n % 2 ^ s = 0 then 0 else 1)) % 2 == 1) then 1 else 0) := by
      unfold rndZ
      rw [f1, f2]
    have hd4 : 2 * (m * 10 ^ n / 2 ^ s % 2) + (if m * 10 ^ n % 2 ^ s = 0 then 0 else 1) < 4 := by split <;> omega
    have hmore := fun odd => x11_isMore (way := way) (sg := sg) odd hd4 hs1 hw
    rw [if_pos (by rw [wI_0, iI_lt (by omega) (by omega) (by omega) (by omega)]; exact he), hneg, g1, Option.bind_some, hb, Option.bind_some]
    generalize (2 * (m * 10 ^ n / 2 ^ s % 2) + (if m * 10 ^ n % 2 ^ s = 0 then 0 else 1)) = d at *
    rw [hz]
    have hgo : ∀ odd : Bool, ∃ c len' fm' ll' ld' B' fg' wl' wd', f_X11_putFixed_B87 (uI sg) mm (iI (-((s + 1 : Nat) : Int))) (uI n) (uI way) (uI d) (bI odd) len fm s1 D1 B fg wl wd = some (len', fm', ll', ld', B', fg', wl', wd') ∧ dcP (m * 10 ^ n / 2 ^ (s + 1) + (if gO way sg odd (decide (2 ≤ d)) (d % 2 == 1) then 1 else 0)) c ∧ shOK (l ++ plc (m * 10 ^ n / 2 ^ (s + 1) + (if gO way sg odd (decide (2 ≤ d)) (d % 2 == 1) then 1 else 0)) (-(n : Int)) (max c (n + 1)) (((max c (n + 1) : Nat) : Int) - n - 1)) len' B' := by
      intro odd
      unfold f_X11_putFixed_B87
      rw [hmore odd, Option.bind_some]
      cases gO way sg odd (decide (2 ≤ d)) (d % 2 == 1) with
      | false =>
        rw [if_pos (by rfl), if_neg (by decide)]
        exact x11_fix106 g2 (Nat.lt_trans (Nat.lt_succ_self _) hbound.1) hn _ _ _ hs hl _ _ _ _
      | true =>
        obtain ⟨s2, D2, g3, g4⟩ := x10_small g2 (x := 1) (by decide) hbound.2.2
        have g3' : f_X10_addSmall (1 : Int32) s1 D1 = some (s2, D2) := g3
        rw [if_neg (by decide), if_pos rfl, g3', Option.bind_some]
        exact x11_fix106 g4 hbound.1 hn _ _ _ hs hl _ _ _ _
    have h2 := Nat.mod_two_eq_zero_or_one (m * 10 ^ n / 2 ^ (s + 1))
    rcases h2 with g | g
    · rw [g, if_neg (by decide)]
      exact hgo false
    · rw [g, if_pos (by rfl)]
      exact hgo true
  · obtain ⟨s, rfl⟩ : ∃ s : Nat, e = (s : Int) := ⟨e.toNat, by omega⟩
    have e1 : (-((s : Nat) : Int)).toNat = 0 := by omega
    rw [Int.toNat_natCast, e1, Nat.pow_zero]
    have hb := mul_pow_lim (e := s) hm hn (by omega)
    have hbound := lim_lt hb
    have hz : rndZ way sg (m * 10 ^ n * 2 ^ s) 1 = m * 10 ^ n * 2 ^ s := by
      unfold rndZ hfB rfB gO
      rw [Nat.mod_one, Nat.div_one]
      simp
    obtain ⟨s1, D1, g1, g2⟩ := x10_shift h (s := s) (by omega) hbound.2.1
    rw [hz, if_neg (by rw [wI_0, iI_lt (by omega) (by omega) (by omega) (by omega)]; exact he), show iI ((s : Nat) : Int) = uI s from rfl, g1, Option.bind_some]
    exact x11_fix106 g2 (Nat.lt_trans (Nat.lt_succ_self _) hbound.1) hn _ _ _ hs hl _ _ _ _
theorem x11_fix13 {m n way sg : Nat} {e : Int} (hm : m < 2 ^ 53) (he1 : -1074 ≤ e) (he2 : e ≤ 971) (hn : n ≤ 60) (hs1 : sg ≤ 1) (hw : way < 4) (mm : Int64) {l : List Nat} {len : Int32} {B : Nat → Int32} (hs : shOK l len B) (hl : l.length ≤ 1) (fm : Int32) (fg : Nat → Int32) (wl : Int32) (wd : Nat → Int32) : ∀ k i fuel ll ld, i + k = n → k < fuel → R30 ll ld (m * 10 ^ i) →
    ∃ c len' fm' ll' ld' B' fg' wl' wd', f_X11_putFixed_L13 (uI sg) mm (iI e) fuel (uI n) (uI way) (uI i) len fm ll ld B fg wl wd = some (len', fm', ll', ld', B', fg', wl', wd') ∧ dcP (rndZ way sg (m * 10 ^ n * 2 ^ e.toNat) (2 ^ (-e).toNat)) c ∧ shOK (l ++ plc (rndZ way sg (m * 10 ^ n * 2 ^ e.toNat) (2 ^ (-e).toNat)) (-(n : Int)) (max c (n + 1)) (((max c (n + 1) : Nat) : Int) - n - 1)) len' B' := by
  intro k
  induction k with
  | zero =>
    intro i fuel ll ld hi hf hR
    obtain ⟨f, rfl, _⟩ := ex_succ hf
    rw [f_X11_putFixed_L13, if_pos (by exact (uI_le (by omega) (by omega)).mpr (by omega))]
    rw [show i = n by omega] at hR
    exact x11_fix35 hm he1 he2 hn hs1 hw mm hR hs hl fm fg wl wd
  | succ k ih =>
    intro i fuel ll ld hi hf hR
    obtain ⟨f, rfl, hf'⟩ := ex_succ hf
    have hb := mul_pow_lim (e := 0) hm (n := i + 1) (by omega) (by omega)
    rw [Nat.pow_zero, Nat.mul_one, Nat.pow_succ, ← Nat.mul_assoc] at hb
    have hb2 := lim_lt hb
    obtain ⟨s1, D1, g1, g2⟩ := x10_times hR (f := 10) (x := 0) (by decide) (by decide) (Nat.lt_trans (Nat.lt_succ_self _) hb2.2.2)
    have g1' : f_X10_times (10 : Int64) (0 : Int32) ll ld = some (s1, D1) := g1
    rw [f_X11_putFixed_L13, if_neg (by exact fun x => by have := (uI_le (by omega) (by omega)).mp x; omega), g1', Option.bind_some, uI_succ]
    rw [Nat.add_zero, Nat.mul_assoc, ← Nat.pow_succ] at g2
    exact ih (i + 1) f s1 D1 (by omega) (by omega) g2
theorem x11_fixed {m n way sg : Nat} {e : Int} (hm : m < 2 ^ 53) (he1 : -1074 ≤ e) (he2 : e ≤ 971) (hn : n ≤ 60) (hs1 : sg ≤ 1) (hw : way < 4) {l : List Nat} {len : Int32} {B : Nat → Int32} (hs : shOK l len B) (hl : l.length ≤ 1) (fm : Int32) (ll : Int32) (ld : Nat → Int32) (fg : Nat → Int32) (wl : Int32) (wd : Nat → Int32) :
    ∃ c len' fm' ll' ld' B' fg' wl' wd', f_X11_putFixed (uI sg) (uL m) (iI e) (uI n) (uI way) len fm ll ld B fg wl wd = some (len', fm', ll', ld', B', fg', wl', wd') ∧ dcP (rndZ way sg (m * 10 ^ n * 2 ^ e.toNat) (2 ^ (-e).toNat)) c ∧ shOK (l ++ plc (rndZ way sg (m * 10 ^ n * 2 ^ e.toNat) (2 ^ (-e).toNat)) (-(n : Int)) (max c (n + 1)) (((max c (n + 1) : Nat) : Int) - n - 1)) len' B' := by
  unfold f_X11_putFixed
  obtain ⟨s1, D1, g1, g2⟩ := x10_set ll ld (u := m) (by omega)
  rw [g1, Option.bind_some]
  exact x11_fix13 hm he1 he2 hn hs1 hw (uL m) hs hl fm fg wl wd n 0 FU s1 D1 (by omega) (by rw [hFU]; omega) (by rw [Nat.pow_zero, Nat.mul_one]; exact g2)
