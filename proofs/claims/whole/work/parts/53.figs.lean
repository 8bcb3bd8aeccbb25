/-! figures of ten -/
/-- the figure of D times 10 to the k that counts 10 to the q -/
def dig (D : Nat) (k q : Int) : Nat := if k ≤ q then D / 10 ^ (q - k).toNat % 10 else 0
theorem dig_lt (D : Nat) (k q : Int) : dig D k q < 10 := by unfold dig; split <;> omega
theorem ten_pos (n : Nat) : 0 < 10 ^ n := Nat.pow_pos (by decide)
theorem dig_scale (D z : Nat) (k q : Int) : dig (D * 10 ^ z) k q = dig D (k + z) q := by
  unfold dig
  by_cases h1 : k ≤ q
  · rw [if_pos h1]
    by_cases h2 : k + z ≤ q
    · rw [if_pos h2, show (q - k).toNat = z + (q - (k + z)).toNat by omega, Nat.pow_add, Nat.mul_comm D, Nat.mul_div_mul_left _ _ (ten_pos z)]
    · rw [if_neg h2]
      obtain ⟨j, hj⟩ : ∃ j, z = (q - k).toNat + (j + 1) := ⟨z - (q - k).toNat - 1, by omega⟩
      rw [hj, Nat.pow_add, ← Nat.mul_assoc, Nat.mul_comm D, Nat.mul_assoc, Nat.mul_div_cancel_left _ (ten_pos _), Nat.pow_succ, ← Nat.mul_assoc, Nat.mul_mod_left]
  · rw [if_neg h1, if_neg (by omega)]
theorem dig_eq {D E : Nat} {k k' : Int} {z : Nat} (hk : k' = k + z) (h : D = E * 10 ^ z) (q : Int) : dig D k q = dig E k' q := by
  rw [h, dig_scale, hk]
theorem dig_zero (k q : Int) : dig 0 k q = 0 := by unfold dig; split <;> simp
/-- by their places, from q on n figures, a point ahead of the one behind it -/
def plc (D : Nat) (k : Int) : Nat → Int → List Nat
  | 0, _ => []
  | n + 1, q => (if q = -1 then [46] else []) ++ ((48 + dig D k q) :: plc D k n (q - 1))
theorem plc_len (D : Nat) (k : Int) : ∀ n q, (plc D k n q).length ≤ n + (if -1 ≤ q ∧ q - n < -1 then 1 else 0) := by
  intro n
  induction n with
  | zero => intro q; simp [plc]
  | succ n ih =>
    intro q
    have := ih (q - 1)
    unfold plc
    rw [List.length_append, List.length_cons]
    by_cases h : q = -1
    · rw [if_pos h, List.length_singleton]
      rw [if_neg (by omega)] at this
      rw [if_pos (by omega)]; omega
    · rw [if_neg h, List.length_nil]
      split at this
      · rw [if_pos (by omega)]; omega
      · split <;> omega
theorem plc_eq {D E : Nat} {k k' : Int} {z : Nat} (hk : k' = k + z) (h : D = E * 10 ^ z) : ∀ n q, plc D k n q = plc E k' n q := by
  intro n
  induction n with
  | zero => intro q; rfl
  | succ n ih => intro q; unfold plc; rw [dig_eq hk h, ih]
def pdl (D : Nat) (k : Int) : Nat → Int → List Nat
  | 0, _ => []
  | n + 1, q => (48 + dig D k q) :: pdl D k n (q - 1)
theorem pdl_len (D : Nat) (k : Int) : ∀ n q, (pdl D k n q).length = n := by
  intro n
  induction n with
  | zero => intro q; rfl
  | succ n ih => intro q; show (pdl D k n (q - 1)).length + 1 = _; rw [ih]
theorem pdl_eq {D E : Nat} {k k' : Int} {z : Nat} (hk : k' = k + z) (h : D = E * 10 ^ z) : ∀ n q, pdl D k n q = pdl E k' n q := by
  intro n
  induction n with
  | zero => intro q; rfl
  | succ n ih => intro q; unfold pdl; rw [dig_eq hk h, ih]
/-- with a power: n figures from the one that counts 10 to the t on -/
def pwL (D : Nat) (k t : Int) (n : Nat) : List Nat := (48 + dig D k t) :: ((if n ≤ 1 then [] else [46]) ++ (pdl D k (n - 1) (t - 1) ++ (101 :: numL t)))
theorem pwL_eq {D E : Nat} {k k' : Int} {z : Nat} (hk : k' = k + z) (h : D = E * 10 ^ z) (t : Int) (n : Nat) : pwL D k t n = pwL E k' t n := by
  unfold pwL; rw [dig_eq hk h, pdl_eq hk h]
/-! the class's figures -/
def fgOK (D c : Nat) (T : Int) (count top : Int32) (row : Nat → Int32) : Prop :=
  count = uI c ∧ c ≤ 792 ∧ top = iI T ∧ -2000 ≤ T ∧ T ≤ 2000 ∧ D < 10 ^ c ∧ ∀ j, j < c → row j = uI (D / 10 ^ (c - 1 - j) % 10)
theorem fg_at {D c : Nat} {T i : Int} {count top : Int32} {row : Nat → Int32} (h : fgOK D c T count top row) (h1 : -10000 ≤ i) (h2 : i ≤ 10000) : f_X1_at count row (iI i) = some (uI (dig D (T - c + 1) (T - i))) := by
  obtain ⟨rfl, hc, rfl, _, _, hD, hr⟩ := h
  unfold f_X1_at dig
  by_cases h0 : i < 0
  · rw [if_pos (by rw [wI_0, iI_lt (by omega) (by omega) (by omega) (by omega)]; exact h0), if_pos (by omega), Nat.div_eq_of_lt (Nat.lt_of_lt_of_le hD (Nat.pow_le_pow_right (by decide) (by omega)))]; rfl
  · rw [if_neg (by rw [wI_0, iI_lt (by omega) (by omega) (by omega) (by omega)]; exact h0)]
    have ei : iI i = uI i.toNat := by show iI _ = iI _; congr 1; omega
    rw [ei]
    by_cases hge : c ≤ i.toNat
    · rw [if_pos (by exact (uI_le (by omega) (by omega)).mpr hge), if_neg (by omega)]; rfl
    · rw [if_neg (by exact fun x => hge ((uI_le (by omega) (by omega)).mp x)), if_neg (by exact fun x => by have := (uI_le (a := 792) (by omega) (by omega)).mp x; omega), if_pos (by exact (uI_vIn (by omega)).mpr (by omega)), uI_clamp (by omega), hr _ (by omega), if_pos (by omega), show (T - i - (T - c + 1)).toNat = c - 1 - i.toNat by omega]
theorem x3_inL {D c : Nat} {T b : Int} {count top : Int32} {row : Nat → Int32} (h : fgOK D c T count top row) (hb0 : 0 ≤ b) (hb : b ≤ 2000) :
    ∀ (n : Nat) (q : Int) (fuel : Nat) l len B, q + b + 1 = (n : Int) → n < fuel → q ≤ 2000 → shOK l len B → l.length + (plc D (T - c + 1) n q).length ≤ 1077 →
    ∃ len' B', f_X3_printInPlace_L12 count top row fuel (iI b) (iI q) len B = some (len', B') ∧ shOK (l ++ plc D (T - c + 1) n q) len' B' := by
  intro n
  induction n with
  | zero =>
    intro q fuel l len B hq hf hq2 hs hl
    obtain ⟨m, rfl, _⟩ := ex_succ hf
    rw [f_X3_printInPlace_L12, iI_neg, if_pos (by rw [iI_lt (by omega) (by omega) (by omega) (by omega)]; omega), show plc D (T - c + 1) 0 q = [] from rfl, List.append_nil]
    exact ⟨_, _, rfl, hs⟩
  | succ n ih =>
    intro q fuel l len B hq hf hq2 hs hl
    obtain ⟨m, rfl, hm⟩ := ex_succ hf
    have hT := h.2.2.2
    have hat := fg_at (i := T - q) h (by omega) (by omega)
    rw [show T - (T - q) = q by omega] at hat
    have hB32 : ∀ l len B, shOK l len B → l.length + ((48 + dig D (T - c + 1) q) :: plc D (T - c + 1) n (q - 1)).length ≤ 1077 → ∃ len' B', f_X3_printInPlace_B32 count top row (f_X3_printInPlace_L12 count top row m) (iI b) (iI q) len B = some (len', B') ∧ shOK (l ++ ((48 + dig D (T - c + 1) q) :: plc D (T - c + 1) n (q - 1))) len' B' := by
      intro l len B hs hl
      rw [List.length_cons] at hl
      unfold f_X3_printInPlace_B32
      have htop := h.2.2.1
      have e1 : top - iI q = iI (T - q) := by rw [htop, iI_sub]
      obtain ⟨a, b', g1, g2⟩ := x5_put (c := 48 + dig D (T - c + 1) q) hs (by omega)
      obtain ⟨c', d, g3, g4⟩ := ih (q - 1) m _ a b' (by omega) (by omega) (by omega) g2 (by rw [List.length_append, List.length_singleton]; omega)
      rw [e1, hat, Option.bind_some, show (48 : Int32) + uI (dig D (T - c + 1) q) = uI (48 + dig D (T - c + 1) q) from uI_add 48 _, g1, Option.bind_some, show iI q + (-1 : Int32) = iI (q - 1) from by rw [wI_m1, iI_add]; rfl]
      refine ⟨c', d, g3, ?_⟩
      rw [List.append_assoc] at g4
      exact g4
    rw [f_X3_printInPlace_L12, iI_neg, if_neg (by rw [iI_lt (by omega) (by omega) (by omega) (by omega)]; omega)]
    unfold plc at hl ⊢
    by_cases hm1 : q = -1
    · rw [if_pos hm1, List.length_append, List.length_singleton] at hl
      obtain ⟨a, b', g1, g2⟩ := x5_put (c := 46) hs (by omega)
      have g1' : f_X5_put (46 : Int32) len B = some (a, b') := g1
      obtain ⟨c', d, g3, g4⟩ := hB32 _ a b' g2 (by rw [List.length_append, List.length_singleton]; omega)
      rw [if_pos (by rw [wI_m1, iI_eq (by omega) (by omega) (by omega) (by omega)]; exact hm1), g1', Option.bind_some, if_pos hm1]
      refine ⟨c', d, g3, ?_⟩
      rw [List.append_assoc] at g4
      exact g4
    · rw [if_neg hm1, List.nil_append] at hl
      rw [if_neg (by rw [wI_m1, iI_eq (by omega) (by omega) (by omega) (by omega)]; exact hm1), if_neg hm1, List.nil_append]
      exact hB32 l len B hs hl
theorem x3_inPlace {D c : Nat} {T b : Int} {count top : Int32} {row : Nat → Int32} (h : fgOK D c T count top row) (hb0 : 0 ≤ b) (hb : b ≤ 2000) {l : List Nat} {len : Int32} {B : Nat → Int32} (hs : shOK l len B) (hl : l.length + (plc D (T - c + 1) (max T 0 + b + 1).toNat (max T 0)).length ≤ 1077) :
    ∃ len' B', f_X3_printInPlace count top row (iI b) len B = some (len', B') ∧ shOK (l ++ plc D (T - c + 1) (max T 0 + b + 1).toNat (max T 0)) len' B' := by
  have hT := h.2.2.2
  have htop := h.2.2.1
  unfold f_X3_printInPlace
  rw [htop, wI_0, max_iI (by omega) (by omega) (by omega) (by omega), Option.bind_some, ← htop]
  exact x3_inL h hb0 hb _ (max T 0) FU l len B (by omega) (by rw [hFU]; omega) (by omega) hs hl
theorem x3_powL {D c n : Nat} {T : Int} {count top : Int32} {row : Nat → Int32} (h : fgOK D c T count top row) (hn : n ≤ 1000) :
    ∀ k i fuel l len B, i + k = n → k < fuel → shOK l len B → l.length + k + 6 ≤ 1077 →
    ∃ len' B', f_X3_printPowered_L34 count top row fuel (uI n) (uI i) len B = some (len', B') ∧ shOK (l ++ (pdl D (T - c + 1) k (T - i) ++ (101 :: numL T))) len' B' := by
  intro k
  induction k with
  | zero =>
    intro i fuel l len B hi hf hs hl
    obtain ⟨m, rfl, _⟩ := ex_succ hf
    have hT := h.2.2.2
    have htop := h.2.2.1
    rw [f_X3_printPowered_L34, if_pos (by exact (uI_le (by omega) (by omega)).mpr (by omega))]
    unfold f_X3_printPowered_B63
    obtain ⟨a, b, g1, g2⟩ := x5_put (c := 101) hs (by omega)
    have g1' : f_X5_put (101 : Int32) len B = some (a, b) := g1
    obtain ⟨c', d, g3, g4⟩ := x5_num (v := T) (by omega) (by omega) g2 (by rw [List.length_append, List.length_singleton]; omega)
    rw [g1', Option.bind_some, htop, g3, Option.bind_some]
    refine ⟨_, _, rfl, ?_⟩
    rw [List.append_assoc] at g4
    exact g4
  | succ k ih =>
    intro i fuel l len B hi hf hs hl
    obtain ⟨m, rfl, hm⟩ := ex_succ hf
    have hat := fg_at (i := (i : Int)) h (by omega) (by omega)
    obtain ⟨a, b, g1, g2⟩ := x5_put (c := 48 + dig D (T - c + 1) (T - i)) hs (by omega)
    obtain ⟨c', d, g3, g4⟩ := ih (i + 1) m _ a b (by omega) (by omega) g2 (by rw [List.length_append, List.length_singleton]; omega)
    rw [f_X3_printPowered_L34, if_neg (by exact fun x => by have := (uI_le (by omega) (by omega)).mp x; omega), hat, Option.bind_some, show (48 : Int32) + uI (dig D (T - c + 1) (T - i)) = uI (48 + dig D (T - c + 1) (T - i)) from uI_add 48 _, g1, Option.bind_some, uI_succ]
    refine ⟨c', d, g3, ?_⟩
    rw [List.append_assoc, show T - ((i + 1 : Nat) : Int) = T - i - 1 by omega] at g4
    exact g4
theorem x3_powered {D c n : Nat} {T : Int} {count top : Int32} {row : Nat → Int32} (h : fgOK D c T count top row) (hn : n ≤ 1000) (hn1 : 1 ≤ n) {l : List Nat} {len : Int32} {B : Nat → Int32} (hs : shOK l len B) (hl : l.length ≤ 1) :
    ∃ len' B', f_X3_printPowered count top row (uI n) len B = some (len', B') ∧ shOK (l ++ pwL D (T - c + 1) T n) len' B' := by
  have hat := fg_at (i := 0) h (by omega) (by omega)
  rw [Int.sub_zero] at hat
  have hat' : f_X1_at count row (0 : Int32) = some (uI (dig D (T - c + 1) T)) := hat
  obtain ⟨a, b, g1, g2⟩ := x5_put (c := 48 + dig D (T - c + 1) T) hs (by omega)
  unfold f_X3_printPowered pwL
  rw [hat', Option.bind_some, show (48 : Int32) + uI (dig D (T - c + 1) T) = uI (48 + dig D (T - c + 1) T) from uI_add 48 _, g1, Option.bind_some]
  have hlen : (l ++ [48 + dig D (T - c + 1) T]).length ≤ 2 := by rw [List.length_append, List.length_singleton]; omega
  by_cases h1 : n ≤ 1
  · have en : n - 1 = 0 := by omega
    obtain ⟨p, q, g5, g6⟩ := x3_powL h hn (n - 1) 1 FU _ a b (by omega) (by rw [hFU]; omega) g2 (by omega)
    rw [if_pos (by exact (uI_le (b := 1) (by omega) (by omega)).mpr h1), if_pos h1]
    refine ⟨p, q, g5, ?_⟩
    rw [List.append_assoc] at g6
    exact g6
  · obtain ⟨c', d, g3, g4⟩ := x5_put (c := 46) g2 (by omega)
    have g3' : f_X5_put (46 : Int32) (a, b).1 (a, b).2 = some (c', d) := g3
    obtain ⟨p, q, g5, g6⟩ := x3_powL h hn (n - 1) 1 FU _ c' d (by omega) (by rw [hFU]; omega) g4 (by rw [List.length_append, List.length_singleton]; omega)
    rw [if_neg (by exact fun x => h1 ((uI_le (b := 1) (by omega) (by omega)).mp x)), if_neg h1, g3', Option.bind_some]
    refine ⟨p, q, g5, ?_⟩
    rw [List.append_assoc, List.append_assoc] at g6
    exact g6
/-! taking figures -/
theorem x1_append {c d : Nat} {row : Nat → Int32} (hc : c < 792) : f_X1_append (uI d) (uI c) row = some (uI (c + 1), upd row c (uI d)) := by
  unfold f_X1_append
  rw [if_neg (by exact fun x => by have := (uI_le (a := 792) (by omega) (by omega)).mp x; omega), if_pos (by exact (uI_vIn (by omega)).mpr hc), uI_clamp (by omega), uI_succ]
/-- nine figures of a part -/
theorem x1_nine (kL : Int32 → Int32 → (Nat → Int32) → Int32 → (Nat → Int64) → Option (Int32 × (Nat → Int32) × Int32 × (Nat → Int64))) (i0 : Int32) {P : Nat} (hP : P < 1000000000) (s : Int32) (L : Nat → Int64) : ∀ k j fuel c row, j + k = 9 → k < fuel → c + k ≤ 792 →
    ∃ row', f_X1_takeBackwards_L29 kL fuel i0 (uI (P / 10 ^ j)) (uI j) (uI c) row s L = kL (i0 + 9) (uI (c + k)) row' s L ∧ (∀ x, x < c → row' x = row x) ∧ (∀ x, x < k → row' (c + x) = uI (P / 10 ^ (j + x) % 10)) := by
  intro k
  induction k with
  | zero =>
    intro j fuel c row hj hf hc
    obtain ⟨m, rfl, _⟩ := ex_succ hf
    refine ⟨row, ?_, fun x _ => rfl, fun x hx => absurd hx (Nat.not_lt_zero x)⟩
    rw [f_X1_takeBackwards_L29, if_pos (by exact (uI_le (a := 9) (by omega) (by omega)).mpr (by omega))]; rfl
  | succ k ih =>
    intro j fuel c row hj hf hc
    obtain ⟨m, rfl, hm⟩ := ex_succ hf
    have hq : P / 10 ^ j < 1000000000 := Nat.lt_of_le_of_lt (Nat.div_le_self _ _) hP
    obtain ⟨row', g1, g2, g3⟩ := ih (j + 1) m (c + 1) (upd row c (uI (P / 10 ^ j % 10))) (by omega) (by omega) (by omega)
    refine ⟨row', ?_, fun x hx => ?_, fun x hx => ?_⟩
    · rw [f_X1_takeBackwards_L29, if_neg (by exact fun x => by have := (uI_le (a := 9) (by omega) (by omega)).mp x; omega), vI_10, uI_rem (by omega) (by decide) (by decide), x1_append (by omega), Option.bind_some, uI_div (by omega) (by decide) (by decide), uI_succ, Nat.div_div_eq_div_mul, ← Nat.pow_succ, show c + (k + 1) = c + 1 + k by omega]
      exact g1
    · rw [g2 x (by omega), upd_ne _ _ (by omega)]
    · by_cases h0 : x = 0
      · subst h0; rw [Nat.add_zero, g2 c (by omega), upd_eq, Nat.add_zero]
      · obtain ⟨y, rfl⟩ : ∃ y, x = y + 1 := ⟨x - 1, by omega⟩
        rw [show c + (y + 1) = c + 1 + y by omega, g3 y (by omega), show j + 1 + y = j + (y + 1) by omega]
theorem x1_back : ∀ b fuel i N row s L, b < fuel → i + b ≤ 88 → N < 10 ^ (9 * b) → R32 s L N →
    ∃ c row' s' L', f_X1_takeBackwards_L7 fuel (uI (9 * i)) (uI (9 * i)) row s L = some (uI c, row', s', L') ∧ 9 * i ≤ c ∧ c ≤ 792 ∧ N < 10 ^ (c - 9 * i) ∧ (∀ x, x < 9 * i → row' x = row x) ∧ (∀ x, x < c - 9 * i → row' (9 * i + x) = uI (N / 10 ^ x % 10)) := by
  intro b
  induction b with
  | zero =>
    intro fuel i N row s L hf hi hN hR
    obtain ⟨m, rfl, _⟩ := ex_succ hf
    have hN0 : N = 0 := by rw [Nat.mul_zero, Nat.pow_zero] at hN; omega
    refine ⟨9 * i, row, s, L, ?_, Nat.le_refl _, by omega, by rw [Nat.sub_self]; exact hN, fun x _ => rfl, fun x hx => by omega⟩
    rw [f_X1_takeBackwards_L7]
    by_cases h88 : 792 ≤ 9 * i
    · rw [if_pos (by exact (uI_le (a := 792) (by omega) (by omega)).mpr h88)]
    · rw [if_neg (by exact fun x => h88 ((uI_le (a := 792) (by omega) (by omega)).mp x)), x4_isN hR, Option.bind_some, if_pos hN0, if_neg (by decide)]
  | succ b ih =>
    intro fuel i N row s L hf hi hN hR
    obtain ⟨m, rfl, hm⟩ := ex_succ hf
    rw [f_X1_takeBackwards_L7, if_neg (by exact fun x => by have := (uI_le (a := 792) (by omega) (by omega)).mp x; omega), x4_isN hR, Option.bind_some]
    by_cases h0 : N = 0
    · rw [if_pos h0, if_neg (by decide)]
      exact ⟨9 * i, row, s, L, rfl, Nat.le_refl _, by omega, by rw [Nat.sub_self, h0]; decide, fun x _ => rfl, fun x hx => by omega⟩
    · rw [if_neg h0, if_pos (by exact rfl)]
      obtain ⟨s1, L1, g1, g2⟩ := x4_cut hR
      rw [g1, Option.bind_some]
      obtain ⟨row1, g3, g4, g5⟩ := x1_nine (f_X1_takeBackwards_L7 m) (uI (9 * i)) (P := N % 1000000000) (Nat.mod_lt _ (by decide)) s1 L1 9 0 FU (9 * i) row (by omega) (by rw [hFU]; omega) (by omega)
      rw [Nat.pow_zero, Nat.div_one] at g3
      have g3' : f_X1_takeBackwards_L29 (f_X1_takeBackwards_L7 m) FU (uI (9 * i)) (uI (N % 1000000000)) (0 : Int32) (uI (9 * i)) row s1 L1 = _ := g3
      have hN' : N / 1000000000 < 10 ^ (9 * b) := by
        apply Nat.div_lt_of_lt_mul
        rw [show (1000000000 : Nat) = 10 ^ 9 by decide, ← Nat.pow_add]
        rw [show 9 + 9 * b = 9 * (b + 1) by omega]; exact hN
      obtain ⟨c, row2, s2, L2, g6, g7, g8, g9, g10, g11⟩ := ih m (i + 1) (N / 1000000000) row1 s1 L1 (by omega) (by omega) hN' g2
      have e9 : uI (9 * i) + (9 : Int32) = uI (9 * (i + 1)) := by rw [vI_9, uI_add]; rfl
      rw [g3', e9, show 9 * i + 9 = 9 * (i + 1) by omega]
      have e10 : 10 ^ (c - 9 * i) = 1000000000 * 10 ^ (c - 9 * (i + 1)) := by
        rw [show (1000000000 : Nat) = 10 ^ 9 by decide, ← Nat.pow_add]; congr 1; omega
      refine ⟨c, row2, s2, L2, g6, by omega, g8, ?_, fun x hx => ?_, fun x hx => ?_⟩
      · rw [e10, Nat.mul_comm]
        exact (Nat.div_lt_iff_lt_mul (by decide)).mp g9
      · rw [g10 x (by omega), g4 x hx]
      · by_cases h9 : x < 9
        · rw [g10 (9 * i + x) (by omega), g5 x h9, Nat.zero_add]
          apply congrArg uI
          have ed : (10 : Nat) ^ 9 = 10 ^ x * 10 ^ (9 - x) := by rw [← Nat.pow_add]; congr 1; omega
          rw [show (1000000000 : Nat) = 10 ^ x * 10 ^ (9 - x) by rw [← ed], Nat.mod_mul_right_div_self]
          apply Nat.mod_mod_of_dvd
          exact ⟨10 ^ (9 - x - 1), by rw [← Nat.pow_succ']; congr 1; omega⟩
        · have := g11 (x - 9) (by omega)
          rw [show 9 * (i + 1) + (x - 9) = 9 * i + x by omega, Nat.div_div_eq_div_mul, show 1000000000 * 10 ^ (x - 9) = 10 ^ x by rw [show (1000000000 : Nat) = 10 ^ 9 by decide, ← Nat.pow_add]; congr 1; omega] at this
          exact this
/-- noughts at the end of a row fall away -/
theorem x1_trimL {row : Nat → Int32} {g : Nat → Nat} (hg : ∀ j, g j < 10) : ∀ c fuel, c < fuel → c ≤ 792 → (∀ j, j < c → row j = uI (g j)) → ∃ c', f_X1_trim_L0 row fuel (uI c) = some (uI c') ∧ c' ≤ c ∧ (∀ j, c' ≤ j → j < c → g j = 0) ∧ (c' = 0 ∨ g (c' - 1) ≠ 0) := by
  intro c
  induction c with
  | zero =>
    intro fuel hf hc hr
    obtain ⟨m, rfl, _⟩ := ex_succ hf
    refine ⟨0, ?_, Nat.le_refl _, fun j h1 h2 => by omega, Or.inl rfl⟩
    rw [f_X1_trim_L0, if_pos (by exact (uI_le0 (by omega)).mpr rfl)]
  | succ c ih =>
    intro fuel hf hc hr
    obtain ⟨m, rfl, hm⟩ := ex_succ hf
    have hgc := hg c
    rw [f_X1_trim_L0, if_neg (by exact fun x => by have := (uI_le0 (by omega)).mp x; omega), uI_pred, if_pos (by exact (uI_vIn (by omega)).mpr (by omega)), uI_clamp (by omega), hr c (by omega)]
    by_cases h0 : g c = 0
    · obtain ⟨c', g1, g2, g3, g4⟩ := ih m (by omega) (by omega) (fun j hj => hr j (by omega))
      rw [if_pos (by exact (uI_eq0 (by omega)).mpr h0)]
      refine ⟨c', g1, by omega, fun j h1 h2 => ?_, g4⟩
      by_cases e : j = c
      · rw [e]; exact h0
      · exact g3 j h1 (by omega)
    · rw [if_neg (by exact fun x => h0 ((uI_eq0 (by omega)).mp x))]
      exact ⟨c + 1, rfl, Nat.le_refl _, fun j h1 h2 => by omega, Or.inr (by rw [Nat.add_sub_cancel]; exact h0)⟩
/-- a row turned round -/
theorem x1_turnL {n : Nat} {row0 : Nat → Int32} (ct : Int32) (hn : n ≤ 792) : ∀ k i fuel row, (2 * i + k = n ∨ 2 * i + k = n + 1) → i ≤ n → k < fuel → (∀ x, x < i → row x = row0 (n - 1 - x) ∧ row (n - 1 - x) = row0 x) → (∀ x, i ≤ x → x + i < n → row x = row0 x) →
    ∃ row', f_X1_turn_L9 ct fuel (uI i) (iI ((n : Int) - 1 - i)) row = some row' ∧ ∀ x, x < n → row' x = row0 (n - 1 - x) := by
  intro k
  induction k using Nat.strongRecOn with
  | ind k ih =>
    intro i fuel row hik hin hf hA hB
    obtain ⟨m, rfl, hm⟩ := ex_succ hf
    rw [f_X1_turn_L9]
    by_cases hend : (n : Int) - 1 - i ≤ i
    · rw [if_pos (by exact (iI_le (by omega) (by omega) (by omega) (by omega)).mpr hend)]
      refine ⟨row, rfl, fun x hx => ?_⟩
      by_cases h1 : x < i
      · exact (hA x h1).1
      · by_cases h2 : n - 1 - x < i
        · have := (hA (n - 1 - x) h2).2
          rw [show n - 1 - (n - 1 - x) = x by omega] at this
          exact this
        · rw [hB x (by omega) (by omega)]; congr 1; omega
    · have ej : iI ((n : Int) - 1 - i) = uI (n - 1 - i) := by show iI _ = iI _; congr 1; omega
      rw [if_neg (by exact fun x => hend ((iI_le (by omega) (by omega) (by omega) (by omega)).mp x)), if_pos (by exact (uI_vIn (by omega)).mpr (by omega)), ej, if_pos (by exact (uI_vIn (by omega)).mpr (by omega)), uI_clamp (by omega), uI_clamp (by omega), uI_succ, show uI (n - 1 - i) + (-1 : Int32) = iI ((n : Int) - 1 - ((i + 1 : Nat) : Int)) from by rw [wI_m1, iI_add]; congr 1; omega]
      refine ih (k - 2) (by omega) (i + 1) m _ (by omega) (by omega) (by omega) (fun x hx => ?_) (fun x h1 h2 => ?_)
      · by_cases e : x = i
        · subst e
          constructor
          · rw [upd_ne _ _ (by omega), upd_eq, hB (n - 1 - x) (by omega) (by omega)]
          · rw [upd_eq, hB x (by omega) (by omega)]
        · rw [upd_ne _ _ (by omega), upd_ne _ _ (by omega), upd_ne _ _ (by omega), upd_ne _ _ (by omega)]
          exact hA x (by omega)
      · rw [upd_ne _ _ (by omega), upd_ne _ _ (by omega)]
        exact hB x (by omega) (by omega)
theorem x1_turn {n : Nat} {row0 : Nat → Int32} (hn : n ≤ 792) : ∃ row', f_X1_turn (uI n) row0 = some row' ∧ ∀ x, x < n → row' x = row0 (n - 1 - x) := by
  unfold f_X1_turn
  have := x1_turnL (row0 := row0) (uI n) hn n 0 FU row0 (by omega) (by omega) (by rw [hFU]; omega) (fun x hx => by omega) (fun x _ _ => rfl)
  rw [wI_1, iI_sub]
  rw [Int.natCast_zero, Int.sub_zero] at this
  exact this
