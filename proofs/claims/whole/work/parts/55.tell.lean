/-! the reference's figures -/
def tlOK (N c : Nat) (fg : Nat → Int32) : Prop := c ≤ 1200 ∧ N < 10 ^ c ∧ (c = 0 ∨ 10 ^ (c - 1) ≤ N) ∧ ∀ j, j < c → fg j = uI (N / 10 ^ (c - 1 - j) % 10)
theorem x11_turnL {n : Nat} {row0 : Nat → Int32} (pl : Int32) (pd : Nat → Int32) (fm sl : Int32) (Dl : Nat → Int32) (hn : n ≤ 1200) : ∀ k i fuel row, (2 * i + k = n ∨ 2 * i + k = n + 1) → i ≤ n → k < fuel → (∀ x, x < i → row x = row0 (n - 1 - x) ∧ row (n - 1 - x) = row0 x) → (∀ x, i ≤ x → x + i < n → row x = row0 x) →
    ∃ row', f_X11_tell_L53 pl pd fuel (uI i) (iI ((n : Int) - 1 - i)) fm sl Dl row = some (fm, sl, Dl, row') ∧ ∀ x, x < n → row' x = row0 (n - 1 - x) := by
  intro k
  induction k using Nat.strongRecOn with
  | ind k ih =>
    intro i fuel row hik hin hf hA hB
    obtain ⟨m, rfl, hm⟩ := ex_succ hf
    rw [f_X11_tell_L53]
    by_cases hend : (n : Int) - 1 - i ≤ i
    · rw [if_pos (by exact (iI_le (by omega) (by omega) (by omega) (by omega)).mpr hend)]
      refine ⟨row, rfl, fun x hx => ?_⟩
      by_cases h1 : x < i
      · exact (hA x h1).1
      · by_cases h2 : n - 1 - x < i
        · have := (hA (n - 1 - x) h2).2
          rw [show n - 1 - (n - 1 - x) = x by omega] at this
          exact this
        · rw [hB x (by omega) (by omega)]; congr 1; omega
    · have ej : iI ((n : Int) - 1 - i) = uI (n - 1 - i) := by show iI _ = iI _; congr 1; omega
      rw [if_neg (by exact fun x => hend ((iI_le (by omega) (by omega) (by omega) (by omega)).mp x)), if_pos (by exact (uI_vIn (by omega)).mpr (by omega)), ej, if_pos (by exact (uI_vIn (by omega)).mpr (by omega)), uI_clamp (by omega), uI_clamp (by omega), uI_succ, show uI (n - 1 - i) + (-1 : Int32) = iI ((n : Int) - 1 - ((i + 1 : Nat) : Int)) from by rw [wI_m1, iI_add]; congr 1; omega]
      refine ih (k - 2) (by omega) (i + 1) m _ (by omega) (by omega) (by omega) (fun x hx => ?_) (fun x h1 h2 => ?_)
      · by_cases e : x = i
        · subst e
          constructor
          · rw [upd_ne _ _ (by omega), upd_eq, hB (n - 1 - x) (by omega) (by omega)]
          · rw [upd_eq, hB x (by omega) (by omega)]
        · rw [upd_ne _ _ (by omega), upd_ne _ _ (by omega), upd_ne _ _ (by omega), upd_ne _ _ (by omega)]
          exact hA x (by omega)
      · rw [upd_ne _ _ (by omega), upd_ne _ _ (by omega)]
        exact hB x (by omega) (by omega)
theorem x11_tellL {N : Nat} (pl : Int32) (pd : Nat → Int32) (fm : Int32) (hN : N < 10 ^ 1200) : ∀ n k fuel s D fg, k + n = 1200 → n < fuel → R30 s D (N / 10 ^ k) → (∀ x, x < k → 10 ^ x ≤ N) → (∀ x, x < k → fg x = uI (N / 10 ^ x % 10)) →
    ∃ c s' D' fg', f_X11_tell_L10 pl pd fuel (uI k) fm s D fg = some (uI c, s', D', fg') ∧ tlOK N c fg' := by
  have hend : ∀ k s D fg, k ≤ 1200 → N / 10 ^ k = 0 → (∀ x, x < k → 10 ^ x ≤ N) → (∀ x, x < k → fg x = uI (N / 10 ^ x % 10)) → ∃ c s' D' fg', f_X11_tell_B41 pl pd (uI k) fm s D fg = some (uI c, s', D', fg') ∧ tlOK N c fg' := by
    intro k s D fg hk h0 hl hd
    unfold f_X11_tell_B41
    obtain ⟨row', g1, g2⟩ := x11_turnL (row0 := fg) pl pd (uI k) s D hk k 0 FU fg (by omega) (by omega) (by rw [hFU]; omega) (fun x hx => by omega) (fun x _ _ => rfl)
    rw [Int.natCast_zero, Int.sub_zero] at g1
    rw [wI_1, iI_sub]
    refine ⟨k, s, D, row', g1, hk, (Nat.div_eq_zero_iff_lt (ten_pos k)).mp h0, ?_, fun j hj => ?_⟩
    · by_cases hk0 : k = 0
      · exact Or.inl hk0
      · exact Or.inr (hl (k - 1) (by omega))
    · rw [g2 j hj, hd _ (by omega)]
  intro n
  induction n with
  | zero =>
    intro k fuel s D fg hk hf hR hl hd
    obtain ⟨m, rfl, _⟩ := ex_succ hf
    have h0 : N / 10 ^ k = 0 := Nat.div_eq_of_lt (by rw [show k = 1200 by omega]; exact hN)
    have hs := (r30_len0 hR).mpr h0
    rw [f_X11_tell_L10, if_pos (by rw [hs]; decide)]
    exact hend k s D fg (by omega) h0 hl hd
  | succ n ih =>
    intro k fuel s D fg hk hf hR hl hd
    obtain ⟨m, rfl, hm⟩ := ex_succ hf
    rw [f_X11_tell_L10]
    by_cases h0 : N / 10 ^ k = 0
    · have hs := (r30_len0 hR).mpr h0
      rw [if_pos (by rw [hs]; decide)]
      exact hend k s D fg (by omega) h0 hl hd
    · have hge : 10 ^ k ≤ N := by
        apply Nat.le_of_not_lt
        intro hlt
        exact h0 (Nat.div_eq_of_lt hlt)
      have hs : ¬ s ≤ 0 := by
        obtain ⟨q, hq, rfl, _⟩ := id hR
        intro hle
        have hq0 := (uI_le0 (by omega)).mp hle
        subst hq0
        exact h0 ((r30_len0 hR).mp rfl)
      obtain ⟨s1, D1, g1, g2⟩ := x10_div hR (d := 10) (by decide) (by decide)
      have g1' : f_X10_divide (10 : Int32) s D = some (uI (N / 10 ^ k % 10), s1, D1) := g1
      rw [if_neg hs, g1', Option.bind_some, if_pos (by exact (uI_vIn (by omega)).mpr (by omega)), uI_clamp (by omega), uI_succ]
      refine ih (k + 1) m s1 D1 _ (by omega) (by omega) ?_ (fun x hx => ?_) (fun x hx => ?_)
      · rw [Nat.pow_succ, ← Nat.div_div_eq_div_mul]; exact g2
      · by_cases e : x = k
        · rw [e]; exact hge
        · exact hl x (by omega)
      · by_cases e : x = k
        · subst e; rw [upd_eq]
        · rw [upd_ne _ _ e]; exact hd x (by omega)
theorem x11_tell {N : Nat} {nl : Int32} {nd : Nat → Int32} (h : R30 nl nd N) (hN : N < 10 ^ 1200) (fm sl : Int32) (Dl fg : Nat → Int32) : ∃ c s' D' fg', f_X11_tell nl nd fm sl Dl fg = some (uI c, s', D', fg') ∧ tlOK N c fg' := by
  unfold f_X11_tell
  obtain ⟨s1, D1, g1, g2⟩ := x10_copy h sl Dl
  rw [g1, Option.bind_some]
  exact x11_tellL nl nd fm hN 1200 0 FU s1 D1 fg (by omega) (by rw [hFU]; omega) (by rw [Nat.pow_zero, Nat.div_one]; exact g2) (fun x hx => by omega) (fun x hx => by omega)
/-- a figure by its place -/
theorem tl_dig {N c j : Nat} {k : Int} {fg : Nat → Int32} (h : tlOK N c fg) (hj : j < c) : (48 : Int32) + fg j = uI (48 + dig N k (c + k - 1 - j)) := by
  rw [h.2.2.2 j hj, show (48 : Int32) = uI 48 from rfl, uI_add]
  unfold dig
  rw [if_pos (by omega), show (c + k - 1 - j - k).toNat = c - 1 - j by omega]
theorem dig_hi {N c : Nat} {k q : Int} (h : N < 10 ^ c) (hq : c + k ≤ q) : dig N k q = 0 := by
  unfold dig
  split
  · rw [Nat.div_eq_of_lt (Nat.lt_of_lt_of_le h (Nat.pow_le_pow_right (by decide) (by omega)))]
  · rfl
theorem dig_lo {N : Nat} {k q : Int} (hq : q < k) : dig N k q = 0 := by unfold dig; rw [if_neg (by omega)]
/-- behind the point -/
theorem plc_neg {D : Nat} {k : Int} : ∀ n q, q < -1 → plc D k n q = pdl D k n q := by
  intro n
  induction n with
  | zero => intro q _; rfl
  | succ n ih => intro q hq; unfold plc pdl; rw [if_neg (by omega), List.nil_append, ih _ (by omega)]
theorem plc_m1 {D : Nat} {k : Int} (n : Nat) : plc D k (n + 1) (-1) = 46 :: pdl D k (n + 1) (-1) := by
  unfold plc pdl
  rw [if_pos rfl, plc_neg _ _ (by omega)]; rfl
theorem x11_plain75 {N c : Nat} {k : Int} {fg : Nat → Int32} (h : tlOK N c fg) (hk1 : -2000 ≤ k) (hk2 : k ≤ 2000) : ∀ (n : Nat) (i : Int) (fuel : Nat) l len B, i + n = c → n < fuel → -3000 ≤ i → shOK l len B → l.length + n ≤ 1600 →
    ∃ len' B', f_X11_putPlain_L75 (uI c) (iI k) fg fuel (iI i) len B = some (len', B') ∧ shOK (l ++ pdl N k n (c + k - 1 - i)) len' B' := by
  have hc := h.1
  intro n
  induction n with
  | zero =>
    intro i fuel l len B hi hf hi2 hs hl
    obtain ⟨m, rfl, _⟩ := ex_succ hf
    rw [f_X11_putPlain_L75, if_pos (by exact (iI_le (by omega) (by omega) (by omega) (by omega)).mpr (by omega)), show pdl N k 0 (c + k - 1 - i) = [] from rfl, List.append_nil]
    exact ⟨_, _, rfl, hs⟩
  | succ n ih =>
    intro i fuel l len B hi hf hi2 hs hl
    obtain ⟨m, rfl, hm⟩ := ex_succ hf
    obtain ⟨a, b, g1, g2⟩ := x11_putc (c := 48 + dig N k (c + k - 1 - i)) hs (by omega)
    obtain ⟨c', d, g3, g4⟩ := ih (i + 1) m _ a b (by omega) (by omega) (by omega) g2 (by rw [List.length_append, List.length_singleton]; omega)
    have hB : f_X11_putPlain_B102 (uI c) (iI k) fg (f_X11_putPlain_L75 (uI c) (iI k) fg m) (iI i) (uI (48 + dig N k (c + k - 1 - i))) len B = some (c', d) := by
      unfold f_X11_putPlain_B102
      rw [g1, Option.bind_some, wI_1, iI_add]; exact g3
    refine ⟨c', d, ?_, ?_⟩
    · rw [f_X11_putPlain_L75, if_neg (by exact fun x => by have := (iI_le (by omega) (by omega) (by omega) (by omega)).mp x; omega)]
      by_cases hn : 0 ≤ i
      · have ei : iI i = uI i.toNat := by show iI _ = iI _; congr 1; omega
        have hd := tl_dig (k := k) h (j := i.toNat) (by omega)
        rw [show (i.toNat : Int) = i by omega] at hd
        rw [if_pos (by rw [wI_0, iI_le (by omega) (by omega) (by omega) (by omega)]; exact hn), if_pos (by rw [ei]; exact (uI_vIn (by omega)).mpr (by omega)), show (iI i).toNatClampNeg = i.toNat from by rw [ei, uI_clamp (by omega)], hd]
        exact hB
      · have h0 : dig N k (c + k - 1 - i) = 0 := dig_hi h.2.1 (by omega)
        rw [h0] at hB
        rw [if_neg (by rw [wI_0, iI_le (by omega) (by omega) (by omega) (by omega)]; exact hn)]
        exact hB
    · rw [List.append_assoc, show (c : Int) + k - 1 - (i + 1) = c + k - 1 - i - 1 by omega] at g4
      exact g4
theorem plc_pos {D : Nat} {k : Int} (n : Nat) {q : Int} (hq : q ≠ -1) : plc D k (n + 1) q = (48 + dig D k q) :: plc D k n (q - 1) := by
  conv => lhs; unfold plc
  rw [if_neg hq, List.nil_append]
/-- behind the point, the reference -/
theorem x11_plain59 {N c : Nat} {k : Int} {fg : Nat → Int32} (h : tlOK N c fg) (hk1 : -2000 ≤ k) (hk2 : k ≤ 2000) {l : List Nat} {len : Int32} {B : Nat → Int32} (hs : shOK l len B) (hl : l.length + (-k).toNat + 1 ≤ 1600) :
    ∃ len' B', f_X11_putPlain_B59 (uI c) (iI k) fg (iI (c + k)) len B = some (len', B') ∧ shOK (l ++ plc N k (-k).toNat (-1)) len' B' := by
  have hc := h.1
  unfold f_X11_putPlain_B59
  by_cases hn : k < 0
  · obtain ⟨a, b, g1, g2⟩ := x11_putc (c := 46) hs (by omega)
    have g1' : f_X11_put_ (46 : Int32) len B = some (a, b) := g1
    obtain ⟨c', d, g3, g4⟩ := x11_plain75 h hk1 hk2 (-k).toNat (c + k) FU _ a b (by omega) (by rw [hFU]; omega) (by omega) g2 (by rw [List.length_append, List.length_singleton]; omega)
    rw [if_pos (by rw [wI_0, iI_lt (by omega) (by omega) (by omega) (by omega)]; exact hn), g1', Option.bind_some]
    refine ⟨c', d, g3, ?_⟩
    obtain ⟨y, hy⟩ : ∃ y, (-k).toNat = y + 1 := ⟨(-k).toNat - 1, by omega⟩
    rw [hy, plc_m1]
    rw [hy, List.append_assoc, show (c : Int) + k - 1 - (c + k) = -1 by omega] at g4
    exact g4
  · rw [if_neg (by rw [wI_0, iI_lt (by omega) (by omega) (by omega) (by omega)]; exact hn), show (-k).toNat = 0 by omega]
    exact ⟨_, _, rfl, by rw [show plc N k 0 (-1) = [] from rfl, List.append_nil]; exact hs⟩
theorem x11_plain22 {N c : Nat} {k : Int} {fg : Nat → Int32} (h : tlOK N c fg) (hk1 : -2000 ≤ k) (hk2 : k ≤ 2000) : ∀ (n : Nat) (i : Nat) (fuel : Nat) l len B, (i : Int) + n = max (c + k) 0 → n < fuel → shOK l len B → l.length + n + (-k).toNat + 1 ≤ 1600 →
    ∃ len' B', f_X11_putPlain_L22 (uI c) (iI k) fg fuel (iI (c + k)) (uI i) len B = some (len', B') ∧ shOK (l ++ plc N k (n + (-k).toNat) ((n : Int) - 1)) len' B' := by
  have hc := h.1
  intro n
  induction n with
  | zero =>
    intro i fuel l len B hi hf hs hl
    obtain ⟨m, rfl, _⟩ := ex_succ hf
    rw [f_X11_putPlain_L22, if_pos (by exact (iI_le (by omega) (by omega) (by omega) (by omega)).mpr (by omega)), Nat.zero_add]
    exact x11_plain59 h hk1 hk2 hs (by omega)
  | succ n ih =>
    intro i fuel l len B hi hf hs hl
    obtain ⟨m, rfl, hm⟩ := ex_succ hf
    have hq : ((n + 1 : Nat) : Int) - 1 = c + k - 1 - i := by omega
    obtain ⟨a, b, g1, g2⟩ := x11_putc (c := 48 + dig N k (c + k - 1 - i)) hs (by omega)
    obtain ⟨c', d, g3, g4⟩ := ih (i + 1) m _ a b (by omega) (by omega) g2 (by rw [List.length_append, List.length_singleton]; omega)
    have hB : f_X11_putPlain_B50 (uI c) (iI k) fg (f_X11_putPlain_L22 (uI c) (iI k) fg m) (iI (c + k)) (uI i) (uI (48 + dig N k (c + k - 1 - i))) len B = some (c', d) := by
      unfold f_X11_putPlain_B50
      rw [g1, Option.bind_some, uI_succ]; exact g3
    refine ⟨c', d, ?_, ?_⟩
    · rw [f_X11_putPlain_L22, if_neg (by exact fun x => by have := (iI_le (by omega) (by omega) (by omega) (by omega)).mp x; omega)]
      by_cases hn : c ≤ i
      · have h0 : dig N k (c + k - 1 - i) = 0 := dig_lo (by omega)
        rw [h0] at hB
        rw [if_pos (by exact (uI_le (by omega) (by omega)).mpr hn)]
        exact hB
      · have hd := tl_dig (k := k) h (j := i) (by omega)
        rw [if_neg (by exact fun x => hn ((uI_le (by omega) (by omega)).mp x)), if_pos (by exact (uI_vIn (by omega)).mpr (by omega)), uI_clamp (by omega), hd]
        exact hB
    · rw [show n + 1 + (-k).toNat = (n + (-k).toNat) + 1 by omega, hq, plc_pos _ (by omega)]
      rw [List.append_assoc, show (n : Int) - 1 = c + k - 1 - i - 1 by omega] at g4
      exact g4
theorem x11_plain {N c : Nat} {k : Int} {fg : Nat → Int32} (h : tlOK N c fg) (hk1 : -2000 ≤ k) (hk2 : k ≤ 2000) {l : List Nat} {len : Int32} {B : Nat → Int32} (hs : shOK l len B) (hl : l.length + (max (c + k) 0).toNat + (-k).toNat + 3 ≤ 1600) :
    ∃ len' B', f_X11_putPlain (uI c) (iI k) fg len B = some (len', B') ∧ shOK (l ++ plc N k ((max (c + k - 1) 0).toNat + 1 + (-k).toNat) (max (c + k - 1) 0)) len' B' := by
  have hc := h.1
  unfold f_X11_putPlain
  rw [iI_add]
  by_cases hp : 0 < (c : Int) + k
  · obtain ⟨a, b, g1, g2⟩ := x11_plain22 h hk1 hk2 (c + k).toNat 0 FU l len B (by omega) (by rw [hFU]; omega) hs (by omega)
    have g1' : f_X11_putPlain_L22 (uI c) (iI k) fg FU (iI (c + k)) (0 : Int32) len B = some (a, b) := g1
    rw [if_pos (by rw [wI_0, iI_lt (by omega) (by omega) (by omega) (by omega)]; exact hp)]
    refine ⟨a, b, g1', ?_⟩
    rw [show ((c + k).toNat : Int) - 1 = max (c + k - 1) 0 by omega] at g2
    rw [show (max ((c : Int) + k - 1) 0).toNat + 1 + (-k).toNat = (c + k).toNat + (-k).toNat by omega]
    exact g2
  · obtain ⟨a, b, g1, g2⟩ := x11_putc (c := 48) hs (by omega)
    have g1' : f_X11_put_ (48 : Int32) len B = some (a, b) := g1
    obtain ⟨c', d, g3, g4⟩ := x11_plain22 h hk1 hk2 0 0 FU _ a b (by omega) (by rw [hFU]; omega) g2 (by rw [List.length_append, List.length_singleton]; omega)
    have g3' : f_X11_putPlain_L22 (uI c) (iI k) fg FU (iI (c + k)) (0 : Int32) a b = some (c', d) := g3
    rw [if_neg (by rw [wI_0, iI_lt (by omega) (by omega) (by omega) (by omega)]; exact hp), g1', Option.bind_some]
    refine ⟨c', d, g3', ?_⟩
    have h0 : dig N k 0 = 0 := dig_hi h.2.1 (by omega)
    rw [show (max ((c : Int) + k - 1) 0) = 0 by omega, show (0 : Int).toNat + 1 + (-k).toNat = (-k).toNat + 1 by omega, plc_pos _ (by omega), h0]
    rw [List.append_assoc, Nat.zero_add] at g4
    exact g4
theorem x11_powL {N c : Nat} {k : Int} {fg : Nat → Int32} (h : tlOK N c fg) (hc1 : 1 ≤ c) (hc2 : c ≤ 100) (hk1 : -2000 ≤ k) (hk2 : k ≤ 2000) : ∀ n i fuel l len B, i + n = c → n < fuel → shOK l len B → l.length + n + 10 ≤ 1590 →
    ∃ len' B', f_X11_putPowered_L29 (uI c) (iI k) fg fuel (uI i) len B = some (len', B') ∧ shOK (l ++ (pdl N k n (c + k - 1 - i) ++ (101 :: numL (c + k - 1)))) len' B' := by
  intro n
  induction n with
  | zero =>
    intro i fuel l len B hi hf hs hl
    obtain ⟨m, rfl, _⟩ := ex_succ hf
    rw [f_X11_putPowered_L29, if_pos (by exact (uI_le (by omega) (by omega)).mpr (by omega))]
    unfold f_X11_putPowered_B56
    obtain ⟨a, b, g1, g2⟩ := x11_putc (c := 101) hs (by omega)
    have g1' : f_X11_put_ (101 : Int32) len B = some (a, b) := g1
    obtain ⟨c', d, g3, g4⟩ := x11_num (v := c + k - 1) (by omega) (by omega) g2 (by rw [List.length_append, List.length_singleton]; omega)
    rw [g1', Option.bind_some, iI_add, wI_1, iI_sub, show k + (c : Int) - 1 = c + k - 1 by omega, g3, Option.bind_some]
    refine ⟨_, _, rfl, ?_⟩
    rw [List.append_assoc] at g4
    exact g4
  | succ n ih =>
    intro i fuel l len B hi hf hs hl
    obtain ⟨m, rfl, hm⟩ := ex_succ hf
    obtain ⟨a, b, g1, g2⟩ := x11_putc (c := 48 + dig N k (c + k - 1 - i)) hs (by omega)
    obtain ⟨c', d, g3, g4⟩ := ih (i + 1) m _ a b (by omega) (by omega) g2 (by rw [List.length_append, List.length_singleton]; omega)
    have hd := tl_dig (k := k) h (j := i) (by omega)
    rw [f_X11_putPowered_L29, if_neg (by exact fun x => by have := (uI_le (by omega) (by omega)).mp x; omega), if_pos (by exact (uI_vIn (by omega)).mpr (by omega)), uI_clamp (by omega), hd, g1, Option.bind_some, uI_succ]
    refine ⟨c', d, g3, ?_⟩
    rw [List.append_assoc, show (c : Int) + k - 1 - ((i + 1 : Nat) : Int) = c + k - 1 - i - 1 by omega] at g4
    exact g4
theorem x11_powered {N c : Nat} {k : Int} {fg : Nat → Int32} (h : tlOK N c fg) (hc1 : 1 ≤ c) (hc2 : c ≤ 100) (hk1 : -2000 ≤ k) (hk2 : k ≤ 2000) {l : List Nat} {len : Int32} {B : Nat → Int32} (hs : shOK l len B) (hl : l.length ≤ 1) :
    ∃ len' B', f_X11_putPowered (uI c) (iI k) fg len B = some (len', B') ∧ shOK (l ++ pwL N k (c + k - 1) c) len' B' := by
  have hd := tl_dig (k := k) h (j := 0) (by omega)
  rw [Int.natCast_zero, Int.sub_zero] at hd
  obtain ⟨a, b, g1, g2⟩ := x11_putc (c := 48 + dig N k (c + k - 1)) hs (by omega)
  unfold f_X11_putPowered pwL
  rw [hd, g1, Option.bind_some]
  have hlen : (l ++ [48 + dig N k (c + k - 1)]).length ≤ 2 := by rw [List.length_append, List.length_singleton]; omega
  by_cases h1 : c ≤ 1
  · obtain ⟨p, q, g5, g6⟩ := x11_powL h hc1 hc2 hk1 hk2 (c - 1) 1 FU _ a b (by omega) (by rw [hFU]; omega) g2 (by omega)
    rw [if_pos (by exact (uI_le (b := 1) (by omega) (by omega)).mpr h1), if_pos h1]
    refine ⟨p, q, g5, ?_⟩
    rw [List.append_assoc] at g6
    exact g6
  · obtain ⟨c', d, g3, g4⟩ := x11_putc (c := 46) g2 (by omega)
    have g3' : f_X11_put_ (46 : Int32) (a, b).1 (a, b).2 = some (c', d) := g3
    obtain ⟨p, q, g5, g6⟩ := x11_powL h hc1 hc2 hk1 hk2 (c - 1) 1 FU _ c' d (by omega) (by rw [hFU]; omega) g4 (by rw [List.length_append, List.length_singleton]; omega)
    rw [if_neg (by exact fun x => h1 ((uI_le (b := 1) (by omega) (by omega)).mp x)), if_neg h1, g3', Option.bind_some]
    refine ⟨p, q, g5, ?_⟩
    rw [List.append_assoc, List.append_assoc] at g6
    exact g6
