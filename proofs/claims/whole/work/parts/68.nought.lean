/-! nought, in each form -/
theorem pdl_zero (k : Int) : ∀ n q, pdl 0 k n q = List.replicate n 48 := by
  intro n
  induction n with
  | zero => intro q; rfl
  | succ n ih => intro q; unfold pdl; rw [dig_zero, ih]; rfl
theorem plc_nought (k : Int) (n : Nat) : plc 0 k (n + 1) 0 = 48 :: (if n = 0 then [] else 46 :: List.replicate n 48) := by
  rw [plc_pos _ (by omega), dig_zero]
  rcases Nat.eq_zero_or_pos n with h | h
  · subst h; rfl
  · obtain ⟨j, rfl⟩ : ∃ j, n = j + 1 := ⟨n - 1, by omega⟩
    rw [show (0 : Int) - 1 = -1 from rfl, plc_m1, pdl_zero, if_neg (by omega)]
theorem numL_zero : numL 0 = [48] := by decide
theorem pwL_nought (k : Int) (n : Nat) : pwL 0 k 0 n = 48 :: ((if n ≤ 1 then [] else [46]) ++ (List.replicate (n - 1) 48 ++ [101, 48])) := by
  unfold pwL
  rw [dig_zero, pdl_zero, numL_zero]
theorem x11_noL (fo n : Nat) (hfo : fo ≤ 5) (hn : n ≤ 60) : ∀ k i fuel l len B, i + k = n → k < fuel → shOK l len B → l.length + k + 2 ≤ 1600 →
    ∃ len' B', f_X11_putNought_L71 fuel (uI fo) (uI n) (uI i) len B = some (len', B') ∧ shOK (l ++ (List.replicate k 48 ++ (if fo = 3 then [101, 48] else []))) len' B' := by
  intro k
  induction k with
  | zero =>
    intro i fuel l len B hi hf hs hl
    obtain ⟨f, rfl, _⟩ := ex_succ hf
    rw [f_X11_putNought_L71, if_pos (by exact (uI_le (by omega) (by omega)).mpr (by omega))]
    unfold f_X11_putNought_B89
    by_cases h3 : fo = 3
    · obtain ⟨a, b, g1, g2⟩ := x11_wordT (t := 18) (bs := [101, 48]) (by simp) hs (by simp; omega)
      rw [if_pos (by rw [h3]; rfl), g1, Option.bind_some, if_pos h3]
      exact ⟨a, b, rfl, g2⟩
    · rw [if_neg (by exact fun x => h3 ((uI_eq (b := 3) (by omega) (by omega)).mp x)), if_neg h3]
      refine ⟨len, B, rfl, ?_⟩
      rw [List.replicate_zero, List.append_nil, List.append_nil]
      exact hs
  | succ k ih =>
    intro i fuel l len B hi hf hs hl
    obtain ⟨f, rfl, hf'⟩ := ex_succ hf
    obtain ⟨a, b, g1, g2⟩ := x11_putc (c := 48) hs (by omega)
    have g1' : f_X11_put_ (48 : Int32) len B = some (a, b) := g1
    obtain ⟨c, d, g3, g4⟩ := ih (i + 1) f _ a b (by omega) (by omega) g2 (by rw [List.length_append, List.length_singleton]; omega)
    rw [f_X11_putNought_L71, if_neg (by exact fun x => by have := (uI_le (by omega) (by omega)).mp x; omega), g1', Option.bind_some, uI_succ]
    refine ⟨c, d, g3, ?_⟩
    rw [List.append_assoc] at g4
    rw [List.replicate_succ]
    exact g4
theorem x11_no57 (fo n : Nat) (hfo : fo ≤ 5) (hn : n ≤ 60) {l : List Nat} {len : Int32} {B : Nat → Int32} (hs : shOK l len B) (hl : l.length ≤ 2) :
    ∃ len' B', f_X11_putNought_B57 (uI fo) (uI n) len B = some (len', B') ∧ shOK (l ++ ((if n = 0 then [] else [46]) ++ (List.replicate n 48 ++ (if fo = 3 then [101, 48] else [])))) len' B' := by
  unfold f_X11_putNought_B57
  by_cases h0 : n = 0
  · obtain ⟨a, b, g1, g2⟩ := x11_noL fo n hfo hn n 0 FU l len B (by omega) (by rw [hFU]; omega) hs (by omega)
    have g1' : f_X11_putNought_L71 FU (uI fo) (uI n) (0 : Int32) len B = some (a, b) := g1
    rw [if_pos (by exact (uI_le (b := 0) (by omega) (by omega)).mpr (by omega)), if_pos h0]
    exact ⟨a, b, g1', g2⟩
  · obtain ⟨a, b, g1, g2⟩ := x11_putc (c := 46) hs (by omega)
    have g1' : f_X11_put_ (46 : Int32) len B = some (a, b) := g1
    obtain ⟨c, d, g3, g4⟩ := x11_noL fo n hfo hn n 0 FU _ a b (by omega) (by rw [hFU]; omega) g2 (by rw [List.length_append, List.length_singleton]; omega)
    have g3' : f_X11_putNought_L71 FU (uI fo) (uI n) (0 : Int32) a b = some (c, d) := g3
    rw [if_neg (by exact fun x => by have := (uI_le (b := 0) (by omega) (by omega)).mp x; omega), g1', Option.bind_some, if_neg h0]
    refine ⟨c, d, g3', ?_⟩
    rw [List.append_assoc] at g4
    exact g4
theorem fg_nought (row : Nat → Int32) : fgOK 0 0 0 (0 : Int32) (0 : Int32) row := ⟨rfl, by omega, rfl, by omega, by omega, by decide, fun j hj => by omega⟩
theorem no_inPlace (n : Nat) (hn : n ≤ 60) (row : Nat → Int32) {l : List Nat} {len : Int32} {B : Nat → Int32} (hs : shOK l len B) (hl : l.length ≤ 1) :
    (l ++ (48 :: (if n = 0 then [] else 46 :: List.replicate n 48))).length ≤ 1077 ∧ ∃ len' B', f_X3_printInPlace (0 : Int32) (0 : Int32) row (uI n) len B = some (len', B') ∧ shOK (l ++ (48 :: (if n = 0 then [] else 46 :: List.replicate n 48))) len' B' := by
  have e1 : plc 0 ((0 : Int) - ((0 : Nat) : Int) + 1) (max (0 : Int) 0 + (n : Int) + 1).toNat (max (0 : Int) 0) = 48 :: (if n = 0 then [] else 46 :: List.replicate n 48) := by
    rw [show (max (0 : Int) 0 + (n : Int) + 1).toNat = n + 1 by omega, show (max (0 : Int) 0) = 0 by omega, plc_nought]
  have hlen : (l ++ (48 :: (if n = 0 then [] else 46 :: List.replicate n 48))).length ≤ 1077 := by
    rw [List.length_append, List.length_cons]
    split
    · simp; omega
    · rw [List.length_cons, List.length_replicate]; omega
  refine ⟨hlen, ?_⟩
  obtain ⟨a, b, g1, g2⟩ := x3_inPlace (b := (n : Int)) (fg_nought row) (by omega) (by omega) hs (by rw [e1, ← List.length_append]; exact hlen)
  rw [e1] at g2
  exact ⟨a, b, g1, g2⟩
theorem no_powered (n : Nat) (hn1 : 1 ≤ n) (hn : n ≤ 60) (row : Nat → Int32) {l : List Nat} {len : Int32} {B : Nat → Int32} (hs : shOK l len B) (hl : l.length ≤ 1) :
    (l ++ (48 :: ((if n ≤ 1 then [] else [46]) ++ (List.replicate (n - 1) 48 ++ [101, 48])))).length ≤ 1077 ∧ ∃ len' B', f_X3_printPowered (0 : Int32) (0 : Int32) row (uI n) len B = some (len', B') ∧ shOK (l ++ (48 :: ((if n ≤ 1 then [] else [46]) ++ (List.replicate (n - 1) 48 ++ [101, 48])))) len' B' := by
  obtain ⟨a, b, g1, g2⟩ := x3_powered (n := n) (fg_nought row) (by omega) hn1 hs hl
  rw [pwL_nought] at g2
  refine ⟨?_, a, b, g1, g2⟩
  rw [← pwL_nought (0 - ((0 : Nat) : Int) + 1) n, List.length_append]
  have := pwL_len 0 (0 - ((0 : Nat) : Int) + 1) 0 n
  omega
theorem k_no {fo : Nat} {p3 : Int32} (hfo : fo ≤ 5) (h4 : fo ≠ 4) (h2 : fo = 2 → ∃ n, n ≤ 60 ∧ p3 = uI n) (h3 : fo = 3 → ∃ n, 1 ≤ n ∧ n ≤ 60 ∧ p3 = uI n) (row : Nat → Int32) {l : List Nat} {len : Int32} {B : Nat → Int32} (hs : shOK l len B) (hl : l.length ≤ 1) {len2 : Int32} {B2 : Nat → Int32} (hs2 : shOK l len2 B2) :
    ∃ l' : List Nat, l'.length ≤ 1077 ∧ (∃ len' B', f_X3_printFigures (0 : Int32) (0 : Int32) row (uI fo) p3 len B = some (len', B') ∧ shOK l' len' B') ∧ (∃ len' B', f_X11_putNought (uI fo) p3 len2 B2 = some (len', B') ∧ shOK l' len' B') := by
  have hmax : f_J9_max_7cf53 (((0 : Int32) - (1 : Int32)) - (0 : Int32)) (0 : Int32) = some (uI 0) := by decide +kernel
  have hmax1 : f_J9_max_7cf53 (0 : Int32) (1 : Int32) = some (uI 1) := by decide +kernel
  obtain ⟨a, b, g1, g2⟩ := x11_putc (c := 48) hs2 (by omega)
  have g1' : f_X11_put_ (48 : Int32) len2 B2 = some (a, b) := g1
  have hl2 : (l ++ [48]).length ≤ 2 := by rw [List.length_append, List.length_singleton]; omega
  have hplain : ∀ fo : Nat, fo = 0 ∨ fo = 5 → ∃ l' : List Nat, l'.length ≤ 1077 ∧ (∃ len' B', f_X3_printFigures (0 : Int32) (0 : Int32) row (uI fo) p3 len B = some (len', B') ∧ shOK l' len' B') ∧ (∃ len' B', f_X11_putNought (uI fo) p3 len2 B2 = some (len', B') ∧ shOK l' len' B') := by
    intro fo hfo
    have n1 : ¬ uI fo = 1 := by rcases hfo with rfl | rfl <;> decide
    have n2 : ¬ uI fo = 2 := by rcases hfo with rfl | rfl <;> decide
    have n3 : ¬ uI fo = 3 := by rcases hfo with rfl | rfl <;> decide
    have n4 : ¬ uI fo = 4 := by rcases hfo with rfl | rfl <;> decide
    obtain ⟨hlen, c, d, p1, p2⟩ := no_inPlace 0 (by omega) row hs hl
    obtain ⟨c2, d2, q1, q2⟩ := x11_no57 fo 0 (by omega) (by omega) g2 hl2
    have q1' : f_X11_putNought_B57 (uI fo) (0 : Int32) a b = some (c2, d2) := q1
    refine ⟨_, hlen, ⟨c, d, ?_, p2⟩, ⟨c2, d2, ?_, ?_⟩⟩
    · unfold f_X3_printFigures
      rw [if_neg n1, if_neg n2, if_neg n3, hmax, Option.bind_some, p1, Option.bind_some]
    · unfold f_X11_putNought
      rw [if_neg n1, if_neg n4, g1', Option.bind_some, if_neg n2, if_neg n3]
      exact q1'
    · rw [if_pos rfl, if_neg (by omega), List.append_assoc] at q2
      exact q2
  have hcs : fo = 0 ∨ fo = 1 ∨ fo = 2 ∨ fo = 3 ∨ fo = 5 := by clear h2 h3 hplain; omega
  rcases hcs with rfl | rfl | rfl | rfl | rfl
  · exact hplain 0 (Or.inl rfl)
  · obtain ⟨hlen, c, d, p1, p2⟩ := no_powered 1 (by omega) (by omega) row hs hl
    obtain ⟨c2, d2, q1, q2⟩ := x11_wordT (t := 16) (bs := [48, 101, 48]) (by simp) hs2 (by simp; omega)
    refine ⟨_, hlen, ⟨c, d, ?_, p2⟩, ⟨c2, d2, ?_, q2⟩⟩
    · unfold f_X3_printFigures
      rw [if_pos (by rfl), hmax1, Option.bind_some, p1, Option.bind_some]
    · unfold f_X11_putNought
      rw [if_pos (by rfl), q1, Option.bind_some]
  · obtain ⟨n, hn, rfl⟩ := h2 rfl
    obtain ⟨hlen, c, d, p1, p2⟩ := no_inPlace n hn row hs hl
    obtain ⟨c2, d2, q1, q2⟩ := x11_no57 2 n (by omega) hn g2 hl2
    refine ⟨_, hlen, ⟨c, d, ?_, p2⟩, ⟨c2, d2, ?_, ?_⟩⟩
    · unfold f_X3_printFigures
      rw [if_neg (by decide), if_pos (by rfl), p1, Option.bind_some]
    · unfold f_X11_putNought
      rw [if_neg (by decide), if_neg (by decide), g1', Option.bind_some, if_pos (by rfl)]
      exact q1
    · rw [if_neg (show ¬ (2 : Nat) = 3 by decide), List.append_nil, List.append_assoc] at q2
      by_cases h0 : n = 0
      · subst h0; exact q2
      · rw [if_neg h0] at q2 ⊢; exact q2
  · obtain ⟨n, hn1, hn, rfl⟩ := h3 rfl
    obtain ⟨hlen, c, d, p1, p2⟩ := no_powered n hn1 hn row hs hl
    obtain ⟨c2, d2, q1, q2⟩ := x11_no57 3 (n - 1) (by omega) (by omega) g2 hl2
    have en : uI n - 1 = uI (n - 1) := uI_sub (b := 1) hn1
    refine ⟨_, hlen, ⟨c, d, ?_, p2⟩, ⟨c2, d2, ?_, ?_⟩⟩
    · unfold f_X3_printFigures
      rw [if_neg (by decide), if_neg (by decide), if_pos (by rfl), p1, Option.bind_some]
    · unfold f_X11_putNought
      rw [if_neg (by decide), if_neg (by decide), g1', Option.bind_some, if_neg (by decide), if_pos (by rfl), en]
      exact q1
    · rw [if_pos rfl, List.append_assoc] at q2
      by_cases h0 : n ≤ 1
      · rw [if_pos h0]
        rw [if_pos (by omega)] at q2
        exact q2
      · rw [if_neg h0]
        rw [if_neg (by omega)] at q2
        exact q2
  · exact hplain 5 (Or.inr rfl)
