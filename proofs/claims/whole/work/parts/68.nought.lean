/-! nought, in each form -/
theorem pdl_zero (k : Int) : ∀ n q, pdl 0 k n q = List.replicate n 48 := by
  intro n
  induction n with
  | zero => intro q; rfl
  | succ n ih => intro q; unfold pdl; rw [dig_zero, ih]; rfl
theorem plc_nought (k : Int) (n : Nat) : plc 0 k (n + 1) 0 = 48 :: (if n = 0 then [] else 46 :: List.replicate n 48) := by
  rw [plc_pos _ (by omega), dig_zero]
  rcases Nat.eq_zero_or_pos n with h | h
  · subst h; rfl
  · obtain ⟨j, rfl⟩ : ∃ j, n = j + 1 := ⟨n - 1, by omega⟩
    rw [show (0 : Int) - 1 = -1 from rfl, plc_m1, pdl_zero, if_neg (by omega)]
theorem numL_zero : numL 0 = [48] := by decide
theorem pwL_nought (k : Int) (n : Nat) : pwL 0 k 0 n = 48 :: ((if n ≤ 1 then [] else [46]) ++ (List.replicate (n - 1) 48 ++ [101, 48])) := by
  unfold pwL
  rw [dig_zero, pdl_zero, numL_zero]
theorem x11_noL (fo n : Nat) (hfo : fo ≤ 5) (hn : n ≤ 60) : ∀ k i fuel l len B, i + k = n → k < fuel → shOK l len B → l.length + k + 2 ≤ 1600 →
    ∃ len' B', f_X11_putNought_L71 fuel (uI fo) (uI n) (uI i) len B = some (len', B') ∧ shOK (l ++ (List.replicate k 48 ++ (if fo = 3 then [101, 48] else []))) len' B' := by
  intro k
  induction k with
  | zero =>
    intro i fuel l len B hi hf hs hl
    obtain ⟨f, rfl, _⟩ := ex_succ hf
    rw [f_X11_putNought_L71, if_pos (by exact (uI_le (by omega) (by omega)).mpr (by omega))]
    unfold f_X11_putNought_B89
    by_cases h3 : fo = 3
    · obtain ⟨a, b, g1, g2⟩ := x11_wordT (t := 18) (bs := [101, 48]) (by simp) hs (by simp; omega)
      rw [if_pos (by rw [h3]; rfl), g1, Option.bind_some, if_pos h3]
      exact ⟨a, b, rfl, g2⟩
    · rw [if_neg (by exact fun x => h3 ((uI_eq (b := 3) (by omega) (by omega)).mp x)), if_neg h3]
      refine ⟨len, B, rfl, ?_⟩
      rw [List.replicate_zero, List.append_nil, List.append_nil]
      exact hs
  | succ k ih =>
    intro i fuel l len B hi hf hs hl
    obtain ⟨f, rfl, hf'⟩ := ex_succ hf
    obtain ⟨a, b, g1, g2⟩ := x11_putc (c := 48) hs (by omega)
    have g1' : f_X11_put_ (48 : Int32) len B = some (a, b) := g1
    obtain ⟨c, d, g3, g4⟩ := ih (i + 1) f _ a b (by omega) (by omega) g2 (by rw [List.length_append, List.length_singleton]; omega)
    rw [f_X11_putNought_L71, if_neg (by exact fun x => by have := (uI_le (by omega) (by omega)).mp x; omega), g1', Option.bind_some, uI_succ]
    refine ⟨c, d, g3, ?_⟩
    rw [List.append_assoc] at g4
    rw [List.replicate_succ]
    exact g4
theorem x11_no57 (fo n : Nat) (hfo : fo ≤ 5) (hn : n ≤ 60) {l : List Nat} {len : Int32} {B : Nat → Int32} (hs : shOK l len B) (hl : l.length ≤ 2) :
    ∃ len' B', f_X11_putNought_B57 (uI fo) (uI n) len B = some (len', B') ∧ shOK (l ++ ((if n = 0 then [] else [46]) ++ (List.replicate n 48 ++ (if fo = 3 then [101, 48] else [])))) len' B' := by
  unfold f_X11_putNought_B57
  by_cases h0 : n = 0
  · obtain ⟨a, b, g1, g2⟩ := x11_noL fo n hfo hn n 0 FU l len B (by omega) (by rw [hFU]; omega) hs (by omega)
    have g1' : f_X11_putNought_L71 FU (uI fo) (uI n) (0 : Int32) len B = some (a, b) := g1
    rw [if_pos (by exact (uI_le (b := 0) (by omega) (by omega)).mpr (by omega)), if_pos h0]
    exact ⟨a, b, g1', g2⟩
  · obtain ⟨a, b, g1, g2⟩ := x11_putc (c := 46) hs (by omega)
    have g1' : f_X11_put_ (46 : Int32) len B = some (a, b) := g1
    obtain ⟨c, d, g3, g4⟩ := x11_noL fo n hfo hn n 0 FU _ a b (by omega) (by rw [hFU]; omega) g2 (by rw [List.length_append, List.length_singleton]; omega)
    have g3' : f_X11_putNought_L71 FU (uI fo) (uI n) (0 : Int32) a b = some (c, d) := g3
    rw [if_neg (by exact fun x => by have := (uI_le (b := 0) (by omega) (by omega)).mp x; omega), g1', Option.bind_some, if_neg h0]
    refine ⟨c, d, g3', ?_⟩
    rw [List.append_assoc] at g4
    exact g4
