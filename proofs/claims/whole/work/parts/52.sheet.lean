/-! words and powers on both sheets -/
theorem x5_textL {t : Nat} {bs : List Nat} (h1 : sLen t = uI bs.length) (h2 : (sByt t).length = bs.length) (h3 : ∀ i (h : i < bs.length), sChr t (uI i) = uI bs[i]) (hb : bs.length < 100) :
    ∀ k i fuel l len B, i + k = bs.length → k < fuel → shOK l len B → l.length + k ≤ 1077 → ∃ len' B', f_X5_putText_L2 t fuel (uI i) len B = some (len', B') ∧ shOK (l ++ bs.drop i) len' B' := by
  intro k
  induction k with
  | zero =>
    intro i fuel l len B hk hf hs hl
    obtain ⟨m, rfl, _⟩ := ex_succ hf
    rw [f_X5_putText_L2, h1, if_pos (by exact (uI_le (by omega) (by omega)).mpr (by omega)), List.drop_of_length_le (by omega), List.append_nil]
    exact ⟨_, _, rfl, hs⟩
  | succ k ih =>
    intro i fuel l len B hk hf hs hl
    obtain ⟨m, rfl, hm⟩ := ex_succ hf
    obtain ⟨len1, B1, g1, g2⟩ := x5_put (c := bs[i]) hs (by omega)
    obtain ⟨len2, B2, g3, g4⟩ := ih (i + 1) m (l ++ [bs[i]]) len1 B1 (by omega) (by omega) g2 (by rw [List.length_append, List.length_singleton]; omega)
    refine ⟨len2, B2, ?_, ?_⟩
    · rw [f_X5_putText_L2, h1, if_neg (by exact fun x => by have := (uI_le (by omega) (by omega)).mp x; omega), h2, if_pos (by exact (uI_vIn (by omega)).mpr (by omega)), h3 i (by omega), g1, Option.bind_some, uI_succ]
      exact g3
    · rw [List.append_assoc, List.singleton_append, List.getElem_cons_drop] at g4
      exact g4
theorem x11_wordL {t : Nat} {bs : List Nat} (h1 : sLen t = uI bs.length) (h2 : (sByt t).length = bs.length) (h3 : ∀ i (h : i < bs.length), sChr t (uI i) = uI bs[i]) (hb : bs.length < 100) :
    ∀ k i fuel l len B, i + k = bs.length → k < fuel → shOK l len B → l.length + k ≤ 1600 → ∃ len' B', f_X11_putWord_L2 t fuel (uI i) len B = some (len', B') ∧ shOK (l ++ bs.drop i) len' B' := by
  intro k
  induction k with
  | zero =>
    intro i fuel l len B hk hf hs hl
    obtain ⟨m, rfl, _⟩ := ex_succ hf
    rw [f_X11_putWord_L2, h1, if_pos (by exact (uI_le (by omega) (by omega)).mpr (by omega)), List.drop_of_length_le (by omega), List.append_nil]
    exact ⟨_, _, rfl, hs⟩
  | succ k ih =>
    intro i fuel l len B hk hf hs hl
    obtain ⟨m, rfl, hm⟩ := ex_succ hf
    obtain ⟨len1, B1, g1, g2⟩ := x11_putc (c := bs[i]) hs (by omega)
    obtain ⟨len2, B2, g3, g4⟩ := ih (i + 1) m (l ++ [bs[i]]) len1 B1 (by omega) (by omega) g2 (by rw [List.length_append, List.length_singleton]; omega)
    refine ⟨len2, B2, ?_, ?_⟩
    · rw [f_X11_putWord_L2, h1, if_neg (by exact fun x => by have := (uI_le (by omega) (by omega)).mp x; omega), h2, if_pos (by exact (uI_vIn (by omega)).mpr (by omega)), h3 i (by omega), g1, Option.bind_some, uI_succ]
      exact g3
    · rw [List.append_assoc, List.singleton_append, List.getElem_cons_drop] at g4
      exact g4
theorem x5_text {t : Nat} {bs : List Nat} (h1 : sLen t = uI bs.length) (h2 : (sByt t).length = bs.length) (h3 : ∀ i (h : i < bs.length), sChr t (uI i) = uI bs[i]) (hb : bs.length < 100) {l : List Nat} {len : Int32} {B : Nat → Int32} (hs : shOK l len B) (hl : l.length + bs.length ≤ 1077) :
    ∃ len' B', f_X5_putText t len B = some (len', B') ∧ shOK (l ++ bs) len' B' := by
  have := x5_textL h1 h2 h3 hb bs.length 0 FU l len B (by omega) (by rw [hFU]; omega) hs hl
  rw [List.drop_zero] at this
  exact this
theorem x11_word {t : Nat} {bs : List Nat} (h1 : sLen t = uI bs.length) (h2 : (sByt t).length = bs.length) (h3 : ∀ i (h : i < bs.length), sChr t (uI i) = uI bs[i]) (hb : bs.length < 100) {l : List Nat} {len : Int32} {B : Nat → Int32} (hs : shOK l len B) (hl : l.length + bs.length ≤ 1600) :
    ∃ len' B', f_X11_putWord t len B = some (len', B') ∧ shOK (l ++ bs) len' B' := by
  have := x11_wordL h1 h2 h3 hb bs.length 0 FU l len B (by omega) (by rw [hFU]; omega) hs hl
  rw [List.drop_zero] at this
  exact this
/-- the bytes of the texts by their numbers -/
theorem tx_all : ∀ q ∈ [(10, [110, 97, 110]), (11, [105, 110, 102]), (12, [48, 120, 48, 112, 48]), (13, [48, 120, 49]), (14, [110, 97, 110]), (15, [105, 110, 102]), (16, [48, 101, 48]), (17, [48, 120, 48, 112, 48]), (18, [101, 48]), (19, [48, 120, 49])],
    sLen q.1 = uI q.2.length ∧ (sByt q.1).length = q.2.length ∧ (∀ i : Fin q.2.length, sChr q.1 (uI i.val) = uI q.2[i]) ∧ q.2.length < 100 := by decide +kernel
theorem x5_textT {t : Nat} {bs : List Nat} (hq : (t, bs) ∈ [(10, [110, 97, 110]), (11, [105, 110, 102]), (12, [48, 120, 48, 112, 48]), (13, [48, 120, 49]), (14, [110, 97, 110]), (15, [105, 110, 102]), (16, [48, 101, 48]), (17, [48, 120, 48, 112, 48]), (18, [101, 48]), (19, [48, 120, 49])]) {l : List Nat} {len : Int32} {B : Nat → Int32} (hs : shOK l len B) (hl : l.length + bs.length ≤ 1077) :
    ∃ len' B', f_X5_putText t len B = some (len', B') ∧ shOK (l ++ bs) len' B' := by
  obtain ⟨h1, h2, h3, h4⟩ := tx_all (t, bs) hq
  exact x5_text h1 h2 (fun i h => h3 ⟨i, h⟩) h4 hs hl
theorem x11_wordT {t : Nat} {bs : List Nat} (hq : (t, bs) ∈ [(10, [110, 97, 110]), (11, [105, 110, 102]), (12, [48, 120, 48, 112, 48]), (13, [48, 120, 49]), (14, [110, 97, 110]), (15, [105, 110, 102]), (16, [48, 101, 48]), (17, [48, 120, 48, 112, 48]), (18, [101, 48]), (19, [48, 120, 49])]) {l : List Nat} {len : Int32} {B : Nat → Int32} (hs : shOK l len B) (hl : l.length + bs.length ≤ 1600) :
    ∃ len' B', f_X11_putWord t len B = some (len', B') ∧ shOK (l ++ bs) len' B' := by
  obtain ⟨h1, h2, h3, h4⟩ := tx_all (t, bs) hq
  exact x11_word h1 h2 (fun i h => h3 ⟨i, h⟩) h4 hs hl
/-! a number of up to four figures -/
def pnL (s : Nat) : List Nat := (if s < 1000 then [] else [48 + s / 1000 % 10]) ++ ((if s < 100 then [] else [48 + s / 100 % 10]) ++ ((if s < 10 then [] else [48 + s / 10 % 10]) ++ [48 + s % 10]))
def numL (v : Int) : List Nat := (if v < 0 then [45] else []) ++ pnL v.natAbs
theorem numL_len (v : Int) : (numL v).length ≤ 5 := by
  unfold numL pnL
  split <;> split <;> split <;> split <;> simp
theorem abs_iI {v : Int} (h1 : -10000 < v) (h2 : v < 10000) : f_J9_abs_0f7a4 (iI v) = some (uI v.natAbs) := by
  unfold f_J9_abs_0f7a4
  by_cases h : 0 ≤ v
  · rw [if_pos (by rw [wI_0, iI_le (by omega) (by omega) (by omega) (by omega)]; exact h)]
    congr 1; show iI v = iI (v.natAbs : Int); congr 1; omega
  · rw [if_neg (by rw [wI_0, iI_le (by omega) (by omega) (by omega) (by omega)]; exact h), iI_neg]
    congr 1; show iI (-v) = iI (v.natAbs : Int); congr 1; omega
theorem dg_char (s d : Nat) (hs : s < 100000) (hd : 0 < d) (hd2 : d < 100000) : (48 : Int32) + irm (uI s / uI d) (10 : Int32) = uI (48 + s / d % 10) := by
  have hq : s / d < 100000 := Nat.lt_of_le_of_lt (Nat.div_le_self _ _) hs
  rw [uI_div (by omega) hd (by omega), vI_10, uI_rem (by omega) (by decide) (by decide), show (48 : Int32) = uI 48 from rfl, uI_add]
theorem x5_num {v : Int} (h1 : -10000 < v) (h2 : v < 10000) {l : List Nat} {len : Int32} {B : Nat → Int32} (hs : shOK l len B) (hl : l.length + 5 ≤ 1077) :
    ∃ len' B', f_X5_putNumber (iI v) len B = some (len', B') ∧ shOK (l ++ numL v) len' B' := by
  have hs4 : v.natAbs < 10000 := by omega
  have hB77 : ∀ (l : List Nat) len B, shOK l len B → l.length < 1077 → ∃ len' B', f_X5_putNumber_B77 (uI v.natAbs) len B = some (len', B') ∧ shOK (l ++ [48 + v.natAbs % 10]) len' B' := by
    intro l len B hs hl
    unfold f_X5_putNumber_B77
    obtain ⟨a, b, g1, g2⟩ := x5_put (c := 48 + v.natAbs % 10) hs hl
    rw [vI_10, uI_rem (by omega) (by decide) (by decide), show (48 : Int32) = uI 48 from rfl, uI_add, g1]
    exact ⟨_, _, rfl, g2⟩
  have hB57 : ∀ (l : List Nat) len B, shOK l len B → l.length + 2 ≤ 1077 → ∃ len' B', f_X5_putNumber_B57 (uI v.natAbs) len B = some (len', B') ∧ shOK (l ++ ((if v.natAbs < 10 then [] else [48 + v.natAbs / 10 % 10]) ++ [48 + v.natAbs % 10])) len' B' := by
    intro l len B hs hl
    unfold f_X5_putNumber_B57
    by_cases h : v.natAbs < 10
    · rw [if_pos (by exact (uI_lt (b := 10) (by omega) (by omega)).mpr h), if_pos h, List.nil_append]
      exact hB77 l len B hs (by omega)
    · obtain ⟨a, b, g1, g2⟩ := x5_put (c := 48 + v.natAbs / 10 % 10) hs (by omega)
      obtain ⟨c, d, g3, g4⟩ := hB77 _ a b g2 (by rw [List.length_append, List.length_singleton]; omega)
      have e := dg_char v.natAbs 10 (by omega) (by decide) (by decide)
      have e' : (48 : Int32) + irm (uI v.natAbs / (10 : Int32)) (10 : Int32) = uI (48 + v.natAbs / 10 % 10) := e
      rw [if_neg (by exact fun x => h ((uI_lt (b := 10) (by omega) (by omega)).mp x)), if_neg h, e', g1, Option.bind_some, ← List.append_assoc]
      exact ⟨c, d, g3, g4⟩
  have hB37 : ∀ (l : List Nat) len B, shOK l len B → l.length + 3 ≤ 1077 → ∃ len' B', f_X5_putNumber_B37 (uI v.natAbs) len B = some (len', B') ∧ shOK (l ++ ((if v.natAbs < 100 then [] else [48 + v.natAbs / 100 % 10]) ++ ((if v.natAbs < 10 then [] else [48 + v.natAbs / 10 % 10]) ++ [48 + v.natAbs % 10]))) len' B' := by
    intro l len B hs hl
    unfold f_X5_putNumber_B37
    by_cases h : v.natAbs < 100
    · rw [if_pos (by exact (uI_lt (b := 100) (by omega) (by omega)).mpr h), if_pos h, List.nil_append]
      exact hB57 l len B hs (by omega)
    · obtain ⟨a, b, g1, g2⟩ := x5_put (c := 48 + v.natAbs / 100 % 10) hs (by omega)
      obtain ⟨c, d, g3, g4⟩ := hB57 _ a b g2 (by rw [List.length_append, List.length_singleton]; omega)
      have e := dg_char v.natAbs 100 (by omega) (by decide) (by decide)
      have e' : (48 : Int32) + irm (uI v.natAbs / (100 : Int32)) (10 : Int32) = uI (48 + v.natAbs / 100 % 10) := e
      rw [if_neg (by exact fun x => h ((uI_lt (b := 100) (by omega) (by omega)).mp x)), if_neg h, e', g1, Option.bind_some, ← List.append_assoc]
      exact ⟨c, d, g3, g4⟩
  have hB10 : ∀ (l : List Nat) len B, shOK l len B → l.length + 4 ≤ 1077 → ∃ len' B', f_X5_putNumber_B10 (iI v) len B = some (len', B') ∧ shOK (l ++ pnL v.natAbs) len' B' := by
    intro l len B hs hl
    unfold f_X5_putNumber_B10 pnL
    rw [abs_iI h1 h2, Option.bind_some]
    by_cases h : v.natAbs < 1000
    · rw [if_pos (by exact (uI_lt (b := 1000) (by omega) (by omega)).mpr h), if_pos h, List.nil_append]
      exact hB37 l len B hs (by omega)
    · obtain ⟨a, b, g1, g2⟩ := x5_put (c := 48 + v.natAbs / 1000 % 10) hs (by omega)
      obtain ⟨c, d, g3, g4⟩ := hB37 _ a b g2 (by rw [List.length_append, List.length_singleton]; omega)
      have e := dg_char v.natAbs 1000 (by omega) (by decide) (by decide)
      have e' : (48 : Int32) + irm (uI v.natAbs / (1000 : Int32)) (10 : Int32) = uI (48 + v.natAbs / 1000 % 10) := e
      rw [if_neg (by exact fun x => h ((uI_lt (b := 1000) (by omega) (by omega)).mp x)), if_neg h, e', g1, Option.bind_some, ← List.append_assoc]
      exact ⟨c, d, g3, g4⟩
  unfold f_X5_putNumber numL
  by_cases hneg : v < 0
  · obtain ⟨a, b, g1, g2⟩ := x5_put (c := 45) hs (by omega)
    obtain ⟨c, d, g3, g4⟩ := hB10 _ a b g2 (by rw [List.length_append, List.length_singleton]; omega)
    have g1' : f_X5_put (45 : Int32) len B = some (a, b) := g1
    rw [if_neg (by rw [wI_0, iI_le (by omega) (by omega) (by omega) (by omega)]; omega), g1', Option.bind_some, if_pos hneg, ← List.append_assoc]
    exact ⟨c, d, g3, g4⟩
  · rw [if_pos (by rw [wI_0, iI_le (by omega) (by omega) (by omega) (by omega)]; omega), if_neg hneg, List.nil_append]
    exact hB10 l len B hs (by omega)
/-! the same by the reference -/
def dlL (s : Nat) : Nat → List Nat
  | 0 => [48 + s / 10 ^ 0 % 10]
  | j + 1 => (48 + s / 10 ^ (j + 1) % 10) :: dlL s j
theorem dlL_len (s j : Nat) : (dlL s j).length = j + 1 := by
  induction j with
  | zero => rfl
  | succ j ih => show (dlL s j).length + 1 = _; rw [ih]
theorem x11_pow36 {s : Nat} (hs4 : s < 10000) : ∀ j fuel l len B, j < 4 → j + 1 < fuel → shOK l len B → l.length + j + 1 ≤ 1600 → ∃ len' B', f_X11_putPower_L36 fuel (uI s) (uI (10 ^ j)) len B = some (len', B') ∧ shOK (l ++ dlL s j) len' B' := by
  intro j
  induction j with
  | zero =>
    intro fuel l len B hj hf hs hl
    obtain ⟨m, rfl, hm⟩ := ex_succ hf
    obtain ⟨m, rfl, _⟩ := ex_succ (a := 0) (b := m) (by omega)
    obtain ⟨a, b, g1, g2⟩ := x11_putc (c := 48 + s / 10 ^ 0 % 10) hs (by omega)
    have e := dg_char s (10 ^ 0) (by omega) (by decide) (by decide)
    rw [f_X11_putPower_L36, if_neg (by decide), if_neg (by decide), e, g1, Option.bind_some, show uI (10 ^ 0) / (10 : Int32) = uI 0 by decide, f_X11_putPower_L36, if_pos (by decide)]
    exact ⟨_, _, rfl, g2⟩
  | succ j ih =>
    intro fuel l len B hj hf hs hl
    obtain ⟨m, rfl, hm⟩ := ex_succ hf
    have hp : 10 ^ (j + 1) ≤ 10 ^ 3 := Nat.pow_le_pow_right (by decide) (by omega)
    have hp0 : 0 < 10 ^ (j + 1) := Nat.pow_pos (by decide)
    obtain ⟨a, b, g1, g2⟩ := x11_putc (c := 48 + s / 10 ^ (j + 1) % 10) hs (by omega)
    obtain ⟨c, d, g3, g4⟩ := ih m _ a b (by omega) (by omega) g2 (by rw [List.length_append, List.length_singleton]; omega)
    have e := dg_char s (10 ^ (j + 1)) (by omega) hp0 (by omega)
    have ed : uI (10 ^ (j + 1)) / (10 : Int32) = uI (10 ^ j) := by
      rw [vI_10, uI_div (by omega) (by decide) (by decide), Nat.pow_succ, Nat.mul_div_cancel _ (by decide)]
    rw [f_X11_putPower_L36, if_neg (by exact fun x => by have := (uI_le0 (by omega)).mp x; omega), if_neg (by exact fun x => by have := (uI_eq0 (by omega)).mp x; omega), e, g1, Option.bind_some, ed]
    refine ⟨c, d, g3, ?_⟩
    rw [List.append_assoc] at g4
    exact g4
theorem x11_pow17 {s : Nat} (hs4 : s < 10000) {l : List Nat} {len : Int32} {B : Nat → Int32} (hs : shOK l len B) (hl : l.length + 5 ≤ 1590) : ∃ len' B', f_X11_putPower_L17 FU (uI s) 1 len B = some (len', B') ∧ shOK (l ++ pnL s) len' B' := by
  have step : ∀ j m, j < 4 → f_X11_putPower_L17 (m + 1) (uI s) (uI (10 ^ j)) len B = (if s / 10 ^ j ≤ 9 then f_X11_putPower_L36 FU (uI s) (uI (10 ^ j)) len B else f_X11_putPower_L17 m (uI s) (uI (10 ^ (j + 1))) len B) := by
    intro j m hj
    have hp : 10 ^ j ≤ 10 ^ 3 := Nat.pow_le_pow_right (by decide) (by omega)
    have hp0 : 0 < 10 ^ j := Nat.pow_pos (by decide)
    have hq : s / 10 ^ j < 100000 := Nat.lt_of_le_of_lt (Nat.div_le_self _ _) (by omega)
    rw [f_X11_putPower_L17, if_neg (by exact fun x => by have := (uI_eq0 (by omega)).mp x; omega), uI_div (by omega) hp0 (by omega), show uI (10 ^ j) * (10 : Int32) = uI (10 ^ (j + 1)) from by rw [vI_10, uI_mul, Nat.pow_succ]]
    by_cases h9 : s / 10 ^ j ≤ 9
    · rw [if_pos (by exact (uI_le (b := 9) (by omega) (by omega)).mpr h9), if_pos h9]
    · rw [if_neg (by exact fun x => h9 ((uI_le (b := 9) (by omega) (by omega)).mp x)), if_neg h9]
  have fin : ∀ j, j < 4 → ∃ len' B', f_X11_putPower_L36 FU (uI s) (uI (10 ^ j)) len B = some (len', B') ∧ shOK (l ++ dlL s j) len' B' := fun j hj => x11_pow36 hs4 j FU l len B hj (by rw [hFU]; omega) hs (by omega)
  have s0 := step 0 99999 (by omega)
  have s1 := step 1 99998 (by omega)
  have s2 := step 2 99997 (by omega)
  have s3 := step 3 99996 (by omega)
  have s0' : f_X11_putPower_L17 FU (uI s) 1 len B = _ := s0
  rw [s0']
  by_cases c0 : s / 10 ^ 0 ≤ 9
  · rw [if_pos c0]
    have : pnL s = dlL s 0 := by
      unfold pnL
      rw [if_pos (by omega), if_pos (by omega), if_pos (by omega)]
      show [48 + s % 10] = [48 + s / 10 ^ 0 % 10]
      rw [Nat.pow_zero, Nat.div_one]
    rw [this]; exact fin 0 (by omega)
  · rw [if_neg c0, s1]
    by_cases c1 : s / 10 ^ 1 ≤ 9
    · rw [if_pos c1]
      have : pnL s = dlL s 1 := by
        unfold pnL
        rw [if_pos (by omega), if_pos (by omega), if_neg (by omega)]
        show [48 + s / 10 % 10, 48 + s % 10] = [48 + s / 10 ^ 1 % 10, 48 + s / 10 ^ 0 % 10]
        rw [Nat.pow_zero, Nat.div_one, Nat.pow_one]
      rw [this]; exact fin 1 (by omega)
    · rw [if_neg c1, s2]
      by_cases c2 : s / 10 ^ 2 ≤ 9
      · rw [if_pos c2]
        have : pnL s = dlL s 2 := by
          unfold pnL
          rw [if_pos (by omega), if_neg (by omega), if_neg (by omega)]
          show [48 + s / 100 % 10, 48 + s / 10 % 10, 48 + s % 10] = [48 + s / 10 ^ 2 % 10, 48 + s / 10 ^ 1 % 10, 48 + s / 10 ^ 0 % 10]
          rw [Nat.pow_zero, Nat.div_one, Nat.pow_one]
        rw [this]; exact fin 2 (by omega)
      · rw [if_neg c2, s3, if_pos (by omega)]
        have : pnL s = dlL s 3 := by
          unfold pnL
          rw [if_neg (by omega), if_neg (by omega), if_neg (by omega)]
          show [48 + s / 1000 % 10, 48 + s / 100 % 10, 48 + s / 10 % 10, 48 + s % 10] = [48 + s / 10 ^ 3 % 10, 48 + s / 10 ^ 2 % 10, 48 + s / 10 ^ 1 % 10, 48 + s / 10 ^ 0 % 10]
          rw [Nat.pow_zero, Nat.div_one, Nat.pow_one]
        rw [this]; exact fin 3 (by omega)
theorem x11_num {v : Int} (h1 : -10000 < v) (h2 : v < 10000) {l : List Nat} {len : Int32} {B : Nat → Int32} (hs : shOK l len B) (hl : l.length + 6 ≤ 1590) :
    ∃ len' B', f_X11_putPower (iI v) len B = some (len', B') ∧ shOK (l ++ numL v) len' B' := by
  unfold f_X11_putPower f_X11_putPower_B10 numL
  rw [abs_iI h1 h2]
  by_cases hneg : v < 0
  · obtain ⟨a, b, g1, g2⟩ := x11_putc (c := 45) hs (by omega)
    obtain ⟨c, d, g3, g4⟩ := x11_pow17 (s := v.natAbs) (by omega) g2 (by rw [List.length_append, List.length_singleton]; omega)
    have g1' : f_X11_put_ (45 : Int32) len B = some (a, b) := g1
    rw [if_neg (by rw [wI_0, iI_le (by omega) (by omega) (by omega) (by omega)]; omega), g1', Option.bind_some, if_pos hneg, ← List.append_assoc, Option.bind_some]
    exact ⟨c, d, g3, g4⟩
  · obtain ⟨c, d, g3, g4⟩ := x11_pow17 (s := v.natAbs) (by omega) hs (by omega)
    rw [if_pos (by rw [wI_0, iI_le (by omega) (by omega) (by omega) (by omega)]; omega), if_neg hneg, List.nil_append, Option.bind_some]
    exact ⟨c, d, g3, g4⟩
/-! by sixteens -/
def hxC (d : Nat) : Nat := if d < 10 then 48 + d else 97 + d - 10
def hxL : Nat → Nat → List Nat
  | 0, _ => []
  | n + 1, v => if v = 0 then [] else hxC (v / 2 ^ 60) :: hxL n (v * 16 % 2 ^ 64)
theorem hx_char {v : Nat} (hv : v < 2 ^ 64) : (if (10 : Int32) ≤ (lus (uL v) (60 : Int32)).toInt32 then ((97 : Int32) + (lus (uL v) (60 : Int32)).toInt32) - (10 : Int32) else (48 : Int32) + (lus (uL v) (60 : Int32)).toInt32) = uI (hxC (v / 2 ^ 60)) := by
  have hq : v / 2 ^ 60 < 16 := by omega
  rw [show (60 : Int32) = uI 60 from rfl, uL_lus (by omega) (by decide), uL_toI]
  unfold hxC
  generalize v / 2 ^ 60 = d at *
  by_cases h : d < 10
  · rw [if_neg (by exact fun x => by have := (uI_le (a := 10) (by omega) (by omega)).mp x; omega), if_pos h]
    exact uI_add 48 d
  · rw [if_pos (by exact (uI_le (a := 10) (by omega) (by omega)).mpr (by omega)), if_neg h, show (97 : Int32) + uI d = uI (97 + d) from uI_add 97 d]
    exact uI_sub (b := 10) (by omega)
theorem hx_next (v : Nat) : lsh (uL v) (4 : Int32) = uL (v * 16 % 2 ^ 64) := by
  rw [vI_4, uL_lsh _ (by decide)]
  apply iL_eqm
  omega
theorem x3_sixL {k m : Nat} {e : Int} (hm : m < 2 ^ 53) (he1 : -1100 ≤ e) (he2 : e ≤ 1000) : ∀ n v i fuel l len B, i + n = 16 → n < fuel → v < 2 ^ 64 → shOK l len B → l.length + n + 6 ≤ 1077 →
    ∃ len' B', f_X3_printSixteens_L59 (uI k) (uL m) (iI e) fuel (uL v) (uI i) len B = some (len', B') ∧ shOK (l ++ (hxL n v ++ (112 :: numL (e + bl m - 1)))) len' B' := by
  have hend : ∀ l len B, shOK l len B → l.length + 6 ≤ 1077 → ∃ len' B', f_X3_printSixteens_B119 (uI k) (uL m) (iI e) len B = some (len', B') ∧ shOK (l ++ (112 :: numL (e + bl m - 1))) len' B' := by
    intro l len B hs hl
    have hb : bl m ≤ 53 := bl_le_of_lt hm
    unfold f_X3_printSixteens_B119
    obtain ⟨a, b, g1, g2⟩ := x5_put (c := 112) hs (by omega)
    have g1' : f_X5_put (112 : Int32) len B = some (a, b) := g1
    obtain ⟨c, d, g3, g4⟩ := x5_num (v := e + bl m - 1) (by omega) (by omega) g2 (by rw [List.length_append, List.length_singleton]; omega)
    rw [g1', Option.bind_some, x8_bits hm, Option.bind_some, iI_add, wI_1, iI_sub, g3, Option.bind_some]
    refine ⟨_, _, rfl, ?_⟩
    rw [List.append_assoc] at g4
    exact g4
  intro n
  induction n with
  | zero =>
    intro v i fuel l len B hi hf hv hs hl
    obtain ⟨q, rfl, _⟩ := ex_succ hf
    rw [f_X3_printSixteens_L59, if_pos (by exact (uI_le (a := 16) (by omega) (by omega)).mpr (by omega))]
    exact hend l len B hs (by omega)
  | succ n ih =>
    intro v i fuel l len B hi hf hv hs hl
    obtain ⟨q, rfl, hq⟩ := ex_succ hf
    rw [f_X3_printSixteens_L59, if_neg (by exact fun x => by have := (uI_le (a := 16) (by omega) (by omega)).mp x; omega)]
    unfold hxL
    by_cases h0 : v = 0
    · rw [if_pos (by exact (uL_cmp0 (by omega)).mpr h0), if_pos h0, List.nil_append]
      exact hend l len B hs (by omega)
    · rw [if_neg (by exact fun x => h0 ((uL_cmp0 (by omega)).mp x)), if_neg h0]
      have hc := hx_char hv
      obtain ⟨a, b, g1, g2⟩ := x5_put (c := hxC (v / 2 ^ 60)) hs (by omega)
      obtain ⟨c, d, g3, g4⟩ := ih (v * 16 % 2 ^ 64) (i + 1) q _ a b (by omega) (by omega) (by omega) g2 (by rw [List.length_append, List.length_singleton]; omega)
      have hgo : f_X3_printSixteens_B106 (uI k) (uL m) (iI e) (f_X3_printSixteens_L59 (uI k) (uL m) (iI e) q) (uL v) (uI i) (uI (hxC (v / 2 ^ 60))) len B = some (c, d) := by
        unfold f_X3_printSixteens_B106
        rw [g1, Option.bind_some, hx_next, uI_succ]
        exact g3
      refine ⟨c, d, ?_, ?_⟩
      · split
        · rename_i hge
          rw [if_pos hge] at hc
          rw [hc]; exact hgo
        · rename_i hge
          rw [if_neg hge] at hc
          rw [hc]; exact hgo
      · rw [List.append_assoc] at g4
        exact g4
theorem x11_sixL {b0 m : Nat} {e : Int} (hb0 : b0 ≤ 64) (he1 : -1100 ≤ e) (he2 : e ≤ 1000) : ∀ n v i fuel l len B, i + n = 16 → n + 1 < fuel → v < 2 ^ 64 → v % 2 ^ (4 * i) = 0 → shOK l len B → l.length + n + 10 ≤ 1590 →
    ∃ len' B', f_X11_putSixteens_L49 (uL m) (iI e) fuel (uI b0) (uL v) len B = some (len', B') ∧ shOK (l ++ (hxL n v ++ (112 :: numL (e + b0 - 1)))) len' B' := by
  have hend : ∀ l len B, shOK l len B → l.length + 10 ≤ 1590 → ∃ len' B', f_X11_putSixteens_B96 (uL m) (iI e) (uI b0) len B = some (len', B') ∧ shOK (l ++ (112 :: numL (e + b0 - 1))) len' B' := by
    intro l len B hs hl
    unfold f_X11_putSixteens_B96
    obtain ⟨a, b, g1, g2⟩ := x11_putc (c := 112) hs (by omega)
    have g1' : f_X11_put_ (112 : Int32) len B = some (a, b) := g1
    obtain ⟨c, d, g3, g4⟩ := x11_num (v := e + b0 - 1) (by omega) (by omega) g2 (by rw [List.length_append, List.length_singleton]; omega)
    rw [g1', Option.bind_some, iI_add, wI_1, iI_sub, g3, Option.bind_some]
    refine ⟨_, _, rfl, ?_⟩
    rw [List.append_assoc] at g4
    exact g4
  intro n
  induction n with
  | zero =>
    intro v i fuel l len B hi hf hv hz hs hl
    obtain ⟨q, rfl, _⟩ := ex_succ hf
    have h0 : v = 0 := by
      rw [show 4 * i = 64 by omega] at hz
      rwa [Nat.mod_eq_of_lt hv] at hz
    rw [f_X11_putSixteens_L49, if_pos (by exact (uL_cmp0 (by omega)).mpr h0)]
    exact hend l len B hs (by omega)
  | succ n ih =>
    intro v i fuel l len B hi hf hv hz hs hl
    obtain ⟨q, rfl, hq⟩ := ex_succ hf
    rw [f_X11_putSixteens_L49]
    unfold hxL
    by_cases h0 : v = 0
    · rw [if_pos (by exact (uL_cmp0 (by omega)).mpr h0), if_pos h0, List.nil_append]
      exact hend l len B hs (by omega)
    · rw [if_neg (by exact fun x => h0 ((uL_cmp0 (by omega)).mp x)), if_neg h0]
      have hc := hx_char hv
      obtain ⟨a, b, g1, g2⟩ := x11_putc (c := hxC (v / 2 ^ 60)) hs (by omega)
      have hz2 : v * 16 % 2 ^ 64 % 2 ^ (4 * (i + 1)) = 0 := by
        have hd : 2 ^ (4 * (i + 1)) ∣ 2 ^ 64 := Nat.pow_dvd_pow 2 (by omega)
        rw [Nat.mod_mod_of_dvd _ hd, show 4 * (i + 1) = 4 * i + 4 by omega, Nat.pow_add, show (2 : Nat) ^ 4 = 16 from rfl, Nat.mul_mod_mul_right, hz, Nat.zero_mul]
      obtain ⟨c, d, g3, g4⟩ := ih (v * 16 % 2 ^ 64) (i + 1) q _ a b (by omega) (by omega) (by omega) hz2 g2 (by rw [List.length_append, List.length_singleton]; omega)
      have hgo : f_X11_putSixteens_B86 (uL m) (iI e) (f_X11_putSixteens_L49 (uL m) (iI e) q) (uI b0) (uL v) (uI (hxC (v / 2 ^ 60))) len B = some (c, d) := by
        unfold f_X11_putSixteens_B86
        rw [g1, Option.bind_some, hx_next]
        exact g3
      refine ⟨c, d, ?_, ?_⟩
      · split
        · rename_i hge
          rw [if_pos hge] at hc
          rw [hc]; exact hgo
        · rename_i hge
          rw [if_neg hge] at hc
          rw [hc]; exact hgo
      · rw [List.append_assoc] at g4
        exact g4
/-- the figures of sixteen of a number that isn't nought -/
def sixL (m : Nat) (e : Int) : List Nat := [48, 120, 49] ++ ((if m * 2 ^ (65 - bl m) % 2 ^ 64 = 0 then [] else [46]) ++ (hxL 16 (m * 2 ^ (65 - bl m) % 2 ^ 64) ++ (112 :: numL (e + bl m - 1))))
theorem x3_six {k m : Nat} {e : Int} (hk : k ≠ 0) (hk4 : k ≤ 4) (hm : m < 2 ^ 53) (hm0 : m ≠ 0) (he1 : -1100 ≤ e) (he2 : e ≤ 1000) {l : List Nat} {len : Int32} {B : Nat → Int32} (hs : shOK l len B) (hl : l.length ≤ 1) :
    ∃ len' B', f_X3_printSixteens (uI k) (uL m) (iI e) len B = some (len', B') ∧ shOK (l ++ sixL m e) len' B' := by
  have hb : bl m ≤ 53 := bl_le_of_lt hm
  have hbp := bl_pos hm0
  unfold f_X3_printSixteens sixL
  obtain ⟨a, b, g1, g2⟩ := x5_textT (t := 13) (bs := [48, 120, 49]) (by decide) hs (by simp only [List.length_cons, List.length_nil]; omega)
  have esh : lsh (lsh (uL m) ((64 : Int32) - uI (bl m))) (1 : Int32) = uL (m * 2 ^ (65 - bl m) % 2 ^ 64) := by
    rw [show (64 : Int32) - uI (bl m) = uI (64 - bl m) from uI_sub (a := 64) (by omega), uL_lsh _ (by omega), vI_1, uL_lsh _ (by decide), Nat.mul_assoc, ← Nat.pow_add, show 64 - bl m + 1 = 65 - bl m by omega]
    apply iL_eqm
    omega
  rw [if_neg (by exact fun x => hk ((uI_eq0 (by omega)).mp x)), g1, Option.bind_some, x8_bits hm, Option.bind_some, esh]
  have hv : m * 2 ^ (65 - bl m) % 2 ^ 64 < 2 ^ 64 := Nat.mod_lt _ (by decide)
  generalize m * 2 ^ (65 - bl m) % 2 ^ 64 = v at *
  have hlen : (l ++ [48, 120, 49]).length ≤ 4 := by simp only [List.length_append, List.length_cons, List.length_nil]; omega
  by_cases h0 : v = 0
  · rw [if_pos (by exact (uL_cmp0 (by omega)).mpr h0), if_pos h0, List.nil_append, ← List.append_assoc]
    exact x3_sixL hm he1 he2 16 v 0 FU _ a b (by omega) (by rw [hFU]; omega) hv g2 (by omega)
  · obtain ⟨c, d, g3, g4⟩ := x5_put (c := 46) g2 (by omega)
    have g3' : f_X5_put (46 : Int32) (a, b).1 (a, b).2 = some (c, d) := g3
    obtain ⟨p, q, g5, g6⟩ := x3_sixL (k := k) hm he1 he2 16 v 0 FU _ c d (by omega) (by rw [hFU]; omega) hv g4 (by rw [List.length_append, List.length_singleton]; omega)
    rw [if_neg (by exact fun x => h0 ((uL_cmp0 (by omega)).mp x)), if_neg h0, g3', Option.bind_some]
    refine ⟨p, q, g5, ?_⟩
    rw [List.append_assoc, List.append_assoc] at g6
    exact g6
theorem x11_six {m : Nat} {e : Int} (hm : m < 2 ^ 53) (hm0 : m ≠ 0) (he1 : -1100 ≤ e) (he2 : e ≤ 1000) {l : List Nat} {len : Int32} {B : Nat → Int32} (hs : shOK l len B) (hl : l.length ≤ 1) :
    ∃ len' B', f_X11_putSixteens (uL m) (iI e) len B = some (len', B') ∧ shOK (l ++ sixL m e) len' B' := by
  have hb : bl m ≤ 53 := bl_le_of_lt hm
  have hbp := bl_pos hm0
  unfold f_X11_putSixteens
  have e64 : (64 : Int32) - iI (64 - (bl m : Int)) = uI (bl m) := by rw [wI_64, iI_sub]; show iI _ = iI _; congr 1; omega
  have hv : m * 2 ^ (65 - bl m) % 2 ^ 64 < 2 ^ 64 := Nat.mod_lt _ (by decide)
  have hB29 : ∃ len' B', f_X11_putSixteens_B29 (uL m) (iI e) (uI (bl m)) (uL (m * 2 ^ (65 - bl m) % 2 ^ 64)) len B = some (len', B') ∧ shOK (l ++ sixL m e) len' B' := by
    unfold f_X11_putSixteens_B29 sixL
    obtain ⟨a, b, g1, g2⟩ := x11_wordT (t := 19) (bs := [48, 120, 49]) (by decide) hs (by simp only [List.length_cons, List.length_nil]; omega)
    rw [g1, Option.bind_some]
    generalize m * 2 ^ (65 - bl m) % 2 ^ 64 = v at *
    have hlen : (l ++ [48, 120, 49]).length ≤ 4 := by simp only [List.length_append, List.length_cons, List.length_nil]; omega
    by_cases h0 : v = 0
    · rw [if_pos (by exact (uL_cmp0 (by omega)).mpr h0), if_pos h0, List.nil_append, ← List.append_assoc]
      exact x11_sixL (by omega) he1 he2 16 v 0 FU _ a b (by omega) (by rw [hFU]; omega) hv (by rw [Nat.mul_zero, Nat.pow_zero, Nat.mod_one]) g2 (by omega)
    · obtain ⟨c, d, g3, g4⟩ := x11_putc (c := 46) g2 (by omega)
      have g3' : f_X11_put_ (46 : Int32) (a, b).1 (a, b).2 = some (c, d) := g3
      obtain ⟨p, q, g5, g6⟩ := x11_sixL (m := m) (b0 := bl m) (by omega) he1 he2 16 v 0 FU _ c d (by omega) (by rw [hFU]; omega) hv (by rw [Nat.mul_zero, Nat.pow_zero, Nat.mod_one]) g4 (by rw [List.length_append, List.length_singleton]; omega)
      rw [if_neg (by exact fun x => h0 ((uL_cmp0 (by omega)).mp x)), if_neg h0, g3', Option.bind_some]
      refine ⟨p, q, g5, ?_⟩
      rw [List.append_assoc, List.append_assoc] at g6
      exact g6
  rw [nlz64 (by omega), Option.bind_some, e64]
  by_cases h1 : bl m = 1
  · have hm1 : m = 1 := by
      have h2 := bl_lt m
      rw [h1] at h2
      omega
    rw [if_pos (by rw [h1]; rfl)]
    have e0 : m * 2 ^ (65 - bl m) % 2 ^ 64 = 0 := by rw [h1, hm1]
    rw [e0] at hB29
    exact hB29
  · rw [if_neg (by exact fun x => h1 ((uI_eq (b := 1) (by omega) (by omega)).mp x)), show (65 : Int32) - uI (bl m) = uI (65 - bl m) from uI_sub (a := 65) (by omega), uL_lsh _ (by omega)]
    have e0 : uL (m * 2 ^ (65 - bl m)) = uL (m * 2 ^ (65 - bl m) % 2 ^ 64) := iL_eqm (by omega)
    rw [e0]
    exact hB29
