/-! the reference's rounding -/
theorem x11_grows {way sg : Nat} (hs : sg ≤ 1) (hw : way < 4) : f_X11_grows (uI way) (uI sg) = some (bI (way == 2 + sg)) := by
  have key : ∀ sg : Fin 2, ∀ way : Fin 4, f_X11_grows (uI way.val) (uI sg.val) = some (bI (way.val == 2 + sg.val)) := by decide +kernel
  exact key ⟨sg, by omega⟩ ⟨way, hw⟩
theorem x11_B103 {f sg way t rr : Nat} (F : Nat → Int32) (G : Nat → Int64) (hf : f ≤ 1) (hs : sg ≤ 1) (hw : way < 4) (ht : t ≤ fInf f) (hrr : rr < 16) (p r al : Int32) (ad : Nat → Int32) (bl' : Int32) (bd : Nat → Int32) (z : Q8) :
    ∃ q : Q8, f_X11_round_B103 (uI sg) p r al ad bl' bd (uI rr) (uI f) (uI way) (uL t) F G z.1 z.2.1 z.2.2.1 z.2.2.2.1 z.2.2.2.2.1 z.2.2.2.2.2.1 z.2.2.2.2.2.2.1 z.2.2.2.2.2.2.2 = some (upd F rr (uI f), vp_updL G rr (uL (if fInf f ≤ t then tooG f sg way else pat f sg t)), q) := by
  have hi := fInf_lt hf
  have h63 := top_t63 hf hi
  have hi0 : 0 < fInf f := by rcases f_cases hf with rfl | rfl <;> decide
  unfold f_X11_round_B103
  rw [x11_beyond hf, Option.bind_some]
  by_cases he : t = fInf f
  · subst he
    have hput : ∀ u, u < 2 ^ fTop f → f_X11_round_B152 (uI sg) p r al ad bl' bd (uI rr) (uI f) (uL u) F G z.1 z.2.1 z.2.2.1 z.2.2.2.1 z.2.2.2.2.1 z.2.2.2.2.2.1 z.2.2.2.2.2.2.1 z.2.2.2.2.2.2.2 = some (upd F rr (uI f), vp_updL G rr (uL (pat f sg u)), z) := by
      intro u hu
      unfold f_X11_round_B152
      rw [x11_put F G hf hs hu hrr]; rfl
    rw [if_pos (by exact (uL_ceq (by omega) (by omega)).mpr rfl), if_pos (Nat.le_refl _), x11_grows hs hw, Option.bind_some]
    unfold f_X11_round_B128 f_X11_round_B133 tooG
    have e1 : uL (fInf f) - (1 : Int64) = uL (fInf f - 1) := uL_sub (b := 1) (by omega)
    by_cases hw0 : way = 0
    · subst hw0
      rw [if_pos (by exact rfl), if_neg (by decide), hput _ hi, if_pos (Or.inl rfl)]
      exact ⟨_, rfl⟩
    · rw [if_neg (by exact fun e => hw0 ((uI_eq0 (by omega)).mp e))]
      by_cases hg : way = 2 + sg
      · have hb : (way == 2 + sg) = true := beq_iff_eq.mpr hg
        rw [hb, if_neg (by decide), if_neg (by decide), hput _ hi, if_pos (Or.inr hg)]
        exact ⟨_, rfl⟩
      · have hb : (way == 2 + sg) = false := beq_false_of_ne hg
        rw [hb, if_pos (by decide), if_pos (by decide), e1, hput _ (by omega), if_neg (by rintro (h | h); exact hw0 h; exact hg h)]
        exact ⟨_, rfl⟩
  · rw [if_neg (by exact fun e => he ((uL_ceq (by omega) (by omega)).mp e)), if_neg (by omega), x11_put F G hf hs (by omega) hrr]
    exact ⟨_, rfl⟩
theorem stM_par (f t : Nat) : stM f t % 2 = t % 2 := by
  unfold stM
  obtain ⟨k, hk⟩ : ∃ k, fWd f = k + 1 := by unfold fWd; split <;> exact ⟨_, rfl⟩
  have hdm := Nat.div_add_mod t (2 ^ fWd f)
  split
  · rfl
  · rw [hk, Nat.pow_succ] at hdm ⊢
    generalize t / (2 ^ k * 2) = a at *
    generalize t % (2 ^ k * 2) = b at *
    have : 2 ^ k * 2 * a = 2 * (2 ^ k * a) := by rw [Nat.mul_comm (2 ^ k), Nat.mul_assoc]
    omega
theorem cmp_iI_lt (a b : Nat) : iI (cmpI a b) < 0 ↔ a < b := by
  unfold cmpI
  by_cases h1 : a < b
  · rw [if_pos h1]; exact ⟨fun _ => h1, fun _ => by decide⟩
  · rw [if_neg h1]
    by_cases h2 : a = b
    · rw [if_pos h2]; exact ⟨fun h => absurd h (by decide), fun h => absurd h h1⟩
    · rw [if_neg h2]; exact ⟨fun h => absurd h (by decide), fun h => absurd h h1⟩
theorem cmp_iI_eq (a b : Nat) : iI (cmpI a b) = 0 ↔ a = b := by
  unfold cmpI
  by_cases h1 : a < b
  · rw [if_pos h1]; exact ⟨fun h => absurd h (by decide), fun h => by omega⟩
  · rw [if_neg h1]
    by_cases h2 : a = b
    · rw [if_pos h2]; exact ⟨fun _ => h2, fun _ => by decide⟩
    · rw [if_neg h2]; exact ⟨fun h => absurd h (by decide), fun h => absurd h h2⟩
theorem cmp_iI_le (a b : Nat) : iI (cmpI a b) ≤ 0 ↔ a ≤ b := by
  unfold cmpI
  by_cases h1 : a < b
  · rw [if_pos h1]; exact ⟨fun _ => by omega, fun _ => by decide⟩
  · rw [if_neg h1]
    by_cases h2 : a = b
    · rw [if_pos h2]; exact ⟨fun _ => by omega, fun _ => by decide⟩
    · rw [if_neg h2]; exact ⟨fun h => absurd h (by decide), fun h => by omega⟩
theorem cmp_iI_ge (a b : Nat) : 0 ≤ iI (cmpI a b) ↔ b ≤ a := by
  unfold cmpI
  by_cases h1 : a < b
  · rw [if_pos h1]; exact ⟨fun h => absurd h (by decide), fun h => by omega⟩
  · rw [if_neg h1]
    by_cases h2 : a = b
    · rw [if_pos h2]; exact ⟨fun _ => by omega, fun _ => by decide⟩
    · rw [if_neg h2]; exact ⟨fun _ => by omega, fun _ => by decide⟩
theorem cmp_iI_gt (a b : Nat) : 0 < iI (cmpI a b) ↔ b < a := by
  unfold cmpI
  by_cases h1 : a < b
  · rw [if_pos h1]; exact ⟨fun h => absurd h (by decide), fun h => by omega⟩
  · rw [if_neg h1]
    by_cases h2 : a = b
    · rw [if_pos h2]; exact ⟨fun h => absurd h (by decide), fun h => by omega⟩
    · rw [if_neg h2]; exact ⟨fun _ => by omega, fun _ => by decide⟩
/-- what is chosen, of a value that lies between two steps -/
theorem x11_chosen {A B r f t sg way : Nat} {p : Int} {sa sb : Int32} {Da Db : Nat → Int32} (ha : R30 sa Da A) (hb : R30 sb Db B) (hA : bl A ≤ 14000) (hB : bl B ≤ 14000) (hr : r ≤ 2)
    (hp1 : -3000000 ≤ p) (hp2 : p ≤ 3000000) (hf : f ≤ 1) (hs : sg ≤ 1) (hw : way < 4) (ht : t < fInf f) (z : Q8) {N D : Nat} (hN : N = A * 2 ^ (p - r * (fLo f - 1)).toNat) (hD : D = B * 2 ^ (r * (fLo f - 1) - p).toNat) (hne : D * (2 * stV f t) ^ r ≠ N) :
    ∃ q : Q8, f_X11_chosen (uI sg) (iI p) (uI r) sa Da sb Db (uI f) (uL t) (uI way) z.1 z.2.1 z.2.2.1 z.2.2.2.1 z.2.2.2.2.1 z.2.2.2.2.2.1 z.2.2.2.2.2.2.1 z.2.2.2.2.2.2.2 = some (uL (outT f way sg N D r t), q) := by
  have hi := fInf_lt hf
  have htt : t < 2 ^ fTop f := by omega
  have h63 := top_t63 hf htt
  have hm := stM_lt f t
  have he := stE_le hf htt
  have hlo := fLo_bd f
  have hexact : decide (D * (2 * stV f t) ^ r ≠ N) = true := decide_eq_true hne
  unfold f_X11_chosen outT
  rw [hexact, Bool.true_and]
  have e1 : uL t + (1 : Int64) = uL (t + 1) := uL_add t 1
  by_cases hw0 : way = 0
  · subst hw0
    rw [if_pos (by exact rfl), x11_stepM hf h63, Option.bind_some, x11_stepE hf h63, Option.bind_some, show (2 : Int64) * uL (stM f t) + (1 : Int64) = uL (2 * stM f t + 1) from by rw [show (2 : Int64) = uL 2 from rfl, show (1 : Int64) = uL 1 from rfl, uL_mul, uL_add], wI_1, iI_sub]
    obtain ⟨q, hq⟩ := x11_cmp (X := 2 * stM f t + 1) (k := stE f t) (g := fLo f + stE f t - 1) (f := f) ha hb hA hB (by omega) hr hp1 hp2 (by omega) (by omega) z
    rw [← hN, ← hD] at hq
    rw [hq, Option.bind_some]
    refine ⟨q, ?_⟩
    have hmid : (2 * stM f t + 1) * 2 ^ stE f t = stMid f t := rfl
    rw [hmid]
    unfold gO
    rw [if_pos rfl]
    by_cases hlt : N < D * stMid f t ^ r
    · have f1 : decide (D * stMid f t ^ r ≤ N) = false := decide_eq_false (by omega)
      rw [if_pos (by exact (cmp_iI_lt _ _).mpr hlt), f1, Bool.false_and]; rfl
    · have f1 : decide (D * stMid f t ^ r ≤ N) = true := decide_eq_true (by omega)
      rw [if_neg (by exact fun e => hlt ((cmp_iI_lt _ _).mp e)), f1, Bool.true_and]
      by_cases heq : N = D * stMid f t ^ r
      · have f2 : decide (D * stMid f t ^ r ≠ N) = false := decide_eq_false (fun h => h heq.symm)
        rw [if_pos (by exact (cmp_iI_eq _ _).mpr heq), f2, Bool.false_or, show (2 : Int64) = uL 2 from rfl, uL_rem (by omega) (by decide) (by decide), stM_par]
        have : t % 2 = 0 ∨ t % 2 = 1 := by omega
        rcases this with g | g
        · rw [g, if_pos (by exact (uL_cmp0 (by decide)).mpr rfl)]; rfl
        · rw [g, if_neg (by exact fun e => absurd ((uL_cmp0 (by decide)).mp e) (by decide)), e1]; rfl
      · have f2 : decide (D * stMid f t ^ r ≠ N) = true := decide_eq_true (fun h => heq h.symm)
        rw [if_neg (by exact fun e => heq ((cmp_iI_eq _ _).mp e)), f2, Bool.true_or, e1]; rfl
  · rw [if_neg (by exact fun e => hw0 ((uI_eq0 (by omega)).mp e)), x11_grows hs hw, Option.bind_some]
    have f3 : (decide (D * stMid f t ^ r ≤ N) || decide (D * stMid f t ^ r ≠ N)) = true := by
      by_cases heq : D * stMid f t ^ r = N
      · rw [decide_eq_true (show D * stMid f t ^ r ≤ N by omega), Bool.true_or]
      · rw [decide_eq_true heq, Bool.or_true]
    refine ⟨z, ?_⟩
    unfold gO
    rw [if_neg hw0, f3, Bool.and_true]
    cases hg : (way == 2 + sg)
    · rw [if_pos (by decide)]; rfl
    · rw [if_neg (by decide), e1]; rfl
theorem outT_exact {f way sg N D r t : Nat} (hD : 0 < D) (hr : 0 < r) (he : D * (2 * stV f t) ^ r = N) : outT f way sg N D r t = t := by
  unfold outT
  have hmlt : 2 * stV f t < stMid f t := by
    rw [stMid_eq]; have := Nat.two_pow_pos (stE f t); omega
  have hN : N < D * stMid f t ^ r := by
    rw [← he]
    exact Nat.mul_lt_mul_of_pos_left (Nat.pow_lt_pow_left hmlt (by omega)) hD
  have f1 : decide (D * stMid f t ^ r ≤ N) = false := decide_eq_false (by omega)
  have f2 : decide (D * (2 * stV f t) ^ r ≠ N) = false := decide_eq_false (fun h => h he)
  rw [f1, f2, Bool.false_and, gO_none]; rfl
theorem outT_le (f way sg N D r t : Nat) : outT f way sg N D r t ≤ t + 1 := by
  unfold outT; split <;> omega
/-- the search -/
theorem x11_roundL {A B r f sg way rr : Nat} {p : Int} {sa sb : Int32} {Da Db : Nat → Int32} (F : Nat → Int32) (G : Nat → Int64) (ha : R30 sa Da A) (hb : R30 sb Db B) (hA : bl A ≤ 14000) (hB : bl B ≤ 14000) (hB0 : 0 < B) (hr : r ≤ 2) (hr0 : 0 < r)
    (hp1 : -3000000 ≤ p) (hp2 : p ≤ 3000000) (hf : f ≤ 1) (hs : sg ≤ 1) (hw : way < 4) (hrr : rr < 16) {N D : Nat} (hN : N = A * 2 ^ (p - r * (fLo f - 1)).toNat) (hD : D = B * 2 ^ (r * (fLo f - 1) - p).toNat) :
    ∀ k lo hi fuel (z : Q8), k < fuel → lo < hi → hi ≤ fInf f → hi - lo ≤ 2 ^ k → D * (2 * stV f lo) ^ r ≤ N → N < D * (2 * stV f hi) ^ r →
    ∃ (P : Nat) (q : Q8), f_X11_round_L30 (uI sg) (iI p) (uI r) sa Da sb Db fuel (uI rr) (uI f) (uI way) (uL lo) (uL hi) F G z.1 z.2.1 z.2.2.1 z.2.2.2.1 z.2.2.2.2.1 z.2.2.2.2.2.1 z.2.2.2.2.2.2.1 z.2.2.2.2.2.2.2 = some (upd F rr (uI f), vp_updL G rr (uL P), q) ∧ isR f way sg N D r P := by
  have hi63 := fInf_lt hf
  have h63 := top_t63 hf hi63
  have hDpos : 0 < D := by rw [hD]; exact Nat.mul_pos hB0 (Nat.two_pow_pos _)
  have hend : ∀ lo (z : Q8), lo < fInf f → D * (2 * stV f lo) ^ r ≤ N → N < D * (2 * stV f (lo + 1)) ^ r → ∃ (P : Nat) (q : Q8), f_X11_round_B78 (uI sg) (iI p) (uI r) sa Da sb Db (uI rr) (uI f) (uI way) (uL lo) F G z.1 z.2.1 z.2.2.1 z.2.2.2.1 z.2.2.2.2.1 z.2.2.2.2.2.1 z.2.2.2.2.2.2.1 z.2.2.2.2.2.2.2 = some (upd F rr (uI f), vp_updL G rr (uL P), q) ∧ isR f way sg N D r P := by
    intro lo z hlo h1 h2
    unfold f_X11_round_B78 f_X11_round_B101
    obtain ⟨q1, hq1⟩ := x11_cmpStep (t := lo) ha hb hA hB hr hp1 hp2 hf (by omega) z
    rw [← hN, ← hD] at hq1
    rw [hq1, Option.bind_some]
    have hfin : ∀ (zz : Q8), ∃ (P : Nat) (q : Q8), f_X11_round_B103 (uI sg) (iI p) (uI r) sa Da sb Db (uI rr) (uI f) (uI way) (uL (outT f way sg N D r lo)) F G zz.1 zz.2.1 zz.2.2.1 zz.2.2.2.1 zz.2.2.2.2.1 zz.2.2.2.2.2.1 zz.2.2.2.2.2.2.1 zz.2.2.2.2.2.2.2 = some (upd F rr (uI f), vp_updL G rr (uL P), q) ∧ isR f way sg N D r P := by
      intro zz
      have hle := outT_le f way sg N D r lo
      obtain ⟨q, hq⟩ := x11_B103 (t := outT f way sg N D r lo) F G hf hs hw (by omega) hrr (iI p) (uI r) sa Da sb Db zz
      refine ⟨_, q, hq, Or.inr ⟨lo, hlo, ⟨h1, h2⟩, ?_⟩⟩
      unfold outP
      rw [if_neg (show ¬ fInf f ≤ lo by omega)]
    by_cases he : N = D * (2 * stV f lo) ^ r
    · have ho := outT_exact (way := way) (sg := sg) hDpos hr0 he.symm
      have := hfin q1
      rw [ho] at this
      rw [if_pos (by exact (cmp_iI_eq _ _).mpr he)]
      exact this
    · rw [if_neg (by exact fun e => he ((cmp_iI_eq _ _).mp e))]
      obtain ⟨q2, hq2⟩ := x11_chosen (t := lo) ha hb hA hB hr hp1 hp2 hf hs hw hlo q1 hN hD (fun e => he e.symm)
      have hq2' : f_X11_chosen (uI sg) (iI p) (uI r) sa Da sb Db (uI f) (uL lo) (uI way) (iI (cmpI N (D * (2 * stV f lo) ^ r)), q1).2.1 (iI (cmpI N (D * (2 * stV f lo) ^ r)), q1).2.2.1 (iI (cmpI N (D * (2 * stV f lo) ^ r)), q1).2.2.2.1 (iI (cmpI N (D * (2 * stV f lo) ^ r)), q1).2.2.2.2.1 (iI (cmpI N (D * (2 * stV f lo) ^ r)), q1).2.2.2.2.2.1 (iI (cmpI N (D * (2 * stV f lo) ^ r)), q1).2.2.2.2.2.2.1 (iI (cmpI N (D * (2 * stV f lo) ^ r)), q1).2.2.2.2.2.2.2.1 (iI (cmpI N (D * (2 * stV f lo) ^ r)), q1).2.2.2.2.2.2.2.2 = some (uL (outT f way sg N D r lo), q2) := hq2
      rw [hq2', Option.bind_some]
      exact hfin q2
  intro k
  induction k with
  | zero =>
    intro lo hi fuel z hfu hlh hhi hgap h1 h2
    obtain ⟨m, rfl, _⟩ := ex_succ hfu
    have e : hi = lo + 1 := by rw [Nat.pow_zero] at hgap; omega
    subst e
    rw [f_X11_round_L30, uL_sub (by omega), if_pos (by rw [show (1 : Int64) = iL 1 from rfl, lc_le (by omega) (by omega) (by omega) (by omega)]; omega)]
    exact hend lo z (by omega) h1 h2
  | succ k ih =>
    intro lo hi fuel z hfu hlh hhi hgap h1 h2
    obtain ⟨m, rfl, hm⟩ := ex_succ hfu
    rw [f_X11_round_L30, uL_sub (by omega)]
    by_cases hone : hi - lo ≤ 1
    · have e : hi = lo + 1 := by omega
      subst e
      rw [if_pos (by rw [show (1 : Int64) = iL 1 from rfl, lc_le (by omega) (by omega) (by omega) (by omega)]; omega)]
      exact hend lo z (by omega) h1 h2
    · rw [if_neg (by rw [show (1 : Int64) = iL 1 from rfl, lc_le (by omega) (by omega) (by omega) (by omega)]; omega), show (2 : Int64) = uL 2 from rfl, uL_div (by omega) (by decide) (by decide), uL_add]
      obtain ⟨q1, hq1⟩ := x11_cmpStep (t := lo + (hi - lo) / 2) ha hb hA hB hr hp1 hp2 hf (by omega) z
      rw [← hN, ← hD] at hq1
      rw [hq1, Option.bind_some]
      rw [Nat.pow_succ] at hgap
      by_cases hlt : N < D * (2 * stV f (lo + (hi - lo) / 2)) ^ r
      · rw [if_pos (by exact (cmp_iI_lt _ _).mpr hlt)]
        exact ih lo (lo + (hi - lo) / 2) m q1 (by omega) (by omega) (by omega) (by omega) h1 hlt
      · rw [if_neg (by exact fun e => hlt ((cmp_iI_lt _ _).mp e))]
        exact ih (lo + (hi - lo) / 2) hi m q1 (by omega) (by omega) (by omega) (by omega) (by omega) h2
theorem x11_round {A B r f sg way rr : Nat} {p : Int} {sa sb : Int32} {Da Db : Nat → Int32} (F : Nat → Int32) (G : Nat → Int64) (ha : R30 sa Da A) (hb : R30 sb Db B) (hA : bl A ≤ 14000) (hB : bl B ≤ 14000) (hB0 : 0 < B) (hr : r ≤ 2) (hr0 : 0 < r)
    (hp1 : -3000000 ≤ p) (hp2 : p ≤ 3000000) (hf : f ≤ 1) (hs : sg ≤ 1) (hw : way < 4) (hrr : rr < 16) (z : Q8) :
    ∃ (P : Nat) (q : Q8), f_X11_round (uI sg) (iI p) (uI r) sa Da sb Db (uI rr) (uI f) (uI way) F G z.1 z.2.1 z.2.2.1 z.2.2.2.1 z.2.2.2.2.1 z.2.2.2.2.2.1 z.2.2.2.2.2.2.1 z.2.2.2.2.2.2.2 = some (upd F rr (uI f), vp_updL G rr (uL P), q) ∧ isR f way sg (A * 2 ^ (p - r * (fLo f - 1)).toNat) (B * 2 ^ (r * (fLo f - 1) - p).toNat) r P := by
  have hi63 := fInf_lt hf
  have hi0 : 0 < fInf f := by rcases f_cases hf with rfl | rfl <;> decide
  unfold f_X11_round
  rw [x11_beyond hf, Option.bind_some]
  obtain ⟨q1, hq1⟩ := x11_cmpStep (t := fInf f) ha hb hA hB hr hp1 hp2 hf hi63 z
  rw [hq1, Option.bind_some, Option.bind_some]
  generalize hN : A * 2 ^ (p - r * (fLo f - 1)).toNat = N at *
  generalize hD : B * 2 ^ (r * (fLo f - 1) - p).toNat = D at *
  by_cases hlt : N < D * (2 * stV f (fInf f)) ^ r
  · rw [if_pos (by exact (cmp_iI_lt _ _).mpr hlt)]
    have hv0 : stV f 0 = 0 := by unfold stV stM; rw [Nat.zero_div, if_pos rfl, Nat.zero_mul]
    have hgap : fInf f - 0 ≤ 2 ^ 63 := by
      have : 2 ^ fTop f ≤ 2 ^ 63 := Nat.pow_le_pow_right (by decide) (fTop_le f)
      omega
    have := x11_roundL F G ha hb hA hB hB0 hr hr0 hp1 hp2 hf hs hw hrr hN.symm hD.symm 63 0 (fInf f) FU q1 (by rw [hFU]; omega) hi0 (Nat.le_refl _) hgap (by rw [hv0, Nat.mul_zero, Nat.zero_pow hr0, Nat.mul_zero]; exact Nat.zero_le _) hlt
    exact this
  · rw [if_neg (by exact fun e => hlt ((cmp_iI_lt _ _).mp e))]
    obtain ⟨q, hq⟩ := x11_B103 (t := fInf f) F G hf hs hw (Nat.le_refl _) hrr (iI p) (uI r) sa Da sb Db q1
    refine ⟨_, q, hq, Or.inl ⟨by omega, ?_⟩⟩
    rw [if_pos (Nat.le_refl _)]
