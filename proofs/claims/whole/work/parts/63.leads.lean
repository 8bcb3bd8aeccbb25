/-! the reference's leadsTo -/
theorem st_prev {f t : Nat} (ht0 : t ≠ 0) (hfin : t / 2 ^ fWd f ≠ fEx f) (hf : f ≤ 1) : ∃ j : Nat, fLo f + stE f t - (if vN f t then 2 else 1 : Nat) = fLo f - 1 + j ∧ stMid f t = (stM f t * 2 ^ (if vN f t then 2 else 1) + (if vN f t then 2 else 1)) * 2 ^ j ∧ stMid f (t - 1) = (stM f t * 2 ^ (if vN f t then 2 else 1) - 1) * 2 ^ j ∧ (stM f (t - 1) % 2 = 1 ↔ stM f t % 2 = 0) := by
  have hw : ∃ v, 2 ^ fWd f = 2 * (v + 1) := by
    unfold fWd; split
    · exact ⟨4194303, by decide⟩
    · exact ⟨2251799813685247, by decide⟩
  obtain ⟨v, hv⟩ := hw
  unfold stMid stM stE vN
  rw [hv] at hfin ⊢
  have hdm := Nat.div_add_mod t (2 * (v + 1))
  have hm := Nat.mod_lt t (show 0 < 2 * (v + 1) by omega)
  by_cases hE : t / (2 * (v + 1)) = 0
  · have ht : t < 2 * (v + 1) := (Nat.div_eq_zero_iff_lt (by omega)).mp hE
    have hE2 : (t - 1) / (2 * (v + 1)) = 0 := Nat.div_eq_of_lt (by omega)
    rw [hE, hE2] at *
    simp only [Nat.not_lt_zero, decide_false, Bool.false_and, Bool.and_false, if_true, if_false, Bool.false_eq_true]
    refine ⟨0, by omega, by omega, by omega, by omega⟩
  · by_cases hr : t % (2 * (v + 1)) = 0
    · by_cases hE1 : t / (2 * (v + 1)) = 1
      · have ht : t = 2 * (v + 1) := by rw [hE1, hr] at hdm; omega
        have hE2 : (t - 1) / (2 * (v + 1)) = 0 := Nat.div_eq_of_lt (by omega)
        rw [hE2, hE1, hr]
        simp only [if_true, if_false, show ¬ ((1 : Nat) < 1) from by decide, decide_false, Bool.false_and, Bool.and_false, Bool.false_eq_true, show ¬ ((1 : Nat) = 0) from by decide]
        refine ⟨0, by omega, by omega, by omega, by omega⟩
      · obtain ⟨g, hg⟩ : ∃ g, t / (2 * (v + 1)) = g + 2 := (fun (x : Nat) (h1 : ¬ x = 0) (h2 : ¬ x = 1) => (⟨x - 2, by omega⟩ : ∃ g, x = g + 2)) _ hE hE1
        have ht : t = 2 * (v + 1) * (g + 2) := by rw [hg, hr] at hdm; omega
        have ht1 : t - 1 = 2 * (v + 1) * (g + 1) + (2 * (v + 1) - 1) := by rw [ht, show g + 2 = g + 1 + 1 by omega, Nat.mul_add _ (g + 1) 1]; omega
        have hE2 : (t - 1) / (2 * (v + 1)) = g + 1 := by rw [ht1, Nat.mul_add_div (by omega), Nat.div_eq_of_lt (by omega)]
        have hr2 : (t - 1) % (2 * (v + 1)) = 2 * (v + 1) - 1 := by rw [ht1, Nat.mul_add_mod, Nat.mod_eq_of_lt (by omega)]
        have hne : (g + 2 != fEx f) = true := by rw [← hg]; exact bne_iff_ne.mpr hfin
        rw [hE2, hr2, hg, hr, hne]
        simp only [show (1 < g + 2) = True from by simp, decide_true, Bool.true_and, BEq.rfl, if_true, show ¬ (g + 2 = 0) from by omega, show ¬ (g + 1 = 0) from by omega, if_false]
        refine ⟨g, by omega, ?_, ?_, by omega⟩
        · rw [show g + 2 - 1 = g + 1 by omega, Nat.pow_succ, Nat.mul_comm (2 ^ g) 2, ← Nat.mul_assoc]; congr 1; omega
        · rw [show g + 1 - 1 = g by omega]; congr 1; omega
    · have ht1 : t - 1 = 2 * (v + 1) * (t / (2 * (v + 1))) + (t % (2 * (v + 1)) - 1) := by omega
      have hE2 : (t - 1) / (2 * (v + 1)) = t / (2 * (v + 1)) := by rw [ht1, Nat.mul_add_div (by omega), Nat.div_eq_of_lt (show t % (2 * (v + 1)) - 1 < 2 * (v + 1) by omega), Nat.add_zero]
      have hr2 : (t - 1) % (2 * (v + 1)) = t % (2 * (v + 1)) - 1 := by rw [ht1, Nat.mul_add_mod, Nat.mod_eq_of_lt (by omega)]
      rw [hE2, hr2]
      have hb : (t % (2 * (v + 1)) == 0) = false := beq_eq_false_iff_ne.mpr hr
      rw [hb]
      simp only [Bool.and_false, Bool.false_eq_true, if_false, hE]
      refine ⟨t / (2 * (v + 1)) - 1, by omega, by congr 1; omega, by congr 1; omega, by omega⟩
def ldB (f t X : Nat) (k : Int) : Bool := (decide (X * 10 ^ k.toNat * 2 ^ (1 - fLo f).toNat < 10 ^ (-k).toNat * stMid f t) || (decide (X * 10 ^ k.toNat * 2 ^ (1 - fLo f).toNat = 10 ^ (-k).toNat * stMid f t) && (stM f t % 2 == 0))) && (decide (10 ^ (-k).toNat * stMid f (t - 1) < X * 10 ^ k.toNat * 2 ^ (1 - fLo f).toNat) || (decide (X * 10 ^ k.toNat * 2 ^ (1 - fLo f).toNat = 10 ^ (-k).toNat * stMid f (t - 1)) && (stM f (t - 1) % 2 == 1)))
theorem uL_odd {M : Nat} (hM : M < 2 ^ 60) : lg_cmp (lrm (uL M) (2 : Int64)) (1 : Int64) = 0 ↔ M % 2 = 1 := by
  rw [show (2 : Int64) = uL 2 from rfl, uL_rem (by omega) (by omega) (by omega), lgc_eq, show (1 : Int64) = uL 1 from rfl, uL_eq (by omega) (by omega)]
abbrev W15 : Type := Int32 × Int32 × Int32 × Int32 × (Nat → Int32) × Int32 × (Nat → Int32) × Int32 × (Nat → Int32) × Int32 × (Nat → Int32) × Int32 × (Nat → Int32) × Int32 × (Nat → Int32)
theorem x11_ldCmp {A B f t : Nat} {sa sb : Int32} {Da Db : Nat → Int32} (ha : R30 sa Da A) (hb : R30 sb Db B) (hA : bl A ≤ 14000) (hB : bl B ≤ 14000) (hf : f ≤ 1) (ht : t < 2 ^ fTop f) (z : Q8) :
    ∃ q : Q8, f_X11_compare (0 : Int32) (1 : Int32) sa Da sb Db ((2 : Int64) * uL (stM f t) + (1 : Int64)) (iI (fLo f + stE f t) - (1 : Int32)) z.1 z.2.1 z.2.2.1 z.2.2.2.1 z.2.2.2.2.1 z.2.2.2.2.2.1 z.2.2.2.2.2.2.1 z.2.2.2.2.2.2.2 = some (iI (cmpI (A * 2 ^ (1 - fLo f).toNat) (B * stMid f t)), q) := by
  have hlo := fLo_bd f
  have hm := stM_lt f t
  have he := stE_le hf ht
  obtain ⟨q, hq⟩ := x11_cmp (X := 2 * stM f t + 1) (r := 1) (k := stE f t) (f := f) (p := 0) (g := fLo f - 1 + stE f t) ha hb hA hB (by omega) (by omega) (by omega) (by omega) (by omega) rfl z
  have e1 : (2 : Int64) * uL (stM f t) + (1 : Int64) = uL (2 * stM f t + 1) := by
    rw [show (2 : Int64) = uL 2 from rfl, show (1 : Int64) = uL 1 from rfl, uL_mul, uL_add]
  have e2 : iI (fLo f + stE f t) - (1 : Int32) = iI (fLo f - 1 + stE f t) := by rw [wI_1, iI_sub]; exact congrArg iI (by omega)
  have e3 : (0 - ((1 : Nat) : Int) * (fLo f - 1)).toNat = (1 - fLo f).toNat := by omega
  have e4 : (((1 : Nat) : Int) * (fLo f - 1) - 0).toNat = 0 := by omega
  rw [e3, e4, Nat.pow_zero, Nat.mul_one, Nat.pow_one] at hq
  rw [e1, e2]
  exact ⟨q, hq⟩
theorem x11_ld57 {A B f t : Nat} {sa sb : Int32} {Da Db : Nat → Int32} (ha : R30 sa Da A) (hb : R30 sb Db B) (hA : bl A ≤ 14000) (hB : bl B ≤ 14000) (hf : f ≤ 1) (ht : t < 2 ^ fTop f) (ht0 : t ≠ 0) (pl : Int32) (pd : Nat → Int32) (sg : Int32) (z : Q8) :
    ∃ w : W15, f_X11_leadsTo_B57 pl pd (uI f) (uL t) sg (0 : Int32) (1 : Int32) sa Da sb Db z.1 z.2.1 z.2.2.1 z.2.2.2.1 z.2.2.2.2.1 z.2.2.2.2.2.1 z.2.2.2.2.2.2.1 z.2.2.2.2.2.2.2 = some (bI ((decide (A * 2 ^ (1 - fLo f).toNat < B * stMid f t) || (decide (A * 2 ^ (1 - fLo f).toNat = B * stMid f t) && (stM f t % 2 == 0))) && (decide (B * stMid f (t - 1) < A * 2 ^ (1 - fLo f).toNat) || (decide (A * 2 ^ (1 - fLo f).toNat = B * stMid f (t - 1)) && (stM f (t - 1) % 2 == 1)))), w) := by
  have h63 := top_t63 hf ht
  have h63' : t - 1 < 9223372036854775808 := by omega
  have ht' : t - 1 < 2 ^ fTop f := Nat.lt_of_le_of_lt (Nat.sub_le _ _) ht
  have et : uL t - (1 : Int64) = uL (t - 1) := by rw [show (1 : Int64) = uL 1 from rfl, uL_sub (by omega)]
  have hm := stM_lt f t
  have hm' := stM_lt f (t - 1)
  generalize hX : A * 2 ^ (1 - fLo f).toNat = X at *
  have hB110 : ∀ (z : Q8), ∃ w : W15, f_X11_leadsTo_B110 pl pd (uI f) (uL t) sg (0 : Int32) (1 : Int32) sa Da sb Db z.1 z.2.1 z.2.2.1 z.2.2.2.1 z.2.2.2.2.1 z.2.2.2.2.2.1 z.2.2.2.2.2.2.1 z.2.2.2.2.2.2.2 = some (bI (decide (B * stMid f (t - 1) < X) || (decide (X = B * stMid f (t - 1)) && (stM f (t - 1) % 2 == 1))), w) := by
    intro z
    obtain ⟨q, hq⟩ := x11_ldCmp ha hb hA hB hf ht' z
    rw [hX] at hq
    unfold f_X11_leadsTo_B110
    rw [et, x11_stepM hf h63', Option.bind_some, x11_stepE hf h63', Option.bind_some, hq, Option.bind_some]
    by_cases h1 : B * stMid f (t - 1) < X
    · rw [if_pos (by exact (cmp_iI_gt _ _).mpr h1), decide_eq_true h1]
      exact ⟨_, rfl⟩
    · rw [if_neg (by exact fun x => h1 ((cmp_iI_gt _ _).mp x)), decide_eq_false h1]
      by_cases h2 : X = B * stMid f (t - 1)
      · rw [if_pos (by exact (cmp_iI_eq _ _).mpr h2), Option.bind_some, decide_eq_true h2]
        by_cases h3 : stM f (t - 1) % 2 = 1
        · rw [if_pos (by exact (uL_odd (by omega)).mpr h3), h3]
          exact ⟨_, rfl⟩
        · rw [if_neg (by exact fun x => h3 ((uL_odd (by omega)).mp x)), show (stM f (t - 1) % 2 == 1) = false from beq_eq_false_iff_ne.mpr h3]
          exact ⟨_, rfl⟩
      · rw [if_neg (by exact fun x => h2 ((cmp_iI_eq _ _).mp x)), decide_eq_false h2]
        exact ⟨_, rfl⟩
  obtain ⟨q, hq⟩ := x11_ldCmp ha hb hA hB hf ht z
  rw [hX] at hq
  unfold f_X11_leadsTo_B57
  rw [x11_stepM hf h63, Option.bind_some, x11_stepE hf h63, Option.bind_some, hq, Option.bind_some]
  by_cases h1 : B * stMid f t < X
  · rw [if_pos (by exact (cmp_iI_gt _ _).mpr h1), decide_eq_false (show ¬ X < B * stMid f t by omega), decide_eq_false (show ¬ X = B * stMid f t by omega)]
    exact ⟨_, rfl⟩
  · rw [if_neg (by exact fun x => h1 ((cmp_iI_gt _ _).mp x))]
    by_cases h2 : X = B * stMid f t
    · rw [if_pos (by exact (cmp_iI_eq _ _).mpr h2), Option.bind_some, decide_eq_true h2, decide_eq_false (show ¬ X < B * stMid f t by omega)]
      by_cases h3 : stM f t % 2 = 1
      · rw [if_pos (by exact (uL_odd (by omega)).mpr h3), h3]
        exact ⟨_, rfl⟩
      · rw [if_neg (by exact fun x => h3 ((uL_odd (by omega)).mp x)), show (stM f t % 2 == 0) = true from beq_iff_eq.mpr (by omega)]
        exact hB110 q
    · rw [if_neg (by exact fun x => h2 ((cmp_iI_eq _ _).mp x)), decide_eq_true (show X < B * stMid f t by omega)]
      exact hB110 q
theorem x11_leads {X f t : Nat} {k : Int} (hX : X < 10 ^ 30) (hk1 : -500 ≤ k) (hk2 : k ≤ 500) (hf : f ≤ 1) (ht : t < 2 ^ fTop f) (ht0 : t ≠ 0) {pl : Int32} {pd : Nat → Int32} (hR : R30 pl pd X) (w0 : W15) :
    ∃ w : W15, f_X11_leadsTo pl pd (iI k) (uI f) (uL t) w0.1 w0.2.1 w0.2.2.1 w0.2.2.2.1 w0.2.2.2.2.1 w0.2.2.2.2.2.1 w0.2.2.2.2.2.2.1 w0.2.2.2.2.2.2.2.1 w0.2.2.2.2.2.2.2.2.1 w0.2.2.2.2.2.2.2.2.2.1 w0.2.2.2.2.2.2.2.2.2.2.1 w0.2.2.2.2.2.2.2.2.2.2.2.1 w0.2.2.2.2.2.2.2.2.2.2.2.2.1 w0.2.2.2.2.2.2.2.2.2.2.2.2.2.1 w0.2.2.2.2.2.2.2.2.2.2.2.2.2.2 = some (bI (ldB f t X k), w) := by
  obtain ⟨w1, w2, w3, w4, w5, w6, w7, z⟩ := w0
  dsimp only
  obtain ⟨sa, Da, sb, Db, g1, g2, g3⟩ := x11_begin (0 : Int32) w1 w2 w3 w4 w5 w6 w7
  obtain ⟨s1, D1, g4, g5⟩ := x10_copy hR sa Da
  have hlim : ∀ j Y, j ≤ 500 → Y < 10 ^ 30 → Y * 10 ^ j < 10 ^ 530 := by
    intro j Y hj hY
    rw [show (10 : Nat) ^ 530 = 10 ^ 30 * 10 ^ 500 by rw [← Nat.pow_add]]
    exact Nat.lt_of_lt_of_le (Nat.mul_lt_mul_of_pos_right hY (ten_pos j)) (Nat.mul_le_mul_left _ (Nat.pow_le_pow_right (by decide) hj))
  have h530 : (10 : Nat) ^ 530 < 2 ^ 2200 := Nat.lt_of_le_of_lt (Nat.pow_le_pow_left (show 10 ≤ 2 ^ 4 by decide) 530) (by rw [← Nat.pow_mul]; exact Nat.pow_lt_pow_right (by decide) (by decide))
  have hblm : ∀ Y, Y < 10 ^ 530 → bl Y ≤ 14000 := fun Y hY => Nat.le_trans (bl_le_of_lt (Nat.lt_trans hY h530)) (by decide)
  have hw30 : ∀ Y, Y < 10 ^ 530 → Y < 1073741824 ^ 520 := fun Y hY => Nat.lt_trans hY (Nat.lt_of_lt_of_le h530 (by rw [p_pow]; exact Nat.pow_le_pow_right (by decide) (by decide)))
  have hone : (1 : Nat) < 10 ^ 30 := by decide
  unfold f_X11_leadsTo
  rw [g1, Option.bind_some, g4, Option.bind_some]
  have habs : f_J9_abs_0f7a4 (iI k) = some (uI k.natAbs) := abs_iI (by omega) (by omega)
  by_cases hk : 0 ≤ k
  · rw [if_pos (by rw [wI_0, iI_le (by omega) (by omega) (by omega) (by omega)]; exact hk)]
    have hL : ∀ n i fuel s D, i + n = k.natAbs → n < fuel → R30 s D (X * 10 ^ i) → ∃ w : W15, f_X11_leadsTo_L33a pl pd fuel (iI k) (uI f) (uL t) (uI i) (0 : Int32) (0 : Int32) (1 : Int32) s D sb Db z.1 z.2.1 z.2.2.1 z.2.2.2.1 z.2.2.2.2.1 z.2.2.2.2.2.1 z.2.2.2.2.2.2.1 z.2.2.2.2.2.2.2 = some (bI (ldB f t X k), w) := by
      intro n
      induction n with
      | zero =>
        intro i fuel s D hi hf' hRi
        obtain ⟨fu, rfl, _⟩ := ex_succ hf'
        rw [f_X11_leadsTo_L33a, habs, Option.bind_some, if_pos (by exact (uI_le (by omega) (by omega)).mpr (by omega))]
        have h57 := x11_ld57 hRi g3 (hblm _ (hlim _ _ (by omega) hX)) (hblm 1 (Nat.lt_trans hone (Nat.pow_lt_pow_right (by decide) (by decide)))) hf ht ht0 pl pd (0 : Int32) z
        unfold ldB
        rw [show k.toNat = i by omega, show (-k).toNat = 0 by omega, Nat.pow_zero]
        exact h57
      | succ n ih =>
        intro i fuel s D hi hf' hRi
        obtain ⟨fu, rfl, hfu⟩ := ex_succ hf'
        have hb := hlim (i + 1) X (by omega) hX
        rw [Nat.pow_succ, ← Nat.mul_assoc] at hb
        obtain ⟨s2, D2, q1, q2⟩ := x10_times hRi (f := 10) (x := 0) (by decide) (by decide) (hw30 _ hb)
        have q1' : f_X10_times (10 : Int64) (0 : Int32) s D = some (s2, D2) := q1
        rw [f_X11_leadsTo_L33a, habs, Option.bind_some, if_neg (by exact fun x => by have := (uI_le (by omega) (by omega)).mp x; omega), q1', Option.bind_some, uI_succ]
        rw [Nat.add_zero, Nat.mul_assoc, ← Nat.pow_succ] at q2
        exact ih (i + 1) fu s2 D2 (by omega) (by omega) q2
    exact hL k.natAbs 0 FU s1 D1 (by omega) (by rw [hFU]; omega) (by rw [Nat.pow_zero, Nat.mul_one]; exact g5)
  · rw [if_neg (by rw [wI_0, iI_le (by omega) (by omega) (by omega) (by omega)]; exact hk)]
    have hL : ∀ n i fuel s D, i + n = k.natAbs → n < fuel → R30 s D (1 * 10 ^ i) → ∃ w : W15, f_X11_leadsTo_L33b pl pd fuel (iI k) (uI f) (uL t) (uI i) (0 : Int32) (0 : Int32) (1 : Int32) s1 D1 s D z.1 z.2.1 z.2.2.1 z.2.2.2.1 z.2.2.2.2.1 z.2.2.2.2.2.1 z.2.2.2.2.2.2.1 z.2.2.2.2.2.2.2 = some (bI (ldB f t X k), w) := by
      intro n
      induction n with
      | zero =>
        intro i fuel s D hi hf' hRi
        obtain ⟨fu, rfl, _⟩ := ex_succ hf'
        rw [f_X11_leadsTo_L33b, habs, Option.bind_some, if_pos (by exact (uI_le (by omega) (by omega)).mpr (by omega))]
        have hX0 := hlim 0 X (by omega) hX
        rw [Nat.pow_zero, Nat.mul_one] at hX0
        have h57 := x11_ld57 g5 hRi (hblm _ hX0) (hblm _ (hlim i 1 (by omega) hone)) hf ht ht0 pl pd (0 : Int32) z
        rw [Nat.one_mul] at h57
        unfold ldB
        rw [show (-k).toNat = i by omega, show k.toNat = 0 by omega, Nat.pow_zero, Nat.mul_one]
        exact h57
      | succ n ih =>
        intro i fuel s D hi hf' hRi
        obtain ⟨fu, rfl, hfu⟩ := ex_succ hf'
        have hb := hlim (i + 1) 1 (by omega) hone
        rw [Nat.pow_succ, ← Nat.mul_assoc] at hb
        obtain ⟨s2, D2, q1, q2⟩ := x10_times hRi (f := 10) (x := 0) (by decide) (by decide) (hw30 _ hb)
        have q1' : f_X10_times (10 : Int64) (0 : Int32) s D = some (s2, D2) := q1
        rw [f_X11_leadsTo_L33b, habs, Option.bind_some, if_neg (by exact fun x => by have := (uI_le (by omega) (by omega)).mp x; omega), q1', Option.bind_some, uI_succ]
        rw [Nat.add_zero, Nat.mul_assoc, ← Nat.pow_succ] at q2
        exact ih (i + 1) fu s2 D2 (by omega) (by omega) q2
    exact hL k.natAbs 0 FU sb Db (by omega) (by rw [hFU]; omega) (by rw [Nat.pow_zero, Nat.mul_one]; exact g3)
