/-! the reference: how its value stands to another -/
abbrev Q8 : Type := Int32 × (Nat → Int32) × Int32 × (Nat → Int32) × Int32 × (Nat → Int32) × Int32 × (Nat → Int32)
theorem x11_timesLong {s : Int32} {D : Nat → Int32} {v u : Nat} (h : R30 s D v) (hu : u < 18446744073709551616) (hW : v * u < 1073741824 ^ 519) (ll : Int32) (ld : Nat → Int32) (tl : Int32) (td : Nat → Int32) :
    ∃ a b c d s' D', f_X11_timesLong (uL u) ll ld tl td s D = some (a, b, c, d, s', D') ∧ R30 s' D' (v * u) := by
  unfold f_X11_timesLong
  obtain ⟨a, b, h1, h2⟩ := x10_set ll ld hu
  obtain ⟨s', D', c, d, h3, h4⟩ := x10_mul h h2 tl td hW
  refine ⟨a, b, c, d, s', D', ?_, h4⟩
  rw [h1, Option.bind_some, h3]; rfl
theorem cmpI_scale {a b a' b' c c' : Nat} (hc : 0 < c) (hc' : 0 < c') (ha : a * c = a' * c') (hb : b * c = b' * c') : cmpI a b = cmpI a' b' := by
  have h1 : a < b ↔ a' < b' := by
    rw [← Nat.mul_lt_mul_right hc, ha, hb, Nat.mul_lt_mul_right hc']
  have h2 : a = b ↔ a' = b' := by
    rw [← Nat.mul_left_inj (show c ≠ 0 by omega), ha, hb, Nat.mul_left_inj (show c' ≠ 0 by omega)]
  unfold cmpI
  simp only [h1, h2]
theorem bl_lt_imp {a b : Nat} (h : bl a < bl b) : a < b := by
  apply Nat.lt_of_not_le
  intro hle
  have := bl_mono hle
  omega
theorem p519 : (2 : Nat) ^ 15000 ≤ 1073741824 ^ 519 := by
  rw [p_pow]; exact Nat.pow_le_pow_right (by decide) (by decide)
theorem x11_cmpB49 {A W r : Nat} {p g : Int} {s1 s2 : Int32} {D1 D2 : Nat → Int32} (h1 : R30 s1 D1 A) (h2 : R30 s2 D2 W) (hA : bl A ≤ 15000) (hW : bl W ≤ 15000) (hr : r ≤ 2)
    (hp1 : -3000000 ≤ p) (hp2 : p ≤ 3000000) (hg1 : -5000 ≤ g) (hg2 : g ≤ 5000) (al : Int32) (ad : Nat → Int32) (bl' : Int32) (bd : Nat → Int32) (ll : Int32) (ld : Nat → Int32) (tl : Int32) (td : Nat → Int32) :
    ∃ q : Q8, f_X11_compare_B49 (iI p) (uI r) al ad bl' bd (iI g) s1 D1 s2 D2 ll ld tl td = some (iI (cmpI (A * 2 ^ (p - g * r).toNat) (W * 2 ^ (g * r - p).toNat)), q) := by
  unfold f_X11_compare_B49
  have hgr : -10000 ≤ g * (r : Int) ∧ g * (r : Int) ≤ 10000 := by
    have : r = 0 ∨ r = 1 ∨ r = 2 := by omega
    rcases this with rfl | rfl | rfl <;> omega
  rw [x10_bits h1, Option.bind_some, x10_bits h2, Option.bind_some, iI_mul, iI_sub, iI_add, iI_sub]
  generalize hs : p - g * (r : Int) = s at *
  have hs' : g * (r : Int) - p = -s := by omega
  rw [hs']
  have hsb : -3010000 ≤ s ∧ s ≤ 3010000 := by omega
  by_cases hA0 : A = 0
  · subst hA0
    rw [if_pos (by exact (r30_len0 h1).mpr rfl)]
    unfold f_X11_compare_B102
    rw [if_pos (by exact (r30_len0 h1).mpr rfl), Nat.zero_mul]
    by_cases hW0 : W = 0
    · subst hW0
      rw [if_pos (by exact (r30_len0 h2).mpr rfl), Nat.zero_mul]
      exact ⟨_, rfl⟩
    · rw [if_neg (by exact fun e => hW0 ((r30_len0 h2).mp e))]
      refine ⟨(s1, D1, s2, D2, ll, ld, tl, td), ?_⟩
      unfold cmpI
      rw [if_pos (Nat.mul_pos (Nat.pos_of_ne_zero hW0) (Nat.two_pow_pos _)), wI_m1]
  · have hAI : ¬ s1 = 0 := fun e => hA0 ((r30_len0 h1).mp e)
    rw [if_neg hAI]
    by_cases hW0 : W = 0
    · subst hW0
      rw [if_pos (by exact (r30_len0 h2).mpr rfl)]
      unfold f_X11_compare_B102
      rw [if_neg hAI, Nat.zero_mul]
      refine ⟨(s1, D1, s2, D2, ll, ld, tl, td), ?_⟩
      unfold cmpI
      have := Nat.mul_pos (Nat.pos_of_ne_zero hA0) (Nat.two_pow_pos s.toNat)
      rw [if_neg (by omega), if_neg (by omega)]; rfl
    · rw [if_neg (by exact fun e => hW0 ((r30_len0 h2).mp e))]
      have hb1 := bl_mul (k := s.toNat) hA0
      have hb2 := bl_mul (k := (-s).toNat) hW0
      by_cases hz : ((bl A : Nat) : Int) + s - ((bl W : Nat) : Int) = 0
      · rw [if_pos (by rw [hz]; rfl)]
        have e1 := p519
        by_cases hs0 : s ≤ 0
        · have e : -iI s = uI (-s).toNat := by rw [iI_neg]; congr 1; omega
          have hlt : W * 2 ^ (-s).toNat < 1073741824 ^ 519 := Nat.lt_of_lt_of_le (lt_of_bl_le (k := 15000) (by omega)) e1
          obtain ⟨s3, D3, h3, h4⟩ := x10_shift h2 (s := (-s).toNat) (by omega) hlt
          have hA1 : A * 2 ^ s.toNat = A := by rw [show s.toNat = 0 by omega, Nat.pow_zero, Nat.mul_one]
          rw [if_pos (by rw [wI_0, iI_le (by omega) (by omega) (by omega) (by omega)]; exact hs0), e, h3, Option.bind_some]
          unfold f_X11_compare_B175
          rw [x10_cmp h1 h4, Option.bind_some, hA1]
          exact ⟨_, rfl⟩
        · have e : iI s = uI s.toNat := by congr 1; omega
          have hlt : A * 2 ^ s.toNat < 1073741824 ^ 519 := Nat.lt_of_lt_of_le (lt_of_bl_le (k := 15000) (by omega)) e1
          obtain ⟨s3, D3, h3, h4⟩ := x10_shift h1 (s := s.toNat) (by omega) hlt
          have hW1 : W * 2 ^ (-s).toNat = W := by rw [show (-s).toNat = 0 by omega, Nat.pow_zero, Nat.mul_one]
          rw [if_neg (by rw [wI_0, iI_le (by omega) (by omega) (by omega) (by omega)]; exact hs0), e, h3, Option.bind_some]
          unfold f_X11_compare_B175
          rw [x10_cmp h4 h2, Option.bind_some, hW1]
          exact ⟨_, rfl⟩
      · rw [if_neg (by rw [wI_0, iI_eq (by omega) (by omega) (by omega) (by omega)]; exact hz)]
        refine ⟨(s1, D1, s2, D2, ll, ld, tl, td), ?_⟩
        by_cases hpos : 0 ≤ ((bl A : Nat) : Int) + s - ((bl W : Nat) : Int)
        · rw [if_pos (by rw [wI_0, iI_le (by omega) (by omega) (by omega) (by omega)]; exact hpos)]
          have := bl_lt_imp (a := W * 2 ^ (-s).toNat) (b := A * 2 ^ s.toNat) (by omega)
          unfold cmpI
          rw [if_neg (by omega), if_neg (by omega)]; rfl
        · rw [if_neg (by rw [wI_0, iI_le (by omega) (by omega) (by omega) (by omega)]; exact hpos)]
          have := bl_lt_imp (b := W * 2 ^ (-s).toNat) (a := A * 2 ^ s.toNat) (by omega)
          unfold cmpI
          rw [if_pos this, wI_m1]
theorem bl_mul_le (a b : Nat) : bl (a * b) ≤ bl a + bl b := by
  apply bl_le_of_lt
  rw [Nat.pow_add]
  have h1 := bl_lt a
  have h2 := bl_lt b
  have h3 : 0 < 2 ^ bl b := Nat.two_pow_pos _
  exact Nat.lt_of_le_of_lt (Nat.mul_le_mul_left a (Nat.le_of_lt h2)) (Nat.mul_lt_mul_of_pos_right h1 h3)
theorem x11_cmpL {A B X r : Nat} {p g : Int} {s1 : Int32} {D1 : Nat → Int32} (h1 : R30 s1 D1 A) (hA : bl A ≤ 14000) (hB : bl B ≤ 14000) (hX : X < 2 ^ 60) (hr : r ≤ 2)
    (hp1 : -3000000 ≤ p) (hp2 : p ≤ 3000000) (hg1 : -5000 ≤ g) (hg2 : g ≤ 5000) (al : Int32) (ad : Nat → Int32) (bl' : Int32) (bd : Nat → Int32) :
    ∀ k i fuel s2 D2 ll ld tl td, i + k = r → k < fuel → R30 s2 D2 (B * X ^ i) →
    ∃ q : Q8, f_X11_compare_L25 (iI p) (uI r) al ad bl' bd fuel (uL X) (iI g) (uI i) s1 D1 s2 D2 ll ld tl td = some (iI (cmpI (A * 2 ^ (p - g * r).toNat) (B * X ^ r * 2 ^ (g * r - p).toNat)), q) := by
  have hXb : bl X ≤ 60 := bl_le_of_lt hX
  have hpw : ∀ i, i ≤ 2 → bl (B * X ^ i) ≤ 14000 + 120 := by
    intro i hi
    have : i = 0 ∨ i = 1 ∨ i = 2 := by omega
    rcases this with rfl | rfl | rfl
    · rw [Nat.pow_zero, Nat.mul_one]; omega
    · rw [Nat.pow_one]; have := bl_mul_le B X; omega
    · rw [Nat.pow_succ, Nat.pow_one, ← Nat.mul_assoc]
      have g1 := bl_mul_le (B * X) X
      have g2 := bl_mul_le B X
      omega
  intro k
  induction k with
  | zero =>
    intro i fuel s2 D2 ll ld tl td hk hf h2
    obtain ⟨m, rfl, _⟩ := ex_succ hf
    have hi : i = r := by omega
    subst hi
    rw [f_X11_compare_L25, if_pos (by exact (uI_le (by omega) (by omega)).mpr (Nat.le_refl _))]
    have := hpw i hr
    exact x11_cmpB49 h1 h2 (by omega) (by omega) hr hp1 hp2 hg1 hg2 al ad bl' bd ll ld tl td
  | succ k ih =>
    intro i fuel s2 D2 ll ld tl td hk hf h2
    obtain ⟨m, rfl, hm⟩ := ex_succ hf
    have hb := hpw (i + 1) (by omega)
    have e1 : B * X ^ (i + 1) = B * X ^ i * X := by rw [Nat.pow_succ, Nat.mul_assoc]
    have hlt : B * X ^ i * X < 1073741824 ^ 519 := by
      rw [← e1]
      exact Nat.lt_of_lt_of_le (lt_of_bl_le (k := 15000) (by omega)) p519
    obtain ⟨a, b, c, d, s3, D3, h3, h4⟩ := x11_timesLong h2 (u := X) (by omega) hlt ll ld tl td
    rw [f_X11_compare_L25, if_neg (by exact fun h => by have := (uI_le (by omega) (by omega)).mp h; omega), h3, Option.bind_some, uI_succ]
    rw [← e1] at h4
    exact ih (i + 1) m s3 D3 a b c d (by omega) (by omega) h4
/-- the reference's value: A by B times 2 to the p, its r-th root -/
theorem x11_cmp {A B X r k f : Nat} {p g : Int} {sa sb : Int32} {Da Db : Nat → Int32} (ha : R30 sa Da A) (hb : R30 sb Db B) (hA : bl A ≤ 14000) (hB : bl B ≤ 14000) (hX : X < 2 ^ 60) (hr : r ≤ 2)
    (hp1 : -3000000 ≤ p) (hp2 : p ≤ 3000000) (hk : k ≤ 3000) (hg : g = fLo f - 1 + k) (z : Q8) :
    ∃ q : Q8, f_X11_compare (iI p) (uI r) sa Da sb Db (uL X) (iI g) z.1 z.2.1 z.2.2.1 z.2.2.2.1 z.2.2.2.2.1 z.2.2.2.2.2.1 z.2.2.2.2.2.2.1 z.2.2.2.2.2.2.2 = some (iI (cmpI (A * 2 ^ (p - r * (fLo f - 1)).toNat) (B * 2 ^ (r * (fLo f - 1) - p).toNat * (X * 2 ^ k) ^ r)), q) := by
  have hlo := fLo_bd f
  unfold f_X11_compare
  obtain ⟨s1, D1, h1, h2⟩ := x10_copy ha z.1 z.2.1
  obtain ⟨s2, D2, h3, h4⟩ := x10_copy hb z.2.2.1 z.2.2.2.1
  rw [h1, Option.bind_some, h3, Option.bind_some]
  obtain ⟨q, hq⟩ := x11_cmpL h2 hA hB hX hr hp1 hp2 (show -5000 ≤ g by omega) (show g ≤ 5000 by omega) sa Da sb Db r 0 FU s2 D2 z.2.2.2.2.1 z.2.2.2.2.2.1 z.2.2.2.2.2.2.1 z.2.2.2.2.2.2.2 (by omega) (by rw [hFU]; omega) (by rw [Nat.pow_zero, Nat.mul_one]; exact h4)
  refine ⟨q, ?_⟩
  have hq' := hq
  rw [show uI 0 = (0 : Int32) from rfl] at hq'
  rw [hq']
  congr 2
  congr 1
  have hgr : g * (r : Int) = r * (fLo f - 1) + ((k * r : Nat) : Int) := by
    rw [hg, Int.add_mul, Int.mul_comm, Int.natCast_mul]
  refine cmpI_scale (c := 2 ^ (p - r * (fLo f - 1)).toNat) (c' := 2 ^ (p - g * r).toNat) (Nat.two_pow_pos _) (Nat.two_pow_pos _) ?_ ?_
  · rw [Nat.mul_assoc, Nat.mul_assoc, Nat.mul_comm (2 ^ (p - g * (r : Int)).toNat)]
  · rw [Nat.mul_pow, ← Nat.pow_mul]
    have e2 : 2 ^ (g * (r : Int) - p).toNat * 2 ^ (p - r * (fLo f - 1)).toNat = 2 ^ (r * (fLo f - 1) - p).toNat * 2 ^ (k * r) * 2 ^ (p - g * (r : Int)).toNat := by
      rw [← Nat.pow_add, ← Nat.pow_add, ← Nat.pow_add]
      congr 1
      generalize (r : Int) * (fLo f - 1) = w at *
      omega
    rw [Nat.mul_assoc (B * X ^ r), e2]
    simp only [Nat.mul_assoc, Nat.mul_comm, Nat.mul_left_comm]
/-! its steps -/
theorem x11_stepM {f t : Nat} (hf : f ≤ 1) (ht : t < 9223372036854775808) : f_X11_stepM (uI f) (uL t) = some (uL (stM f t)) := by
  have hw := wd_lt f
  have hq : t / 2 ^ fWd f < 18446744073709551616 := Nat.lt_of_le_of_lt (Nat.div_le_self _ _) (by omega)
  unfold f_X11_stepM stM
  rw [x11_precision hf, Option.bind_some, wd_mask hf, wd_one hf, wd_pred, uL_lsr ht (by omega), uL_maskk (by omega), fr_or hf]
  by_cases hz : t / 2 ^ fWd f = 0
  · rw [if_pos (by exact (uL_cmp0 hq).mpr hz), if_pos hz]
  · rw [if_neg (by exact fun e => hz ((uL_cmp0 hq).mp e)), if_neg hz]
theorem x11_stepE {f t : Nat} (hf : f ≤ 1) (ht : t < 9223372036854775808) : f_X11_stepE (uI f) (uL t) = some (iI (fLo f + stE f t)) := by
  have hw := wd_lt f
  have hq : t / 2 ^ fWd f < 9223372036854775808 := Nat.lt_of_le_of_lt (Nat.div_le_self _ _) ht
  unfold f_X11_stepE stE f_J9_max_f86c9
  rw [x11_precision hf, Option.bind_some, x11_least hf, Option.bind_some, wd_pred, uL_lsr ht (by omega), wL_1, iL_sub, wL_0]
  generalize t / 2 ^ fWd f = E at *
  by_cases hz : E = 0
  · subst hz
    rw [if_pos (by rw [lc_lt (by omega) (by omega) (by omega) (by omega)]; omega), Option.bind_some, iL_i, iI_add]; rfl
  · rw [if_neg (by rw [lc_lt (by omega) (by omega) (by omega) (by omega)]; omega), Option.bind_some, iL_i, iI_add]
    congr 2; omega
theorem stM_lt (f t : Nat) : stM f t < 2 ^ 53 := by
  have hw := wd_lt f
  unfold stM
  have hp : 2 ^ fWd f ≤ 2 ^ 52 := Nat.pow_le_pow_right (by decide) (by omega)
  have hm : t % 2 ^ fWd f < 2 ^ fWd f := Nat.mod_lt _ (Nat.two_pow_pos _)
  split
  · rename_i h
    have := (Nat.div_eq_zero_iff_lt (Nat.two_pow_pos _)).mp h
    omega
  · omega
theorem stE_le {f t : Nat} (hf : f ≤ 1) (ht : t < 2 ^ fTop f) : stE f t < 2048 := by
  have h1 := top_E hf ht
  have h2 := fEx_cases hf
  unfold stE
  exact Nat.lt_of_le_of_lt (Nat.sub_le _ _) (by omega)
theorem x11_cmpStep {A B r f t : Nat} {p : Int} {sa sb : Int32} {Da Db : Nat → Int32} (ha : R30 sa Da A) (hb : R30 sb Db B) (hA : bl A ≤ 14000) (hB : bl B ≤ 14000) (hr : r ≤ 2)
    (hp1 : -3000000 ≤ p) (hp2 : p ≤ 3000000) (hf : f ≤ 1) (ht : t < 2 ^ fTop f) (z : Q8) :
    ∃ q : Q8, f_X11_compareStep (iI p) (uI r) sa Da sb Db (uI f) (uL t) z.1 z.2.1 z.2.2.1 z.2.2.2.1 z.2.2.2.2.1 z.2.2.2.2.2.1 z.2.2.2.2.2.2.1 z.2.2.2.2.2.2.2 = some (iI (cmpI (A * 2 ^ (p - r * (fLo f - 1)).toNat) (B * 2 ^ (r * (fLo f - 1) - p).toNat * (2 * stV f t) ^ r)), q) := by
  have h63 := top_t63 hf ht
  have hm := stM_lt f t
  have he := stE_le hf ht
  have e : 2 * stV f t = stM f t * 2 ^ (stE f t + 1) := by
    unfold stV; rw [Nat.pow_succ, Nat.mul_comm 2, Nat.mul_assoc]
  obtain ⟨q, hq⟩ := x11_cmp (X := stM f t) (k := stE f t + 1) (g := fLo f + stE f t) (f := f) ha hb hA hB (by omega) hr hp1 hp2 (by omega) (by omega) z
  refine ⟨q, ?_⟩
  unfold f_X11_compareStep
  rw [x11_stepM hf h63, Option.bind_some, x11_stepE hf h63, Option.bind_some, hq, Option.bind_some, e]
