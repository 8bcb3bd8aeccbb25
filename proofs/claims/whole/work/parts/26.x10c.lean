/-! addTimes -/
theorem at_carry {v w f i : Nat} (hf : f < 1073741824) : (v % 1073741824 ^ i + w % 1073741824 ^ i * f) / 1073741824 ^ i < 1073741824 := by
  apply Nat.div_lt_of_lt_mul
  have h1 : v % 1073741824 ^ i < 1073741824 ^ i := Nat.mod_lt _ (Nat.pow_pos p_pos)
  have h0 : w % 1073741824 ^ i < 1073741824 ^ i := Nat.mod_lt _ (Nat.pow_pos p_pos)
  have h2 : w % 1073741824 ^ i * f ≤ (1073741824 ^ i - 1) * (1073741824 - 1) := Nat.mul_le_mul (by omega) (by omega)
  have h4 : 0 < 1073741824 ^ i := Nat.pow_pos p_pos
  have h3 : (1073741824 ^ i - 1) * (1073741824 - 1) + 1073741824 ^ i + (1073741824 - 1) = 1073741824 ^ i * 1073741824 := by
    obtain ⟨g, hg⟩ : ∃ g, 1073741824 ^ i = g + 1 := ⟨1073741824 ^ i - 1, by omega⟩
    rw [hg]; omega
  omega
theorem at_step {v w f i : Nat} : v % 1073741824 ^ (i + 1) + w % 1073741824 ^ (i + 1) * f = (v % 1073741824 ^ i + w % 1073741824 ^ i * f) + 1073741824 ^ i * (v / 1073741824 ^ i % 1073741824 + w / 1073741824 ^ i % 1073741824 * f) := by
  rw [Nat.mod_pow_succ, Nat.mod_pow_succ, Nat.add_mul, Nat.mul_add, Nat.mul_assoc]; omega
theorem at_dig {v w f i : Nat} : ((v % 1073741824 ^ i + w % 1073741824 ^ i * f) / 1073741824 ^ i + (v / 1073741824 ^ i % 1073741824 + w / 1073741824 ^ i % 1073741824 * f)) % 1073741824 = (v + w * f) / 1073741824 ^ i % 1073741824 := by
  rw [← cy_mod p_pos, ← at_step]
  refine (dg_eq (K := v / 1073741824 ^ (i + 1) + w / 1073741824 ^ (i + 1) * f) p_pos ?_).symm
  have h1 := dg_split (B := 1073741824) (v := v) (i := i + 1)
  have h2 := dg_split (B := 1073741824) (v := w) (i := i + 1)
  have h3 : w * f = w % 1073741824 ^ (i + 1) * f + 1073741824 ^ (i + 1) * (w / 1073741824 ^ (i + 1) * f) := by
    rw [← Nat.mul_assoc, ← Nat.add_mul, ← h2]
  rw [Nat.mul_add]
  omega
theorem x10_atB {m v w f a b n i : Nat} {D D1 : Nat → Int32} (hf : f < 1073741824) (ha : a ≤ 520) (hv : v < 1073741824 ^ a) (hb : b ≤ 520) (hw : w < 1073741824 ^ b) (hd1 : ∀ j, j < b → D1 j = uI (w / 1073741824 ^ j % 1073741824)) (hi : i < 520) (hn : n ≤ 520) (hD : i < a → D i = uI (v / 1073741824 ^ i % 1073741824)) :
    f_X10_addTimes_B33 (uI b) D1 (f_X10_addTimes_L19 (uI b) D1 m) (uL f) (uL ((v % 1073741824 ^ i + w % 1073741824 ^ i * f) / 1073741824 ^ i)) (uI n) (uI i) (uI a) D = f_X10_addTimes_L19 (uI b) D1 m (uL f) (uL ((v % 1073741824 ^ (i + 1) + w % 1073741824 ^ (i + 1) * f) / 1073741824 ^ (i + 1))) (uI (max n (i + 1))) (uI (i + 1)) (uI a) (upd D i (uI ((v + w * f) / 1073741824 ^ i % 1073741824))) := by
  have hc := at_carry (v := v) (w := w) (i := i) hf
  have hdv : v / 1073741824 ^ i % 1073741824 < 1073741824 := Nat.mod_lt _ p_pos
  have hdw : w / 1073741824 ^ i % 1073741824 < 1073741824 := Nat.mod_lt _ p_pos
  have hdf : w / 1073741824 ^ i % 1073741824 * f ≤ (1073741824 - 1) * (1073741824 - 1) := Nat.mul_le_mul (by omega) (by omega)
  have hB79 : f_X10_addTimes_B79 (uI b) D1 (f_X10_addTimes_L19 (uI b) D1 m) (uL f) (uI n) (uI i) (uL ((v % 1073741824 ^ i + w % 1073741824 ^ i * f) / 1073741824 ^ i)) (uL (v / 1073741824 ^ i % 1073741824)) (uL (w / 1073741824 ^ i % 1073741824 * f)) (uI a) D = f_X10_addTimes_L19 (uI b) D1 m (uL f) (uL ((v % 1073741824 ^ (i + 1) + w % 1073741824 ^ (i + 1) * f) / 1073741824 ^ (i + 1))) (uI (max n (i + 1))) (uI (i + 1)) (uI a) (upd D i (uI ((v + w * f) / 1073741824 ^ i % 1073741824))) := by
    unfold f_X10_addTimes_B79
    rw [if_pos (by exact (uI_vIn (by omega)).mpr hi), uI_clamp (by omega), uI_succ, max_uI (by omega) (by omega), Option.bind_some, uL_add, uL_add, show (30 : Int32) = uI 30 from rfl, uL_lsr (by omega) (by decide), uL_mask30, uL_toI, at_dig, at_step, cy_div p_pos]
  have hB55 : f_X10_addTimes_B55 (uI b) D1 (f_X10_addTimes_L19 (uI b) D1 m) (uL f) (uI n) (uI i) (uL ((v % 1073741824 ^ i + w % 1073741824 ^ i * f) / 1073741824 ^ i)) (uI (v / 1073741824 ^ i % 1073741824)) (uI a) D = f_X10_addTimes_L19 (uI b) D1 m (uL f) (uL ((v % 1073741824 ^ (i + 1) + w % 1073741824 ^ (i + 1) * f) / 1073741824 ^ (i + 1))) (uI (max n (i + 1))) (uI (i + 1)) (uI a) (upd D i (uI ((v + w * f) / 1073741824 ^ i % 1073741824))) := by
    unfold f_X10_addTimes_B55
    rw [uI_toL (a := v / 1073741824 ^ i % 1073741824) (by omega)]
    by_cases hc : b ≤ i
    · have e0 : w / 1073741824 ^ i % 1073741824 = 0 := by rw [dg_hi p_pos hw hc]
      rw [e0, Nat.zero_mul] at hB79
      rw [if_pos (by exact (uI_le (by omega) (by omega)).mpr hc)]
      exact hB79
    · rw [if_neg (by exact fun h => hc ((uI_le (by omega) (by omega)).mp h)), if_pos (by exact (uI_vIn (by omega)).mpr hi), uI_clamp (by omega), hd1 i (by omega), uI_toL (by omega), uL_mul]
      exact hB79
  unfold f_X10_addTimes_B33
  by_cases hc : a ≤ i
  · have e0 : v / 1073741824 ^ i % 1073741824 = 0 := by rw [dg_hi p_pos hv hc]
    rw [e0] at hB55
    rw [if_pos (by exact (uI_le (by omega) (by omega)).mpr hc)]
    exact hB55
  · rw [if_neg (by exact fun h => hc ((uI_le (by omega) (by omega)).mp h)), if_pos (by exact (uI_vIn (by omega)).mpr hi), uI_clamp (by omega), hD (by omega)]
    exact hB55
theorem x10_atL {v w f a b : Nat} {D1 : Nat → Int32} (hf : f < 1073741824) (ha : a ≤ 520) (hv : v < 1073741824 ^ a) (hb : b ≤ 520) (hw : w < 1073741824 ^ b) (hd1 : ∀ j, j < b → D1 j = uI (w / 1073741824 ^ j % 1073741824)) (hW : v + w * f < 1073741824 ^ 520) :
    ∀ k i fuel D, i + k = max a b → k + 1 < fuel → (∀ j, j < i → D j = uI ((v + w * f) / 1073741824 ^ j % 1073741824)) → (∀ j, i ≤ j → j < a → D j = uI (v / 1073741824 ^ j % 1073741824)) →
    ∃ s D', f_X10_addTimes_L19 (uI b) D1 fuel (uL f) (uL ((v % 1073741824 ^ i + w % 1073741824 ^ i * f) / 1073741824 ^ i)) (uI (max a b)) (uI i) (uI a) D = some (s, D') ∧ R30 s D' (v + w * f) := by
  intro k
  induction k with
  | zero =>
    intro i fuel D hk hfu hL hR
    obtain ⟨m, rfl, hm1⟩ := ex_succ hfu
    obtain ⟨m, rfl, hm⟩ := ex_succ (a := 0) (b := m) (by omega)
    have hi : i = max a b := by omega
    rw [← hi]
    have h1 : v < 1073741824 ^ i := Nat.lt_of_lt_of_le hv (Nat.pow_le_pow_right p_pos (by omega))
    have h2 : w < 1073741824 ^ i := Nat.lt_of_lt_of_le hw (Nat.pow_le_pow_right p_pos (by omega))
    have hc := at_carry (v := v) (w := w) (i := i) hf
    have hWi : v % 1073741824 ^ i + w % 1073741824 ^ i * f = v + w * f := by rw [Nat.mod_eq_of_lt h1, Nat.mod_eq_of_lt h2]
    rw [f_X10_addTimes_L19, if_neg (fun h => by have := (uI_lt (by omega) (by omega)).mp h; omega)]
    by_cases h0 : (v % 1073741824 ^ i + w % 1073741824 ^ i * f) / 1073741824 ^ i = 0
    · rw [if_pos (by exact (uL_cmp0 (by omega)).mpr h0)]
      unfold f_X10_addTimes_B121
      rw [hWi] at h0
      obtain ⟨s, h3, h4⟩ := x10_trim (D := D) (uI a) (show i ≤ 520 by omega) ((Nat.div_eq_zero_iff_lt (Nat.pow_pos p_pos)).mp h0) hL
      rw [h3]
      exact ⟨s, _, rfl, h4⟩
    · have hge : 1073741824 ^ i ≤ v + w * f := by
        rw [← hWi]
        apply Nat.le_of_not_lt
        intro h
        exact h0 (Nat.div_eq_of_lt h)
      have hi2 : i < 520 := by
        apply Nat.lt_of_not_le
        intro h
        have : 1073741824 ^ 520 ≤ 1073741824 ^ i := Nat.pow_le_pow_right p_pos h
        omega
      rw [if_neg (by exact fun h => h0 ((uL_cmp0 (by omega)).mp h)), x10_atB hf ha hv hb hw hd1 hi2 (by omega) (fun h => by omega), show max i (i + 1) = i + 1 by omega, f_X10_addTimes_L19, if_neg (fun h => by have := (uI_lt (by omega) (by omega)).mp h; omega)]
      have h1' : v < 1073741824 ^ (i + 1) := Nat.lt_of_lt_of_le hv (Nat.pow_le_pow_right p_pos (by omega))
      have h2' : w < 1073741824 ^ (i + 1) := Nat.lt_of_lt_of_le hw (Nat.pow_le_pow_right p_pos (by omega))
      have hWn : v + w * f < 1073741824 ^ (i + 1) := by
        rw [hWi] at hc
        have h9 := (Nat.div_lt_iff_lt_mul (Nat.pow_pos p_pos)).mp hc
        rw [Nat.pow_succ]; omega
      rw [Nat.mod_eq_of_lt h1', Nat.mod_eq_of_lt h2', Nat.div_eq_of_lt hWn, if_pos (by exact (uL_cmp0 (by omega)).mpr rfl)]
      unfold f_X10_addTimes_B121
      obtain ⟨s, h3, h4⟩ := x10_trim (D := upd D i (uI ((v + w * f) / 1073741824 ^ i % 1073741824))) (uI a) (show i + 1 ≤ 520 by omega) hWn (fun j hj => by
        by_cases e : j = i
        · subst e; rw [upd_eq]
        · rw [upd_ne _ _ e]; exact hL j (by omega))
      rw [h3]
      exact ⟨s, _, rfl, h4⟩
  | succ k ih =>
    intro i fuel D hk hfu hL hR
    obtain ⟨m, rfl, hm⟩ := ex_succ hfu
    rw [f_X10_addTimes_L19, if_pos (by exact (uI_lt (by omega) (by omega)).mpr (by omega)), x10_atB hf ha hv hb hw hd1 (by omega) (by omega) (fun h => hR i (by omega) h), show max (max a b) (i + 1) = max a b by omega]
    refine ih (i + 1) m _ (by omega) (by omega) (fun j hj => ?_) (fun j hj hj2 => ?_)
    · by_cases e : j = i
      · subst e; rw [upd_eq]
      · rw [upd_ne _ _ e]; exact hL j (by omega)
    · rw [upd_ne _ _ (by omega)]; exact hR j (by omega) hj2
theorem x10_addTimes {s0 s1 : Int32} {D0 D1 : Nat → Int32} {v w f : Nat} (h0 : R30 s0 D0 v) (h1 : R30 s1 D1 w) (hf : f < 1073741824) (hW : v + w * f < 1073741824 ^ 520) : ∃ s D', f_X10_addTimes s1 D1 (uL f) s0 D0 = some (s, D') ∧ R30 s D' (v + w * f) := by
  obtain ⟨a, ha, rfl, hv, hlv, hdv⟩ := h0
  obtain ⟨b, hb, rfl, hw, hlw, hdw⟩ := h1
  unfold f_X10_addTimes
  rw [max_uI (by omega) (by omega), Option.bind_some]
  have := x10_atL hf ha hv hb hw hdw hW (max a b) 0 FU D0 (by omega) (by rw [hFU]; omega) (fun j hj => by omega) (fun j _ hj => hdv j hj)
  have e : (v % 1073741824 ^ 0 + w % 1073741824 ^ 0 * f) / 1073741824 ^ 0 = 0 := by rw [Nat.pow_zero, Nat.mod_one, Nat.mod_one]; omega
  rw [e] at this
  exact this
/-! shift -/
theorem shP_word {v p w i : Nat} : v * 2 ^ (30 * w + p) / 1073741824 ^ (i + w) = v * 2 ^ p / 1073741824 ^ i := by
  have e : 2 ^ (30 * w) = 1073741824 ^ w := by rw [Nat.pow_mul]
  rw [Nat.pow_add, e, Nat.pow_add 1073741824, Nat.mul_comm (1073741824 ^ w), ← Nat.mul_assoc, Nat.mul_div_mul_right _ _ (Nat.pow_pos p_pos)]
theorem shP_zero {v p w j : Nat} (h : j < w) : v * 2 ^ (30 * w + p) / 1073741824 ^ j % 1073741824 = 0 := by
  have e : 2 ^ (30 * w) = 1073741824 ^ w := by rw [Nat.pow_mul]
  have e2 : 1073741824 ^ w = 1073741824 ^ j * (1073741824 * 1073741824 ^ (w - j - 1)) := by rw [← Nat.pow_succ', ← Nat.pow_add]; congr 1; omega
  rw [Nat.pow_add, e, e2, show v * (1073741824 ^ j * (1073741824 * 1073741824 ^ (w - j - 1)) * 2 ^ p) = 1073741824 ^ j * (1073741824 * (v * 1073741824 ^ (w - j - 1) * 2 ^ p)) by simp only [Nat.mul_comm, Nat.mul_left_comm], Nat.mul_div_cancel_left _ (Nat.pow_pos p_pos), Nat.mul_mod_right]
theorem shP_or {d d' p : Nat} (hp : p < 30) (hd : d < 1073741824) (hd' : d' < 1073741824) : (((lsh (uL d) (uI p)) ||| (lus (lsh (uL d') (uI p)) (30 : Int32))) &&& (1073741823 : Int64)).toInt32 = uI (d % 2 ^ (30 - p) * 2 ^ p + d' / 2 ^ (30 - p)) := by
  have hq := p_two p (by omega)
  have hp0 : 0 < 2 ^ p := Nat.two_pow_pos p
  have hr0 : 0 < 2 ^ (30 - p) := Nat.two_pow_pos _
  have hpp : 2 ^ p ≤ 1073741824 := by rw [hq]; exact Nat.le_mul_of_pos_right _ hr0
  have hd2 : d' * 2 ^ p ≤ (1073741824 - 1) * 1073741824 := Nat.mul_le_mul (by omega) hpp
  have hd1 : d * 2 ^ p ≤ (1073741824 - 1) * 1073741824 := Nat.mul_le_mul (by omega) hpp
  rw [uL_lsh d (by omega), uL_lsh d' (by omega), show (30 : Int32) = uI 30 from rfl, uL_lus (by omega) (by decide)]
  have e1 : d' * 2 ^ p / 2 ^ 30 = d' / 2 ^ (30 - p) := by
    rw [show (2 : Nat) ^ 30 = 2 ^ (30 - p) * 2 ^ p by rw [← Nat.pow_add, show 30 - p + p = 30 by omega], Nat.mul_div_mul_right _ _ hp0]
  have he : d' / 2 ^ (30 - p) < 2 ^ p := Nat.div_lt_of_lt_mul (by rw [Nat.mul_comm, ← hq]; exact hd')
  rw [e1, lor_add he (by omega), uL_mask30, uL_toI]
  have e3 : d * 2 ^ p % 1073741824 = d % 2 ^ (30 - p) * 2 ^ p := by
    conv => lhs; rw [hq, Nat.mul_comm (2 ^ p) (2 ^ (30 - p))]
    rw [Nat.mul_mod_mul_right]
  have h4 : d % 2 ^ (30 - p) < 2 ^ (30 - p) := Nat.mod_lt _ hr0
  have h5 : d % 2 ^ (30 - p) * 2 ^ p + d' / 2 ^ (30 - p) < 1073741824 := by
    have : (d % 2 ^ (30 - p) + 1) * 2 ^ p ≤ 2 ^ (30 - p) * 2 ^ p := Nat.mul_le_mul_right _ (by omega)
    rw [Nat.add_mul, Nat.one_mul, Nat.mul_comm (2 ^ (30 - p)), ← hq] at this
    omega
  congr 2
  rw [Nat.add_mod, e3, Nat.mod_eq_of_lt (show d' / 2 ^ (30 - p) < 1073741824 by omega), Nat.mod_eq_of_lt h5]
theorem x10_shiftA {v p w n : Nat} (hp : p < 30) (hnw : n + w ≤ 519) (hv : v < 1073741824 ^ n) :
    ∀ k fuel D, k ≤ n + 1 → k < fuel → (∀ j, k ≤ j → j ≤ n → D (j + w) = uI (v * 2 ^ (30 * w + p) / 1073741824 ^ (j + w) % 1073741824)) → (∀ j, j < k → j ≤ n → D j = uI (v / 1073741824 ^ j % 1073741824)) →
    ∃ D', f_X10_shift_L34 fuel (uI w) (uI p) (iI ((k : Int) - 1)) (uI n) D = f_X10_shift_L105 FU (uI w) 0 (uI n) D' ∧ ∀ j, j ≤ n → D' (j + w) = uI (v * 2 ^ (30 * w + p) / 1073741824 ^ (j + w) % 1073741824) := by
  intro k
  induction k with
  | zero =>
    intro fuel D hk hf hL hR
    obtain ⟨m, rfl, _⟩ := ex_succ hf
    refine ⟨D, ?_, fun j hj => hL j (by omega) hj⟩
    rw [f_X10_shift_L34, if_pos (by rw [wI_0, iI_lt (by omega) (by omega) (by omega) (by omega)]; omega)]
  | succ k ih =>
    intro fuel D hk hf hL hR
    obtain ⟨m, rfl, hm⟩ := ex_succ hf
    have e1 : iI (((k + 1 : Nat) : Int) - 1) = uI k := by congr 1; omega
    have hdq : ∀ j, v / 1073741824 ^ j % 1073741824 < 1073741824 := fun j => Nat.mod_lt _ p_pos
    have e2 : uI k + (-1 : Int32) = iI ((k : Int) - 1) := by rw [wI_m1, iI_add]; rfl
    have hB : ∀ d', d' < 1073741824 → v * 2 ^ (30 * w + p) / 1073741824 ^ (k + w) % 1073741824 = v / 1073741824 ^ k % 1073741824 % 2 ^ (30 - p) * 2 ^ p + d' / 2 ^ (30 - p) → f_X10_shift_B58 (f_X10_shift_L34 m) (uI w) (uI p) (uI k) (uL d') (uI n) D = f_X10_shift_L34 m (uI w) (uI p) (iI ((k : Int) - 1)) (uI n) (upd D (k + w) (uI (v * 2 ^ (30 * w + p) / 1073741824 ^ (k + w) % 1073741824))) := by
      intro d' hd' hdig
      unfold f_X10_shift_B58
      rw [if_pos (by exact (uI_vIn (by omega)).mpr (by omega)), uI_add, if_pos (by exact (uI_vIn (by omega)).mpr (by omega)), uI_clamp (by omega), uI_clamp (by omega), hR k (by omega) (by omega), uI_toL (by have := hdq k; omega), shP_or hp (hdq k) hd', ← hdig, e2]
    have hgo : f_X10_shift_L34 (m + 1) (uI w) (uI p) (uI k) (uI n) D = f_X10_shift_L34 m (uI w) (uI p) (iI ((k : Int) - 1)) (uI n) (upd D (k + w) (uI (v * 2 ^ (30 * w + p) / 1073741824 ^ (k + w) % 1073741824))) := by
      rw [f_X10_shift_L34, if_neg (uI_nneg (by omega))]
      by_cases h0 : k = 0
      · subst h0
        rw [if_pos (by exact (uI_le0 (by omega)).mpr rfl)]
        refine hB 0 p_pos ?_
        rw [shP_word, sh_digG0 (p_two p (by omega)), Nat.zero_div, Nat.add_zero]
      · obtain ⟨i, rfl⟩ : ∃ i, k = i + 1 := ⟨k - 1, by omega⟩
        rw [if_neg (by exact fun h => h0 ((uI_le0 (by omega)).mp h)), uI_pred, if_pos (by exact (uI_vIn (by omega)).mpr (by omega)), uI_clamp (by omega), hR i (by omega) (by omega), uI_toL (by have := hdq i; omega)]
        refine hB _ (hdq i) ?_
        rw [shP_word, sh_digG (p_two p (by omega))]
    rw [e1, hgo]
    refine ih m _ (by omega) (by omega) (fun j hj hj2 => ?_) (fun j hj hj2 => ?_)
    · by_cases e : j = k
      · subst e; rw [upd_eq]
      · rw [upd_ne _ _ (by omega)]; exact hL j (by omega) hj2
    · rw [upd_ne _ _ (by omega)]; exact hR j (by omega) hj2
theorem x10_shiftB {w n : Nat} {W : Nat} (hw : w ≤ 519) : ∀ k i fuel D, i + k = w → k < fuel → (∀ j, j < i → D j = uI 0) → (∀ j, w ≤ j → j ≤ n + w → D j = uI (W / 1073741824 ^ j % 1073741824)) →
    ∃ D', f_X10_shift_L105 fuel (uI w) (uI i) (uI n) D = f_X10_shift_B125 (uI w) (uI n) D' ∧ (∀ j, j < w → D' j = uI 0) ∧ (∀ j, w ≤ j → j ≤ n + w → D' j = uI (W / 1073741824 ^ j % 1073741824)) := by
  intro k
  induction k with
  | zero =>
    intro i fuel D hk hf hL hR
    obtain ⟨m, rfl, _⟩ := ex_succ hf
    refine ⟨D, ?_, fun j hj => hL j (by omega), hR⟩
    rw [f_X10_shift_L105, if_pos (by exact (uI_le (by omega) (by omega)).mpr (by omega))]
  | succ k ih =>
    intro i fuel D hk hf hL hR
    obtain ⟨m, rfl, hm⟩ := ex_succ hf
    rw [f_X10_shift_L105, if_neg (fun h => by have := (uI_le (by omega) (by omega)).mp h; omega), if_pos (by exact (uI_vIn (by omega)).mpr (by omega)), uI_clamp (by omega), uI_succ]
    refine ih (i + 1) m _ (by omega) (by omega) (fun j hj => ?_) (fun j hj hj2 => ?_)
    · by_cases e : j = i
      · subst e; rw [upd_eq]; rfl
      · rw [upd_ne _ _ e]; exact hL j (by omega)
    · rw [upd_ne _ _ (by omega)]; exact hR j hj hj2
theorem x10_shift {sz : Int32} {D : Nat → Int32} {v s : Nat} (h : R30 sz D v) (hs : s < 1000000) (hW : v * 2 ^ s < 1073741824 ^ 519) : ∃ s' D', f_X10_shift (uI s) sz D = some (s', D') ∧ R30 s' D' (v * 2 ^ s) := by
  have h0 := h
  have hv5 : v < 1073741824 ^ 519 := Nat.lt_of_le_of_lt (Nat.le_mul_of_pos_right v (Nat.two_pow_pos s)) hW
  obtain ⟨n, hn, hn5, rfl, hv, hlow, hd⟩ := r30_len h hv5
  unfold f_X10_shift
  by_cases hn0 : n = 0
  · subst hn0
    have hv0 : v = 0 := by rw [Nat.pow_zero] at hv; omega
    subst hv0
    rw [if_pos (by exact (uI_eq0 (by omega)).mpr rfl), Nat.zero_mul]
    exact ⟨_, _, rfl, h0⟩
  · have hnw : n + s / 30 ≤ 519 := by
      apply Nat.le_of_not_lt
      intro hlt
      have h1 := hlow (n - 1) (by omega)
      have h2 : 1073741824 ^ (n - 1) * 2 ^ (30 * (s / 30)) ≤ v * 2 ^ s := Nat.mul_le_mul h1 (Nat.pow_le_pow_right (by decide) (by omega))
      rw [Nat.pow_mul, show (2 : Nat) ^ 30 = 1073741824 by decide, ← Nat.pow_add] at h2
      have h3 : 1073741824 ^ 519 ≤ 1073741824 ^ (n - 1 + s / 30) := Nat.pow_le_pow_right p_pos (by omega)
      omega
    have hsp : 30 * (s / 30) + s % 30 = s := by omega
    rw [if_neg (by exact fun h => hn0 ((uI_eq0 (by omega)).mp h)), if_pos (by exact (uI_vIn (by omega)).mpr (by omega)), uI_clamp (by omega), show (30 : Int32) = uI 30 from rfl, uI_div (by omega) (by decide) (by decide), uI_rem (by omega) (by decide) (by decide)]
    obtain ⟨D1, h1, h2⟩ := x10_shiftA (p := s % 30) (w := s / 30) (by omega) hnw hv (n + 1) FU (upd D n 0) (by omega) (by rw [hFU]; omega) (fun j hj hj2 => by omega) (fun j _ hj2 => by
      by_cases e : j = n
      · subst e; rw [upd_eq, Nat.div_eq_of_lt hv]; rfl
      · rw [upd_ne _ _ e]; exact hd j (by omega))
    have e1 : iI (((n + 1 : Nat) : Int) - 1) = uI n := by congr 1; omega
    rw [e1] at h1
    rw [hsp] at h2
    obtain ⟨D2, h3, h4, h5⟩ := x10_shiftB (n := n) (W := v * 2 ^ s) (w := s / 30) (by omega) (s / 30) 0 FU D1 (by omega) (by rw [hFU]; omega) (fun j hj => by omega) (fun j hj hj2 => by
      have := h2 (j - s / 30) (by omega)
      rw [show j - s / 30 + s / 30 = j by omega] at this
      exact this)
    have h3' : f_X10_shift_L105 FU (uI (s / 30)) 0 (uI n) D1 = f_X10_shift_B125 (uI (s / 30)) (uI n) D2 := h3
    rw [h1, h3']
    unfold f_X10_shift_B125
    rw [uI_add, uI_succ]
    have hvs : v * 2 ^ s < 1073741824 ^ (n + s / 30 + 1) := by
      have e : 2 ^ s ≤ 2 ^ (30 * (s / 30 + 1)) := Nat.pow_le_pow_right (by decide) (by omega)
      rw [Nat.pow_mul, show (2 : Nat) ^ 30 = 1073741824 by decide] at e
      rw [Nat.add_assoc, Nat.pow_add]
      exact Nat.lt_of_le_of_lt (Nat.mul_le_mul_left v e) (Nat.mul_lt_mul_of_pos_right hv (Nat.pow_pos p_pos))
    obtain ⟨s', h6, h7⟩ := x10_trim (D := D2) (v := v * 2 ^ s) (n := n + s / 30 + 1) (uI n) (by omega) hvs (fun j hj => by
      by_cases hjw : j < s / 30
      · rw [h4 j hjw]
        have := shP_zero (v := v) (p := s % 30) (w := s / 30) hjw
        rw [hsp] at this
        rw [this]
      · exact h5 j (by omega) (by omega))
    rw [h6]
    exact ⟨s', D2, rfl, h7⟩
/-! times -/
theorem x10_mulL {v w b : Nat} {D1 D2 : Nat → Int32} {s2 : Int32} (h2 : R30 s2 D2 v) (hb : b ≤ 520) (hw : w < 1073741824 ^ b) (hd1 : ∀ j, j < b → D1 j = uI (w / 1073741824 ^ j % 1073741824)) (s1 : Int32) (hW : v * w < 1073741824 ^ 519) :
    ∀ k fuel s D, k ≤ b → k < fuel → R30 s D (v * (w / 1073741824 ^ k)) → ∃ s' D', f_X10_times__L17 s1 D1 fuel (iI ((k : Int) - 1)) s D s2 D2 = some (s', D', s2, D2) ∧ R30 s' D' (v * w) := by
  intro k
  induction k with
  | zero =>
    intro fuel s D hk hf h
    obtain ⟨m, rfl, _⟩ := ex_succ hf
    rw [Nat.pow_zero, Nat.div_one] at h
    rw [f_X10_times__L17, if_pos (by rw [wI_0, iI_lt (by omega) (by omega) (by omega) (by omega)]; omega)]
    exact ⟨_, _, rfl, h⟩
  | succ k ih =>
    intro fuel s D hk hf h
    obtain ⟨m, rfl, hm⟩ := ex_succ hf
    have e1 : iI (((k + 1 : Nat) : Int) - 1) = uI k := by congr 1; omega
    have e2 : uI k + (-1 : Int32) = iI ((k : Int) - 1) := by rw [wI_m1, iI_add]; rfl
    have hdw : w / 1073741824 ^ k % 1073741824 < 1073741824 := Nat.mod_lt _ p_pos
    have hd := dg_down (B := 1073741824) (v := w) (i := k)
    have hle : v * (w / 1073741824 ^ (k + 1)) * 2 ^ 30 ≤ v * w := by
      rw [Nat.mul_assoc]
      apply Nat.mul_le_mul_left
      have := Nat.div_le_self w (1073741824 ^ k)
      omega
    obtain ⟨s3, D3, h3, h4⟩ := x10_shift h (s := 30) (by decide) (by omega)
    have hacc : v * (w / 1073741824 ^ (k + 1)) * 2 ^ 30 + v * (w / 1073741824 ^ k % 1073741824) = v * (w / 1073741824 ^ k) := by
      conv => rhs; rw [hd, Nat.mul_add, ← Nat.mul_assoc]
    have hle2 : v * (w / 1073741824 ^ k) ≤ v * w := Nat.mul_le_mul_left _ (Nat.div_le_self _ _)
    have h519 : 1073741824 ^ 519 ≤ 1073741824 ^ 520 := Nat.pow_le_pow_right p_pos (by decide)
    obtain ⟨s5, D5, h5, h6⟩ := x10_addTimes h4 h2 hdw (by rw [hacc]; omega)
    rw [hacc] at h6
    rw [e1, f_X10_times__L17, if_neg (uI_nneg (by omega)), show (30 : Int32) = uI 30 from rfl, h3, Option.bind_some, if_pos (by exact (uI_vIn (by omega)).mpr (by omega)), uI_clamp (by omega), hd1 k (by omega), uI_toL (by omega), h5, Option.bind_some, e2]
    exact ih m s5 D5 (by omega) (by omega) h6
theorem x10_mul {s0 s1 : Int32} {D0 D1 : Nat → Int32} {v w : Nat} (h0 : R30 s0 D0 v) (h1 : R30 s1 D1 w) (s2 : Int32) (D2 : Nat → Int32) (hW : v * w < 1073741824 ^ 519) : ∃ s D' s3 D3, f_X10_times_ s1 D1 s0 D0 s2 D2 = some (s, D', s3, D3) ∧ R30 s D' (v * w) := by
  unfold f_X10_times_
  obtain ⟨s3, D3, h3, h4⟩ := x10_copy h0 s2 D2
  obtain ⟨b, hb, rfl, hw, hlw, hdw⟩ := h1
  obtain ⟨s', D', h5, h6⟩ := x10_mulL h4 hb hw hdw (uI b) hW b FU (uI 0) D0 (Nat.le_refl _) (by rw [hFU]; omega) (by rw [Nat.div_eq_of_lt hw, Nat.mul_zero]; exact r30_zero D0)
  rw [h3, Option.bind_some, wI_1, iI_sub]
  exact ⟨s', D', s3, D3, h5, h6⟩
/-! divide -/
theorem x10_divL {v n d : Nat} (hn : n ≤ 520) (hd0 : 0 < d) (hdl : d < 2147483648) :
    ∀ k fuel D, k ≤ n → k < fuel → (∀ j, k ≤ j → j < n → D j = uI (v / d / 1073741824 ^ j % 1073741824)) → (∀ j, j < k → D j = uI (v / 1073741824 ^ j % 1073741824)) →
    ∃ D', f_X10_divide_L10 fuel (uI d) (uL (v / 1073741824 ^ k % d)) (iI ((k : Int) - 1)) (uI n) D = f_X10_divide_B52 (uL (v % d)) (uI n) D' ∧ ∀ j, j < n → D' j = uI (v / d / 1073741824 ^ j % 1073741824) := by
  intro k
  induction k with
  | zero =>
    intro fuel D hk hf hL hR
    obtain ⟨m, rfl, _⟩ := ex_succ hf
    refine ⟨D, ?_, fun j hj => hL j (by omega) hj⟩
    rw [f_X10_divide_L10, if_pos (by rw [wI_0, iI_lt (by omega) (by omega) (by omega) (by omega)]; omega), Nat.pow_zero, Nat.div_one]
  | succ k ih =>
    intro fuel D hk hf hL hR
    obtain ⟨m, rfl, hm⟩ := ex_succ hf
    have e1 : iI (((k + 1 : Nat) : Int) - 1) = uI k := by congr 1; omega
    have e2 : uI k + (-1 : Int32) = iI ((k : Int) - 1) := by rw [wI_m1, iI_add]; rfl
    have hdn := dg_down (B := 1073741824) (v := v) (i := k)
    have hdq : v / 1073741824 ^ k % 1073741824 < 1073741824 := Nat.mod_lt _ p_pos
    have hr : v / 1073741824 ^ (k + 1) % d < d := Nat.mod_lt _ hd0
    have hbig : v / 1073741824 ^ (k + 1) % d * 2 ^ 30 + v / 1073741824 ^ k % 1073741824 < d * 1073741824 := by
      have : (v / 1073741824 ^ (k + 1) % d + 1) * 1073741824 ≤ d * 1073741824 := Nat.mul_le_mul_right _ hr
      rw [Nat.add_mul, Nat.one_mul] at this
      omega
    rw [e1, f_X10_divide_L10, if_neg (uI_nneg (by omega)), if_pos (by exact (uI_vIn (by omega)).mpr (by omega)), uI_toL hdl, if_neg (fun h => by
      have := (uL_eq (a := d) (b := 0) (by omega) (by omega)).mp h
      omega), uI_clamp (by omega), hR k (by omega), uI_toL (by omega), show (30 : Int32) = uI 30 from rfl, uL_lsh _ (by decide), lor_add (k := 30) (by omega) (by omega), uL_rem (by omega) hd0 (by omega), uL_div (by omega) hd0 (by omega), uL_toI, e2]
    have g1 : (v / 1073741824 ^ (k + 1) % d * 2 ^ 30 + v / 1073741824 ^ k % 1073741824) % d = v / 1073741824 ^ k % d := by
      conv => rhs; rw [hdn, Nat.add_mod, Nat.mul_mod]
      conv => lhs; rw [Nat.add_mod, Nat.mul_mod, Nat.mod_mod]
    have g2 : (v / 1073741824 ^ (k + 1) % d * 2 ^ 30 + v / 1073741824 ^ k % 1073741824) / d = v / d / 1073741824 ^ k % 1073741824 := by
      have hq : (v / 1073741824 ^ (k + 1) % d * 2 ^ 30 + v / 1073741824 ^ k % 1073741824) / d < 1073741824 := Nat.div_lt_of_lt_mul hbig
      rw [Nat.div_div_eq_div_mul v, Nat.mul_comm d, ← Nat.div_div_eq_div_mul]
      have hs := Nat.div_add_mod (v / 1073741824 ^ (k + 1)) d
      have e3 : v / 1073741824 ^ k = (v / 1073741824 ^ (k + 1) % d * 2 ^ 30 + v / 1073741824 ^ k % 1073741824) + d * (v / 1073741824 ^ (k + 1) / d * 1073741824) := by
        have e4 : v / 1073741824 ^ (k + 1) * 1073741824 = d * (v / 1073741824 ^ (k + 1) / d * 1073741824) + v / 1073741824 ^ (k + 1) % d * 1073741824 := by
          rw [← Nat.mul_assoc, ← Nat.add_mul, hs]
        conv => lhs; rw [hdn, e4]
        show d * (v / 1073741824 ^ (k + 1) / d * 1073741824) + v / 1073741824 ^ (k + 1) % d * 1073741824 + v / 1073741824 ^ k % 1073741824 = v / 1073741824 ^ (k + 1) % d * 1073741824 + v / 1073741824 ^ k % 1073741824 + d * (v / 1073741824 ^ (k + 1) / d * 1073741824)
        rw [Nat.add_assoc, Nat.add_comm]
      conv => rhs; rw [e3, Nat.add_mul_div_left _ _ hd0, Nat.add_mul_mod_self_right, Nat.mod_eq_of_lt hq]
    rw [g1, g2]
    refine ih m _ (by omega) (by omega) (fun j hj hj2 => ?_) (fun j hj => ?_)
    · by_cases e : j = k
      · subst e; rw [upd_eq]
      · rw [upd_ne _ _ e]; exact hL j (by omega) hj2
    · rw [upd_ne _ _ (by omega)]; exact hR j (by omega)
theorem x10_div {s : Int32} {D : Nat → Int32} {v d : Nat} (h : R30 s D v) (hd0 : 0 < d) (hdl : d < 2147483648) : ∃ s' D', f_X10_divide (uI d) s D = some (uI (v % d), s', D') ∧ R30 s' D' (v / d) := by
  obtain ⟨n, hn, rfl, hv, hlv, hdv⟩ := h
  unfold f_X10_divide
  obtain ⟨D', h1, h2⟩ := x10_divL (v := v) hn hd0 hdl n FU D (Nat.le_refl _) (by rw [hFU]; omega) (fun j hj hj2 => by omega) hdv
  rw [Nat.div_eq_of_lt hv, Nat.zero_mod] at h1
  rw [wI_1, iI_sub]
  have h1' : f_X10_divide_L10 FU (uI d) (0 : Int64) (iI ((n : Int) - 1)) (uI n) D = f_X10_divide_B52 (uL (v % d)) (uI n) D' := h1
  rw [h1']
  unfold f_X10_divide_B52
  obtain ⟨s', h3, h4⟩ := x10_trim (uI n) hn (Nat.lt_of_le_of_lt (Nat.div_le_self v d) hv) h2
  rw [h3, Option.bind_some, uL_toI]
  exact ⟨s', D', rfl, h4⟩
/-! bit, drop -/
theorem bfP_split {v i : Nat} : v / 2 ^ i = v / 1073741824 ^ (i / 30) / 2 ^ (i % 30) := by
  rw [p_pow, Nat.div_div_eq_div_mul, ← Nat.pow_add, show 30 * (i / 30) + i % 30 = i by omega]
theorem x10_bit {s : Int32} {D : Nat → Int32} {v i : Nat} (h : R30 s D v) (hi : i < 2147483648) : f_X10_bit s D (uI i) = some (uI (v / 2 ^ i % 2)) := by
  obtain ⟨n, hn, rfl, hv, hlv, hdv⟩ := h
  unfold f_X10_bit
  rw [show (30 : Int32) = uI 30 from rfl, uI_div hi (by decide) (by decide), uI_rem hi (by decide) (by decide)]
  by_cases hc : n ≤ i / 30
  · rw [if_pos (by exact (uI_le (by omega) (by omega)).mpr hc), bfP_split, dg_hi p_pos hv hc, Nat.zero_div]; rfl
  · have hdq : v / 1073741824 ^ (i / 30) % 1073741824 < 1073741824 := Nat.mod_lt _ p_pos
    rw [if_neg (by exact fun h => hc ((uI_le (by omega) (by omega)).mp h)), if_pos (by exact (uI_vIn (by omega)).mpr (by omega)), uI_clamp (by omega), hdv _ (by omega), uI_isr (by omega) (by omega), uI_mask1]
    congr 2
    rw [bfP_split (i := i)]
    have hq := p_two (i % 30) (by omega)
    rw [hq, Nat.mod_mul_right_div_self]
    apply Nat.mod_mod_of_dvd
    exact ⟨2 ^ (30 - i % 30 - 1), by rw [← Nat.pow_succ']; congr 1; omega⟩
theorem x10_dropA {v n : Nat} {D : Nat → Int32} (hn : n ≤ 520) (hv : v < 1073741824 ^ n) (hd : ∀ j, j < n → D j = uI (v / 1073741824 ^ j % 1073741824)) {c w p : Nat} (hp : p < 30) (hc : c = 30 * w + p) (hw : w < 100000000) (z : Int32) :
    ∀ k i fuel D', i + k = max n w → k < fuel → w ≤ i → (∀ j, j + w < i → D' j = uI (v / 2 ^ c / 1073741824 ^ j % 1073741824)) → (∀ j, i ≤ j → j < n → D' j = uI (v / 1073741824 ^ j % 1073741824)) →
    ∃ s D'', f_X10_drop_L78 fuel z (uI w) (uI p) (uI i) (uI n) D' = some (z, s, D'') ∧ R30 s D'' (v / 2 ^ c) := by
  have hcw : ∀ j, v / 2 ^ c / 1073741824 ^ j = v / 1073741824 ^ (j + w) / 2 ^ p := by
    intro j
    rw [hc, p_pow, p_pow, Nat.div_div_eq_div_mul, Nat.div_div_eq_div_mul, ← Nat.pow_add, ← Nat.pow_add]
    congr 2; omega
  have hend : ∀ fuel i D', 0 < fuel → n ≤ i → w ≤ i → i < 200000000 → (∀ j, j + w < n → D' j = uI (v / 2 ^ c / 1073741824 ^ j % 1073741824)) → ∃ s D'', f_X10_drop_L78 fuel z (uI w) (uI p) (uI i) (uI n) D' = some (z, s, D'') ∧ R30 s D'' (v / 2 ^ c) := by
    intro fuel i D' hf hni hwi hi hL
    obtain ⟨m, rfl, _⟩ := ex_succ hf
    rw [f_X10_drop_L78, if_pos (by exact (uI_le (by omega) (by omega)).mpr hni)]
    unfold f_X10_drop_B152
    have hmax : f_J9_max_7cf53 (uI n - uI w) (0 : Int32) = some (uI (n - w)) := by
      by_cases hwn : w ≤ n
      · rw [uI_sub hwn]
        have := max_uI (a := n - w) (b := 0) (by omega) (by omega)
        rw [show max (n - w) 0 = n - w by omega] at this
        exact this
      · rw [iI_sub]
        unfold f_J9_max_7cf53
        rw [if_pos (by rw [wI_0, iI_lt (by omega) (by omega) (by omega) (by omega)]; omega), show n - w = 0 by omega]; rfl
    rw [hmax, Option.bind_some]
    have hlt : v / 2 ^ c < 1073741824 ^ (n - w) := by
      by_cases hwn : w ≤ n
      · apply Nat.div_lt_of_lt_mul
        refine Nat.lt_of_lt_of_le hv ?_
        rw [p_pow, p_pow, ← Nat.pow_add]
        exact Nat.pow_le_pow_right (by decide) (by omega)
      · rw [Nat.div_eq_of_lt (Nat.lt_of_lt_of_le hv (by rw [p_pow]; exact Nat.pow_le_pow_right (by decide) (by omega)))]
        exact Nat.pow_pos p_pos
    obtain ⟨s, h1, h2⟩ := x10_trim (D := D') (uI n) (show n - w ≤ 520 by omega) hlt (fun j hj => hL j (by omega))
    rw [h1]
    exact ⟨s, D', rfl, h2⟩
  intro k
  induction k with
  | zero =>
    intro i fuel D' hk hf hwi hL hR
    exact hend fuel i D' hf (by omega) hwi (by omega) (fun j hj => hL j (by omega))
  | succ k ih =>
    intro i fuel D' hk hf hwi hL hR
    by_cases hni : n ≤ i
    · exact hend fuel i D' (by omega) hni hwi (by omega) (fun j hj => hL j (by omega))
    · obtain ⟨m, rfl, hm⟩ := ex_succ hf
      have hdq : ∀ j, v / 1073741824 ^ j % 1073741824 < 1073741824 := fun j => Nat.mod_lt _ p_pos
      have h0 := hdq i
      have h1 := hdq (i + 1)
      have hdig : v / 2 ^ c / 1073741824 ^ (i - w) % 1073741824 = (v / 1073741824 ^ (i + 1) % 1073741824 * 2 ^ 30 + v / 1073741824 ^ i % 1073741824) / 2 ^ p % 1073741824 := by
        rw [hcw, show i - w + w = i by omega]
        have e1 : v / 1073741824 ^ (i + 1) % 1073741824 * 2 ^ 30 + v / 1073741824 ^ i % 1073741824 = v / 1073741824 ^ i % (1073741824 * 1073741824) := by
          rw [Nat.mod_mul, Nat.pow_succ, ← Nat.div_div_eq_div_mul]; omega
        have e2 : 1073741824 * 1073741824 = 2 ^ p * (2 ^ (30 - p) * 1073741824) := by
          rw [← Nat.mul_assoc, ← p_two p (by omega)]
        rw [e1, e2, Nat.mod_mul_right_div_self]
        exact (Nat.mod_mod_of_dvd _ ⟨2 ^ (30 - p), by rw [Nat.mul_comm]⟩).symm
      have hgo : ∃ x, f_X10_drop_L78 (m + 1) z (uI w) (uI p) (uI i) (uI n) D' = f_X10_drop_B123 (f_X10_drop_L78 m) z (uI w) (uI p) (uI i) (uL (v / 1073741824 ^ i % 1073741824)) x (uI n) D' ∧ x = uL (v / 1073741824 ^ (i + 1) % 1073741824 * 2 ^ 30) := by
        rw [f_X10_drop_L78, if_neg (by exact fun h => hni ((uI_le (by omega) (by omega)).mp h)), if_pos (by exact (uI_vIn (by omega)).mpr (by omega)), uI_clamp (by omega), hR i (by omega) (by omega), uI_toL (by omega), uI_succ]
        by_cases hc2 : n ≤ i + 1
        · rw [if_pos (by exact (uI_le (by omega) (by omega)).mpr hc2)]
          exact ⟨_, rfl, by rw [dg_hi p_pos hv hc2]; rfl⟩
        · rw [if_neg (by exact fun h => hc2 ((uI_le (by omega) (by omega)).mp h)), if_pos (by exact (uI_vIn (by omega)).mpr (by omega)), uI_clamp (by omega), hR (i + 1) (by omega) (by omega), uI_toL (by omega), show (30 : Int32) = uI 30 from rfl, uL_lsh _ (by decide)]
          exact ⟨_, rfl, rfl⟩
      obtain ⟨x, hx1, hx2⟩ := hgo
      subst hx2
      rw [hx1]
      unfold f_X10_drop_B123
      rw [uI_sub hwi, if_pos (by exact (uI_vIn (by omega)).mpr (by omega)), uI_clamp (by omega), lor_add' (k := 30) (by omega) (by omega), uL_lsr (by omega) (by omega), uL_mask30, uL_toI, uI_succ, ← hdig]
      refine ih (i + 1) m _ (by omega) (by omega) (by omega) (fun j hj => ?_) (fun j hj hj2 => ?_)
      · by_cases e : j = i - w
        · subst e; rw [upd_eq]
        · rw [upd_ne _ _ e]; exact hL j (by omega)
      · rw [upd_ne _ _ (by omega)]; exact hR j (by omega) hj2
theorem x10_dropB {v c : Nat} {s : Int32} {D : Nat → Int32} (h : R30 s D v) (hc0 : 0 < c) (hc : c < 90000) : ∀ k i fuel, i + k = c - 1 → k < fuel → v % 2 ^ i = 0 →
    f_X10_drop_L10 fuel (uI c) (0 : Int32) (uI i) s D = f_X10_drop_B42 (uI c) (if v % 2 ^ (c - 1) = 0 then 0 else 1) s D := by
  intro k
  induction k with
  | zero =>
    intro i fuel hk hf hz
    obtain ⟨m, rfl, _⟩ := ex_succ hf
    rw [f_X10_drop_L10, uI_pos_pred hc0, if_pos (by exact (uI_le (by omega) (by omega)).mpr (by omega)), ← show i = c - 1 by omega, if_pos hz]
  | succ k ih =>
    intro i fuel hk hf hz
    obtain ⟨m, rfl, hm⟩ := ex_succ hf
    rw [f_X10_drop_L10, uI_pos_pred hc0, if_neg (fun h => by have := (uI_le (by omega) (by omega)).mp h; omega), if_pos rfl, x10_bit h (by omega), Option.bind_some, uI_succ]
    have hb : v / 2 ^ i % 2 = 0 ∨ v / 2 ^ i % 2 = 1 := by omega
    rcases hb with hb | hb
    · rw [hb, if_neg (by decide)]
      exact ih (i + 1) m (by omega) (by omega) (by rw [Nat.mod_pow_succ, hz, hb, Nat.mul_zero])
    · rw [hb, if_pos (by decide)]
      have hne : v % 2 ^ (c - 1) ≠ 0 := by
        intro h0
        have hdvd : 2 ^ (i + 1) ∣ 2 ^ (c - 1) := Nat.pow_dvd_pow 2 (by omega)
        have h2 : v % 2 ^ (i + 1) = 0 := by rw [← Nat.mod_mod_of_dvd v hdvd, h0, Nat.zero_mod]
        rw [Nat.mod_pow_succ, hz, hb] at h2
        have := Nat.two_pow_pos i
        omega
      rw [if_neg hne]
      obtain ⟨m', rfl, hm'⟩ := ex_succ (a := k) (b := m) (by omega)
      rw [f_X10_drop_L10, uI_pos_pred hc0]
      by_cases hl : c - 1 ≤ i + 1
      · rw [if_pos (by exact (uI_le (by omega) (by omega)).mpr hl)]
      · rw [if_neg (by exact fun h => hl ((uI_le (by omega) (by omega)).mp h)), if_neg (by decide)]
theorem x10_drop {v c : Nat} {s : Int32} {D : Nat → Int32} (h : R30 s D v) (hc0 : 0 < c) (hc : c < 90000) : ∃ s' D', f_X10_drop (uI c) s D = some (uI (2 * (v / 2 ^ (c - 1) % 2) + (if v % 2 ^ (c - 1) = 0 then 0 else 1)), s', D') ∧ R30 s' D' (v / 2 ^ c) := by
  unfold f_X10_drop
  rw [if_neg (fun h => by have := (uI_eq0 (by omega)).mp h; omega)]
  have hB := x10_dropB h hc0 hc (c - 1) 0 FU (by omega) (by rw [hFU]; omega) (by rw [Nat.pow_zero, Nat.mod_one])
  have hB' : f_X10_drop_L10 FU (uI c) (0 : Int32) (0 : Int32) s D = f_X10_drop_B42 (uI c) (if v % 2 ^ (c - 1) = 0 then 0 else 1) s D := hB
  rw [hB']
  unfold f_X10_drop_B42
  rw [uI_pos_pred hc0, x10_bit h (by omega), Option.bind_some]
  obtain ⟨n, hn, rfl, hv, hlv, hdv⟩ := h
  have hgo : ∀ y : Nat, y < 2 → ∃ s' D', f_X10_drop_B60 (uI c) ((2 : Int32) * uI (v / 2 ^ (c - 1) % 2)) (uI y) (uI n) D = some (uI (2 * (v / 2 ^ (c - 1) % 2) + y), s', D') ∧ R30 s' D' (v / 2 ^ c) := by
    intro y hy
    unfold f_X10_drop_B60
    rw [show (2 : Int32) * uI (v / 2 ^ (c - 1) % 2) = uI (2 * (v / 2 ^ (c - 1) % 2)) from uI_mul 2 _, uI_add, show (30 : Int32) = uI 30 from rfl, uI_div (by omega) (by decide) (by decide), uI_rem (by omega) (by decide) (by decide)]
    exact x10_dropA hn hv hdv (c := c) (w := c / 30) (p := c % 30) (by omega) (by omega) (by omega) _ (max n (c / 30) - c / 30) (c / 30) FU D (by omega) (by rw [hFU]; omega) (Nat.le_refl _) (fun j hj => by omega) (fun j _ hj => hdv j hj)
  by_cases hz : v % 2 ^ (c - 1) = 0
  · rw [if_pos hz, if_pos hz, if_pos rfl]
    exact hgo 0 (by omega)
  · rw [if_neg hz, if_neg hz, if_neg (by decide)]
    exact hgo 1 (by omega)
