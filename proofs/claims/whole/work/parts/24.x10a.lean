/-! Nat of the reference: 30 bits a word -/
def R30 (sz : Int32) (D : Nat → Int32) (v : Nat) : Prop :=
  ∃ n : Nat, n ≤ 520 ∧ sz = uI n ∧ v < 1073741824 ^ n ∧ (∀ j, j < n → 1073741824 ^ j ≤ v) ∧ ∀ j, j < n → D j = uI (v / 1073741824 ^ j % 1073741824)
theorem p_pos : 0 < 1073741824 := by decide
theorem p_pow (n : Nat) : 1073741824 ^ n = 2 ^ (30 * n) := by rw [Nat.pow_mul]
theorem p_two (p : Nat) (hp : p ≤ 30) : 1073741824 = 2 ^ p * 2 ^ (30 - p) := by
  rw [← Nat.pow_add, show p + (30 - p) = 30 by omega]
theorem r30_len {s : Int32} {D : Nat → Int32} {v m : Nat} (h : R30 s D v) (hv : v < 1073741824 ^ m) : ∃ n, n ≤ 520 ∧ n ≤ m ∧ s = uI n ∧ v < 1073741824 ^ n ∧ (∀ j, j < n → 1073741824 ^ j ≤ v) ∧ ∀ j, j < n → D j = uI (v / 1073741824 ^ j % 1073741824) := by
  obtain ⟨n, hn, rfl, hv2, hl, hd⟩ := h
  refine ⟨n, hn, ?_, rfl, hv2, hl, hd⟩
  apply Nat.le_of_not_lt
  intro hlt
  have := hl m hlt
  omega
theorem r30_zero (D : Nat → Int32) : R30 (uI 0) D 0 := ⟨0, by omega, rfl, by decide, fun j hj => by omega, fun j hj => by omega⟩
theorem r30_len0 {s : Int32} {D : Nat → Int32} {v : Nat} (h : R30 s D v) : s = 0 ↔ v = 0 := by
  obtain ⟨n, hn, rfl, hv, hl, hd⟩ := h
  rw [uI_eq0 (by omega)]
  constructor
  · rintro rfl; rw [Nat.pow_zero] at hv; omega
  · rintro rfl
    apply Nat.eq_zero_of_not_pos
    intro h0
    have := hl 0 h0
    rw [Nat.pow_zero] at this
    omega
theorem x10_trimL {D : Nat → Int32} {v : Nat} : ∀ n fuel : Nat, n < fuel → n ≤ 520 → v < 1073741824 ^ n → (∀ j, j < n → D j = uI (v / 1073741824 ^ j % 1073741824)) → ∃ s, f_X10_trim_L5 D fuel (uI n) = some s ∧ R30 s D v := by
  intro n
  induction n with
  | zero =>
    intro fuel hf hn hv hd
    obtain ⟨m, rfl, _⟩ := ex_succ hf
    refine ⟨uI 0, ?_, 0, by omega, rfl, hv, fun j hj => by omega, fun j hj => by omega⟩
    rw [f_X10_trim_L5]
    rw [if_pos (by exact (uI_le0 (by omega)).mpr rfl)]
  | succ n ih =>
    intro fuel hf hn hv hd
    obtain ⟨m, rfl, hm⟩ := ex_succ hf
    rw [f_X10_trim_L5]
    have hq : v / 1073741824 ^ n < 1073741824 := Nat.div_lt_of_lt_mul (by rwa [← Nat.pow_succ])
    rw [if_neg (fun h => by have := (uI_le0 (by omega)).mp h; omega), uI_pred, if_pos (by exact (uI_vIn (by omega)).mpr (by omega)), uI_clamp (by omega), hd n (by omega), dg_top hv]
    by_cases hz : v / 1073741824 ^ n = 0
    · rw [if_pos (by exact (uI_eq0 (by omega)).mpr hz)]
      refine ih m (by omega) (by omega) ?_ (fun j hj => hd j (by omega))
      exact (Nat.div_eq_zero_iff_lt (Nat.pow_pos p_pos)).mp hz
    · rw [if_neg (by exact fun h => hz ((uI_eq0 (by omega)).mp h))]
      refine ⟨_, rfl, n + 1, hn, rfl, hv, fun j hj => ?_, hd⟩
      have h1 : 1073741824 ^ j ≤ 1073741824 ^ n := Nat.pow_le_pow_right p_pos (by omega)
      have h2 : 1073741824 ^ n ≤ v := by
        apply Nat.le_of_not_lt
        intro h
        exact hz (Nat.div_eq_of_lt h)
      omega
theorem x10_trim {D : Nat → Int32} {v n : Nat} (z : Int32) (hn : n ≤ 520) (hv : v < 1073741824 ^ n) (hd : ∀ j, j < n → D j = uI (v / 1073741824 ^ j % 1073741824)) : ∃ s, f_X10_trim D (uI n) z = some s ∧ R30 s D v :=
  x10_trimL n FU (by rw [hFU]; omega) hn hv hd
theorem x10_setL {u : Nat} (hu : u < 18446744073709551616) : ∀ k i fuel D, i + k ≤ 520 → k < fuel → u / 1073741824 ^ i < 1073741824 ^ k → (∀ j, j < i → 1073741824 ^ j ≤ u) → (∀ j, j < i → D j = uI (u / 1073741824 ^ j % 1073741824)) → ∃ s D', f_X10_set_L7 fuel (uL (u / 1073741824 ^ i)) (uI i) D = some (s, D') ∧ R30 s D' u := by
  intro k
  induction k with
  | zero =>
    intro i fuel D hik hf hw hl hd
    obtain ⟨m, rfl, _⟩ := ex_succ hf
    rw [Nat.pow_zero] at hw
    have h0 : u / 1073741824 ^ i = 0 := Nat.lt_one_iff.mp hw
    rw [f_X10_set_L7, if_pos (by exact (uL_cmp0 (by omega)).mpr h0)]
    exact ⟨_, _, rfl, i, by omega, rfl, (Nat.div_eq_zero_iff_lt (Nat.pow_pos p_pos)).mp h0, hl, hd⟩
  | succ k ih =>
    intro i fuel D hik hf hw hl hd
    obtain ⟨m, rfl, hm⟩ := ex_succ hf
    have hlt : u / 1073741824 ^ i < 18446744073709551616 := Nat.lt_of_le_of_lt (Nat.div_le_self _ _) hu
    rw [f_X10_set_L7]
    by_cases h0 : u / 1073741824 ^ i = 0
    · rw [if_pos (by exact (uL_cmp0 hlt).mpr h0)]
      exact ⟨_, _, rfl, i, by omega, rfl, (Nat.div_eq_zero_iff_lt (Nat.pow_pos p_pos)).mp h0, hl, hd⟩
    · have hge : 1073741824 ^ i ≤ u := by
        apply Nat.le_of_not_lt
        intro h
        exact h0 (Nat.div_eq_of_lt h)
      rw [if_neg (by exact fun h => h0 ((uL_cmp0 hlt).mp h)), if_pos (by exact (uI_vIn (by omega)).mpr (by omega)), uI_clamp (by omega), uL_mask30, uL_toI, uI_succ, show (30 : Int32) = uI 30 from rfl, uL_lus hlt (by decide)]
      have e : u / 1073741824 ^ i / 2 ^ 30 = u / 1073741824 ^ (i + 1) := by
        rw [Nat.div_div_eq_div_mul]; rfl
      rw [e]
      refine ih (i + 1) m _ (by omega) (by omega) ?_ (fun j hj => ?_) (fun j hj => ?_)
      · rw [Nat.pow_succ, ← Nat.div_div_eq_div_mul]
        apply Nat.div_lt_of_lt_mul
        rw [Nat.mul_comm, ← Nat.pow_succ]; exact hw
      · by_cases e : j = i
        · subst e; exact hge
        · exact hl j (by omega)
      · by_cases e : j = i
        · subst e; rw [upd_eq]
        · rw [upd_ne _ _ e]; exact hd j (by omega)
theorem x10_set (z : Int32) (D : Nat → Int32) {u : Nat} (hu : u < 18446744073709551616) : ∃ s D', f_X10_set (uL u) z D = some (s, D') ∧ R30 s D' u := by
  unfold f_X10_set
  have := x10_setL hu 3 0 FU D (by omega) (by rw [hFU]; omega) (by rw [Nat.pow_zero, Nat.div_one]; omega) (fun j hj => by omega) (fun j hj => by omega)
  rw [Nat.pow_zero, Nat.div_one] at this
  exact this
theorem x10_copyL {D1 : Nat → Int32} {s1 : Int32} {n : Nat} (hn : n ≤ 520) : ∀ k i fuel D, i + k = n → k < fuel → (∀ j, j < i → D j = D1 j) → ∃ D', f_X10_copy_L10 s1 D1 fuel (uI i) (uI n) D = some (uI n, D') ∧ ∀ j, j < n → D' j = D1 j := by
  intro k
  induction k with
  | zero =>
    intro i fuel D hk hf hL
    obtain ⟨m, rfl, _⟩ := ex_succ hf
    refine ⟨D, ?_, fun j hj => hL j (by omega)⟩
    rw [f_X10_copy_L10, if_pos (by exact (uI_le (by omega) (by omega)).mpr (by omega))]
  | succ k ih =>
    intro i fuel D hk hf hL
    obtain ⟨m, rfl, hm⟩ := ex_succ hf
    rw [f_X10_copy_L10, if_neg (fun h => by have := (uI_le (by omega) (by omega)).mp h; omega), if_pos (by exact (uI_vIn (by omega)).mpr (by omega)), uI_clamp (by omega), uI_succ]
    refine ih (i + 1) m _ (by omega) (by omega) (fun j hj => ?_)
    by_cases e : j = i
    · subst e; rw [upd_eq]
    · rw [upd_ne _ _ e]; exact hL j (by omega)
theorem x10_copy {s1 : Int32} {D1 : Nat → Int32} {v : Nat} (h : R30 s1 D1 v) (s0 : Int32) (D0 : Nat → Int32) : ∃ s D', f_X10_copy s1 D1 s0 D0 = some (s, D') ∧ R30 s D' v := by
  obtain ⟨n, hn, rfl, hv, hw, hd⟩ := h
  unfold f_X10_copy
  obtain ⟨D', h1, h2⟩ := x10_copyL (D1 := D1) (s1 := uI n) hn n 0 FU D0 (by omega) (by rw [hFU]; omega) (fun j hj => by omega)
  exact ⟨_, D', h1, n, hn, rfl, hv, hw, fun j hj => by rw [h2 j hj, hd j hj]⟩
theorem x10_bits {s : Int32} {D : Nat → Int32} {v : Nat} (h : R30 s D v) : f_X10_bits s D = some (uI (bl v)) := by
  obtain ⟨n, hn, rfl, hv, hlv, hdv⟩ := h
  unfold f_X10_bits
  by_cases h0 : n = 0
  · subst h0
    rw [Nat.pow_zero] at hv
    have : v = 0 := by omega
    subst this
    rw [if_pos (by exact (uI_eq0 (by omega)).mpr rfl)]; rfl
  · obtain ⟨m, rfl⟩ : ∃ m, n = m + 1 := ⟨n - 1, by omega⟩
    have hq : v / 1073741824 ^ m < 1073741824 := Nat.div_lt_of_lt_mul (by rwa [← Nat.pow_succ])
    have hnz : v / 1073741824 ^ m ≠ 0 := by
      intro h
      have := (Nat.div_eq_zero_iff_lt (Nat.pow_pos p_pos)).mp h
      have := hlv m (by omega)
      omega
    rw [if_neg (by exact fun h => h0 ((uI_eq0 (by omega)).mp h)), uI_pred, if_pos (by exact (uI_vIn (by omega)).mpr (by omega)), uI_clamp (by omega), hdv m (by omega), dg_top hv, nlz32 (by omega), Option.bind_some, wI_30, wI_2, iI_mul, iI_add, iI_sub]
    have hb := bl_div (v := v) (k := 30 * m) (by rw [← p_pow]; exact hnz)
    rw [← p_pow] at hb
    rw [hb]
    congr 2; omega
theorem x10_cmpL {v w n : Nat} {D0 D1 : Nat → Int32} (hn : n ≤ 520) (hd0 : ∀ j, j < n → D0 j = uI (v / 1073741824 ^ j % 1073741824)) (hd1 : ∀ j, j < n → D1 j = uI (w / 1073741824 ^ j % 1073741824)) (z0 z1 : Int32) :
    ∀ k fuel, k ≤ n → k < fuel → v / 1073741824 ^ k = w / 1073741824 ^ k → f_X10_compare_L35 z0 D0 z1 D1 fuel (iI ((k : Int) - 1)) = some (iI (cmpI v w)) := by
  intro k
  induction k with
  | zero =>
    intro fuel hk hf he
    obtain ⟨m, rfl, _⟩ := ex_succ hf
    rw [Nat.pow_zero, Nat.div_one, Nat.div_one] at he
    subst he
    rw [f_X10_compare_L35, if_pos (by rw [wI_0, iI_lt (by omega) (by omega) (by omega) (by omega)]; omega)]
    unfold cmpI
    rw [if_neg (Nat.lt_irrefl v), if_pos rfl]; rfl
  | succ k ih =>
    intro fuel hk hf he
    obtain ⟨m, rfl, hm⟩ := ex_succ hf
    have e1 : iI (((k + 1 : Nat) : Int) - 1) = uI k := by congr 1; omega
    have e2 : uI k + (-1 : Int32) = iI ((k : Int) - 1) := by rw [wI_m1, iI_add]; rfl
    have hdv : v / 1073741824 ^ k % 1073741824 < 1073741824 := Nat.mod_lt _ p_pos
    have hdw : w / 1073741824 ^ k % 1073741824 < 1073741824 := Nat.mod_lt _ p_pos
    have hv := dg_down (B := 1073741824) (v := v) (i := k)
    have hw := dg_down (B := 1073741824) (v := w) (i := k)
    rw [e1, f_X10_compare_L35, if_neg (uI_nneg (by omega)), if_pos (by exact (uI_vIn (by omega)).mpr (by omega)), uI_clamp (by omega), hd0 k (by omega), hd1 k (by omega)]
    by_cases hq : v / 1073741824 ^ k % 1073741824 = w / 1073741824 ^ k % 1073741824
    · rw [if_pos (by exact (uI_eq (by omega) (by omega)).mpr hq), e2]
      exact ih m (by omega) (by omega) (by rw [hv, hw, he, hq])
    · rw [if_neg (by exact fun h => hq ((uI_eq (by omega) (by omega)).mp h))]
      unfold f_X10_compare_B54
      rw [if_pos (by exact (uI_vIn (by omega)).mpr (by omega)), uI_clamp (by omega), hd0 k (by omega), hd1 k (by omega)]
      rw [he] at hv
      by_cases hlt : v / 1073741824 ^ k % 1073741824 < w / 1073741824 ^ k % 1073741824
      · have h1 : v / 1073741824 ^ k < w / 1073741824 ^ k := by omega
        have h2 : v < w := by
          apply Nat.lt_of_not_le
          intro h
          have := Nat.div_le_div_right (c := 1073741824 ^ k) h
          omega
        rw [if_neg (fun h => by have := (uI_le (by omega) (by omega)).mp h; omega)]
        unfold cmpI
        rw [if_pos h2, wI_m1]
      · have h1 : w / 1073741824 ^ k < v / 1073741824 ^ k := by omega
        have h2 : w < v := by
          apply Nat.lt_of_not_le
          intro h
          have := Nat.div_le_div_right (c := 1073741824 ^ k) h
          omega
        rw [if_pos (by exact (uI_le (by omega) (by omega)).mpr (by omega))]
        unfold cmpI
        rw [if_neg (by omega), if_neg (by omega)]; rfl
theorem x10_cmp {s0 s1 : Int32} {D0 D1 : Nat → Int32} {v w : Nat} (h0 : R30 s0 D0 v) (h1 : R30 s1 D1 w) : f_X10_compare s0 D0 s1 D1 = some (iI (cmpI v w)) := by
  obtain ⟨a, ha, rfl, hv, hlv, hdv⟩ := h0
  obtain ⟨b, hb, rfl, hw, hlw, hdw⟩ := h1
  unfold f_X10_compare
  by_cases he : a = b
  · subst he
    rw [if_pos rfl, wI_1, iI_sub]
    refine x10_cmpL ha hdv hdw _ _ a FU (Nat.le_refl _) (by rw [hFU]; omega) ?_
    rw [Nat.div_eq_of_lt hv, Nat.div_eq_of_lt hw]
  · rw [if_neg (by exact fun h => he ((uI_eq (by omega) (by omega)).mp h))]
    by_cases hlt : b ≤ a
    · have h1 := hlv b (by omega)
      rw [if_pos (by exact (uI_le (by omega) (by omega)).mpr hlt)]
      unfold cmpI
      rw [if_neg (by omega), if_neg (by omega)]; rfl
    · have h1 := hlw a (by omega)
      rw [if_neg (by exact fun h => hlt ((uI_le (by omega) (by omega)).mp h))]
      unfold cmpI
      rw [if_pos (by omega), wI_m1]
/-! add -/
theorem x10_addL {v w a b : Nat} {D1 : Nat → Int32} (ha : a ≤ 519) (hv : v < 1073741824 ^ a) (hb : b ≤ 519) (hw : w < 1073741824 ^ b) (hd1 : ∀ j, j < b → D1 j = uI (w / 1073741824 ^ j % 1073741824)) :
    ∀ k i fuel D, i + k = max a b → k < fuel → (∀ j, j < i → D j = uI ((v + w) / 1073741824 ^ j % 1073741824)) → (∀ j, i ≤ j → j < a → D j = uI (v / 1073741824 ^ j % 1073741824)) →
    ∃ D', f_X10_add_L17 (uI b) D1 fuel (uI (max a b)) (uI ((v % 1073741824 ^ i + w % 1073741824 ^ i) / 1073741824 ^ i)) (uI i) (uI a) D = f_X10_add_B98 (uI b) D1 (uI (max a b)) (uI ((v + w) / 1073741824 ^ max a b)) (uI a) D' ∧ ∀ j, j < max a b → D' j = uI ((v + w) / 1073741824 ^ j % 1073741824) := by
  intro k
  induction k with
  | zero =>
    intro i fuel D hk hf hL hR
    obtain ⟨m, rfl, _⟩ := ex_succ hf
    have hi : i = max a b := by omega
    subst hi
    refine ⟨D, ?_, hL⟩
    have h1 : v < 1073741824 ^ max a b := Nat.lt_of_lt_of_le hv (Nat.pow_le_pow_right p_pos (by omega))
    have h2 : w < 1073741824 ^ max a b := Nat.lt_of_lt_of_le hw (Nat.pow_le_pow_right p_pos (by omega))
    rw [f_X10_add_L17, if_pos (by exact (uI_le (by omega) (by omega)).mpr (Nat.le_refl _)), Nat.mod_eq_of_lt h1, Nat.mod_eq_of_lt h2]
  | succ k ih =>
    intro i fuel D hk hf hL hR
    obtain ⟨m, rfl, hm⟩ := ex_succ hf
    have hc : (v % 1073741824 ^ i + w % 1073741824 ^ i) / 1073741824 ^ i < 2 := by
      apply Nat.div_lt_of_lt_mul
      have h1 : v % 1073741824 ^ i < 1073741824 ^ i := Nat.mod_lt _ (Nat.pow_pos p_pos)
      have h2 : w % 1073741824 ^ i < 1073741824 ^ i := Nat.mod_lt _ (Nat.pow_pos p_pos)
      omega
    have hdv : v / 1073741824 ^ i % 1073741824 < 1073741824 := Nat.mod_lt _ p_pos
    have hdw : w / 1073741824 ^ i % 1073741824 < 1073741824 := Nat.mod_lt _ p_pos
    have hT : v % 1073741824 ^ (i + 1) + w % 1073741824 ^ (i + 1) = (v % 1073741824 ^ i + w % 1073741824 ^ i) + 1073741824 ^ i * (v / 1073741824 ^ i % 1073741824 + w / 1073741824 ^ i % 1073741824) := by
      rw [Nat.mod_pow_succ, Nat.mod_pow_succ, Nat.mul_add]; omega
    have hB67 : f_X10_add_B67 (uI b) D1 (f_X10_add_L17 (uI b) D1 m) (uI (max a b)) (uI i) (uL ((v % 1073741824 ^ i + w % 1073741824 ^ i) / 1073741824 ^ i) + uL (v / 1073741824 ^ i % 1073741824)) (uI (w / 1073741824 ^ i % 1073741824)) (uI a) D = f_X10_add_L17 (uI b) D1 m (uI (max a b)) (uI ((v % 1073741824 ^ (i + 1) + w % 1073741824 ^ (i + 1)) / 1073741824 ^ (i + 1))) (uI (i + 1)) (uI a) (upd D i (uI ((v % 1073741824 ^ (i + 1) + w % 1073741824 ^ (i + 1)) / 1073741824 ^ i % 1073741824))) := by
      unfold f_X10_add_B67
      rw [if_pos (by exact (uI_vIn (by omega)).mpr (by omega)), uI_clamp (by omega), uI_toL (by omega), uL_add, uL_add, show (30 : Int32) = uI 30 from rfl, uL_lsr (by omega) (by decide), uL_mask30, uL_toI, uL_toI, uI_succ, hT, cy_div p_pos, cy_mod p_pos, Nat.add_assoc]
    have hB45 : f_X10_add_B45 (uI b) D1 (f_X10_add_L17 (uI b) D1 m) (uI (max a b)) (uI i) (uL ((v % 1073741824 ^ i + w % 1073741824 ^ i) / 1073741824 ^ i)) (uI (v / 1073741824 ^ i % 1073741824)) (uI a) D = f_X10_add_L17 (uI b) D1 m (uI (max a b)) (uI ((v % 1073741824 ^ (i + 1) + w % 1073741824 ^ (i + 1)) / 1073741824 ^ (i + 1))) (uI (i + 1)) (uI a) (upd D i (uI ((v % 1073741824 ^ (i + 1) + w % 1073741824 ^ (i + 1)) / 1073741824 ^ i % 1073741824))) := by
      unfold f_X10_add_B45
      rw [uI_toL (a := v / 1073741824 ^ i % 1073741824) (by omega)]
      by_cases hc : b ≤ i
      · have e0 : w / 1073741824 ^ i % 1073741824 = 0 := by rw [dg_hi p_pos hw hc]
        rw [e0] at hB67
        rw [if_pos (by exact (uI_le (by omega) (by omega)).mpr hc)]
        exact hB67
      · rw [if_neg (by exact fun h => hc ((uI_le (by omega) (by omega)).mp h)), if_pos (by exact (uI_vIn (by omega)).mpr (by omega)), uI_clamp (by omega), hd1 i (by omega)]
        exact hB67
    rw [f_X10_add_L17, if_neg (fun h => by have := (uI_le (by omega) (by omega)).mp h; omega), uI_toL (by omega)]
    have hgo : (if uI a ≤ uI i then f_X10_add_B45 (uI b) D1 (f_X10_add_L17 (uI b) D1 m) (uI (max a b)) (uI i) (uL ((v % 1073741824 ^ i + w % 1073741824 ^ i) / 1073741824 ^ i)) (0 : Int32) (uI a) D else if vIn (uI i) 520 = true then f_X10_add_B45 (uI b) D1 (f_X10_add_L17 (uI b) D1 m) (uI (max a b)) (uI i) (uL ((v % 1073741824 ^ i + w % 1073741824 ^ i) / 1073741824 ^ i)) (D (uI i).toNatClampNeg) (uI a) D else none) = f_X10_add_L17 (uI b) D1 m (uI (max a b)) (uI ((v % 1073741824 ^ (i + 1) + w % 1073741824 ^ (i + 1)) / 1073741824 ^ (i + 1))) (uI (i + 1)) (uI a) (upd D i (uI ((v % 1073741824 ^ (i + 1) + w % 1073741824 ^ (i + 1)) / 1073741824 ^ i % 1073741824))) := by
      by_cases hc : a ≤ i
      · have e0 : v / 1073741824 ^ i % 1073741824 = 0 := by rw [dg_hi p_pos hv hc]
        rw [e0] at hB45
        rw [if_pos (by exact (uI_le (by omega) (by omega)).mpr hc)]
        exact hB45
      · rw [if_neg (by exact fun h => hc ((uI_le (by omega) (by omega)).mp h)), if_pos (by exact (uI_vIn (by omega)).mpr (by omega)), uI_clamp (by omega), hR i (by omega) (by omega)]
        exact hB45
    rw [hgo]
    refine ih (i + 1) m _ (by omega) (by omega) (fun j hj => ?_) (fun j hj hj2 => ?_)
    · by_cases e : j = i
      · subst e
        rw [upd_eq]
        apply congrArg uI
        refine (dg_eq (K := v / 1073741824 ^ (j + 1) + w / 1073741824 ^ (j + 1)) p_pos ?_).symm
        have h1 := dg_split (B := 1073741824) (v := v) (i := j + 1)
        have h2 := dg_split (B := 1073741824) (v := w) (i := j + 1)
        rw [Nat.mul_add]
        omega
      · rw [upd_ne _ _ e]; exact hL j (by omega)
    · rw [upd_ne _ _ (by omega)]; exact hR j (by omega) hj2
theorem x10_add {s0 s1 : Int32} {D0 D1 : Nat → Int32} {v w : Nat} (h0 : R30 s0 D0 v) (h1 : R30 s1 D1 w) (hv5 : v < 1073741824 ^ 519) (hw5 : w < 1073741824 ^ 519) : ∃ s D', f_X10_add s1 D1 s0 D0 = some (s, D') ∧ R30 s D' (v + w) := by
  obtain ⟨a, _, ha, rfl, hv, hlv, hdv⟩ := r30_len h0 hv5
  obtain ⟨b, _, hb, rfl, hw, hlw, hdw⟩ := r30_len h1 hw5
  unfold f_X10_add
  rw [max_uI (by omega) (by omega), Option.bind_some]
  obtain ⟨D', h1, h2⟩ := x10_addL ha hv hb hw hdw (max a b) 0 FU D0 (by omega) (by rw [hFU]; omega) (fun j hj => by omega) (fun j _ hj => hdv j hj)
  have e : (v % 1073741824 ^ 0 + w % 1073741824 ^ 0) / 1073741824 ^ 0 = 0 := by rw [Nat.pow_zero, Nat.mod_one, Nat.mod_one]
  rw [e] at h1
  have h1' : f_X10_add_L17 (uI b) D1 FU (uI (max a b)) (0 : Int32) (0 : Int32) (uI a) D0 = f_X10_add_B98 (uI b) D1 (uI (max a b)) (uI ((v + w) / 1073741824 ^ max a b)) (uI a) D' := h1
  rw [h1']
  have hm1 : v < 1073741824 ^ max a b := Nat.lt_of_lt_of_le hv (Nat.pow_le_pow_right p_pos (by omega))
  have hm2 : w < 1073741824 ^ max a b := Nat.lt_of_lt_of_le hw (Nat.pow_le_pow_right p_pos (by omega))
  have hW : v + w < 1073741824 ^ (max a b + 1) := by rw [Nat.pow_succ]; omega
  unfold f_X10_add_B98
  rw [if_pos (by exact (uI_vIn (by omega)).mpr (by omega)), uI_clamp (by omega), uI_succ]
  obtain ⟨s, h3, h4⟩ := x10_trim (D := upd D' (max a b) (uI ((v + w) / 1073741824 ^ max a b))) (uI a) (by omega) hW (fun j hj => by
    by_cases e : j = max a b
    · subst e; rw [upd_eq, dg_top hW]
    · rw [upd_ne _ _ e]; exact h2 j (by omega))
  rw [h3]
  exact ⟨s, _, rfl, h4⟩
