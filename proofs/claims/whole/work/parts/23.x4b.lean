/-! Natural: plus, minus, order, bits, parts of ten -/
theorem x4_plusL {v w a b : Nat} {L1 : Nat → Int64} (ha : a ≤ 160) (hv : v < 4294967296 ^ a) (hb : b ≤ 160) (hw : w < 4294967296 ^ b) (hd1 : ∀ j, j < b → L1 j = uL (w / 4294967296 ^ j % 4294967296)) :
    ∀ k i fuel L, i + k = max a b → k < fuel → (∀ j, j < i → L j = uL ((v + w) / 4294967296 ^ j % 4294967296)) → (∀ j, i ≤ j → j < a → L j = uL (v / 4294967296 ^ j % 4294967296)) →
    ∃ L', f_X4_plus_L17 (uI b) L1 fuel (uI (max a b)) (uL ((v % 4294967296 ^ i + w % 4294967296 ^ i) / 4294967296 ^ i)) (uI i) (uI a) L = f_X4_plus_B62 (uI b) L1 (uI (max a b)) (uL ((v + w) / 4294967296 ^ max a b)) (uI a) L' ∧ ∀ j, j < max a b → L' j = uL ((v + w) / 4294967296 ^ j % 4294967296) := by
  intro k
  induction k with
  | zero =>
    intro i fuel L hk hf hL hR
    obtain ⟨m, rfl, _⟩ := ex_succ hf
    have hi : i = max a b := by omega
    subst hi
    refine ⟨L, ?_, hL⟩
    have h1 : v < 4294967296 ^ max a b := Nat.lt_of_lt_of_le hv (Nat.pow_le_pow_right q_pos (by omega))
    have h2 : w < 4294967296 ^ max a b := Nat.lt_of_lt_of_le hw (Nat.pow_le_pow_right q_pos (by omega))
    rw [f_X4_plus_L17, if_pos (by exact (uI_le (by omega) (by omega)).mpr (Nat.le_refl _)), Nat.mod_eq_of_lt h1, Nat.mod_eq_of_lt h2]
  | succ k ih =>
    intro i fuel L hk hf hL hR
    obtain ⟨m, rfl, hm⟩ := ex_succ hf
    have hc : (v % 4294967296 ^ i + w % 4294967296 ^ i) / 4294967296 ^ i < 2 := by
      apply Nat.div_lt_of_lt_mul
      have h1 : v % 4294967296 ^ i < 4294967296 ^ i := Nat.mod_lt _ (Nat.pow_pos q_pos)
      have h2 : w % 4294967296 ^ i < 4294967296 ^ i := Nat.mod_lt _ (Nat.pow_pos q_pos)
      omega
    have hdv : v / 4294967296 ^ i % 4294967296 < 4294967296 := Nat.mod_lt _ q_pos
    have hdw : w / 4294967296 ^ i % 4294967296 < 4294967296 := Nat.mod_lt _ q_pos
    have hT : v % 4294967296 ^ (i + 1) + w % 4294967296 ^ (i + 1) = (v % 4294967296 ^ i + w % 4294967296 ^ i) + 4294967296 ^ i * (v / 4294967296 ^ i % 4294967296 + w / 4294967296 ^ i % 4294967296) := by
      rw [Nat.mod_pow_succ, Nat.mod_pow_succ, Nat.mul_add]; omega
    have hl1 : f_X4_limb (uI a) L (uI i) = some (uL (v / 4294967296 ^ i % 4294967296)) :=
      x4_limb' ha (by omega) (fun h => hR i (by omega) h) (fun h => by rw [dg_hi q_pos hv h])
    have hl2 : f_X4_limb (uI b) L1 (uI i) = some (uL (w / 4294967296 ^ i % 4294967296)) :=
      x4_limb' hb (by omega) (fun h => hd1 i h) (fun h => by rw [dg_hi q_pos hw h])
    rw [f_X4_plus_L17, if_neg (fun h => by have := (uI_le (by omega) (by omega)).mp h; omega), hl1, Option.bind_some, hl2, Option.bind_some, if_pos (by exact (uI_vIn (by omega)).mpr (by omega)), uI_clamp (by omega), uL_add, uL_add, uL_shr32 (by omega), uL_mask32, uI_succ, ← cy_div q_pos, ← cy_mod q_pos, ← hT]
    refine ih (i + 1) m _ (by omega) (by omega) (fun j hj => ?_) (fun j hj hj2 => ?_)
    · by_cases e : j = i
      · subst e
        rw [updL_eq]
        apply congrArg uL
        refine (dg_eq (K := v / 4294967296 ^ (j + 1) + w / 4294967296 ^ (j + 1)) q_pos ?_).symm
        have h1 := dg_split (B := 4294967296) (v := v) (i := j + 1)
        have h2 := dg_split (B := 4294967296) (v := w) (i := j + 1)
        rw [Nat.mul_add]
        omega
      · rw [updL_ne _ _ e]; exact hL j (by omega)
    · rw [updL_ne _ _ (by omega)]; exact hR j (by omega) hj2
theorem x4_plus {s0 s1 : Int32} {L0 L1 : Nat → Int64} {v w : Nat} (h0 : R32 s0 L0 v) (h1 : R32 s1 L1 w) (hW : v + w < 4294967296 ^ 160) : ∃ s L', f_X4_plus s1 L1 s0 L0 = some (s, L') ∧ R32 s L' (v + w) := by
  obtain ⟨a, ha, rfl, hv, hlv, hdv⟩ := h0
  obtain ⟨b, hb, rfl, hw, hlw, hdw⟩ := h1
  unfold f_X4_plus
  rw [max_uI (by omega) (by omega), Option.bind_some]
  obtain ⟨L', h1, h2⟩ := x4_plusL ha hv hb hw hdw (max a b) 0 FU L0 (by omega) (by rw [hFU]; omega) (fun j hj => by omega) (fun j _ hj => hdv j hj)
  have e : (v % 4294967296 ^ 0 + w % 4294967296 ^ 0) / 4294967296 ^ 0 = 0 := by rw [Nat.pow_zero, Nat.mod_one, Nat.mod_one]
  rw [e] at h1
  have h1' : f_X4_plus_L17 (uI b) L1 FU (uI (max a b)) (0 : Int64) (0 : Int32) (uI a) L0 = f_X4_plus_B62 (uI b) L1 (uI (max a b)) (uL ((v + w) / 4294967296 ^ max a b)) (uI a) L' := h1
  rw [h1']
  have hm1 : v < 4294967296 ^ max a b := Nat.lt_of_lt_of_le hv (Nat.pow_le_pow_right q_pos (by omega))
  have hm2 : w < 4294967296 ^ max a b := Nat.lt_of_lt_of_le hw (Nat.pow_le_pow_right q_pos (by omega))
  have hlow : ∀ j, j < max a b → 4294967296 ^ j ≤ v + w := fun j hj => by
    by_cases hja : j < a
    · have := hlv j hja; omega
    · have := hlw j (by omega); omega
  have hB := x4_scaleB (W := v + w) (n := max a b) (L := L') (by omega) (by rw [Nat.pow_succ]; omega) hW hlow h2
  exact hB
/-! minus -/
theorem ip (i : Nat) : (0 : Int) < ((4294967296 ^ i : Nat) : Int) := Int.natCast_pos.mpr (Nat.pow_pos q_pos)
theorem x4_minusL {v w a b : Nat} {L1 : Nat → Int64} (hwv : w ≤ v) (ha : a ≤ 160) (hv : v < 4294967296 ^ a) (hb : b ≤ 160) (hw : w < 4294967296 ^ b) (hd1 : ∀ j, j < b → L1 j = uL (w / 4294967296 ^ j % 4294967296)) :
    ∀ k i fuel L, i + k = a → k < fuel → (∀ j, j < i → L j = uL ((v - w) / 4294967296 ^ j % 4294967296)) → (∀ j, i ≤ j → j < a → L j = uL (v / 4294967296 ^ j % 4294967296)) →
    ∃ L', f_X4_minus_L5 (uI b) L1 fuel (iL ((((v % 4294967296 ^ i : Nat) : Int) - ((w % 4294967296 ^ i : Nat) : Int)) / ((4294967296 ^ i : Nat) : Int))) (uI i) (uI a) L = f_X4_minus_B54 (uI b) L1 (uI a) L' ∧ ∀ j, j < a → L' j = uL ((v - w) / 4294967296 ^ j % 4294967296) := by
  intro k
  induction k with
  | zero =>
    intro i fuel L hk hf hL hR
    obtain ⟨m, rfl, _⟩ := ex_succ hf
    have hi : i = a := by omega
    subst hi
    refine ⟨L, ?_, hL⟩
    rw [f_X4_minus_L5, if_pos (by exact (uI_le (by omega) (by omega)).mpr (Nat.le_refl _))]
  | succ k ih =>
    intro i fuel L hk hf hL hR
    obtain ⟨m, rfl, hm⟩ := ex_succ hf
    have hpos := ip i
    have h1 : v % 4294967296 ^ i < 4294967296 ^ i := Nat.mod_lt _ (Nat.pow_pos q_pos)
    have h2 : w % 4294967296 ^ i < 4294967296 ^ i := Nat.mod_lt _ (Nat.pow_pos q_pos)
    have hc1 : -1 ≤ (((v % 4294967296 ^ i : Nat) : Int) - ((w % 4294967296 ^ i : Nat) : Int)) / ((4294967296 ^ i : Nat) : Int) := by
      rw [Int.le_ediv_iff_mul_le hpos]; omega
    have hc2 : (((v % 4294967296 ^ i : Nat) : Int) - ((w % 4294967296 ^ i : Nat) : Int)) / ((4294967296 ^ i : Nat) : Int) < 1 := by
      rw [Int.ediv_lt_iff_lt_mul hpos]; omega
    have hdv : v / 4294967296 ^ i % 4294967296 < 4294967296 := Nat.mod_lt _ q_pos
    have hdw : w / 4294967296 ^ i % 4294967296 < 4294967296 := Nat.mod_lt _ q_pos
    have hl2 : f_X4_limb (uI b) L1 (uI i) = some (uL (w / 4294967296 ^ i % 4294967296)) :=
      x4_limb' hb (by omega) (fun h => hd1 i h) (fun h => by rw [dg_hi q_pos hw h])
    have hT : ((v % 4294967296 ^ (i + 1) : Nat) : Int) - ((w % 4294967296 ^ (i + 1) : Nat) : Int) = (((v % 4294967296 ^ i : Nat) : Int) - ((w % 4294967296 ^ i : Nat) : Int)) + ((4294967296 ^ i : Nat) : Int) * (((v / 4294967296 ^ i % 4294967296 : Nat) : Int) - ((w / 4294967296 ^ i % 4294967296 : Nat) : Int)) := by
      rw [Nat.mod_pow_succ, Nat.mod_pow_succ, Int.mul_sub, Int.natCast_add, Int.natCast_add, Int.natCast_mul, Int.natCast_mul]; omega
    have hnext : (((v % 4294967296 ^ (i + 1) : Nat) : Int) - ((w % 4294967296 ^ (i + 1) : Nat) : Int)) / ((4294967296 ^ (i + 1) : Nat) : Int) = ((((v % 4294967296 ^ i : Nat) : Int) - ((w % 4294967296 ^ i : Nat) : Int)) / ((4294967296 ^ i : Nat) : Int) + (((v / 4294967296 ^ i % 4294967296 : Nat) : Int) - ((w / 4294967296 ^ i % 4294967296 : Nat) : Int))) / 4294967296 := by
      rw [hT, Nat.pow_succ, Int.natCast_mul, ← Int.ediv_ediv_of_nonneg (Int.le_of_lt hpos), Int.add_mul_ediv_left _ _ (by omega)]
      rfl
    have hdig : ((((v % 4294967296 ^ i : Nat) : Int) - ((w % 4294967296 ^ i : Nat) : Int)) / ((4294967296 ^ i : Nat) : Int) + (((v / 4294967296 ^ i % 4294967296 : Nat) : Int) - ((w / 4294967296 ^ i % 4294967296 : Nat) : Int))) % 4294967296 = (((v - w) / 4294967296 ^ i % 4294967296 : Nat) : Int) := by
      have e1 : ((v - w : Nat) : Int) = (((v % 4294967296 ^ i : Nat) : Int) - ((w % 4294967296 ^ i : Nat) : Int)) + ((4294967296 ^ i : Nat) : Int) * (((v / 4294967296 ^ i : Nat) : Int) - ((w / 4294967296 ^ i : Nat) : Int)) := by
        have g1 := dg_split (B := 4294967296) (v := v) (i := i)
        have g2 := dg_split (B := 4294967296) (v := w) (i := i)
        rw [Int.mul_sub, ← Int.natCast_mul, ← Int.natCast_mul]
        omega
      have e2 : (((v - w) / 4294967296 ^ i : Nat) : Int) = (((v % 4294967296 ^ i : Nat) : Int) - ((w % 4294967296 ^ i : Nat) : Int)) / ((4294967296 ^ i : Nat) : Int) + (((v / 4294967296 ^ i : Nat) : Int) - ((w / 4294967296 ^ i : Nat) : Int)) := by
        rw [Int.natCast_ediv, e1, Int.add_mul_ediv_left _ _ (by omega)]
      have e3 : (((v - w) / 4294967296 ^ i % 4294967296 : Nat) : Int) = (((v - w) / 4294967296 ^ i : Nat) : Int) % 4294967296 := rfl
      rw [e3, e2]
      omega
    rw [f_X4_minus_L5, if_neg (fun h => by have := (uI_le (by omega) (by omega)).mp h; omega), if_pos (by exact (uI_vIn (by omega)).mpr (by omega)), hl2, Option.bind_some, uI_clamp (by omega), hR i (by omega) (by omega), iL_sub, iL_add, show (32 : Int32) = iI ((32 : Nat) : Int) from rfl, lsr_iL (by omega) (by omega) (by decide), mask32, uI_succ, hdig]
    have e5 : ((2 ^ 32 : Nat) : Int) = 4294967296 := by decide
    rw [e5, ← hnext]
    refine ih (i + 1) m _ (by omega) (by omega) (fun j hj => ?_) (fun j hj hj2 => ?_)
    · by_cases e : j = i
      · subst e; rw [updL_eq]
      · rw [updL_ne _ _ e]; exact hL j (by omega)
    · rw [updL_ne _ _ (by omega)]; exact hR j (by omega) hj2
theorem x4_minus {s0 s1 : Int32} {L0 L1 : Nat → Int64} {v w : Nat} (h0 : R32 s0 L0 v) (h1 : R32 s1 L1 w) (hwv : w ≤ v) : ∃ s L', f_X4_minus s1 L1 s0 L0 = some (s, L') ∧ R32 s L' (v - w) := by
  obtain ⟨a, ha, rfl, hv, hlv, hdv⟩ := h0
  obtain ⟨b, hb, rfl, hw, hlw, hdw⟩ := h1
  unfold f_X4_minus
  obtain ⟨L', h1, h2⟩ := x4_minusL hwv ha hv hb hw hdw a 0 FU L0 (by omega) (by rw [hFU]; omega) (fun j hj => by omega) (fun j _ hj => hdv j hj)
  have e : (((v % 4294967296 ^ 0 : Nat) : Int) - ((w % 4294967296 ^ 0 : Nat) : Int)) / ((4294967296 ^ 0 : Nat) : Int) = 0 := by rw [Nat.pow_zero, Nat.mod_one, Nat.mod_one]; rfl
  rw [e] at h1
  have h1' : f_X4_minus_L5 (uI b) L1 FU (0 : Int64) (0 : Int32) (uI a) L0 = f_X4_minus_B54 (uI b) L1 (uI a) L' := h1
  rw [h1']
  unfold f_X4_minus_B54
  obtain ⟨s, h3, h4⟩ := x4_trim ha (show v - w < 4294967296 ^ a by omega) h2
  rw [h3]
  exact ⟨s, L', rfl, h4⟩
/-! order -/
def cmpI (a b : Nat) : Int := if a < b then -1 else if a = b then 0 else 1
theorem x4_cmpL {v w n : Nat} {L0 L1 : Nat → Int64} (hn : n ≤ 160) (hd0 : ∀ j, j < n → L0 j = uL (v / 4294967296 ^ j % 4294967296)) (hd1 : ∀ j, j < n → L1 j = uL (w / 4294967296 ^ j % 4294967296)) (z0 z1 : Int32) :
    ∀ k fuel, k ≤ n → k < fuel → v / 4294967296 ^ k = w / 4294967296 ^ k → f_X4_comparedWith_L35 z0 L0 z1 L1 fuel (iI ((k : Int) - 1)) = some (iI (cmpI v w)) := by
  intro k
  induction k with
  | zero =>
    intro fuel hk hf he
    obtain ⟨m, rfl, _⟩ := ex_succ hf
    rw [Nat.pow_zero, Nat.div_one, Nat.div_one] at he
    subst he
    rw [f_X4_comparedWith_L35, if_pos (by rw [wI_0, iI_lt (by omega) (by omega) (by omega) (by omega)]; omega)]
    unfold cmpI
    rw [if_neg (Nat.lt_irrefl v), if_pos rfl]; rfl
  | succ k ih =>
    intro fuel hk hf he
    obtain ⟨m, rfl, hm⟩ := ex_succ hf
    have e1 : iI (((k + 1 : Nat) : Int) - 1) = uI k := by congr 1; omega
    have e2 : uI k + (-1 : Int32) = iI ((k : Int) - 1) := by rw [wI_m1, iI_add]; rfl
    have hdv : v / 4294967296 ^ k % 4294967296 < 4294967296 := Nat.mod_lt _ q_pos
    have hdw : w / 4294967296 ^ k % 4294967296 < 4294967296 := Nat.mod_lt _ q_pos
    have hv := dg_down (B := 4294967296) (v := v) (i := k)
    have hw := dg_down (B := 4294967296) (v := w) (i := k)
    rw [e1, f_X4_comparedWith_L35, if_neg (uI_nneg (by omega)), if_pos (by exact (uI_vIn (by omega)).mpr (by omega)), uI_clamp (by omega), hd0 k (by omega), hd1 k (by omega)]
    by_cases hq : v / 4294967296 ^ k % 4294967296 = w / 4294967296 ^ k % 4294967296
    · rw [if_pos (by exact (uL_ceq (by omega) (by omega)).mpr hq), e2]
      exact ih m (by omega) (by omega) (by rw [hv, hw, he, hq])
    · rw [if_neg (by exact fun h => hq ((uL_ceq (by omega) (by omega)).mp h))]
      unfold f_X4_comparedWith_B55
      rw [if_pos (by exact (uI_vIn (by omega)).mpr (by omega)), uI_clamp (by omega), hd0 k (by omega), hd1 k (by omega)]
      rw [he] at hv
      by_cases hlt : v / 4294967296 ^ k % 4294967296 < w / 4294967296 ^ k % 4294967296
      · have h1 : v / 4294967296 ^ k < w / 4294967296 ^ k := by omega
        have h2 : v < w := by
          apply Nat.lt_of_not_le
          intro h
          have := Nat.div_le_div_right (c := 4294967296 ^ k) h
          omega
        rw [if_neg (fun h => by have := (uL_cge (by omega) (by omega)).mp h; omega)]
        unfold cmpI
        rw [if_pos h2, wI_m1]
      · have h1 : w / 4294967296 ^ k < v / 4294967296 ^ k := by omega
        have h2 : w < v := by
          apply Nat.lt_of_not_le
          intro h
          have := Nat.div_le_div_right (c := 4294967296 ^ k) h
          omega
        rw [if_pos (by exact (uL_cge (by omega) (by omega)).mpr (by omega))]
        unfold cmpI
        rw [if_neg (by omega), if_neg (by omega)]; rfl
theorem x4_cmp {s0 s1 : Int32} {L0 L1 : Nat → Int64} {v w : Nat} (h0 : R32 s0 L0 v) (h1 : R32 s1 L1 w) : f_X4_comparedWith s0 L0 s1 L1 = some (iI (cmpI v w)) := by
  obtain ⟨a, ha, rfl, hv, hlv, hdv⟩ := h0
  obtain ⟨b, hb, rfl, hw, hlw, hdw⟩ := h1
  unfold f_X4_comparedWith
  by_cases he : a = b
  · subst he
    rw [if_pos rfl, wI_1, iI_sub]
    refine x4_cmpL ha hdv hdw _ _ a FU (Nat.le_refl _) (by rw [hFU]; omega) ?_
    rw [Nat.div_eq_of_lt hv, Nat.div_eq_of_lt hw]
  · rw [if_neg (by exact fun h => he ((uI_eq (by omega) (by omega)).mp h))]
    by_cases hlt : b ≤ a
    · have h1 := hlv b (by omega)
      rw [if_pos (by exact (uI_le (by omega) (by omega)).mpr hlt)]
      unfold cmpI
      rw [if_neg (by omega), if_neg (by omega)]; rfl
    · have h1 := hlw a (by omega)
      rw [if_neg (by exact fun h => hlt ((uI_le (by omega) (by omega)).mp h))]
      unfold cmpI
      rw [if_pos (by omega), wI_m1]
/-! bits -/
theorem q_pow (n : Nat) : 4294967296 ^ n = 2 ^ (32 * n) := by rw [Nat.pow_mul]
theorem x4_bits {s : Int32} {L : Nat → Int64} {v : Nat} (h : R32 s L v) : f_X4_bits s L = some (uI (bl v)) := by
  have hh := h
  obtain ⟨n, hn, rfl, hv, hlv, hdv⟩ := h
  unfold f_X4_bits
  by_cases h0 : n = 0
  · subst h0
    rw [Nat.pow_zero] at hv
    have : v = 0 := by omega
    subst this
    rw [if_pos (by exact (uI_eq0 (by omega)).mpr rfl)]; rfl
  · obtain ⟨m, rfl⟩ : ∃ m, n = m + 1 := ⟨n - 1, by omega⟩
    have hq : v / 4294967296 ^ m < 4294967296 := Nat.div_lt_of_lt_mul (by rwa [← Nat.pow_succ])
    have hl := x4_limb hh (i := m) (by omega)
    have hnz : v / 4294967296 ^ m ≠ 0 := by
      intro h
      have := (Nat.div_eq_zero_iff_lt (Nat.pow_pos q_pos)).mp h
      have := hlv m (by omega)
      omega
    rw [if_neg (by exact fun h => h0 ((uI_eq0 (by omega)).mp h)), uI_pred, hl, Option.bind_some, dg_top hv, nlz64 (by omega), Option.bind_some, wI_32, iI_mul, iI_sub, iI_sub]
    have hb := bl_div (v := v) (k := 32 * m) (by rw [← q_pow]; exact hnz)
    rw [← q_pow] at hb
    rw [hb]
    congr 2; omega
theorem bf_split {v i : Nat} : v / 2 ^ i = v / 4294967296 ^ (i / 32) / 2 ^ (i % 32) := by
  rw [q_pow, Nat.div_div_eq_div_mul, ← Nat.pow_add, show 32 * (i / 32) + i % 32 = i by omega]
theorem x4_bitsFrom {s : Int32} {L : Nat → Int64} {v i : Nat} (h : R32 s L v) (hi : i < 2000000000) (hv : v / 2 ^ i < 18446744073709551616) : f_X4_bitsFrom s L (uI i) = some (uL (v / 2 ^ i)) := by
  unfold f_X4_bitsFrom
  have hl0 := x4_limb h (i := i / 32) (by omega)
  have hl1 := x4_limb h (i := i / 32 + 1) (by omega)
  have hl2 := x4_limb h (i := i / 32 + 2) (by omega)
  rw [uI_shr5 (by omega), uI_mask5, hl0, Option.bind_some, uI_succ, hl1, Option.bind_some, show uI (i / 32) + (2 : Int32) = uI (i / 32 + 2) from uI_add _ 2, hl2, Option.bind_some]
  have hA0 := dg_down (B := 4294967296) (v := v) (i := i / 32)
  have hA1 := dg_down (B := 4294967296) (v := v) (i := i / 32 + 1)
  have hA2 := dg_down (B := 4294967296) (v := v) (i := i / 32 + 2)
  have hd0 : v / 4294967296 ^ (i / 32) % 4294967296 < 4294967296 := Nat.mod_lt _ q_pos
  have hd1 : v / 4294967296 ^ (i / 32 + 1) % 4294967296 < 4294967296 := Nat.mod_lt _ q_pos
  have hd2 : v / 4294967296 ^ (i / 32 + 2) % 4294967296 < 4294967296 := Nat.mod_lt _ q_pos
  rw [bf_split] at hv ⊢
  generalize hg : v / 4294967296 ^ (i / 32) = A at *
  generalize v / 4294967296 ^ (i / 32 + 1) = A1 at *
  generalize v / 4294967296 ^ (i / 32 + 2) = A2 at *
  generalize v / 4294967296 ^ (i / 32 + 2 + 1) = A3 at *
  have hp : i % 32 < 32 := by omega
  generalize i % 32 = p at *
  by_cases h0 : p = 0
  · subst h0
    rw [Nat.pow_zero, Nat.div_one] at hv
    have e1 : A1 % 4294967296 = A1 := by omega
    rw [if_pos (by exact (uI_eq0 (by omega)).mpr rfl), e1, uL_lus (by omega) (by omega), show (32 : Int32) - uI 0 = uI 32 from rfl, uL_lsh _ (by decide), Nat.pow_zero, Nat.div_one, Nat.div_one, lor_add' (k := 32) (by omega) (by omega)]
    congr 2; omega
  · have hq := q_two p (by omega)
    have hp0 : 0 < 2 ^ p := Nat.two_pow_pos p
    have hr0 : 0 < 2 ^ (32 - p) := Nat.two_pow_pos _
    have hpq : 2 ^ p < 4294967296 := by
      have : 2 ^ p < 2 ^ 32 := Nat.pow_lt_pow_right (by decide) hp
      omega
    have hA : A < 18446744073709551616 * 2 ^ p := (Nat.div_lt_iff_lt_mul hp0).mp hv
    have h3 : A3 = 0 := by
      have : A < 18446744073709551616 * 4294967296 := by
        have := Nat.mul_lt_mul_of_pos_left hpq (show 0 < 18446744073709551616 by decide)
        omega
      omega
    subst h3
    have e2 : A2 % 4294967296 = A2 := by omega
    rw [if_neg (by exact fun h => h0 ((uI_eq0 (by omega)).mp h)), e2]
    have hA2p : A2 < 2 ^ p := by
      apply Nat.lt_of_not_le
      intro hle
      have := Nat.mul_le_mul_left 18446744073709551616 hle
      omega
    rw [uL_lus (by omega) (by omega), show (32 : Int32) - uI p = uI (32 - p) from uI_sub (a := 32) (by omega), show (64 : Int32) - uI p = uI (64 - p) from uI_sub (a := 64) (by omega), uL_lsh _ (by omega), uL_lsh _ (by omega)]
    have he0 : A % 4294967296 / 2 ^ p < 2 ^ (32 - p) := Nat.div_lt_of_lt_mul (by rw [← hq]; exact hd0)
    have hsum : A1 % 4294967296 * 2 ^ (32 - p) + A % 4294967296 / 2 ^ p < 2 ^ (64 - p) := by
      have h6 : (A1 % 4294967296 + 1) * 2 ^ (32 - p) ≤ 4294967296 * 2 ^ (32 - p) := Nat.mul_le_mul_right _ (by omega)
      have h7 : 4294967296 * 2 ^ (32 - p) = 2 ^ (64 - p) := by
        rw [show 4294967296 = 2 ^ 32 by decide, ← Nat.pow_add]; congr 1; omega
      rw [Nat.add_mul, Nat.one_mul, h7] at h6
      omega
    have h64 : 2 ^ (64 - p) * 2 ^ p = 18446744073709551616 := by
      rw [← Nat.pow_add, show 64 - p + p = 64 by omega]
    have hsm : 2 ^ (64 - p) ≤ 18446744073709551616 := by
      rw [← h64]; exact Nat.le_mul_of_pos_right _ hp0
    have hbig : A2 * 2 ^ (64 - p) + (A1 % 4294967296 * 2 ^ (32 - p) + A % 4294967296 / 2 ^ p) < 18446744073709551616 := by
      have h6 : (A2 + 1) * 2 ^ (64 - p) ≤ 2 ^ p * 2 ^ (64 - p) := Nat.mul_le_mul_right _ (by omega)
      rw [Nat.add_mul, Nat.one_mul, Nat.mul_comm (2 ^ p), h64] at h6
      omega
    rw [lor_add' he0 (by omega), lor_add' hsum hbig]
    congr 2
    have eA : A = A % 4294967296 + 2 ^ p * (A1 % 4294967296 * 2 ^ (32 - p) + A2 * 2 ^ (64 - p)) := by
      have g1 : 2 ^ p * (A1 % 4294967296 * 2 ^ (32 - p) + A2 * 2 ^ (64 - p)) = A1 % 4294967296 * (2 ^ p * 2 ^ (32 - p)) + A2 * (2 ^ (64 - p) * 2 ^ p) := by
        rw [Nat.mul_add]; simp only [Nat.mul_comm, Nat.mul_left_comm, Nat.mul_assoc]
      rw [g1, ← hq, h64]
      omega
    conv => rhs; rw [eA, Nat.add_mul_div_left _ _ hp0]
    omega
theorem x4_bit {s : Int32} {L : Nat → Int64} {v i : Nat} (h : R32 s L v) (hi : i < 2147483648) : f_X4_bit s L (uI i) = some (uI (v / 2 ^ i % 2)) := by
  unfold f_X4_bit
  have hl0 := x4_limb h (i := i / 32) (by omega)
  have hd0 : v / 4294967296 ^ (i / 32) % 4294967296 < 4294967296 := Nat.mod_lt _ q_pos
  rw [uI_shr5 hi, uI_mask5, hl0, Option.bind_some, uL_lus (by omega) (by omega), uL_mask1]
  have e : v / 4294967296 ^ (i / 32) % 4294967296 / 2 ^ (i % 32) % 2 = v / 2 ^ i % 2 := by
    rw [bf_split (i := i)]
    have hq := q_two (i % 32) (by omega)
    rw [hq, Nat.mod_mul_right_div_self]
    apply Nat.mod_mod_of_dvd
    exact ⟨2 ^ (32 - i % 32 - 1), by rw [← Nat.pow_succ']; congr 1; omega⟩
  rw [e]
  have : v / 2 ^ i % 2 = 0 ∨ v / 2 ^ i % 2 = 1 := by omega
  rcases this with h | h
  · rw [h]; rfl
  · rw [h]; rfl
theorem x4_anyL {v n : Nat} {L : Nat → Int64} {i : Nat} (hn : n ≤ 160) (hv : v < 4294967296 ^ n) (hd : ∀ j, j < n → L j = uL (v / 4294967296 ^ j % 4294967296)) (hi : i < 2147483648) :
    ∀ k j fuel, j + k = n → k < fuel → j ≤ i / 32 → v % 4294967296 ^ j = 0 → f_X4_anyBelow_L6 (uI n) L fuel (uI i) (uI (i / 32)) (uI j) = some (if v % 2 ^ i = 0 then 0 else 1) := by
  have hfin : v % 4294967296 ^ (i / 32) = 0 → f_X4_anyBelow_B38 (uI n) L (uI i) (uI (i / 32)) = some (if v % 2 ^ i = 0 then 0 else 1) := by
    intro h0
    unfold f_X4_anyBelow_B38
    have hl0 := x4_limb' (n := n) (j := i / 32) (d := v / 4294967296 ^ (i / 32) % 4294967296) (L := L) hn (by omega) (fun h => hd _ h) (fun h => by rw [dg_hi q_pos hv h])
    have e1 : lsh (1 : Int64) (uI (i % 32)) - (1 : Int64) = uL (2 ^ (i % 32) - 1) := by
      have := uL_lsh 1 (k := i % 32) (by omega)
      rw [Nat.one_mul] at this
      have h2 : lsh (1 : Int64) (uI (i % 32)) = uL (2 ^ (i % 32)) := this
      rw [h2]
      exact uL_sub (b := 1) (Nat.two_pow_pos _)
    rw [hl0, Option.bind_some, uI_mask5, e1, uL_maskk (by omega)]
    have hq := q_two (i % 32) (by omega)
    have e2 : v / 4294967296 ^ (i / 32) % 4294967296 % 2 ^ (i % 32) = v / 4294967296 ^ (i / 32) % 2 ^ (i % 32) := Nat.mod_mod_of_dvd _ ⟨_, hq⟩
    have e3 : v % 2 ^ i = 4294967296 ^ (i / 32) * (v / 4294967296 ^ (i / 32) % 2 ^ (i % 32)) := by
      have g : 2 ^ i = 4294967296 ^ (i / 32) * 2 ^ (i % 32) := by rw [q_pow, ← Nat.pow_add]; congr 1; omega
      rw [g, Nat.mod_mul, h0, Nat.zero_add]
    have hm : v / 4294967296 ^ (i / 32) % 2 ^ (i % 32) < 2 ^ 32 := Nat.lt_of_lt_of_le (Nat.mod_lt _ (Nat.two_pow_pos _)) (Nat.pow_le_pow_right (by decide) (by omega))
    rw [e2, e3]
    by_cases hz : v / 4294967296 ^ (i / 32) % 2 ^ (i % 32) = 0
    · rw [if_pos (by exact (uL_cmp0 (by omega)).mpr hz), hz, Nat.mul_zero, if_pos rfl]
    · rw [if_neg (by exact fun h => hz ((uL_cmp0 (by omega)).mp h)), if_neg (fun h => by
        rcases Nat.mul_eq_zero.mp h with g | g
        · have := Nat.pow_pos (n := i / 32) q_pos; omega
        · exact hz g)]
  intro k
  induction k with
  | zero =>
    intro j fuel hk hf hj h0
    obtain ⟨m, rfl, _⟩ := ex_succ hf
    rw [f_X4_anyBelow_L6]
    have hjn : j = n := by omega
    subst hjn
    have hv0 : v = 0 := by rwa [Nat.mod_eq_of_lt hv] at h0
    have := hfin (by rw [hv0, Nat.zero_mod])
    by_cases hc : i / 32 ≤ j
    · rw [if_pos (by exact (uI_le (by omega) (by omega)).mpr hc)]; exact this
    · rw [if_neg (by exact fun h => hc ((uI_le (by omega) (by omega)).mp h)), if_pos (by exact (uI_le (by omega) (by omega)).mpr (Nat.le_refl _))]; exact this
  | succ k ih =>
    intro j fuel hk hf hj h0
    obtain ⟨m, rfl, hm⟩ := ex_succ hf
    rw [f_X4_anyBelow_L6]
    by_cases hc : i / 32 ≤ j
    · have hji : j = i / 32 := by omega
      rw [if_pos (by exact (uI_le (by omega) (by omega)).mpr hc)]
      exact hfin (by rw [← hji]; exact h0)
    · have hdv : v / 4294967296 ^ j % 4294967296 < 4294967296 := Nat.mod_lt _ q_pos
      rw [if_neg (by exact fun h => hc ((uI_le (by omega) (by omega)).mp h)), if_neg (fun h => by have := (uI_le (by omega) (by omega)).mp h; omega), if_pos (by exact (uI_vIn (by omega)).mpr (by omega)), uI_clamp (by omega), hd j (by omega)]
      by_cases hz : v / 4294967296 ^ j % 4294967296 = 0
      · rw [if_pos (by exact (uL_cmp0 (by omega)).mpr hz), uI_succ]
        exact ih (j + 1) m (by omega) (by omega) (by omega) (by rw [Nat.mod_pow_succ, h0, hz, Nat.mul_zero])
      · rw [if_neg (by exact fun h => hz ((uL_cmp0 (by omega)).mp h)), if_neg]
        intro h
        apply hz
        have hdvd : 4294967296 ^ (j + 1) ∣ 2 ^ i := by rw [q_pow]; exact Nat.pow_dvd_pow 2 (by omega)
        have h2 : v % 4294967296 ^ (j + 1) = 0 := by
          rw [← Nat.mod_mod_of_dvd v hdvd, h, Nat.zero_mod]
        rw [Nat.mod_pow_succ, h0, Nat.zero_add] at h2
        rcases Nat.mul_eq_zero.mp h2 with g | g
        · have := Nat.pow_pos (n := j) q_pos; omega
        · exact g
theorem x4_any {s : Int32} {L : Nat → Int64} {v i : Nat} (h : R32 s L v) (hi : i < 2147483648) : f_X4_anyBelow s L (uI i) = some (if v % 2 ^ i = 0 then 0 else 1) := by
  obtain ⟨n, hn, rfl, hv, hlv, hdv⟩ := h
  unfold f_X4_anyBelow
  rw [uI_shr5 hi]
  exact x4_anyL hn hv hdv hi n 0 FU (by omega) (by rw [hFU]; omega) (by omega) (by rw [Nat.pow_zero, Nat.mod_one])
/-! parts of nine figures -/
theorem x4_cutL {v n : Nat} (hn : n ≤ 160) :
    ∀ k fuel L, k ≤ n → k < fuel → (∀ j, k ≤ j → j < n → L j = uL (v / 1000000000 / 4294967296 ^ j % 4294967296)) → (∀ j, j < k → L j = uL (v / 4294967296 ^ j % 4294967296)) →
    ∃ L', f_X4_cutBillion_L9 fuel (uL (v / 4294967296 ^ k % 1000000000)) (iI ((k : Int) - 1)) (uI n) L = f_X4_cutBillion_B48 (uL (v % 1000000000)) (uI n) L' ∧ ∀ j, j < n → L' j = uL (v / 1000000000 / 4294967296 ^ j % 4294967296) := by
  intro k
  induction k with
  | zero =>
    intro fuel L hk hf hL hR
    obtain ⟨m, rfl, _⟩ := ex_succ hf
    refine ⟨L, ?_, fun j hj => hL j (by omega) hj⟩
    rw [f_X4_cutBillion_L9, if_pos (by rw [wI_0, iI_lt (by omega) (by omega) (by omega) (by omega)]; omega), Nat.pow_zero, Nat.div_one]
  | succ k ih =>
    intro fuel L hk hf hL hR
    obtain ⟨m, rfl, hm⟩ := ex_succ hf
    have e1 : iI (((k + 1 : Nat) : Int) - 1) = uI k := by congr 1; omega
    have e2 : uI k + (-1 : Int32) = iI ((k : Int) - 1) := by rw [wI_m1, iI_add]; rfl
    have hd := dg_down (B := 4294967296) (v := v) (i := k)
    have hdq : v / 4294967296 ^ k % 4294967296 < 4294967296 := Nat.mod_lt _ q_pos
    rw [e1, f_X4_cutBillion_L9, if_neg (uI_nneg (by omega)), if_pos (by exact (uI_vIn (by omega)).mpr (by omega)), uI_clamp (by omega), hR k (by omega), show (32 : Int32) = uI 32 from rfl, uL_lsh _ (by decide), lor_add (k := 32) (by omega) (by omega), show (1000000000 : Int64) = uL 1000000000 from rfl, uL_rem (by omega) (by decide) (by decide), uL_div (by omega) (by decide) (by decide), e2]
    have g1 : (v / 4294967296 ^ (k + 1) % 1000000000 * 2 ^ 32 + v / 4294967296 ^ k % 4294967296) % 1000000000 = v / 4294967296 ^ k % 1000000000 := by
      generalize v / 4294967296 ^ (k + 1) = u at *
      generalize v / 4294967296 ^ k = t at *
      omega
    have g2 : (v / 4294967296 ^ (k + 1) % 1000000000 * 2 ^ 32 + v / 4294967296 ^ k % 4294967296) / 1000000000 = v / 1000000000 / 4294967296 ^ k % 4294967296 := by
      rw [Nat.div_div_eq_div_mul v, Nat.mul_comm 1000000000, ← Nat.div_div_eq_div_mul]
      generalize v / 4294967296 ^ (k + 1) = u at *
      generalize v / 4294967296 ^ k = t at *
      omega
    rw [g1, g2]
    refine ih m _ (by omega) (by omega) (fun j hj hj2 => ?_) (fun j hj => ?_)
    · by_cases e : j = k
      · subst e; rw [updL_eq]
      · rw [updL_ne _ _ e]; exact hL j (by omega) hj2
    · rw [updL_ne _ _ (by omega)]; exact hR j (by omega)
theorem x4_cut {s : Int32} {L : Nat → Int64} {v : Nat} (h : R32 s L v) : ∃ s' L', f_X4_cutBillion s L = some (uI (v % 1000000000), s', L') ∧ R32 s' L' (v / 1000000000) := by
  obtain ⟨n, hn, rfl, hv, hlv, hdv⟩ := h
  unfold f_X4_cutBillion
  obtain ⟨L', h1, h2⟩ := x4_cutL (v := v) hn n FU L (Nat.le_refl _) (by rw [hFU]; omega) (fun j hj hj2 => by omega) hdv
  rw [Nat.div_eq_of_lt hv, Nat.zero_mod] at h1
  rw [wI_1, iI_sub]
  have h1' : f_X4_cutBillion_L9 FU (0 : Int64) (iI ((n : Int) - 1)) (uI n) L = f_X4_cutBillion_B48 (uL (v % 1000000000)) (uI n) L' := h1
  rw [h1']
  unfold f_X4_cutBillion_B48
  have hlt : v / 1000000000 < 4294967296 ^ n := Nat.lt_of_le_of_lt (Nat.div_le_self _ _) hv
  obtain ⟨s', h3, h4⟩ := x4_trim hn hlt h2
  rw [h3, Option.bind_some, uL_toI]
  exact ⟨s', L', rfl, h4⟩
