/-! Nat of the reference: addSmall, less, times, divide, shift, bit, drop -/
theorem x10_smallB {m : Nat} {v x i n : Nat} {D : Nat → Int32} (hx : x < 1073741824) (hi : i < 520) (hn : n ≤ 520) (hin : i < n) (hD : D i = uI (v / 1073741824 ^ i % 1073741824)) :
    f_X10_addSmall_B39 (f_X10_addSmall_L6 m) (uL ((v % 1073741824 ^ i + x) / 1073741824 ^ i)) (uI i) (uI n) D = f_X10_addSmall_L6 m (uL ((v % 1073741824 ^ (i + 1) + x) / 1073741824 ^ (i + 1))) (uI (i + 1)) (uI n) (upd D i (uI ((v + x) / 1073741824 ^ i % 1073741824))) := by
  unfold f_X10_addSmall_B39
  have hdv : v / 1073741824 ^ i % 1073741824 < 1073741824 := Nat.mod_lt _ p_pos
  have hc : (v % 1073741824 ^ i + x) / 1073741824 ^ i < 1073741824 + 1 := by
    apply Nat.div_lt_of_lt_mul
    have h1 : v % 1073741824 ^ i < 1073741824 ^ i := Nat.mod_lt _ (Nat.pow_pos p_pos)
    have h2 : 1073741824 ≤ 1073741824 ^ i * 1073741824 := Nat.le_mul_of_pos_left _ (Nat.pow_pos p_pos)
    rw [Nat.mul_add, Nat.mul_one]
    omega
  have hT : v % 1073741824 ^ (i + 1) + x = (v % 1073741824 ^ i + x) + 1073741824 ^ i * (v / 1073741824 ^ i % 1073741824) := by
    rw [Nat.mod_pow_succ]; omega
  have hW : (v + x) / 1073741824 ^ i % 1073741824 = ((v % 1073741824 ^ i + x) / 1073741824 ^ i + v / 1073741824 ^ i % 1073741824) % 1073741824 := by
    rw [← cy_mod p_pos, ← hT]
    refine dg_eq (K := v / 1073741824 ^ (i + 1)) p_pos ?_
    have := dg_split (B := 1073741824) (v := v) (i := i + 1)
    omega
  rw [if_pos (by exact (uI_vIn (by omega)).mpr hi), uI_clamp (by omega), hD, uI_toL (by omega), uL_add, show (30 : Int32) = uI 30 from rfl, uL_lsr (by omega) (by decide), uL_mask30, uL_toI, uI_succ, hT, cy_div p_pos, hW]
theorem x10_smallL {v x n : Nat} (hx : x < 1073741824) (hn : n ≤ 520) (hv : v < 1073741824 ^ n) (hW : v + x < 1073741824 ^ 520) (hlow : ∀ j, j < n → 1073741824 ^ j ≤ v) :
    ∀ k i fuel D, i + k = 521 → k < fuel → (∀ j, j < i → D j = uI ((v + x) / 1073741824 ^ j % 1073741824)) → (∀ j, i ≤ j → j < n → D j = uI (v / 1073741824 ^ j % 1073741824)) → (n < i → 1073741824 ^ (i - 1) ≤ v + x) → 
    ∃ s D', f_X10_addSmall_L6 fuel (uL ((v % 1073741824 ^ i + x) / 1073741824 ^ i)) (uI i) (uI (max n i)) D = some (s, D') ∧ R30 s D' (v + x) := by
  intro k
  induction k with
  | zero =>
    intro i fuel D hk hf hL hR htop
    exfalso
    have h1 := htop (by omega)
    have : i - 1 = 520 := by omega
    rw [this] at h1
    omega
  | succ k ih =>
    intro i fuel D hk hf hL hR htop
    obtain ⟨m, rfl, hm⟩ := ex_succ hf
    have hc : (v % 1073741824 ^ i + x) / 1073741824 ^ i < 1073741824 + 1 := by
      apply Nat.div_lt_of_lt_mul
      have h1 : v % 1073741824 ^ i < 1073741824 ^ i := Nat.mod_lt _ (Nat.pow_pos p_pos)
      have h2 : 1073741824 ≤ 1073741824 ^ i * 1073741824 := Nat.le_mul_of_pos_left _ (Nat.pow_pos p_pos)
      rw [Nat.mul_add, Nat.mul_one]
      omega
    rw [f_X10_addSmall_L6]
    by_cases h0 : (v % 1073741824 ^ i + x) / 1073741824 ^ i = 0
    · rw [if_pos (by exact (uL_cmp0 (by omega)).mpr h0)]
      have hlt : v % 1073741824 ^ i + x < 1073741824 ^ i := (Nat.div_eq_zero_iff_lt (Nat.pow_pos p_pos)).mp h0
      refine ⟨_, _, rfl, max n i, ?_, rfl, ?_, fun j hj => ?_, fun j hj => ?_⟩
      · by_cases hni : n < i
        · have h1 := htop hni
          have : i - 1 < 520 := by
            apply Nat.lt_of_not_le
            intro hle
            have : 1073741824 ^ 520 ≤ 1073741824 ^ (i - 1) := Nat.pow_le_pow_right p_pos hle
            omega
          omega
        · omega
      · by_cases hni : n ≤ i
        · have h1 : v < 1073741824 ^ i := Nat.lt_of_lt_of_le hv (Nat.pow_le_pow_right p_pos hni)
          rw [Nat.mod_eq_of_lt h1] at hlt
          rw [show max n i = i by omega]; exact hlt
        · rw [show max n i = n by omega]
          have hs := dg_split (B := 1073741824) (v := v) (i := i)
          have hq : v / 1073741824 ^ i < 1073741824 ^ (n - i) := Nat.div_lt_of_lt_mul (by rw [← Nat.pow_add, show i + (n - i) = n by omega]; exact hv)
          have h3 : 1073741824 ^ i * (v / 1073741824 ^ i + 1) ≤ 1073741824 ^ i * 1073741824 ^ (n - i) := Nat.mul_le_mul_left _ hq
          rw [← Nat.pow_add, show i + (n - i) = n by omega, Nat.mul_add, Nat.mul_one] at h3
          omega
      · by_cases hjn : j < n
        · have := hlow j hjn; omega
        · have h1 := htop (by omega)
          have h2 : 1073741824 ^ j ≤ 1073741824 ^ (i - 1) := Nat.pow_le_pow_right p_pos (by omega)
          omega
      · by_cases hji : j < i
        · exact hL j hji
        · rw [hR j (by omega) (by omega)]
          apply congrArg uI
          have hs := dg_split (B := 1073741824) (v := v) (i := i)
          have e1 : v + x = (v % 1073741824 ^ i + x) + 1073741824 ^ i * (v / 1073741824 ^ i) := by omega
          have e2 : 1073741824 ^ j = 1073741824 ^ i * 1073741824 ^ (j - i) := by rw [← Nat.pow_add]; congr 1; omega
          rw [e2, ← Nat.div_div_eq_div_mul, ← Nat.div_div_eq_div_mul, e1, Nat.add_mul_div_left _ _ (Nat.pow_pos p_pos), h0, Nat.zero_add]
    · have hgeT : 1073741824 ^ i ≤ v % 1073741824 ^ i + x := by
        apply Nat.le_of_not_lt
        intro h
        exact h0 (Nat.div_eq_of_lt h)
      have hge : 1073741824 ^ i ≤ v + x := by
        have := Nat.mod_le v (1073741824 ^ i)
        omega
      have hi : i < 520 := by
        apply Nat.lt_of_not_le
        intro hle
        have : 1073741824 ^ 520 ≤ 1073741824 ^ i := Nat.pow_le_pow_right p_pos hle
        omega
      rw [if_neg (by exact fun h => h0 ((uL_cmp0 (by omega)).mp h))]
      by_cases hni : n ≤ i
      · have e1 : uI i = uI (max n i) := by congr 2; omega
        have e2 : uI (max n i) + (1 : Int32) = uI (max n (i + 1)) := by rw [uI_succ]; congr 2; omega
        rw [if_pos e1, if_pos (by exact (uI_vIn (by omega)).mpr hi), uI_clamp (by omega), e2]
        have hz : v / 1073741824 ^ i % 1073741824 = 0 := by rw [dg_hi p_pos hv hni]
        rw [x10_smallB (v := v) (x := x) (i := i) (n := max n (i + 1)) hx hi (by omega) (by omega) (by rw [upd_eq, hz]; rfl)]
        refine ih (i + 1) m _ (by omega) (by omega) (fun j hj => ?_) (fun j hj hj2 => by omega) (fun _ => by rw [Nat.add_sub_cancel]; exact hge)
        by_cases e : j = i
        · subst e; rw [upd_eq]
        · rw [upd_ne _ _ e, upd_ne _ _ e]; exact hL j (by omega)
      · rw [if_neg (fun h => by have := (uI_eq (by omega) (by omega)).mp h; omega)]
        have e2 : max n i = max n (i + 1) := by omega
        rw [e2, x10_smallB (v := v) (x := x) (i := i) (n := max n (i + 1)) hx hi (by omega) (by omega) (hR i (by omega) (by omega))]
        refine ih (i + 1) m _ (by omega) (by omega) (fun j hj => ?_) (fun j hj hj2 => ?_) (fun _ => by rw [Nat.add_sub_cancel]; exact hge)
        · by_cases e : j = i
          · subst e; rw [upd_eq]
          · rw [upd_ne _ _ e]; exact hL j (by omega)
        · rw [upd_ne _ _ (by omega)]; exact hR j (by omega) hj2
theorem x10_small {s : Int32} {D : Nat → Int32} {v x : Nat} (h : R30 s D v) (hx : x < 1073741824) (hW : v + x < 1073741824 ^ 520) : ∃ s' D', f_X10_addSmall (uI x) s D = some (s', D') ∧ R30 s' D' (v + x) := by
  obtain ⟨n, hn, rfl, hv, hlv, hdv⟩ := h
  unfold f_X10_addSmall
  rw [uI_toL (by omega)]
  have := x10_smallL hx hn hv hW hlv 521 0 FU D (by omega) (by rw [hFU]; omega) (fun j hj => by omega) (fun j _ hj => hdv j hj) (fun h => by omega)
  rw [Nat.pow_zero, Nat.mod_one, Nat.div_one, Nat.zero_add, show max n 0 = n by omega] at this
  exact this
/-! less -/
theorem ipP (i : Nat) : (0 : Int) < ((1073741824 ^ i : Nat) : Int) := Int.natCast_pos.mpr (Nat.pow_pos p_pos)
theorem x10_lessL {v w a b : Nat} {D1 : Nat → Int32} (hwv : w ≤ v) (ha : a ≤ 520) (hv : v < 1073741824 ^ a) (hb : b ≤ 520) (hw : w < 1073741824 ^ b) (hd1 : ∀ j, j < b → D1 j = uI (w / 1073741824 ^ j % 1073741824)) :
    ∀ k i fuel D, i + k = a → k < fuel → (∀ j, j < i → D j = uI ((v - w) / 1073741824 ^ j % 1073741824)) → (∀ j, i ≤ j → j < a → D j = uI (v / 1073741824 ^ j % 1073741824)) →
    ∃ D', f_X10_less_L4 (uI b) D1 fuel (iI (-((((v % 1073741824 ^ i : Nat) : Int) - ((w % 1073741824 ^ i : Nat) : Int)) / ((1073741824 ^ i : Nat) : Int)))) (uI i) (uI a) D = f_X10_less_B69 (uI b) D1 (uI a) D' ∧ ∀ j, j < a → D' j = uI ((v - w) / 1073741824 ^ j % 1073741824) := by
  intro k
  induction k with
  | zero =>
    intro i fuel D hk hf hL hR
    obtain ⟨m, rfl, _⟩ := ex_succ hf
    have hi : i = a := by omega
    subst hi
    refine ⟨D, ?_, hL⟩
    rw [f_X10_less_L4, if_pos (by exact (uI_le (by omega) (by omega)).mpr (Nat.le_refl _))]
  | succ k ih =>
    intro i fuel D hk hf hL hR
    obtain ⟨m, rfl, hm⟩ := ex_succ hf
    have hpos := ipP i
    have h1 : v % 1073741824 ^ i < 1073741824 ^ i := Nat.mod_lt _ (Nat.pow_pos p_pos)
    have h2 : w % 1073741824 ^ i < 1073741824 ^ i := Nat.mod_lt _ (Nat.pow_pos p_pos)
    have hc1 : -1 ≤ (((v % 1073741824 ^ i : Nat) : Int) - ((w % 1073741824 ^ i : Nat) : Int)) / ((1073741824 ^ i : Nat) : Int) := by
      rw [Int.le_ediv_iff_mul_le hpos]; omega
    have hc2 : (((v % 1073741824 ^ i : Nat) : Int) - ((w % 1073741824 ^ i : Nat) : Int)) / ((1073741824 ^ i : Nat) : Int) < 1 := by
      rw [Int.ediv_lt_iff_lt_mul hpos]; omega
    have hdv : v / 1073741824 ^ i % 1073741824 < 1073741824 := Nat.mod_lt _ p_pos
    have hdw : w / 1073741824 ^ i % 1073741824 < 1073741824 := Nat.mod_lt _ p_pos
    have hT : ((v % 1073741824 ^ (i + 1) : Nat) : Int) - ((w % 1073741824 ^ (i + 1) : Nat) : Int) = (((v % 1073741824 ^ i : Nat) : Int) - ((w % 1073741824 ^ i : Nat) : Int)) + ((1073741824 ^ i : Nat) : Int) * (((v / 1073741824 ^ i % 1073741824 : Nat) : Int) - ((w / 1073741824 ^ i % 1073741824 : Nat) : Int)) := by
      rw [Nat.mod_pow_succ, Nat.mod_pow_succ, Int.mul_sub, Int.natCast_add, Int.natCast_add, Int.natCast_mul, Int.natCast_mul]; omega
    have hnext : (((v % 1073741824 ^ (i + 1) : Nat) : Int) - ((w % 1073741824 ^ (i + 1) : Nat) : Int)) / ((1073741824 ^ (i + 1) : Nat) : Int) = ((((v % 1073741824 ^ i : Nat) : Int) - ((w % 1073741824 ^ i : Nat) : Int)) / ((1073741824 ^ i : Nat) : Int) + (((v / 1073741824 ^ i % 1073741824 : Nat) : Int) - ((w / 1073741824 ^ i % 1073741824 : Nat) : Int))) / 1073741824 := by
      rw [hT, Nat.pow_succ, Int.natCast_mul, ← Int.ediv_ediv_of_nonneg (Int.le_of_lt hpos), Int.add_mul_ediv_left _ _ (by omega)]
      rfl
    have hdig : ((((v % 1073741824 ^ i : Nat) : Int) - ((w % 1073741824 ^ i : Nat) : Int)) / ((1073741824 ^ i : Nat) : Int) + (((v / 1073741824 ^ i % 1073741824 : Nat) : Int) - ((w / 1073741824 ^ i % 1073741824 : Nat) : Int))) % 1073741824 = (((v - w) / 1073741824 ^ i % 1073741824 : Nat) : Int) := by
      have e1 : ((v - w : Nat) : Int) = (((v % 1073741824 ^ i : Nat) : Int) - ((w % 1073741824 ^ i : Nat) : Int)) + ((1073741824 ^ i : Nat) : Int) * (((v / 1073741824 ^ i : Nat) : Int) - ((w / 1073741824 ^ i : Nat) : Int)) := by
        have g1 := dg_split (B := 1073741824) (v := v) (i := i)
        have g2 := dg_split (B := 1073741824) (v := w) (i := i)
        rw [Int.mul_sub, ← Int.natCast_mul, ← Int.natCast_mul]
        omega
      have e2 : (((v - w) / 1073741824 ^ i : Nat) : Int) = (((v % 1073741824 ^ i : Nat) : Int) - ((w % 1073741824 ^ i : Nat) : Int)) / ((1073741824 ^ i : Nat) : Int) + (((v / 1073741824 ^ i : Nat) : Int) - ((w / 1073741824 ^ i : Nat) : Int)) := by
        rw [Int.natCast_ediv, e1, Int.add_mul_ediv_left _ _ (by omega)]
      have e3 : (((v - w) / 1073741824 ^ i % 1073741824 : Nat) : Int) = (((v - w) / 1073741824 ^ i : Nat) : Int) % 1073741824 := rfl
      rw [e3, e2]
      omega
    generalize hg : (((v % 1073741824 ^ i : Nat) : Int) - ((w % 1073741824 ^ i : Nat) : Int)) / ((1073741824 ^ i : Nat) : Int) = c at *
    have hB38 : f_X10_less_B38 (uI b) D1 (f_X10_less_L4 (uI b) D1 m) (uI i) (iI (((v / 1073741824 ^ i % 1073741824 : Nat) : Int) - -c)) (uI (w / 1073741824 ^ i % 1073741824)) (uI a) D = f_X10_less_L4 (uI b) D1 m (iI (-((((v % 1073741824 ^ (i + 1) : Nat) : Int) - ((w % 1073741824 ^ (i + 1) : Nat) : Int)) / ((1073741824 ^ (i + 1) : Nat) : Int)))) (uI (i + 1)) (uI a) (upd D i (uI ((v - w) / 1073741824 ^ i % 1073741824))) := by
      unfold f_X10_less_B38
      have e1 : ((v / 1073741824 ^ i % 1073741824 : Nat) : Int) - -c - ((w / 1073741824 ^ i % 1073741824 : Nat) : Int) = c + (((v / 1073741824 ^ i % 1073741824 : Nat) : Int) - ((w / 1073741824 ^ i % 1073741824 : Nat) : Int)) := by omega
      rw [iI_sub, e1, hnext]
      generalize hx : c + (((v / 1073741824 ^ i % 1073741824 : Nat) : Int) - ((w / 1073741824 ^ i % 1073741824 : Nat) : Int)) = x at *
      have hin : vIn (uI i) 520 = true := (uI_vIn (by omega)).mpr (by omega)
      by_cases h0 : 0 ≤ x
      · have hq : x / 1073741824 = 0 := by omega
        rw [if_pos (by rw [wI_0, iI_le (by omega) (by omega) (by omega) (by omega)]; exact h0)]
        unfold f_X10_less_B51
        rw [if_pos hin, uI_clamp (by omega), mask30I, hdig, uI_succ, hq]; rfl
      · have hq : x / 1073741824 = -1 := by omega
        rw [if_neg (by rw [wI_0, iI_le (by omega) (by omega) (by omega) (by omega)]; exact h0)]
        unfold f_X10_less_B51
        rw [if_pos hin, uI_clamp (by omega), mask30I, hdig, uI_succ, hq]; rfl
    rw [f_X10_less_L4, if_neg (fun h => by have := (uI_le (by omega) (by omega)).mp h; omega), if_pos (by exact (uI_vIn (by omega)).mpr (by omega)), uI_clamp (by omega), hR i (by omega) (by omega), iI_sub]
    have hgo : (if uI b ≤ uI i then f_X10_less_B38 (uI b) D1 (f_X10_less_L4 (uI b) D1 m) (uI i) (iI (((v / 1073741824 ^ i % 1073741824 : Nat) : Int) - -c)) (0 : Int32) (uI a) D else f_X10_less_B38 (uI b) D1 (f_X10_less_L4 (uI b) D1 m) (uI i) (iI (((v / 1073741824 ^ i % 1073741824 : Nat) : Int) - -c)) (D1 i) (uI a) D) = f_X10_less_L4 (uI b) D1 m (iI (-((((v % 1073741824 ^ (i + 1) : Nat) : Int) - ((w % 1073741824 ^ (i + 1) : Nat) : Int)) / ((1073741824 ^ (i + 1) : Nat) : Int)))) (uI (i + 1)) (uI a) (upd D i (uI ((v - w) / 1073741824 ^ i % 1073741824))) := by
      by_cases hc : b ≤ i
      · have e0 : w / 1073741824 ^ i % 1073741824 = 0 := by rw [dg_hi p_pos hw hc]
        rw [e0] at hB38
        rw [if_pos (by exact (uI_le (by omega) (by omega)).mpr hc)]
        exact hB38
      · rw [if_neg (by exact fun h => hc ((uI_le (by omega) (by omega)).mp h)), hd1 i (by omega)]
        exact hB38
    rw [hgo]
    refine ih (i + 1) m _ (by omega) (by omega) (fun j hj => ?_) (fun j hj hj2 => ?_)
    · by_cases e : j = i
      · subst e; rw [upd_eq]
      · rw [upd_ne _ _ e]; exact hL j (by omega)
    · rw [upd_ne _ _ (by omega)]; exact hR j (by omega) hj2
theorem x10_less {s0 s1 : Int32} {D0 D1 : Nat → Int32} {v w : Nat} (h0 : R30 s0 D0 v) (h1 : R30 s1 D1 w) (hwv : w ≤ v) : ∃ s D', f_X10_less s1 D1 s0 D0 = some (s, D') ∧ R30 s D' (v - w) := by
  obtain ⟨a, ha, rfl, hv, hlv, hdv⟩ := h0
  obtain ⟨b, hb, rfl, hw, hlw, hdw⟩ := h1
  unfold f_X10_less
  obtain ⟨D', h1, h2⟩ := x10_lessL hwv ha hv hb hw hdw a 0 FU D0 (by omega) (by rw [hFU]; omega) (fun j hj => by omega) (fun j _ hj => hdv j hj)
  have e : -((((v % 1073741824 ^ 0 : Nat) : Int) - ((w % 1073741824 ^ 0 : Nat) : Int)) / ((1073741824 ^ 0 : Nat) : Int)) = 0 := by rw [Nat.pow_zero, Nat.mod_one, Nat.mod_one]; rfl
  rw [e] at h1
  have h1' : f_X10_less_L4 (uI b) D1 FU (0 : Int32) (0 : Int32) (uI a) D0 = f_X10_less_B69 (uI b) D1 (uI a) D' := h1
  rw [h1']
  unfold f_X10_less_B69
  obtain ⟨s, h3, h4⟩ := x10_trim (uI a) ha (show v - w < 1073741824 ^ a by omega) h2
  rw [h3]
  exact ⟨s, D', rfl, h4⟩
/-! times a factor -/
theorem scP_carry {v f x i : Nat} (hf : f < 1073741824) (hx : x < 1073741824) : (v % 1073741824 ^ i * f + x) / 1073741824 ^ i < 1073741824 := by
  apply Nat.div_lt_of_lt_mul
  have h1 : v % 1073741824 ^ i < 1073741824 ^ i := Nat.mod_lt _ (Nat.pow_pos p_pos)
  have h2 : v % 1073741824 ^ i * f ≤ (1073741824 ^ i - 1) * (1073741824 - 1) := Nat.mul_le_mul (by omega) (by omega)
  have h4 : 0 < 1073741824 ^ i := Nat.pow_pos p_pos
  have h3 : (1073741824 ^ i - 1) * (1073741824 - 1) + 1073741824 ^ i + (1073741824 - 1) = 1073741824 ^ i * 1073741824 := by
    obtain ⟨g, hg⟩ : ∃ g, 1073741824 ^ i = g + 1 := ⟨1073741824 ^ i - 1, by omega⟩
    rw [hg]; omega
  omega
theorem x10_timesL {v f x n : Nat} (hf : f < 1073741824) (hx : x < 1073741824) (hn : n ≤ 520) (hv : v < 1073741824 ^ n) :
    ∀ k i fuel D, i + k = n → k < fuel → (∀ j, j < i → D j = uI ((v * f + x) / 1073741824 ^ j % 1073741824)) → (∀ j, i ≤ j → j < n → D j = uI (v / 1073741824 ^ j % 1073741824)) →
    ∃ D', f_X10_times_L7 fuel (uL f) (uL ((v % 1073741824 ^ i * f + x) / 1073741824 ^ i)) (uI i) (uI n) D = f_X10_times_L58 FU (uL ((v * f + x) / 1073741824 ^ n)) (uI n) D' ∧ ∀ j, j < n → D' j = uI ((v * f + x) / 1073741824 ^ j % 1073741824) := by
  intro k
  induction k with
  | zero =>
    intro i fuel D hk hfu hL hR
    obtain ⟨m, rfl, _⟩ := ex_succ hfu
    have hi : i = n := by omega
    subst hi
    refine ⟨D, ?_, hL⟩
    rw [f_X10_times_L7, if_pos (by exact (uI_le (by omega) (by omega)).mpr (Nat.le_refl _)), Nat.mod_eq_of_lt hv]
  | succ k ih =>
    intro i fuel D hk hfu hL hR
    obtain ⟨m, rfl, hm⟩ := ex_succ hfu
    have hc := scP_carry (v := v) (i := i) hf hx
    have hd : v / 1073741824 ^ i % 1073741824 < 1073741824 := Nat.mod_lt _ p_pos
    have hdf : v / 1073741824 ^ i % 1073741824 * f ≤ (1073741824 - 1) * (1073741824 - 1) := Nat.mul_le_mul (by omega) (by omega)
    have hT : v % 1073741824 ^ (i + 1) * f + x = (v % 1073741824 ^ i * f + x) + 1073741824 ^ i * (v / 1073741824 ^ i % 1073741824 * f) := by
      rw [Nat.mod_pow_succ, Nat.add_mul, Nat.mul_assoc]; omega
    rw [f_X10_times_L7, if_neg (fun h => by have := (uI_le (by omega) (by omega)).mp h; omega), if_pos (by exact (uI_vIn (by omega)).mpr (by omega)), uI_clamp (by omega), hR i (by omega) (by omega), uI_toL (by omega), uL_mul, uL_add, show (30 : Int32) = uI 30 from rfl, uL_lsr (by omega) (by decide), uL_mask30, uL_toI, uI_succ]
    have g1 : ((v % 1073741824 ^ i * f + x) / 1073741824 ^ i + v / 1073741824 ^ i % 1073741824 * f) / 2 ^ 30 = (v % 1073741824 ^ (i + 1) * f + x) / 1073741824 ^ (i + 1) := by
      rw [hT, cy_div p_pos]
    have g2 : ((v % 1073741824 ^ i * f + x) / 1073741824 ^ i + v / 1073741824 ^ i % 1073741824 * f) % 1073741824 = (v * f + x) / 1073741824 ^ i % 1073741824 := by
      rw [← cy_mod p_pos, ← hT]
      refine (dg_eq (K := v / 1073741824 ^ (i + 1) * f) p_pos ?_).symm
      have := dg_split (B := 1073741824) (v := v) (i := i + 1)
      have h2 : v * f = v % 1073741824 ^ (i + 1) * f + 1073741824 ^ (i + 1) * (v / 1073741824 ^ (i + 1) * f) := by
        rw [← Nat.mul_assoc, ← Nat.add_mul, ← this]
      omega
    rw [g1, g2]
    refine ih (i + 1) m _ (by omega) (by omega) (fun j hj => ?_) (fun j hj hj2 => ?_)
    · by_cases e : j = i
      · subst e; rw [upd_eq]
      · rw [upd_ne _ _ e]; exact hL j (by omega)
    · rw [upd_ne _ _ (by omega)]; exact hR j (by omega) hj2
theorem x10_times {sz : Int32} {D : Nat → Int32} {v f x : Nat} (h : R30 sz D v) (hf : f < 1073741824) (hx : x < 1073741824) (hW : v * f + x < 1073741824 ^ 520) : ∃ s D', f_X10_times (uL f) (uI x) sz D = some (s, D') ∧ R30 s D' (v * f + x) := by
  obtain ⟨n, hn, rfl, hv, hw, hd⟩ := h
  unfold f_X10_times
  rw [uI_toL (by omega)]
  obtain ⟨D', h1, h2⟩ := x10_timesL hf hx hn hv n 0 FU D (by omega) (by rw [hFU]; omega) (fun j hj => by omega) (fun j _ hj => hd j hj)
  have e : (v % 1073741824 ^ 0 * f + x) / 1073741824 ^ 0 = x := by rw [Nat.pow_zero, Nat.mod_one]; omega
  rw [e] at h1
  have h1' : f_X10_times_L7 FU (uL f) (uL x) (0 : Int32) (uI n) D = f_X10_times_L58 FU (uL ((v * f + x) / 1073741824 ^ n)) (uI n) D' := h1
  rw [h1']
  have hcn := scP_carry (v := v) (i := n) hf hx
  rw [Nat.mod_eq_of_lt hv] at hcn
  have hWn : v * f + x < 1073741824 ^ (n + 1) := by
    have h9 := (Nat.div_lt_iff_lt_mul (Nat.pow_pos p_pos)).mp hcn
    rw [Nat.pow_succ]; omega
  rw [show FU = 99999 + 1 from rfl, f_X10_times_L58]
  by_cases h0 : (v * f + x) / 1073741824 ^ n = 0
  · rw [if_pos (by exact (uL_cmp0 (by omega)).mpr h0)]
    unfold f_X10_times_B101
    obtain ⟨s, h3, h4⟩ := x10_trim (uI n) hn ((Nat.div_eq_zero_iff_lt (Nat.pow_pos p_pos)).mp h0) h2
    rw [h3]
    exact ⟨s, D', rfl, h4⟩
  · have hge : 1073741824 ^ n ≤ v * f + x := by
      apply Nat.le_of_not_lt
      intro h
      exact h0 (Nat.div_eq_of_lt h)
    have hn2 : n < 520 := by
      apply Nat.lt_of_not_le
      intro h
      have : 1073741824 ^ 520 ≤ 1073741824 ^ n := Nat.pow_le_pow_right p_pos h
      omega
    rw [if_neg (by exact fun h => h0 ((uL_cmp0 (by omega)).mp h)), if_pos (by exact (uI_vIn (by omega)).mpr hn2), uI_clamp (by omega), show (30 : Int32) = uI 30 from rfl, uL_lsr (by omega) (by decide), uL_mask30, uL_toI, uI_succ, show (99999 : Nat) = 99998 + 1 from rfl, f_X10_times_L58]
    have e0 : (v * f + x) / 1073741824 ^ n / 2 ^ 30 = 0 := Nat.div_eq_of_lt hcn
    rw [e0, if_pos (by exact (uL_cmp0 (by omega)).mpr rfl)]
    unfold f_X10_times_B101
    obtain ⟨s, h3, h4⟩ := x10_trim (D := upd D' n (uI ((v * f + x) / 1073741824 ^ n % 1073741824))) (uI (n + 1)) (show n + 1 ≤ 520 by omega) hWn (fun j hj => by
      by_cases e : j = n
      · subst e; rw [upd_eq]
      · rw [upd_ne _ _ e]; exact h2 j (by omega))
    rw [h3]
    exact ⟨s, _, rfl, h4⟩
