/-! Natural: 32 bits a limb -/
def R32 (sz : Int32) (L : Nat → Int64) (v : Nat) : Prop :=
  ∃ n : Nat, n ≤ 160 ∧ sz = uI n ∧ v < 4294967296 ^ n ∧ (∀ j, j < n → 4294967296 ^ j ≤ v) ∧ ∀ j, j < n → L j = uL (v / 4294967296 ^ j % 4294967296)
theorem q_pos : 0 < 4294967296 := by decide
theorem x4_limb' {n j d : Nat} {L : Nat → Int64} (hn : n ≤ 160) (hj : j < 2147483648) (h1 : j < n → L j = uL d) (h2 : n ≤ j → d = 0) : f_X4_limb (uI n) L (uI j) = some (uL d) := by
  unfold f_X4_limb
  rw [if_neg (uI_nneg hj)]
  by_cases hc : n ≤ j
  · rw [if_pos (by exact (uI_le (by omega) (by omega)).mpr hc), h2 hc]; rfl
  · rw [if_neg (by exact fun h => hc ((uI_le (by omega) (by omega)).mp h)), if_pos (by exact (uI_vIn hj).mpr (by omega)), uI_clamp hj, h1 (by omega)]
theorem x4_limbneg (sz : Int32) (L : Nat → Int64) {a : Int} (h1 : -2147483648 ≤ a) (h2 : a < 0) : f_X4_limb sz L (iI a) = some (uL 0) := by
  unfold f_X4_limb
  rw [if_pos (by rw [wI_0, iI_lt h1 (by omega) (by omega) (by omega)]; exact h2)]; rfl
theorem x4_limb {sz : Int32} {L : Nat → Int64} {v i : Nat} (h : R32 sz L v) (hi : i < 2147483648) : f_X4_limb sz L (uI i) = some (uL (v / 4294967296 ^ i % 4294967296)) := by
  obtain ⟨n, hn, rfl, hv, _, hd⟩ := h
  refine x4_limb' hn hi (fun h => hd i h) (fun h => ?_)
  rw [dg_hi q_pos hv h]
theorem x4_trimL {L : Nat → Int64} {v : Nat} : ∀ n fuel : Nat, n < fuel → n ≤ 160 → v < 4294967296 ^ n → (∀ j, j < n → L j = uL (v / 4294967296 ^ j % 4294967296)) → ∃ s, f_X4_trim_L0 L fuel (uI n) = some s ∧ R32 s L v := by
  intro n
  induction n with
  | zero =>
    intro fuel hf hn hv hd
    obtain ⟨m, rfl, _⟩ := ex_succ hf
    refine ⟨uI 0, ?_, 0, by omega, rfl, hv, fun j hj => by omega, fun j hj => by omega⟩
    rw [f_X4_trim_L0]
    rw [if_pos (by exact (uI_le0 (by omega)).mpr rfl)]
  | succ n ih =>
    intro fuel hf hn hv hd
    obtain ⟨m, rfl, hm⟩ := ex_succ hf
    rw [f_X4_trim_L0]
    have hq : v / 4294967296 ^ n < 4294967296 := Nat.div_lt_of_lt_mul (by rwa [← Nat.pow_succ])
    rw [if_neg (fun h => by have := (uI_le0 (by omega)).mp h; omega), uI_pred, if_pos (by exact (uI_vIn (by omega)).mpr (by omega)), uI_clamp (by omega), hd n (by omega), dg_top hv]
    by_cases hz : v / 4294967296 ^ n = 0
    · rw [if_pos (by exact (uL_cmp0 (by omega)).mpr hz)]
      refine ih m (by omega) (by omega) ?_ (fun j hj => hd j (by omega))
      exact (Nat.div_eq_zero_iff_lt (Nat.pow_pos q_pos)).mp hz
    · rw [if_neg (by exact fun h => hz ((uL_cmp0 (by omega)).mp h))]
      refine ⟨_, rfl, n + 1, hn, rfl, hv, fun j hj => ?_, hd⟩
      have h1 : 4294967296 ^ j ≤ 4294967296 ^ n := Nat.pow_le_pow_right q_pos (by omega)
      have h2 : 4294967296 ^ n ≤ v := by
        apply Nat.le_of_not_lt
        intro h
        exact hz (Nat.div_eq_of_lt h)
      omega
theorem x4_trim {L : Nat → Int64} {v n : Nat} (hn : n ≤ 160) (hv : v < 4294967296 ^ n) (hd : ∀ j, j < n → L j = uL (v / 4294967296 ^ j % 4294967296)) : ∃ s, f_X4_trim L (uI n) = some s ∧ R32 s L v :=
  x4_trimL n FU (by rw [hFU]; omega) hn hv hd
theorem x4_take (sz : Int32) (L : Nat → Int64) {u : Nat} (hu : u < 18446744073709551616) : ∃ s L', f_X4_take (uL u) sz L = some (s, L') ∧ R32 s L' u := by
  unfold f_X4_take
  rw [uL_mask32, uL_shr32 hu]
  have h2 : u < 4294967296 ^ 2 := by omega
  obtain ⟨s, hs, hr⟩ := x4_trim (L := vp_updL (vp_updL L 0 (uL (u % 4294967296))) 1 (uL (u / 4294967296))) (n := 2) (by omega) h2 (by
    intro j hj
    have : j = 0 ∨ j = 1 := by omega
    rcases this with rfl | rfl
    · rw [updL_ne _ _ (by decide), updL_eq, Nat.pow_zero, Nat.div_one]
    · rw [updL_eq, Nat.pow_one]; congr 2; omega)
  refine ⟨s, _, ?_, hr⟩
  rw [show (2 : Int32) = uI 2 from rfl, hs]
  rfl
theorem x4_copyL {L1 : Nat → Int64} {s0 : Int32} {n : Nat} (hn : n ≤ 160) : ∀ k i fuel L, i + k = n → k < fuel → (∀ j, j < i → L j = L1 j) → ∃ L', f_X4_copy_L2 (uI n) L1 fuel (uI i) s0 L = some (uI n, L') ∧ ∀ j, j < n → L' j = L1 j := by
  intro k
  induction k with
  | zero =>
    intro i fuel L hk hf hL
    obtain ⟨m, rfl, _⟩ := ex_succ hf
    refine ⟨L, ?_, fun j hj => hL j (by omega)⟩
    rw [f_X4_copy_L2, if_pos (by exact (uI_le (by omega) (by omega)).mpr (by omega))]
  | succ k ih =>
    intro i fuel L hk hf hL
    obtain ⟨m, rfl, hm⟩ := ex_succ hf
    rw [f_X4_copy_L2, if_neg (fun h => by have := (uI_le (by omega) (by omega)).mp h; omega), if_pos (by exact (uI_vIn (by omega)).mpr (by omega)), uI_clamp (by omega), uI_succ]
    refine ih (i + 1) m _ (by omega) (by omega) (fun j hj => ?_)
    by_cases e : j = i
    · subst e; rw [updL_eq]
    · rw [updL_ne _ _ e]; exact hL j (by omega)
theorem x4_copy {s1 : Int32} {L1 : Nat → Int64} {v : Nat} (h : R32 s1 L1 v) (s0 : Int32) (L0 : Nat → Int64) : ∃ s L', f_X4_copy s1 L1 s0 L0 = some (s, L') ∧ R32 s L' v := by
  obtain ⟨n, hn, rfl, hv, hw, hd⟩ := h
  unfold f_X4_copy
  obtain ⟨L', h1, h2⟩ := x4_copyL (L1 := L1) (s0 := s0) hn n 0 FU L0 (by omega) (by rw [hFU]; omega) (fun j hj => by omega)
  exact ⟨_, L', h1, n, hn, rfl, hv, hw, fun j hj => by rw [h2 j hj, hd j hj]⟩
theorem x4_isN {s : Int32} {L : Nat → Int64} {v : Nat} (h : R32 s L v) : f_X4_isNought s = some (if v = 0 then 1 else 0) := by
  obtain ⟨n, hn, rfl, hv, hw, hd⟩ := h
  unfold f_X4_isNought
  by_cases h0 : n = 0
  · subst h0
    rw [Nat.pow_zero] at hv
    rw [if_pos (by exact (uI_eq0 (by omega)).mpr rfl), if_pos (by omega)]
  · have h1 := hw (n - 1) (by omega)
    have h2 : 0 < 4294967296 ^ (n - 1) := Nat.pow_pos q_pos
    rw [if_neg (by exact fun h => h0 ((uI_eq0 (by omega)).mp h)), if_neg (by omega)]
/-! times a factor -/
theorem sc_carry {v f x i : Nat} (hf : f < 4294967296) (hx : x < 4294967296) : (v % 4294967296 ^ i * f + x) / 4294967296 ^ i < 4294967296 := by
  apply Nat.div_lt_of_lt_mul
  have h1 : v % 4294967296 ^ i < 4294967296 ^ i := Nat.mod_lt _ (Nat.pow_pos q_pos)
  have h2 : v % 4294967296 ^ i * f ≤ (4294967296 ^ i - 1) * (4294967296 - 1) := Nat.mul_le_mul (by omega) (by omega)
  have h3 : (4294967296 ^ i - 1) * (4294967296 - 1) + 4294967296 ^ i + (4294967296 - 1) = 4294967296 ^ i * 4294967296 := by
    have e : 4294967296 ^ i = (4294967296 ^ i - 1) + 1 := by omega
    generalize hg : 4294967296 ^ i - 1 = g at *
    rw [e]; omega
  have h4 : 0 < 4294967296 ^ i := Nat.pow_pos q_pos
  omega
theorem x4_scaleL {v f x n : Nat} (hf : f < 4294967296) (hx : x < 4294967296) (hn : n ≤ 160) (hv : v < 4294967296 ^ n) :
    ∀ k i fuel L, i + k = n → k < fuel → (∀ j, j < i → L j = uL ((v * f + x) / 4294967296 ^ j % 4294967296)) → (∀ j, i ≤ j → j < n → L j = uL (v / 4294967296 ^ j % 4294967296)) →
    ∃ L', f_X4_scale_L17 fuel (uL f) (uL ((v % 4294967296 ^ i * f + x) / 4294967296 ^ i)) (uI i) (uI n) L = f_X4_scale_B66 (uL ((v * f + x) / 4294967296 ^ n)) (uI n) L' ∧ ∀ j, j < n → L' j = uL ((v * f + x) / 4294967296 ^ j % 4294967296) := by
  intro k
  induction k with
  | zero =>
    intro i fuel L hk hfu hL hR
    obtain ⟨m, rfl, _⟩ := ex_succ hfu
    have hi : i = n := by omega
    subst hi
    refine ⟨L, ?_, hL⟩
    rw [f_X4_scale_L17, if_pos (by exact (uI_le (by omega) (by omega)).mpr (Nat.le_refl _)), Nat.mod_eq_of_lt hv]
  | succ k ih =>
    intro i fuel L hk hfu hL hR
    obtain ⟨m, rfl, hm⟩ := ex_succ hfu
    have hc := sc_carry (v := v) (i := i) hf hx
    have hd : v / 4294967296 ^ i % 4294967296 < 4294967296 := Nat.mod_lt _ q_pos
    have hdf : v / 4294967296 ^ i % 4294967296 * f ≤ (4294967296 - 1) * (4294967296 - 1) := Nat.mul_le_mul (by omega) (by omega)
    have hT : v % 4294967296 ^ (i + 1) * f + x = (v % 4294967296 ^ i * f + x) + 4294967296 ^ i * (v / 4294967296 ^ i % 4294967296 * f) := by
      rw [Nat.mod_pow_succ, Nat.add_mul, Nat.mul_assoc]; omega
    rw [f_X4_scale_L17, if_neg (fun h => by have := (uI_le (by omega) (by omega)).mp h; omega), if_pos (by exact (uI_vIn (by omega)).mpr (by omega)), uI_clamp (by omega), hR i (by omega) (by omega), uL_mul, uL_add, uL_shr32 (by omega), uL_mask32, uI_succ, ← cy_div q_pos, ← cy_mod q_pos, ← hT]
    refine ih (i + 1) m _ (by omega) (by omega) (fun j hj => ?_) (fun j hj hj2 => ?_)
    · by_cases e : j = i
      · subst e
        rw [updL_eq]
        apply congrArg uL
        refine (dg_eq (K := v / 4294967296 ^ (j + 1) * f) q_pos ?_).symm
        have := dg_split (B := 4294967296) (v := v) (i := j + 1)
        have h2 : v * f = v % 4294967296 ^ (j + 1) * f + 4294967296 ^ (j + 1) * (v / 4294967296 ^ (j + 1) * f) := by
          rw [← Nat.mul_assoc, ← Nat.add_mul, ← this]
        omega
      · rw [updL_ne _ _ e]; exact hL j (by omega)
    · rw [updL_ne _ _ (by omega)]; exact hR j (by omega) hj2
theorem x4_scaleB {W n : Nat} {L : Nat → Int64} (hn : n ≤ 160) (hW : W < 4294967296 ^ (n + 1)) (hW2 : W < 4294967296 ^ 160) (hlow : ∀ j, j < n → 4294967296 ^ j ≤ W) (hd : ∀ j, j < n → L j = uL (W / 4294967296 ^ j % 4294967296)) :
    ∃ s L', f_X4_scale_B66 (uL (W / 4294967296 ^ n)) (uI n) L = some (s, L') ∧ R32 s L' W := by
  unfold f_X4_scale_B66
  have hq : W / 4294967296 ^ n < 4294967296 := Nat.div_lt_of_lt_mul (by rw [← Nat.pow_succ]; exact hW)
  by_cases hz : W / 4294967296 ^ n = 0
  · rw [if_pos (by exact (uL_cmp0 (by omega)).mpr hz)]
    exact ⟨_, _, rfl, n, hn, rfl, (Nat.div_eq_zero_iff_lt (Nat.pow_pos q_pos)).mp hz, hlow, hd⟩
  · have hge : 4294967296 ^ n ≤ W := by
      apply Nat.le_of_not_lt
      intro h
      exact hz (Nat.div_eq_of_lt h)
    have hn2 : n < 160 := by
      apply Nat.lt_of_not_le
      intro h
      have : 4294967296 ^ 160 ≤ 4294967296 ^ n := Nat.pow_le_pow_right q_pos h
      omega
    rw [if_neg (by exact fun h => hz ((uL_cmp0 (by omega)).mp h)), if_neg (fun h => by have := (uI_le (a := 160) (by omega) (by omega)).mp h; omega), if_pos (by exact (uI_vIn (by omega)).mpr hn2), uI_clamp (by omega), uI_succ]
    refine ⟨_, _, rfl, n + 1, by omega, rfl, hW, fun j hj => ?_, fun j hj => ?_⟩
    · have : 4294967296 ^ j ≤ 4294967296 ^ n := Nat.pow_le_pow_right q_pos (by omega)
      omega
    · by_cases e : j = n
      · subst e; rw [updL_eq, dg_top hW]
      · rw [updL_ne _ _ e]; exact hd j (by omega)
theorem x4_scale {sz : Int32} {L : Nat → Int64} {v f x : Nat} (h : R32 sz L v) (hf : f < 4294967296) (hx : x < 4294967296) (hW : v * f + x < 4294967296 ^ 160) : ∃ s L', f_X4_scale (uL f) (uL x) sz L = some (s, L') ∧ R32 s L' (v * f + x) := by
  obtain ⟨n, hn, rfl, hv, hw, hd⟩ := h
  unfold f_X4_scale
  by_cases h0 : f = 0
  · subst h0
    rw [if_pos (by exact (uL_cmp0 (by omega)).mpr rfl)]
    obtain ⟨L', h1, h2⟩ := x4_scaleL (v := 0) (f := 0) (n := 0) q_pos hx (by omega) (by decide) 0 0 FU L (by omega) (by rw [hFU]; omega) (fun j hj => by omega) (fun j _ hj => by omega)
    have e : (0 % 4294967296 ^ 0 * 0 + x) / 4294967296 ^ 0 = x := by rw [Nat.pow_zero]; omega
    rw [e] at h1
    have h1' : f_X4_scale_L17 FU (uL 0) (uL x) (0 : Int32) (0 : Int32) L = f_X4_scale_B66 (uL x) (uI 0) L' := h1
    rw [h1', Nat.mul_zero, Nat.zero_add]
    rw [Nat.mul_zero, Nat.zero_add] at hW
    have hx1 : x < 4294967296 ^ (0 + 1) := by omega
    have hB := x4_scaleB (W := x) (n := 0) (L := L') (by omega) hx1 hW (fun j hj => by omega) (fun j hj => by omega)
    rw [Nat.pow_zero, Nat.div_one] at hB
    exact hB
  · rw [if_neg (by exact fun h => h0 ((uL_cmp0 (by omega)).mp h))]
    obtain ⟨L', h1, h2⟩ := x4_scaleL hf hx hn hv n 0 FU L (by omega) (by rw [hFU]; omega) (fun j hj => by omega) (fun j _ hj => hd j hj)
    have e : (v % 4294967296 ^ 0 * f + x) / 4294967296 ^ 0 = x := by rw [Nat.pow_zero, Nat.mod_one]; omega
    rw [e] at h1
    have h1' : f_X4_scale_L17 FU (uL f) (uL x) (0 : Int32) (uI n) L = f_X4_scale_B66 (uL ((v * f + x) / 4294967296 ^ n)) (uI n) L' := h1
    rw [h1']
    have hvf : v ≤ v * f := Nat.le_mul_of_pos_right v (by omega)
    refine x4_scaleB hn ?_ hW (fun j hj => by have := hw j hj; omega) h2
    rw [Nat.pow_succ]
    have h3 : v * f ≤ (4294967296 ^ n - 1) * (4294967296 - 1) := Nat.mul_le_mul (by omega) (by omega)
    have h4 : 0 < 4294967296 ^ n := Nat.pow_pos q_pos
    have h5 : (4294967296 ^ n - 1) * (4294967296 - 1) + 4294967296 ^ n + (4294967296 - 1) = 4294967296 ^ n * 4294967296 := by
      have e : 4294967296 ^ n = (4294967296 ^ n - 1) + 1 := by omega
      generalize hg : 4294967296 ^ n - 1 = g at *
      rw [e]; omega
    omega
theorem x4_fivesA {sz : Int32} {L : Nat → Int64} {v : Nat} (h : R32 sz L v) : ∀ k fuel l, k < 13 → k < fuel → l * 5 ^ k < 4294967296 → v * (l * 5 ^ k) < 4294967296 ^ 160 → ∃ s L', f_X4_scaleByFives_L24 fuel (uI k) (uL l) sz L = some (s, L') ∧ R32 s L' (v * (l * 5 ^ k)) := by
  intro k
  induction k with
  | zero =>
    intro fuel l _ hf hl hW
    obtain ⟨m, rfl, _⟩ := ex_succ hf
    rw [Nat.pow_zero, Nat.mul_one] at hl hW ⊢
    rw [f_X4_scaleByFives_L24, if_pos (by exact (uI_le0 (by omega)).mpr rfl)]
    unfold f_X4_scaleByFives_B40
    obtain ⟨s, L', h1, h2⟩ := x4_scale h hl q_pos (by omega)
    refine ⟨s, L', ?_, h2⟩
    have h1' : f_X4_scale (uL l) (0 : Int64) sz L = some (s, L') := h1
    rw [h1']; rfl
  | succ k ih =>
    intro fuel l hk hf hl hW
    obtain ⟨m, rfl, hm⟩ := ex_succ hf
    have e : l * 5 ^ (k + 1) = l * 5 * 5 ^ k := by rw [Nat.pow_succ, Nat.mul_comm (5 ^ k), Nat.mul_assoc]
    rw [e] at hl hW ⊢
    rw [f_X4_scaleByFives_L24, if_neg (fun h => by have := (uI_le0 (by omega)).mp h; omega), uI_predm, show uL l * (5 : Int64) = uL (l * 5) from uL_mul l 5]
    exact ih m (l * 5) (by omega) (by omega) hl hW
theorem x4_fivesB : ∀ n fuel sz L v, R32 sz L v → n < fuel → n < 2147483648 → v * 5 ^ n < 4294967296 ^ 160 → ∃ s L', f_X4_scaleByFives_L2 fuel (uI n) sz L = some (s, L') ∧ R32 s L' (v * 5 ^ n) := by
  intro n
  induction n using Nat.strongRecOn with
  | ind n ih =>
    intro fuel sz L v h hf hn hW
    obtain ⟨m, rfl, hm⟩ := ex_succ hf
    rw [f_X4_scaleByFives_L2]
    by_cases hc : n < 13
    · rw [if_pos (by exact (uI_lt (b := 13) (by omega) (by omega)).mpr hc)]
      have h1 : 5 ^ n ≤ 5 ^ 12 := Nat.pow_le_pow_right (by decide) (by omega)
      have h12 : (5 : Nat) ^ 12 = 244140625 := by decide
      have e : 1 * 5 ^ n = 5 ^ n := Nat.one_mul _
      have := x4_fivesA h n FU 1 hc (by rw [hFU]; omega) (by rw [e]; omega) (by rw [e]; exact hW)
      rw [e] at this
      exact this
    · rw [if_neg (by exact fun h => hc ((uI_lt (b := 13) (by omega) (by omega)).mp h))]
      have e : 5 ^ n = 1220703125 * 5 ^ (n - 13) := by
        rw [show (1220703125 : Nat) = 5 ^ 13 by decide, ← Nat.pow_add]; congr 1; omega
      have hp : 0 < 5 ^ (n - 13) := Nat.pow_pos (by decide)
      have e2 : v * 5 ^ n = (v * 1220703125 + 0) * 5 ^ (n - 13) := by rw [e, Nat.add_zero, Nat.mul_assoc]
      have hle : v * 1220703125 + 0 ≤ (v * 1220703125 + 0) * 5 ^ (n - 13) := Nat.le_mul_of_pos_right _ hp
      obtain ⟨s, L', h1, h2⟩ := x4_scale h (f := 1220703125) (x := 0) (by decide) q_pos (by omega)
      have h1' : f_X4_scale (1220703125 : Int64) (0 : Int64) sz L = some (s, L') := h1
      rw [h1', Option.bind_some]
      have e3 : uI n + (-13 : Int32) = uI (n - 13) := by rw [wI_m13, iI_add]; congr 1; omega
      rw [e3, e2]
      exact ih (n - 13) (by omega) m s L' _ h2 (by omega) (by omega) (by rw [← e2]; exact hW)
theorem x4_fives {sz : Int32} {L : Nat → Int64} {v n : Nat} (h : R32 sz L v) (hn : n < 100000) (hW : v * 5 ^ n < 4294967296 ^ 160) : ∃ s L', f_X4_scaleByFives (uI n) sz L = some (s, L') ∧ R32 s L' (v * 5 ^ n) :=
  x4_fivesB n FU sz L v h (by rw [hFU]; omega) (by omega) hW
/-! shift -/
theorem q_two (p : Nat) (hp : p ≤ 32) : 4294967296 = 2 ^ p * 2 ^ (32 - p) := by
  rw [← Nat.pow_add, show p + (32 - p) = 32 by omega]
theorem sh_dig {v p i : Nat} (hp : p ≤ 32) : v * 2 ^ p / 4294967296 ^ (i + 1) % 4294967296 = v / 4294967296 ^ (i + 1) % 4294967296 % 2 ^ (32 - p) * 2 ^ p + v / 4294967296 ^ i % 4294967296 / 2 ^ (32 - p) := sh_digG (q_two p hp)
theorem sh_dig0 {v p : Nat} (hp : p ≤ 32) : v * 2 ^ p / 4294967296 ^ 0 % 4294967296 = v / 4294967296 ^ 0 % 4294967296 % 2 ^ (32 - p) * 2 ^ p := sh_digG0 (q_two p hp)
theorem sh_word {v p w i : Nat} : v * 2 ^ (32 * w + p) / 4294967296 ^ (i + w) = v * 2 ^ p / 4294967296 ^ i := by
  have e : 2 ^ (32 * w) = 4294967296 ^ w := by rw [Nat.pow_mul]
  rw [Nat.pow_add, e, Nat.pow_add 4294967296, Nat.mul_comm (4294967296 ^ w), ← Nat.mul_assoc, Nat.mul_div_mul_right _ _ (Nat.pow_pos q_pos)]
theorem sh_zero {v p w j : Nat} (h : j < w) : v * 2 ^ (32 * w + p) / 4294967296 ^ j % 4294967296 = 0 := by
  have e : 2 ^ (32 * w) = 4294967296 ^ w := by rw [Nat.pow_mul]
  have e2 : 4294967296 ^ w = 4294967296 ^ j * (4294967296 * 4294967296 ^ (w - j - 1)) := by rw [← Nat.pow_succ', ← Nat.pow_add]; congr 1; omega
  rw [Nat.pow_add, e, e2, show v * (4294967296 ^ j * (4294967296 * 4294967296 ^ (w - j - 1)) * 2 ^ p) = 4294967296 ^ j * (4294967296 * (v * 4294967296 ^ (w - j - 1) * 2 ^ p)) by simp only [Nat.mul_comm, Nat.mul_left_comm, Nat.mul_assoc], Nat.mul_div_cancel_left _ (Nat.pow_pos q_pos), Nat.mul_mod_right]
/-- the two pieces of a limb -/
theorem sh_or {d d' p : Nat} (hp : p < 32) (hd' : d' < 4294967296) : (lsh (uL d) (uI p) &&& (4294967295 : Int64)) ||| lus (uL d') ((32 : Int32) - uI p) = uL (d % 2 ^ (32 - p) * 2 ^ p + d' / 2 ^ (32 - p)) := by
  have hq := q_two p (by omega)
  have hr0 : 0 < 2 ^ (32 - p) := Nat.two_pow_pos _
  rw [uL_lsh d (by omega), uL_mask32, show (32 : Int32) - uI p = uI (32 - p) from uI_sub (a := 32) (by omega), uL_lus (by omega) (by omega)]
  have e3 : d * 2 ^ p % 4294967296 = d % 2 ^ (32 - p) * 2 ^ p := by
    conv => lhs; rw [hq, Nat.mul_comm (2 ^ p) (2 ^ (32 - p))]
    rw [Nat.mul_mod_mul_right]
  rw [e3]
  have he : d' / 2 ^ (32 - p) < 2 ^ p := Nat.div_lt_of_lt_mul (by rw [Nat.mul_comm, ← hq]; exact hd')
  have h4 : d % 2 ^ (32 - p) < 2 ^ (32 - p) := Nat.mod_lt _ hr0
  have h5 : d % 2 ^ (32 - p) * 2 ^ p + d' / 2 ^ (32 - p) < 4294967296 := by
    have : (d % 2 ^ (32 - p) + 1) * 2 ^ p ≤ 2 ^ (32 - p) * 2 ^ p := Nat.mul_le_mul_right _ (by omega)
    rw [Nat.add_mul, Nat.one_mul, Nat.mul_comm (2 ^ (32 - p)), ← hq] at this
    omega
  exact lor_add he (by omega)
theorem x4_shiftA {v p w n : Nat} (hp : p < 32) (hnw : n + w ≤ 159) (hv : v < 4294967296 ^ n) :
    ∀ k fuel L, k ≤ n + 1 → k < fuel → (∀ j, k ≤ j → j ≤ n → L (j + w) = uL (v * 2 ^ (32 * w + p) / 4294967296 ^ (j + w) % 4294967296)) → (∀ j, j < k → j < n → L j = uL (v / 4294967296 ^ j % 4294967296)) →
    ∃ L', f_X4_shiftUp_L39 fuel (uI w) (uI p) (iI ((k : Int) - 1)) (uI n) L = f_X4_shiftUp_L88 FU (uI w) 0 (uI n) L' ∧ ∀ j, j ≤ n → L' (j + w) = uL (v * 2 ^ (32 * w + p) / 4294967296 ^ (j + w) % 4294967296) := by
  intro k
  induction k with
  | zero =>
    intro fuel L hk hf hL hR
    obtain ⟨m, rfl, _⟩ := ex_succ hf
    refine ⟨L, ?_, fun j hj => hL j (by omega) hj⟩
    rw [f_X4_shiftUp_L39, if_pos (by rw [wI_0, iI_lt (by omega) (by omega) (by omega) (by omega)]; omega)]
  | succ k ih =>
    intro fuel L hk hf hL hR
    obtain ⟨m, rfl, hm⟩ := ex_succ hf
    have e1 : iI (((k + 1 : Nat) : Int) - 1) = uI k := by congr 1; omega
    have hdq : ∀ j, v / 4294967296 ^ j % 4294967296 < 4294967296 := fun j => Nat.mod_lt _ q_pos
    rw [e1, f_X4_shiftUp_L39, if_neg (uI_nneg (by omega))]
    have hl1 : f_X4_limb (uI n) L (uI k) = some (uL (v / 4294967296 ^ k % 4294967296)) := by
      refine x4_limb' (by omega) (by omega) (fun h => hR k (by omega) h) (fun h => ?_)
      rw [dg_hi q_pos hv h]
    have e2 : uI k + (-1 : Int32) = iI ((k : Int) - 1) := by rw [wI_m1, iI_add]; rfl
    have e3 : uI k - (1 : Int32) = iI ((k : Int) - 1) := by rw [wI_1, iI_sub]
    have hl2 : ∃ d, d < 4294967296 ∧ f_X4_limb (uI n) L (iI ((k : Int) - 1)) = some (uL d) ∧ v * 2 ^ (32 * w + p) / 4294967296 ^ (k + w) % 4294967296 = v / 4294967296 ^ k % 4294967296 % 2 ^ (32 - p) * 2 ^ p + d / 2 ^ (32 - p) := by
      by_cases h0 : k = 0
      · subst h0
        refine ⟨0, q_pos, x4_limbneg _ _ (by omega) (by omega), ?_⟩
        rw [sh_word, sh_dig0 (by omega), Nat.zero_div, Nat.add_zero]
      · obtain ⟨i, rfl⟩ : ∃ i, k = i + 1 := ⟨k - 1, by omega⟩
        have e4 : iI (((i + 1 : Nat) : Int) - 1) = uI i := by congr 1; omega
        refine ⟨v / 4294967296 ^ i % 4294967296, hdq i, ?_, ?_⟩
        · rw [e4]
          refine x4_limb' (by omega) (by omega) (fun h => hR i (by omega) h) (fun h => ?_)
          rw [dg_hi q_pos hv h]
        · rw [sh_word, sh_dig (by omega)]
    obtain ⟨d, hdl, hl2, hdig⟩ := hl2
    rw [hl1, Option.bind_some, e3, hl2, Option.bind_some, uI_add, if_pos (by exact (uI_vIn (by omega)).mpr (by omega)), uI_clamp (by omega), sh_or hp hdl, ← hdig, e2]
    refine ih m _ (by omega) (by omega) (fun j hj hj2 => ?_) (fun j hj hj2 => ?_)
    · by_cases e : j = k
      · subst e; rw [updL_eq]
      · rw [updL_ne _ _ (by omega)]; exact hL j (by omega) hj2
    · rw [updL_ne _ _ (by omega)]; exact hR j (by omega) hj2
theorem x4_shiftB {w n : Nat} {W : Nat} (hw : w ≤ 159) : ∀ k i fuel L, i + k = w → k < fuel → (∀ j, j < i → L j = uL 0) → (∀ j, w ≤ j → j ≤ n + w → L j = uL (W / 4294967296 ^ j % 4294967296)) →
    ∃ L', f_X4_shiftUp_L88 fuel (uI w) (uI i) (uI n) L = f_X4_shiftUp_B108 (uI w) (uI n) L' ∧ (∀ j, j < w → L' j = uL 0) ∧ (∀ j, w ≤ j → j ≤ n + w → L' j = uL (W / 4294967296 ^ j % 4294967296)) := by
  intro k
  induction k with
  | zero =>
    intro i fuel L hk hf hL hR
    obtain ⟨m, rfl, _⟩ := ex_succ hf
    refine ⟨L, ?_, fun j hj => hL j (by omega), hR⟩
    rw [f_X4_shiftUp_L88, if_pos (by exact (uI_le (by omega) (by omega)).mpr (by omega))]
  | succ k ih =>
    intro i fuel L hk hf hL hR
    obtain ⟨m, rfl, hm⟩ := ex_succ hf
    rw [f_X4_shiftUp_L88, if_neg (fun h => by have := (uI_le (by omega) (by omega)).mp h; omega), if_pos (by exact (uI_vIn (by omega)).mpr (by omega)), uI_clamp (by omega), uI_succ]
    refine ih (i + 1) m _ (by omega) (by omega) (fun j hj => ?_) (fun j hj hj2 => ?_)
    · by_cases e : j = i
      · subst e; rw [updL_eq]; rfl
      · rw [updL_ne _ _ e]; exact hL j (by omega)
    · rw [updL_ne _ _ (by omega)]; exact hR j hj hj2
theorem x4_shift {sz : Int32} {L : Nat → Int64} {v s : Nat} (h : R32 sz L v) (hs : s < 1000000) (hW : v * 2 ^ s < 4294967296 ^ 159) : ∃ s' L', f_X4_shiftUp (uI s) sz L = some (s', L') ∧ R32 s' L' (v * 2 ^ s) := by
  have h0 := h
  obtain ⟨n, hn, rfl, hv, hlow, hd⟩ := h
  unfold f_X4_shiftUp
  by_cases hs0 : s = 0
  · subst hs0
    rw [if_pos (by exact (uI_le0 (by omega)).mpr rfl), Nat.pow_zero, Nat.mul_one]
    exact ⟨_, _, rfl, h0⟩
  · rw [if_neg (by exact fun h => hs0 ((uI_le0 (by omega)).mp h))]
    by_cases hn0 : n = 0
    · subst hn0
      have hv0 : v = 0 := by rw [Nat.pow_zero] at hv; omega
      subst hv0
      rw [if_pos (by exact (uI_eq0 (by omega)).mpr rfl), Nat.zero_mul]
      exact ⟨_, _, rfl, h0⟩
    · have hnw : n + s / 32 ≤ 159 := by
        apply Nat.le_of_not_lt
        intro hlt
        have h1 := hlow (n - 1) (by omega)
        have h2 : 4294967296 ^ (n - 1) * 2 ^ (32 * (s / 32)) ≤ v * 2 ^ s := Nat.mul_le_mul h1 (Nat.pow_le_pow_right (by decide) (by omega))
        rw [Nat.pow_mul, show (2 : Nat) ^ 32 = 4294967296 by decide, ← Nat.pow_add] at h2
        have h3 : 4294967296 ^ 159 ≤ 4294967296 ^ (n - 1 + s / 32) := Nat.pow_le_pow_right q_pos (by omega)
        omega
      have hsp : 32 * (s / 32) + s % 32 = s := by omega
      rw [if_neg (by exact fun h => hn0 ((uI_eq0 (by omega)).mp h)), uI_shr5 (by omega), uI_mask5, show (160 : Int32) - uI n = uI (160 - n) from uI_sub (a := 160) (by omega), if_pos (by exact (uI_lt (by omega) (by omega)).mpr (by omega))]
      obtain ⟨L1, h1, h2⟩ := x4_shiftA (p := s % 32) (w := s / 32) (by omega) hnw hv (n + 1) FU L (by omega) (by rw [hFU]; omega) (fun j hj hj2 => by omega) (fun j _ hj2 => hd j hj2)
      have e1 : iI (((n + 1 : Nat) : Int) - 1) = uI n := by congr 1; omega
      rw [e1] at h1
      rw [hsp] at h2
      obtain ⟨L2, h3, h4, h5⟩ := x4_shiftB (n := n) (W := v * 2 ^ s) (w := s / 32) (by omega) (s / 32) 0 FU L1 (by omega) (by rw [hFU]; omega) (fun j hj => by omega) (fun j hj hj2 => by
        have := h2 (j - s / 32) (by omega)
        rw [show j - s / 32 + s / 32 = j by omega] at this
        exact this)
      have h3' : f_X4_shiftUp_L88 FU (uI (s / 32)) 0 (uI n) L1 = f_X4_shiftUp_B108 (uI (s / 32)) (uI n) L2 := h3
      rw [h1, h3']
      unfold f_X4_shiftUp_B108
      rw [uI_succ, uI_add]
      have hvs : v * 2 ^ s < 4294967296 ^ (n + (s / 32 + 1)) := by
        have e : 2 ^ s ≤ 2 ^ (32 * (s / 32 + 1)) := Nat.pow_le_pow_right (by decide) (by omega)
        rw [Nat.pow_mul, show (2 : Nat) ^ 32 = 4294967296 by decide] at e
        rw [Nat.pow_add]
        exact Nat.lt_of_le_of_lt (Nat.mul_le_mul_left v e) (Nat.mul_lt_mul_of_pos_right hv (Nat.pow_pos q_pos))
      obtain ⟨s', h6, h7⟩ := x4_trim (L := L2) (v := v * 2 ^ s) (n := n + (s / 32 + 1)) (by omega) hvs (fun j hj => by
        by_cases hjw : j < s / 32
        · rw [h4 j hjw]
          have := sh_zero (v := v) (p := s % 32) (w := s / 32) hjw
          rw [hsp] at this
          rw [this]
        · exact h5 j (by omega) (by omega))
      rw [h6]
      exact ⟨s', L2, rfl, h7⟩
theorem x4_shiftneg {sz : Int32} {L : Nat → Int64} {a : Int} (h1 : -2147483648 ≤ a) (h2 : a ≤ 0) : f_X4_shiftUp (iI a) sz L = some (sz, L) := by
  unfold f_X4_shiftUp
  rw [if_pos (by rw [wI_0, iI_le h1 (by omega) (by omega) (by omega)]; exact h2)]
