/-! naturals in casts -/
abbrev uI (n : Nat) : Int32 := iI (n : Int)
abbrev uL (n : Nat) : Int64 := iL (n : Int)
theorem vI_1 : (1 : Int32) = uI 1 := rfl
theorem vI_2 : (2 : Int32) = uI 2 := rfl
theorem vI_3 : (3 : Int32) = uI 3 := rfl
theorem vI_4 : (4 : Int32) = uI 4 := rfl
theorem vI_5 : (5 : Int32) = uI 5 := rfl
theorem vI_8 : (8 : Int32) = uI 8 := rfl
theorem vI_9 : (9 : Int32) = uI 9 := rfl
theorem vI_10 : (10 : Int32) = uI 10 := rfl
theorem vI_13 : (13 : Int32) = uI 13 := rfl
theorem vI_16 : (16 : Int32) = uI 16 := rfl
theorem vI_30 : (30 : Int32) = uI 30 := rfl
theorem vI_31 : (31 : Int32) = uI 31 := rfl
theorem vI_32 : (32 : Int32) = uI 32 := rfl
theorem vI_64 : (64 : Int32) = uI 64 := rfl
theorem vI_160 : (160 : Int32) = uI 160 := rfl
theorem hFU : FU = 100000 := rfl
theorem uI_succ (i : Nat) : uI i + 1 = uI (i + 1) := by rw [wI_1, iI_add]; rfl
theorem uI_pred (i : Nat) : uI (i + 1) - 1 = uI i := by rw [wI_1, iI_sub]; congr 1; omega
theorem uI_predm (i : Nat) : uI (i + 1) + (-1 : Int32) = uI i := by rw [wI_m1, iI_add]; congr 1; omega
theorem uI_pos_pred {i : Nat} (h : 0 < i) : uI i - 1 = uI (i - 1) := by rw [wI_1, iI_sub]; congr 1; omega
theorem uI_add (a b : Nat) : uI a + uI b = uI (a + b) := by rw [iI_add]; rfl
theorem uI_sub {a b : Nat} (h : b ≤ a) : uI a - uI b = uI (a - b) := by rw [iI_sub]; congr 1; omega
theorem uI_mul (a b : Nat) : uI a * uI b = uI (a * b) := by rw [iI_mul]; rfl
theorem uL_add (a b : Nat) : uL a + uL b = uL (a + b) := by rw [iL_add]; rfl
theorem uL_sub {a b : Nat} (h : b ≤ a) : uL a - uL b = uL (a - b) := by rw [iL_sub]; congr 1; omega
theorem uL_mul (a b : Nat) : uL a * uL b = uL (a * b) := by rw [iL_mul]; rfl
theorem uI_clamp {i : Nat} (h : i < 2147483648) : (uI i).toNatClampNeg = i := iI_cln h
theorem uI_lt {a b : Nat} (ha : a < 2147483648) (hb : b < 2147483648) : uI a < uI b ↔ a < b := by
  rw [iI_lt (by omega) (by omega) (by omega) (by omega)]; omega
theorem uI_le {a b : Nat} (ha : a < 2147483648) (hb : b < 2147483648) : uI a ≤ uI b ↔ a ≤ b := by
  rw [iI_le (by omega) (by omega) (by omega) (by omega)]; omega
theorem uI_eq {a b : Nat} (ha : a < 2147483648) (hb : b < 2147483648) : uI a = uI b ↔ a = b := by
  rw [iI_eq (by omega) (by omega) (by omega) (by omega)]; omega
theorem uI_nneg {a : Nat} (ha : a < 2147483648) : ¬ uI a < 0 := by
  rw [wI_0, iI_lt (by omega) (by omega) (by omega) (by omega)]; omega
theorem uI_ge0 {a : Nat} (ha : a < 2147483648) : 0 ≤ uI a := by
  rw [wI_0, iI_le (by omega) (by omega) (by omega) (by omega)]; omega
theorem uI_le0 {a : Nat} (ha : a < 2147483648) : uI a ≤ 0 ↔ a = 0 := by
  rw [wI_0, iI_le (by omega) (by omega) (by omega) (by omega)]; omega
theorem uI_eq0 {a : Nat} (ha : a < 2147483648) : uI a = 0 ↔ a = 0 := by
  rw [wI_0, iI_eq (by omega) (by omega) (by omega) (by omega)]; omega
theorem uI_gt0 {a : Nat} (ha : a < 2147483648) : 0 < uI a ↔ 0 < a := by
  rw [wI_0, iI_lt (by omega) (by omega) (by omega) (by omega)]; omega
theorem uI_vIn {a n : Nat} (ha : a < 2147483648) : vIn (uI a) n = true ↔ a < n := by
  rw [vIn_iff (by omega) (by omega)]; omega
theorem uL_lt {a b : Nat} (ha : a < 9223372036854775808) (hb : b < 9223372036854775808) : uL a < uL b ↔ a < b := by
  rw [iL_lt (by omega) (by omega) (by omega) (by omega)]; omega
theorem uL_eq {a b : Nat} (ha : a < 18446744073709551616) (hb : b < 18446744073709551616) : uL a = uL b ↔ a = b := by
  constructor
  · intro h
    have := congrArg (fun x => x.toBitVec.toNat) h
    simp only [iL_tnn a ha, iL_tnn b hb] at this
    exact this
  · rintro rfl; rfl
theorem uL_cmp0 {a : Nat} (ha : a < 18446744073709551616) : lg_cmp (uL a) 0 = 0 ↔ a = 0 := by
  rw [lc_eq0]; omega
theorem uL_mask32 (a : Nat) : uL a &&& (4294967295 : Int64) = uL (a % 4294967296) := by rw [mask32]; rfl
theorem uL_mask30 (a : Nat) : uL a &&& (1073741823 : Int64) = uL (a % 1073741824) := by rw [mask30]; rfl
theorem uL_mask1 (a : Nat) : uL a &&& (1 : Int64) = uL (a % 2) := by rw [mask1]; rfl
theorem uI_mask1 (a : Nat) : uI a &&& (1 : Int32) = uI (a % 2) := by rw [mask1I]; rfl
theorem uI_mask5 (a : Nat) : uI a &&& (31 : Int32) = uI (a % 32) := by rw [mask5I]; rfl
theorem uL_shr32 {a : Nat} (ha : a < 18446744073709551616) : lus (uL a) (32 : Int32) = uL (a / 4294967296) := lus_iL (k := 32) ha (by decide)
theorem uL_lsh (a : Nat) {k : Nat} (hk : k < 64) : lsh (uL a) (uI k) = uL (a * 2 ^ k) := by rw [lsh_iL _ hk]; rfl
theorem uL_lus {a k : Nat} (ha : a < 18446744073709551616) (hk : k < 64) : lus (uL a) (uI k) = uL (a / 2 ^ k) := lus_iL ha hk
theorem uL_lsr {a k : Nat} (ha : a < 9223372036854775808) (hk : k < 64) : lsr (uL a) (uI k) = uL (a / 2 ^ k) := by
  rw [lsr_iL (by omega) (by omega) hk]; rfl
theorem uI_isr {a k : Nat} (ha : a < 2147483648) (hk : k < 32) : isr (uI a) (uI k) = uI (a / 2 ^ k) := by
  rw [isr_iI (by omega) (by omega) hk]; rfl
theorem uI_shr5 {a : Nat} (ha : a < 2147483648) : isr (uI a) (5 : Int32) = uI (a / 32) := uI_isr (k := 5) ha (by decide)
theorem uL_maskk {a k : Nat} (hk : k ≤ 63) : uL a &&& uL (2 ^ k - 1) = uL (a % 2 ^ k) := by rw [and_mask _ k hk]; rfl
theorem uI_toL {a : Nat} (ha : a < 2147483648) : (uI a).toInt64 = uL a := iI_l (by omega) (by omega)
theorem uL_toI (a : Nat) : (uL a).toInt32 = uI a := iL_i _
theorem uI_div {a b : Nat} (ha : a < 2147483648) (hb : 0 < b) (hb' : b < 2147483648) : uI a / uI b = uI (a / b) := by
  rw [iI_div (by omega) (by omega) (by omega) (by omega)]; rfl
theorem uI_rem {a b : Nat} (ha : a < 2147483648) (hb : 0 < b) (hb' : b < 2147483648) : irm (uI a) (uI b) = uI (a % b) := by
  rw [irm_iI (by omega) (by omega) (by omega) (by omega)]; rfl
theorem uL_div {a b : Nat} (ha : a < 9223372036854775808) (hb : 0 < b) (hb' : b < 9223372036854775808) : uL a / uL b = uL (a / b) := by
  rw [iL_div (by omega) (by omega) (by omega) (by omega)]; rfl
theorem uL_rem {a b : Nat} (ha : a < 9223372036854775808) (hb : 0 < b) (hb' : b < 9223372036854775808) : lrm (uL a) (uL b) = uL (a % b) := by
  rw [lrm_iL (by omega) (by omega) (by omega) (by omega)]; rfl
theorem uL_cge {a b : Nat} (ha : a < 9223372036854775808) (hb : b < 9223372036854775808) : 0 ≤ lg_cmp (uL a) (uL b) ↔ b ≤ a := by
  rw [lc_ge (by omega) (by omega) (by omega) (by omega)]; omega
theorem uL_ceq {a b : Nat} (ha : a < 18446744073709551616) (hb : b < 18446744073709551616) : lg_cmp (uL a) (uL b) = 0 ↔ a = b := by
  rw [lgc_eq, uL_eq ha hb]
theorem uL_clt {a b : Nat} (ha : a < 9223372036854775808) (hb : b < 9223372036854775808) : lg_cmp (uL a) (uL b) < 0 ↔ a < b := by
  rw [lc_lt (by omega) (by omega) (by omega) (by omega)]; omega
theorem updL_eq (f : Nat → Int64) (k : Nat) (x : Int64) : vp_updL f k x k = x := if_pos rfl
theorem updL_ne (f : Nat → Int64) {k j : Nat} (x : Int64) (h : j ≠ k) : vp_updL f k x j = f j := if_neg h
theorem upd_eq (f : Nat → Int32) (k : Nat) (x : Int32) : upd f k x k = x := if_pos rfl
theorem upd_ne (f : Nat → Int32) {k j : Nat} (x : Int32) (h : j ≠ k) : upd f k x j = f j := if_neg h
theorem ex_succ {a b : Nat} (h : a < b) : ∃ m, b = m + 1 ∧ a ≤ m := ⟨b - 1, by omega, by omega⟩
theorem max_uI {a b : Nat} (ha : a < 2147483648) (hb : b < 2147483648) : f_J9_max_7cf53 (uI a) (uI b) = some (uI (max a b)) := by
  unfold f_J9_max_7cf53
  by_cases h : a < b
  · rw [if_pos (by exact (uI_lt ha hb).mpr h)]; congr 2; omega
  · rw [if_neg (by exact fun e => h ((uI_lt ha hb).mp e))]; congr 2; omega
/-! digits in base B -/
theorem dg_top {B v n : Nat} (h : v < B ^ (n + 1)) : v / B ^ n % B = v / B ^ n :=
  Nat.mod_eq_of_lt (Nat.div_lt_of_lt_mul (by rwa [← Nat.pow_succ]))
theorem dg_hi {B v n i : Nat} (hB : 0 < B) (h : v < B ^ n) (hi : n ≤ i) : v / B ^ i = 0 :=
  Nat.div_eq_of_lt (Nat.lt_of_lt_of_le h (Nat.pow_le_pow_right hB hi))
theorem dg_eq {B W T K i : Nat} (hB : 0 < B) (h : W = T + B ^ (i + 1) * K) : W / B ^ i % B = T / B ^ i % B := by
  subst h
  rw [Nat.pow_succ, Nat.mul_assoc, Nat.add_mul_div_left _ _ (Nat.pow_pos hB), Nat.add_mul_mod_self_left]
theorem cy_div {B t x i : Nat} (hB : 0 < B) : (t + B ^ i * x) / B ^ (i + 1) = (t / B ^ i + x) / B := by
  rw [Nat.pow_succ, ← Nat.div_div_eq_div_mul, Nat.add_mul_div_left _ _ (Nat.pow_pos hB)]
theorem cy_mod {B t x i : Nat} (hB : 0 < B) : (t + B ^ i * x) / B ^ i % B = (t / B ^ i + x) % B := by
  rw [Nat.add_mul_div_left _ _ (Nat.pow_pos hB)]
theorem dg_split {B v i : Nat} : v = v % B ^ i + B ^ i * (v / B ^ i) := (Nat.mod_add_div v (B ^ i)).symm
theorem dg_down {B v i : Nat} : v / B ^ i = v / B ^ (i + 1) * B + v / B ^ i % B := by
  rw [Nat.pow_succ, ← Nat.div_div_eq_div_mul]
  have := Nat.div_add_mod (v / B ^ i) B
  rw [Nat.mul_comm] at this
  omega
theorem pow_split {B : Nat} (i : Nat) : B ^ (i + 1) = B ^ i * B := Nat.pow_succ B i
theorem sh_digG {Q v p r i : Nat} (hq : Q = 2 ^ p * 2 ^ r) : v * 2 ^ p / Q ^ (i + 1) % Q = v / Q ^ (i + 1) % Q % 2 ^ r * 2 ^ p + v / Q ^ i % Q / 2 ^ r := by
  have hp0 : 0 < 2 ^ p := Nat.two_pow_pos p
  have hr0 : 0 < 2 ^ r := Nat.two_pow_pos _
  have hQ : 0 < Q := by rw [hq]; exact Nat.mul_pos hp0 hr0
  have hA : v * 2 ^ p / Q ^ (i + 1) = v / Q ^ i / 2 ^ r := by
    rw [Nat.pow_succ, Nat.div_div_eq_div_mul]
    have e : Q ^ i * Q = Q ^ i * 2 ^ r * 2 ^ p := by
      conv => lhs; rhs; rw [hq]
      simp only [Nat.mul_comm, Nat.mul_left_comm]
    rw [e, Nat.mul_div_mul_right _ _ hp0]
  rw [hA]
  have hD := dg_down (B := Q) (v := v) (i := i)
  generalize v / Q ^ (i + 1) = A2 at *
  generalize hd : v / Q ^ i % Q = d at *
  have hdq : d < Q := by rw [← hd]; exact Nat.mod_lt _ hQ
  rw [hD]
  have e1 : (A2 * Q + d) / 2 ^ r = d / 2 ^ r + A2 * 2 ^ p := by
    rw [Nat.add_comm, show A2 * Q = 2 ^ r * (A2 * 2 ^ p) by rw [hq, Nat.mul_comm (2 ^ r), Nat.mul_assoc], Nat.add_mul_div_left _ _ hr0]
  rw [e1]
  have he : d / 2 ^ r < 2 ^ p := Nat.div_lt_of_lt_mul (by rw [Nat.mul_comm, ← hq]; exact hdq)
  have e2 : A2 % Q % 2 ^ r = A2 % 2 ^ r := Nat.mod_mod_of_dvd _ ⟨2 ^ p, by rw [Nat.mul_comm]; exact hq⟩
  rw [e2]
  have e3 : A2 * 2 ^ p % Q = A2 % 2 ^ r * 2 ^ p := by
    rw [hq, Nat.mul_comm (2 ^ p) (2 ^ r), Nat.mul_mod_mul_right]
  have h4 : A2 % 2 ^ r < 2 ^ r := Nat.mod_lt _ hr0
  have h5 : A2 % 2 ^ r * 2 ^ p + d / 2 ^ r < Q := by
    have : (A2 % 2 ^ r + 1) * 2 ^ p ≤ 2 ^ r * 2 ^ p := Nat.mul_le_mul_right _ (by omega)
    rw [Nat.add_mul, Nat.one_mul, Nat.mul_comm (2 ^ r), ← hq] at this
    omega
  have h6 : d / 2 ^ r < Q := Nat.lt_of_lt_of_le he (by rw [hq]; exact Nat.le_mul_of_pos_right _ hr0)
  rw [Nat.add_mod, e3, Nat.mod_eq_of_lt h6, Nat.add_comm, Nat.mod_eq_of_lt h5]
theorem sh_digG0 {Q v p r : Nat} (hq : Q = 2 ^ p * 2 ^ r) : v * 2 ^ p / Q ^ 0 % Q = v / Q ^ 0 % Q % 2 ^ r * 2 ^ p := by
  rw [Nat.pow_zero, Nat.div_one, Nat.div_one]
  have e2 : v % Q % 2 ^ r = v % 2 ^ r := Nat.mod_mod_of_dvd _ ⟨2 ^ p, by rw [Nat.mul_comm]; exact hq⟩
  rw [e2, hq, Nat.mul_comm (2 ^ p) (2 ^ r), Nat.mul_mod_mul_right]
/-! the number of bits -/
def bl (n : Nat) : Nat := if n = 0 then 0 else n.log2 + 1
theorem bl_zero : bl 0 = 0 := rfl
theorem bl_lt (n : Nat) : n < 2 ^ bl n := by
  unfold bl
  by_cases h : n = 0
  · rw [if_pos h]; subst h; decide
  · rw [if_neg h]; exact Nat.lt_log2_self
theorem bl_le {n : Nat} (h : n ≠ 0) : 2 ^ (bl n - 1) ≤ n := by
  unfold bl
  rw [if_neg h]
  exact Nat.log2_self_le h
theorem bl_pos {n : Nat} (h : n ≠ 0) : 0 < bl n := by unfold bl; rw [if_neg h]; omega
theorem bl_eq {n k : Nat} (h1 : 2 ^ k ≤ n) (h2 : n < 2 ^ (k + 1)) : bl n = k + 1 := by
  have h0 : n ≠ 0 := by have := Nat.two_pow_pos k; omega
  unfold bl
  rw [if_neg h0, (Nat.log2_eq_iff h0).mpr ⟨h1, h2⟩]
theorem bl_le_of_lt {n k : Nat} (h : n < 2 ^ k) : bl n ≤ k := by
  unfold bl
  by_cases h0 : n = 0
  · rw [if_pos h0]; omega
  · rw [if_neg h0]; have := (Nat.log2_lt h0).mpr h; omega
theorem lt_of_bl_le {n k : Nat} (h : bl n ≤ k) : n < 2 ^ k := Nat.lt_of_lt_of_le (bl_lt n) (Nat.pow_le_pow_right (by decide) h)
theorem bl_div {v k : Nat} (h : v / 2 ^ k ≠ 0) : bl v = k + bl (v / 2 ^ k) := by
  have h1 := bl_le h
  have h2 := bl_lt (v / 2 ^ k)
  have hp := bl_pos h
  have e : k + bl (v / 2 ^ k) = (k + (bl (v / 2 ^ k) - 1)) + 1 := by omega
  rw [e]
  apply bl_eq
  · rw [Nat.pow_add, Nat.mul_comm]
    exact (Nat.le_div_iff_mul_le (Nat.two_pow_pos k)).mp h1
  · have e2 : k + (bl (v / 2 ^ k) - 1) + 1 = bl (v / 2 ^ k) + k := by omega
    rw [e2, Nat.pow_add]
    exact (Nat.div_lt_iff_lt_mul (Nat.two_pow_pos k)).mp h2
theorem bl_mul {v k : Nat} (h : v ≠ 0) : bl (v * 2 ^ k) = bl v + k := by
  have h2 : v * 2 ^ k / 2 ^ k = v := Nat.mul_div_cancel _ (Nat.two_pow_pos k)
  have := bl_div (v := v * 2 ^ k) (k := k) (by rw [h2]; exact h)
  rw [h2] at this
  omega
theorem bl_mono {a b : Nat} (h : a ≤ b) : bl a ≤ bl b := bl_le_of_lt (Nat.lt_of_le_of_lt h (bl_lt b))
/-! leading zeros -/
theorem nlz61 {v : Nat} {c : Int} (h0 : v ≠ 0) (hv : v < 16) : f_J6_numberOfLeadingZeros_0f7a4_B61 (uI v) (iI c) = some (iI (c + 1 - bl v)) := by
  unfold f_J6_numberOfLeadingZeros_0f7a4_B61
  by_cases h : v < 4
  · rw [if_pos (by exact (uI_lt (b := 4) (by omega) (by omega)).mpr h), vI_1, ius_iI (k := 1) (by omega) (by decide), iI_sub]
    have : v = 1 ∨ v = 2 ∨ v = 3 := by omega
    rcases this with rfl | rfl | rfl
    · congr 2; have : bl 1 = 1 := by decide
      rw [this]; omega
    · congr 2; have : bl 2 = 2 := by decide
      rw [this]; omega
    · congr 2; have : bl 3 = 2 := by decide
      rw [this]; omega
  · rw [if_neg (by exact fun e => h ((uI_lt (b := 4) (by omega) (by omega)).mp e)), wI_m2, iI_add, vI_2, ius_iI (k := 2) (by omega) (by decide), vI_1, ius_iI (k := 1) (by omega) (by decide), iI_sub]
    by_cases h8 : v < 8
    · have e : bl v = 3 := bl_eq (k := 2) (by omega) (by omega)
      rw [e]; congr 2; omega
    · have e : bl v = 4 := bl_eq (k := 3) (by omega) (by omega)
      rw [e]; congr 2; omega
theorem nlz48 {v : Nat} {c : Int} (h0 : v ≠ 0) (hv : v < 256) : f_J6_numberOfLeadingZeros_0f7a4_B48 (uI v) (iI c) = some (iI (c + 1 - bl v)) := by
  unfold f_J6_numberOfLeadingZeros_0f7a4_B48
  by_cases h : v < 16
  · rw [if_pos (by exact (uI_lt (b := 16) (by omega) (by omega)).mpr h), nlz61 h0 h]
  · have hd : v / 2 ^ 4 ≠ 0 := by omega
    rw [if_neg (by exact fun e => h ((uI_lt (b := 16) (by omega) (by omega)).mp e)), wI_m4, iI_add, vI_4, ius_iI (k := 4) (by omega) (by decide), nlz61 hd (by omega), bl_div hd]
    congr 2; omega
theorem nlz33 {v : Nat} {c : Int} (h0 : v ≠ 0) (hv : v < 65536) : f_J6_numberOfLeadingZeros_0f7a4_B33 (uI v) (iI c) = some (iI (c + 1 - bl v)) := by
  unfold f_J6_numberOfLeadingZeros_0f7a4_B33
  by_cases h : v < 256
  · rw [if_pos (by exact (uI_lt (b := 256) (by omega) (by omega)).mpr h), nlz48 h0 h]
  · have hd : v / 2 ^ 8 ≠ 0 := by omega
    rw [if_neg (by exact fun e => h ((uI_lt (b := 256) (by omega) (by omega)).mp e)), wI_m8, iI_add, vI_8, ius_iI (k := 8) (by omega) (by decide), nlz48 hd (by omega), bl_div hd]
    congr 2; omega
theorem nlz32 {v : Nat} (hv : v < 2147483648) : f_J6_numberOfLeadingZeros_0f7a4 (uI v) = some (iI (32 - bl v)) := by
  unfold f_J6_numberOfLeadingZeros_0f7a4
  by_cases h0 : v = 0
  · subst h0; rfl
  · rw [if_pos (by exact (uI_gt0 hv).mpr (by omega))]
    by_cases h : v < 65536
    · rw [if_pos (by exact (uI_lt (b := 65536) (by omega) (by omega)).mpr h), wI_31, nlz33 h0 h]
      rfl
    · have hd : v / 2 ^ 16 ≠ 0 := by omega
      rw [if_neg (by exact fun e => h ((uI_lt (b := 65536) (by omega) (by omega)).mp e)), wI_m16, wI_31, iI_add, vI_16, ius_iI (k := 16) (by omega) (by decide), nlz33 hd (by omega), bl_div hd]
      congr 2; omega
theorem nlz32n {v : Nat} (h1 : 2147483648 ≤ v) (hv : v < 4294967296) : f_J6_numberOfLeadingZeros_0f7a4 (uI v) = some (iI (32 - bl v)) := by
  unfold f_J6_numberOfLeadingZeros_0f7a4
  have e : uI v = iI ((v : Int) - 4294967296) := iI_eqm (by omega)
  rw [e, wI_0, if_neg (by rw [iI_lt (by omega) (by omega) (by omega) (by omega)]; omega), if_neg (by rw [iI_eq (by omega) (by omega) (by omega) (by omega)]; omega)]
  have e : bl v = 32 := bl_eq (k := 31) (by omega) (by omega)
  rw [e]; rfl
theorem nlz32a {v : Nat} (hv : v < 4294967296) : f_J6_numberOfLeadingZeros_0f7a4 (uI v) = some (iI (32 - bl v)) := by
  by_cases h : v < 2147483648
  · exact nlz32 h
  · exact nlz32n (by omega) hv
theorem nlz64 {v : Nat} (hv : v < 18446744073709551616) : f_J13_numberOfLeadingZeros_95d88 (uL v) = some (iI (64 - bl v)) := by
  unfold f_J13_numberOfLeadingZeros_95d88
  rw [uL_shr32 hv, uL_toI]
  by_cases h : v / 4294967296 = 0
  · rw [if_pos (by rw [h]; rfl), uL_toI, nlz32a (by omega), Option.bind_some, wI_32, iI_add]
    congr 2; omega
  · have hq : v / 4294967296 < 4294967296 := by omega
    rw [if_neg (by
      intro e
      have e2 := congrArg (fun x => x.toBitVec.toNat) e
      simp only [iI_tnn _ hq] at e2
      exact h e2), nlz32a hq, Option.bind_some, bl_div (v := v) (k := 32) h]
    congr 2
    have : (2 : Nat) ^ 32 = 4294967296 := by decide
    rw [this]; omega
