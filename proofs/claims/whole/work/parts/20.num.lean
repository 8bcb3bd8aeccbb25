/-! Numbers: an int, a long by its Int. -/
def iI (z : Int) : Int32 := Int32.ofInt z
def iL (z : Int) : Int64 := Int64.ofInt z
theorem iI_add (a b : Int) : iI a + iI b = iI (a + b) := (Int32.ofInt_add a b).symm
theorem iI_sub (a b : Int) : iI a - iI b = iI (a - b) := (Int32.ofInt_sub a b).symm
theorem iI_mul (a b : Int) : iI a * iI b = iI (a * b) := (Int32.ofInt_mul a b).symm
theorem iI_neg (a : Int) : -iI a = iI (-a) := (Int32.ofInt_neg a).symm
theorem iL_add (a b : Int) : iL a + iL b = iL (a + b) := (Int64.ofInt_add a b).symm
theorem iL_sub (a b : Int) : iL a - iL b = iL (a - b) := (Int64.ofInt_sub a b).symm
theorem iL_mul (a b : Int) : iL a * iL b = iL (a * b) := (Int64.ofInt_mul a b).symm
theorem iL_neg (a : Int) : -iL a = iL (-a) := (Int64.ofInt_neg a).symm
theorem iI_toInt {a : Int} (h1 : -2147483648 ≤ a) (h2 : a < 2147483648) : (iI a).toInt = a := Int32.toInt_ofInt_of_le (by omega) (by omega)
theorem iL_toInt {a : Int} (h1 : -9223372036854775808 ≤ a) (h2 : a < 9223372036854775808) : (iL a).toInt = a := Int64.toInt_ofInt_of_le (by omega) (by omega)
theorem iI_of (x : Int32) : ∃ a : Int, -2147483648 ≤ a ∧ a < 2147483648 ∧ x = iI a := ⟨x.toInt, Int32.le_toInt x, Int32.toInt_lt x, (Int32.ofInt_toInt x).symm⟩
theorem iL_of (x : Int64) : ∃ a : Int, -9223372036854775808 ≤ a ∧ a < 9223372036854775808 ∧ x = iL a := ⟨x.toInt, Int64.le_toInt x, Int64.toInt_lt x, (Int64.ofInt_toInt x).symm⟩
theorem iI_lt {a b : Int} (h1 : -2147483648 ≤ a) (h2 : a < 2147483648) (h3 : -2147483648 ≤ b) (h4 : b < 2147483648) : iI a < iI b ↔ a < b := by
  rw [Int32.lt_iff_toInt_lt, iI_toInt h1 h2, iI_toInt h3 h4]
theorem iI_le {a b : Int} (h1 : -2147483648 ≤ a) (h2 : a < 2147483648) (h3 : -2147483648 ≤ b) (h4 : b < 2147483648) : iI a ≤ iI b ↔ a ≤ b := by
  rw [Int32.le_iff_toInt_le, iI_toInt h1 h2, iI_toInt h3 h4]
theorem iI_eq {a b : Int} (h1 : -2147483648 ≤ a) (h2 : a < 2147483648) (h3 : -2147483648 ≤ b) (h4 : b < 2147483648) : iI a = iI b ↔ a = b := by
  rw [← Int32.toInt_inj, iI_toInt h1 h2, iI_toInt h3 h4]
theorem iL_lt {a b : Int} (h1 : -9223372036854775808 ≤ a) (h2 : a < 9223372036854775808) (h3 : -9223372036854775808 ≤ b) (h4 : b < 9223372036854775808) : iL a < iL b ↔ a < b := by
  rw [Int64.lt_iff_toInt_lt, iL_toInt h1 h2, iL_toInt h3 h4]
theorem iL_le {a b : Int} (h1 : -9223372036854775808 ≤ a) (h2 : a < 9223372036854775808) (h3 : -9223372036854775808 ≤ b) (h4 : b < 9223372036854775808) : iL a ≤ iL b ↔ a ≤ b := by
  rw [Int64.le_iff_toInt_le, iL_toInt h1 h2, iL_toInt h3 h4]
theorem iL_eq {a b : Int} (h1 : -9223372036854775808 ≤ a) (h2 : a < 9223372036854775808) (h3 : -9223372036854775808 ≤ b) (h4 : b < 9223372036854775808) : iL a = iL b ↔ a = b := by
  rw [← Int64.toInt_inj, iL_toInt h1 h2, iL_toInt h3 h4]
theorem iI_cl {a : Int} (h1 : 0 ≤ a) (h2 : a < 2147483648) : (iI a).toNatClampNeg = a.toNat := Int32.toNatClampNeg_ofInt_of_le (by omega) (by omega)
theorem iI_cln {n : Nat} (h2 : n < 2147483648) : (iI (n : Int)).toNatClampNeg = n := by rw [iI_cl (by omega) (by omega)]; rfl
theorem vIn_iff {a : Int} {n : Nat} (h1 : -2147483648 ≤ a) (h2 : a < 2147483648) : vIn (iI a) n = true ↔ 0 ≤ a ∧ a < n := by
  unfold vIn
  rw [decide_eq_true_iff]
  have h0 : iI a < 0 ↔ a < 0 := iI_lt (b := 0) h1 h2 (by omega) (by omega)
  rw [h0]
  by_cases hn : a < 0
  · simp only [hn, true_or, not_true, false_iff]; omega
  · rw [iI_cl (by omega) h2]; omega
theorem iI_l {a : Int} (h1 : -2147483648 ≤ a) (h2 : a < 2147483648) : (iI a).toInt64 = iL a := Int32.toInt64_ofInt (by show (-2147483648 : Int) ≤ a; omega) (by show a ≤ (2147483647 : Int); omega)
theorem iL_i (a : Int) : (iL a).toInt32 = iI a := Int64.toInt32_ofInt
theorem lgc_eq (x y : Int64) : lg_cmp x y = 0 ↔ x = y := by
  unfold lg_cmp
  by_cases h : x > y
  · rw [if_pos h]
    constructor
    · intro e; exact absurd e (by decide)
    · intro e; subst e; exact absurd h (fun h => Int64.lt_irrefl h)
  · rw [if_neg h]
    by_cases h2 : x = y
    · simp [h2]
    · rw [if_neg h2]
      constructor
      · intro e; exact absurd e (by decide)
      · intro e; exact absurd e h2
theorem lgc_lt (x y : Int64) : lg_cmp x y < 0 ↔ x < y := by
  unfold lg_cmp
  by_cases h : x > y
  · rw [if_pos h]
    constructor
    · intro e; exact absurd e (by decide)
    · intro e; exact absurd h (Int64.lt_asymm e)
  · rw [if_neg h]
    by_cases h2 : x = y
    · subst h2; rw [if_pos rfl]
      constructor
      · intro e; exact absurd e (by decide)
      · intro e; exact absurd e (fun h => Int64.lt_irrefl h)
    · rw [if_neg h2]
      constructor
      · intro _; rw [gt_iff_lt, Int64.lt_iff_toInt_lt] at h; rw [Int64.lt_iff_toInt_lt]; have : x.toInt ≠ y.toInt := fun e => h2 (Int64.toInt_inj.mp e); omega
      · intro _; decide
theorem lgc_ge (x y : Int64) : 0 ≤ lg_cmp x y ↔ y ≤ x := by
  have h := lgc_lt x y
  rw [Int64.lt_iff_toInt_lt, Int32.lt_iff_toInt_lt] at h
  rw [Int64.le_iff_toInt_le, Int32.le_iff_toInt_le]
  have h0 : (0 : Int32).toInt = 0 := by decide
  omega
theorem lgc_gt (x y : Int64) : 0 < lg_cmp x y ↔ y < x := by
  have h := lgc_ge x y
  have h' := lgc_eq x y
  rw [← Int64.toInt_inj, ← Int32.toInt_inj] at h'
  rw [Int64.le_iff_toInt_le, Int32.le_iff_toInt_le] at h
  rw [Int64.lt_iff_toInt_lt, Int32.lt_iff_toInt_lt]
  have h0 : (0 : Int32).toInt = 0 := by decide
  omega
theorem lgc_le (x y : Int64) : lg_cmp x y ≤ 0 ↔ x ≤ y := by
  have h := lgc_gt x y
  rw [Int64.lt_iff_toInt_lt, Int32.lt_iff_toInt_lt] at h
  rw [Int64.le_iff_toInt_le, Int32.le_iff_toInt_le]
  have h0 : (0 : Int32).toInt = 0 := by decide
  omega
/-! by bits -/
theorem iL_bv (a : Int) : (iL a).toBitVec = BitVec.ofInt 64 a := rfl
theorem iI_bv (a : Int) : (iI a).toBitVec = BitVec.ofInt 32 a := rfl
theorem iL_tn {a : Int} (h1 : 0 ≤ a) (h2 : a < 18446744073709551616) : (iL a).toBitVec.toNat = a.toNat := by
  rw [iL_bv, BitVec.toNat_ofInt]
  congr 1
  exact Int.emod_eq_of_lt h1 (by simpa using h2)
theorem iL_ofNat (n : Nat) : (iL (n : Int)).toBitVec = BitVec.ofNat 64 n := by
  rw [iL_bv]; exact BitVec.ofInt_natCast 64 n
theorem iL_inj {x y : Int64} (h : x.toBitVec = y.toBitVec) : x = y := Int64.toBitVec_inj.mp h
theorem iL_tnn (n : Nat) (h : n < 18446744073709551616) : (iL (n : Int)).toBitVec.toNat = n := by
  rw [iL_tn (by omega) (by omega)]; rfl
/-- equal by the numbers of their bits -/
theorem iL_ext {x : Int64} {n : Nat} (h : n < 18446744073709551616) (hx : x.toBitVec.toNat = n) : x = iL (n : Int) := by
  apply iL_inj
  apply BitVec.eq_of_toNat_eq
  rw [hx, iL_tnn n h]
/-- the amount of a shift -/
theorem sh_amt {k : Int} (h1 : 0 ≤ k) (h2 : k < 64) : ((iI k).toInt64 &&& 63) = iL k := by
  rw [iI_l (by omega) (by omega)]
  obtain ⟨n, rfl⟩ := Int.eq_ofNat_of_zero_le h1
  have hn : n < 64 := by omega
  refine iL_ext (by omega) ?_
  rw [Int64.toBitVec_and, BitVec.toNat_and, iL_tnn n (by omega)]
  show n &&& 63 = n
  have := Nat.and_two_pow_sub_one_eq_mod n 6
  simp only [show 2 ^ 6 - 1 = 63 from rfl] at this
  rw [this]; omega

theorem iL_toNat (a : Int) : (iL a).toBitVec.toNat = (a % 18446744073709551616).toNat := by
  rw [iL_bv, BitVec.toNat_ofInt]; rfl
theorem iI_toNat (a : Int) : (iI a).toBitVec.toNat = (a % 4294967296).toNat := by
  rw [iI_bv, BitVec.toNat_ofInt]; rfl
theorem iI_inj {x y : Int32} (h : x.toBitVec = y.toBitVec) : x = y := Int32.toBitVec_inj.mp h
theorem iI_tnn (n : Nat) (h : n < 4294967296) : (iI (n : Int)).toBitVec.toNat = n := by
  rw [iI_toNat]; omega
theorem iI_ext {x : Int32} {n : Nat} (h : n < 4294967296) (hx : x.toBitVec.toNat = n) : x = iI (n : Int) := by
  apply iI_inj
  apply BitVec.eq_of_toNat_eq
  rw [hx, iI_tnn n h]
theorem iI_ofNat (n : Nat) : (iI (n : Int)).toBitVec = BitVec.ofNat 32 n := by
  rw [iI_bv]; exact BitVec.ofInt_natCast 32 n
theorem iL_eqm {a b : Int} (h : a % 18446744073709551616 = b % 18446744073709551616) : iL a = iL b := by
  apply iL_inj; apply BitVec.eq_of_toNat_eq; rw [iL_toNat, iL_toNat, h]
theorem iI_eqm {a b : Int} (h : a % 4294967296 = b % 4294967296) : iI a = iI b := by
  apply iI_inj; apply BitVec.eq_of_toNat_eq; rw [iI_toNat, iI_toNat, h]
theorem emod_pow_nat (a : Int) (k w : Nat) (hk : k ≤ w) : (a % ((2 ^ w : Nat) : Int)).toNat % 2 ^ k = (a % ((2 ^ k : Nat) : Int)).toNat := by
  have hd : ((2 ^ k : Nat) : Int) ∣ ((2 ^ w : Nat) : Int) := Int.natCast_dvd_natCast.mpr (Nat.pow_dvd_pow 2 hk)
  have hp : (0 : Int) < ((2 ^ w : Nat) : Int) := Int.natCast_pos.mpr (Nat.two_pow_pos w)
  have hn : 0 ≤ a % ((2 ^ w : Nat) : Int) := Int.emod_nonneg a (by omega)
  have h1 := Int.emod_emod_of_dvd a hd
  rw [← h1]
  obtain ⟨q, hq⟩ := Int.eq_ofNat_of_zero_le hn
  rw [hq]
  rfl
theorem and_mask (a : Int) (k : Nat) (hk : k ≤ 63) : iL a &&& iL ((2 ^ k - 1 : Nat) : Int) = iL (a % ((2 ^ k : Nat) : Int)) := by
  apply iL_inj; apply BitVec.eq_of_toNat_eq
  rw [Int64.toBitVec_and, BitVec.toNat_and, iL_toNat, iL_toNat, iL_toNat]
  have hp : 2 ^ k ≤ 2 ^ 63 := Nat.pow_le_pow_right (by decide) hk
  have h0 : 0 < 2 ^ k := Nat.two_pow_pos k
  have h63 : (2 : Nat) ^ 63 = 9223372036854775808 := by decide
  have h1 : (((2 ^ k - 1 : Nat) : Int) % 18446744073709551616).toNat = 2 ^ k - 1 := by omega
  rw [h1, Nat.and_two_pow_sub_one_eq_mod]
  have h2 := emod_pow_nat a k 64 (by omega)
  have h64 : ((2 ^ 64 : Nat) : Int) = 18446744073709551616 := by decide
  rw [h64] at h2
  rw [h2]
  have hb : a % ((2 ^ k : Nat) : Int) < ((2 ^ k : Nat) : Int) := Int.emod_lt_of_pos a (by omega)
  have hc : 0 ≤ a % ((2 ^ k : Nat) : Int) := Int.emod_nonneg a (by omega)
  omega
theorem and_maskI (a : Int) (k : Nat) (hk : k ≤ 31) : iI a &&& iI ((2 ^ k - 1 : Nat) : Int) = iI (a % ((2 ^ k : Nat) : Int)) := by
  apply iI_inj; apply BitVec.eq_of_toNat_eq
  rw [Int32.toBitVec_and, BitVec.toNat_and, iI_toNat, iI_toNat, iI_toNat]
  have hp : 2 ^ k ≤ 2 ^ 31 := Nat.pow_le_pow_right (by decide) hk
  have h0 : 0 < 2 ^ k := Nat.two_pow_pos k
  have h63 : (2 : Nat) ^ 31 = 2147483648 := by decide
  have h1 : (((2 ^ k - 1 : Nat) : Int) % 4294967296).toNat = 2 ^ k - 1 := by omega
  rw [h1, Nat.and_two_pow_sub_one_eq_mod]
  have h2 := emod_pow_nat a k 32 (by omega)
  have h64 : ((2 ^ 32 : Nat) : Int) = 4294967296 := by decide
  rw [h64] at h2
  rw [h2]
  have hb : a % ((2 ^ k : Nat) : Int) < ((2 ^ k : Nat) : Int) := Int.emod_lt_of_pos a (by omega)
  have hc : 0 ≤ a % ((2 ^ k : Nat) : Int) := Int.emod_nonneg a (by omega)
  omega
theorem mask32 (a : Int) : iL a &&& (4294967295 : Int64) = iL (a % 4294967296) := and_mask a 32 (by decide)
theorem mask30 (a : Int) : iL a &&& (1073741823 : Int64) = iL (a % 1073741824) := and_mask a 30 (by decide)
theorem mask30I (a : Int) : iI a &&& (1073741823 : Int32) = iI (a % 1073741824) := and_maskI a 30 (by decide)
theorem mask5I (a : Int) : iI a &&& (31 : Int32) = iI (a % 32) := and_maskI a 5 (by decide)
theorem mask8 (a : Int) : iL a &&& (255 : Int64) = iL (a % 256) := and_mask a 8 (by decide)
theorem mask8I (a : Int) : iI a &&& (255 : Int32) = iI (a % 256) := and_maskI a 8 (by decide)
theorem mask1 (a : Int) : iL a &&& (1 : Int64) = iL (a % 2) := and_mask a 1 (by decide)
theorem mask1I (a : Int) : iI a &&& (1 : Int32) = iI (a % 2) := and_maskI a 1 (by decide)
theorem smod_amt : ∀ k : Fin 64, (BitVec.ofNat 64 k.val).smod 64 = BitVec.ofNat 64 k.val := by decide +kernel
theorem smod_amtI : ∀ k : Fin 32, (BitVec.ofNat 32 k.val).smod 32 = BitVec.ofNat 32 k.val := by decide +kernel
theorem lsh_iL (a : Int) {k : Nat} (hk : k < 64) : lsh (iL a) (iI (k : Int)) = iL (a * ((2 ^ k : Nat) : Int)) := by
  unfold lsh
  rw [sh_amt (by omega) (by omega)]
  apply iL_inj; apply BitVec.eq_of_toNat_eq
  have hs : (BitVec.ofNat 64 k).smod 64 = BitVec.ofNat 64 k := smod_amt ⟨k, hk⟩
  rw [Int64.toBitVec_shiftLeft, iL_ofNat, hs, BitVec.shiftLeft_eq', BitVec.toNat_shiftLeft, BitVec.toNat_ofNat, iL_toNat, iL_toNat, Nat.shiftLeft_eq]
  have hkm : k % 2 ^ 64 = k := by omega
  rw [hkm]
  have hn : 0 ≤ a % 18446744073709551616 := Int.emod_nonneg a (by omega)
  obtain ⟨q, hq⟩ := Int.eq_ofNat_of_zero_le hn
  rw [Int.mul_emod a, hq]
  have h3 : ((q : Int) * (((2 ^ k : Nat) : Int) % 18446744073709551616)) % 18446744073709551616 = (((q * 2 ^ k) % 2 ^ 64 : Nat) : Int) := by
    rw [Int.mul_emod, Int.emod_emod_of_dvd _ (Int.dvd_refl _), ← Int.mul_emod]
    rfl
  rw [h3]
  rfl
theorem lus_iL {a k : Nat} (ha : a < 18446744073709551616) (hk : k < 64) : lus (iL (a : Int)) (iI (k : Int)) = iL ((a / 2 ^ k : Nat) : Int) := by
  unfold lus
  have hq : a / 2 ^ k < 18446744073709551616 := Nat.lt_of_le_of_lt (Nat.div_le_self _ _) ha
  refine iL_ext hq ?_
  have hb : ((iI (k : Int)).toInt64.toUInt64 &&& Int64.toUInt64 63).toBitVec = BitVec.ofNat 64 k := by
    have e : ((iI (k : Int)).toInt64.toUInt64 &&& Int64.toUInt64 63).toBitVec = ((iI (k : Int)).toInt64 &&& 63).toBitVec := rfl
    rw [e, sh_amt (by omega) (by omega), iL_ofNat]
  show ((iL (a : Int)).toUInt64 >>> ((iI (k : Int)).toInt64.toUInt64 &&& Int64.toUInt64 63)).toBitVec.toNat = _
  rw [UInt64.toBitVec_shiftRight, hb]
  have h64 : (BitVec.ofNat 64 k % 64).toNat = k := by
    rw [BitVec.toNat_umod, BitVec.toNat_ofNat]; show k % 2 ^ 64 % 64 = k; omega
  rw [BitVec.ushiftRight_eq', BitVec.toNat_ushiftRight, h64]
  show (iL (a : Int)).toBitVec.toNat >>> k = _
  rw [iL_tnn a ha, Nat.shiftRight_eq_div_pow]
theorem lsr_toInt (x : Int64) {k : Nat} (hk : k < 64) : (lsr x (iI (k : Int))).toInt = x.toInt / ((2 ^ k : Nat) : Int) := by
  unfold lsr
  rw [sh_amt (by omega) (by omega)]
  have hs : (BitVec.ofNat 64 k).smod 64 = BitVec.ofNat 64 k := smod_amt ⟨k, hk⟩
  show (x >>> iL (k : Int)).toBitVec.toInt = _
  rw [Int64.toBitVec_shiftRight, iL_ofNat, hs, BitVec.sshiftRight_eq', BitVec.toInt_sshiftRight, BitVec.toNat_ofNat]
  have hkm : k % 2 ^ 64 = k := by omega
  rw [hkm, Int.shiftRight_eq_div_pow]
  rfl
theorem lsr_iL {a : Int} {k : Nat} (h1 : -9223372036854775808 ≤ a) (h2 : a < 9223372036854775808) (hk : k < 64) : lsr (iL a) (iI (k : Int)) = iL (a / ((2 ^ k : Nat) : Int)) := by
  have h := lsr_toInt (iL a) hk
  rw [iL_toInt h1 h2] at h
  rw [← Int64.ofInt_toInt (lsr (iL a) (iI (k : Int))), h]
  rfl
theorem sh_amtI {k : Nat} (hk : k < 32) : (iI (k : Int) &&& 31) = iI (k : Int) := by
  rw [mask5I]; congr 1; omega
theorem isr_toInt (x : Int32) {k : Nat} (hk : k < 32) : (isr x (iI (k : Int))).toInt = x.toInt / ((2 ^ k : Nat) : Int) := by
  unfold isr
  rw [sh_amtI hk]
  have hs : (BitVec.ofNat 32 k).smod 32 = BitVec.ofNat 32 k := smod_amtI ⟨k, hk⟩
  show (x >>> iI (k : Int)).toBitVec.toInt = _
  rw [Int32.toBitVec_shiftRight, iI_ofNat, hs, BitVec.sshiftRight_eq', BitVec.toInt_sshiftRight, BitVec.toNat_ofNat]
  have hkm : k % 2 ^ 32 = k := by omega
  rw [hkm, Int.shiftRight_eq_div_pow]
  rfl
theorem isr_iI {a : Int} {k : Nat} (h1 : -2147483648 ≤ a) (h2 : a < 2147483648) (hk : k < 32) : isr (iI a) (iI (k : Int)) = iI (a / ((2 ^ k : Nat) : Int)) := by
  have h := isr_toInt (iI a) hk
  rw [iI_toInt h1 h2] at h
  rw [← Int32.ofInt_toInt (isr (iI a) (iI (k : Int))), h]
  rfl
theorem ius_iI {a k : Nat} (ha : a < 4294967296) (hk : k < 32) : ius (iI (a : Int)) (iI (k : Int)) = iI ((a / 2 ^ k : Nat) : Int) := by
  unfold ius
  have hq : a / 2 ^ k < 4294967296 := Nat.lt_of_le_of_lt (Nat.div_le_self _ _) ha
  refine iI_ext hq ?_
  have hb : ((iI (k : Int)).toUInt32 &&& Int32.toUInt32 31).toBitVec = BitVec.ofNat 32 k := by
    have e : ((iI (k : Int)).toUInt32 &&& Int32.toUInt32 31).toBitVec = ((iI (k : Int)) &&& 31).toBitVec := rfl
    rw [e, sh_amtI hk, iI_ofNat]
  show ((iI (a : Int)).toUInt32 >>> ((iI (k : Int)).toUInt32 &&& Int32.toUInt32 31)).toBitVec.toNat = _
  rw [UInt32.toBitVec_shiftRight, hb]
  have h64 : (BitVec.ofNat 32 k % 32).toNat = k := by
    rw [BitVec.toNat_umod, BitVec.toNat_ofNat]; show k % 2 ^ 32 % 32 = k; omega
  rw [BitVec.ushiftRight_eq', BitVec.toNat_ushiftRight, h64]
  show (iI (a : Int)).toBitVec.toNat >>> k = _
  rw [iI_tnn a ha, Nat.shiftRight_eq_div_pow]
theorem ish_iI (a : Int) {k : Nat} (hk : k < 32) : ish (iI a) (iI (k : Int)) = iI (a * ((2 ^ k : Nat) : Int)) := by
  unfold ish
  rw [sh_amtI hk]
  apply iI_inj; apply BitVec.eq_of_toNat_eq
  have hs : (BitVec.ofNat 32 k).smod 32 = BitVec.ofNat 32 k := smod_amtI ⟨k, hk⟩
  rw [Int32.toBitVec_shiftLeft, iI_ofNat, hs, BitVec.shiftLeft_eq', BitVec.toNat_shiftLeft, BitVec.toNat_ofNat, iI_toNat, iI_toNat, Nat.shiftLeft_eq]
  have hkm : k % 2 ^ 32 = k := by omega
  rw [hkm]
  have hn : 0 ≤ a % 4294967296 := Int.emod_nonneg a (by omega)
  obtain ⟨q, hq⟩ := Int.eq_ofNat_of_zero_le hn
  rw [Int.mul_emod a, hq]
  have h3 : ((q : Int) * (((2 ^ k : Nat) : Int) % 4294967296)) % 4294967296 = (((q * 2 ^ k) % 2 ^ 32 : Nat) : Int) := by
    rw [Int.mul_emod, Int.emod_emod_of_dvd _ (Int.dvd_refl _), ← Int.mul_emod]
    rfl
  rw [h3]
  rfl
/-- or of what has no bit in common -/
theorem lor_iL {a b : Nat} (ha : a < 18446744073709551616) (hb : b < 18446744073709551616) : iL (a : Int) ||| iL (b : Int) = iL ((a ||| b : Nat) : Int) := by
  have h : a ||| b < 2 ^ 64 := Nat.or_lt_two_pow ha hb
  refine iL_ext h ?_
  rw [Int64.toBitVec_or, BitVec.toNat_or, iL_tnn a ha, iL_tnn b hb]
theorem lor_add {a b k : Nat} (hb : b < 2 ^ k) (h : a * 2 ^ k + b < 18446744073709551616) : iL ((a * 2 ^ k : Nat) : Int) ||| iL (b : Int) = iL ((a * 2 ^ k + b : Nat) : Int) := by
  rw [lor_iL (by omega) (by omega)]
  rw [Nat.mul_comm a, Nat.two_pow_add_eq_or_of_lt hb]
theorem lor_comm (x y : Int64) : x ||| y = y ||| x := by
  apply iL_inj; rw [Int64.toBitVec_or, Int64.toBitVec_or, BitVec.or_comm]
theorem lor_add' {a b k : Nat} (hb : b < 2 ^ k) (h : a * 2 ^ k + b < 18446744073709551616) : iL (b : Int) ||| iL ((a * 2 ^ k : Nat) : Int) = iL ((a * 2 ^ k + b : Nat) : Int) := by
  rw [lor_comm, lor_add hb h]
/-! division -/
theorem iI_div {a b : Int} (h1 : 0 ≤ a) (h2 : a < 2147483648) (h3 : 0 < b) (h4 : b < 2147483648) : iI a / iI b = iI (a / b) := by
  have hne : iI a ≠ Int32.minValue := by
    intro e
    have := congrArg Int32.toInt e
    rw [iI_toInt (by omega) h2] at this
    have hm : Int32.minValue.toInt = -2147483648 := by decide
    omega
  have h := Int32.toInt_div_of_ne_left (iI a) (iI b) hne
  rw [iI_toInt (by omega) h2, iI_toInt (by omega) h4, Int.tdiv_eq_ediv_of_nonneg h1] at h
  rw [← Int32.ofInt_toInt (iI a / iI b), h]
  rfl
theorem iI_tdiv {a b : Int} (h1 : -2147483648 < a) (h2 : a < 2147483648) (h3 : -2147483648 ≤ b) (h4 : b < 2147483648) : iI a / iI b = iI (a.tdiv b) := by
  have hne : iI a ≠ Int32.minValue := by
    intro e
    have := congrArg Int32.toInt e
    rw [iI_toInt (by omega) h2] at this
    have hm : Int32.minValue.toInt = -2147483648 := by decide
    omega
  have h := Int32.toInt_div_of_ne_left (iI a) (iI b) hne
  rw [iI_toInt (by omega) h2, iI_toInt (by omega) h4] at h
  rw [← Int32.ofInt_toInt (iI a / iI b), h]
  rfl
theorem iL_div {a b : Int} (h1 : 0 ≤ a) (h2 : a < 9223372036854775808) (h3 : 0 < b) (h4 : b < 9223372036854775808) : iL a / iL b = iL (a / b) := by
  have hne : iL a ≠ Int64.minValue := by
    intro e
    have := congrArg Int64.toInt e
    rw [iL_toInt (by omega) h2] at this
    have hm : Int64.minValue.toInt = -9223372036854775808 := by decide
    omega
  have h := Int64.toInt_div_of_ne_left (iL a) (iL b) hne
  rw [iL_toInt (by omega) h2, iL_toInt (by omega) h4, Int.tdiv_eq_ediv_of_nonneg h1] at h
  rw [← Int64.ofInt_toInt (iL a / iL b), h]
  rfl
theorem irm_iI {a b : Int} (h1 : 0 ≤ a) (h2 : a < 2147483648) (h3 : 0 < b) (h4 : b < 2147483648) : irm (iI a) (iI b) = iI (a % b) := by
  unfold irm
  rw [iI_div h1 h2 h3 h4, iI_mul, iI_sub]
  congr 1
  have := Int.emod_def a b
  rw [Int.mul_comm b] at this
  omega
theorem lrm_iL {a b : Int} (h1 : 0 ≤ a) (h2 : a < 9223372036854775808) (h3 : 0 < b) (h4 : b < 9223372036854775808) : lrm (iL a) (iL b) = iL (a % b) := by
  unfold lrm
  rw [iL_div h1 h2 h3 h4, iL_mul, iL_sub]
  congr 1
  have := Int.emod_def a b
  rw [Int.mul_comm b] at this
  omega
/-! comparisons of longs -/
theorem lc_eq {a b : Int} (h1 : -9223372036854775808 ≤ a) (h2 : a < 9223372036854775808) (h3 : -9223372036854775808 ≤ b) (h4 : b < 9223372036854775808) : lg_cmp (iL a) (iL b) = 0 ↔ a = b := by
  rw [lgc_eq, iL_eq h1 h2 h3 h4]
theorem lc_lt {a b : Int} (h1 : -9223372036854775808 ≤ a) (h2 : a < 9223372036854775808) (h3 : -9223372036854775808 ≤ b) (h4 : b < 9223372036854775808) : lg_cmp (iL a) (iL b) < 0 ↔ a < b := by
  rw [lgc_lt, iL_lt h1 h2 h3 h4]
theorem lc_le {a b : Int} (h1 : -9223372036854775808 ≤ a) (h2 : a < 9223372036854775808) (h3 : -9223372036854775808 ≤ b) (h4 : b < 9223372036854775808) : lg_cmp (iL a) (iL b) ≤ 0 ↔ a ≤ b := by
  rw [lgc_le, iL_le h1 h2 h3 h4]
theorem lc_ge {a b : Int} (h1 : -9223372036854775808 ≤ a) (h2 : a < 9223372036854775808) (h3 : -9223372036854775808 ≤ b) (h4 : b < 9223372036854775808) : 0 ≤ lg_cmp (iL a) (iL b) ↔ b ≤ a := by
  rw [lgc_ge, iL_le h3 h4 h1 h2]
theorem lc_gt {a b : Int} (h1 : -9223372036854775808 ≤ a) (h2 : a < 9223372036854775808) (h3 : -9223372036854775808 ≤ b) (h4 : b < 9223372036854775808) : 0 < lg_cmp (iL a) (iL b) ↔ b < a := by
  rw [lgc_gt, iL_lt h3 h4 h1 h2]
theorem lc_eq0 (a : Int) : lg_cmp (iL a) 0 = 0 ↔ a % 18446744073709551616 = 0 := by
  rw [lgc_eq]
  constructor
  · intro h
    have := congrArg (fun x => x.toBitVec.toNat) h
    simp only [iL_toNat] at this
    have h0 : (0 : Int64).toBitVec.toNat = 0 := by decide
    omega
  · intro h; exact iL_eqm (b := 0) (by omega)

/-! the written numbers -/
theorem wI_m5000 : (-5000 : Int32) = iI (-5000) := by decide
theorem wI_m3000 : (-3000 : Int32) = iI (-3000) := by decide
theorem wI_m2500 : (-2500 : Int32) = iI (-2500) := by decide
theorem wI_m1074 : (-1074 : Int32) = iI (-1074) := by decide
theorem wI_m500 : (-500 : Int32) = iI (-500) := by decide
theorem wI_m400 : (-400 : Int32) = iI (-400) := by decide
theorem wI_m149 : (-149 : Int32) = iI (-149) := by decide
theorem wI_m16 : (-16 : Int32) = iI (-16) := by decide
theorem wI_m13 : (-13 : Int32) = iI (-13) := by decide
theorem wI_m8 : (-8 : Int32) = iI (-8) := by decide
theorem wI_m4 : (-4 : Int32) = iI (-4) := by decide
theorem wI_m2 : (-2 : Int32) = iI (-2) := by decide
theorem wI_m1 : (-1 : Int32) = iI (-1) := by decide
theorem wI_0 : (0 : Int32) = iI 0 := rfl
theorem wI_1 : (1 : Int32) = iI 1 := rfl
theorem wI_2 : (2 : Int32) = iI 2 := rfl
theorem wI_3 : (3 : Int32) = iI 3 := rfl
theorem wI_4 : (4 : Int32) = iI 4 := rfl
theorem wI_5 : (5 : Int32) = iI 5 := rfl
theorem wI_6 : (6 : Int32) = iI 6 := rfl
theorem wI_8 : (8 : Int32) = iI 8 := rfl
theorem wI_9 : (9 : Int32) = iI 9 := rfl
theorem wI_10 : (10 : Int32) = iI 10 := rfl
theorem wI_13 : (13 : Int32) = iI 13 := rfl
theorem wI_16 : (16 : Int32) = iI 16 := rfl
theorem wI_20 : (20 : Int32) = iI 20 := rfl
theorem wI_24 : (24 : Int32) = iI 24 := rfl
theorem wI_25 : (25 : Int32) = iI 25 := rfl
theorem wI_30 : (30 : Int32) = iI 30 := rfl
theorem wI_31 : (31 : Int32) = iI 31 := rfl
theorem wI_32 : (32 : Int32) = iI 32 := rfl
theorem wI_43 : (43 : Int32) = iI 43 := rfl
theorem wI_45 : (45 : Int32) = iI 45 := rfl
theorem wI_46 : (46 : Int32) = iI 46 := rfl
theorem wI_48 : (48 : Int32) = iI 48 := rfl
theorem wI_53 : (53 : Int32) = iI 53 := rfl
theorem wI_57 : (57 : Int32) = iI 57 := rfl
theorem wI_58 : (58 : Int32) = iI 58 := rfl
theorem wI_60 : (60 : Int32) = iI 60 := rfl
theorem wI_62 : (62 : Int32) = iI 62 := rfl
theorem wI_63 : (63 : Int32) = iI 63 := rfl
theorem wI_64 : (64 : Int32) = iI 64 := rfl
theorem wI_65 : (65 : Int32) = iI 65 := rfl
theorem wI_97 : (97 : Int32) = iI 97 := rfl
theorem wI_100 : (100 : Int32) = iI 100 := rfl
theorem wI_101 : (101 : Int32) = iI 101 := rfl
theorem wI_102 : (102 : Int32) = iI 102 := rfl
theorem wI_104 : (104 : Int32) = iI 104 := rfl
theorem wI_105 : (105 : Int32) = iI 105 := rfl
theorem wI_110 : (110 : Int32) = iI 110 := rfl
theorem wI_112 : (112 : Int32) = iI 112 := rfl
theorem wI_120 : (120 : Int32) = iI 120 := rfl
theorem wI_127 : (127 : Int32) = iI 127 := rfl
theorem wI_160 : (160 : Int32) = iI 160 := rfl
theorem wI_255 : (255 : Int32) = iI 255 := rfl
theorem wI_256 : (256 : Int32) = iI 256 := rfl
theorem wI_400 : (400 : Int32) = iI 400 := rfl
theorem wI_500 : (500 : Int32) = iI 500 := rfl
theorem wI_792 : (792 : Int32) = iI 792 := rfl
theorem wI_971 : (971 : Int32) = iI 971 := rfl
theorem wI_1000 : (1000 : Int32) = iI 1000 := rfl
theorem wI_1077 : (1077 : Int32) = iI 1077 := rfl
theorem wI_1200 : (1200 : Int32) = iI 1200 := rfl
theorem wI_2047 : (2047 : Int32) = iI 2047 := rfl
theorem wI_2500 : (2500 : Int32) = iI 2500 := rfl
theorem wI_3000 : (3000 : Int32) = iI 3000 := rfl
theorem wI_5000 : (5000 : Int32) = iI 5000 := rfl
theorem wI_65536 : (65536 : Int32) = iI 65536 := rfl
theorem wI_1073741823 : (1073741823 : Int32) = iI 1073741823 := rfl
theorem wL_m1 : (-1 : Int64) = iL (-1) := by decide
theorem wL_0 : (0 : Int64) = iL 0 := rfl
theorem wL_1 : (1 : Int64) = iL 1 := rfl
theorem wL_2 : (2 : Int64) = iL 2 := rfl
theorem wL_5 : (5 : Int64) = iL 5 := rfl
theorem wL_10 : (10 : Int64) = iL 10 := rfl
theorem wL_255 : (255 : Int64) = iL 255 := rfl
theorem wL_2047 : (2047 : Int64) = iL 2047 := rfl
theorem wL_30103 : (30103 : Int64) = iL 30103 := rfl
theorem wL_100000 : (100000 : Int64) = iL 100000 := rfl
theorem wL_268435456 : (268435456 : Int64) = iL 268435456 := rfl
theorem wL_1000000000 : (1000000000 : Int64) = iL 1000000000 := rfl
theorem wL_1073741823 : (1073741823 : Int64) = iL 1073741823 := rfl
theorem wL_1220703125 : (1220703125 : Int64) = iL 1220703125 := rfl
theorem wL_2139095040 : (2139095040 : Int64) = iL 2139095040 := rfl
theorem wL_2147483648 : (2147483648 : Int64) = iL 2147483648 := rfl
theorem wL_4294967295 : (4294967295 : Int64) = iL 4294967295 := rfl
theorem wL_1085102592571150095 : (1085102592571150095 : Int64) = iL 1085102592571150095 := rfl
theorem wL_3689348814741910323 : (3689348814741910323 : Int64) = iL 3689348814741910323 := rfl
theorem wL_6148914691236517205 : (6148914691236517205 : Int64) = iL 6148914691236517205 := rfl
theorem wL_9218868437227405312 : (9218868437227405312 : Int64) = iL 9218868437227405312 := rfl
