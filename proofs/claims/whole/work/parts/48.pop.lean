/-! bitCount: 1 just of the powers of two -/
def rep8 (c : Nat) : Nat → Nat
  | 0 => 0
  | n + 1 => rep8 c n * 256 + c
theorem and_byte {x m c : Nat} (hc : c < 256) : x &&& (m * 256 + c) = (x / 256 &&& m) * 256 + (x % 256 &&& c) := by
  rw [and_split x (m * 256 + c) 8, show (2 : Nat) ^ 8 = 256 from rfl, show (m * 256 + c) / 256 = m by omega, show (m * 256 + c) % 256 = c by omega, Nat.mul_comm]
def stA (M x : Nat) : Nat := x - (x / 2 &&& M)
def stB (M x : Nat) : Nat := (x &&& M) + (x / 4 &&& M)
def stC (M x : Nat) : Nat := (x + x / 16) &&& M
theorem by85 : ∀ x : Fin 256, ∀ h : Fin 2, ((x.val / 2 + h.val * 128) % 256) &&& 85 = x.val / 2 &&& 85 := by decide +kernel
theorem by51 : ∀ x : Fin 256, ∀ h : Fin 4, ((x.val / 4 + h.val * 64) % 256) &&& 51 = x.val / 4 &&& 51 := by decide +kernel
theorem by51b : ∀ x : Fin 256, (x.val &&& 51) + (x.val / 4 &&& 51) ≤ 102 ∧ ((x.val &&& 51) + (x.val / 4 &&& 51)) % 16 ≤ 6 := by decide +kernel
theorem by15 : ∀ x : Fin 256, x.val &&& 15 = x.val % 16 := by decide +kernel
theorem stA_step {m hi lo : Nat} (h : lo < 256) : stA (m * 256 + 85) (hi * 256 + lo) = stA m hi * 256 + stA 85 lo := by
  unfold stA
  have e1 : (hi * 256 + lo) / 2 / 256 = hi / 2 := by omega
  have e2 : (hi * 256 + lo) / 2 % 256 = (lo / 2 + hi % 2 * 128) % 256 := by omega
  have e3 := by85 ⟨lo, h⟩ ⟨hi % 2, by omega⟩
  have e3' : (lo / 2 + hi % 2 * 128) % 256 &&& 85 = lo / 2 &&& 85 := e3
  rw [and_byte (by decide), e1, e2, e3']
  have h1 : (hi / 2 &&& m) ≤ hi / 2 := Nat.and_le_left
  have h2 : (lo / 2 &&& 85) ≤ lo / 2 := Nat.and_le_left
  omega
theorem stB_step {m hi lo : Nat} (h : lo < 256) : stB (m * 256 + 51) (hi * 256 + lo) = stB m hi * 256 + stB 51 lo := by
  unfold stB
  have e1 : (hi * 256 + lo) / 4 / 256 = hi / 4 := by omega
  have e2 : (hi * 256 + lo) / 4 % 256 = (lo / 4 + hi % 4 * 64) % 256 := by omega
  have e3 := by51 ⟨lo, h⟩ ⟨hi % 4, by omega⟩
  have e3' : (lo / 4 + hi % 4 * 64) % 256 &&& 51 = lo / 4 &&& 51 := e3
  rw [and_byte (by decide), and_byte (by decide), e1, e2, e3', show (hi * 256 + lo) / 256 = hi by omega, show (hi * 256 + lo) % 256 = lo by omega]
  omega
theorem stC_step {m hi lo : Nat} (h : lo ≤ 102) (hh : hi % 16 ≤ 6) : stC (m * 256 + 15) (hi * 256 + lo) = stC m hi * 256 + stC 15 lo := by
  unfold stC
  have e1 : (hi * 256 + lo + (hi * 256 + lo) / 16) / 256 = hi + hi / 16 := by omega
  have e2 : (hi * 256 + lo + (hi * 256 + lo) / 16) % 256 % 16 = (lo + lo / 16) % 16 := by omega
  have e3 := by15 ⟨(hi * 256 + lo + (hi * 256 + lo) / 16) % 256, by omega⟩
  have e3' : (hi * 256 + lo + (hi * 256 + lo) / 16) % 256 &&& 15 = (hi * 256 + lo + (hi * 256 + lo) / 16) % 256 % 16 := e3
  have e4 := by15 ⟨lo + lo / 16, by omega⟩
  have e4' : (lo + lo / 16) &&& 15 = (lo + lo / 16) % 16 := e4
  rw [and_byte (by decide), e1, e3', e2, e4']
theorem stB_low {m x : Nat} : stB (m * 256 + 51) x % 16 ≤ 6 := by
  have hx : x = x / 256 * 256 + x % 256 := by omega
  rw [hx, stB_step (by omega)]
  have := (by51b ⟨x % 256, by omega⟩).2
  have h2 : stB 51 (x % 256) % 16 ≤ 6 := this
  omega
def pc8 (b : Nat) : Nat := stC 15 (stB 51 (stA 85 b))
/-- all three stages, byte by byte -/
theorem st_step {n x : Nat} : stC (rep8 15 (n + 1)) (stB (rep8 51 (n + 1)) (stA (rep8 85 (n + 1)) x)) = stC (rep8 15 n) (stB (rep8 51 n) (stA (rep8 85 n) (x / 256))) * 256 + pc8 (x % 256) := by
  have hx : x = x / 256 * 256 + x % 256 := by omega
  have hl : x % 256 < 256 := by omega
  conv => lhs; rw [hx]
  show stC (rep8 15 n * 256 + 15) (stB (rep8 51 n * 256 + 51) (stA (rep8 85 n * 256 + 85) (x / 256 * 256 + x % 256))) = _
  have hA : stA 85 (x % 256) < 256 := by unfold stA; omega
  rw [stA_step hl, stB_step hA, stC_step]
  · rfl
  · exact (by51b ⟨stA 85 (x % 256), hA⟩).1
  · cases n with
    | zero => show stB 0 _ % 16 ≤ 6; unfold stB; rw [Nat.and_zero, Nat.and_zero]; decide
    | succ n => exact stB_low
theorem pc8_le : ∀ x : Fin 256, pc8 x.val ≤ 8 := by decide +kernel
theorem pc8_0 : ∀ x : Fin 256, pc8 x.val = 0 → x.val = 0 := by decide +kernel
theorem pc8_1 : ∀ x : Fin 256, pc8 x.val = 1 → x.val = 1 ∨ x.val = 2 ∨ x.val = 4 ∨ x.val = 8 ∨ x.val = 16 ∨ x.val = 32 ∨ x.val = 64 ∨ x.val = 128 := by decide +kernel
theorem uL_and {a b : Nat} (ha : a < 18446744073709551616) (hb : b < 18446744073709551616) : uL a &&& uL b = uL (a &&& b) := land_iL ha hb
theorem m55 : (6148914691236517205 : Int64) = uL (rep8 85 8) := by decide +kernel
theorem m33 : (3689348814741910323 : Int64) = uL (rep8 51 8) := by decide +kernel
theorem m0f : (1085102592571150095 : Int64) = uL (rep8 15 8) := by decide +kernel
theorem r85 : rep8 85 8 = 6148914691236517205 := by decide
theorem r51 : rep8 51 8 = 3689348814741910323 := by decide
theorem r15 : rep8 15 8 = 1085102592571150095 := by decide
theorem divB {A B c : Nat} (h : B < c) : (A * c + B) / c = A := by
  rw [Nat.add_comm, Nat.add_mul_div_right _ _ (by omega), Nat.div_eq_of_lt h, Nat.zero_add]
theorem mod128 (Y S : Nat) (h : S < 128) : (((Y * 256 + S : Nat) : Int) % ((2 ^ 7 : Nat) : Int)) = (S : Int) := by
  have e : ((2 ^ 7 : Nat) : Int) = 128 := rfl
  rw [e]; omega
theorem fold8 {p0 p1 p2 p3 p4 p5 p6 p7 i j k : Nat} (h0 : p0 ≤ 8) (h1 : p1 ≤ 8) (h2 : p2 ≤ 8) (h3 : p3 ≤ 8) (h4 : p4 ≤ 8) (h5 : p5 ≤ 8) (h6 : p6 ≤ 8) (h7 : p7 ≤ 8)
    (hi : i = (((((((p7 * 256 + p6) * 256 + p5) * 256 + p4) * 256 + p3) * 256 + p2) * 256 + p1) * 256 + p0)) (hj : j = i + i / 2 ^ 8) (hk : k = j + j / 2 ^ 16) :
    (((k + k / 2 ^ 32 : Nat) : Int) % ((2 ^ 7 : Nat) : Int)) = ((p0 + p1 + p2 + p3 + p4 + p5 + p6 + p7 : Nat) : Int) := by
  have d1 : i / 2 ^ 8 = ((((((p7) * 256 + p6) * 256 + p5) * 256 + p4) * 256 + p3) * 256 + p2) * 256 + p1 := by rw [hi]; exact divB (c := 256) (by omega)
  rw [d1] at hj
  have hj2 : j = ((((((p7) * 256 + (p6 + p7)) * 256 + (p5 + p6)) * 256 + (p4 + p5)) * 256 + (p3 + p4)) * 256 + (p2 + p3)) * 65536 + ((p1 + p2) * 256 + (p0 + p1)) := by rw [hj, hi]; clear d1 hi hj hk; omega
  have d2 : j / 2 ^ 16 = (((((p7) * 256 + (p6 + p7)) * 256 + (p5 + p6)) * 256 + (p4 + p5)) * 256 + (p3 + p4)) * 256 + (p2 + p3) := by rw [hj2]; exact divB (c := 65536) (by clear hj2 hj hk d1 hi; omega)
  rw [d2] at hk
  have hk2 : k = ((((p7) * 256 + (p6 + p7)) * 256 + (p5 + p6 + p7)) * 256 + (p4 + p5 + p6 + p7)) * 4294967296 + (((((p3 + p4 + p5 + p6)) * 256 + (p2 + p3 + p4 + p5)) * 256 + (p1 + p2 + p3 + p4)) * 256 + (p0 + p1 + p2 + p3)) := by rw [hk, hj2]; clear d1 hi hj hk hj2 d2; omega
  have d3 : k / 2 ^ 32 = (((p7) * 256 + (p6 + p7)) * 256 + (p5 + p6 + p7)) * 256 + (p4 + p5 + p6 + p7) := by rw [hk2]; exact divB (c := 4294967296) (by clear hj2 hj hk hk2 d1 hi d2; omega)
  have hs : k + k / 2 ^ 32 = ((((((((p7) * 256 + (p6 + p7)) * 256 + (p5 + p6 + p7)) * 256 + (p4 + p5 + p6 + p7)) * 256 + (p3 + p4 + p5 + p6)) * 256 + (p2 + p3 + p4 + p5)) * 256 + (p1 + p2 + p3 + p4)) + (((p7) * 256 + (p6 + p7)) * 256 + (p5 + p6 + p7))) * 256 + (p0 + p1 + p2 + p3 + p4 + p5 + p6 + p7) := by
    rw [d3, hk2]; clear d1 hi hj hk hj2 d2 hk2 d3; omega
  rw [hs]
  exact mod128 _ _ (by clear d1 hi hj hk hj2 d2 hk2 d3 hs; omega)
/-- the sum of the bytes -/
theorem pop_sum {m : Nat} (hm : m < 18446744073709551616) : f_J13_bitCount_95d88 (uL m) = some (uI (pc8 (m % 256) + pc8 (m / 256 % 256) + pc8 (m / 65536 % 256) + pc8 (m / 16777216 % 256) + pc8 (m / 4294967296 % 256) + pc8 (m / 1099511627776 % 256) + pc8 (m / 281474976710656 % 256) + pc8 (m / 72057594037927936 % 256))) := by
  have hA : (uL m - (lus (uL m) (1 : Int32) &&& (6148914691236517205 : Int64))) = uL (stA (rep8 85 8) m) := by
    have h1 : (m / 2 ^ 1 &&& rep8 85 8) ≤ m / 2 ^ 1 := Nat.and_le_left
    rw [vI_1, uL_lus hm (by decide), m55, uL_and (by omega) (by rw [r85]; decide), uL_sub (by omega)]; rfl
  have hAl : stA (rep8 85 8) m ≤ m := by unfold stA; omega
  generalize hx : stA (rep8 85 8) m = x at *
  have hB : ((uL x &&& (3689348814741910323 : Int64)) + (lus (uL x) (2 : Int32) &&& (3689348814741910323 : Int64))) = uL (stB (rep8 51 8) x) := by
    rw [vI_2, uL_lus (by omega) (by decide), m33, uL_and (by omega) (by rw [r51]; decide), uL_and (by omega) (by rw [r51]; decide), uL_add]; rfl
  have hBl : stB (rep8 51 8) x ≤ 3689348814741910323 + 3689348814741910323 := by
    unfold stB
    have h1 : (x &&& rep8 51 8) ≤ rep8 51 8 := Nat.and_le_right
    have h2 : (x / 4 &&& rep8 51 8) ≤ rep8 51 8 := Nat.and_le_right
    rw [r51] at *; omega
  generalize hy : stB (rep8 51 8) x = y at *
  have hC : ((uL y + lus (uL y) (4 : Int32)) &&& (1085102592571150095 : Int64)) = uL (stC (rep8 15 8) y) := by
    rw [vI_4, uL_lus (by omega) (by decide), uL_add, m0f, uL_and (by omega) (by rw [r15]; decide)]; rfl
  -- the value of the third stage, byte by byte
  have hz : stC (rep8 15 8) y = ((((((((pc8 (m / 72057594037927936 % 256)) * 256 + pc8 (m / 281474976710656 % 256)) * 256 + pc8 (m / 1099511627776 % 256)) * 256 + pc8 (m / 4294967296 % 256)) * 256 + pc8 (m / 16777216 % 256)) * 256 + pc8 (m / 65536 % 256)) * 256 + pc8 (m / 256 % 256)) * 256 + pc8 (m % 256)) := by
    rw [← hy, ← hx, st_step, st_step, st_step, st_step, st_step, st_step, st_step, st_step]
    have e0 : ∀ w, stC (rep8 15 0) (stB (rep8 51 0) (stA (rep8 85 0) w)) = 0 := by
      intro w; show stC 0 _ = 0; unfold stC; rw [Nat.and_zero]
    rw [e0]
    simp only [Nat.div_div_eq_div_mul, Nat.reduceMul, Nat.zero_mul, Nat.zero_add]
  have hp : ∀ w, pc8 (w % 256) ≤ 8 := fun w => pc8_le ⟨w % 256, by omega⟩
  have h0 := hp m
  have h1 := hp (m / 256)
  have h2 := hp (m / 65536)
  have h3 := hp (m / 16777216)
  have h4 := hp (m / 4294967296)
  have h5 := hp (m / 1099511627776)
  have h6 := hp (m / 281474976710656)
  have h7 := hp (m / 72057594037927936)
  unfold f_J13_bitCount_95d88
  rw [hA, hB, hC, hz]
  generalize pc8 (m % 256) = p0 at *
  generalize pc8 (m / 256 % 256) = p1 at *
  generalize pc8 (m / 65536 % 256) = p2 at *
  generalize pc8 (m / 16777216 % 256) = p3 at *
  generalize pc8 (m / 4294967296 % 256) = p4 at *
  generalize pc8 (m / 1099511627776 % 256) = p5 at *
  generalize pc8 (m / 281474976710656 % 256) = p6 at *
  generalize pc8 (m / 72057594037927936 % 256) = p7 at *
  generalize hi : (((((((p7 * 256 + p6) * 256 + p5) * 256 + p4) * 256 + p3) * 256 + p2) * 256 + p1) * 256 + p0) = i
  have hib : i < 1000000000000000000 := by omega
  have e8 : uL i + lus (uL i) (8 : Int32) = uL (i + i / 2 ^ 8) := by rw [vI_8, uL_lus (by omega) (by decide), uL_add]
  rw [e8]
  generalize hj : i + i / 2 ^ 8 = j
  have hjb : j < 2000000000000000000 := by omega
  have e16 : uL j + lus (uL j) (16 : Int32) = uL (j + j / 2 ^ 16) := by rw [vI_16, uL_lus (by omega) (by decide), uL_add]
  rw [e16]
  generalize hk : j + j / 2 ^ 16 = k
  have hkb : k < 4000000000000000000 := by omega
  have e32 : uL k + lus (uL k) (32 : Int32) = uL (k + k / 2 ^ 32) := by rw [vI_32, uL_lus (by omega) (by decide), uL_add]
  rw [e32, uL_toI, show (127 : Int32) = iI ((2 ^ 7 - 1 : Nat) : Int) from rfl, and_maskI _ 7 (by decide)]
  congr 2
  exact fold8 h0 h1 h2 h3 h4 h5 h6 h7 hi.symm hj.symm hk.symm
theorem pop_one {m : Nat} (hm : m < 2 ^ 53) (h : f_J13_bitCount_95d88 (uL m) = some (1 : Int32)) : ∃ k, m = 2 ^ k := by
  rw [pop_sum (by omega)] at h
  have hp : ∀ w, pc8 (w % 256) ≤ 8 := fun w => pc8_le ⟨w % 256, by omega⟩
  have h0 := hp m
  have h1 := hp (m / 256)
  have h2 := hp (m / 65536)
  have h3 := hp (m / 16777216)
  have h4 := hp (m / 4294967296)
  have h5 := hp (m / 1099511627776)
  have h6 := hp (m / 281474976710656)
  have h7 := hp (m / 72057594037927936)
  have hs := (uI_eq (b := 1) (by omega) (by omega)).mp (Option.some.inj h)
  have z : ∀ w, pc8 (w % 256) = 0 → w % 256 = 0 := fun w => pc8_0 ⟨w % 256, by omega⟩
  have o : ∀ w, pc8 (w % 256) = 1 → ∃ k, k < 8 ∧ w % 256 = 2 ^ k := by
    intro w hw
    rcases pc8_1 ⟨w % 256, by omega⟩ hw with g | g | g | g | g | g | g | g
    · exact ⟨0, by omega, g⟩
    · exact ⟨1, by omega, g⟩
    · exact ⟨2, by omega, g⟩
    · exact ⟨3, by omega, g⟩
    · exact ⟨4, by omega, g⟩
    · exact ⟨5, by omega, g⟩
    · exact ⟨6, by omega, g⟩
    · exact ⟨7, by omega, g⟩
  have z0 := z m
  have z1 := z (m / 256)
  have z2 := z (m / 65536)
  have z3 := z (m / 16777216)
  have z4 := z (m / 4294967296)
  have z5 := z (m / 1099511627776)
  have z6 := z (m / 281474976710656)
  have z7 := z (m / 72057594037927936)
  have hfin : ∀ j k w, m = 2 ^ j * (w % 256) → w % 256 = 2 ^ k → ∃ k, m = 2 ^ k := by
    intro j k w e1 e2
    exact ⟨j + k, by rw [Nat.pow_add, e1, e2]⟩
  by_cases c0 : pc8 (m % 256) = 1
  · obtain ⟨k, _, e⟩ := o m c0
    refine hfin 0 k m ?_ e
    have a1 := z1 (by omega); have a2 := z2 (by omega); have a3 := z3 (by omega); have a4 := z4 (by omega); have a5 := z5 (by omega); have a6 := z6 (by omega); have a7 := z7 (by omega)
    omega
  · have a0 := z0 (by omega)
    by_cases c1 : pc8 (m / 256 % 256) = 1
    · obtain ⟨k, _, e⟩ := o (m / 256) c1
      refine hfin 8 k (m / 256) ?_ e
      have a2 := z2 (by omega); have a3 := z3 (by omega); have a4 := z4 (by omega); have a5 := z5 (by omega); have a6 := z6 (by omega); have a7 := z7 (by omega)
      omega
    · have a1 := z1 (by omega)
      by_cases c2 : pc8 (m / 65536 % 256) = 1
      · obtain ⟨k, _, e⟩ := o (m / 65536) c2
        refine hfin 16 k (m / 65536) ?_ e
        have a3 := z3 (by omega); have a4 := z4 (by omega); have a5 := z5 (by omega); have a6 := z6 (by omega); have a7 := z7 (by omega)
        omega
      · have a2 := z2 (by omega)
        by_cases c3 : pc8 (m / 16777216 % 256) = 1
        · obtain ⟨k, _, e⟩ := o (m / 16777216) c3
          refine hfin 24 k (m / 16777216) ?_ e
          have a4 := z4 (by omega); have a5 := z5 (by omega); have a6 := z6 (by omega); have a7 := z7 (by omega)
          omega
        · have a3 := z3 (by omega)
          by_cases c4 : pc8 (m / 4294967296 % 256) = 1
          · obtain ⟨k, _, e⟩ := o (m / 4294967296) c4
            refine hfin 32 k (m / 4294967296) ?_ e
            have a5 := z5 (by omega); have a6 := z6 (by omega); have a7 := z7 (by omega)
            omega
          · have a4 := z4 (by omega)
            by_cases c5 : pc8 (m / 1099511627776 % 256) = 1
            · obtain ⟨k, _, e⟩ := o (m / 1099511627776) c5
              refine hfin 40 k (m / 1099511627776) ?_ e
              have a6 := z6 (by omega); have a7 := z7 (by omega)
              omega
            · have a5 := z5 (by omega)
              by_cases c6 : pc8 (m / 281474976710656 % 256) = 1
              · obtain ⟨k, _, e⟩ := o (m / 281474976710656) c6
                refine hfin 48 k (m / 281474976710656) ?_ e
                have a7 := z7 (by omega)
                omega
              · have a6 := z6 (by omega)
                obtain ⟨k, _, e⟩ := o (m / 72057594037927936) (by omega)
                refine hfin 56 k (m / 72057594037927936) ?_ e
                omega
theorem one_pop : ∀ k : Fin 53, f_J13_bitCount_95d88 (uL (2 ^ k.val)) = some (1 : Int32) := by decide +kernel
theorem pop_ex (m : Nat) (hm : m < 18446744073709551616) : ∃ c, f_J13_bitCount_95d88 (uL m) = some c := ⟨_, pop_sum hm⟩
