/-! trailing noughts of a long -/
theorem x_not (u : Nat) (hu : u < 4294967296) : uI u ^^^ (-1 : Int32) = uI (4294967295 - u) := by
  refine iI_ext (by omega) ?_
  have e : (-1 : Int32).toBitVec = BitVec.allOnes 32 := by decide
  rw [Int32.toBitVec_xor, e, BitVec.xor_allOnes, BitVec.toNat_not, iI_tnn u hu]
theorem and_uI {a b : Nat} (ha : a < 4294967296) (hb : b < 4294967296) : uI a &&& uI b = uI (a &&& b) := by
  have h : a &&& b < 4294967296 := Nat.lt_of_le_of_lt Nat.and_le_left ha
  refine iI_ext h ?_
  rw [Int32.toBitVec_and, BitVec.toNat_and, iI_tnn a ha, iI_tnn b hb]
theorem compl_and {n k : Nat} (hk : k < 2 ^ n) : (2 ^ n - (k + 1)) &&& k = 0 := by
  apply Nat.eq_of_testBit_eq
  intro i
  rw [Nat.testBit_and, Nat.testBit_two_pow_sub_succ hk, Nat.zero_testBit]
  cases k.testBit i <;> simp
theorem tz_ex {u : Nat} (hu : u ≠ 0) (h32 : u < 4294967296) : ∃ z k, z < 32 ∧ u = 2 ^ z * (2 * k + 1) := by
  have key : ∀ n, u < 2 ^ n → ∃ z k, z < n ∧ u = 2 ^ z * (2 * k + 1) := by
    intro n
    induction n generalizing u with
    | zero => intro h; rw [Nat.pow_zero] at h; omega
    | succ n ih =>
      intro h
      by_cases ho : u % 2 = 1
      · exact ⟨0, u / 2, by omega, by rw [Nat.pow_zero]; omega⟩
      · rw [Nat.pow_succ] at h
        obtain ⟨z, k, h1, h2⟩ := ih (u := u / 2) (by omega) (by omega) (by omega)
        refine ⟨z + 1, k, by omega, ?_⟩
        rw [Nat.pow_succ, Nat.mul_comm (2 ^ z) 2, Nat.mul_assoc, ← h2]; omega
  exact key 32 h32
theorem tz_mask {z k : Nat} (hz : z < 32) (h : 2 ^ z * (2 * k + 1) < 4294967296) : (4294967295 - 2 ^ z * (2 * k + 1)) &&& (2 ^ z * (2 * k + 1) - 1) = 2 ^ z - 1 := by
  have hp : 0 < 2 ^ z := Nat.two_pow_pos z
  have e32 : 4294967296 = 2 ^ z * 2 ^ (32 - z) := by rw [← Nat.pow_add, show z + (32 - z) = 32 by omega]
  have e31 : 2 ^ (32 - z) = 2 * 2 ^ (31 - z) := by rw [← Nat.pow_succ']; congr 1; omega
  have hk : 2 * k + 1 < 2 ^ (32 - z) := by
    apply Nat.lt_of_not_le
    intro hle
    have := Nat.mul_le_mul_left (2 ^ z) hle
    omega
  have hk31 : k < 2 ^ (31 - z) := by omega
  have eA : 4294967295 - 2 ^ z * (2 * k + 1) = 2 ^ z * (2 * (2 ^ (31 - z) - (k + 1))) + (2 ^ z - 1) := by
    have g : 2 ^ z * (2 * (2 ^ (31 - z) - (k + 1))) + 2 ^ z * (2 * k + 1) + 2 ^ z = 4294967296 := by
      rw [e32, e31, ← Nat.mul_add, ← Nat.mul_succ]; congr 1; omega
    omega
  have eB : 2 ^ z * (2 * k + 1) - 1 = 2 ^ z * (2 * k) + (2 ^ z - 1) := by
    rw [Nat.mul_add, Nat.mul_one]; omega
  rw [eA, eB, and_split _ _ z]
  have d1 : ∀ y, (2 ^ z * y + (2 ^ z - 1)) / 2 ^ z = y := fun y => by
    rw [Nat.add_comm, Nat.add_mul_div_left _ _ hp, Nat.div_eq_of_lt (by omega), Nat.zero_add]
  have d2 : ∀ y, (2 ^ z * y + (2 ^ z - 1)) % 2 ^ z = 2 ^ z - 1 := fun y => by
    rw [Nat.add_comm, Nat.add_mul_mod_self_left, Nat.mod_eq_of_lt (by omega)]
  rw [d1, d1, d2, d2, Nat.and_self]
  have e0 : 2 * (2 ^ (31 - z) - (k + 1)) &&& 2 * k = 0 := by
    rw [and_split _ _ 1, Nat.pow_one, Nat.mul_div_cancel_left _ (by decide), Nat.mul_div_cancel_left _ (by decide), compl_and hk31, Nat.mul_mod_right, Nat.mul_mod_right]; rfl
  rw [e0]; omega
theorem tz_tab : ∀ z : Fin 32, (if 0 < uI (2 ^ z.val - 1) then if uI (2 ^ z.val - 1) ≤ (65536 : Int32) then f_J6_numberOfTrailingZeros_0f7a4_B34 (uI (2 ^ z.val - 1)) 1 else f_J6_numberOfTrailingZeros_0f7a4_B34 (ius (uI (2 ^ z.val - 1)) 16) (1 + 16) else some (uI (2 ^ z.val - 1) &&& (32 : Int32))) = some (uI z.val) := by decide +kernel
theorem ntz32 {u : Nat} (hu : u ≠ 0) (h32 : u < 4294967296) : ∃ z, f_J6_numberOfTrailingZeros_0f7a4 (uI u) = some (uI z) ∧ z < 32 ∧ 2 ^ z ∣ u := by
  obtain ⟨z, k, hz, rfl⟩ := tz_ex hu h32
  refine ⟨z, ?_, hz, ⟨_, rfl⟩⟩
  unfold f_J6_numberOfTrailingZeros_0f7a4
  have hp : 0 < 2 ^ z * (2 * k + 1) := Nat.pos_of_ne_zero hu
  have e : (uI (2 ^ z * (2 * k + 1)) ^^^ (-1 : Int32)) &&& (uI (2 ^ z * (2 * k + 1)) - (1 : Int32)) = uI (2 ^ z - 1) := by
    rw [x_not _ h32, uI_pos_pred hp, and_uI (by omega) (by omega), tz_mask hz h32]
  rw [e]
  exact tz_tab ⟨z, hz⟩
theorem ntz64 {m : Nat} (hm0 : m ≠ 0) (hm : m < 18446744073709551616) : ∃ z, f_J13_numberOfTrailingZeros_95d88 (uL m) = some (uI z) ∧ z < 64 ∧ 2 ^ z ∣ m := by
  unfold f_J13_numberOfTrailingZeros_95d88
  have elo : (uL m).toInt32 = uI (m % 4294967296) := by
    rw [uL_toI]; exact iI_eqm (by omega)
  rw [elo, uL_shr32 hm, uL_toI]
  by_cases hl : m % 4294967296 = 0
  · obtain ⟨z, h1, h2, h3⟩ := ntz32 (u := m / 4294967296) (by omega) (by omega)
    rw [if_pos (by rw [hl]; rfl), h1, Option.bind_some]
    refine ⟨32 + z, by rw [vI_32, uI_add], by omega, ?_⟩
    obtain ⟨y, hy⟩ := h3
    refine ⟨y, ?_⟩
    rw [Nat.pow_add, Nat.mul_assoc, ← hy]
    show m = 4294967296 * (m / 4294967296)
    omega
  · obtain ⟨z, h1, h2, h3⟩ := ntz32 (u := m % 4294967296) hl (by omega)
    have hne : ¬ uI (m % 4294967296) = 0 := fun e => by
      have e2 := congrArg (fun x => x.toBitVec.toNat) e
      simp only [iI_tnn _ (show m % 4294967296 < 4294967296 by omega)] at e2
      exact hl e2
    rw [if_neg hne, h1, Option.bind_some]
    refine ⟨z, rfl, by omega, ?_⟩
    have hd : 2 ^ z ∣ 4294967296 := ⟨2 ^ (32 - z), by rw [← Nat.pow_add, show z + (32 - z) = 32 by omega]⟩
    rw [← Nat.div_add_mod m 4294967296]
    exact Nat.dvd_add (Nat.dvd_trans hd (Nat.dvd_mul_right _ _)) h3
/-! all figures of a number -/
theorem ten_low {N : Nat} : ∀ c0 c1, c1 ≤ c0 → N < 10 ^ c0 → (∀ j, c1 ≤ j → j < c0 → N / 10 ^ j % 10 = 0) → N < 10 ^ c1 := by
  intro c0
  induction c0 with
  | zero => intro c1 h1 hN _; rw [show c1 = 0 by omega]; exact hN
  | succ c ih =>
    intro c1 h1 hN hz
    by_cases e : c1 = c + 1
    · rw [e]; exact hN
    · have h0 := hz c (by omega) (by omega)
      rw [dg_top hN] at h0
      exact ih c1 (by omega) ((Nat.div_eq_zero_iff_lt (ten_pos c)).mp h0) (fun j a b => hz j a (by omega))
theorem ten_zero {N : Nat} : ∀ z, (∀ i, i < z → N / 10 ^ i % 10 = 0) → N % 10 ^ z = 0 := by
  intro z
  induction z with
  | zero => intro _; rw [Nat.pow_zero, Nat.mod_one]
  | succ z ih =>
    intro h
    rw [Nat.mod_pow_succ, ih (fun i hi => h i (by omega)), h z (by omega), Nat.mul_zero]
/-- noughts at the end of figures fall away -/
theorem fg_trim {N c : Nat} {T : Int} {count top : Int32} {row : Nat → Int32} (h : fgOK N c T count top row) :
    ∃ c', f_X1_trim row count = some (uI c') ∧ c' ≤ c ∧ N = N / 10 ^ (c - c') * 10 ^ (c - c') ∧ fgOK (N / 10 ^ (c - c')) c' T (uI c') top row ∧ (c' = 0 ∨ N / 10 ^ (c - c') % 10 ≠ 0) := by
  obtain ⟨rfl, hc, ht, t1, t2, hN, hr⟩ := h
  obtain ⟨c', g1, g2, g3, g4⟩ := x1_trimL (g := fun j => N / 10 ^ (c - 1 - j) % 10) (fun j => Nat.mod_lt _ (by decide)) c FU (by rw [hFU]; omega) hc hr
  have hz : N % 10 ^ (c - c') = 0 := ten_zero _ (fun i hi => by
    have := g3 (c - 1 - i) (by omega) (by omega)
    simp only [show c - 1 - (c - 1 - i) = i by omega] at this
    exact this)
  have hN2 : N = N / 10 ^ (c - c') * 10 ^ (c - c') := by
    have := Nat.div_add_mod N (10 ^ (c - c'))
    rw [hz, Nat.add_zero, Nat.mul_comm] at this
    exact this.symm
  refine ⟨c', g1, g2, hN2, ⟨rfl, by omega, ht, t1, t2, ?_, fun j hj => ?_⟩, ?_⟩
  · apply Nat.div_lt_of_lt_mul
    rw [← Nat.pow_add, show c - c' + c' = c by omega]; exact hN
  · rw [hr j (by omega), Nat.div_div_eq_div_mul, ← Nat.pow_add, show c - c' + (c' - 1 - j) = c - 1 - j by omega]
  · rcases g4 with e | e
    · exact Or.inl e
    · by_cases h0 : c' = 0
      · exact Or.inl h0
      · right
        simp only [show c - 1 - (c' - 1) = c - c' by omega] at e
        exact e
/-- D times 10 to the K is m times 2 to the e -/
def dv (D : Nat) (K : Int) (m : Nat) (e : Int) : Prop := D * 10 ^ K.toNat * 2 ^ (-e).toNat = m * 2 ^ e.toNat * 10 ^ (-K).toNat
theorem dv_scale {D z m : Nat} {k e : Int} (h : dv (D * 10 ^ z) k m e) : dv D (k + z) m e := by
  unfold dv at h ⊢
  have hp : 0 < 10 ^ (-k).toNat := ten_pos _
  apply Nat.eq_of_mul_eq_mul_right hp
  have h2 : D * 10 ^ z * 10 ^ k.toNat * 2 ^ (-e).toNat * 10 ^ (-(k + z)).toNat = m * 2 ^ e.toNat * 10 ^ (-k).toNat * 10 ^ (-(k + z)).toNat := by rw [h]
  have e1 : D * 10 ^ (k + z).toNat * 2 ^ (-e).toNat * 10 ^ (-k).toNat = D * 2 ^ (-e).toNat * 10 ^ ((k + z).toNat + (-k).toNat) := by
    rw [Nat.pow_add]; simp only [Nat.mul_comm, Nat.mul_left_comm, Nat.mul_assoc]
  have e2 : D * 10 ^ z * 10 ^ k.toNat * 2 ^ (-e).toNat * 10 ^ (-(k + z)).toNat = D * 2 ^ (-e).toNat * 10 ^ (z + k.toNat + (-(k + z)).toNat) := by
    rw [Nat.pow_add, Nat.pow_add]; simp only [Nat.mul_comm, Nat.mul_left_comm, Nat.mul_assoc]
  have e3 : z + k.toNat + (-(k + z)).toNat = (k + z).toNat + (-k).toNat := by omega
  rw [e1, ← e3, ← e2, h2]
  simp only [Nat.mul_comm, Nat.mul_left_comm, Nat.mul_assoc]
theorem five_two (n : Nat) : 10 ^ n = 5 ^ n * 2 ^ n := by rw [← Nat.mul_pow]
theorem big_ten : (2 : Nat) ^ 53 * 5 ^ 1074 < 10 ^ 792 := by decide +kernel
theorem big_ten2 : (2 : Nat) ^ 1100 < 10 ^ 792 := by decide +kernel
theorem x1_exact {m : Nat} {e : Int} (hm0 : m ≠ 0) (hm : m < 2 ^ 53) (he1 : -1074 ≤ e) (he2 : e ≤ 971) (ct tp : Int32) (row : Nat → Int32) (ws : Int32) (wl : Nat → Int64) :
    ∃ D c T top row' s L, f_X1_takeExactly (uL m) (iI e) ct tp row ws wl = some (uI c, top, row', s, L) ∧ fgOK D c T (uI c) top row' ∧ D % 10 ≠ 0 ∧ 0 < c ∧ 10 ^ (c - 1) ≤ D ∧ dv D (T - c + 1) m e ∧ -1074 ≤ T - c + 1 ∧ T ≤ 800 ∧ -1074 ≤ T := by
  obtain ⟨z2, hz1, hz2, hz3⟩ := ntz64 hm0 (show m < 18446744073709551616 by omega)
  have hmz : m / 2 ^ z2 * 2 ^ z2 = m := Nat.div_mul_cancel hz3
  have hm' : m / 2 ^ z2 < 2 ^ 53 := Nat.lt_of_le_of_lt (Nat.div_le_self _ _) hm
  have hm'0 : m / 2 ^ z2 ≠ 0 := by
    intro h0; rw [h0, Nat.zero_mul] at hmz; exact hm0 hmz.symm
  have hz53 : z2 ≤ 52 := by
    apply Nat.le_of_not_lt
    intro hlt
    have h53 : 2 ^ 53 ≤ 2 ^ z2 := Nat.pow_le_pow_right (by decide) hlt
    have := Nat.mul_le_mul (Nat.pos_of_ne_zero hm'0) h53
    omega
  obtain ⟨s1, L1, g1, g2⟩ := x4_take ws wl (u := m / 2 ^ z2) (by omega)
  unfold f_X1_takeExactly
  rw [hz1, Option.bind_some, uL_lus (by omega) (by omega), g1, Option.bind_some, iI_add]
  -- behind the scaling
  have hB47 : ∀ (N : Nat) (k : Int) s L, R32 s L N → N ≠ 0 → N < 10 ^ 792 → k = min (e + z2) 0 → dv N k m e → ∃ D c T top row' s' L', f_X1_takeExactly_B47 (uL m) (iI e) (iI (e + z2)) ct tp row s L = some (uI c, top, row', s', L') ∧ fgOK D c T (uI c) top row' ∧ D % 10 ≠ 0 ∧ 0 < c ∧ 10 ^ (c - 1) ≤ D ∧ dv D (T - c + 1) m e ∧ -1074 ≤ T - c + 1 ∧ T ≤ 800 ∧ -1074 ≤ T := by
    intro N k s L hR hN0 hN hk hdv
    unfold f_X1_takeExactly_B47 f_X1_takeBackwards
    obtain ⟨c0, row1, s2, L2, b1, _, b3, b4, _, b6⟩ := x1_back 88 FU 0 N row s L (by rw [hFU]; omega) (by omega) hN hR
    have b1' : f_X1_takeBackwards_L7 FU (0 : Int32) (0 : Int32) row s L = some (uI c0, row1, s2, L2) := b1
    rw [b1', Option.bind_some]
    simp only [Nat.mul_zero, Nat.sub_zero, Nat.zero_add] at b4 b6
    obtain ⟨c1, t1, t2, t3, t4⟩ := x1_trimL (g := fun j => N / 10 ^ j % 10) (fun j => Nat.mod_lt _ (by decide)) c0 FU (by rw [hFU]; omega) b3 b6
    have t1' : f_X1_trim row1 (uI c0) = some (uI c1) := t1
    have hNc1 := ten_low c0 c1 t2 b4 t3
    have hc1 : c1 ≠ 0 := by
      intro h0; rw [h0, Nat.pow_zero] at hNc1; omega
    have hlead : 10 ^ (c1 - 1) ≤ N := by
      rcases t4 with h0 | h0
      · exact absurd h0 hc1
      · apply Nat.le_of_not_lt
        intro hlt
        apply h0
        show N / 10 ^ (c1 - 1) % 10 = 0
        rw [Nat.div_eq_of_lt hlt]
    obtain ⟨row2, u1, u2⟩ := x1_turn (n := c1) (row0 := row1) (by omega)
    rw [t1', Option.bind_some, u1, Option.bind_some, wI_0, min_iI (by omega) (by omega) (by omega) (by omega), Option.bind_some, wI_1, iI_sub, iI_add]
    have hfg : fgOK N c1 ((c1 : Int) - 1 + min (e + z2) 0) (uI c1) (iI ((c1 : Int) - 1 + min (e + z2) 0)) row2 := by
      refine ⟨rfl, by omega, rfl, by omega, by omega, hNc1, fun j hj => ?_⟩
      rw [u2 j hj, b6 _ (by omega)]
    obtain ⟨c2, v1, v2, v3, v4, v5⟩ := fg_trim hfg
    rw [v1, Option.bind_some]
    have hD0 : N / 10 ^ (c1 - c2) ≠ 0 := by
      intro h0; rw [h0, Nat.zero_mul] at v3; exact hN0 v3
    have hc2 : 0 < c2 := by
      apply Nat.pos_of_ne_zero
      intro h0
      subst h0
      exact hD0 (Nat.lt_one_iff.mp v4.2.2.2.2.2.1)
    refine ⟨_, c2, _, _, row2, s2, L2, rfl, v4, ?_, hc2, ?_, ?_, by omega, by omega, by omega⟩
    · rcases v5 with h0 | h0
      · omega
      · exact h0
    · apply (Nat.le_div_iff_mul_le (ten_pos _)).mpr
      rw [← Nat.pow_add, show c2 - 1 + (c1 - c2) = c1 - 1 by omega]; exact hlead
    · rw [v3] at hdv
      have := dv_scale hdv
      rw [show (c1 : Int) - 1 + min (e + z2) 0 - c2 + 1 = k + ((c1 - c2 : Nat) : Int) by omega]
      exact this
  have hbm : bl (m / 2 ^ z2) ≤ 53 := bl_le_of_lt hm'
  by_cases hneg : e + z2 < 0
  · have en : -(iI (e + z2)) = uI (-(e + z2)).toNat := by rw [iI_neg]; show iI _ = iI _; congr 1; omega
    have hle5 : m / 2 ^ z2 * 5 ^ (-(e + z2)).toNat < 10 ^ 792 := by
      have h5 : 5 ^ (-(e + z2)).toNat ≤ 5 ^ 1074 := Nat.pow_le_pow_right (by decide) (by omega)
      have := Nat.mul_le_mul (Nat.le_of_lt hm') h5
      have := big_ten
      omega
    have hroom : (10 : Nat) ^ 792 ≤ 4294967296 ^ 160 := by
      have : (10 : Nat) ^ 792 ≤ 16 ^ 792 := Nat.pow_le_pow_left (by decide) _
      rw [show (16 : Nat) = 2 ^ 4 from rfl, ← Nat.pow_mul] at this
      rw [q_pow]
      exact Nat.le_trans this (Nat.pow_le_pow_right (by decide) (by decide))
    obtain ⟨s3, L3, w1, w2⟩ := x4_fives g2 (n := (-(e + z2)).toNat) (by omega) (by omega)
    have w1' : f_X4_scaleByFives (uI (-(e + z2)).toNat) (s1, L1).1 (s1, L1).2 = some (s3, L3) := w1
    rw [if_pos (by rw [wI_0, iI_lt (by omega) (by omega) (by omega) (by omega)]; exact hneg), en, w1', Option.bind_some]
    refine hB47 _ (e + z2) s3 L3 w2 ?_ hle5 (by omega) ?_
    · exact Nat.mul_ne_zero hm'0 (by have := Nat.pow_pos (n := (-(e + z2)).toNat) (show 0 < 5 by decide); omega)
    · unfold dv
      have e1 : (e + z2).toNat = 0 := by omega
      have e2 : e.toNat = 0 := by omega
      rw [e1, e2, Nat.pow_zero, Nat.mul_one, Nat.mul_one, five_two]
      conv => rhs; rw [← hmz]
      have e3 : 2 ^ (-e).toNat = 2 ^ z2 * 2 ^ (-(e + z2)).toNat := by rw [← Nat.pow_add]; congr 1; omega
      rw [e3]; simp only [Nat.mul_comm, Nat.mul_left_comm, Nat.mul_assoc]
  · obtain ⟨s3, L3, w1, w2⟩ := x4_shiftI (a := e + z2) g2 (by omega) (by omega)
    have w1' : f_X4_shiftUp (iI (e + z2)) (s1, L1).1 (s1, L1).2 = some (s3, L3) := w1
    rw [if_neg (by rw [wI_0, iI_lt (by omega) (by omega) (by omega) (by omega)]; exact hneg), w1', Option.bind_some]
    refine hB47 _ 0 s3 L3 w2 ?_ ?_ (by omega) ?_
    · exact Nat.mul_ne_zero hm'0 (by have := Nat.two_pow_pos (e + z2).toNat; omega)
    · have h1 : m / 2 ^ z2 * 2 ^ (e + z2).toNat < 2 ^ 1100 := by
        have hb := bl_shift_le (m / 2 ^ z2) (e + z2).toNat
        exact lt_of_bl_le (by omega)
      have := big_ten2
      omega
    · unfold dv
      rw [show (0 : Int).toNat = 0 from rfl, show (-0 : Int).toNat = 0 from rfl, Nat.pow_zero, Nat.mul_one, Nat.mul_one]
      conv => rhs; rw [← hmz]
      rw [Nat.mul_assoc, Nat.mul_assoc, ← Nat.pow_add, ← Nat.pow_add]
      congr 2; omega
/-! cutting -/
def hfB (N D : Nat) : Bool := decide (D ≤ 2 * (N % D))
def rfB (N D : Nat) : Bool := decide (N % D ≠ 0) && decide (2 * (N % D) ≠ D)
def rndZ (way sg N D : Nat) : Nat := N / D + (if gO way sg (N / D % 2 == 1) (hfB N D) (rfB N D) then 1 else 0)
theorem frac_eq {N1 D1 N2 D2 : Nat} (h1 : 0 < D1) (h2 : 0 < D2) (h : N1 * D2 = N2 * D1) : N1 / D1 = N2 / D2 ∧ N1 % D1 * D2 = N2 % D2 * D1 := by
  have e1 : N1 * D2 / (D1 * D2) = N1 / D1 := Nat.mul_div_mul_right _ _ h2
  have e2 : N2 * D1 / (D1 * D2) = N2 / D2 := by rw [Nat.mul_comm D1]; exact Nat.mul_div_mul_right _ _ h1
  have e3 : N1 * D2 % (D1 * D2) = N1 % D1 * D2 := Nat.mul_mod_mul_right _ _ _
  have e4 : N2 * D1 % (D1 * D2) = N2 % D2 * D1 := by rw [Nat.mul_comm D1]; exact Nat.mul_mod_mul_right _ _ _
  rw [← e1, ← e2, ← e3, ← e4, h]
  exact ⟨rfl, rfl⟩
theorem rndZ_eq {way sg N1 D1 N2 D2 : Nat} (h1 : 0 < D1) (h2 : 0 < D2) (h : N1 * D2 = N2 * D1) : rndZ way sg N1 D1 = rndZ way sg N2 D2 := by
  obtain ⟨hq, hr⟩ := frac_eq h1 h2 h
  have hh : hfB N1 D1 = hfB N2 D2 := by
    unfold hfB
    rw [Bool.eq_iff_iff, decide_eq_true_iff, decide_eq_true_iff]
    have a1 : D1 ≤ 2 * (N1 % D1) ↔ D1 * D2 ≤ 2 * (N1 % D1) * D2 := (Nat.mul_le_mul_right_iff h2).symm
    have a2 : D2 ≤ 2 * (N2 % D2) ↔ D2 * D1 ≤ 2 * (N2 % D2) * D1 := (Nat.mul_le_mul_right_iff h1).symm
    rw [a1, a2, Nat.mul_assoc, Nat.mul_assoc, hr, Nat.mul_comm D1]
  have hr2 : rfB N1 D1 = rfB N2 D2 := by
    unfold rfB
    have a1 : N1 % D1 = 0 ↔ N2 % D2 = 0 := by
      constructor
      · intro h0; rw [h0, Nat.zero_mul] at hr
        rcases Nat.mul_eq_zero.mp hr.symm with g | g
        · exact g
        · omega
      · intro h0; rw [h0, Nat.zero_mul] at hr
        rcases Nat.mul_eq_zero.mp hr with g | g
        · exact g
        · omega
    have a2 : 2 * (N1 % D1) = D1 ↔ 2 * (N2 % D2) = D2 := by
      have b1 : 2 * (N1 % D1) = D1 ↔ 2 * (N1 % D1) * D2 = D1 * D2 := (Nat.mul_left_inj (by omega)).symm
      have b2 : 2 * (N2 % D2) = D2 ↔ 2 * (N2 % D2) * D1 = D2 * D1 := (Nat.mul_left_inj (by omega)).symm
      rw [b1, b2, Nat.mul_assoc, Nat.mul_assoc, hr, Nat.mul_comm D1]
    simp only [Ne, a1, a2]
  unfold rndZ
  rw [hq, hh, hr2]
/-- figures of nine at the end -/
theorem x1_ninesL {row : Nat → Int32} {g : Nat → Nat} (hg : ∀ j, g j < 10) (tp : Int32) : ∀ c fuel, c < fuel → c ≤ 792 → (∀ j, j < c → row j = uI (g j)) → ∃ c', f_X1_addOneAt_L61 fuel (uI c) tp row = f_X1_addOneAt_B97 (uI c') tp row ∧ c' ≤ c ∧ (∀ j, c' ≤ j → j < c → g j = 9) ∧ (c' = 0 ∨ g (c' - 1) ≠ 9) := by
  intro c
  induction c with
  | zero =>
    intro fuel hf hc hr
    obtain ⟨m, rfl, _⟩ := ex_succ hf
    refine ⟨0, ?_, Nat.le_refl _, fun j h1 h2 => by omega, Or.inl rfl⟩
    rw [f_X1_addOneAt_L61, if_pos (by exact (uI_le0 (by omega)).mpr rfl)]
  | succ c ih =>
    intro fuel hf hc hr
    obtain ⟨m, rfl, hm⟩ := ex_succ hf
    have hgc := hg c
    rw [f_X1_addOneAt_L61, if_neg (by exact fun x => by have := (uI_le0 (by omega)).mp x; omega), uI_pred, if_pos (by exact (uI_vIn (by omega)).mpr (by omega)), uI_clamp (by omega), hr c (by omega)]
    by_cases h9 : g c = 9
    · obtain ⟨c', g1, g2, g3, g4⟩ := ih m (by omega) (by omega) (fun j hj => hr j (by omega))
      rw [if_pos (by rw [h9]; rfl)]
      refine ⟨c', g1, by omega, fun j h1 h2 => ?_, g4⟩
      by_cases e : j = c
      · rw [e]; exact h9
      · exact g3 j h1 (by omega)
    · rw [if_neg (by exact fun x => h9 ((uI_eq (b := 9) (by omega) (by omega)).mp x))]
      exact ⟨c + 1, rfl, Nat.le_refl _, fun j h1 h2 => by omega, Or.inr (by rw [Nat.add_sub_cancel]; exact h9)⟩
theorem x1_padL {keep : Nat} {tp : Int32} (hk : keep ≤ 792) : ∀ n c fuel row, c + n = keep → n < fuel → ∃ row', f_X1_addOneAt_L20 fuel (uI keep) (uI c) tp row = f_X1_addOneAt_L61 FU (uI keep) tp row' ∧ (∀ j, j < c → row' j = row j) ∧ (∀ j, c ≤ j → j < keep → row' j = uI 0) := by
  intro n
  induction n with
  | zero =>
    intro c fuel row hc hf
    obtain ⟨m, rfl, _⟩ := ex_succ hf
    refine ⟨row, ?_, fun j _ => rfl, fun j h1 h2 => by omega⟩
    rw [f_X1_addOneAt_L20, if_pos (by exact (uI_le (by omega) (by omega)).mpr (by omega)), show c = keep by omega]
  | succ n ih =>
    intro c fuel row hc hf
    obtain ⟨m, rfl, hm⟩ := ex_succ hf
    obtain ⟨row', g1, g2, g3⟩ := ih (c + 1) m (upd row c (uI 0)) (by omega) (by omega)
    refine ⟨row', ?_, fun j hj => ?_, fun j h1 h2 => ?_⟩
    · rw [f_X1_addOneAt_L20, if_neg (by exact fun x => by have := (uI_le (by omega) (by omega)).mp x; omega), if_neg (by exact fun x => by have := (uI_le (a := 792) (by omega) (by omega)).mp x; omega), if_pos (by exact (uI_vIn (by omega)).mpr (by omega)), uI_clamp (by omega), uI_succ]
      exact g1
    · rw [g2 j (by omega), upd_ne _ _ (by omega)]
    · by_cases e : j = c
      · subst e; rw [g2 j (by omega), upd_eq]
      · exact g3 j (by omega) h2
theorem nines {Z : Nat} : ∀ j, (∀ i, i < j → Z / 10 ^ i % 10 = 9) → Z % 10 ^ j = 10 ^ j - 1 := by
  intro j
  induction j with
  | zero => intro _; rw [Nat.pow_zero, Nat.mod_one]
  | succ j ih =>
    intro h
    rw [Nat.mod_pow_succ, ih (fun i hi => h i (by omega)), h j (by omega), Nat.pow_succ]
    have := ten_pos j
    omega
/-- one more in the last of keep figures that make Z -/
theorem fg_addOneX {Z Z1 c1 keep : Nat} {T : Int} {top : Int32} {row : Nat → Int32} (hk0 : 0 < keep) (hk : keep ≤ 792) (hc1 : c1 ≤ keep) (hZ : Z = Z1 * 10 ^ (keep - c1)) (h : fgOK Z1 c1 T (uI c1) top row) (hT : T < 2000) (hlead : 10 ^ (keep - 1) ≤ Z) (un : Int32) :
    ∃ E c' T' count' top' row', f_X1_addOneAt un (uI keep) (uI c1) top row = some (count', top', row') ∧ fgOK E c' T' count' top' row' ∧ 0 < c' ∧ 10 ^ (c' - 1) ≤ E ∧ ∃ z : Nat, Z + 1 = E * 10 ^ z ∧ T' - c' + 1 = T - keep + 1 + z ∧ E % 10 ≠ 0 := by
  obtain ⟨_, hc, rfl, t1, t2, hZ1, hr⟩ := h
  have hZk : Z < 10 ^ keep := by
    rw [hZ, show (10 : Nat) ^ keep = 10 ^ c1 * 10 ^ (keep - c1) by rw [← Nat.pow_add]; congr 1; omega]
    exact Nat.mul_lt_mul_of_pos_right hZ1 (ten_pos _)
  unfold f_X1_addOneAt
  rw [if_pos (by exact (uI_gt0 (by omega)).mpr hk0)]
  obtain ⟨row1, g1, g2, g3⟩ := x1_padL (tp := iI T) hk (keep - c1) c1 FU row (by omega) (by rw [hFU]; omega)
  have hrow1 : ∀ j, j < keep → row1 j = uI (Z / 10 ^ (keep - 1 - j) % 10) := by
    intro j hj
    by_cases hjc : j < c1
    · rw [g2 j hjc, hr j hjc, hZ, show keep - 1 - j = (keep - c1) + (c1 - 1 - j) by omega, Nat.pow_add, ← Nat.div_div_eq_div_mul, Nat.mul_div_cancel _ (ten_pos _)]
    · rw [g3 j (by omega) hj]
      congr 1
      have hlow : Z % 10 ^ (keep - c1) = 0 := by rw [hZ]; exact Nat.mul_mod_left _ _
      have hd : Z % 10 ^ (keep - 1 - j + 1) = 0 := by
        rw [← Nat.mod_mod_of_dvd Z (Nat.pow_dvd_pow 10 (show keep - 1 - j + 1 ≤ keep - c1 by omega)), hlow, Nat.zero_mod]
      rw [Nat.mod_pow_succ] at hd
      have hz : Z / 10 ^ (keep - 1 - j) % 10 = 0 := by
        rcases Nat.mul_eq_zero.mp (show 10 ^ (keep - 1 - j) * (Z / 10 ^ (keep - 1 - j) % 10) = 0 by omega) with q | q
        · have := ten_pos (keep - 1 - j); omega
        · exact q
      rw [hz]
  obtain ⟨c9, q1, q2, q3, q4⟩ := x1_ninesL (row := row1) (g := fun j => Z / 10 ^ (keep - 1 - j) % 10) (fun j => Nat.mod_lt _ (by decide)) (iI T) keep FU (by rw [hFU]; omega) hk hrow1
  rw [g1, q1]
  unfold f_X1_addOneAt_B97
  have hnin : Z % 10 ^ (keep - c9) = 10 ^ (keep - c9) - 1 := nines _ (fun i hi => by
    have := q3 (keep - 1 - i) (by omega) (by omega)
    simp only [show keep - 1 - (keep - 1 - i) = i by omega] at this
    exact this)
  have hdm := Nat.div_add_mod Z (10 ^ (keep - c9))
  have hp := ten_pos (keep - c9)
  by_cases h0 : c9 = 0
  · subst h0
    rw [Nat.sub_zero] at hnin hdm hp
    rw [Nat.mod_eq_of_lt hZk] at hnin
    have ha : f_X1_append (1 : Int32) (uI 0) row1 = some (uI 1, upd row1 0 (uI 1)) := x1_append (c := 0) (d := 1) (by omega)
    rw [if_pos (by exact (uI_le0 (by omega)).mpr rfl), ha, Option.bind_some, wI_1, iI_add]
    refine ⟨1, 1, T + 1, _, _, _, rfl, ⟨rfl, by omega, rfl, by omega, by omega, by decide, fun j hj => ?_⟩, by omega, by decide, keep, by omega, by omega, by decide⟩
    have : j = 0 := by omega
    subst this
    show upd row1 0 (uI 1) 0 = uI 1
    rw [upd_eq]
  · have hA9 : Z / 10 ^ (keep - c9) % 10 ≠ 9 := by
      rcases q4 with e | e
      · exact absurd e h0
      · simp only [show keep - 1 - (c9 - 1) = keep - c9 by omega] at e
        exact e
    have hAlt : Z / 10 ^ (keep - c9) < 10 ^ c9 := by
      apply Nat.div_lt_of_lt_mul
      rw [← Nat.pow_add, show keep - c9 + c9 = keep by omega]; exact hZk
    have hA1 : Z / 10 ^ (keep - c9) + 1 < 10 ^ c9 := by
      apply Nat.lt_of_le_of_ne hAlt
      intro he
      apply hA9
      obtain ⟨y, rfl⟩ : ∃ y, c9 = y + 1 := ⟨c9 - 1, by omega⟩
      rw [Nat.pow_succ] at he
      have := ten_pos y
      omega
    rw [if_neg (by exact fun x => h0 ((uI_le0 (by omega)).mp x)), uI_pos_pred (by omega), if_pos (by exact (uI_vIn (by omega)).mpr (by omega)), uI_clamp (by omega), hrow1 (c9 - 1) (by omega), show keep - 1 - (c9 - 1) = keep - c9 by omega]
    refine ⟨Z / 10 ^ (keep - c9) + 1, c9, T, _, _, _, rfl, ⟨rfl, by omega, rfl, by omega, by omega, hA1, fun j hj => ?_⟩, by omega, ?_, keep - c9, ?_, by omega, ?_⟩
    · by_cases e : j = c9 - 1
      · subst e
        rw [upd_eq, show c9 - 1 - (c9 - 1) = 0 by omega, Nat.pow_zero, Nat.div_one, uI_succ]
        congr 1
        have hm10 : Z / 10 ^ (keep - c9) % 10 < 10 := Nat.mod_lt _ (by decide)
        generalize Z / 10 ^ (keep - c9) = A at *
        omega
      · rw [upd_ne _ _ e, hrow1 j (by omega)]
        obtain ⟨y, hy⟩ : ∃ y, c9 - 1 - j = y + 1 := ⟨c9 - 1 - j - 1, by omega⟩
        rw [hy, show keep - 1 - j = (keep - c9) + (y + 1) by omega, Nat.pow_add, ← Nat.div_div_eq_div_mul, Nat.pow_succ, Nat.mul_comm (10 ^ y) 10, ← Nat.div_div_eq_div_mul, ← Nat.div_div_eq_div_mul]
        have : (Z / 10 ^ (keep - c9) + 1) / 10 = Z / 10 ^ (keep - c9) / 10 := by omega
        rw [this]
    · have : 10 ^ (c9 - 1) ≤ Z / 10 ^ (keep - c9) := by
        apply (Nat.le_div_iff_mul_le hp).mpr
        rw [← Nat.pow_add, show c9 - 1 + (keep - c9) = keep - 1 by omega]; exact hlead
      omega
    · rw [Nat.add_mul, Nat.one_mul, Nat.mul_comm]; omega
    · omega
theorem fg_addOne {Z Z1 c1 keep : Nat} {T : Int} {top : Int32} {row : Nat → Int32} (hk0 : 0 < keep) (hk : keep ≤ 792) (hc1 : c1 ≤ keep) (hZ : Z = Z1 * 10 ^ (keep - c1)) (h : fgOK Z1 c1 T (uI c1) top row) (hT : T < 2000) (hlead : 10 ^ (keep - 1) ≤ Z) (un : Int32) :
    ∃ E c' T' count' top' row', f_X1_addOneAt un (uI keep) (uI c1) top row = some (count', top', row') ∧ fgOK E c' T' count' top' row' ∧ 0 < c' ∧ 10 ^ (c' - 1) ≤ E ∧ ∃ z : Nat, Z + 1 = E * 10 ^ z ∧ T' - c' + 1 = T - keep + 1 + z := by
  obtain ⟨E, c', T', b1, b2, b3, g1, g2, g3, g4, z, g5, g6, _⟩ := fg_addOneX hk0 hk hc1 hZ h hT hlead un
  exact ⟨E, c', T', b1, b2, b3, g1, g2, g3, g4, z, g5, g6⟩
theorem fg_cut {D c way sg : Nat} {T keep : Int} {count top : Int32} {row : Nat → Int32} (h : fgOK D c T count top row) (hD10 : D % 10 ≠ 0) (hc0 : 0 < c) (hlead : 10 ^ (c - 1) ≤ D) (hs : sg ≤ 1) (hw : way < 4) (hk : keep < c) (hk1 : -3000 ≤ keep) (hu1 : -2000 ≤ T - keep + 1) (hu2 : T - keep + 1 ≤ 2000) (hT : T < 2000) :
    ∃ E c' T' count' top' row', f_X1_cut (iI keep) (uI sg) (uI way) count top row = some (count', top', row') ∧ fgOK E c' T' count' top' row' ∧ (∃ z : Nat, rndZ way sg D (10 ^ (c - keep).toNat) = E * 10 ^ z ∧ (0 < c' → T' - c' + 1 = T - keep + 1 + z)) ∧ (rndZ way sg D (10 ^ (c - keep).toNat) = 0 → c' = 0 ∧ T' = T) ∧ (rndZ way sg D (10 ^ (c - keep).toNat) ≠ 0 → 0 < c' ∧ 10 ^ (c' - 1) ≤ E) := by
  have hh := h
  obtain ⟨rfl, hc, rfl, t1, t2, hDc, hr⟩ := h
  obtain ⟨s, hs1⟩ : ∃ s : Nat, (c : Int) - keep = ((s + 1 : Nat) : Int) := ⟨((c : Int) - keep - 1).toNat, by omega⟩
  have es : ((c : Int) - keep).toNat = s + 1 := by omega
  rw [es]
  have hp := ten_pos s
  have hpow : (10 : Nat) ^ (s + 1) = 10 ^ s * 10 := Nat.pow_succ 10 s
  -- the figure cut off first, and the rest
  have hoff : D / 10 ^ s % 10 < 10 := Nat.mod_lt _ (by decide)
  have hr' : D % 10 ^ s < 10 ^ s := Nat.mod_lt _ hp
  have hmod : D % 10 ^ (s + 1) = D % 10 ^ s + 10 ^ s * (D / 10 ^ s % 10) := Nat.mod_pow_succ
  have hrest0 : D % 10 ^ s = 0 ↔ s = 0 := by
    constructor
    · intro h0
      apply Classical.byContradiction
      intro hs0
      apply hD10
      obtain ⟨y, rfl⟩ : ∃ y, s = y + 1 := ⟨s - 1, by omega⟩
      have hdv : 10 ∣ 10 ^ (y + 1) := ⟨10 ^ y, by rw [Nat.pow_succ']⟩
      rw [← Nat.mod_mod_of_dvd D hdv, h0]
    · intro h0; rw [h0, Nat.pow_zero, Nat.mod_one]
  have hhalf : hfB D (10 ^ (s + 1)) = decide (5 ≤ D / 10 ^ s % 10) := by
    unfold hfB
    rw [Bool.eq_iff_iff, decide_eq_true_iff, decide_eq_true_iff, hmod, hpow]
    generalize D / 10 ^ s % 10 = o at *
    generalize D % 10 ^ s = r at *
    generalize 10 ^ s = P at *
    constructor
    · intro hle
      apply Nat.le_of_not_lt
      intro hlt
      have := Nat.mul_le_mul_left P (show o ≤ 4 by omega)
      omega
    · intro hle
      have := Nat.mul_le_mul_left P hle
      omega
  have hrest : rfB D (10 ^ (s + 1)) = (decide (D / 10 ^ s % 10 % 5 ≠ 0) || decide (s ≠ 0)) := by
    unfold rfB
    rw [Bool.eq_iff_iff, Bool.and_eq_true, Bool.or_eq_true, decide_eq_true_iff, decide_eq_true_iff, decide_eq_true_iff, decide_eq_true_iff, hmod, hpow]
    by_cases hs0 : s = 0
    · subst hs0
      rw [Nat.pow_zero, Nat.mod_one, Nat.div_one, Nat.one_mul, Nat.zero_add]
      rw [Nat.pow_zero, Nat.div_one] at hoff
      omega
    · have hne : D % 10 ^ s ≠ 0 := fun x => hs0 (hrest0.mp x)
      constructor
      · intro _; exact Or.inr hs0
      · intro _
        refine ⟨by omega, ?_⟩
        intro heq
        have hdv : 10 ^ s ∣ 2 * (D % 10 ^ s) := by
          have : 2 * (D % 10 ^ s) = 10 ^ s * 10 - 2 * (10 ^ s * (D / 10 ^ s % 10)) := by omega
          rw [this]
          refine Nat.dvd_sub ⟨10, rfl⟩ ⟨2 * (D / 10 ^ s % 10), ?_⟩
          rw [← Nat.mul_assoc, Nat.mul_comm 2, Nat.mul_assoc]
        obtain ⟨y, hy⟩ := hdv
        have hy1 : y = 1 := by
          have : y ≠ 0 := fun x => by rw [x, Nat.mul_zero] at hy; omega
          have h2 : y < 2 := by
            apply Nat.lt_of_not_le
            intro hle
            have := Nat.mul_le_mul_left (10 ^ s) hle
            omega
          omega
        rw [hy1, Nat.mul_one] at hy
        -- then 10 to the s times an odd number is twice .. : the figure would be no figure
        rw [Nat.mul_add, hy] at heq
        have heq2 : 10 ^ s * (2 * (D / 10 ^ s % 10) + 1) = 10 ^ s * 10 := by
          rw [Nat.mul_add, Nat.mul_one, ← heq, ← Nat.mul_assoc, Nat.mul_comm (10 ^ s) 2, Nat.mul_assoc]; omega
        have := Nat.eq_of_mul_eq_mul_left hp heq2
        omega
  unfold f_X1_cut f_X1_cut_B22 f_X1_cut_B35 f_X1_cut_B54
  rw [if_pos (by exact (iI_lt (by omega) (by omega) (by omega) (by omega)).mpr hk)]
  -- from the flags on
  have h78 : ∀ odd : Bool, odd = (D / 10 ^ (s + 1) % 2 == 1) → ∃ E c' T' count' top' row', f_X1_cut_B78 (iI keep) (uI sg) (uI way) (bI (hfB D (10 ^ (s + 1)))) (bI (rfB D (10 ^ (s + 1)))) (bI odd) (uI c) (iI T) row = some (count', top', row') ∧ fgOK E c' T' count' top' row' ∧ (∃ z : Nat, rndZ way sg D (10 ^ (s + 1)) = E * 10 ^ z ∧ (0 < c' → T' - c' + 1 = T - keep + 1 + z)) ∧ (rndZ way sg D (10 ^ (s + 1)) = 0 → c' = 0 ∧ T' = T) ∧ (rndZ way sg D (10 ^ (s + 1)) ≠ 0 → 0 < c' ∧ 10 ^ (c' - 1) ≤ E) := by
    rintro odd rfl
    unfold f_X1_cut_B78 rndZ
    rw [x2_goesOn _ _ _ hs hw, Option.bind_some, wI_0, max_iI (by omega) (by omega) (by omega) (by omega), Option.bind_some]
    have ekeep : iI (max keep 0) = uI keep.toNat := by show iI _ = iI _; congr 1; omega
    rw [ekeep]
    have hZ : fgOK (D / 10 ^ (s + 1)) keep.toNat T (uI keep.toNat) (iI T) row := by
      refine ⟨rfl, by omega, rfl, t1, t2, ?_, fun j hj => ?_⟩
      · apply Nat.div_lt_of_lt_mul
        rw [← Nat.pow_add]
        exact Nat.lt_of_lt_of_le hDc (Nat.pow_le_pow_right (by decide) (by omega))
      · rw [hr j (by omega), Nat.div_div_eq_div_mul, ← Nat.pow_add, show s + 1 + (keep.toNat - 1 - j) = c - 1 - j by omega]
    obtain ⟨c1, g1, g2, g3, g4, g5⟩ := fg_trim hZ
    rw [g1, Option.bind_some]
    generalize hgo : gO way sg (D / 10 ^ (s + 1) % 2 == 1) (hfB D (10 ^ (s + 1))) (rfB D (10 ^ (s + 1))) = go
    have hZlead : 0 < keep → 10 ^ (keep.toNat - 1) ≤ D / 10 ^ (s + 1) := by
      intro hk0
      apply (Nat.le_div_iff_mul_le (ten_pos _)).mpr
      rw [← Nat.pow_add, show keep.toNat - 1 + (s + 1) = c - 1 by omega]; exact hlead
    have hZ0 : keep ≤ 0 → D / 10 ^ (s + 1) = 0 := by
      intro hk0
      exact Nat.div_eq_of_lt (Nat.lt_of_lt_of_le hDc (Nat.pow_le_pow_right (by decide) (by omega)))
    cases go
    · rw [if_pos (by decide)]
      refine ⟨_, c1, T, _, _, row, rfl, g4, ⟨keep.toNat - c1, by simpa using g3, fun hc1 => by omega⟩, fun h0 => ?_, fun h0 => ?_⟩
      · have hz : D / 10 ^ (s + 1) = 0 := by simpa using h0
        refine ⟨?_, rfl⟩
        apply Classical.byContradiction
        intro hne
        rcases g5 with e | e
        · exact hne e
        · rw [hz, Nat.zero_div] at e
          exact e (Nat.zero_mod _)
      · have hz : D / 10 ^ (s + 1) ≠ 0 := by simpa using h0
        have hk0 : 0 < keep := by
          apply Classical.byContradiction
          intro hno
          exact hz (hZ0 (by omega))
        have hl := hZlead hk0
        have hc1 : 0 < c1 := by
          apply Nat.pos_of_ne_zero
          intro e
          subst e
          have h00 := Nat.lt_one_iff.mp g4.2.2.2.2.2.1
          rw [h00, Nat.zero_mul] at g3
          exact hz g3
        refine ⟨hc1, ?_⟩
        apply (Nat.le_div_iff_mul_le (ten_pos _)).mpr
        rw [← Nat.pow_add, show c1 - 1 + (keep.toNat - c1) = keep.toNat - 1 by omega]; exact hl
    · rw [if_neg (by decide), iI_sub, wI_1, iI_add]
      by_cases hk0 : 0 < keep
      · obtain ⟨E, c', T', ct, tp, rw', q1, q2, q3, q4, z, q5, q6⟩ := fg_addOne (keep := keep.toNat) (T := T) (by omega) (by omega) g2 g3 g4 hT (hZlead hk0) (iI (T - keep + 1))
        have ek : iI keep = uI keep.toNat := by show iI _ = iI _; congr 1; omega
        rw [ek, q1, Option.bind_some]
        refine ⟨E, c', T', ct, tp, rw', rfl, q2, ⟨z, by simpa using q5, fun _ => by omega⟩, fun h0 => ?_, fun _ => ⟨q3, q4⟩⟩
        simp at h0
      · have hz := hZ0 (by omega)
        unfold f_X1_addOneAt
        have ha : f_X1_append (1 : Int32) (0 : Int32) row = some (uI 1, upd row 0 (uI 1)) := x1_append (c := 0) (d := 1) (by omega)
        rw [if_neg (by rw [wI_0, iI_lt (by omega) (by omega) (by omega) (by omega)]; exact hk0), ha, Option.bind_some, Option.bind_some]
        refine ⟨1, 1, T - keep + 1, _, _, _, rfl, ⟨rfl, by omega, rfl, hu1, hu2, by decide, fun j hj => ?_⟩, ⟨0, by rw [hz]; rfl, fun _ => by omega⟩, fun h0 => ?_, fun _ => ⟨by omega, by decide⟩⟩
        · have : j = 0 := by omega
          subst this
          show upd row 0 (uI 1) 0 = uI 1
          rw [upd_eq]
        · simp at h0
  have h59 : ∃ E c' T' count' top' row', f_X1_cut_B59 (iI keep) (uI sg) (uI way) (bI (hfB D (10 ^ (s + 1)))) (bI (rfB D (10 ^ (s + 1)))) (uI c) (iI T) row = some (count', top', row') ∧ fgOK E c' T' count' top' row' ∧ (∃ z : Nat, rndZ way sg D (10 ^ (s + 1)) = E * 10 ^ z ∧ (0 < c' → T' - c' + 1 = T - keep + 1 + z)) ∧ (rndZ way sg D (10 ^ (s + 1)) = 0 → c' = 0 ∧ T' = T) ∧ (rndZ way sg D (10 ^ (s + 1)) ≠ 0 → 0 < c' ∧ 10 ^ (c' - 1) ≤ E) := by
    unfold f_X1_cut_B59
    have hat := fg_at (i := keep - 1) hh (by omega) (by omega)
    have hdig : dig D (T - c + 1) (T - (keep - 1)) = D / 10 ^ (s + 1) % 10 := by
      unfold dig
      rw [if_pos (by omega), show (T - (keep - 1) - (T - c + 1)).toNat = s + 1 by omega]
    rw [hdig] at hat
    rw [wI_1, iI_sub, hat, Option.bind_some, show uI (D / 10 ^ (s + 1) % 10) &&& iI 1 = uI (D / 10 ^ (s + 1) % 10 % 2) from uI_mask1 _]
    have hpar : D / 10 ^ (s + 1) % 10 % 2 = D / 10 ^ (s + 1) % 2 := by omega
    rw [hpar]
    have ho : D / 10 ^ (s + 1) % 2 = 0 ∨ D / 10 ^ (s + 1) % 2 = 1 := by omega
    rcases ho with ho | ho
    · rw [if_pos (by rw [ho]; rfl)]
      exact h78 false (by rw [ho]; rfl)
    · rw [if_neg (by rw [ho]; decide)]
      exact h78 true (by rw [ho]; rfl)
  -- the two flags
  have h35 : ∀ off : Nat, off = D / 10 ^ s % 10 → ∃ E c' T' count' top' row', (if uI off < (5 : Int32) then (if irm (uI off) (5 : Int32) = 0 then if uI c ≤ iI keep + (1 : Int32) then f_X1_cut_B59 (iI keep) (uI sg) (uI way) 0 0 (uI c) (iI T) row else f_X1_cut_B59 (iI keep) (uI sg) (uI way) 0 1 (uI c) (iI T) row else f_X1_cut_B59 (iI keep) (uI sg) (uI way) 0 1 (uI c) (iI T) row) else (if irm (uI off) (5 : Int32) = 0 then if uI c ≤ iI keep + (1 : Int32) then f_X1_cut_B59 (iI keep) (uI sg) (uI way) 1 0 (uI c) (iI T) row else f_X1_cut_B59 (iI keep) (uI sg) (uI way) 1 1 (uI c) (iI T) row else f_X1_cut_B59 (iI keep) (uI sg) (uI way) 1 1 (uI c) (iI T) row)) = some (count', top', row') ∧ fgOK E c' T' count' top' row' ∧ (∃ z : Nat, rndZ way sg D (10 ^ (s + 1)) = E * 10 ^ z ∧ (0 < c' → T' - c' + 1 = T - keep + 1 + z)) ∧ (rndZ way sg D (10 ^ (s + 1)) = 0 → c' = 0 ∧ T' = T) ∧ (rndZ way sg D (10 ^ (s + 1)) ≠ 0 → 0 < c' ∧ 10 ^ (c' - 1) ≤ E) := by
    rintro off rfl
    have erem : irm (uI (D / 10 ^ s % 10)) (5 : Int32) = uI (D / 10 ^ s % 10 % 5) := uI_rem (b := 5) (by omega) (by decide) (by decide)
    rw [erem, wI_1, iI_add]
    have hcle : uI c ≤ iI (keep + 1) ↔ s = 0 := by
      rw [iI_le (by omega) (by omega) (by omega) (by omega)]; omega
    have hrem0 : uI (D / 10 ^ s % 10 % 5) = 0 ↔ D / 10 ^ s % 10 % 5 = 0 := uI_eq0 (by omega)
    have hlt5 : uI (D / 10 ^ s % 10) < (5 : Int32) ↔ D / 10 ^ s % 10 < 5 := uI_lt (b := 5) (by omega) (by omega)
    have hsel : ∀ a : Bool, a = hfB D (10 ^ (s + 1)) → ∃ E c' T' count' top' row', (if uI (D / 10 ^ s % 10 % 5) = 0 then if uI c ≤ iI (keep + 1) then f_X1_cut_B59 (iI keep) (uI sg) (uI way) (bI a) (bI false) (uI c) (iI T) row else f_X1_cut_B59 (iI keep) (uI sg) (uI way) (bI a) (bI true) (uI c) (iI T) row else f_X1_cut_B59 (iI keep) (uI sg) (uI way) (bI a) (bI true) (uI c) (iI T) row) = some (count', top', row') ∧ fgOK E c' T' count' top' row' ∧ (∃ z : Nat, rndZ way sg D (10 ^ (s + 1)) = E * 10 ^ z ∧ (0 < c' → T' - c' + 1 = T - keep + 1 + z)) ∧ (rndZ way sg D (10 ^ (s + 1)) = 0 → c' = 0 ∧ T' = T) ∧ (rndZ way sg D (10 ^ (s + 1)) ≠ 0 → 0 < c' ∧ 10 ^ (c' - 1) ≤ E) := by
      rintro a rfl
      by_cases h5 : D / 10 ^ s % 10 % 5 = 0
      · rw [if_pos (hrem0.mpr h5)]
        by_cases hs0 : s = 0
        · have hf : rfB D (10 ^ (s + 1)) = false := by rw [hrest, decide_eq_false (fun x => x h5), decide_eq_false (fun x => x hs0)]; rfl
          rw [if_pos (hcle.mpr hs0)]
          rw [hf] at h59; exact h59
        · have hf : rfB D (10 ^ (s + 1)) = true := by rw [hrest, decide_eq_true hs0, Bool.or_true]
          rw [if_neg (fun x => hs0 (hcle.mp x))]
          rw [hf] at h59; exact h59
      · have hf : rfB D (10 ^ (s + 1)) = true := by rw [hrest, decide_eq_true h5, Bool.true_or]
        rw [if_neg (fun x => h5 (hrem0.mp x))]
        rw [hf] at h59; exact h59
    by_cases hh5 : D / 10 ^ s % 10 < 5
    · rw [if_pos (hlt5.mpr hh5)]
      exact hsel false (by rw [hhalf, decide_eq_false (by omega)])
    · rw [if_neg (fun x => hh5 (hlt5.mp x))]
      exact hsel true (by rw [hhalf, decide_eq_true (by omega)])
  by_cases hkn : 0 ≤ keep
  · have hat := fg_at (i := keep) hh (by omega) (by omega)
    have hdig : dig D (T - c + 1) (T - keep) = D / 10 ^ s % 10 := by
      unfold dig
      rw [if_pos (by omega), show (T - keep - (T - c + 1)).toNat = s by omega]
    rw [hdig] at hat
    rw [if_pos (by rw [wI_0, iI_le (by omega) (by omega) (by omega) (by omega)]; exact hkn), hat, Option.bind_some]
    exact h35 _ rfl
  · rw [if_neg (by rw [wI_0, iI_le (by omega) (by omega) (by omega) (by omega)]; exact hkn)]
    have h0 : D / 10 ^ s % 10 = 0 := by
      rw [Nat.div_eq_of_lt (Nat.lt_of_lt_of_le hDc (Nat.pow_le_pow_right (by decide) (by omega)))]
    exact h35 0 h0.symm
