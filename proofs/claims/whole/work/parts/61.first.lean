/-! the class's search of the shortest: begin, scaleToFirstFigure -/
def tE (i : Nat) : Int := if 1075 ≤ i then (((i - 1075) * 30103 / 100000 : Nat) : Int) else -((((1075 - i) * 30103 + 99999) / 100000 : Nat) : Int)
theorem est_tab : ∀ i : Fin 2100, f_J9_floorDiv_f86c9 (iL (((i.val : Int) - 1075) * 30103)) (100000 : Int64) = some (iL (tE i.val)) := by decide +kernel
theorem est_up : ∀ b : Fin 1025, 10 ^ (b.val * 30103 / 100000) ≤ 2 ^ b.val ∧ 2 ^ (b.val + 1) ≤ 10 ^ (b.val * 30103 / 100000) * 100 := by decide +kernel
theorem est_dn : ∀ c : Fin 1076, c.val = 0 ∨ (2 ^ c.val ≤ 10 ^ ((c.val * 30103 + 99999) / 100000) ∧ 2 * 10 ^ ((c.val * 30103 + 99999) / 100000) ≤ 100 * 2 ^ c.val) := by decide +kernel
theorem lim_q : (2 : Nat) ^ 4000 ≤ 4294967296 ^ 159 := by decide +kernel
theorem lim_q2 : (2 : Nat) ^ 4000 ≤ 4294967296 ^ 160 := by decide +kernel
theorem q_lt {a k : Nat} (h : a < 2 ^ k) (hk : k ≤ 4000) : a < 4294967296 ^ 159 ∧ a < 4294967296 ^ 160 := by
  have h1 : a < 2 ^ 4000 := Nat.lt_of_lt_of_le h (Nat.pow_le_pow_right (by decide) hk)
  exact ⟨Nat.lt_of_lt_of_le h1 lim_q, Nat.lt_of_lt_of_le h1 lim_q2⟩
theorem x4_shiftJ {sz : Int32} {L : Nat → Int64} {v : Nat} {a : Int} (h : R32 sz L v) (h1 : -3000 ≤ a) (h2 : a ≤ 3000) (hW : v * 2 ^ a.toNat < 4294967296 ^ 159) : ∃ s' L', f_X4_shiftUp (iI a) sz L = some (s', L') ∧ R32 s' L' (v * 2 ^ a.toNat) := by
  by_cases ha : a ≤ 0
  · rw [x4_shiftneg (by omega) ha, show a.toNat = 0 by omega, Nat.pow_zero, Nat.mul_one]
    exact ⟨sz, L, rfl, h⟩
  · obtain ⟨n, rfl⟩ : ∃ n : Nat, a = (n : Int) := ⟨a.toNat, by omega⟩
    rw [Int.toNat_natCast] at *
    exact x4_shift h (by omega) hW
theorem x4_tens {sz : Int32} {L : Nat → Int64} {v n : Nat} (h : R32 sz L v) (hn : n < 3000) (hW : v * 10 ^ n < 4294967296 ^ 159) : ∃ s1 L1 s2 L2, f_X4_scaleByFives (uI n) sz L = some (s1, L1) ∧ f_X4_shiftUp (uI n) s1 L1 = some (s2, L2) ∧ R32 s2 L2 (v * 10 ^ n) := by
  rw [five_two, ← Nat.mul_assoc] at hW
  have h5 : v * 5 ^ n ≤ v * 5 ^ n * 2 ^ n := Nat.le_mul_of_pos_right _ (Nat.pow_pos (by decide))
  have hp : (4294967296 : Nat) ^ 159 ≤ 4294967296 ^ 160 := Nat.pow_le_pow_right (by decide) (by decide)
  obtain ⟨s1, L1, g1, g2⟩ := x4_fives h (n := n) (by omega) (Nat.lt_of_le_of_lt h5 (Nat.lt_of_lt_of_le hW hp))
  obtain ⟨s2, L2, g3, g4⟩ := x4_shift g2 (s := n) (by omega) hW
  rw [Nat.mul_assoc, ← five_two] at g4
  exact ⟨s1, L1, s2, L2, g1, g3, g4⟩
theorem sv_up {N D m : Nat} {t e : Int} (h : sv N D t m e) : sv N (D * 10) (t + 1) m e := by
  unfold sv at *
  by_cases ht : 0 ≤ t
  · rw [show (t + 1).toNat = t.toNat + 1 by omega, show (-(t + 1)).toNat = 0 by omega, Nat.pow_succ]
    rw [show (-t).toNat = 0 by omega] at h
    have : N * (10 ^ t.toNat * 10) * 2 ^ (-e).toNat = N * 10 ^ t.toNat * 2 ^ (-e).toNat * 10 := by simp only [Nat.mul_comm, Nat.mul_left_comm, Nat.mul_assoc]
    rw [this, h]; simp only [Nat.mul_comm, Nat.mul_left_comm, Nat.mul_assoc]
  · rw [show (t + 1).toNat = 0 by omega]
    rw [show t.toNat = 0 by omega, show (-t).toNat = (-(t + 1)).toNat + 1 by omega, Nat.pow_succ] at h
    rw [h]; simp only [Nat.mul_comm, Nat.mul_left_comm, Nat.mul_assoc]
theorem sv_dn {N D m : Nat} {t e : Int} (h : sv N D t m e) : sv (N * 10) D (t - 1) m e := by
  unfold sv at *
  by_cases ht : 1 ≤ t
  · rw [show (-(t - 1)).toNat = 0 by omega]
    rw [show (-t).toNat = 0 by omega, show t.toNat = (t - 1).toNat + 1 by omega, Nat.pow_succ] at h
    rw [← h]; simp only [Nat.mul_comm, Nat.mul_left_comm, Nat.mul_assoc]
  · rw [show (t - 1).toNat = 0 by omega, show (-(t - 1)).toNat = (-t).toNat + 1 by omega, Nat.pow_succ]
    rw [show t.toNat = 0 by omega] at h
    have : N * 10 * 10 ^ 0 * 2 ^ (-e).toNat = N * 10 ^ 0 * 2 ^ (-e).toNat * 10 := by simp only [Nat.mul_comm, Nat.mul_left_comm, Nat.mul_assoc]
    rw [this, h]; simp only [Nat.mul_comm, Nat.mul_left_comm, Nat.mul_assoc]
theorem x6_B83 {A U R M : Nat} {t E : Int} (mm : Int64) (ee : Int32) (hA : A = M * R) (hR0 : 0 < R) (hU0 : 0 < U) (hAl : A < 2 ^ 2300) (hUl : U < 2 ^ 2300) (hM0 : 0 < M) (hb1 : U ≤ A) (hb2 : A < 100 * U) (hsv : sv R U t 1 E)
    {sa : Int32} {La : Nat → Int64} (ha : R32 sa La A) {su : Int32} {Lu : Nat → Int64} (hu : R32 su Lu U) {sr : Int32} {Lr : Nat → Int64} (hr : R32 sr Lr R) (ws : Int32) (wl : Nat → Int64) :
    ∃ (A' U' R' : Nat) (t' : Int) (sa' : Int32) (La' : Nat → Int64) (su' : Int32) (Lu' : Nat → Int64) (sr' : Int32) (Lr' : Nat → Int64) (ws' : Int32) (wl' : Nat → Int64), f_X6_scaleToFirstFigure_B83 mm ee (iI t) sa La su Lu sr Lr ws wl = some (iI t', sa', La', su', Lu', sr', Lr', ws', wl') ∧ R32 sa' La' A' ∧ R32 su' Lu' U' ∧ R32 sr' Lr' R' ∧ A' = M * R' ∧ 0 < R' ∧ U' ≤ A' ∧ A' < U' * 10 ∧ U' < 2 ^ 2304 ∧ sv R' U' t' 1 E ∧ t - 1 ≤ t' ∧ t' ≤ t + 1 := by
  unfold f_X6_scaleToFirstFigure_B83
  have hpw : (2 : Nat) ^ 2304 = 2 ^ 2300 * 16 := by rw [show 2304 = 2300 + 4 from rfl, Nat.pow_add]
  have hx : ∀ x, x < 2 ^ 2300 → x * 10 + 0 < 2 ^ 2304 := by
    intro x hx; rw [hpw]; generalize (2 : Nat) ^ 2300 = y at *; omega
  have hy : (2 : Nat) ^ 2300 ≤ 2 ^ 2304 := Nat.pow_le_pow_right (by decide) (by decide)
  have h1 := hb1
  · skip
    obtain ⟨s1, L1, g1, g2⟩ := x4_copy hu ws wl
    obtain ⟨s2, L2, g3, g4⟩ := x4_scale g2 (f := 10) (x := 0) (by decide) (by decide) (q_lt (hx U hUl) (by decide)).2
    have g3' : f_X4_scale (10 : Int64) (0 : Int64) s1 L1 = some (s2, L2) := g3
    rw [g1, Option.bind_some, g3', Option.bind_some, x4_cmp ha g4, Option.bind_some]
    rw [Nat.add_zero] at g4
    by_cases h2 : A < U * 10
    · rw [if_pos (by exact (cmp_iI_lt _ _).mpr h2)]
      exact ⟨A, U, R, t, _, _, _, _, _, _, _, _, rfl, ha, hu, hr, hA, hR0, h1, h2, Nat.lt_of_lt_of_le hUl hy, hsv, by omega, by omega⟩
    · obtain ⟨s3, L3, g5, g6⟩ := x4_copy g4 su Lu
      rw [if_neg (by exact fun x => h2 ((cmp_iI_lt _ _).mp x)), g5, Option.bind_some]
      have et : iI t + 1 = iI (t + 1) := by rw [wI_1, iI_add]
      rw [et]
      exact ⟨A, U * 10, R, t + 1, _, _, _, _, _, _, _, _, rfl, ha, g6, hr, hA, hR0, by omega, by omega, hx U hUl, sv_up hsv, by omega, by omega⟩
theorem tE_bd {i : Nat} (h : i < 2100) : -325 ≤ tE i ∧ tE i ≤ 310 := by
  unfold tE; split <;> omega
theorem lim_f1 : (10 : Nat) ^ 325 < 2 ^ 1100 := by decide +kernel
/-- the value's first figure stands at tE or one above it -/
theorem est_ok {m s : Nat} {e : Int} (hm0 : m ≠ 0) (hm : m < 2 ^ 53) (he1 : -1074 ≤ e) (he2 : e ≤ 971) :
    2 ^ (-(e - s)).toNat * 10 ^ (tE (bl m + e + 1074).toNat).toNat ≤ m * 2 ^ s * (2 ^ (e - s).toNat * 10 ^ (-(tE (bl m + e + 1074).toNat)).toNat) ∧ m * 2 ^ s * (2 ^ (e - s).toNat * 10 ^ (-(tE (bl m + e + 1074).toNat)).toNat) < 100 * (2 ^ (-(e - s)).toNat * 10 ^ (tE (bl m + e + 1074).toNat).toNat) := by
  have hb := bl_pos hm0
  have hb2 : bl m ≤ 53 := bl_le_of_lt hm
  have h1 := bl_le hm0
  have h2 := bl_lt m
  -- the value between two powers of two
  have hlo : 2 ^ (bl m - 1 + s + (e - s).toNat) ≤ m * 2 ^ s * 2 ^ (e - s).toNat := by
    rw [Nat.pow_add, Nat.pow_add]
    exact Nat.mul_le_mul_right _ (Nat.mul_le_mul_right _ h1)
  have hhi : m * 2 ^ s * 2 ^ (e - s).toNat < 2 ^ (bl m + s + (e - s).toNat) := by
    rw [Nat.pow_add, Nat.pow_add]
    exact Nat.mul_lt_mul_of_pos_right (Nat.mul_lt_mul_of_pos_right h2 (Nat.pow_pos (by decide))) (Nat.pow_pos (by decide))
  by_cases hbe : 0 ≤ (bl m : Int) + e - 1
  · obtain ⟨b, hbb⟩ : ∃ b : Nat, (bl m : Int) + e - 1 = (b : Int) := ⟨((bl m : Int) + e - 1).toNat, by omega⟩
    have ht : tE ((bl m : Int) + e + 1074).toNat = ((b * 30103 / 100000 : Nat) : Int) := by
      unfold tE; rw [if_pos (by omega), show ((bl m : Int) + e + 1074).toNat - 1075 = b by omega]
    obtain ⟨q1, q2⟩ := est_up ⟨b, by omega⟩
    dsimp only at q1 q2
    rw [ht, Int.toNat_natCast, show (-((b * 30103 / 100000 : Nat) : Int)).toNat = 0 by omega, Nat.pow_zero, Nat.mul_one]
    generalize 10 ^ (b * 30103 / 100000) = X at *
    constructor
    · refine Nat.le_trans (Nat.mul_le_mul_left _ q1) ?_
      rw [← Nat.pow_add]
      refine Nat.le_trans (Nat.le_of_eq ?_) hlo
      congr 1; omega
    · refine Nat.lt_of_lt_of_le hhi ?_
      have : 2 ^ (bl m + s + (e - s).toNat) = 2 ^ (-(e - s)).toNat * 2 ^ (b + 1) := by rw [← Nat.pow_add]; congr 1; omega
      rw [this]
      refine Nat.le_trans (Nat.mul_le_mul_left _ q2) (Nat.le_of_eq ?_)
      simp only [Nat.mul_comm, Nat.mul_left_comm, Nat.mul_assoc]
  · obtain ⟨c, hcc⟩ : ∃ c : Nat, (bl m : Int) + e - 1 = -(c : Int) := ⟨(-((bl m : Int) + e - 1)).toNat, by omega⟩
    have ht : tE ((bl m : Int) + e + 1074).toNat = -((((c * 30103 + 99999) / 100000 : Nat)) : Int) := by
      unfold tE; rw [if_neg (by omega), show 1075 - ((bl m : Int) + e + 1074).toNat = c by omega]
    rcases est_dn ⟨c, by omega⟩ with q0 | ⟨q1, q2⟩
    · dsimp only at q0; omega
    dsimp only at q1 q2
    rw [ht, show (-(((c * 30103 + 99999) / 100000 : Nat) : Int)).toNat = 0 by omega, Int.neg_neg, Int.toNat_natCast, Nat.pow_zero, Nat.mul_one]
    generalize 10 ^ ((c * 30103 + 99999) / 100000) = X at *
    constructor
    · have h3 : 2 ^ (-(e - s)).toNat = 2 ^ (bl m - 1 + s + (e - s).toNat) * 2 ^ c := by rw [← Nat.pow_add]; congr 1; omega
      rw [h3]
      refine Nat.le_trans (Nat.mul_le_mul hlo q1) (Nat.le_of_eq ?_)
      simp only [Nat.mul_comm, Nat.mul_left_comm, Nat.mul_assoc]
    · have hX : 0 < X := by
        rcases Nat.eq_zero_or_pos X with g | g
        · rw [g] at q1; have : 0 < 2 ^ c := Nat.pow_pos (by decide); omega
        · exact g
      have h4 : m * 2 ^ s * (2 ^ (e - s).toNat * X) < 2 ^ (bl m + s + (e - s).toNat) * X := by
        rw [← Nat.mul_assoc]; exact Nat.mul_lt_mul_of_pos_right hhi hX
      refine Nat.lt_of_lt_of_le h4 ?_
      have h5 : 2 ^ (bl m + s + (e - s).toNat) * X = 2 ^ (bl m - 1 + s + (e - s).toNat) * (2 * X) := by
        rw [show bl m + s + (e - s).toNat = bl m - 1 + s + (e - s).toNat + 1 by omega, Nat.pow_succ, Nat.mul_assoc]
      have h3 : 2 ^ (-(e - s)).toNat = 2 ^ (bl m - 1 + s + (e - s).toNat) * 2 ^ c := by rw [← Nat.pow_add]; congr 1; omega
      rw [h5, h3]
      refine Nat.le_trans (Nat.mul_le_mul_left _ q2) (Nat.le_of_eq ?_)
      simp only [Nat.mul_comm, Nat.mul_left_comm, Nat.mul_assoc]
theorem x6_first {m s : Nat} {e : Int} (hm0 : m ≠ 0) (hm : m < 2 ^ 53) (he1 : -1074 ≤ e) (he2 : e ≤ 971) (hs : s ≤ 2) {sa : Int32} {La : Nat → Int64} (ha : R32 sa La (m * 2 ^ s * 2 ^ (e - s).toNat)) {su : Int32} {Lu : Nat → Int64} (hu : R32 su Lu (2 ^ (-(e - s)).toNat)) {sr : Int32} {Lr : Nat → Int64} (hr : R32 sr Lr (2 ^ (e - s).toNat)) (ws : Int32) (wl : Nat → Int64) :
    ∃ (A' U' R' : Nat) (t' : Int) (sa' : Int32) (La' : Nat → Int64) (su' : Int32) (Lu' : Nat → Int64) (sr' : Int32) (Lr' : Nat → Int64) (ws' : Int32) (wl' : Nat → Int64), f_X6_scaleToFirstFigure (uL m) (iI e) sa La su Lu sr Lr ws wl = some (iI t', sa', La', su', Lu', sr', Lr', ws', wl') ∧ R32 sa' La' A' ∧ R32 su' Lu' U' ∧ R32 sr' Lr' R' ∧ A' = m * 2 ^ s * R' ∧ 0 < R' ∧ U' ≤ A' ∧ A' < U' * 10 ∧ U' < 2 ^ 2304 ∧ sv R' U' t' 1 (e - s) ∧ -326 ≤ t' ∧ t' ≤ 311 := by
  have hb := bl_pos hm0
  have hb2 : bl m ≤ 53 := bl_le_of_lt hm
  have hi : ((bl m : Int) + e + 1074).toNat < 2100 := by omega
  have hfd := est_tab ⟨((bl m : Int) + e + 1074).toNat, hi⟩
  dsimp only at hfd
  have htb := tE_bd hi
  obtain ⟨hk1, hk2⟩ := est_ok (s := s) hm0 hm he1 he2
  generalize htE : tE ((bl m : Int) + e + 1074).toNat = t at *
  have harg : ((uI (bl m) + iI e) - (1 : Int32)).toInt64 * (30103 : Int64) = iL ((((((bl m : Int) + e + 1074).toNat : Nat) : Int) - 1075) * 30103) := by
    rw [wI_1, show uI (bl m) = iI (bl m : Int) from rfl, iI_add, iI_sub, iI_l (by omega) (by omega), show (30103 : Int64) = iL 30103 from rfl, iL_mul]
    exact congrArg iL (by omega)
  have hM0 : 0 < m * 2 ^ s := Nat.mul_pos (Nat.pos_of_ne_zero hm0) (Nat.pow_pos (by decide))
  have hp2 : ∀ k, 0 < 2 ^ k := fun k => Nat.pow_pos (by decide)
  have hMl : m * 2 ^ s < 2 ^ 55 := by
    have : 2 ^ s ≤ 2 ^ 2 := Nat.pow_le_pow_right (by decide) hs
    rw [show (2 : Nat) ^ 55 = 2 ^ 53 * 2 ^ 2 by rw [← Nat.pow_add]]
    exact Nat.lt_of_le_of_lt (Nat.mul_le_mul_left _ this) (Nat.mul_lt_mul_of_pos_right hm (by decide))
  have hten : ∀ k, k ≤ 325 → 10 ^ k ≤ 2 ^ 1100 := fun k hk => Nat.le_trans (Nat.pow_le_pow_right (by decide) hk) (Nat.le_of_lt lim_f1)
  have hRl : ∀ k, k ≤ 325 → 2 ^ (e - s).toNat * 10 ^ k ≤ 2 ^ 2071 := by
    intro k hk
    rw [show (2 : Nat) ^ 2071 = 2 ^ 971 * 2 ^ 1100 by rw [← Nat.pow_add]]
    exact Nat.mul_le_mul (Nat.pow_le_pow_right (by decide) (by omega)) (hten k hk)
  have hAl : ∀ k, k ≤ 325 → m * 2 ^ s * (2 ^ (e - s).toNat * 10 ^ k) < 2 ^ 2300 := by
    intro k hk
    have h1 := Nat.mul_le_mul (Nat.le_of_lt hMl) (hRl k hk)
    rw [← Nat.pow_add] at h1
    exact Nat.lt_of_le_of_lt h1 (Nat.pow_lt_pow_right (by decide) (by decide))
  have hUl : ∀ k, k ≤ 325 → 2 ^ (-(e - s)).toNat * 10 ^ k < 2 ^ 2300 := by
    intro k hk
    have h1 := Nat.mul_le_mul (Nat.pow_le_pow_right (n := 2) (by decide) (show (-(e - s)).toNat ≤ 1076 by omega)) (hten k hk)
    rw [← Nat.pow_add] at h1
    exact Nat.lt_of_le_of_lt h1 (Nat.pow_lt_pow_right (by decide) (by decide))
  have hsv : sv (2 ^ (e - s).toNat * 10 ^ (-t).toNat) (2 ^ (-(e - s)).toNat * 10 ^ t.toNat) t 1 (e - s) := by
    unfold sv
    rw [Nat.one_mul]
    simp only [Nat.mul_comm, Nat.mul_left_comm, Nat.mul_assoc]
  unfold f_X6_scaleToFirstFigure
  rw [x8_bits hm, Option.bind_some, harg, hfd, Option.bind_some, iL_i]
  by_cases ht : t < 0
  · have hneg : - iI t = uI (-t).toNat := by rw [iI_neg]; exact congrArg iI (by omega)
    obtain ⟨s1, L1, s2, L2, g1, g2, g3⟩ := x4_tens ha (n := (-t).toNat) (by omega) (by rw [Nat.mul_assoc]; exact (q_lt (hAl _ (by omega)) (by decide)).1)
    obtain ⟨s3, L3, s4, L4, g4, g5, g6⟩ := x4_tens hr (n := (-t).toNat) (by omega) (by
      refine (q_lt (k := 2300) (Nat.lt_of_le_of_lt (hRl _ (by omega)) (Nat.pow_lt_pow_right (by decide) (by decide))) (by decide)).1)
    rw [if_pos (by rw [wI_0, iI_lt (by omega) (by omega) (by omega) (by omega)]; exact ht), hneg, g1, Option.bind_some, g2, Option.bind_some, g4, Option.bind_some, g5, Option.bind_some]
    rw [Nat.mul_assoc] at g3
    rw [show t.toNat = 0 by omega, Nat.pow_zero, Nat.mul_one] at hk1 hk2 hsv
    obtain ⟨A', U', R', t', a1, a2, a3, a4, a5, a6, a7, a8, q⟩ := x6_B83 (uL m) (iI e) rfl (Nat.mul_pos (hp2 _) (ten_pos _)) (hp2 _) (hAl _ (by omega)) (by have := hUl 0 (by omega); rwa [Nat.pow_zero, Nat.mul_one] at this) hM0 hk1 hk2 hsv g3 hu g6 ws wl
    exact ⟨A', U', R', t', a1, a2, a3, a4, a5, a6, a7, a8, q.1, q.2.1, q.2.2.1, q.2.2.2.1, q.2.2.2.2.1, q.2.2.2.2.2.1, q.2.2.2.2.2.2.1, q.2.2.2.2.2.2.2.1, q.2.2.2.2.2.2.2.2.1, q.2.2.2.2.2.2.2.2.2.1, by omega, by omega⟩
  · have hneg : iI t = uI t.toNat := congrArg iI (by omega)
    obtain ⟨s1, L1, s2, L2, g1, g2, g3⟩ := x4_tens hu (n := t.toNat) (by omega) (q_lt (hUl _ (by omega)) (by decide)).1
    rw [if_neg (by rw [wI_0, iI_lt (by omega) (by omega) (by omega) (by omega)]; exact ht)]
    rw [hneg, g1, Option.bind_some, g2, Option.bind_some, ← hneg]
    rw [show (-t).toNat = 0 by omega, Nat.pow_zero, Nat.mul_one] at hk1 hk2 hsv
    obtain ⟨A', U', R', t', a1, a2, a3, a4, a5, a6, a7, a8, q⟩ := x6_B83 (uL m) (iI e) rfl (hp2 _) (Nat.mul_pos (hp2 _) (ten_pos _)) (by have := hAl 0 (by omega); rwa [Nat.pow_zero, Nat.mul_one] at this) (hUl _ (by omega)) hM0 hk1 hk2 hsv ha g3 hr ws wl
    exact ⟨A', U', R', t', a1, a2, a3, a4, a5, a6, a7, a8, q.1, q.2.1, q.2.2.1, q.2.2.2.1, q.2.2.2.2.1, q.2.2.2.2.2.1, q.2.2.2.2.2.2.1, q.2.2.2.2.2.2.2.1, q.2.2.2.2.2.2.2.2.1, q.2.2.2.2.2.2.2.2.2.1, by omega, by omega⟩
