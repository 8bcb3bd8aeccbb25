/-! the class's quotients and roots -/
theorem le_scale {a b a' b' c c' : Nat} (hc : 0 < c) (hc' : 0 < c') (ha : a * c = a' * c') (hb : b * c = b' * c') : a ≤ b ↔ a' ≤ b' := by
  rw [← Nat.mul_le_mul_right_iff hc, ha, hb, Nat.mul_le_mul_right_iff hc']
theorem eq_scale {a b a' b' c c' : Nat} (hc : 0 < c) (hc' : 0 < c') (ha : a * c = a' * c') (hb : b * c = b' * c') : a = b ↔ a' = b' := by
  rw [← Nat.mul_left_inj (show c ≠ 0 by omega), ha, hb, Nat.mul_left_inj (show c' ≠ 0 by omega)]
theorem x0_divL {a b f sg way : Nat} {x g : Int} {rs : Int32} {rl : Nat → Int64} (hb : R32 rs rl b) (hb0 : 0 < b) (hbl : bl b ≤ 4900) (hf : f ≤ 1) (hs : sg ≤ 1) (hw : way < 4) (hx1 : -100000 ≤ x) (hx2 : x ≤ 100000) (hg1 : -10000 ≤ g) (hg2 : g ≤ 10000) :
    ∀ k i fuel ls ll q w, i + k = 58 → k < fuel → R32 ls ll w → a * 2 ^ i = 2 * b * q + w → w < 2 * b → q < 2 ^ i → (0 < i → w % 2 = 0) →
    ∃ q' R s L s2 L2, f_X0_divided_L42 fuel (uI sg) (iI x) (uI f) (uI way) (iI g) (uL q) (uI i) ls ll rs rl = some (uL (rcP f way sg q' (x + g - 57) (R != 0)), s, L, s2, L2) ∧ a * 2 ^ 57 = b * q' + R ∧ R < b ∧ q' < 2 ^ 58 := by
  intro k
  induction k with
  | zero =>
    intro i fuel ls ll q w hk hfu hL hinv hw2 hq hev
    obtain ⟨m, rfl, _⟩ := ex_succ hfu
    have hi : i = 58 := by omega
    subst hi
    rw [f_X0_divided_L42, if_pos (by exact (uI_le (a := 58) (by omega) (by omega)).mpr (Nat.le_refl _))]
    unfold f_X0_divided_B100
    rw [x4_isN hL, Option.bind_some]
    obtain ⟨s, L, h1, h2⟩ := x4_take ls ll (u := q) (by omega)
    have h3 : ∀ rest : Bool, ∃ s' L' s2 L2, f_X0_divided_B115 (uI sg) (iI x) (uI f) (uI way) (iI g) (uL q) (bI rest) ls ll rs rl = some (uL (rcP f way sg q (x + g - 57) rest), s', L', s2, L2) := by
      intro rest
      unfold f_X0_divided_B115
      rw [h1, Option.bind_some, iI_add, wI_57, iI_sub]
      have h4 := x0_rounded (sg := sg) (x := x + g - 57) rest h2 hf hs hw (by omega) (by omega)
      have h5 : f_X0_rounded (s, L).1 (s, L).2 (uI sg) (iI (x + g - 57)) (bI rest) (uI f) (uI way) = some (uL (rcP f way sg q (x + g - 57) rest)) := h4
      rw [h5, Option.bind_some]; exact ⟨_, _, _, _, rfl⟩
    have hw0 := hev (by omega)
    have e57 : a * 2 ^ 58 = 2 * (a * 2 ^ 57) := by
      rw [Nat.pow_succ 2 57, ← Nat.mul_assoc, Nat.mul_comm]
    have hA : a * 2 ^ 57 = b * q + w / 2 := by
      rw [e57, Nat.mul_assoc] at hinv
      generalize a * 2 ^ 57 = y at hinv ⊢
      generalize b * q = z at hinv ⊢
      clear hL h1 h2 h3 hq hw2
      omega
    by_cases hz : w = 0
    · obtain ⟨s', L', s2, L2, h6⟩ := h3 false
      refine ⟨q, w / 2, s', L', s2, L2, ?_, hA, by omega, hq⟩
      have e0 : (w / 2 != 0) = false := by rw [hz]; rfl
      rw [if_pos hz, if_neg (by decide), e0]
      exact h6
    · obtain ⟨s', L', s2, L2, h6⟩ := h3 true
      refine ⟨q, w / 2, s', L', s2, L2, ?_, hA, by omega, hq⟩
      have e0 : (w / 2 != 0) = true := by rw [bne_iff_ne]; omega
      rw [if_neg hz, if_pos (by decide), e0]
      exact h6
  | succ k ih =>
    intro i fuel ls ll q w hk hfu hL hinv hw2 hq hev
    obtain ⟨m, rfl, hm⟩ := ex_succ hfu
    have h2i : 2 ^ i ≤ 2 ^ 57 := Nat.pow_le_pow_right (by decide) (by omega)
    rw [f_X0_divided_L42, if_neg (by exact fun h => by have := (uI_le (a := 58) (by omega) (by omega)).mp h; omega), x4_cmp hL hb, Option.bind_some]
    have hblb := bl_lt b
    have hb5 : 2 * b < 2 ^ 4901 := by
      have : 2 ^ bl b ≤ 2 ^ 4900 := Nat.pow_le_pow_right (by decide) hbl
      rw [Nat.pow_succ]; omega
    have hstep : ∀ q2 w2 ls2 ll2, R32 ls2 ll2 w2 → a * 2 ^ (i + 1) = 2 * b * q2 + 2 * w2 → w2 < b → q2 < 2 ^ (i + 1) → ∃ q' R s L s2 L2, f_X0_divided_B86 (f_X0_divided_L42 m) (uI sg) (iI x) (uI f) (uI way) (iI g) (uL q2) (uI i) ls2 ll2 rs rl = some (uL (rcP f way sg q' (x + g - 57) (R != 0)), s, L, s2, L2) ∧ a * 2 ^ 57 = b * q' + R ∧ R < b ∧ q' < 2 ^ 58 := by
      intro q2 w2 ls2 ll2 h2 hi2 hw3 hq2
      unfold f_X0_divided_B86
      have hwb : bl w2 ≤ 4900 := by
        apply bl_le_of_lt
        have : 2 ^ bl b ≤ 2 ^ 4900 := Nat.pow_le_pow_right (by decide) hbl
        omega
      obtain ⟨s3, L3, h3, h4⟩ := x4_shift h2 (s := 1) (by decide) (sh_room (by omega))
      rw [show (1 : Int32) = uI 1 from rfl, h3, Option.bind_some, show uI i + uI 1 = uI (i + 1) from uI_add i 1]
      rw [Nat.pow_one, Nat.mul_comm] at h4
      exact ih (i + 1) m s3 L3 q2 (2 * w2) (by omega) (by omega) h4 hi2 (by omega) hq2 (fun _ => by omega)
    have e2 : a * 2 ^ (i + 1) = 2 * (2 * b * q + w) := by rw [Nat.pow_succ, ← Nat.mul_assoc, hinv, Nat.mul_comm]
    have elsh : lsh (uL q) (1 : Int32) = uL (q * 2 ^ 1) := uL_lsh q (k := 1) (by decide)
    by_cases hlt : w < b
    · rw [if_pos (by exact (cmp_iI_lt _ _).mpr hlt), elsh]
      refine hstep (q * 2 ^ 1) w ls ll hL ?_ hlt (by rw [Nat.pow_succ]; omega)
      have e3 : 2 * b * (q * 2 ^ 1) = 2 * (2 * b * q) := by
        rw [Nat.pow_one, Nat.mul_comm q 2, ← Nat.mul_assoc, Nat.mul_comm (2 * b) 2, Nat.mul_assoc]
      rw [e2, e3, Nat.mul_add]
    · obtain ⟨s5, L5, h5, h6⟩ := x4_minus hL hb (by omega)
      have eor : lsh (uL q) (1 : Int32) ||| (1 : Int64) = uL (q * 2 ^ 1 + 1) := by
        rw [elsh]
        exact lor_add (a := q) (b := 1) (k := 1) (by decide) (by omega)
      rw [if_neg (by exact fun h => hlt ((cmp_iI_lt _ _).mp h)), h5, Option.bind_some, eor]
      refine hstep (q * 2 ^ 1 + 1) (w - b) s5 L5 h6 ?_ (by omega) (by rw [Nat.pow_succ]; omega)
      have e3 : 2 * b * (q * 2 ^ 1 + 1) = 2 * (2 * b * q) + 2 * b := by
        rw [Nat.mul_add, Nat.mul_one, Nat.pow_one, Nat.mul_comm q 2, ← Nat.mul_assoc, Nat.mul_comm (2 * b) 2, Nat.mul_assoc]
      rw [e2, e3]
      generalize 2 * b * q = y
      omega
theorem x0_divided {A B f sg way : Nat} {x : Int} {ls rs : Int32} {ll rl : Nat → Int64} (hA : R32 ls ll A) (hB : R32 rs rl B) (hA0 : A ≠ 0) (hB0 : B ≠ 0) (hAb : bl A ≤ 4800) (hBb : bl B ≤ 4800) (hf : f ≤ 1) (hs : sg ≤ 1) (hw : way < 4) (hx1 : -50000 ≤ x) (hx2 : x ≤ 50000) :
    ∃ P s L s2 L2, f_X0_divided (uI sg) (iI x) (uI f) (uI way) ls ll rs rl = some (uL P, s, L, s2, L2) ∧ isR f way sg (A * 2 ^ lnU f x) (B * 2 ^ lnD f x) 1 P := by
  unfold f_X0_divided
  rw [x4_bits hA, Option.bind_some, x4_bits hB, Option.bind_some, iI_sub, iI_neg]
  generalize hg : ((bl A : Nat) : Int) - ((bl B : Nat) : Int) = g
  -- the two of one length
  have hshA : ∃ s L, f_X4_shiftUp (iI (-g)) ls ll = some (s, L) ∧ R32 s L (A * 2 ^ (-g).toNat) := by
    by_cases h0 : 0 ≤ -g
    · exact x4_shiftI hA h0 (by omega)
    · rw [x4_shiftneg (by omega) (by omega)]
      refine ⟨_, _, rfl, ?_⟩
      rw [show (-g).toNat = 0 by omega, Nat.pow_zero, Nat.mul_one]; exact hA
  have hshB : ∃ s L, f_X4_shiftUp (iI g) rs rl = some (s, L) ∧ R32 s L (B * 2 ^ g.toNat) := by
    by_cases h0 : 0 ≤ g
    · exact x4_shiftI hB h0 (by omega)
    · rw [x4_shiftneg (by omega) (by omega)]
      refine ⟨_, _, rfl, ?_⟩
      rw [show g.toNat = 0 by omega, Nat.pow_zero, Nat.mul_one]; exact hB
  obtain ⟨s1, L1, h1, h2⟩ := hshA
  obtain ⟨s3, L3, h3, h4⟩ := hshB
  rw [h1, Option.bind_some, h3, Option.bind_some]
  have hba := bl_mul (k := (-g).toNat) hA0
  have hbb := bl_mul (k := g.toNat) hB0
  generalize hu : A * 2 ^ (-g).toNat = a at *
  generalize hv : B * 2 ^ g.toNat = b at *
  have hblen : bl a = bl b := by omega
  have hb0 : b ≠ 0 := by
    rw [← hv]; exact Nat.mul_ne_zero hB0 (by have := Nat.two_pow_pos g.toNat; omega)
  have ha0 : a ≠ 0 := by
    rw [← hu]; exact Nat.mul_ne_zero hA0 (by have := Nat.two_pow_pos (-g).toNat; omega)
  have ha1 := bl_lt a
  have ha2 := bl_le ha0
  have hb1 := bl_lt b
  have hb2 := bl_le hb0
  have hbp := bl_pos hb0
  have hpw : 2 ^ bl b = 2 * 2 ^ (bl b - 1) := by
    rw [← Nat.pow_succ']; congr 1; omega
  have hab : a < 2 * b := by rw [hblen] at ha1; omega
  have hba2 : b < 2 * a := by rw [hblen] at ha2; omega
  obtain ⟨q, R, s5, L5, s6, L6, h5, h6, h7, h8⟩ := x0_divL (a := a) (f := f) (sg := sg) (way := way) (x := x) (g := g) h4 (by omega) (by omega) hf hs hw (by omega) (by omega) (by omega) (by omega) 58 0 FU s1 L1 0 a (by omega) (by rw [hFU]; omega) h2 (by rw [Nat.pow_zero, Nat.mul_one, Nat.mul_zero, Nat.zero_add]) hab (by decide) (by omega)
  refine ⟨_, s5, L5, s6, L6, h5, ?_⟩
  have hq56 : 2 ^ 56 ≤ q := by
    apply Nat.le_of_not_lt
    intro hlt
    have g1 : b * (q + 1) ≤ b * 2 ^ 56 := Nat.mul_le_mul_left _ hlt
    have g2 : b * 2 ^ 56 < 2 * a * 2 ^ 56 := Nat.mul_lt_mul_of_pos_right hba2 (by decide)
    have g3 : 2 * a * 2 ^ 56 = a * 2 ^ 57 := by rw [Nat.mul_comm 2, Nat.mul_assoc]
    rw [Nat.mul_add, Nat.mul_one] at g1
    omega
  have hblq : 57 ≤ bl q := by
    apply Nat.le_of_not_lt
    intro hlt
    have := lt_of_bl_le (n := q) (k := 56) (by omega)
    omega
  have hwd := wd_lt f
  refine rc_isR hf ?_ (fun _ => by omega)
  have hkey : ∀ z, b * z ≤ a * 2 ^ 57 ↔ z ≤ q := by
    intro z
    constructor
    · intro hle
      apply Nat.le_of_not_lt
      intro hlt
      have := Nat.mul_le_mul_left b hlt
      rw [Nat.mul_succ] at this
      omega
    · intro hle
      have := Nat.mul_le_mul_left b hle
      omega
  have hbal : lnD f x + lnU f (x + g - 57) + ((-g).toNat + 57) = lnU f x + lnD f (x + g - 57) + g.toNat := by
    unfold lnU lnD; omega
  have eL : ∀ z, B * 2 ^ lnD f x * (z * 2 ^ lnU f (x + g - 57)) ^ 1 * 2 ^ (g.toNat + ((-g).toNat + 57)) = b * z * 2 ^ (lnD f x + lnU f (x + g - 57) + ((-g).toNat + 57)) := by
    intro z
    rw [Nat.pow_one, ← hv, Nat.pow_add 2 (lnD f x + lnU f (x + g - 57)), Nat.pow_add 2 (lnD f x), Nat.pow_add 2 g.toNat]
    simp only [Nat.mul_comm, Nat.mul_left_comm, Nat.mul_assoc]
  have eR : A * 2 ^ lnU f x * (2 ^ lnD f (x + g - 57)) ^ 1 * 2 ^ (g.toNat + ((-g).toNat + 57)) = a * 2 ^ 57 * 2 ^ (lnD f x + lnU f (x + g - 57) + ((-g).toNat + 57)) := by
    rw [hbal, Nat.pow_one, ← hu, Nat.pow_add 2 (lnU f x + lnD f (x + g - 57)), Nat.pow_add 2 (lnU f x), Nat.pow_add 2 g.toNat, Nat.pow_add 2 (-g).toNat]
    simp only [Nat.mul_comm, Nat.mul_left_comm, Nat.mul_assoc]
  constructor
  · intro z
    rw [← hkey z]
    exact le_scale (Nat.two_pow_pos _) (Nat.two_pow_pos _) (eL z) eR
  · rw [eq_scale (Nat.two_pow_pos _) (Nat.two_pow_pos _) (eL q) eR, h6]
    cases hR : (R != 0)
    · have : R = 0 := by rwa [bne_eq_false_iff_eq] at hR
      subst this
      exact ⟨fun _ => rfl, fun _ => rfl⟩
    · have : R ≠ 0 := by rwa [bne_iff_ne] at hR
      exact ⟨fun h => by omega, fun h => by cases h⟩
/-! roots -/
theorem x0_rootL {S f way : Nat} {x : Int} (hS : S < 2 ^ 64) (hf : f ≤ 1) (hw : way < 4) (hx1 : -100000 ≤ x) (hx2 : x ≤ 100000) (hxe : x % 2 = 0) (ls : Int32) (ll : Nat → Int64) :
    ∀ k i fuel rt w, i + k = 57 → k < fuel → S * 2 ^ (2 * i) / 2 ^ 64 = rt * rt + w → w ≤ 2 * rt → rt < 2 ^ i →
    ∃ rt' w' s L, f_X0_rootOf_L12 fuel (iI x) (uI f) (uI way) (uL (S * 2 ^ (2 * i) % 2 ^ 64)) (uL w) (uL rt) (uI i) ls ll = some (uL (rcP f way 0 rt' (x / 2 - 25) (w' != 0)), s, L) ∧ S * 2 ^ 50 = rt' * rt' + w' ∧ w' ≤ 2 * rt' ∧ rt' < 2 ^ 57 := by
  intro k
  induction k with
  | zero =>
    intro i fuel rt w hk hfu hinv hw2 hrt
    obtain ⟨m, rfl, _⟩ := ex_succ hfu
    have hi : i = 57 := by omega
    subst hi
    have hfin : S * 2 ^ (2 * 57) / 2 ^ 64 = S * 2 ^ 50 := by
      rw [show (2 : Nat) ^ (2 * 57) = 2 ^ 50 * 2 ^ 64 by decide, ← Nat.mul_assoc, Nat.mul_div_cancel _ (Nat.two_pow_pos _)]
    rw [hfin] at hinv
    rw [f_X0_rootOf_L12, if_pos (by exact (uI_le (a := 57) (by omega) (by omega)).mpr (Nat.le_refl _))]
    unfold f_X0_rootOf_B78
    obtain ⟨s, L, h1, h2⟩ := x4_take ls ll (u := rt) (by omega)
    have hdiv : iI x / (2 : Int32) - (25 : Int32) = iI (x / 2 - 25) := by
      rw [wI_2, iI_tdiv (by omega) (by omega) (by omega) (by omega), wI_25, iI_sub]
      congr 1
      have : x.tdiv 2 = x / 2 := Int.tdiv_eq_ediv_of_dvd (Int.dvd_of_emod_eq_zero hxe)
      omega
    have h3 : ∀ rest : Bool, ∃ s' L', f_X0_rootOf_B110 (uI f) (uI way) (0 : Int32) (iI (x / 2 - 25)) (bI rest) s L = some (uL (rcP f way 0 rt (x / 2 - 25) rest), s', L') := by
      intro rest
      unfold f_X0_rootOf_B110
      have h4 := x0_rounded (sg := 0) (x := x / 2 - 25) rest h2 hf (by omega) hw (by omega) (by omega)
      have h5 : f_X0_rounded s L (0 : Int32) (iI (x / 2 - 25)) (bI rest) (uI f) (uI way) = some (uL (rcP f way 0 rt (x / 2 - 25) rest)) := h4
      rw [h5, Option.bind_some]; exact ⟨_, _, rfl⟩
    rw [h1, Option.bind_some, hdiv]
    by_cases hz : w = 0
    · obtain ⟨s', L', h6⟩ := h3 false
      refine ⟨rt, w, s', L', ?_, hinv, hw2, hrt⟩
      have e0 : (w != 0) = false := by rw [hz]; rfl
      rw [if_pos (by exact (uL_cmp0 (by omega)).mpr hz), e0]
      exact h6
    · obtain ⟨s', L', h6⟩ := h3 true
      refine ⟨rt, w, s', L', ?_, hinv, hw2, hrt⟩
      have e0 : (w != 0) = true := by rw [bne_iff_ne]; exact hz
      rw [if_neg (by exact fun h => hz ((uL_cmp0 (by omega)).mp h)), e0]
      exact h6
  | succ k ih =>
    intro i fuel rt w hk hfu hinv hw2 hrt
    obtain ⟨m, rfl, hm⟩ := ex_succ hfu
    have h2i : 2 ^ i ≤ 2 ^ 56 := Nat.pow_le_pow_right (by decide) (by omega)
    have hP : S * 2 ^ (2 * i) % 2 ^ 64 < 2 ^ 64 := Nat.mod_lt _ (by decide)
    have e4 : S * 2 ^ (2 * (i + 1)) = S * 2 ^ (2 * i) * 4 := by
      rw [show 2 * (i + 1) = 2 * i + 2 by omega, Nat.pow_add, ← Nat.mul_assoc]
    have hdm := Nat.div_add_mod (S * 2 ^ (2 * i)) (2 ^ 64)
    have hnextd : S * 2 ^ (2 * (i + 1)) / 2 ^ 64 = 4 * (S * 2 ^ (2 * i) / 2 ^ 64) + S * 2 ^ (2 * i) % 2 ^ 64 / 2 ^ 62 := by
      rw [e4]
      generalize S * 2 ^ (2 * i) = Y at *
      omega
    have hnextm : S * 2 ^ (2 * (i + 1)) % 2 ^ 64 = S * 2 ^ (2 * i) % 2 ^ 64 * 2 ^ 2 % 2 ^ 64 := by
      rw [e4]
      generalize S * 2 ^ (2 * i) = Y at *
      omega
    have hd4 : S * 2 ^ (2 * i) % 2 ^ 64 / 2 ^ 62 < 4 := by omega
    have ep : lsh (uL (S * 2 ^ (2 * i) % 2 ^ 64)) (2 : Int32) = uL (S * 2 ^ (2 * (i + 1)) % 2 ^ 64) := by
      rw [show (2 : Int32) = uI 2 from rfl, uL_lsh _ (by decide), hnextm]
      apply iL_eqm
      omega
    generalize hPP : S * 2 ^ (2 * i) % 2 ^ 64 = Pq at *
    generalize hdd : Pq / 2 ^ 62 = d at *
    have er : lsh (uL w) (2 : Int32) ||| lus (uL Pq) (62 : Int32) = uL (w * 2 ^ 2 + d) := by
      rw [show (2 : Int32) = uI 2 from rfl, uL_lsh _ (by decide), show (62 : Int32) = uI 62 from rfl, uL_lus (by omega) (by decide), hdd]
      exact lor_add (by omega) (by omega)
    have et : lsh (uL rt) (2 : Int32) ||| (1 : Int64) = uL (rt * 2 ^ 2 + 1) := by
      rw [show (2 : Int32) = uI 2 from rfl, uL_lsh _ (by decide)]
      exact lor_add (a := rt) (b := 1) (k := 2) (by decide) (by omega)
    have e1 : lsh (uL rt) (1 : Int32) = uL (rt * 2 ^ 1) := uL_lsh rt (k := 1) (by decide)
    have e1o : lsh (uL rt) (1 : Int32) ||| (1 : Int64) = uL (rt * 2 ^ 1 + 1) := by
      rw [e1]; exact lor_add (a := rt) (b := 1) (k := 1) (by decide) (by omega)
    rw [f_X0_rootOf_L12, if_neg (by exact fun h => by have := (uI_le (a := 57) (by omega) (by omega)).mp h; omega), er, et, e1o, e1, ep, uI_succ]
    have hsq : 4 * (rt * rt) = rt * 2 ^ 1 * (rt * 2 ^ 1) := by
      rw [Nat.pow_one]; simp only [Nat.mul_comm, Nat.mul_left_comm, Nat.mul_assoc]
    by_cases hlt : w * 2 ^ 2 + d < rt * 2 ^ 2 + 1
    · rw [if_pos (by exact (uL_clt (by omega) (by omega)).mpr hlt)]
      refine ih (i + 1) m (rt * 2 ^ 1) (w * 2 ^ 2 + d) (by omega) (by omega) ?_ (by omega) (by rw [Nat.pow_succ]; omega)
      rw [hnextd, hinv, ← hsq]; omega
    · rw [if_neg (by exact fun h => hlt ((uL_clt (by omega) (by omega)).mp h)), uL_sub (by omega)]
      refine ih (i + 1) m (rt * 2 ^ 1 + 1) (w * 2 ^ 2 + d - (rt * 2 ^ 2 + 1)) (by omega) (by omega) ?_ (by omega) (by rw [Nat.pow_succ]; omega)
      rw [hnextd, hinv]
      have e5 : (rt * 2 ^ 1 + 1) * (rt * 2 ^ 1 + 1) = rt * 2 ^ 1 * (rt * 2 ^ 1) + 4 * rt + 1 := by
        rw [Nat.add_mul, Nat.mul_add, Nat.mul_one, Nat.one_mul, Nat.pow_one]; omega
      rw [e5, ← hsq]; omega
theorem sq_le {z rt w : Nat} (hw : w ≤ 2 * rt) : z * z ≤ rt * rt + w ↔ z ≤ rt := by
  constructor
  · intro h
    apply Nat.le_of_not_lt
    intro hlt
    have := Nat.mul_le_mul (show rt + 1 ≤ z by omega) (show rt + 1 ≤ z by omega)
    rw [Nat.add_mul, Nat.mul_add, Nat.mul_one, Nat.one_mul] at this
    omega
  · intro h
    have := Nat.mul_le_mul h h
    omega
theorem irm_two {a : Int} (h1 : -2147483648 < a) (h2 : a < 2147483648) : irm (iI a) (2 : Int32) = 0 ↔ a % 2 = 0 := by
  unfold irm
  rw [wI_2, iI_tdiv h1 h2 (by omega) (by omega), iI_mul, iI_sub, wI_0]
  have h3 : a - a.tdiv 2 * 2 = a.tmod 2 := by
    rw [Int.tmod_def, Int.mul_comm]
  rw [h3]
  have hm : a.tmod 2 = 0 ↔ a % 2 = 0 := by
    rw [← Int.dvd_iff_tmod_eq_zero, Int.dvd_iff_emod_eq_zero]
  have hlt : -2 < a.tmod 2 ∧ a.tmod 2 < 2 := by
    constructor
    · have := Int.tmod_lt_of_pos (-a) (show (0 : Int) < 2 by decide)
      rw [Int.neg_tmod] at this
      omega
    · exact Int.tmod_lt_of_pos a (by decide)
  rw [iI_eq (by omega) (by omega) (by omega) (by omega), hm]
theorem x0_squareRoot {k sg m f way : Nat} {e : Int} (h : isV k sg m e) (hf : f ≤ 1) (hw : way < 4) (ls : Int32) (ll : Nat → Int64) :
    ∃ P s L, f_X0_squareRoot (uI k) (uI sg) (uL m) (iI e) (uI f) (uI way) ls ll = some (uL P, s, L) ∧
      (if k = 0 then P = pat f sg 0 else if k = 4 ∨ sg = 1 then P = patNone f else if k = 3 then P = pat f 0 (fInf f) else isR f way 0 (m * 2 ^ (e - 2 * (fLo f - 1)).toNat) (2 ^ (2 * (fLo f - 1) - e).toNat) 2 P) := by
  obtain ⟨hk, hs, hm, he1, he2, _, hnz, _⟩ := h
  unfold f_X0_squareRoot f_X0_squareRoot_B31
  by_cases h0 : k = 0
  · subst h0
    rw [if_pos (by exact rfl), x2_nought hf hs, Option.bind_some]
    exact ⟨_, _, _, rfl, by rw [if_pos rfl]⟩
  · rw [if_neg (by exact fun x => h0 ((uI_eq0 (by omega)).mp x))]
    simp only [if_neg h0]
    by_cases h4 : k = 4
    · subst h4
      rw [if_pos (by exact rfl), x2_none hf, Option.bind_some]
      exact ⟨_, _, _, rfl, by rw [if_pos (Or.inl rfl)]⟩
    · rw [if_neg (by exact fun x => h4 ((uI_eq (b := 4) (by omega) (by omega)).mp x))]
      by_cases h1 : sg = 1
      · subst h1
        rw [if_neg (by decide), x2_none hf, Option.bind_some]
        exact ⟨_, _, _, rfl, by rw [if_pos (Or.inr rfl)]⟩
      · have hs0 : sg = 0 := by omega
        subst hs0
        rw [if_pos (by exact rfl)]
        simp only [show ¬ (k = 4 ∨ 0 = 1) by omega, if_false]
        by_cases h3 : k = 3
        · subst h3
          have hn0 : f_X2_endless (uI f) (0 : Int32) = some (uL (pat f 0 (fInf f))) := x2_endless (sg := 0) hf (by omega)
          rw [if_pos (by exact rfl), hn0, Option.bind_some]
          exact ⟨_, _, _, rfl, by rw [if_pos rfl]⟩
        · rw [if_neg (by exact fun x => h3 ((uI_eq (b := 3) (by omega) (by omega)).mp x))]
          simp only [if_neg h3]
          have hm0 : m ≠ 0 := hnz (by omega)
          have hmb : bl m ≤ 53 := bl_le_of_lt hm
          have hmp := bl_pos hm0
          rw [nlz64 (by omega), Option.bind_some, iI_sub, wI_1, iI_sub]
          have hgo : ∀ sh : Nat, sh ≤ 63 → 63 ≤ bl m + sh → bl m + sh ≤ 64 → (e - sh) % 2 = 0 → ∃ P s L, f_X0_squareRoot_B80 (uI k) (uI 0) (uL m) (iI e) (uI f) (uI way) (uI sh) ls ll = some (uL P, s, L) ∧ isR f way 0 (m * 2 ^ (e - 2 * (fLo f - 1)).toNat) (2 ^ (2 * (fLo f - 1) - e).toNat) 2 P := by
            intro sh hsh hb1 hb2 hev
            unfold f_X0_squareRoot_B80 f_X0_rootOf
            have hbS := bl_mul (k := sh) hm0
            have hS64 : m * 2 ^ sh < 2 ^ 64 := lt_of_bl_le (by omega)
            have hS62 : 2 ^ 62 ≤ m * 2 ^ sh := by
              have h0' : m * 2 ^ sh ≠ 0 := Nat.mul_ne_zero hm0 (by have := Nat.two_pow_pos sh; omega)
              have := bl_le h0'
              exact Nat.le_trans (Nat.pow_le_pow_right (by decide) (by omega)) this
            obtain ⟨rt, w, s, L, g1, g2, g3, g4⟩ := x0_rootL (S := m * 2 ^ sh) (x := e - sh) hS64 hf hw (by omega) (by omega) hev ls ll 57 0 FU 0 0 (by omega) (by rw [hFU]; omega) (by rw [Nat.mul_zero, Nat.pow_zero, Nat.mul_one, Nat.div_eq_of_lt hS64]) (by omega) (by decide)
            rw [Nat.mul_zero, Nat.pow_zero, Nat.mul_one, Nat.mod_eq_of_lt hS64] at g1
            have g1' : f_X0_rootOf_L12 FU (iI (e - sh)) (uI f) (uI way) (uL (m * 2 ^ sh)) (0 : Int64) (0 : Int64) (0 : Int32) ls ll = _ := g1
            rw [uL_lsh _ (by omega), iI_sub, g1', Option.bind_some]
            refine ⟨_, _, _, rfl, ?_⟩
            have hwd := wd_lt f
            have hrt : 2 ^ 56 ≤ rt := by
              apply Nat.le_of_not_lt
              intro hlt
              have i1 : (rt + 1) * (rt + 1) ≤ 2 ^ 56 * 2 ^ 56 := Nat.mul_le_mul hlt hlt
              rw [Nat.add_mul, Nat.mul_add, Nat.mul_one, Nat.one_mul] at i1
              have i2 := Nat.mul_le_mul_right (2 ^ 50) hS62
              have i3 : (2 : Nat) ^ 56 * 2 ^ 56 = 2 ^ 62 * 2 ^ 50 := by decide
              omega
            have hblr : 57 ≤ bl rt := by
              apply Nat.le_of_not_lt
              intro hlt
              have := lt_of_bl_le (n := rt) (k := 56) (by omega)
              omega
            refine rc_isR hf ?_ (fun _ => by omega)
            have hx2 : (e - sh) / 2 * 2 = e - sh := by omega
            generalize hy : (e - (sh : Int)) / 2 = y at *
            have hbal : (2 * (fLo f - 1) - e).toNat + (2 * lnU f (y - 25)) + (sh + 50) = (e - 2 * (fLo f - 1)).toNat + 2 * lnD f (y - 25) := by
              unfold lnU lnD; omega
            have eL : ∀ z, 2 ^ (2 * (fLo f - 1) - e).toNat * (z * 2 ^ lnU f (y - 25)) ^ 2 * 2 ^ (sh + 50) = z * z * 2 ^ ((2 * (fLo f - 1) - e).toNat + (2 * lnU f (y - 25)) + (sh + 50)) := by
              intro z
              rw [Nat.mul_pow, ← Nat.pow_mul, Nat.mul_comm (lnU f (y - 25)) 2, Nat.pow_add 2 ((2 * (fLo f - 1) - e).toNat + 2 * lnU f (y - 25)), Nat.pow_add 2 (2 * (fLo f - 1) - e).toNat, show z ^ 2 = z * z from Nat.pow_two z]
              simp only [Nat.mul_comm, Nat.mul_left_comm, Nat.mul_assoc]
            have eR : m * 2 ^ (e - 2 * (fLo f - 1)).toNat * (2 ^ lnD f (y - 25)) ^ 2 * 2 ^ (sh + 50) = m * 2 ^ sh * 2 ^ 50 * 2 ^ ((2 * (fLo f - 1) - e).toNat + (2 * lnU f (y - 25)) + (sh + 50)) := by
              rw [hbal, ← Nat.pow_mul, Nat.mul_comm (lnD f (y - 25)) 2, Nat.pow_add 2 (e - 2 * (fLo f - 1)).toNat, Nat.pow_add 2 sh]
              simp only [Nat.mul_comm, Nat.mul_left_comm, Nat.mul_assoc]
            constructor
            · intro z
              rw [le_scale (Nat.two_pow_pos _) (Nat.two_pow_pos _) (eL z) eR, g2, sq_le g3]
            · rw [eq_scale (Nat.two_pow_pos _) (Nat.two_pow_pos _) (eL rt) eR, g2]
              cases hR : (w != 0)
              · have : w = 0 := by rwa [bne_eq_false_iff_eq] at hR
                subst this
                exact ⟨fun _ => rfl, fun _ => rfl⟩
              · have : w ≠ 0 := by rwa [bne_iff_ne] at hR
                exact ⟨fun h => by omega, fun h => by cases h⟩
          have eA : iI (64 - ((bl m : Nat) : Int)) = uI (64 - bl m) := by
            show iI _ = iI _
            congr 1; omega
          have eB : iI (64 - ((bl m : Nat) : Int) - 1) = uI (63 - bl m) := by
            show iI _ = iI _
            congr 1; omega
          by_cases hev : (e - (64 - ((bl m : Nat) : Int))) % 2 = 0
          · rw [if_pos (by exact (irm_two (by omega) (by omega)).mpr hev), eA]
            exact hgo (64 - bl m) (by omega) (by omega) (by omega) (by omega)
          · rw [if_neg (by exact fun x => hev ((irm_two (by omega) (by omega)).mp x)), eB]
            exact hgo (63 - bl m) (by omega) (by omega) (by omega) (by omega)
