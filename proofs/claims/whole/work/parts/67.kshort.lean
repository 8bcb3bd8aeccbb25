/-! the shortest: both together -/
theorem sv_A {R U m s : Nat} {T e : Int} (h : sv R U T 1 (e - s)) : sv (m * 2 ^ s * R) U T m e := by
  unfold sv at *
  rw [Nat.one_mul] at h
  refine Nat.eq_of_mul_eq_mul_right (Nat.pow_pos (n := (-(e - s)).toNat) (show 0 < 2 by decide)) ?_
  have e1 : 2 ^ s * 2 ^ (-e).toNat * 2 ^ (e - s).toNat = 2 ^ e.toNat * 2 ^ (-(e - s)).toNat := by
    rw [← Nat.pow_add, ← Nat.pow_add, ← Nat.pow_add]; congr 1; omega
  have e2 : m * 2 ^ s * R * 10 ^ T.toNat * 2 ^ (-e).toNat * 2 ^ (-(e - s)).toNat = m * 2 ^ s * 2 ^ (-e).toNat * (R * 10 ^ T.toNat * 2 ^ (-(e - s)).toNat) := by simp only [Nat.mul_comm, Nat.mul_left_comm, Nat.mul_assoc]
  have e3 : m * 2 ^ s * 2 ^ (-e).toNat * (U * (2 ^ (e - s).toNat * 10 ^ (-T).toNat)) = U * m * 10 ^ (-T).toNat * (2 ^ s * 2 ^ (-e).toNat * 2 ^ (e - s).toNat) := by simp only [Nat.mul_comm, Nat.mul_left_comm, Nat.mul_assoc]
  rw [e2, h, e3, e1]
  simp only [Nat.mul_comm, Nat.mul_left_comm, Nat.mul_assoc]
theorem two_top {P Q G a b : Nat} (h : P * 10 ^ a = Q * 10 ^ b) (hG : 0 < G) (hP1 : G ≤ P) (hP2 : P < G * 10) (hQ1 : G ≤ Q) (hQ2 : Q < G * 10) : a = b ∧ P = Q := by
  have key : ∀ P Q a b : Nat, P * 10 ^ a = Q * 10 ^ b → G ≤ P → Q < G * 10 → ¬ b < a := by
    intro P Q a b h h1 h2 hl
    rw [show a = a - b - 1 + 1 + b by omega, Nat.pow_add, Nat.pow_succ, ← Nat.mul_assoc] at h
    have h3 := Nat.eq_of_mul_eq_mul_right (ten_pos b) h
    have h4 : P * 10 ≤ P * (10 ^ (a - b - 1) * 10) := Nat.mul_le_mul_left _ (by have := ten_pos (a - b - 1); omega)
    omega
  have h1 := key P Q a b h hP1 hQ2
  have h2 := key Q P b a h.symm hQ1 hP2
  have hab : a = b := by omega
  refine ⟨hab, ?_⟩
  rw [hab] at h
  exact Nat.eq_of_mul_eq_mul_right (ten_pos b) h
theorem sv_two {N D A U m : Nat} {t T e : Int} (hm : 0 < m) (h1 : sv N D t m e) (h2 : sv A U T m e) (hD : 0 < D) (hU : 0 < U) (hN1 : D ≤ N) (hN2 : N < D * 10) (hA1 : U ≤ A) (hA2 : A < U * 10) : t = T ∧ A * D = N * U := by
  unfold sv at h1 h2
  have hW : 0 < m * 2 ^ e.toNat * 2 ^ (-e).toNat := Nat.mul_pos (Nat.mul_pos hm (Nat.pow_pos (by decide))) (Nat.pow_pos (by decide))
  have hx : N * U * 10 ^ (t.toNat + (-T).toNat) = A * D * 10 ^ (T.toNat + (-t).toNat) := by
    refine Nat.eq_of_mul_eq_mul_right hW ?_
    have e1 : N * U * 10 ^ (t.toNat + (-T).toNat) * (m * 2 ^ e.toNat * 2 ^ (-e).toNat) = N * 10 ^ t.toNat * 2 ^ (-e).toNat * (U * (m * 2 ^ e.toNat * 10 ^ (-T).toNat)) := by
      rw [Nat.pow_add]; simp only [Nat.mul_comm, Nat.mul_left_comm, Nat.mul_assoc]
    have e2 : A * D * 10 ^ (T.toNat + (-t).toNat) * (m * 2 ^ e.toNat * 2 ^ (-e).toNat) = A * 10 ^ T.toNat * 2 ^ (-e).toNat * (D * (m * 2 ^ e.toNat * 10 ^ (-t).toNat)) := by
      rw [Nat.pow_add]; simp only [Nat.mul_comm, Nat.mul_left_comm, Nat.mul_assoc]
    rw [e1, e2, ← h1, ← h2, Nat.mul_comm]
  have hG : 0 < D * U := Nat.mul_pos hD hU
  have a1 : D * U ≤ N * U := Nat.mul_le_mul_right _ hN1
  have a2 : N * U < D * U * 10 := by rw [Nat.mul_right_comm]; exact Nat.mul_lt_mul_of_pos_right hN2 hU
  have a3 : D * U ≤ A * D := by rw [Nat.mul_comm]; exact Nat.mul_le_mul_right _ hA1
  have a4 : A * D < D * U * 10 := by rw [Nat.mul_comm D U, Nat.mul_right_comm]; exact Nat.mul_lt_mul_of_pos_right hA2 hD
  obtain ⟨q1, q2⟩ := two_top hx hG a1 a2 a3 a4
  exact ⟨by omega, q2.symm⟩
/-- one figure more -/
theorem sh_next {A U : Nat} (hU : 0 < U) (i : Nat) : ∃ d, A * 10 ^ (i + 1) / U = A * 10 ^ i / U * 10 + d ∧ d < 10 ∧ A * 10 ^ (i + 1) % U + d * U = A * 10 ^ i % U * 10 := by
  refine ⟨A * 10 ^ i % U * 10 / U, ?_, ?_, ?_⟩
  · have h1 : A * 10 ^ (i + 1) = U * (A * 10 ^ i / U * 10) + A * 10 ^ i % U * 10 := by
      have := Nat.div_add_mod (A * 10 ^ i) U
      rw [Nat.pow_succ, ← Nat.mul_assoc, ← Nat.mul_assoc, ← Nat.add_mul, this]
    rw [h1, Nat.mul_add_div hU]
  · refine Nat.div_lt_of_lt_mul ?_
    exact Nat.mul_lt_mul_of_pos_right (Nat.mod_lt _ hU) (by decide)
  · have h1 : A * 10 ^ (i + 1) = U * (A * 10 ^ i / U * 10) + A * 10 ^ i % U * 10 := by
      have := Nat.div_add_mod (A * 10 ^ i) U
      rw [Nat.pow_succ, ← Nat.mul_assoc, ← Nat.mul_assoc, ← Nat.add_mul, this]
    rw [h1, Nat.mul_add_mod, Nat.mul_comm _ U, Nat.mod_add_div]
theorem sh_last {A U R s i0 : Nat} {ev : Bool} (hU : 0 < U) (hU1 : U ≤ A) (hU2 : A < U * 10) (hno : ∀ j, j < i0 → (loP A U R ev j || hiP A U R s ev j) = false) (hyes : (loP A U R ev i0 || hiP A U R s ev i0) = true) (hup : upP A U R s ev i0 = false) : A * 10 ^ i0 / U % 10 ≠ 0 := by
  have hlo : loP A U R ev i0 = true := by
    cases h1 : loP A U R ev i0 with
    | true => rfl
    | false =>
      rw [h1, Bool.false_or] at hyes
      unfold upP at hup
      rw [hyes, h1] at hup
      simp at hup
  rcases Nat.eq_zero_or_pos i0 with h0 | h0
  · subst h0
    rw [Nat.pow_zero, Nat.mul_one]
    have h1 : A / U < 10 := Nat.div_lt_of_lt_mul hU2
    have h2 : 1 ≤ A / U := (Nat.le_div_iff_mul_le hU).mpr (by omega)
    generalize A / U = x at *
    omega
  · obtain ⟨i, rfl⟩ : ∃ i, i0 = i + 1 := ⟨i0 - 1, by omega⟩
    intro h10
    obtain ⟨d, hd1, hd2, hd3⟩ := sh_next (A := A) hU i
    have hd0 : d = 0 := by rw [hd1] at h10; generalize A * 10 ^ i / U = x at *; omega
    rw [hd0, Nat.zero_mul, Nat.add_zero] at hd3
    have hn := (Bool.or_eq_false_iff.mp (hno i (by omega))).1
    have : loP A U R ev i = true := by
      unfold loP at hlo ⊢
      rw [hd3, Nat.pow_succ, ← Nat.mul_assoc] at hlo
      rw [dec_iff (show A * 10 ^ i % U * 10 < R * 10 ^ i * 10 ↔ A * 10 ^ i % U < R * 10 ^ i by omega), dec_iff (show A * 10 ^ i % U * 10 = R * 10 ^ i * 10 ↔ A * 10 ^ i % U = R * 10 ^ i by omega)] at hlo
      exact hlo
    rw [hn] at this
    exact absurd this (by decide)
theorem ite_le1 (b : Bool) : (if b then 1 else 0 : Nat) ≤ 1 := by cases b <;> decide
theorem k_shortE {f t : Nat} (hf : f ≤ 1) (ht : t < 2 ^ fTop f) (ht0 : t ≠ 0) (hfin : t / 2 ^ fWd f ≠ fEx f) (hm0 : stM f t ≠ 0) (he1 : -1074 ≤ fLo f + stE f t) (he2 : fLo f + stE f t ≤ 971)
    (z1 z2 z3 : Int32) (z4 : Nat → Int64) (z5 : Int32) (z6 : Nat → Int64) (z7 : Int32) (z8 : Nat → Int64) (z9 : Int32) (z10 : Nat → Int64) (ct tp : Int32) (row : Nat → Int32)
    (sg pw rt fm la te al : Int32) (ad : Nat → Int32) (bl0 : Int32) (bd : Nat → Int32) (ll : Int32) (ld : Nat → Int32) (rl : Int32) (rd : Nat → Int32) (gl : Int32) (gd : Nat → Int32) (tl : Int32) (td fg : Nat → Int32) (nl : Int32) (nd : Nat → Int32) (dl : Int32) (dd : Nat → Int32) (wl : Int32) (wd : Nat → Int32) (hl : Int32) (hd : Nat → Int32) :
    ∃ (E c : Nat) (T : Int), 1 ≤ c ∧ c ≤ 100 ∧ -350 ≤ T - c + 1 ∧ T ≤ 330 ∧ dcP E c ∧
      (∃ (o1 o2 o3 : Int32) (o4 : Nat → Int64) (o5 : Int32) (o6 : Nat → Int64) (o7 : Int32) (o8 : Nat → Int64) (o9 : Int32) (o10 : Nat → Int64) (ct' tp' : Int32) (row' : Nat → Int32), f_X6_find (uL (stM f t)) (iI (fLo f + stE f t)) (bI (vN f t)) z1 z2 z3 z4 z5 z6 z7 z8 z9 z10 ct tp row = some (o1, o2, o3, o4, o5, o6, o7, o8, o9, o10, ct', tp', row') ∧ fgOK E c T ct' tp' row') ∧
      (∃ (o1 o2 o3 o4 a1 : Int32) (a2 : Nat → Int32) (a3 : Int32) (a4 : Nat → Int32) (a5 : Int32) (a6 : Nat → Int32) (a7 : Int32) (a8 : Nat → Int32) (a9 : Int32) (a10 : Nat → Int32) (a11 : Int32) (a12 fg' : Nat → Int32) (b1 : Int32) (b2 : Nat → Int32) (b3 : Int32) (b4 : Nat → Int32) (b5 : Int32) (b6 : Nat → Int32) (b7 : Int32) (b8 : Nat → Int32), f_X11_shorten (uL (stM f t)) (iI (fLo f + stE f t)) (uI f) (uL t) sg pw rt fm la te al ad bl0 bd ll ld rl rd gl gd tl td fg nl nd dl dd wl wd hl hd = some (o1, o2, o3, uI c, iI (T - c + 1), o4, a1, a2, a3, a4, a5, a6, a7, a8, a9, a10, a11, a12, fg', b1, b2, b3, b4, b5, b6, b7, b8) ∧ tlOK E c fg') := by
  have hm := stM_lt f t
  have hs1 : (if vN f t then 2 else 1 : Nat) = if vN f t then 2 else 1 := rfl
  obtain ⟨A, U, R, i0, T, E, c', z, T', o1, o2, o3, o4, o5, o6, o7, o8, o9, o10, ct', tp', row', hfind, hA, hR, hU0, hU1, hU2, hsv, hT1, hT2, hi0, hno, hyes, hfg, hc0, hlead, hZ, hT', hz0, hE10⟩ := x6_find hs1 hm0 hm he1 he2 z1 z2 z3 z4 z5 z6 z7 z8 z9 z10 ct tp row
  obtain ⟨t', N0, D, p1, p2, p3, p4, p5, p6, g1, g2, g3, g4, g5, g6, g7, g8, g9, g10⟩ := x11_scale hm0 hm he1 he2 te ll ld nl nd dl dd
  have hsvA := sv_A (m := stM f t) hsv
  rw [← hA] at hsvA
  obtain ⟨rfl, hAD⟩ := sv_two (Nat.pos_of_ne_zero hm0) g8 hsvA g4 hU0 g5 g6 hU1 hU2
  obtain ⟨s1, D1, g11, g12⟩ := x10_set wl wd (u := 0) (by omega)
  have g11' : f_X10_set (0 : Int64) wl wd = some (s1, D1) := g11
  obtain ⟨N', c2, y, e1, e2, e3, e4, a1, a2, a3, a4, a5, a6, a7, a8, a9, a10, a11, a12, fg', b1, b2, b3, b4, b5, b6, b7, b8, q1, q2, q3, q4, q5, q6⟩ := x11_shL hf ht ht0 hfin hm0 hU0 hR hU1 hA hsv hT1 hT2 g4 g6 (Nat.lt_of_le_of_lt g5 g7) hAD hi0 hno hyes (uL (stM f t)) (iI (fLo f + stE f t)) fm la fg g3 i0 0 FU 0 N0 sg pw rt al ad bl0 bd p1 p2 rl rd gl gd tl td p3 p4 s1 D1 hl hd (by omega) (by rw [hFU]; omega) (by rw [Nat.pow_zero, Nat.mul_one, Nat.zero_mul, Nat.zero_add]) g6 g2 g12
  have hZ0 : A * 10 ^ i0 / U ≠ 0 := by
    have h1 := q_low hU0 hU1 i0
    have h2 := ten_pos i0
    omega
  have hN0' : N' ≠ 0 := by
    intro h0
    rw [h0, Nat.zero_mul] at q5
    exact hZ0 (Nat.add_eq_zero_iff.mp q5).1
  have hN10 : N' % 10 ≠ 0 := by
    rcases q6 with g | g
    · have := q2.2.1
      rw [g, Nat.pow_one] at this
      omega
    · exact g
  have hE : E % 10 ≠ 0 := by
    cases hup : upP A U R (if vN f t then 2 else 1) (stM f t % 2 == 0) i0 with
    | true => exact hE10 hup
    | false =>
      have h1 := sh_last hU0 hU1 hU2 hno hyes hup
      have h2 := hz0 hup
      rw [hup, h2, Nat.pow_zero, Nat.mul_one] at hZ
      have h3 : A * 10 ^ i0 / U = E := hZ
      rw [h3] at h1
      exact h1
  have hEN : E * 10 ^ z = N' * 10 ^ y := by rw [← hZ, q5]
  have hzy : z = y ∧ E = N' := by
    rcases Nat.lt_trichotomy z y with g | g | g
    · rw [show y = y - z + z by omega, Nat.pow_add, ← Nat.mul_assoc] at hEN
      have h1 := Nat.eq_of_mul_eq_mul_right (ten_pos z) hEN
      rw [h1] at hE
      have := mod10_pow hE
      omega
    · rw [g] at hEN
      exact ⟨g, Nat.eq_of_mul_eq_mul_right (ten_pos y) hEN⟩
    · rw [show z = z - y + y by omega, Nat.pow_add, ← Nat.mul_assoc] at hEN
      have h1 := Nat.eq_of_mul_eq_mul_right (ten_pos y) hEN
      rw [← h1] at hN10
      have := mod10_pow hN10
      omega
  obtain ⟨hzy1, hzy2⟩ := hzy
  subst hzy2
  have hdc : dcP E c' := ⟨hfg.2.2.2.2.2.1, Or.inr hlead⟩
  have hcc : c2 = c' := dc_uniq (tl_dc q2) hdc
  subst hcc
  have hzb : z ≤ i0 + 1 := by
    have h1 : E * 10 ^ z ≤ 10 ^ (i0 + 1) := by
      rw [← hZ]
      have h2 : A * 10 ^ i0 / U < 10 ^ (i0 + 1) := by
        refine (Nat.div_lt_iff_lt_mul hU0).mpr ?_
        have := Nat.mul_lt_mul_of_pos_right hU2 (ten_pos i0)
        rw [Nat.pow_succ, show 10 ^ i0 * 10 * U = U * 10 * 10 ^ i0 by simp only [Nat.mul_comm, Nat.mul_left_comm, Nat.mul_assoc]]
        exact this
      exact Nat.le_trans (Nat.add_le_add_left (ite_le1 _) _) h2
    have h3 : 10 ^ z ≤ E * 10 ^ z := Nat.le_mul_of_pos_left _ (Nat.pos_of_ne_zero hN0')
    exact (Nat.pow_le_pow_iff_right (a := 10) (by decide)).mp (Nat.le_trans h3 h1)
  have hcb : c2 + z ≤ i0 + 2 := by
    have h1 : dcP (E * 10 ^ z) (c2 + z) := dc_scale z hdc hc0
    have h2 : E * 10 ^ z ≤ 10 ^ (i0 + 1) := by
      rw [← hZ]
      have h2 : A * 10 ^ i0 / U < 10 ^ (i0 + 1) := by
        refine (Nat.div_lt_iff_lt_mul hU0).mpr ?_
        have := Nat.mul_lt_mul_of_pos_right hU2 (ten_pos i0)
        rw [Nat.pow_succ, show 10 ^ i0 * 10 * U = U * 10 * 10 ^ i0 by simp only [Nat.mul_comm, Nat.mul_left_comm, Nat.mul_assoc]]
        exact this
      exact Nat.le_trans (Nat.add_le_add_left (ite_le1 _) _) h2
    rcases h1.2 with g | g
    · omega
    · have := (Nat.pow_le_pow_iff_right (a := 10) (by decide)).mp (Nat.le_trans g h2)
      omega
  refine ⟨E, c2, T', q3, q4, by omega, by omega, hdc, ⟨_, _, _, _, _, _, _, _, _, _, _, _, _, hfind, hfg⟩, ⟨e1, e2, e3, e4, a1, a2, a3, a4, a5, a6, a7, a8, a9, a10, a11, a12, fg', b1, b2, b3, b4, b5, b6, b7, b8, ?_, q2⟩⟩
  unfold f_X11_shorten
  rw [g1, Option.bind_some, g11', Option.bind_some, show T' - (c2 : Int) + 1 = t' - i0 + y by omega]
  exact q1
/-- plain, the shortest -/
theorem sh_plain {E c : Nat} {T : Int} (hc1 : 1 ≤ c) (hc2 : c ≤ 100) (hT1 : -350 ≤ T - c + 1) (hT2 : T ≤ 330) {ct tp : Int32} {row : Nat → Int32} (hf : fgOK E c T ct tp row) {fg : Nat → Int32} (ht : tlOK E c fg) {l : List Nat} {len : Int32} {B : Nat → Int32} (hs : shOK l len B) (hl : l.length ≤ 1) {len2 : Int32} {B2 : Nat → Int32} (hs2 : shOK l len2 B2) :
    ∃ l' : List Nat, l'.length ≤ 1077 ∧ (∃ b1 len' B', f_J9_max_7cf53 ((ct - (1 : Int32)) - tp) (0 : Int32) = some b1 ∧ f_X3_printInPlace ct tp row b1 len B = some (len', B') ∧ shOK l' len' B') ∧ (∃ len' B', f_X11_putPlain (uI c) (iI (T - c + 1)) fg len2 B2 = some (len', B') ∧ shOK l' len' B') := by
  have hct := hf.1
  have htop := hf.2.2.1
  obtain ⟨r1, r2, r3, r4⟩ := x11_plain ht (k := T - c + 1) (by omega) (by omega) hs2 (by omega)
  have hlist : plc E (T - c + 1) (max T 0 + max (-(T - c + 1)) 0 + 1).toNat (max T 0) = plc E (T - c + 1) ((max (c + (T - c + 1) - 1) 0).toNat + 1 + (-(T - c + 1)).toNat) (max (c + (T - c + 1) - 1) 0) := by
    congr 1 <;> omega
  have hpl := plc_len E (T - c + 1) (max T 0 + max (-(T - c + 1)) 0 + 1).toNat (max T 0)
  have hlen : (l ++ plc E (T - c + 1) (max T 0 + max (-(T - c + 1)) 0 + 1).toNat (max T 0)).length ≤ 1077 := by
    rw [List.length_append]
    split at hpl <;> omega
  refine ⟨_, hlen, ?_, ⟨_, _, r3, by rw [hlist]; exact r4⟩⟩
  obtain ⟨len', B', p1, p2⟩ := x3_inPlace (b := max (-(T - c + 1)) 0) hf (by omega) (by omega) hs (by rw [← List.length_append]; exact hlen)
  refine ⟨_, _, _, ?_, p1, p2⟩
  rw [hct, htop, wI_1, iI_sub, iI_sub, wI_0, max_iI (by omega) (by omega) (by omega) (by omega)]
  exact congrArg some (congrArg iI (by omega))
/-- powered, the shortest -/
theorem sh_powered {E c : Nat} {T : Int} (hc1 : 1 ≤ c) (hc2 : c ≤ 100) (hT1 : -350 ≤ T - c + 1) (hT2 : T ≤ 330) {ct tp : Int32} {row : Nat → Int32} (hf : fgOK E c T ct tp row) {fg : Nat → Int32} (ht : tlOK E c fg) {l : List Nat} {len : Int32} {B : Nat → Int32} (hs : shOK l len B) (hl : l.length ≤ 1) {len2 : Int32} {B2 : Nat → Int32} (hs2 : shOK l len2 B2) :
    ∃ l' : List Nat, l'.length ≤ 1077 ∧ (∃ b1 len' B', f_J9_max_7cf53 ct (1 : Int32) = some b1 ∧ f_X3_printPowered ct tp row b1 len B = some (len', B') ∧ shOK l' len' B') ∧ (∃ len' B', f_X11_putPowered (uI c) (iI (T - c + 1)) fg len2 B2 = some (len', B') ∧ shOK l' len' B') := by
  have hct := hf.1
  obtain ⟨r1, r2, r3, r4⟩ := x11_powered ht hc1 hc2 (k := T - c + 1) (by omega) (by omega) hs2 hl
  obtain ⟨len', B', p1, p2⟩ := x3_powered (n := c) hf (by omega) hc1 hs hl
  rw [show (c : Int) + (T - c + 1) - 1 = T by omega] at r4
  refine ⟨_, ?_, ⟨uI c, _, _, ?_, p1, p2⟩, ⟨_, _, r3, r4⟩⟩
  · have := pwL_len E (T - c + 1) T c
    rw [List.length_append]; omega
  · rw [hct, show (1 : Int32) = uI 1 from rfl, max_uI (by omega) (by omega), show max c 1 = c by omega]
