/-! the class's printing at fixed places, rounded, exactly: as the reference -/
theorem plc_zero (k k' : Int) : ∀ n q, plc 0 k n q = plc 0 k' n q := by
  intro n
  induction n with
  | zero => intro q; rfl
  | succ n ih => intro q; unfold plc; rw [dig_zero, dig_zero, ih]
theorem rndZ_exact {way sg A d : Nat} (hd : 0 < d) : rndZ way sg (A * d) d = A := by
  have h1 : hfB (A * d) d = false := decide_eq_false (by rw [Nat.mul_mod_left]; omega)
  have h2 : rfB (A * d) d = false := by unfold rfB; rw [Nat.mul_mod_left]; simp
  have h3 : ∀ odd, gO way sg odd false false = false := by intro odd; unfold gO; split <;> simp
  unfold rndZ
  rw [h1, h2, h3, Nat.mul_div_cancel _ hd]
  simp
theorem rndZ_le (way sg N D : Nat) : rndZ way sg N D ≤ N / D + 1 := by
  unfold rndZ; split <;> omega
theorem x1_cutno {sg way : Int32} {c : Nat} {keep : Int} (top : Int32) (row : Nat → Int32) (hc : c ≤ 792) (hk : (c : Int) ≤ keep) (hk2 : keep ≤ 3000) : f_X1_cut (iI keep) sg way (uI c) top row = some (uI c, top, row) := by
  unfold f_X1_cut
  rw [if_neg (by rw [iI_lt (by omega) (by omega) (by omega) (by omega)]; omega)]
theorem k_fixed {m n way sg : Nat} {e : Int} (hm0 : m ≠ 0) (hm : m < 2 ^ 53) (he1 : -1074 ≤ e) (he2 : e ≤ 971) (hn : n ≤ 60) (hs1 : sg ≤ 1) (hw : way < 4) {l : List Nat} {len : Int32} {B : Nat → Int32} (hs : shOK l len B) (hl : l.length ≤ 1) {len2 : Int32} {B2 : Nat → Int32} (hs2 : shOK l len2 B2) (ct tp : Int32) (row : Nat → Int32) (ws : Int32) (wz : Nat → Int64)
    (fm : Int32) (ll : Int32) (ld : Nat → Int32) (fg : Nat → Int32) (wl : Int32) (wd : Nat → Int32) :
    ∃ l' : List Nat, l'.length ≤ 1077 ∧
      (∃ (a1 a2 : Int32) (a3 : Nat → Int32) (a4 : Int32) (a5 : Nat → Int64) (b1 b2 : Int32) (b3 : Nat → Int32) (len' : Int32) (B' : Nat → Int32), f_X1_takeExactly (uL m) (iI e) ct tp row ws wz = some (a1, a2, a3, a4, a5) ∧ f_X1_cut ((a2 + (1 : Int32)) + uI n) (uI sg) (uI way) a1 a2 a3 = some (b1, b2, b3) ∧ f_X3_printInPlace b1 b2 b3 (uI n) len B = some (len', B') ∧ shOK l' len' B') ∧
      (∃ len' fm' ll' ld' B' fg' wl' wd', f_X11_putFixed (uI sg) (uL m) (iI e) (uI n) (uI way) len2 fm ll ld B2 fg wl wd = some (len', fm', ll', ld', B', fg', wl', wd') ∧ shOK l' len' B') := by
  obtain ⟨cc, r1, r2, r3, r4, r5, r6, r7, r8, r9, hdc, hsh⟩ := x11_fixed hm he1 he2 hn hs1 hw hs2 hl fm ll ld fg wl wd
  have hcc : cc ≤ 451 := by
    have hlim := mul_pow_lim (e := e.toNat) hm hn (by omega)
    have h1 := rndZ_le way sg (m * 10 ^ n * 2 ^ e.toNat) (2 ^ (-e).toNat)
    have h2 := Nat.div_le_self (m * 10 ^ n * 2 ^ e.toNat) (2 ^ (-e).toNat)
    rcases hdc.2 with g | g
    · omega
    · have h3 : 10 ^ (cc - 1) ≤ 10 ^ 450 := by
        refine Nat.le_trans g (Nat.le_trans h1 ?_)
        exact Nat.le_trans (Nat.succ_le_succ h2) hlim
      have := (Nat.pow_le_pow_iff_right (a := 10) (by decide)).mp h3
      omega
  generalize hZ : rndZ way sg (m * 10 ^ n * 2 ^ e.toNat) (2 ^ (-e).toNat) = Z at *
  have hpl := plc_len Z (-(n : Int)) (max cc (n + 1)) (((max cc (n + 1) : Nat) : Int) - n - 1)
  have hlen : (l ++ plc Z (-(n : Int)) (max cc (n + 1)) (((max cc (n + 1) : Nat) : Int) - n - 1)).length ≤ 1077 := by
    rw [List.length_append]
    split at hpl <;> omega
  refine ⟨_, hlen, ?_, ⟨_, _, _, _, _, _, _, _, r9, hsh⟩⟩
  obtain ⟨D, c, T, top, row', s, L, g1, g2, g3, g4, g5, g6, g7, g8, g9⟩ := x1_exact hm0 hm he1 he2 ct tp row ws wz
  have htop := g2.2.2.1
  have hc := g2.2.1
  have hkeep : top + 1 + uI n = iI (T + 1 + n) := by rw [htop, wI_1, iI_add]; exact iI_add _ _
  have hp2 : 0 < 2 ^ (-e).toNat := Nat.pow_pos (by decide)
  -- what is left to print
  have key : ∀ (E c' z : Nat) (T' : Int) (b1 b2 : Int32) (b3 : Nat → Int32), f_X1_cut (iI (T + 1 + n)) (uI sg) (uI way) (uI c) top row' = some (b1, b2, b3) → fgOK E c' T' b1 b2 b3 → plc E (T' - c' + 1) (max T' 0 + n + 1).toNat (max T' 0) = plc Z (-(n : Int)) (max cc (n + 1)) (((max cc (n + 1) : Nat) : Int) - n - 1) → ∃ (a1 a2 : Int32) (a3 : Nat → Int32) (a4 : Int32) (a5 : Nat → Int64) (b1 b2 : Int32) (b3 : Nat → Int32) (len' : Int32) (B' : Nat → Int32), f_X1_takeExactly (uL m) (iI e) ct tp row ws wz = some (a1, a2, a3, a4, a5) ∧ f_X1_cut ((a2 + (1 : Int32)) + uI n) (uI sg) (uI way) a1 a2 a3 = some (b1, b2, b3) ∧ f_X3_printInPlace b1 b2 b3 (uI n) len B = some (len', B') ∧ shOK (l ++ plc Z (-(n : Int)) (max cc (n + 1)) (((max cc (n + 1) : Nat) : Int) - n - 1)) len' B' := by
    intro E c' z T' b1 b2 b3 h1 h2 h3
    have hl2 : l.length + (plc E (T' - c' + 1) (max T' 0 + n + 1).toNat (max T' 0)).length ≤ 1077 := by rw [h3, ← List.length_append]; exact hlen
    obtain ⟨len', B', p1, p2⟩ := x3_inPlace (b := (n : Int)) h2 (by omega) (by omega) hs hl2
    rw [h3] at p2
    rw [← hkeep] at h1
    exact ⟨_, _, _, _, _, _, _, _, _, _, g1, h1, p1, p2⟩
  have hdv := g6
  unfold dv at hdv
  by_cases hk : T + 1 + n < c
  · obtain ⟨E, c', T', b1, b2, b3, f1, f2, ⟨z, f3, f4⟩, f5, f6⟩ := fg_cut (way := way) (sg := sg) (keep := T + 1 + n) g2 g3 g4 g5 hs1 hw hk (by omega) (by omega) (by omega) (by omega)
    have hZe : rndZ way sg D (10 ^ (c - (T + 1 + n)).toNat) = Z := by
      rw [← hZ]
      refine rndZ_eq (ten_pos _) hp2 ?_
      rw [show (T - c + 1).toNat = 0 by omega, Nat.pow_zero, Nat.mul_one, show (-(T - c + 1)).toNat = n + (c - (T + 1 + n)).toNat by omega, Nat.pow_add] at hdv
      rw [hdv]
      simp only [Nat.mul_comm, Nat.mul_left_comm, Nat.mul_assoc]
    rw [hZe] at f3 f5 f6
    by_cases hz0 : Z = 0
    · obtain ⟨f7, f8⟩ := f5 hz0
      have hE : E = 0 := by
        rw [hz0] at f3
        rcases Nat.mul_eq_zero.mp f3.symm with g | g
        · exact g
        · have := ten_pos z; omega
      have hc0 : cc = 0 := dc_zero (by rw [hz0] at hdc; exact hdc)
      have hT0 : T + 1 + n ≤ 0 := by
        have : D / 10 ^ (c - (T + 1 + n)).toNat = 0 := by
          have h1 : rndZ way sg D (10 ^ (c - (T + 1 + n)).toNat) = 0 := by rw [hZe, hz0]
          unfold rndZ at h1
          exact (Nat.add_eq_zero_iff.mp h1).1
        have h2 := (Nat.div_eq_zero_iff_lt (ten_pos _)).mp this
        have h3 := (Nat.pow_lt_pow_iff_right (a := 10) (by decide)).mp (Nat.lt_of_le_of_lt g5 h2)
        omega
      refine key E c' z T' b1 b2 b3 f1 f2 ?_
      rw [hE, hz0, hc0, f8, plc_zero _ (-(n : Int)), show (max T 0) = 0 by omega, show ((0 : Int) + n + 1).toNat = max 0 (n + 1) by omega, show ((max 0 (n + 1) : Nat) : Int) - n - 1 = 0 by omega]
    · obtain ⟨f7, f8⟩ := f6 hz0
      have hcz : cc = c' + z := dc_uniq hdc (by rw [f3]; exact dc_scale z ⟨f2.2.2.2.2.2.1, Or.inr f8⟩ f7)
      have f9 := f4 f7
      refine key E c' z T' b1 b2 b3 f1 f2 ?_
      rw [plc_eq (D := Z) (E := E) (k := -(n : Int)) (k' := T' - c' + 1) (z := z) (by omega) f3]
      congr 1 <;> omega
  · have f1 := x1_cutno (sg := uI sg) (way := uI way) top row' hc (keep := T + 1 + n) (by omega) (by omega)
    have hcross : m * 10 ^ n * 2 ^ e.toNat = D * 10 ^ (T - c + 1 + n).toNat * 2 ^ (-e).toNat := by
      have hx : D * 10 ^ (T - c + 1 + n).toNat * 2 ^ (-e).toNat * 10 ^ (-(T - c + 1)).toNat = m * 10 ^ n * 2 ^ e.toNat * 10 ^ (-(T - c + 1)).toNat := by
        have e1 : 10 ^ (T - c + 1 + n).toNat * 10 ^ (-(T - c + 1)).toNat = 10 ^ (T - c + 1).toNat * 10 ^ n := by
          rw [← Nat.pow_add, ← Nat.pow_add]; congr 1; omega
        have e2 : D * 10 ^ (T - c + 1 + n).toNat * 2 ^ (-e).toNat * 10 ^ (-(T - c + 1)).toNat = D * (10 ^ (T - c + 1 + n).toNat * 10 ^ (-(T - c + 1)).toNat) * 2 ^ (-e).toNat := by
          simp only [Nat.mul_comm, Nat.mul_left_comm, Nat.mul_assoc]
        have e3 : D * (10 ^ (T - c + 1).toNat * 10 ^ n) * 2 ^ (-e).toNat = D * 10 ^ (T - c + 1).toNat * 2 ^ (-e).toNat * 10 ^ n := by
          simp only [Nat.mul_comm, Nat.mul_left_comm, Nat.mul_assoc]
        rw [e2, e1, e3, hdv]
        simp only [Nat.mul_comm, Nat.mul_left_comm, Nat.mul_assoc]
      exact (Nat.eq_of_mul_eq_mul_right (ten_pos _) hx).symm
    rw [hcross, rndZ_exact hp2] at hZ
    have hcz : cc = c + (T - c + 1 + n).toNat := dc_uniq hdc (by rw [← hZ]; exact dc_scale _ ⟨g2.2.2.2.2.2.1, Or.inr g5⟩ g4)
    refine key D c 0 T (uI c) top row' f1 g2 ?_
    rw [plc_eq (D := Z) (E := D) (k := -(n : Int)) (k' := T - c + 1) (z := (T - c + 1 + n).toNat) (by omega) hZ.symm]
    congr 1 <;> omega
theorem exact_low {D m : Nat} {K e : Int} (hD : D % 10 ≠ 0) (h : dv D K m e) : -K ≤ max (-e) 0 := by
  by_cases g : max (-e) 0 < -K
  · exfalso
    unfold dv at h
    rw [show K.toNat = 0 by omega, Nat.pow_zero, Nat.mul_one, show (-K).toNat = (-e).toNat + (-K - max (-e) 0).toNat by omega, Nat.pow_add, five_two (-e).toNat] at h
    have hp : 0 < 2 ^ (-e).toNat := Nat.pow_pos (by decide)
    have h2 : D * 2 ^ (-e).toNat = m * 2 ^ e.toNat * 5 ^ (-e).toNat * 10 ^ (-K - max (-e) 0).toNat * 2 ^ (-e).toNat := by
      rw [h]; simp only [Nat.mul_comm, Nat.mul_left_comm, Nat.mul_assoc]
    have h3 := Nat.eq_of_mul_eq_mul_right hp h2
    rw [h3] at hD
    have := mod10_pow hD
    omega
  · omega
theorem exact_len {D c m : Nat} {T e : Int} (hm : m < 2 ^ 53) (hc0 : 0 < c) (hlead : 10 ^ (c - 1) ≤ D) (h : dv D (T - c + 1) m e) (hb : -(T - c + 1) ≤ max (-e) 0) (hneg : T - c + 1 < 0) (hT : 0 ≤ T) : T + -(T - c + 1) ≤ 100 := by
  unfold dv at h
  rw [show (T - c + 1).toNat = 0 by omega, Nat.pow_zero, Nat.mul_one, show e.toNat = 0 by omega, Nat.pow_zero, Nat.mul_one] at h
  have h1 : 10 ^ (c - 1) * 2 ^ (-e).toNat ≤ m * 10 ^ (-(T - c + 1)).toNat := by rw [← h]; exact Nat.mul_le_mul_right _ hlead
  rw [show c - 1 = T.toNat + (-(T - c + 1)).toNat by omega, Nat.pow_add, Nat.mul_right_comm] at h1
  have h2 := Nat.le_of_mul_le_mul_right h1 (ten_pos _)
  have h3 : 2 ^ T.toNat ≤ 10 ^ T.toNat := Nat.pow_le_pow_left (by decide) _
  have h4 : 2 ^ T.toNat * 2 ^ (-e).toNat < 2 ^ 53 := Nat.lt_of_le_of_lt (Nat.le_trans (Nat.mul_le_mul_right _ h3) h2) hm
  rw [← Nat.pow_add] at h4
  have := (Nat.pow_lt_pow_iff_right (a := 2) (by decide)).mp h4
  omega
theorem k_exact {m : Nat} {e : Int} (hm0 : m ≠ 0) (hm : m < 2 ^ 53) (he1 : -1074 ≤ e) (he2 : e ≤ 971) {l : List Nat} {len : Int32} {B : Nat → Int32} (hs : shOK l len B) (hl : l.length ≤ 1) {len2 : Int32} {B2 : Nat → Int32} (hs2 : shOK l len2 B2) (ct tp : Int32) (row : Nat → Int32) (ws : Int32) (wz : Nat → Int64)
    (fm la : Int32) (ll : Int32) (ld : Nat → Int32) (fg : Nat → Int32) (wl : Int32) (wd : Nat → Int32) :
    ∃ l' : List Nat, l'.length ≤ 1077 ∧
      (∃ (a1 a2 : Int32) (a3 : Nat → Int32) (a4 : Int32) (a5 : Nat → Int64) (b1 : Int32) (len' : Int32) (B' : Nat → Int32), f_X1_takeExactly (uL m) (iI e) ct tp row ws wz = some (a1, a2, a3, a4, a5) ∧ f_J9_max_7cf53 ((a1 - (1 : Int32)) - a2) (0 : Int32) = some b1 ∧ f_X3_printInPlace a1 a2 a3 b1 len B = some (len', B') ∧ shOK l' len' B') ∧
      (∃ len' fm' la' ll' ld' B' fg' wl' wd', f_X11_putExact (uL m) (iI e) len2 fm la ll ld B2 fg wl wd = some (len', fm', la', ll', ld', B', fg', wl', wd') ∧ shOK l' len' B') := by
  obtain ⟨N, cc, k, r1, r2, r3, r4, r5, r6, r7, r8, r9, r10, hdc, hN0, hdv, hk, hk2, hsh⟩ := x11_exact hm0 hm he1 he2 hs2 hl fm la ll ld fg wl wd
  obtain ⟨D, c, T, top, row', s, L, g1, g2, g3, g4, g5, g6, g7, g8, g9⟩ := x1_exact hm0 hm he1 he2 ct tp row ws wz
  obtain ⟨z, hz1, hz2⟩ := dv_uniq g6 hdv g3
  have hcz : cc = c + z := dc_uniq hdc (by rw [hz1]; exact dc_scale z ⟨g2.2.2.2.2.2.1, Or.inr g5⟩ g4)
  have hc := g2.2.1
  have htop := g2.2.2.1
  have hzz : k = 0 ∨ z = 0 := by
    rcases hk2 with g | g
    · exact Or.inl g
    · rw [hz1] at g; exact Or.inr (mod10_pow g)
  have hlist : plc D (T - c + 1) (max T 0 + max (-(T - c + 1)) 0 + 1).toNat (max T 0) = plc N k ((max (cc + k - 1) 0).toNat + 1 + (-k).toNat) (max (cc + k - 1) 0) := by
    rw [plc_eq (D := N) (E := D) (k := k) (k' := T - c + 1) (z := z) (by omega) hz1]
    congr 1 <;> omega
  have hlow := exact_low g3 g6
  have hT0 : T - c + 1 < 0 → 0 ≤ T → T + -(T - c + 1) ≤ 100 := fun h1 h2 => exact_len hm g4 g5 g6 hlow h1 h2
  have hpl := plc_len D (T - c + 1) (max T 0 + max (-(T - c + 1)) 0 + 1).toNat (max T 0)
  have hlen : (l ++ plc D (T - c + 1) (max T 0 + max (-(T - c + 1)) 0 + 1).toNat (max T 0)).length ≤ 1077 := by
    rw [List.length_append]
    split at hpl <;> omega
  refine ⟨_, hlen, ?_, ⟨_, _, _, _, _, _, _, _, _, r10, by rw [hlist]; exact hsh⟩⟩
  obtain ⟨len', B', p1, p2⟩ := x3_inPlace (b := max (-(T - c + 1)) 0) g2 (by omega) (by omega) hs (by rw [← List.length_append]; exact hlen)
  refine ⟨_, _, _, _, _, _, _, _, g1, ?_, p1, p2⟩
  rw [htop, wI_1, iI_sub, iI_sub, wI_0, max_iI (by omega) (by omega) (by omega) (by omega)]
  exact congrArg some (congrArg iI (by omega))
theorem pwL_len (D : Nat) (k t : Int) (n : Nat) : (pwL D k t n).length ≤ n + 9 := by
  unfold pwL
  have := numL_len t
  rw [List.length_cons, List.length_append, List.length_append, pdl_len, List.length_cons]
  split
  · rw [List.length_nil]; omega
  · rw [List.length_singleton]; omega
/-- one value, in two ways -/
theorem sv_dv {N Dd D m : Nat} {t K e : Int} (h1 : sv N Dd t m e) (h2 : dv D K m e) : N * 10 ^ (t.toNat + (-K).toNat) = Dd * (D * 10 ^ (K.toNat + (-t).toNat)) := by
  unfold sv at h1
  unfold dv at h2
  have hp : 0 < 2 ^ (-e).toNat := Nat.pow_pos (by decide)
  refine Nat.eq_of_mul_eq_mul_right hp ?_
  have e1 : N * 10 ^ (t.toNat + (-K).toNat) * 2 ^ (-e).toNat = N * 10 ^ t.toNat * 2 ^ (-e).toNat * 10 ^ (-K).toNat := by
    rw [Nat.pow_add]; simp only [Nat.mul_comm, Nat.mul_left_comm, Nat.mul_assoc]
  have e2 : Dd * (D * 10 ^ (K.toNat + (-t).toNat)) * 2 ^ (-e).toNat = Dd * 10 ^ (-t).toNat * (D * 10 ^ K.toNat * 2 ^ (-e).toNat) := by
    rw [Nat.pow_add]; simp only [Nat.mul_comm, Nat.mul_left_comm, Nat.mul_assoc]
  rw [e1, e2, h1, h2]
  simp only [Nat.mul_comm, Nat.mul_left_comm, Nat.mul_assoc]
theorem sv_top {N Dd D c m : Nat} {t T e : Int} (h1 : sv N Dd t m e) (h2 : dv D (T - c + 1) m e) (hd : 0 < Dd) (hN1 : Dd ≤ N) (hN2 : N < Dd * 10) (hc : 0 < c) (hD1 : 10 ^ (c - 1) ≤ D) (hD2 : D < 10 ^ c) : t = T ∧ N * 10 ^ (c - 1) = D * Dd := by
  have h := sv_dv h1 h2
  have a1 : t ≤ T := by
    have b1 : Dd * 10 ^ (t.toNat + (-(T - c + 1)).toNat) ≤ Dd * (D * 10 ^ ((T - c + 1).toNat + (-t).toNat)) := by rw [← h]; exact Nat.mul_le_mul_right _ hN1
    have b2 := Nat.le_of_mul_le_mul_left b1 hd
    have b3 : D * 10 ^ ((T - c + 1).toNat + (-t).toNat) < 10 ^ c * 10 ^ ((T - c + 1).toNat + (-t).toNat) := Nat.mul_lt_mul_of_pos_right hD2 (ten_pos _)
    rw [← Nat.pow_add] at b3
    have := (Nat.pow_lt_pow_iff_right (a := 10) (by decide)).mp (Nat.lt_of_le_of_lt b2 b3)
    omega
  have a2 : T ≤ t := by
    have b1 : Dd * (D * 10 ^ ((T - c + 1).toNat + (-t).toNat)) < Dd * 10 * 10 ^ (t.toNat + (-(T - c + 1)).toNat) := by rw [← h]; exact Nat.mul_lt_mul_of_pos_right hN2 (ten_pos _)
    rw [Nat.mul_assoc Dd 10, Nat.mul_comm 10, ← Nat.pow_succ] at b1
    have b2 := Nat.lt_of_mul_lt_mul_left b1
    have b3 : 10 ^ (c - 1) * 10 ^ ((T - c + 1).toNat + (-t).toNat) ≤ D * 10 ^ ((T - c + 1).toNat + (-t).toNat) := Nat.mul_le_mul_right _ hD1
    rw [← Nat.pow_add] at b3
    have := (Nat.pow_lt_pow_iff_right (a := 10) (by decide)).mp (Nat.lt_of_le_of_lt b3 b2)
    omega
  have ht : t = T := by omega
  refine ⟨ht, ?_⟩
  rw [ht, show T.toNat + (-(T - c + 1)).toNat = c - 1 + ((T - c + 1).toNat + (-T).toNat) by omega, Nat.pow_add, ← Nat.mul_assoc, ← Nat.mul_assoc] at h
  have := Nat.eq_of_mul_eq_mul_right (ten_pos _) h
  rw [this, Nat.mul_comm]
theorem k_rounded {m n way sg : Nat} {e : Int} (hm0 : m ≠ 0) (hm : m < 2 ^ 53) (he1 : -1074 ≤ e) (he2 : e ≤ 971) (hn1 : 1 ≤ n) (hn : n ≤ 60) (hs1 : sg ≤ 1) (hw : way < 4) {l : List Nat} {len : Int32} {B : Nat → Int32} (hs : shOK l len B) (hl : l.length ≤ 1) {len2 : Int32} {B2 : Nat → Int32} (hs2 : shOK l len2 B2) (ct tp : Int32) (row : Nat → Int32) (ws : Int32) (wz : Nat → Int64)
    (fm la te ll : Int32) (ld fg : Nat → Int32) (nl : Int32) (nd : Nat → Int32) (dl : Int32) (dd : Nat → Int32) (wl : Int32) (wd : Nat → Int32) :
    ∃ l' : List Nat, l'.length ≤ 1077 ∧
      (∃ (a1 a2 : Int32) (a3 : Nat → Int32) (a4 : Int32) (a5 : Nat → Int64) (b1 b2 : Int32) (b3 : Nat → Int32) (len' : Int32) (B' : Nat → Int32), f_X1_takeExactly (uL m) (iI e) ct tp row ws wz = some (a1, a2, a3, a4, a5) ∧ f_X1_cut (uI n) (uI sg) (uI way) a1 a2 a3 = some (b1, b2, b3) ∧ f_X3_printPowered b1 b2 b3 (uI n) len B = some (len', B') ∧ shOK l' len' B') ∧
      (∃ (len' fm' la' te' ll' : Int32) (ld' B' fg' : Nat → Int32) (nl' : Int32) (nd' : Nat → Int32) (dl' : Int32) (dd' : Nat → Int32) (wl' : Int32) (wd' : Nat → Int32), f_X11_putRounded (uI sg) (uL m) (iI e) (uI n) (uI way) len2 fm la te ll ld B2 fg nl nd dl dd wl wd = some (len', fm', la', te', ll', ld', B', fg', nl', nd', dl', dd', wl', wd') ∧ shOK l' len' B') := by
  obtain ⟨N0, Dd, t, cc, r1, r2, r3, r4, r5, r6, r7, r8, r9, r10, r11, r12, r13, r14, q1, q2, q3, q4, q5, hdc, q7, hsh⟩ := x11_rounded hm0 hm he1 he2 hn1 hn hs1 hw hs2 hl fm la te ll ld fg nl nd dl dd wl wd
  obtain ⟨D, c, T, top, row', s, L, g1, g2, g3, g4, g5, g6, g7, g8, g9⟩ := x1_exact hm0 hm he1 he2 ct tp row ws wz
  have hD2 := g2.2.2.2.2.2.1
  have hc := g2.2.1
  obtain ⟨rfl, hcr⟩ := sv_top q2 g6 q3 q4 q5 g4 g5 hD2
  generalize hZ : rndZ way sg (N0 * 10 ^ (n - 1)) Dd = Z at *
  have hZ0 : Z ≠ 0 := by
    intro h0
    rw [h0] at hdc
    have := dc_zero hdc
    omega
  have hlen : (l ++ pwL Z (t - n + 1) (t - n + cc) n).length ≤ 1077 := by
    have := pwL_len Z (t - n + 1) (t - n + cc) n
    rw [List.length_append]; omega
  refine ⟨_, hlen, ?_, ⟨_, _, _, _, _, _, _, _, _, _, _, _, _, _, q1, hsh⟩⟩
  by_cases hk : n < c
  · obtain ⟨E, c', T', b1, b2, b3, f1, f2, ⟨z, f3, f4⟩, f5, f6⟩ := fg_cut (way := way) (sg := sg) (keep := (n : Int)) g2 g3 g4 g5 hs1 hw (by omega) (by omega) (by omega) (by omega) (by omega)
    have hZe : rndZ way sg D (10 ^ ((c : Int) - n).toNat) = Z := by
      rw [← hZ]
      refine rndZ_eq (ten_pos _) q3 ?_
      rw [← hcr, Nat.mul_assoc, ← Nat.pow_add]
      congr 2; omega
    rw [hZe] at f3 f5 f6
    obtain ⟨f7, f8⟩ := f6 hZ0
    have f9 := f4 f7
    have hcz : cc = c' + z := dc_uniq hdc (by rw [f3]; exact dc_scale z ⟨f2.2.2.2.2.2.1, Or.inr f8⟩ f7)
    obtain ⟨len', B', p1, p2⟩ := x3_powered (n := n) f2 (by omega) hn1 hs hl
    refine ⟨_, _, _, _, _, _, _, _, _, _, g1, f1, p1, ?_⟩
    rw [pwL_eq (D := Z) (E := E) (k := t - n + 1) (k' := T' - c' + 1) (z := z) (by omega) f3, show t - (n : Int) + cc = T' by omega]
    exact p2
  · have f1 := x1_cutno (sg := uI sg) (way := uI way) top row' hc (keep := (n : Int)) (by omega) (by omega)
    have hex : N0 * 10 ^ (n - 1) = D * 10 ^ (n - c) * Dd := by
      rw [show n - 1 = c - 1 + (n - c) by omega, Nat.pow_add, ← Nat.mul_assoc, hcr]
      simp only [Nat.mul_comm, Nat.mul_left_comm, Nat.mul_assoc]
    rw [hex, rndZ_exact q3] at hZ
    have hcz : cc = c + (n - c) := dc_uniq hdc (by rw [← hZ]; exact dc_scale _ ⟨hD2, Or.inr g5⟩ g4)
    obtain ⟨len', B', p1, p2⟩ := x3_powered (n := n) g2 (by omega) hn1 hs hl
    refine ⟨_, _, _, _, _, _, _, _, _, _, g1, f1, p1, ?_⟩
    rw [pwL_eq (D := Z) (E := D) (k := t - n + 1) (k' := t - c + 1) (z := n - c) (by omega) hZ.symm, show t - (n : Int) + cc = t by omega]
    exact p2
