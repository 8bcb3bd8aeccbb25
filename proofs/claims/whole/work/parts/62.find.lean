/-! the class's search of the shortest: its loop -/
def loP (A U R : Nat) (ev : Bool) (i : Nat) : Bool := decide (A * 10 ^ i % U < R * 10 ^ i) || (decide (A * 10 ^ i % U = R * 10 ^ i) && ev)
def hiP (A U R s : Nat) (ev : Bool) (i : Nat) : Bool := decide (U < A * 10 ^ i % U + s * (R * 10 ^ i)) || (decide (U = A * 10 ^ i % U + s * (R * 10 ^ i)) && ev)
def upP (A U R s : Nat) (ev : Bool) (i : Nat) : Bool := hiP A U R s ev i && (!loP A U R ev i || decide (U < 2 * (A * 10 ^ i % U)))
theorem first_ex {P : Nat → Bool} : ∀ n, P n = true → ∃ i, i ≤ n ∧ (∀ j, j < i → P j = false) ∧ P i = true := by
  intro n
  induction n with
  | zero => intro h; exact ⟨0, Nat.le_refl _, fun j hj => by omega, h⟩
  | succ n ih =>
    intro h
    by_cases hx : ∃ j, j ≤ n ∧ P j = true
    · obtain ⟨j, hj, hp⟩ := hx
      have key : ∀ n, P n = true → n ≤ j → ∃ i, i ≤ j ∧ (∀ j, j < i → P j = false) ∧ P i = true := by
        intro n
        induction n using Nat.strongRecOn with
        | _ n ih2 =>
          intro h1 h2
          by_cases hy : ∃ k, k < n ∧ P k = true
          · obtain ⟨k, hk, hpk⟩ := hy
            exact ih2 k hk hpk (by omega)
          · refine ⟨n, h2, fun k hk => ?_, h1⟩
            cases hv : P k with
            | false => rfl
            | true => exact absurd ⟨k, hk, hv⟩ hy
      obtain ⟨i, h1, h2, h3⟩ := key j hp (Nat.le_refl _)
      exact ⟨i, by omega, h2, h3⟩
    · refine ⟨n + 1, Nat.le_refl _, fun k hk => ?_, h⟩
      cases hv : P k with
      | false => rfl
      | true => exact absurd ⟨k, by omega, hv⟩ hx
theorem fg_app {D c d : Nat} {T : Int} {count top : Int32} {row : Nat → Int32} (h : fgOK D c T count top row) (hd : d < 10) (hc : c < 792) : fgOK (D * 10 + d) (c + 1) T (uI (c + 1)) top (upd row c (uI d)) := by
  obtain ⟨_, h2, h3, h4, h5, h6, h7⟩ := h
  refine ⟨rfl, by omega, h3, h4, h5, ?_, ?_⟩
  · rw [Nat.pow_succ]; omega
  · intro j hj
    by_cases hjc : j = c
    · rw [hjc, upd_eq, show c + 1 - 1 - c = 0 by omega, Nat.pow_zero, Nat.div_one]
      exact congrArg uI (by omega)
    · rw [upd_ne _ _ hjc, h7 j (by omega), show c + 1 - 1 - j = c - 1 - j + 1 by omega, Nat.pow_succ, Nat.mul_comm (10 ^ _) 10, ← Nat.div_div_eq_div_mul, show (D * 10 + d) / 10 = D by omega]
theorem x6_takeL {U : Nat} {su : Int32} {Lu : Nat → Int64} (hu : R32 su Lu U) (hU : 0 < U) : ∀ k v fuel V sa La, V / U = k → v + k ≤ 9 → k < fuel → R32 sa La V → ∃ sa' La', f_X6_takeFigure_L2 su Lu fuel (uI v) sa La = some (uI (v + k), sa', La') ∧ R32 sa' La' (V % U) := by
  intro k
  induction k with
  | zero =>
    intro v fuel V sa La hV hv hf hR
    obtain ⟨f, rfl, _⟩ := ex_succ hf
    have hlt : V < U := (Nat.div_eq_zero_iff_lt hU).mp hV
    rw [f_X6_takeFigure_L2, Nat.mod_eq_of_lt hlt]
    by_cases h9 : 9 ≤ v
    · rw [if_pos (by exact (uI_le (a := 9) (by omega) (by omega)).mpr h9)]
      exact ⟨sa, La, rfl, hR⟩
    · rw [if_neg (by exact fun x => h9 ((uI_le (a := 9) (by omega) (by omega)).mp x)), x4_cmp hR hu, Option.bind_some, if_pos (by exact (cmp_iI_lt _ _).mpr hlt)]
      exact ⟨sa, La, rfl, hR⟩
  | succ k ih =>
    intro v fuel V sa La hV hv hf hR
    obtain ⟨f, rfl, hf'⟩ := ex_succ hf
    have hle : U ≤ V := by
      rcases Nat.lt_or_ge V U with g | g
      · rw [Nat.div_eq_of_lt g] at hV; omega
      · exact g
    obtain ⟨s1, D1, g1, g2⟩ := x4_minus hR hu hle
    have h1 : (V - U) / U = k := by
      have := Nat.sub_mul_div V U 1
      rw [Nat.mul_one] at this
      omega
    have h2 : (V - U) % U = V % U := by rw [Nat.mod_eq_sub_mod hle]
    obtain ⟨a, b, q1, q2⟩ := ih (v + 1) f (V - U) s1 D1 h1 (by omega) (by omega) g2
    rw [f_X6_takeFigure_L2, if_neg (by exact fun x => by have := (uI_le (a := 9) (by omega) (by omega)).mp x; omega), x4_cmp hR hu, Option.bind_some, if_neg (by exact fun x => by have := (cmp_iI_lt _ _).mp x; omega), g1, Option.bind_some, uI_succ]
    rw [h2] at q2
    rw [show v + 1 + k = v + (k + 1) by omega] at q1
    exact ⟨a, b, q1, q2⟩
theorem x6_below {r P : Nat} {ev : Bool} {sa : Int32} {La : Nat → Int64} (ha : R32 sa La r) {sr : Int32} {Lr : Nat → Int64} (hr : R32 sr Lr P) : f_X6_leadsBackBelow (bI ev) sa La sr Lr = some (bI (decide (r < P) || (decide (r = P) && ev))) := by
  unfold f_X6_leadsBackBelow
  rw [x4_cmp ha hr, Option.bind_some]
  by_cases h1 : r < P
  · rw [if_pos (by exact (cmp_iI_lt _ _).mpr h1), decide_eq_true h1]; rfl
  · rw [if_neg (by exact fun x => h1 ((cmp_iI_lt _ _).mp x)), decide_eq_false h1]
    by_cases h2 : r = P
    · rw [if_pos (by exact (cmp_iI_eq _ _).mpr h2), decide_eq_true h2]
      cases ev <;> rfl
    · rw [if_neg (by exact fun x => h2 ((cmp_iI_eq _ _).mp x)), decide_eq_false h2]; rfl
theorem x6_above {r P U s : Nat} {ev nw : Bool} (hs : s = if nw then 2 else 1) {sa : Int32} {La : Nat → Int64} (ha : R32 sa La r) {su : Int32} {Lu : Nat → Int64} (hu : R32 su Lu U) {sr : Int32} {Lr : Nat → Int64} (hr : R32 sr Lr P) (hr1 : r < 2 ^ 3000) (hP1 : P < 2 ^ 3000) (ws : Int32) (wl : Nat → Int64) :
    ∃ ws' wl', f_X6_leadsBackAbove (bI ev) (bI nw) sa La su Lu sr Lr ws wl = some (bI (decide (U < r + s * P) || (decide (U = r + s * P) && ev)), ws', wl') := by
  have hB : ∀ (w : Nat) (ws : Int32) (wl : Nat → Int64), R32 ws wl w → ∃ ws' wl', f_X6_leadsBackAbove_B40 (bI ev) (bI nw) sa La su Lu sr Lr ws wl = some (bI (decide (U < w) || (decide (U = w) && ev)), ws', wl') := by
    intro w ws wl hw
    unfold f_X6_leadsBackAbove_B40
    rw [x4_cmp hw hu, Option.bind_some]
    by_cases h1 : U < w
    · rw [if_pos (by exact (cmp_iI_gt _ _).mpr h1), decide_eq_true h1]; exact ⟨ws, wl, rfl⟩
    · rw [if_neg (by exact fun x => h1 ((cmp_iI_gt _ _).mp x)), decide_eq_false h1]
      by_cases h2 : U = w
      · rw [if_pos (by exact (cmp_iI_eq _ _).mpr h2.symm), decide_eq_true h2]
        cases ev <;> exact ⟨ws, wl, rfl⟩
      · rw [if_neg (by exact fun x => h2 ((cmp_iI_eq _ _).mp x).symm), decide_eq_false h2]; exact ⟨ws, wl, rfl⟩
  have hpw : (2 : Nat) ^ 3002 = 2 ^ 3000 * 4 := by rw [show 3002 = 3000 + 2 from rfl, Nat.pow_add]
  have hl1 : r + P < 2 ^ 3002 := by rw [hpw]; generalize (2 : Nat) ^ 3000 = y at *; omega
  have hl2 : r + P + P < 2 ^ 3002 := by rw [hpw]; generalize (2 : Nat) ^ 3000 = y at *; omega
  unfold f_X6_leadsBackAbove
  obtain ⟨s1, L1, g1, g2⟩ := x4_copy ha ws wl
  obtain ⟨s2, L2, g3, g4⟩ := x4_plus g2 hr (q_lt hl1 (by decide)).2
  rw [g1, Option.bind_some, g3, Option.bind_some]
  cases nw with
  | false =>
    rw [if_pos (by rfl), hs, if_neg (by decide), Nat.one_mul]
    exact hB _ _ _ g4
  | true =>
    obtain ⟨s3, L3, g5, g6⟩ := x4_plus g4 hr (q_lt hl2 (by decide)).2
    rw [if_neg (by decide), hs, if_pos rfl, g5, Option.bind_some, show r + 2 * P = r + P + P by omega]
    exact hB _ _ _ g6
theorem x6_middle {r U : Nat} {sa : Int32} {La : Nat → Int64} (ha : R32 sa La r) {su : Int32} {Lu : Nat → Int64} (hu : R32 su Lu U) (hr1 : r < 2 ^ 3000) (ws : Int32) (wl : Nat → Int64) :
    ∃ ws' wl', f_X6_isAboveMiddle sa La su Lu ws wl = some (bI (decide (U < 2 * r)), ws', wl') := by
  unfold f_X6_isAboveMiddle
  obtain ⟨s1, L1, g1, g2⟩ := x4_copy ha ws wl
  have hl : r * 2 ^ 1 < 2 ^ 3001 := by rw [Nat.pow_one, show (2 : Nat) ^ 3001 = 2 ^ 3000 * 2 by rw [← Nat.pow_succ]]; generalize (2 : Nat) ^ 3000 = y at *; omega
  obtain ⟨s2, L2, g3, g4⟩ := x4_shift g2 (s := 1) (by decide) (q_lt hl (by decide)).1
  have g3' : f_X4_shiftUp (1 : Int32) s1 L1 = some (s2, L2) := g3
  rw [g1, Option.bind_some, g3', Option.bind_some, x4_cmp g4 hu, Option.bind_some]
  by_cases h1 : r * 2 ^ 1 ≤ U
  · rw [if_pos (by exact (cmp_iI_le _ _).mpr h1), decide_eq_false (by omega)]; exact ⟨_, _, rfl⟩
  · rw [if_neg (by exact fun x => h1 ((cmp_iI_le _ _).mp x)), decide_eq_true (by omega)]; exact ⟨_, _, rfl⟩
theorem q_low {A U : Nat} (hU : 0 < U) (h : U ≤ A) (i : Nat) : 10 ^ i ≤ A * 10 ^ i / U := by
  refine (Nat.le_div_iff_mul_le hU).mpr ?_
  rw [Nat.mul_comm]; exact Nat.mul_le_mul_right _ h
theorem x6_B56 {A U R s i0 : Nat} {ev nw : Bool} {T : Int} (hU : 0 < U) (hUl : U < 2 ^ 2304) (hA1 : U ≤ A) (hi0 : i0 ≤ 17) (hyes : (loP A U R ev i0 || hiP A U R s ev i0) = true) (hT2 : T ≤ 400) (mm : Int64) (ee nn : Int32) {su : Int32} {Lu : Nat → Int64} (hu : R32 su Lu U) {sa : Int32} {La : Nat → Int64} (ha : R32 sa La (A * 10 ^ i0 % U)) (sr : Int32) (Lr : Nat → Int64) (ws : Int32) (wl : Nat → Int64) {top : Int32} {row : Nat → Int32} (hf : fgOK (A * 10 ^ i0 / U) (i0 + 1) T (uI (i0 + 1)) top row) :
    ∃ (E c' z : Nat) (T' : Int) (o1 o2 o3 : Int32) (o4 : Nat → Int64) (o5 : Int32) (o6 : Nat → Int64) (o7 : Int32) (o8 : Nat → Int64) (o9 : Int32) (o10 : Nat → Int64) (ct' tp' : Int32) (row' : Nat → Int32), f_X6_find_B56 mm ee nn (uI i0) (bI (loP A U R ev i0)) (bI (hiP A U R s ev i0)) (bI ev) (bI nw) sa La su Lu sr Lr ws wl (uI (i0 + 1)) top row = some (o1, o2, o3, o4, o5, o6, o7, o8, o9, o10, ct', tp', row') ∧ fgOK E c' T' ct' tp' row' ∧ 0 < c' ∧ 10 ^ (c' - 1) ≤ E ∧ A * 10 ^ i0 / U + (if upP A U R s ev i0 then 1 else 0) = E * 10 ^ z ∧ T' - c' + 1 = T - i0 + z ∧ (upP A U R s ev i0 = false → z = 0) ∧ (upP A U R s ev i0 = true → E % 10 ≠ 0) := by
  have hql := q_low hU hA1 i0
  have hlow : ∀ (ws : Int32) (wl : Nat → Int64), upP A U R s ev i0 = false → ∃ (E c' z : Nat) (T' : Int) (o1 o2 o3 : Int32) (o4 : Nat → Int64) (o5 : Int32) (o6 : Nat → Int64) (o7 : Int32) (o8 : Nat → Int64) (o9 : Int32) (o10 : Nat → Int64) (ct' tp' : Int32) (row' : Nat → Int32), some ((bI ev, bI nw, sa, La, su, Lu, sr, Lr, ws, wl, uI (i0 + 1), top, row) : Int32 × Int32 × Int32 × (Nat → Int64) × Int32 × (Nat → Int64) × Int32 × (Nat → Int64) × Int32 × (Nat → Int64) × Int32 × Int32 × (Nat → Int32)) = some (o1, o2, o3, o4, o5, o6, o7, o8, o9, o10, ct', tp', row') ∧ fgOK E c' T' ct' tp' row' ∧ 0 < c' ∧ 10 ^ (c' - 1) ≤ E ∧ A * 10 ^ i0 / U + (if upP A U R s ev i0 then 1 else 0) = E * 10 ^ z ∧ T' - c' + 1 = T - i0 + z ∧ (upP A U R s ev i0 = false → z = 0) ∧ (upP A U R s ev i0 = true → E % 10 ≠ 0) := by
    intro ws wl hup
    refine ⟨A * 10 ^ i0 / U, i0 + 1, 0, T, _, _, _, _, _, _, _, _, _, _, _, _, _, rfl, hf, by omega, ?_, ?_, by omega, fun _ => rfl, fun h => by rw [hup] at h; exact absurd h (by decide)⟩
    · rw [Nat.add_sub_cancel]; exact hql
    · rw [hup, if_neg (by decide), Nat.pow_zero, Nat.mul_one]; rfl
  have hhigh : ∀ (ws : Int32) (wl : Nat → Int64), upP A U R s ev i0 = true → ∃ (E c' z : Nat) (T' : Int) (o1 o2 o3 : Int32) (o4 : Nat → Int64) (o5 : Int32) (o6 : Nat → Int64) (o7 : Int32) (o8 : Nat → Int64) (o9 : Int32) (o10 : Nat → Int64) (ct' tp' : Int32) (row' : Nat → Int32), f_X6_find_B73 mm ee nn (uI i0) (bI ev) (bI nw) sa La su Lu sr Lr ws wl (uI (i0 + 1)) top row = some (o1, o2, o3, o4, o5, o6, o7, o8, o9, o10, ct', tp', row') ∧ fgOK E c' T' ct' tp' row' ∧ 0 < c' ∧ 10 ^ (c' - 1) ≤ E ∧ A * 10 ^ i0 / U + (if upP A U R s ev i0 then 1 else 0) = E * 10 ^ z ∧ T' - c' + 1 = T - i0 + z ∧ (upP A U R s ev i0 = false → z = 0) ∧ (upP A U R s ev i0 = true → E % 10 ≠ 0) := by
    intro ws wl hup
    obtain ⟨E, c', T', b1, b2, b3, g1, g2, g3, g4, z, g5, g6, g7⟩ := fg_addOneX (keep := i0 + 1) (by omega) (by omega) (Nat.le_refl _) (by rw [Nat.sub_self, Nat.pow_zero, Nat.mul_one]) hf (by omega) (by rw [Nat.add_sub_cancel]; exact hql) (top - uI i0)
    unfold f_X6_find_B73
    rw [uI_succ, g1, Option.bind_some]
    refine ⟨E, c', z, T', _, _, _, _, _, _, _, _, _, _, _, _, _, rfl, g2, g3, g4, ?_, by omega, fun h => ?_, fun _ => g7⟩
    · rw [hup, if_pos rfl]; exact g5
    · rw [hup] at h; exact absurd h (by decide)
  have hrl : A * 10 ^ i0 % U < 2 ^ 3000 := Nat.lt_trans (Nat.lt_trans (Nat.mod_lt _ hU) hUl) (Nat.pow_lt_pow_right (by decide) (by decide))
  unfold f_X6_find_B56
  cases hh : hiP A U R s ev i0 with
  | false =>
    rw [if_pos (by rfl)]
    exact hlow ws wl (by unfold upP; rw [hh]; rfl)
  | true =>
    rw [if_neg (by decide)]
    cases hl : loP A U R ev i0 with
    | false =>
      rw [if_pos (by rfl)]
      exact hhigh ws wl (by unfold upP; rw [hh, hl]; rfl)
    | true =>
      obtain ⟨w1, w2, q1⟩ := x6_middle ha hu hrl ws wl
      rw [if_neg (by decide), q1, Option.bind_some]
      by_cases hm : U < 2 * (A * 10 ^ i0 % U)
      · rw [decide_eq_true hm, if_neg (by exact (by decide : ¬ bI true = 0))]
        exact hhigh w1 w2 (by unfold upP; rw [hh, hl, decide_eq_true hm]; rfl)
      · rw [decide_eq_false hm, if_pos (by rfl)]
        exact hlow w1 w2 (by unfold upP; rw [hh, hl, decide_eq_false hm]; rfl)
theorem x6_loop {A U R s i0 : Nat} {ev nw : Bool} {T : Int} (hs : s = if nw then 2 else 1) (hU : 0 < U) (hUl : U < 2 ^ 2304) (hRl : R * 10 ^ 20 < 2 ^ 3000) (hA1 : U ≤ A) (hi0 : i0 ≤ 17) (hno : ∀ j, j < i0 → (loP A U R ev j || hiP A U R s ev j) = false) (hyes : (loP A U R ev i0 || hiP A U R s ev i0) = true) (hT2 : T ≤ 400) (mm : Int64) (ee nn : Int32) {su : Int32} {Lu : Nat → Int64} (hu : R32 su Lu U) :
    ∀ (k i fuel Qp V : Nat) (sa : Int32) (La : Nat → Int64) (sr : Int32) (Lr : Nat → Int64) (ws : Int32) (wl : Nat → Int64) (count top : Int32) (row : Nat → Int32), i + k = i0 → k < fuel → Qp * 10 * U + V = A * 10 ^ i → V < U * 10 → R32 sa La V → R32 sr Lr (R * 10 ^ i) → fgOK Qp i T count top row →
    ∃ (E c' z : Nat) (T' : Int) (o1 o2 o3 : Int32) (o4 : Nat → Int64) (o5 : Int32) (o6 : Nat → Int64) (o7 : Int32) (o8 : Nat → Int64) (o9 : Int32) (o10 : Nat → Int64) (ct' tp' : Int32) (row' : Nat → Int32), f_X6_find_L20 mm ee nn fuel (uI i) (bI ev) (bI nw) sa La su Lu sr Lr ws wl count top row = some (o1, o2, o3, o4, o5, o6, o7, o8, o9, o10, ct', tp', row') ∧ fgOK E c' T' ct' tp' row' ∧ 0 < c' ∧ 10 ^ (c' - 1) ≤ E ∧ A * 10 ^ i0 / U + (if upP A U R s ev i0 then 1 else 0) = E * 10 ^ z ∧ T' - c' + 1 = T - i0 + z ∧ (upP A U R s ev i0 = false → z = 0) ∧ (upP A U R s ev i0 = true → E % 10 ≠ 0) := by
  have hpw : ∀ i, i ≤ 20 → R * 10 ^ i < 2 ^ 3000 := fun i hi => Nat.lt_of_le_of_lt (Nat.mul_le_mul_left _ (Nat.pow_le_pow_right (by decide) hi)) hRl
  intro k
  induction k with
  | zero =>
    intro i fuel Qp V sa La sr Lr ws wl count top row hi hf hW hV ha hr hfg
    obtain ⟨f, rfl, _⟩ := ex_succ hf
    have hii : i = i0 := by omega
    subst hii
    have h10 : V / U < 10 := Nat.div_lt_of_lt_mul hV
    have hdm := Nat.div_add_mod V U
    have hm := Nat.mod_lt V hU
    have hW2 : (Qp * 10 + V / U) * U + V % U = A * 10 ^ i := by
      rw [Nat.add_mul, Nat.mul_comm (V / U) U, Nat.add_assoc, hdm, hW]
    obtain ⟨hq, hr2⟩ := rnd_flags hU hW2 hm
    obtain ⟨s1, L1, g1, g2⟩ := x6_takeL hu hU (V / U) 0 FU V sa La rfl (by omega) (by rw [hFU]; omega) ha
    have g1' : f_X6_takeFigure su Lu sa La = some (uI (V / U), s1, L1) := by rw [Nat.zero_add] at g1; exact g1
    have hct := hfg.1
    have hfa := fg_app hfg h10 (by omega)
    have hrl : V % U < 2 ^ 3000 := Nat.lt_trans (Nat.lt_trans hm hUl) (Nat.pow_lt_pow_right (by decide) (by decide))
    have g3 := x6_below (ev := ev) g2 hr
    obtain ⟨w1, w2, g4⟩ := x6_above (ev := ev) hs g2 hu hr hrl (hpw i (by omega)) ws wl
    rw [← hr2] at g3 g4 g2
    have g3' : f_X6_leadsBackBelow (bI ev) s1 L1 sr Lr = some (bI (loP A U R ev i)) := g3
    have g4' : f_X6_leadsBackAbove (bI ev) (bI nw) s1 L1 su Lu sr Lr ws wl = some (bI (hiP A U R s ev i), w1, w2) := g4
    rw [← hq] at hfa
    rw [f_X6_find_L20, if_neg (by exact fun x => by have := (uI_le (a := 20) (by omega) (by omega)).mp x; omega), g1', Option.bind_some, hct, x1_append (by omega), Option.bind_some, g3', Option.bind_some, g4', Option.bind_some]
    have hend := x6_B56 (nw := nw) hU hUl hA1 hi0 hyes hT2 mm ee nn hu g2 sr Lr w1 w2 hfa
    cases hl : loP A U R ev i with
    | true =>
      rw [if_neg (by decide)]
      rw [hl] at hend
      exact hend
    | false =>
      rw [if_pos (by rfl)]
      have hh : hiP A U R s ev i = true := by rw [hl, Bool.false_or] at hyes; exact hyes
      rw [hl, hh] at hend
      dsimp only
      rw [hh, if_neg (by decide)]
      exact hend
  | succ k ih =>
    intro i fuel Qp V sa La sr Lr ws wl count top row hi hf hW hV ha hr hfg
    obtain ⟨f, rfl, hf'⟩ := ex_succ hf
    have h10 : V / U < 10 := Nat.div_lt_of_lt_mul hV
    have hdm := Nat.div_add_mod V U
    have hm := Nat.mod_lt V hU
    have hW2 : (Qp * 10 + V / U) * U + V % U = A * 10 ^ i := by
      rw [Nat.add_mul, Nat.mul_comm (V / U) U, Nat.add_assoc, hdm, hW]
    obtain ⟨hq, hr2⟩ := rnd_flags hU hW2 hm
    obtain ⟨s1, L1, g1, g2⟩ := x6_takeL hu hU (V / U) 0 FU V sa La rfl (by omega) (by rw [hFU]; omega) ha
    have g1' : f_X6_takeFigure su Lu sa La = some (uI (V / U), s1, L1) := by rw [Nat.zero_add] at g1; exact g1
    have hct := hfg.1
    have hfa := fg_app hfg h10 (by omega)
    have hrl : V % U < 2 ^ 3000 := Nat.lt_trans (Nat.lt_trans hm hUl) (Nat.pow_lt_pow_right (by decide) (by decide))
    have g3 := x6_below (ev := ev) g2 hr
    obtain ⟨w1, w2, g4⟩ := x6_above (ev := ev) hs g2 hu hr hrl (hpw i (by omega)) ws wl
    rw [← hr2] at g3 g4
    have g3' : f_X6_leadsBackBelow (bI ev) s1 L1 sr Lr = some (bI (loP A U R ev i)) := g3
    have g4' : f_X6_leadsBackAbove (bI ev) (bI nw) s1 L1 su Lu sr Lr ws wl = some (bI (hiP A U R s ev i), w1, w2) := g4
    have hn := hno i (by omega)
    have hl : loP A U R ev i = false := (Bool.or_eq_false_iff.mp hn).1
    have hh : hiP A U R s ev i = false := (Bool.or_eq_false_iff.mp hn).2
    have hl1 : V % U * 10 + 0 < 2 ^ 3004 := by
      rw [show (2 : Nat) ^ 3004 = 2 ^ 3000 * 16 by rw [show 3004 = 3000 + 4 from rfl, Nat.pow_add]]
      generalize (2 : Nat) ^ 3000 = y at *; omega
    have hl2 : R * 10 ^ i * 10 + 0 < 2 ^ 3000 := by
      rw [Nat.add_zero, Nat.mul_assoc, ← Nat.pow_succ]; exact hpw _ (by omega)
    obtain ⟨s2, L2, g5, g6⟩ := x4_scale g2 (f := 10) (x := 0) (by decide) (by decide) (q_lt hl1 (by decide)).2
    have g5' : f_X4_scale (10 : Int64) (0 : Int64) s1 L1 = some (s2, L2) := g5
    obtain ⟨s3, L3, g7, g8⟩ := x4_scale hr (f := 10) (x := 0) (by decide) (by decide) (q_lt hl2 (by decide)).2
    have g7' : f_X4_scale (10 : Int64) (0 : Int64) sr Lr = some (s3, L3) := g7
    rw [f_X6_find_L20, if_neg (by exact fun x => by have := (uI_le (a := 20) (by omega) (by omega)).mp x; omega), g1', Option.bind_some, hct, x1_append (by omega), Option.bind_some, g3', Option.bind_some, g4', Option.bind_some, hl, if_pos (by rfl), hh, if_pos (by rfl), g5', Option.bind_some, g7', Option.bind_some, uI_succ]
    rw [Nat.add_zero, Nat.mul_assoc, ← Nat.pow_succ] at g8
    refine ih (i + 1) f (Qp * 10 + V / U) (V % U * 10) s2 L2 s3 L3 w1 w2 _ top _ (by omega) (by omega) ?_ ?_ g6 g8 hfa
    · rw [Nat.pow_succ, ← Nat.mul_assoc, ← hW2, Nat.add_mul ((Qp * 10 + V / U) * U), Nat.mul_right_comm (Qp * 10 + V / U) U 10]
    · exact Nat.mul_lt_mul_of_pos_right hm (by decide)
theorem bl_bI (b : Bool) : vBl (bI b) = true := by cases b <;> decide
theorem x6_begin {m s : Nat} {e : Int} {nw : Bool} (hs : s = if nw then 2 else 1) (hm : m < 2 ^ 53) (he1 : -1074 ≤ e) (he2 : e ≤ 971) (z1 z2 z3 : Int32) (z4 : Nat → Int64) (z5 : Int32) (z6 : Nat → Int64) (z7 : Int32) (z8 : Nat → Int64) :
    ∃ sa La su Lu sr Lr, f_X6_begin (uL m) (iI e) (bI nw) z1 z2 z3 z4 z5 z6 z7 z8 = some (bI (m % 2 == 0), bI nw, sa, La, su, Lu, sr, Lr) ∧ R32 sa La (m * 2 ^ s * 2 ^ (e - s).toNat) ∧ R32 su Lu (2 ^ (-(e - s)).toNat) ∧ R32 sr Lr (2 ^ (e - s).toNat) := by
  have hs2 : s ≤ 2 := by rw [hs]; split <;> omega
  have hMl : m * 2 ^ s < 2 ^ 55 := by
    have : 2 ^ s ≤ 2 ^ 2 := Nat.pow_le_pow_right (by decide) hs2
    rw [show (2 : Nat) ^ 55 = 2 ^ 53 * 2 ^ 2 by rw [← Nat.pow_add]]
    exact Nat.lt_of_le_of_lt (Nat.mul_le_mul_left _ this) (Nat.mul_lt_mul_of_pos_right hm (by decide))
  have hB40 : ∀ z1 z2, ∃ sa La su Lu sr Lr, f_X6_begin_B40 (uL m) (iI e) (bI nw) (uI s) z1 z2 z3 z4 z5 z6 z7 z8 = some (z1, z2, sa, La, su, Lu, sr, Lr) ∧ R32 sa La (m * 2 ^ s * 2 ^ (e - s).toNat) ∧ R32 su Lu (2 ^ (-(e - s)).toNat) ∧ R32 sr Lr (2 ^ (e - s).toNat) := by
    intro z1 z2
    unfold f_X6_begin_B40
    obtain ⟨s1, L1, g1, g2⟩ := x4_take z3 z4 (u := m * 2 ^ s) (Nat.lt_trans hMl (by decide))
    obtain ⟨s2, L2, g3, g4⟩ := x4_take z7 z8 (u := 1) (by decide)
    obtain ⟨s3, L3, g5, g6⟩ := x4_take z5 z6 (u := 1) (by decide)
    have g3' : f_X4_take (1 : Int64) z7 z8 = some (s2, L2) := g3
    have g5' : f_X4_take (1 : Int64) z5 z6 = some (s3, L3) := g5
    have es : iI e - uI s = iI (e - s) := iI_sub _ _
    have hl1 : m * 2 ^ s * 2 ^ (e - s).toNat < 2 ^ 1026 := by
      have h1 : 2 ^ (e - s).toNat ≤ 2 ^ 971 := Nat.pow_le_pow_right (by decide) (by omega)
      rw [show (2 : Nat) ^ 1026 = 2 ^ 55 * 2 ^ 971 by rw [← Nat.pow_add]]
      exact Nat.lt_of_le_of_lt (Nat.mul_le_mul_left _ h1) (Nat.mul_lt_mul_of_pos_right hMl (Nat.pow_pos (by decide)))
    have hl2 : ∀ a : Int, a ≤ 1100 → 1 * 2 ^ a.toNat < 2 ^ 1101 := by
      intro a ha; rw [Nat.one_mul]; exact Nat.pow_lt_pow_right (by decide) (by omega)
    obtain ⟨s4, L4, g7, g8⟩ := x4_shiftJ g2 (a := e - s) (by omega) (by omega) (q_lt hl1 (by decide)).1
    obtain ⟨s5, L5, g9, g10⟩ := x4_shiftJ g4 (a := e - s) (by omega) (by omega) (q_lt (hl2 _ (by omega)) (by decide)).1
    obtain ⟨s6, L6, g11, g12⟩ := x4_shiftJ g6 (a := -(e - s)) (by omega) (by omega) (q_lt (hl2 _ (by omega)) (by decide)).1
    rw [uL_lsh _ (by omega), g1, Option.bind_some, g3', Option.bind_some, g5', Option.bind_some, es, g7, Option.bind_some, g9, Option.bind_some, iI_neg, g11, Option.bind_some]
    rw [Nat.one_mul] at g10 g12
    exact ⟨_, _, _, _, _, _, rfl, g8, g12, g10⟩
  have hB17 : ∀ ev : Bool, ∃ sa La su Lu sr Lr, f_X6_begin_B17 (uL m) (iI e) (bI nw) (bI ev) z1 z2 z3 z4 z5 z6 z7 z8 = some (bI ev, bI nw, sa, La, su, Lu, sr, Lr) ∧ R32 sa La (m * 2 ^ s * 2 ^ (e - s).toNat) ∧ R32 su Lu (2 ^ (-(e - s)).toNat) ∧ R32 sr Lr (2 ^ (e - s).toNat) := by
    intro ev
    unfold f_X6_begin_B17
    rw [if_pos (by exact bl_bI ev), if_pos (by exact bl_bI nw)]
    have h40 := hB40 (bI ev) (bI nw)
    cases nw with
    | false =>
      rw [if_neg (by decide)] at hs
      rw [hs] at h40
      rw [if_pos (by rfl), hs]
      exact h40
    | true =>
      rw [if_pos rfl] at hs
      rw [hs] at h40
      rw [if_neg (by decide), hs]
      exact h40
  unfold f_X6_begin
  rw [uL_mask1]
  rcases Nat.mod_two_eq_zero_or_one m with g | g
  · rw [g, if_pos (by exact (lgc_eq _ _).mpr rfl)]
    exact hB17 true
  · rw [g, if_neg (by exact fun x => absurd ((lgc_eq _ _).mp x) (by decide))]
    exact hB17 false
theorem lim_55 : (2 : Nat) ^ 55 ≤ 10 ^ 17 := by decide +kernel
theorem lim_20 : (10 : Nat) ^ 20 ≤ 2 ^ 67 := by decide +kernel
theorem x6_find {m s : Nat} {e : Int} {nw : Bool} (hs : s = if nw then 2 else 1) (hm0 : m ≠ 0) (hm : m < 2 ^ 53) (he1 : -1074 ≤ e) (he2 : e ≤ 971) (z1 z2 z3 : Int32) (z4 : Nat → Int64) (z5 : Int32) (z6 : Nat → Int64) (z7 : Int32) (z8 : Nat → Int64) (z9 : Int32) (z10 : Nat → Int64) (ct tp : Int32) (row : Nat → Int32) :
    ∃ (A U R i0 : Nat) (T : Int) (E c' z : Nat) (T' : Int) (o1 o2 o3 : Int32) (o4 : Nat → Int64) (o5 : Int32) (o6 : Nat → Int64) (o7 : Int32) (o8 : Nat → Int64) (o9 : Int32) (o10 : Nat → Int64) (ct' tp' : Int32) (row' : Nat → Int32), f_X6_find (uL m) (iI e) (bI nw) z1 z2 z3 z4 z5 z6 z7 z8 z9 z10 ct tp row = some (o1, o2, o3, o4, o5, o6, o7, o8, o9, o10, ct', tp', row') ∧
      A = m * 2 ^ s * R ∧ 0 < R ∧ 0 < U ∧ U ≤ A ∧ A < U * 10 ∧ sv R U T 1 (e - s) ∧ -326 ≤ T ∧ T ≤ 311 ∧ i0 ≤ 17 ∧ (∀ j, j < i0 → (loP A U R (m % 2 == 0) j || hiP A U R s (m % 2 == 0) j) = false) ∧ (loP A U R (m % 2 == 0) i0 || hiP A U R s (m % 2 == 0) i0) = true ∧
      fgOK E c' T' ct' tp' row' ∧ 0 < c' ∧ 10 ^ (c' - 1) ≤ E ∧ A * 10 ^ i0 / U + (if upP A U R s (m % 2 == 0) i0 then 1 else 0) = E * 10 ^ z ∧ T' - c' + 1 = T - i0 + z ∧ (upP A U R s (m % 2 == 0) i0 = false → z = 0) ∧ (upP A U R s (m % 2 == 0) i0 = true → E % 10 ≠ 0) := by
  have hs2 : s ≤ 2 := by rw [hs]; split <;> omega
  obtain ⟨sa, La, su, Lu, sr, Lr, g1, g2, g3, g4⟩ := x6_begin hs hm he1 he2 z1 z2 z3 z4 z5 z6 z7 z8
  obtain ⟨A, U, R, T, sa', La', su', Lu', sr', Lr', ws', wl', g5, g6, g7, g8, hA, hR, hU1, hU2, hUl, hsv, hT1, hT2⟩ := x6_first hm0 hm he1 he2 hs2 g2 g3 g4 z9 z10
  have hU0 : 0 < U := by
    rcases Nat.eq_zero_or_pos U with g | g
    · rw [g] at hU2; omega
    · exact g
  have hMl : m * 2 ^ s < 2 ^ 55 := by
    have : 2 ^ s ≤ 2 ^ 2 := Nat.pow_le_pow_right (by decide) hs2
    rw [show (2 : Nat) ^ 55 = 2 ^ 53 * 2 ^ 2 by rw [← Nat.pow_add]]
    exact Nat.lt_of_le_of_lt (Nat.mul_le_mul_left _ this) (Nat.mul_lt_mul_of_pos_right hm (by decide))
  have hM0 : 0 < m * 2 ^ s := Nat.mul_pos (Nat.pos_of_ne_zero hm0) (Nat.pow_pos (by decide))
  have h17 : loP A U R (m % 2 == 0) 17 = true := by
    unfold loP
    have h1 : U ≤ R * 10 ^ 17 := by
      refine Nat.le_trans hU1 ?_
      rw [hA, Nat.mul_comm]
      exact Nat.mul_le_mul_left _ (Nat.le_trans (Nat.le_of_lt hMl) lim_55)
    rw [decide_eq_true (Nat.lt_of_lt_of_le (Nat.mod_lt _ hU0) h1)]
    rfl
  obtain ⟨i0, hi0, hno, hyes⟩ := first_ex (P := fun i => loP A U R (m % 2 == 0) i || hiP A U R s (m % 2 == 0) i) 17 (by show (loP A U R (m % 2 == 0) 17 || _) = true; rw [h17]; rfl)
  have hRl : R * 10 ^ 20 < 2 ^ 3000 := by
    have h1 : R ≤ A := by rw [hA]; exact Nat.le_mul_of_pos_left _ hM0
    have h2 : A < 2 ^ 2308 := by
      refine Nat.lt_trans hU2 ?_
      rw [show (2 : Nat) ^ 2308 = 2 ^ 2304 * 16 by rw [show 2308 = 2304 + 4 from rfl, Nat.pow_add]]
      generalize (2 : Nat) ^ 2304 = y at *; omega
    have h3 := Nat.mul_le_mul (Nat.le_trans h1 (Nat.le_of_lt h2)) lim_20
    rw [← Nat.pow_add] at h3
    exact Nat.lt_of_le_of_lt h3 (Nat.pow_lt_pow_right (by decide) (by decide))
  have hfg : fgOK 0 0 T (0 : Int32) (iI T) row := ⟨rfl, by omega, rfl, by omega, by omega, by decide, fun j hj => by omega⟩
  obtain ⟨E, c', z, T', o1, o2, o3, o4, o5, o6, o7, o8, o9, o10, ct', tp', row', q⟩ := x6_loop hs hU0 hUl hRl hU1 hi0 hno hyes (by omega) (uL m) (iI e) (bI nw) g7 i0 0 FU 0 A sa' La' sr' Lr' ws' wl' (0 : Int32) (iI T) row (by omega) (by rw [hFU]; omega) (by rw [Nat.pow_zero, Nat.mul_one, Nat.zero_mul, Nat.zero_add]) hU2 g6 (by rw [Nat.pow_zero, Nat.mul_one]; exact g8) hfg
  refine ⟨A, U, R, i0, T, E, c', z, T', o1, o2, o3, o4, o5, o6, o7, o8, o9, o10, ct', tp', row', ?_, hA, hR, hU0, hU1, hU2, hsv, hT1, hT2, hi0, hno, hyes, q.2⟩
  unfold f_X6_find f_X1_clear
  rw [g1, Option.bind_some, Option.bind_some, g5, Option.bind_some]
  exact q.1
