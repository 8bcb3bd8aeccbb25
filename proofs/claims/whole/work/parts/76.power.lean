/-! reading: the power, in both -/
theorem fig10 (a : Int) : figI false a = if 48 ≤ a ∧ a ≤ 57 then a - 48 else -1 := by
  unfold figI
  by_cases h : 48 ≤ a ∧ a ≤ 57
  · rw [if_pos h, if_pos h]
  · rw [if_neg h, if_neg h, if_neg (fun hh => by cases hh.1)]
theorem x11_fig10 {a : Int} (h1 : -1 ≤ a) (h2 : a < 256) : f_X11_figure (iI a) (10 : Int32) = some (iI (figI false a)) := x11_fig false h1 h2
theorem rd_pow {n : Nat} {T : Nat → Int32} (hT : tpOK n T) (p q : Nat) (v1 : Int32) (hq : q ≤ n) :
    ∀ k c fuel1 fuel2 E, c + k = 6 → k < fuel1 → k < fuel2 → E < 10 ^ c → (0 < c → q + c ≤ n) →
    ∃ c' E', c ≤ c' ∧ E' < 1000000 ∧ (0 < c' → q + c' ≤ n) ∧ (c < 6 → (c < c' ↔ 0 ≤ figI false (atI T n (q + c)))) ∧
      f_X7_parsePower_L10 (uI n) T fuel1 (uI p) (uI q) (uI (q + c)) (uI E) = f_X7_parsePower_B55 (uI n) T (uI p) (uI q) (uI (q + c')) (uI E') ∧
      f_X11_takesPower_L54 (uI n) T fuel2 v1 (uI c) (uI (q + c)) (uI E) = f_X11_takesPower_B107 (uI n) T v1 (uI (q + c')) (uI E') := by
  have hn := hT.1
  have hadd : uI q + 6 = uI (q + 6) := uI_add q 6
  intro k
  induction k with
  | zero =>
    intro c fuel1 fuel2 E hk hf1 hf2 hE hc
    obtain ⟨m1, rfl, _⟩ := ex_succ hf1
    obtain ⟨m2, rfl, _⟩ := ex_succ hf2
    have hc6 : c = 6 := by omega
    subst hc6
    refine ⟨6, E, Nat.le_refl _, hE, hc, fun hh => by omega, ?_, ?_⟩
    · rw [f_X7_parsePower_L10, hadd, if_pos (by exact (uI_le (by omega) (by omega)).mpr (Nat.le_refl _))]
    · rw [f_X11_takesPower_L54, if_pos (by decide)]
  | succ k ih =>
    intro c fuel1 fuel2 E hk hf1 hf2 hE hc
    obtain ⟨m1, rfl, hm1⟩ := ex_succ hf1
    obtain ⟨m2, rfl, hm2⟩ := ex_succ hf2
    obtain ⟨ha1, ha2, ha3, ha4⟩ := at_bd hT (q + c)
    have hE6 : E < 1000000 := Nat.lt_of_lt_of_le hE (show 10 ^ c ≤ 10 ^ 6 from Nat.pow_le_pow_right (by decide) (by omega))
    rw [f_X7_parsePower_L10, hadd, if_neg (c := uI (q + 6) ≤ uI (q + c)) (by exact fun x => by have := (uI_le (by omega) (by omega)).mp x; omega), x7_at hT (by omega), Option.bind_some, x7_ten ha1 ha2, Option.bind_some,
      f_X11_takesPower_L54, if_neg (c := 6 ≤ uI c) (by exact fun x => by have := (uI_le (a := 6) (by omega) (by omega)).mp x; omega), x11_here hT (by omega)]
    simp only [Option.bind_some, x11_fig10 ha1 ha2]
    rw [fig10]
    generalize hA : atI T n (q + c) = a at *
    by_cases hd : 48 ≤ a ∧ a ≤ 57
    · have hb : (decide (48 ≤ a) && decide (a ≤ 57)) = true := by rw [decide_eq_true hd.1, decide_eq_true hd.2]; rfl
      have hqn : q + c < n := by
        apply Nat.lt_of_not_le
        intro hh
        have := ha4 hh
        omega
      have hup : ((10 : Int32) * uI E + iI a) - 48 = uI (10 * E + (a - 48).toNat) := by
        rw [show (10 : Int32) * uI E = uI (10 * E) from uI_mul 10 E, iI_add, show (48 : Int32) = iI 48 from rfl, iI_sub]
        exact congrArg iI (by omega)
      rw [hb, if_neg (c := bI true = 0) (by decide), if_pos hd, if_neg (c := iI (a - 48) < 0) (by exact fun x => by have := (iI_lt (b := 0) (by omega) (by omega) (by omega) (by omega)).mp x; omega), hup, uI_succ, uI_succ]
      obtain ⟨c', E', q1, q2, q3, q4, q5, q6⟩ := ih (c + 1) m1 m2 (10 * E + (a - 48).toNat) (by omega) (by omega) (by omega) (by rw [Nat.pow_succ]; omega) (by omega)
      refine ⟨c', E', by omega, q2, q3, fun _ => ⟨fun _ => by omega, fun _ => by omega⟩, q5, q6⟩
    · have hb : (decide (48 ≤ a) && decide (a ≤ 57)) = false := by
        rw [Bool.and_eq_false_iff, decide_eq_false_iff_not, decide_eq_false_iff_not]; omega
      rw [hb, if_pos (c := bI false = 0) (by rfl), if_neg hd, if_pos (c := iI (-1) < 0) (by decide)]
      exact ⟨c, E, Nat.le_refl _, hE6, hc, fun _ => ⟨fun hh => by omega, fun hh => by omega⟩, rfl, rfl⟩
theorem x7_sl {n p : Nat} {T : Nat → Int32} (hT : tpOK n T) (hp : p < 100000) : f_X7_signLength (uI n) T (uI p) = some (uI (if atI T n p = 45 ∨ atI T n p = 43 then 1 else 0)) := by
  obtain ⟨ha1, ha2, ha3, ha4⟩ := at_bd hT p
  unfold f_X7_signLength
  rw [x7_at hT hp, Option.bind_some, Option.bind_some]
  by_cases h45 : atI T n p = 45
  · rw [h45, if_pos (by rfl), if_pos (Or.inl rfl)]; rfl
  · rw [if_neg (by exact fun x => h45 ((iI_eq (b := 45) (by omega) (by omega) (by omega) (by omega)).mp x))]
    by_cases h43 : atI T n p = 43
    · rw [h43, if_pos (by rfl), if_pos (Or.inr rfl)]; rfl
    · rw [if_neg (by exact fun x => h43 ((iI_eq (b := 43) (by omega) (by omega) (by omega) (by omega)).mp x)), if_neg (by omega)]; rfl
theorem rd_power {n p : Nat} {T : Nat → Int32} (hT : tpOK n T) (hp : p ≤ n) :
    ∃ q : Nat, q ≤ n ∧ ((∃ x y, f_X7_parsePower (uI n) T (uI p) 0 = some (uI q, x) ∧ f_X11_takesPower (uI n) T (uI p) 0 = some (0, uI q, y)) ∨
      (∃ e : Int, -1000000 < e ∧ e < 1000000 ∧ f_X7_parsePower (uI n) T (uI p) 0 = some (if q = n then -1 else uI q, iI e) ∧ f_X11_takesPower (uI n) T (uI p) 0 = some (1, uI q, iI e))) := by
  have hn := hT.1
  obtain ⟨ha1, ha2, ha3, ha4⟩ := at_bd hT p
  have main : ∀ (sg : Bool) (q : Nat), q ≤ n → (sg = true ↔ atI T n p = 45) →
      ∃ q', q' ≤ n ∧ ((∃ x y, f_X7_parsePower_L10 (uI n) T FU (uI p) (uI q) (uI q) 0 = some (uI q', x) ∧ f_X11_takesPower_B38 (uI n) T (bI sg) (uI q) 0 = some (0, uI q', y)) ∨
      (∃ e : Int, -1000000 < e ∧ e < 1000000 ∧ f_X7_parsePower_L10 (uI n) T FU (uI p) (uI q) (uI q) 0 = some (if q' = n then -1 else uI q', iI e) ∧ f_X11_takesPower_B38 (uI n) T (bI sg) (uI q) 0 = some (1, uI q', iI e))) := by
    intro sg q hq hsg
    obtain ⟨hb1, hb2, _, _⟩ := at_bd hT q
    obtain ⟨c', E', q1, q2, q3, q4, q5, q6⟩ := rd_pow hT p q (bI sg) hq 6 0 FU FU 0 (by omega) (by rw [hFU]; omega) (by rw [hFU]; omega) (by decide) (fun hh => by omega)
    rw [Nat.add_zero] at q4 q5 q6
    have q5' : f_X7_parsePower_L10 (uI n) T FU (uI p) (uI q) (uI q) 0 = _ := q5
    have q6' : f_X11_takesPower_L54 (uI n) T FU (bI sg) 0 (uI q) 0 = _ := q6
    have q4' := q4 (by omega)
    unfold f_X11_takesPower_B38
    have hfb := fig_bd false (atI T n q)
    rw [q5', x11_here hT (by omega), Option.bind_some, x11_fig10 hb1 hb2, Option.bind_some]
    unfold f_X7_parsePower_B55 f_X7_parsePower_B74
    rw [x7_at hT (by omega), Option.bind_some]
    by_cases hc : 0 < c'
    · have hq3 := q3 hc
      have hf0 := q4'.mp hc
      refine ⟨q + c', hq3, Or.inr ⟨(if sg then -(E' : Int) else (E' : Int)), ?_, ?_, ?_, ?_⟩⟩
      · cases sg
        · show -1000000 < (E' : Int); omega
        · show -1000000 < -(E' : Int); omega
      · cases sg
        · show (E' : Int) < 1000000; omega
        · show -(E' : Int) < 1000000; omega
      · rw [if_neg (c := uI (q + c') ≤ uI q) (by exact fun x => by have := (uI_le (by omega) (by omega)).mp x; omega), if_neg (c := uI (q + c') ≤ uI q) (by exact fun x => by have := (uI_le (by omega) (by omega)).mp x; omega)]
        have hend : ∀ w : Int32, (if uI (q + c') = uI n then some ((-1 : Int32), w) else some (uI (q + c'), w)) = some (if q + c' = n then -1 else uI (q + c'), w) := by
          intro w
          by_cases hh : q + c' = n
          · rw [if_pos (by rw [hh]), if_pos hh]
          · rw [if_neg (by exact fun x => hh ((uI_eq (by omega) (by omega)).mp x)), if_neg hh]
        rw [hend, hend]
        cases sg
        · rw [if_neg (by exact fun x => by have := (iI_eq (b := 45) (by omega) (by omega) (by omega) (by omega)).mp x; have := hsg.mpr this; cases this)]; rfl
        · rw [hsg.mp rfl, if_pos (by rfl), iI_neg]; rfl
      · rw [if_pos (c := 0 ≤ iI (figI false (atI T n q))) (by exact (iI_le (a := 0) (by omega) (by omega) (by omega) (by omega)).mpr hf0), q6']
        unfold f_X11_takesPower_B107
        cases sg
        · rw [if_pos (by rfl)]; rfl
        · rw [if_neg (by decide), iI_neg]; rfl
    · have hc0 : c' = 0 := by omega
      subst hc0
      refine ⟨q, hq, Or.inl ?_⟩
      have hlt : ¬ 0 ≤ figI false (atI T n q) := fun hh => by have := q4'.mpr hh; omega
      rw [Nat.add_zero, if_neg (c := 0 ≤ iI (figI false (atI T n q))) (by exact fun x => hlt ((iI_le (a := 0) (by omega) (by omega) (by omega) (by omega)).mp x))]
      by_cases h45 : iI (atI T n p) = 45
      · rw [if_pos h45, if_pos (by exact (uI_le (by omega) (by omega)).mpr (Nat.le_refl _))]
        exact ⟨_, _, rfl, rfl⟩
      · rw [if_neg h45, if_pos (by exact (uI_le (by omega) (by omega)).mpr (Nat.le_refl _))]
        exact ⟨_, _, rfl, rfl⟩
  unfold f_X7_parsePower f_X11_takesPower f_X11_takesPower_B14 f_X11_takesPower_B28
  rw [x7_sl hT (by omega), Option.bind_some, x11_here hT (by omega)]
  simp only [Option.bind_some]
  rw [uI_add, uI_succ]
  by_cases h45 : atI T n p = 45
  · rw [if_pos (Or.inl h45), h45, if_pos (c := iI 45 = 45) (by rfl), if_neg (c := (1 : Int32) = 0) (by decide)]
    have hpn : p + 1 ≤ n := by
      apply Nat.le_of_not_lt; intro hh; have := ha4 (by omega); omega
    exact main true (p + 1) hpn ⟨fun _ => h45, fun _ => rfl⟩
  · rw [if_neg (c := iI (atI T n p) = 45) (by exact fun x => h45 ((iI_eq (b := 45) (by omega) (by omega) (by omega) (by omega)).mp x)), if_pos (c := True) trivial]
    by_cases h43 : atI T n p = 43
    · rw [if_pos (Or.inr h43), h43, if_pos (c := iI 43 = 43) (by rfl)]
      have hpn : p + 1 ≤ n := by
        apply Nat.le_of_not_lt; intro hh; have := ha4 (by omega); omega
      exact main false (p + 1) hpn ⟨(fun hh => by cases hh), fun hh => absurd hh h45⟩
    · rw [if_neg (c := atI T n p = 45 ∨ atI T n p = 43) (by omega), if_neg (c := iI (atI T n p) = 43) (by exact fun x => h43 ((iI_eq (b := 43) (by omega) (by omega) (by omega) (by omega)).mp x)), Nat.add_zero]
      exact main false p hp ⟨(fun hh => by cases hh), fun hh => absurd hh h45⟩
