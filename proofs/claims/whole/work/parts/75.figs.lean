/-! reading: the figures, in both -/
def rdV (sx : Bool) (T : Nat → Int32) (n g : Nat) : Nat → Nat
  | 0 => 0
  | k + 1 => if 0 ≤ figI sx (atI T n (g + k)) then rdV sx T n g k * (if sx then 16 else 10) + (figI sx (atI T n (g + k))).toNat else rdV sx T n g k
def rdI (sx : Bool) (V many behind k : Nat) : Prop := V < (if sx then 16 else 10) ^ many ∧ (0 < many → (if sx then 16 else 10) ^ (many - 1) ≤ V) ∧ many ≤ k ∧ behind ≤ k
theorem bs_bd (sx : Bool) : 10 ≤ (if sx then 16 else 10 : Nat) ∧ (if sx then 16 else 10 : Nat) ≤ 16 := by cases sx <;> decide
theorem rdI_step {sx : Bool} {V many behind k d : Nat} (h : rdI sx V many behind k) (hd : d < (if sx then 16 else 10)) (e : Nat) (he : e ≤ 1) : rdI sx (V * (if sx then 16 else 10) + d) (if 0 < many ∨ 0 < d then many + 1 else many) (behind + e) (k + 1) := by
  obtain ⟨h1, h2, h3, h4⟩ := h
  have hb := bs_bd sx
  unfold rdI
  generalize (if sx then 16 else 10 : Nat) = B at *
  by_cases hm : 0 < many
  · rw [if_pos (Or.inl hm)]
    have h5 := h2 hm
    refine ⟨?_, fun _ => ?_, by omega, by omega⟩
    · rw [Nat.pow_succ]
      have := Nat.mul_le_mul_right B h1
      rw [Nat.succ_mul] at this
      omega
    · rw [Nat.add_sub_cancel]
      have := Nat.mul_le_mul_right B h5
      rw [← Nat.pow_succ, show (many - 1).succ = many by omega] at this
      omega
  · have hm0 : many = 0 := by omega
    subst hm0
    have hV : V = 0 := by rw [Nat.pow_zero] at h1; omega
    subst hV
    by_cases hd0 : 0 < d
    · rw [if_pos (Or.inr hd0), Nat.zero_mul, Nat.zero_add, Nat.zero_add, Nat.pow_one, Nat.pow_zero]
      exact ⟨hd, fun _ => hd0, by omega, by omega⟩
    · rw [if_neg (by omega), show d = 0 by omega]
      refine ⟨by simp, fun hh => absurd hh (by omega), by omega, by omega⟩
theorem rdI_skip {sx : Bool} {V many behind k : Nat} (h : rdI sx V many behind k) : rdI sx V many behind (k + 1) := ⟨h.1, h.2.1, by have := h.2.2.1; omega, by have := h.2.2.2; omega⟩
theorem rd_room {sx : Bool} {V many behind k d : Nat} (h : rdI sx V many behind k) (hk : k ≤ 1200) (hd : d < 16) : V * (if sx then 16 else 10) + d < 1073741824 ^ 520 := by
  obtain ⟨h1, h2, h3, h4⟩ := h
  have hb := bs_bd sx
  generalize (if sx then 16 else 10 : Nat) = B at *
  have g1 : V < 16 ^ 1200 := Nat.lt_of_lt_of_le h1 (Nat.le_trans (Nat.pow_le_pow_left hb.2 many) (Nat.pow_le_pow_right (by decide) (by omega)))
  have g2 : V * B ≤ V * 16 := Nat.mul_le_mul_left _ hb.2
  have g3 : V * 16 + 16 ≤ 16 ^ 1201 := by
    have := Nat.mul_le_mul_right 16 g1
    rw [Nat.succ_mul, ← Nat.pow_succ] at this
    exact this
  have g4 : (16 : Nat) ^ 1201 ≤ 1073741824 ^ 520 := by
    rw [show (16 : Nat) = 2 ^ 4 from rfl, show (1073741824 : Nat) = 2 ^ 30 from rfl, ← Nat.pow_mul, ← Nat.pow_mul]
    exact Nat.pow_le_pow_right (by decide) (by decide)
  generalize (16 : Nat) ^ 1201 = y at *
  generalize (1073741824 : Nat) ^ 520 = z at *
  omega
theorem bI_vBl (b : Bool) : vBl (bI b) = true := by cases b <;> rfl
theorem bI_ne0 {b : Bool} (h : b = true) : ¬ bI b = 0 := by subst h; decide
theorem rd_figs {n : Nat} {T : Nat → Int32} (hT : tpOK n T) (sx : Bool) (g : Nat) (v2 told sg pw rt bl0 : Int32) (bd : Nat → Int32) :
    ∀ k i fuel1 fuel2 (any pt : Bool) many behind V al ad, i + k = n → g ≤ i → k < fuel1 → k < fuel2 → R30 al ad V → V = rdV sx T n g (i - g) → rdI sx V many behind (i - g) →
    ∃ (any' : Bool) (many' behind' j V' : Nat) (al' : Int32) (ad' : Nat → Int32), i ≤ j ∧ j ≤ n ∧ R30 al' ad' V' ∧ V' = rdV sx T n g (j - g) ∧ rdI sx V' many' behind' (j - g) ∧
      f_X7_parseFigures_L22 (uI n) (bI sx) (uI g) T fuel1 (bI any) (bI pt) (uI behind) (uI many) (uI i) = some (bI any', uI behind', uI many', uI j) ∧
      f_X11_takesFigures_L28 (uI n) T fuel2 (uI (if sx then 16 else 10)) v2 (bI any) (bI pt) sg pw rt (uI i) (uI many) (uI behind) told al ad bl0 bd = f_X11_takesFigures_B149 (uI n) T v2 (bI any') sg pw rt (uI j) (uI many') (uI behind') told al' ad' bl0 bd := by
  have hn := hT.1
  intro k
  induction k with
  | zero =>
    intro i fuel1 fuel2 any pt many behind V al ad hk hg hf1 hf2 hR hV hI
    obtain ⟨m1, rfl, _⟩ := ex_succ hf1
    obtain ⟨m2, rfl, _⟩ := ex_succ hf2
    have hin : i = n := by omega
    subst hin
    have h4 := (at_bd hT i).2.2.2 (Nat.le_refl _)
    refine ⟨any, many, behind, i, V, al, ad, Nat.le_refl _, Nat.le_refl _, hR, hV, hI, ?_, ?_⟩
    · rw [f_X7_parseFigures_L22, if_pos (by exact (uI_le (by omega) (by omega)).mpr (Nat.le_refl _)), if_pos (bI_vBl any)]
    · rw [f_X11_takesFigures_L28, x11_here hT (by omega), Option.bind_some, x11_fig sx (by omega) (by omega), Option.bind_some, h4,
        show figI sx (-1) = -1 from by cases sx <;> rfl, if_neg (by decide), Option.bind_some, if_neg (by decide)]
  | succ k ih =>
    intro i fuel1 fuel2 any pt many behind V al ad hk hg hf1 hf2 hR hV hI
    obtain ⟨m1, rfl, hm1⟩ := ex_succ hf1
    obtain ⟨m2, rfl, hm2⟩ := ex_succ hf2
    obtain ⟨ha1, ha2, ha3, ha4⟩ := at_bd hT i
    have hfb := fig_bd sx (atI T n i)
    have hb := bs_bd sx
    have hbase : (if sx then 16 else 10 : Nat) < 1073741824 := by omega
    have hii : g + (i - g) = i := by omega
    have e1 : i + 1 - g = (i - g) + 1 := by omega
    rw [f_X7_parseFigures_L22, if_neg (by exact fun x => by have := (uI_le (by omega) (by omega)).mp x; omega), x7_fig hT sx (by omega), Option.bind_some,
      f_X11_takesFigures_L28, x11_here hT (by omega), Option.bind_some, x11_fig sx ha1 ha2, Option.bind_some]
    by_cases hfig : 0 ≤ figI sx (atI T n i)
    · obtain ⟨d, hd⟩ : ∃ d : Nat, figI sx (atI T n i) = (d : Int) := ⟨(figI sx (atI T n i)).toNat, by omega⟩
      have hd16 : d < (if sx then 16 else 10) := by
        cases sx
        · have := hfb.2.2.1 rfl; show d < 10; omega
        · show d < 16; omega
      have ha48 := hfb.2.2.2 hfig
      rw [hd] at hfig ⊢
      rw [if_neg (c := uI d < 0) (by exact uI_nneg (by omega)), if_pos (c := 0 ≤ uI d) (by exact uI_ge0 (by omega))]
      unfold f_X11_takesFigures_B53
      rw [x11_here hT (by omega), Option.bind_some, if_neg (c := iI (atI T n i) = 46) (by exact fun x => by have := (iI_eq (b := 46) (by omega) (by omega) (by omega) (by omega)).mp x; omega), Option.bind_some, x11_fig sx ha1 ha2, Option.bind_some, hd]
      have hV' : V * (if sx then 16 else 10) + d = rdV sx T n g (i + 1 - g) := by
        rw [e1, rdV, hii, hd, if_pos (c := (0 : Int) ≤ (d : Int)) (by omega), ← hV]; rfl
      obtain ⟨al2, ad2, ht1, ht2⟩ := x10_times (x := d) hR hbase (by omega) (rd_room hI (by omega) (by omega))
      have hmul : ∀ e : Nat, e ≤ 1 → ∀ m' : Nat, m' = (if 0 < many ∨ 0 < d then many + 1 else many) →
          ∃ (any' : Bool) (many' behind' j V' : Nat) (al' : Int32) (ad' : Nat → Int32), i ≤ j ∧ j ≤ n ∧ R30 al' ad' V' ∧ V' = rdV sx T n g (j - g) ∧ rdI sx V' many' behind' (j - g) ∧
          f_X7_parseFigures_L22 (uI n) (bI sx) (uI g) T m1 (1 : Int32) (bI pt) (uI (behind + e)) (uI m') (uI (i + 1)) = some (bI any', uI behind', uI many', uI j) ∧
          f_X11_takesFigures_L28 (uI n) T m2 (uI (if sx then 16 else 10)) v2 (1 : Int32) (bI pt) sg pw rt (uI (i + 1)) (uI m') (uI (behind + e)) told al2 ad2 bl0 bd = f_X11_takesFigures_B149 (uI n) T v2 (bI any') sg pw rt (uI j) (uI many') (uI behind') told al' ad' bl0 bd := by
        intro e he m' hm'
        obtain ⟨any', many', behind', j, V', al', ad', q1, q2, q3, q4, q5, q6, q7⟩ := ih (i + 1) m1 m2 true pt m' (behind + e) _ al2 ad2 (by omega) (by omega) (by omega) (by omega) ht2 hV' (by rw [hm', e1]; exact rdI_step hI hd16 e he)
        exact ⟨any', many', behind', j, V', al', ad', by omega, q2, q3, q4, q5, q6, q7⟩
      have hbeh : ∀ e : Nat, e ≤ 1 → ∀ (sm : Int32) (m' : Nat), sm = uI m' → m' = (if 0 < many ∨ 0 < d then many + 1 else many) →
          ∃ (any' : Bool) (many' behind' j V' : Nat) (al' : Int32) (ad' : Nat → Int32), i ≤ j ∧ j ≤ n ∧ R30 al' ad' V' ∧ V' = rdV sx T n g (j - g) ∧ rdI sx V' many' behind' (j - g) ∧
          f_X7_parseFigures_L22 (uI n) (bI sx) (uI g) T m1 (1 : Int32) (bI pt) (uI behind + uI e) sm (uI i + 1) = some (bI any', uI behind', uI many', uI j) ∧
          f_X11_takesFigures_B121 (uI n) T (f_X11_takesFigures_L28 (uI n) T m2) (uI (if sx then 16 else 10)) v2 (1 : Int32) (bI pt) (uI d) (uI behind) (uI e) sg pw rt (uI i) sm (uI behind) told al ad bl0 bd = f_X11_takesFigures_B149 (uI n) T v2 (bI any') sg pw rt (uI j) (uI many') (uI behind') told al' ad' bl0 bd := by
        intro e he sm m' hsm hm'
        unfold f_X11_takesFigures_B121
        rw [uI_toL (by omega), ht1, Option.bind_some, uI_succ, uI_add, hsm]
        exact hmul e he m' hm'
      have hmany : ∀ (e : Nat), e ≤ 1 → ∀ (se : Int32), se = uI e → (pt = false → e = 0) → (pt = true → e = 1) →
          ∃ (any' : Bool) (many' behind' j V' : Nat) (al' : Int32) (ad' : Nat → Int32), i ≤ j ∧ j ≤ n ∧ R30 al' ad' V' ∧ V' = rdV sx T n g (j - g) ∧ rdI sx V' many' behind' (j - g) ∧
          f_X7_parseFigures_B62 (uI n) (bI sx) (uI g) T (f_X7_parseFigures_L22 (uI n) (bI sx) (uI g) T m1) 1 (bI pt) (uI d) (uI behind) se (uI behind) (uI many) (uI i) = some (bI any', uI behind', uI many', uI j) ∧
          (if 0 < uI many then f_X11_takesFigures_B97 (uI n) T (f_X11_takesFigures_L28 (uI n) T m2) (uI (if sx then 16 else 10)) v2 1 (bI pt) (uI d) (uI many) sg pw rt (uI i) (uI many) (uI behind) told al ad bl0 bd else if uI d ≤ 0 then f_X11_takesFigures_B102 (uI n) T (f_X11_takesFigures_L28 (uI n) T m2) (uI (if sx then 16 else 10)) v2 1 (bI pt) (uI d) (uI many) 0 sg pw rt (uI i) (uI many) (uI behind) told al ad bl0 bd else f_X11_takesFigures_B97 (uI n) T (f_X11_takesFigures_L28 (uI n) T m2) (uI (if sx then 16 else 10)) v2 1 (bI pt) (uI d) (uI many) sg pw rt (uI i) (uI many) (uI behind) told al ad bl0 bd) = f_X11_takesFigures_B149 (uI n) T v2 (bI any') sg pw rt (uI j) (uI many') (uI behind') told al' ad' bl0 bd := by
        intro e he se hse hp0 hp1
        subst hse
        have hmk : many < 2147483648 := by have := hI.2.2.1; omega
        have h102 : ∀ s2 : Int32, f_X11_takesFigures_B102 (uI n) T (f_X11_takesFigures_L28 (uI n) T m2) (uI (if sx then 16 else 10)) v2 1 (bI pt) (uI d) (uI many) s2 sg pw rt (uI i) (uI many) (uI behind) told al ad bl0 bd = f_X11_takesFigures_B121 (uI n) T (f_X11_takesFigures_L28 (uI n) T m2) (uI (if sx then 16 else 10)) v2 (1 : Int32) (bI pt) (uI d) (uI behind) (uI e) sg pw rt (uI i) (uI many + s2) (uI behind) told al ad bl0 bd := by
          intro s2
          unfold f_X11_takesFigures_B102
          cases pt
          · rw [if_pos (by rfl), hp0 rfl]; rfl
          · rw [if_neg (by decide), hp1 rfl]; rfl
        unfold f_X7_parseFigures_B62 f_X7_parseFigures_B82 f_X7_parseFigures_B87 f_X11_takesFigures_B97
        rw [h102, h102]
        by_cases hm : 0 < many
        · rw [if_pos (c := 0 < uI many) (by exact (uI_gt0 hmk).mpr hm), if_pos (c := 0 < uI many) (by exact (uI_gt0 hmk).mpr hm)]
          exact hbeh e he _ (many + 1) (uI_succ many) (by rw [if_pos (Or.inl hm)])
        · rw [if_neg (c := 0 < uI many) (by exact fun x => hm ((uI_gt0 hmk).mp x)), if_neg (c := 0 < uI many) (by exact fun x => hm ((uI_gt0 hmk).mp x))]
          by_cases hd0 : 0 < d
          · rw [if_neg (c := uI d ≤ 0) (by exact fun x => by have := (uI_le0 (by omega)).mp x; omega), if_neg (c := uI d ≤ 0) (by exact fun x => by have := (uI_le0 (by omega)).mp x; omega)]
            exact hbeh e he _ (many + 1) (uI_succ many) (by rw [if_pos (Or.inr hd0)])
          · rw [if_pos (c := uI d ≤ 0) (by exact (uI_le0 (by omega)).mpr (by omega)), if_pos (c := uI d ≤ 0) (by exact (uI_le0 (by omega)).mpr (by omega))]
            exact hbeh e he _ many (by rw [wI_0, iI_add]; exact congrArg iI (by omega)) (by rw [if_neg (by omega)])
      cases pt
      · rw [if_pos (c := bI false = 0) (by rfl)]
        exact hmany 0 (by omega) 0 rfl (fun _ => rfl) (fun hh => by cases hh)
      · rw [if_neg (c := bI true = 0) (by decide)]
        exact hmany 1 (by omega) 1 rfl (fun hh => by cases hh) (fun _ => rfl)
    · have hstop : ∃ (any' : Bool) (many' behind' j V' : Nat) (al' : Int32) (ad' : Nat → Int32), i ≤ j ∧ j ≤ n ∧ R30 al' ad' V' ∧ V' = rdV sx T n g (j - g) ∧ rdI sx V' many' behind' (j - g) ∧
          (if vBl (bI any) = true then some (bI any, uI behind, uI many, uI i) else none) = some (bI any', uI behind', uI many', uI j) ∧
          f_X11_takesFigures_B149 (uI n) T v2 (bI any) sg pw rt (uI i) (uI many) (uI behind) told al ad bl0 bd = f_X11_takesFigures_B149 (uI n) T v2 (bI any') sg pw rt (uI j) (uI many') (uI behind') told al' ad' bl0 bd :=
        ⟨any, many, behind, i, V, al, ad, Nat.le_refl _, by omega, hR, hV, hI, by rw [if_pos (bI_vBl any)], rfl⟩
      rw [if_pos (c := iI (figI sx (atI T n i)) < 0) (by exact (iI_lt (b := 0) (by omega) (by omega) (by omega) (by omega)).mpr (by omega)), x7_at hT (by omega), Option.bind_some,
        if_neg (c := 0 ≤ iI (figI sx (atI T n i))) (by exact fun x => by have := (iI_le (a := 0) (by omega) (by omega) (by omega) (by omega)).mp x; omega), Option.bind_some]
      by_cases h46 : atI T n i = 46
      · rw [h46, if_pos (c := iI 46 = 46) (by rfl), if_pos (c := iI 46 = 46) (by rfl)]
        cases pt
        · rw [if_pos (c := bI false = 0) (by rfl), if_pos (c := bI false = 0) (by rfl)]
          unfold f_X11_takesFigures_B53
          rw [x11_here hT (by omega), Option.bind_some, h46, if_pos (c := iI 46 = 46) (by rfl), uI_succ]
          obtain ⟨any', many', behind', j, V', al', ad', q1, q2, q3, q4, q5, q6, q7⟩ := ih (i + 1) m1 m2 any true many behind V al ad (by omega) (by omega) (by omega) (by omega) hR (by rw [e1, rdV, hii, if_neg hfig]; exact hV) (by rw [e1]; exact rdI_skip hI)
          exact ⟨any', many', behind', j, V', al', ad', by omega, q2, q3, q4, q5, q6, q7⟩
        · rw [if_neg (c := bI true = 0) (by decide), if_neg (c := bI true = 0) (by decide)]
          exact hstop
      · rw [if_neg (c := iI (atI T n i) = 46) (by exact fun x => h46 ((iI_eq (b := 46) (by omega) (by omega) (by omega) (by omega)).mp x)), if_neg (c := iI (atI T n i) = 46) (by exact fun x => h46 ((iI_eq (b := 46) (by omega) (by omega) (by omega) (by omega)).mp x))]
        exact hstop
