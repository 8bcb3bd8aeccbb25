/-! the reference's acts -/
theorem x11_begin (s0 sg pw rt al : Int32) (ad : Nat → Int32) (bl' : Int32) (bd : Nat → Int32) :
    ∃ sa Da sb Db, f_X11_begin s0 sg pw rt al ad bl' bd = some (s0, 0, 1, sa, Da, sb, Db) ∧ R30 sa Da 0 ∧ R30 sb Db 1 := by
  unfold f_X11_begin
  obtain ⟨sa, Da, h1, h2⟩ := x10_set al ad (u := 0) (by decide)
  obtain ⟨sb, Db, h3, h4⟩ := x10_set bl' bd (u := 1) (by decide)
  have h1' : f_X10_set (0 : Int64) al ad = some (sa, Da) := h1
  have h3' : f_X10_set (1 : Int64) bl' bd = some (sb, Db) := h3
  refine ⟨sa, Da, sb, Db, ?_, h2, h4⟩
  rw [h1', Option.bind_some, h3']; rfl
theorem x11_take {m : Nat} (hm : m < 18446744073709551616) (s0 e0 sg pw rt al : Int32) (ad : Nat → Int32) (bl' : Int32) (bd : Nat → Int32) :
    ∃ sa Da sb Db, f_X11_take s0 (uL m) e0 sg pw rt al ad bl' bd = some (s0, e0, 1, sa, Da, sb, Db) ∧ R30 sa Da m ∧ R30 sb Db 1 := by
  unfold f_X11_take
  obtain ⟨sa, Da, sb, Db, h1, h2, h3⟩ := x11_begin s0 sg pw rt al ad bl' bd
  obtain ⟨sa', Da', h4, h5⟩ := x10_set sa Da (u := m) hm
  refine ⟨sa', Da', sb, Db, ?_, h5, h3⟩
  rw [h1, Option.bind_some, h4]; rfl
theorem x11_round1 {A f sg way rr : Nat} {p : Int} {sa sb : Int32} {Da Db : Nat → Int32} (F : Nat → Int32) (G : Nat → Int64) (ha : R30 sa Da A) (hb : R30 sb Db 1) (hA : bl A ≤ 14000)
    (hp1 : -3000000 ≤ p) (hp2 : p ≤ 3000000) (hf : f ≤ 1) (hs : sg ≤ 1) (hw : way < 4) (hrr : rr < 16) (z1 : Int32) (z2 : Nat → Int32) (z3 : Int32) (z4 : Nat → Int32) (z5 : Int32) (z6 : Nat → Int32) (z7 : Int32) (z8 : Nat → Int32) :
    ∃ (q : Q8), f_X11_round (uI sg) (iI p) 1 sa Da sb Db (uI rr) (uI f) (uI way) F G z1 z2 z3 z4 z5 z6 z7 z8 = some (upd F rr (uI f), vp_updL G rr (uL (rcP f way sg A p false)), q) := by
  have hb1 : bl 1 = 1 := by decide
  obtain ⟨P, q, h1, h2⟩ := x11_round (r := 1) F G ha hb hA (by omega) (by omega) (by omega) (by omega) hp1 hp2 hf hs hw hrr (z1, z2, z3, z4, z5, z6, z7, z8)
  have h3 := rc_isR (way := way) (sg := sg) hf (lnk_exact f A p) (fun h => by cases h)
  have e1 : lnU f p = (p - ((1 : Nat) : Int) * (fLo f - 1)).toNat := by unfold lnU; omega
  have e2 : lnD f p = (((1 : Nat) : Int) * (fLo f - 1) - p).toNat := by unfold lnD; omega
  rw [e1, e2, ← Nat.one_mul (2 ^ (((1 : Nat) : Int) * (fLo f - 1) - p).toNat)] at h3
  have e3 := isR_uniq h2 h3
  rw [e3] at h1
  exact ⟨q, h1⟩
theorem p519' {v k : Nat} (h : bl v ≤ k) (hk : k ≤ 15000) : v < 1073741824 ^ 519 := Nat.lt_of_lt_of_le (lt_of_bl_le (k := 15000) (by omega)) p519
theorem bl_shift_le (v s : Nat) : bl (v * 2 ^ s) ≤ bl v + s := by
  by_cases h : v = 0
  · subst h; rw [Nat.zero_mul, bl_zero]; omega
  · rw [bl_mul h]; exact Nat.le_refl _
theorem x11_sum {A B sa sb : Nat} {p q : Int} {al ol : Int32} {ad od : Nat → Int32} (hA : R30 al ad A) (hB : R30 ol od B) (hAb : bl A ≤ 5000) (hBb : bl B ≤ 5000) (hsa : sa ≤ 1) (hsb : sb ≤ 1) (hp1 : -5000 ≤ p) (hp2 : p ≤ 5000) (hq1 : -5000 ≤ q) (hq2 : q ≤ 5000) (l1 : Int32) (l2 : Nat → Int32) :
    ∃ s' D' l3 l4 o1 o2, f_X11_sum (uI sb) (iI q) (uI sa) (iI p) al ad l1 l2 ol od = some (uI (if sa = sb then sa else if A * 2 ^ (p - min p q).toNat < B * 2 ^ (q - min p q).toNat then sb else sa), iI (min p q), s', D', l3, l4, o1, o2) ∧ R30 s' D' (suN sa A p sb B q) := by
  have hB54 : ∀ u v s1 D1 s2 D2 (z : Int32), R30 s1 D1 u → R30 s2 D2 v → bl u ≤ 15000 → bl v ≤ 15000 → ∃ s' D' l3 l4 o1 o2, f_X11_sum_B54 (uI sb) (iI q) (uI sa) z s1 D1 l1 l2 s2 D2 = some (uI (if sa = sb then sa else if u < v then sb else sa), z, s', D', l3, l4, o1, o2) ∧ R30 s' D' (if sa = sb then u + v else if v ≤ u then u - v else v - u) := by
    intro u v s1 D1 s2 D2 z hu hv hub hvb
    unfold f_X11_sum_B54
    by_cases hss : sa = sb
    · subst hss
      obtain ⟨s3, D3, h3, h4⟩ := x10_add hu hv (p519' hub (by omega)) (p519' hvb (by omega))
      rw [if_pos rfl, h3, Option.bind_some]
      simp only [if_true]
      exact ⟨s3, D3, l1, l2, s2, D2, rfl, h4⟩
    · rw [if_neg (by exact fun x => hss ((uI_eq (by omega) (by omega)).mp x)), x10_cmp hu hv, Option.bind_some]
      simp only [if_neg hss]
      by_cases hlt : u < v
      · obtain ⟨s3, D3, h3, h4⟩ := x10_copy hv l1 l2
        obtain ⟨s5, D5, h5, h6⟩ := x10_less h4 hu (by omega)
        obtain ⟨s7, D7, h7, h8⟩ := x10_copy h6 s1 D1
        rw [if_pos (by exact (cmp_iI_lt _ _).mpr hlt), h3, Option.bind_some, h5, Option.bind_some, h7, Option.bind_some]
        simp only [if_pos hlt, if_neg (show ¬ v ≤ u by omega)]
        exact ⟨s7, D7, s5, D5, s2, D2, rfl, h8⟩
      · obtain ⟨s3, D3, h3, h4⟩ := x10_less hu hv (by omega)
        rw [if_neg (by exact fun x => hlt ((cmp_iI_lt _ _).mp x)), h3, Option.bind_some]
        simp only [if_neg hlt, if_pos (show v ≤ u by omega)]
        exact ⟨s3, D3, l1, l2, s2, D2, rfl, h4⟩
  unfold f_X11_sum suN
  by_cases hpq : p ≤ q
  · have e1 : (p - min p q).toNat = 0 := by omega
    have e2 : (q - min p q).toNat = (q - p).toNat := by omega
    have e3 : iI (min p q) = iI p := by congr 1; omega
    have hb := bl_shift_le B (q - p).toNat
    obtain ⟨s1, D1, h1, h2⟩ := x10_shift hB (s := (q - p).toNat) (by omega) (p519' (k := 15000) (by omega) (by omega))
    rw [if_pos (by exact (iI_le (by omega) (by omega) (by omega) (by omega)).mpr hpq), iI_sub, show iI (q - p) = uI (q - p).toNat from by show iI _ = iI _; congr 1; omega, h1, Option.bind_some, e1, e2, e3, Nat.pow_zero, Nat.mul_one]
    exact hB54 A _ al ad s1 D1 (iI p) hA h2 (by omega) (by omega)
  · have e1 : (p - min p q).toNat = (p - q).toNat := by omega
    have e2 : (q - min p q).toNat = 0 := by omega
    have e3 : iI (min p q) = iI q := by congr 1; omega
    have hb := bl_shift_le A (p - q).toNat
    obtain ⟨s1, D1, h1, h2⟩ := x10_shift hA (s := (p - q).toNat) (by omega) (p519' (k := 15000) (by omega) (by omega))
    rw [if_neg (by exact fun x => hpq ((iI_le (by omega) (by omega) (by omega) (by omega)).mp x)), iI_sub, show iI (p - q) = uI (p - q).toNat from by show iI _ = iI _; congr 1; omega, h1, Option.bind_some, e1, e2, e3, Nat.pow_zero, Nat.mul_one]
    exact hB54 _ B s1 D1 ol od (iI q) h2 hB (by omega) (by omega)
theorem bl_add_le (a b : Nat) : bl (a + b) ≤ max (bl a) (bl b) + 1 := by
  apply bl_le_of_lt
  have h1 := bl_lt a
  have h2 := bl_lt b
  have h3 : 2 ^ bl a ≤ 2 ^ max (bl a) (bl b) := Nat.pow_le_pow_right (by decide) (by omega)
  have h4 : 2 ^ bl b ≤ 2 ^ max (bl a) (bl b) := Nat.pow_le_pow_right (by decide) (by omega)
  rw [Nat.pow_succ]; omega
theorem suN_bl {sa A sb B : Nat} {p q : Int} (hAb : bl A ≤ 200) (hBb : bl B ≤ 200) (hp1 : -5000 ≤ p) (hp2 : p ≤ 5000) (hq1 : -5000 ≤ q) (hq2 : q ≤ 5000) : bl (suN sa A p sb B q) ≤ 13000 := by
  unfold suN
  have h1 := bl_shift_le A (p - min p q).toNat
  have h2 := bl_shift_le B (q - min p q).toNat
  have h3 := bl_add_le (A * 2 ^ (p - min p q).toNat) (B * 2 ^ (q - min p q).toNat)
  have h4 := bl_mono (Nat.sub_le (A * 2 ^ (p - min p q).toNat) (B * 2 ^ (q - min p q).toNat))
  have h5 := bl_mono (Nat.sub_le (B * 2 ^ (q - min p q).toNat) (A * 2 ^ (p - min p q).toNat))
  split
  · omega
  · split <;> omega
theorem x11_addLooked {A sa k1 k2 s2 m2 f way rr : Nat} {p e2 : Int} {al : Int32} {ad : Nat → Int32} {bl' : Int32} {bd : Nat → Int32} (F : Nat → Int32) (G : Nat → Int64) (hA : R30 al ad A) (hb : R30 bl' bd 1) (hAb : bl A ≤ 130) (hk1 : k1 ≤ 4) (hsa : sa ≤ 1) (hp1 : -2200 ≤ p) (hp2 : p ≤ 2200) (h2 : isV k2 s2 m2 e2) (hF : F rr = uI f) (hf : f ≤ 1) (hw : way < 4) (hrr : rr < 16)
    (o1 o2 z1 : Int32) (z2 : Nat → Int32) (z3 : Int32) (z4 : Nat → Int32) (z5 : Int32) (z6 : Nat → Int32) (z7 : Int32) (z8 : Nat → Int32) (ol : Int32) (od : Nat → Int32) :
    ∃ a1 a2 a3 a4 x, f_X11_addLooked (uI k2) (uI s2) (uL m2) (iI e2) 1 bl' bd (uI k1) (uI rr) (uI way) (uI sa) (iI p) o1 o2 F G al ad z1 z2 z3 z4 z5 z6 z7 z8 ol od = some (a1, a2, a3, a4, upd F rr (uI f), vp_updL G rr (uL (if k1 = 4 ∨ k2 = 4 then patNone f else sumP f way (k1 == 3) sa A p k2 s2 m2 e2)), x) := by
  obtain ⟨hk2, hs2, hm2, he1, he2, hz2, hnz2, _⟩ := h2
  have hmb : bl m2 ≤ 53 := bl_le_of_lt hm2
  have c4 : ∀ k : Nat, k ≤ 4 → k ≠ 4 → ¬ uI k = (4 : Int32) := fun k h1 h2 x => h2 ((uI_eq (b := 4) (by omega) (by omega)).mp x)
  have c3 : ∀ k : Nat, k ≤ 4 → k ≠ 3 → ¬ uI k = (3 : Int32) := fun k h1 h2 x => h2 ((uI_eq (b := 3) (by omega) (by omega)).mp x)
  unfold f_X11_addLooked f_X11_addLooked_B45
  rw [if_pos (by exact (uI_vIn (by omega)).mpr hrr), uI_clamp (by omega), hF]
  have hnone : ∃ a1 a2 a3 a4 x, (f_X11_putNone (uI rr) (uI f) F G).bind (fun u2 => some (uI sa, iI p, o1, o2, u2.1, u2.2, al, ad, z1, z2, z3, z4, z5, z6, z7, z8, ol, od)) = some (a1, a2, a3, a4, upd F rr (uI f), vp_updL G rr (uL (patNone f)), x) := by
    rw [x11_putNone F G hf hrr, Option.bind_some]
    exact ⟨_, _, _, _, _, rfl⟩
  by_cases h14 : k1 = 4
  · subst h14
    rw [if_pos (by exact rfl), if_pos (Or.inl rfl)]; exact hnone
  · rw [if_neg (c4 k1 hk1 h14)]
    by_cases h24 : k2 = 4
    · subst h24
      rw [if_pos (by exact rfl), if_pos (Or.inr rfl)]; exact hnone
    · rw [if_neg (c4 k2 hk2 h24), if_neg (show ¬ (k1 = 4 ∨ k2 = 4) by omega)]
      have hput : ∀ s, s ≤ 1 → ∃ a1 a2 a3 a4 x, f_X11_addLooked_B86 (uI k2) (uI s2) (uL m2) (iI e2) 1 bl' bd (uI rr) (uI f) (uI s) (uI sa) (iI p) o1 o2 F G al ad z1 z2 z3 z4 z5 z6 z7 z8 ol od = some (a1, a2, a3, a4, upd F rr (uI f), vp_updL G rr (uL (pat f s (fInf f))), x) := by
        intro s hs
        unfold f_X11_addLooked_B86
        rw [x11_putEndless F G hf hs hrr, Option.bind_some]
        exact ⟨_, _, _, _, _, rfl⟩
      -- the numbers
      have hround : ∀ s' D' S q a b (oo1 oo2 : Int32) y1 y2 y3 y4 (w : Int32), S ≤ 1 → R30 s' D' q → bl q ≤ 13000 → ∃ a1 a2 a3 a4 x, f_X11_addLooked_B205 (uI k2) (uI s2) (uL m2) (iI e2) 1 bl' bd (uI rr) (uI way) (uI f) (uI S) (iI (min p e2)) a b F G s' D' y1 y2 z3 z4 z5 z6 z7 z8 y3 y4 = some (a1, a2, a3, a4, upd F rr (uI f), vp_updL G rr (uL (rcP f way S q (min p e2) false)), x) := by
        intro s' D' S q a b oo1 oo2 y1 y2 y3 y4 w hS hq hqb
        unfold f_X11_addLooked_B205
        obtain ⟨qq, hqq⟩ := x11_round1 (p := min p e2) F G hq hb (by omega) (by omega) (by omega) hf hS hw hrr y1 y2 z3 z4 z5 z6 z7 z8
        rw [hqq, Option.bind_some]
        exact ⟨_, _, _, _, _, rfl⟩
      have hnum : k1 ≠ 3 → k2 ≠ 3 → ∀ (v5 s0 : Int32), (v5 = 0 ∨ v5 = 1) → (v5 = 0 → ¬ (A = 0 ∧ k2 = 0)) → s0 = iI (if sa = s2 then (sa : Int) else -1) → ∃ a1 a2 a3 a4 x, f_X11_addLooked_B133 (uI k2) (uI s2) (uL m2) (iI e2) 1 bl' bd (uI rr) (uI way) (uI f) v5 s0 (uI sa) (iI p) o1 o2 F G al ad z1 z2 z3 z4 z5 z6 z7 z8 ol od = some (a1, a2, a3, a4, upd F rr (uI f), vp_updL G rr (uL (rcP f way (suS sa A p s2 m2 e2 way) (suN sa A p s2 m2 e2) (min p e2) false)), x) := by
        intro h13 h23 v5 s0 hv5 hv5' hs0
        unfold f_X11_addLooked_B133 f_X11_addLooked_B192 f_X11_addLooked_B202
        obtain ⟨s3, D3, h3, h4⟩ := x10_set ol od (u := m2) (by omega)
        obtain ⟨s5, D5, l3, l4, o3, o4, h5, h6⟩ := x11_sum (p := p) (q := e2) (sa := sa) (sb := s2) hA h4 (by omega) (by omega) hsa hs2 (by omega) (by omega) (by omega) (by omega) z1 z2
        have h5' : f_X11_sum (uI s2) (iI e2) (uI sa) (iI p) al ad z1 z2 (s3, D3).1 (s3, D3).2 = _ := h5
        rw [h3, Option.bind_some, h5', Option.bind_some]
        have hqb := suN_bl (sa := sa) (A := A) (sb := s2) (B := m2) (p := p) (q := e2) (by omega) (by omega) (by omega) (by omega) (by omega) (by omega)
        have hz := r30_len0 h6
        by_cases hzero : suN sa A p s2 m2 e2 = 0
        · rw [if_pos (by exact hz.mpr hzero)]
          -- the sum is 0
          by_cases hss : sa = s2
          · have hN : A * 2 ^ (p - min p e2).toNat + m2 * 2 ^ (e2 - min p e2).toNat = 0 := by
              unfold suN at hzero; rw [if_pos hss] at hzero; exact hzero
            have hp1 := Nat.two_pow_pos (p - min p e2).toNat
            have hp2 := Nat.two_pow_pos (e2 - min p e2).toNat
            have hA0 : A = 0 := by
              rcases Nat.mul_eq_zero.mp (show A * 2 ^ (p - min p e2).toNat = 0 by omega) with g | g
              · exact g
              · omega
            have hM0 : m2 = 0 := by
              rcases Nat.mul_eq_zero.mp (show m2 * 2 ^ (e2 - min p e2).toNat = 0 by omega) with g | g
              · exact g
              · omega
            have hk20 : k2 = 0 := by
              apply Classical.byContradiction
              intro hne
              exact hnz2 (by omega) hM0
            have hv51 : v5 = 1 := by
              rcases hv5 with g | g
              · exact absurd ⟨hA0, hk20⟩ (hv5' g)
              · exact g
            have hs0' : s0 = uI sa := by rw [hs0, if_pos hss]
            have hS : suS sa A p s2 m2 e2 way = sa := by unfold suS; rw [if_pos hss]
            rw [hv51, if_neg (by decide), hs0', if_neg (uI_nneg (by omega)), hS]
            exact hround s5 D5 sa _ (uI s2) (iI e2) 0 0 l3 l4 o3 o4 0 hsa h6 hqb
          · have hS : suS sa A p s2 m2 e2 way = if way = 3 then 1 else 0 := by
              unfold suS
              have heq : m2 * 2 ^ (e2 - min p e2).toNat = A * 2 ^ (p - min p e2).toNat := by
                unfold suN at hzero
                rw [if_neg hss] at hzero
                split at hzero <;> omega
              rw [if_neg hss, if_pos heq]
            have hs0' : s0 < 0 := by
              rw [hs0, if_neg hss]; decide
            have hgo : ∃ a1 a2 a3 a4 x, (if uI way = (3 : Int32) then f_X11_addLooked_B205 (uI k2) (uI s2) (uL m2) (iI e2) 1 bl' bd (uI rr) (uI way) (uI f) (1 : Int32) (iI (min p e2)) (uI s2) (iI e2) F G s5 D5 l3 l4 z3 z4 z5 z6 z7 z8 o3 o4 else f_X11_addLooked_B205 (uI k2) (uI s2) (uL m2) (iI e2) 1 bl' bd (uI rr) (uI way) (uI f) (0 : Int32) (iI (min p e2)) (uI s2) (iI e2) F G s5 D5 l3 l4 z3 z4 z5 z6 z7 z8 o3 o4) = some (a1, a2, a3, a4, upd F rr (uI f), vp_updL G rr (uL (rcP f way (suS sa A p s2 m2 e2 way) (suN sa A p s2 m2 e2) (min p e2) false)), x) := by
              rw [hS]
              by_cases hw3 : way = 3
              · rw [if_pos (by rw [hw3]; rfl), if_pos hw3]
                exact hround s5 D5 1 _ (uI s2) (iI e2) 0 0 l3 l4 o3 o4 0 (by omega) h6 hqb
              · rw [if_neg (by exact fun x => hw3 ((uI_eq (b := 3) (by omega) (by omega)).mp x)), if_neg hw3]
                exact hround s5 D5 0 _ (uI s2) (iI e2) 0 0 l3 l4 o3 o4 0 (by omega) h6 hqb
            rcases hv5 with g | g
            · rw [g, if_pos rfl]; exact hgo
            · rw [g, if_neg (by decide), if_pos hs0']; exact hgo
        · rw [if_neg (by exact fun x => hzero (hz.mp x))]
          have hS : suS sa A p s2 m2 e2 way = if sa = s2 then sa else if A * 2 ^ (p - min p e2).toNat < m2 * 2 ^ (e2 - min p e2).toNat then s2 else sa := by
            unfold suS
            unfold suN at hzero
            by_cases hss : sa = s2
            · rw [if_pos hss, if_pos hss]
            · rw [if_neg hss] at hzero
              rw [if_neg hss, if_neg hss]
              by_cases hlt : A * 2 ^ (p - min p e2).toNat < m2 * 2 ^ (e2 - min p e2).toNat
              · rw [if_pos hlt, if_neg (by omega), if_neg (by omega)]
              · rw [if_pos (show m2 * 2 ^ (e2 - min p e2).toNat ≤ A * 2 ^ (p - min p e2).toNat by omega)] at hzero
                rw [if_neg hlt, if_neg (by omega), if_pos (by omega)]
          rw [hS]
          have hS1 : (if sa = s2 then sa else if A * 2 ^ (p - min p e2).toNat < m2 * 2 ^ (e2 - min p e2).toNat then s2 else sa) ≤ 1 := by
            split
            · exact hsa
            · split
              · exact hs2
              · exact hsa
          exact hround s5 D5 _ _ (uI s2) (iI e2) 0 0 l3 l4 o3 o4 0 hS1 h6 hqb
      have hB112 : k1 ≠ 3 → k2 ≠ 3 → ∀ v5 : Int32, (v5 = 0 ∨ v5 = 1) → (v5 = 0 → ¬ (A = 0 ∧ k2 = 0)) → ∃ a1 a2 a3 a4 x, f_X11_addLooked_B112 (uI k2) (uI s2) (uL m2) (iI e2) 1 bl' bd (uI rr) (uI way) (uI f) v5 (uI sa) (iI p) o1 o2 F G al ad z1 z2 z3 z4 z5 z6 z7 z8 ol od = some (a1, a2, a3, a4, upd F rr (uI f), vp_updL G rr (uL (rcP f way (suS sa A p s2 m2 e2 way) (suN sa A p s2 m2 e2) (min p e2) false)), x) := by
        intro h13 h23 v5 hv5 hv5'
        unfold f_X11_addLooked_B112
        by_cases hss : sa = s2
        · rw [if_pos (by rw [hss])]
          exact hnum h13 h23 v5 _ hv5 hv5' (by rw [if_pos hss])
        · rw [if_neg (by exact fun x => hss ((uI_eq (by omega) (by omega)).mp x))]
          exact hnum h13 h23 v5 _ hv5 hv5' (by rw [if_neg hss, wI_m1])
      have hB53 : ¬ (k1 = 3 ∧ k2 = 3 ∧ sa ≠ s2) → ∃ a1 a2 a3 a4 x, f_X11_addLooked_B53 (uI k2) (uI s2) (uL m2) (iI e2) 1 bl' bd (uI k1) (uI rr) (uI way) (uI f) (uI sa) (iI p) o1 o2 F G al ad z1 z2 z3 z4 z5 z6 z7 z8 ol od = some (a1, a2, a3, a4, upd F rr (uI f), vp_updL G rr (uL (sumP f way (k1 == 3) sa A p k2 s2 m2 e2)), x) := by
        intro hnot
        unfold f_X11_addLooked_B53 f_X11_addLooked_B66 f_X11_addLooked_B111
        by_cases h13 : k1 = 3
        · subst h13
          have hsp : sumP f way (3 == 3) sa A p k2 s2 m2 e2 = pat f sa (fInf f) := by
            unfold sumP; rw [if_pos (Or.inl (by decide)), if_neg (fun h => hnot ⟨rfl, h.2.1, h.2.2⟩), if_pos (by decide)]
          rw [if_pos (by exact rfl), if_pos (by exact rfl), hsp]
          exact hput sa hsa
        · have hb1 : (k1 == 3) = false := beq_false_of_ne h13
          rw [if_neg (c3 k1 hk1 h13), hb1, if_neg (c3 k1 hk1 h13)]
          by_cases h23 : k2 = 3
          · subst h23
            have hsp : sumP f way false sa A p 3 s2 m2 e2 = pat f s2 (fInf f) := by
              unfold sumP; rw [if_pos (Or.inr rfl), if_neg (fun h => absurd h.1 (by decide)), if_neg (by decide)]
            rw [if_pos (by exact rfl), hsp]
            exact hput s2 hs2
          · have hsp : sumP f way false sa A p k2 s2 m2 e2 = rcP f way (suS sa A p s2 m2 e2 way) (suN sa A p s2 m2 e2) (min p e2) false := by
              unfold sumP; rw [if_neg (fun h => by rcases h with a | a; exact absurd a (by decide); exact h23 a)]
            rw [if_neg (c3 k2 hk2 h23), hsp]
            have hA0 := r30_len0 hA
            by_cases hAz : A = 0
            · rw [if_pos (by exact hA0.mpr hAz)]
              by_cases hk0 : k2 = 0
              · rw [if_pos (by rw [hk0]; rfl)]
                exact hB112 h13 h23 1 (Or.inr rfl) (fun h => absurd h (by decide))
              · rw [if_neg (by exact fun x => hk0 ((uI_eq0 (by omega)).mp x))]
                exact hB112 h13 h23 0 (Or.inl rfl) (fun _ h => hk0 h.2)
            · rw [if_neg (by exact fun x => hAz (hA0.mp x))]
              exact hB112 h13 h23 0 (Or.inl rfl) (fun _ h => hAz h.1)
      by_cases h13 : k1 = 3
      · subst h13
        rw [if_pos (by exact rfl)]
        by_cases h23 : k2 = 3
        · subst h23
          rw [if_pos (by exact rfl)]
          by_cases hss : sa = s2
          · rw [if_pos (by rw [hss])]
            exact hB53 (fun h => h.2.2 hss)
          · rw [if_neg (by exact fun x => hss ((uI_eq (by omega) (by omega)).mp x))]
            have hsp : sumP f way (3 == 3) sa A p 3 s2 m2 e2 = patNone f := by
              unfold sumP; rw [if_pos (Or.inr rfl), if_pos ⟨by decide, rfl, hss⟩]
            rw [hsp]; exact hnone
        · rw [if_neg (c3 k2 hk2 h23)]
          exact hB53 (fun h => h23 h.2.1)
      · rw [if_neg (c3 k1 hk1 h13)]
        exact hB53 (fun h => h13 h.1)
