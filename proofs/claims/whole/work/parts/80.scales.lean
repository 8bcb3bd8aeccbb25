/-! reading: the reference's scaling -/
theorem r30_le0 {s : Int32} {D : Nat → Int32} {v : Nat} (h : R30 s D v) : s ≤ 0 ↔ v = 0 := by
  have h0 := r30_len0 h
  obtain ⟨n, hn, e, _⟩ := h
  rw [← h0, e, uI_le0 (by omega), uI_eq0 (by omega)]
theorem bl_room30 {v : Nat} (h : bl v ≤ 14000) : v < 1073741824 ^ 520 := by
  refine Nat.lt_of_lt_of_le (lt_of_bl_le h) ?_
  rw [show (1073741824 : Nat) = 2 ^ 30 from rfl, ← Nat.pow_mul]
  exact Nat.pow_le_pow_right (by decide) (by decide)
theorem abs_iI' {v : Int} (h1 : -10000000 < v) (h2 : v < 10000000) : f_J9_abs_0f7a4 (iI v) = some (uI v.natAbs) := by
  unfold f_J9_abs_0f7a4
  by_cases h : 0 ≤ v
  · rw [if_pos (by exact (iI_le (a := 0) (by omega) (by omega) (by omega) (by omega)).mpr h)]
    exact congrArg (fun z => some (iI z)) (by omega)
  · rw [if_neg (by exact fun x => h ((iI_le (a := 0) (by omega) (by omega) (by omega) (by omega)).mp x)), iI_neg]
    exact congrArg (fun z => some (iI z)) (by omega)
theorem x11_L81a {x : Int} (h1 : -10000 < x) (h2 : x < 10000) {V : Nat} (hV0 : V ≠ 0) (hb : bl V + 4 * x.natAbs ≤ 14000) (a1 a2 a3 pw bl0 : Int32) (bd : Nat → Int32) :
    ∀ k i fuel al ad, i + k = x.natAbs → k < fuel → R30 al ad (V * 10 ^ i) →
    ∃ al' ad', f_X11_scaleTen_L81a a1 a2 a3 fuel (iI x) (uI i) pw al ad bl0 bd = some (pw, al', ad', bl0, bd) ∧ R30 al' ad' (V * 10 ^ x.natAbs) := by
  intro k
  induction k with
  | zero =>
    intro i fuel al ad hk hf hR
    obtain ⟨m, rfl, _⟩ := ex_succ hf
    rw [f_X11_scaleTen_L81a, abs_iI' (by omega) (by omega), Option.bind_some, if_pos (by exact (uI_le (by omega) (by omega)).mpr (by omega))]
    refine ⟨al, ad, rfl, ?_⟩
    rw [show x.natAbs = i by omega]; exact hR
  | succ k ih =>
    intro i fuel al ad hk hf hR
    obtain ⟨m, rfl, hm⟩ := ex_succ hf
    have hpos : V * 10 ^ i ≠ 0 := Nat.mul_ne_zero hV0 (by have := Nat.pow_pos (n := i) (show 0 < 10 by decide); omega)
    have hW : V * 10 ^ i * 10 = V * 10 ^ (i + 1) := by rw [Nat.pow_succ, Nat.mul_assoc]
    have hroom : V * 10 ^ i * 10 + 0 < 1073741824 ^ 520 := by
      rw [Nat.add_zero, hW]
      apply bl_room30
      have g1 : V * 10 ^ (i + 1) ≤ V * 2 ^ (4 * (i + 1)) := by
        apply Nat.mul_le_mul_left
        rw [Nat.pow_mul]
        exact Nat.pow_le_pow_left (by decide) _
      have := bl_mono g1
      have := bl_shift_le V (4 * (i + 1))
      omega
    obtain ⟨al2, ad2, q1, q2⟩ := x10_times (f := 10) (x := 0) hR (by decide) (by decide) hroom
    have q1' : f_X10_times (10 : Int64) (0 : Int32) al ad = some (al2, ad2) := q1
    rw [f_X11_scaleTen_L81a, abs_iI' (by omega) (by omega), Option.bind_some, if_neg (by exact fun x => by have := (uI_le (by omega) (by omega)).mp x; omega), if_neg (by exact fun x => hpos ((r30_le0 hR).mp x)), q1', Option.bind_some, uI_succ]
    rw [Nat.add_zero, hW] at q2
    exact ih (i + 1) m al2 ad2 (by omega) (by omega) q2
theorem x11_L81b {x : Int} (h1 : -3000 < x) (h2 : x < 3000) {V : Nat} (hV0 : V ≠ 0) {al : Int32} {ad : Nat → Int32} (hR : R30 al ad V) (a1 a2 a3 pw : Int32) :
    ∀ k i fuel bl0 bd, i + k = x.natAbs → k < fuel → R30 bl0 bd (10 ^ i) →
    ∃ bl' bd', f_X11_scaleTen_L81b a1 a2 a3 fuel (iI x) (uI i) pw al ad bl0 bd = some (pw, al, ad, bl', bd') ∧ R30 bl' bd' (10 ^ x.natAbs) := by
  intro k
  induction k with
  | zero =>
    intro i fuel bl0 bd hk hf hB
    obtain ⟨m, rfl, _⟩ := ex_succ hf
    rw [f_X11_scaleTen_L81b, abs_iI' (by omega) (by omega), Option.bind_some, if_pos (by exact (uI_le (by omega) (by omega)).mpr (by omega))]
    refine ⟨bl0, bd, rfl, ?_⟩
    rw [show x.natAbs = i by omega]; exact hB
  | succ k ih =>
    intro i fuel bl0 bd hk hf hB
    obtain ⟨m, rfl, hm⟩ := ex_succ hf
    have hroom : 10 ^ i * 10 + 0 < 1073741824 ^ 520 := by
      rw [Nat.add_zero, ← Nat.pow_succ]
      apply bl_room30
      have := bl_ten (v := 10 ^ (i + 1)) (Nat.le_refl _)
      show bl (10 ^ (i + 1)) ≤ _
      omega
    obtain ⟨al2, ad2, q1, q2⟩ := x10_times (f := 10) (x := 0) hB (by decide) (by decide) hroom
    have q1' : f_X10_times (10 : Int64) (0 : Int32) bl0 bd = some (al2, ad2) := q1
    rw [f_X11_scaleTen_L81b, abs_iI' (by omega) (by omega), Option.bind_some, if_neg (by exact fun x => by have := (uI_le (by omega) (by omega)).mp x; omega), if_neg (by exact fun x => hV0 ((r30_le0 hR).mp x)), q1', Option.bind_some, uI_succ]
    rw [Nat.add_zero, ← Nat.pow_succ] at q2
    exact ih (i + 1) m al2 ad2 (by omega) (by omega) q2
theorem x11_extreme (up : Bool) (pw al : Int32) (ad : Nat → Int32) : ∃ s D, f_X11_extreme (bI up) pw al ad = some (iI (if up then 3000 else -3000), s, D) ∧ R30 s D 1 := by
  obtain ⟨s, D, h1, h2⟩ := x10_set al ad (u := 1) (by decide)
  have h1' : f_X10_set (1 : Int64) al ad = some (s, D) := h1
  refine ⟨s, D, ?_, h2⟩
  unfold f_X11_extreme
  rw [h1', Option.bind_some]
  cases up
  · rw [if_pos (by rfl), show (-3000 : Int32) = iI (-3000) from by decide]; rfl
  · rw [if_neg (by decide)]; rfl
theorem x11_scaleTwo {V behind : Nat} {told : Int} {al : Int32} {ad : Nat → Int32} (hR : R30 al ad V) (hbV : bl V ≤ 4800) (hb : behind ≤ 1200) (ht1 : -1000000 < told) (ht2 : told < 1000000) (pw : Int32) :
    ∃ (p : Int) (A : Nat) (al' : Int32) (ad' : Nat → Int32), f_X11_scaleTwo (uI behind) (iI told) pw al ad = some (iI p, al', ad') ∧ R30 al' ad' A ∧ bl A ≤ 4800 ∧ -2000000 ≤ p ∧ p ≤ 2000000 ∧ ∀ f way sg, f ≤ 1 → rdP f way sg true V behind told (rcP f way sg A p false) := by
  have hb1 : bl 1 = 1 := by decide
  have hext : ∀ up : Bool, (∀ f way sg, f ≤ 1 → rdP f way sg true V behind told (if up then tooG f sg way else tinyP f way sg)) →
      ∃ (p : Int) (A : Nat) (al' : Int32) (ad' : Nat → Int32), f_X11_scaleTwo_B62 (uI behind) (iI told) (bI up) (iI (told - 4 * behind)) al ad = some (iI p, al', ad') ∧ R30 al' ad' A ∧ bl A ≤ 4800 ∧ -2000000 ≤ p ∧ p ≤ 2000000 ∧ ∀ f way sg, f ≤ 1 → rdP f way sg true V behind told (rcP f way sg A p false) := by
    intro up hP
    obtain ⟨s, D, q1, q2⟩ := x11_extreme up (iI (told - 4 * behind)) al ad
    unfold f_X11_scaleTwo_B62
    rw [q1, Option.bind_some]
    refine ⟨_, 1, s, D, rfl, q2, by omega, by cases up <;> decide, by cases up <;> decide, ?_⟩
    intro f way sg hf
    have := hP f way sg hf
    cases up
    · have e : rcP f way sg 1 (if false = true then 3000 else -3000) false = tinyP f way sg := rc_tiny hf (by decide) (by rw [hb1]; decide)
      rw [e]; exact this
    · have e : rcP f way sg 1 (if true = true then 3000 else -3000) false = tooG f sg way := rc_huge hf (by decide) (by rw [hb1]; decide)
      rw [e]; exact this
  unfold f_X11_scaleTwo f_X11_scaleTwo_B52
  rw [x10_bits hR, Option.bind_some, show (4 : Int32) * uI behind = iI (4 * behind) from iI_mul 4 behind, iI_sub, iI_add]
  have hsame : ∃ (p : Int) (A : Nat) (al' : Int32) (ad' : Nat → Int32), some (iI (told - 4 * behind), al, ad) = some (iI p, al', ad') ∧ R30 al' ad' A ∧ bl A ≤ 4800 ∧ -2000000 ≤ p ∧ p ≤ 2000000 ∧ ∀ f way sg, f ≤ 1 → rdP f way sg true V behind told (rcP f way sg A p false) :=
    ⟨_, V, al, ad, rfl, hR, hbV, by omega, by omega, fun f way sg hf => rfl⟩
  by_cases hV0 : V = 0
  · rw [if_pos ((r30_le0 hR).mpr hV0)]
    exact hsame
  · rw [if_neg (by exact fun x => hV0 ((r30_le0 hR).mp x))]
    by_cases hh : 2500 < (bl V : Int) + (told - 4 * behind)
    · rw [if_pos (by exact (iI_lt (a := 2500) (by omega) (by omega) (by omega) (by omega)).mpr hh), if_neg (by exact fun x => by have := (iI_le (b := 0) (by omega) (by omega) (by omega) (by omega)).mp x; omega)]
      exact hext true (fun f way sg hf => by show _ = _; rw [rc_huge hf hV0 hh]; rfl)
    · rw [if_neg (by exact fun x => hh ((iI_lt (a := 2500) (by omega) (by omega) (by omega) (by omega)).mp x))]
      by_cases hl : -2500 ≤ (bl V : Int) + (told - 4 * behind)
      · rw [if_pos (by rw [show (-2500 : Int32) = iI (-2500) from by decide]; exact (iI_le (by omega) (by omega) (by omega) (by omega)).mpr hl)]
        exact hsame
      · rw [if_neg (by rw [show (-2500 : Int32) = iI (-2500) from by decide]; exact fun x => hl ((iI_le (by omega) (by omega) (by omega) (by omega)).mp x)), if_pos (by exact (iI_le (b := 0) (by omega) (by omega) (by omega) (by omega)).mpr (by omega))]
        exact hext false (fun f way sg hf => by show _ = _; rw [rc_tiny hf hV0 (by omega)]; rfl)
theorem x11_scaleTen {V many behind K : Nat} {told : Int} {al bl0 : Int32} {ad bd : Nat → Int32} (hR : R30 al ad V) (hB : R30 bl0 bd 1) (hI : rdI false V many behind K) (hK : K ≤ 1200) (ht1 : -1000000 < told) (ht2 : told < 1000000) :
    ∃ (p : Int) (A B : Nat) (al' : Int32) (ad' : Nat → Int32) (bl' : Int32) (bd' : Nat → Int32), f_X11_scaleTen (uI many) (uI behind) (iI told) 0 al ad bl0 bd = some (iI p, al', ad', bl', bd') ∧ R30 al' ad' A ∧ R30 bl' bd' B ∧ bl A ≤ 14000 ∧ bl B ≤ 14000 ∧ 0 < B ∧ -2000000 ≤ p ∧ p ≤ 2000000 ∧
      ∀ f way sg P, f ≤ 1 → isR f way sg (A * 2 ^ lnU f p) (B * 2 ^ lnD f p) 1 P → rdP f way sg false V behind told P := by
  have hb1 : bl 1 = 1 := by decide
  have hm := hI.2.2.1
  have hbh := hI.2.2.2
  have hhi : V < 10 ^ many := hI.1
  have hbV : bl V ≤ 4 * many + 1 := bl_ten (Nat.le_of_lt hhi)
  have hl0 : ∀ f, lnU f 0 = (1 - fLo f).toNat ∧ lnD f 0 = 0 := by
    intro f
    have := fLo_bd f
    unfold lnU lnD
    exact ⟨by omega, by omega⟩
  have hext : ∀ up : Bool, (∀ f way sg, f ≤ 1 → rdP f way sg false V behind told (if up then tooG f sg way else tinyP f way sg)) →
      ∃ (p : Int) (A B : Nat) (al' : Int32) (ad' : Nat → Int32) (bl' : Int32) (bd' : Nat → Int32), f_X11_scaleTen_B59 (uI many) (uI behind) (iI told) (bI up) 0 al ad bl0 bd = some (iI p, al', ad', bl', bd') ∧ R30 al' ad' A ∧ R30 bl' bd' B ∧ bl A ≤ 14000 ∧ bl B ≤ 14000 ∧ 0 < B ∧ -2000000 ≤ p ∧ p ≤ 2000000 ∧
      ∀ f way sg P, f ≤ 1 → isR f way sg (A * 2 ^ lnU f p) (B * 2 ^ lnD f p) 1 P → rdP f way sg false V behind told P := by
    intro up hP
    obtain ⟨s, D, q1, q2⟩ := x11_extreme up 0 al ad
    unfold f_X11_scaleTen_B59
    rw [q1, Option.bind_some]
    refine ⟨_, 1, 1, s, D, bl0, bd, rfl, q2, hB, by omega, by omega, by omega, by cases up <;> decide, by cases up <;> decide, ?_⟩
    intro f way sg P hf hR2
    have hP2 := hP f way sg hf
    have e3 : P = rcP f way sg 1 (if up then 3000 else -3000) false := by
      refine isR_uniq hR2 ?_
      rw [Nat.one_mul (2 ^ lnD f _)]
      exact rc_isR hf (lnk_exact f 1 _) (fun hh => by cases hh)
    rw [e3]
    cases up
    · have e : rcP f way sg 1 (if false = true then 3000 else -3000) false = tinyP f way sg := rc_tiny hf (by decide) (by rw [hb1]; decide)
      rw [e]; exact hP2
    · have e : rcP f way sg 1 (if true = true then 3000 else -3000) false = tooG f sg way := rc_huge hf (by decide) (by rw [hb1]; decide)
      rw [e]; exact hP2
  unfold f_X11_scaleTen
  rw [iI_sub, iI_add]
  by_cases hV0 : V = 0
  · rw [if_pos ((r30_le0 hR).mpr hV0)]
    unfold f_X11_scaleTen_B63
    have hz := (r30_le0 hR).mpr hV0
    have hfu : FU = 99999 + 1 := rfl
    have hdone : ∃ (p : Int) (A B : Nat) (al' : Int32) (ad' : Nat → Int32) (bl' : Int32) (bd' : Nat → Int32), some ((0 : Int32), al, ad, bl0, bd) = some (iI p, al', ad', bl', bd') ∧ R30 al' ad' A ∧ R30 bl' bd' B ∧ bl A ≤ 14000 ∧ bl B ≤ 14000 ∧ 0 < B ∧ -2000000 ≤ p ∧ p ≤ 2000000 ∧
      ∀ f way sg P, f ≤ 1 → isR f way sg (A * 2 ^ lnU f p) (B * 2 ^ lnD f p) 1 P → rdP f way sg false V behind told P := by
      refine ⟨0, V, 1, al, ad, bl0, bd, rfl, hR, hB, by omega, by omega, by omega, by omega, by omega, ?_⟩
      intro f way sg P hf hR2
      rw [hV0, Nat.zero_mul] at hR2
      rw [isR_uniq hR2 (isR_nought hf (Nat.mul_pos (by decide) (Nat.two_pow_pos _))), hV0]
      exact rdP_nought hf
    by_cases hk : 0 ≤ iI (told - behind)
    · rw [if_pos hk, hfu, f_X11_scaleTen_L81a, abs_iI' (by omega) (by omega), Option.bind_some, if_pos hz]
      split
      · exact hdone
      · exact hdone
    · rw [if_neg hk, hfu, f_X11_scaleTen_L81b, abs_iI' (by omega) (by omega), Option.bind_some, if_pos hz]
      split
      · exact hdone
      · exact hdone
  · rw [if_neg (by exact fun x => hV0 ((r30_le0 hR).mp x))]
    have hm0 := rdI_ne hI hV0
    have hlo : 10 ^ (many - 1) ≤ V := hI.2.1 hm0
    unfold f_X11_scaleTen_B44
    rw [iI_add]
    by_cases hh : 500 < (many : Int) + (told - behind)
    · rw [if_pos (by exact (iI_lt (a := 500) (by omega) (by omega) (by omega) (by omega)).mpr hh), if_neg (by exact fun x => by have := (iI_le (b := 0) (by omega) (by omega) (by omega) (by omega)).mp x; omega)]
      exact hext true (fun f way sg hf => rdP_huge hf hlo hm0 (by omega))
    · rw [if_neg (by exact fun x => hh ((iI_lt (a := 500) (by omega) (by omega) (by omega) (by omega)).mp x))]
      by_cases hl : -500 ≤ (many : Int) + (told - behind)
      · rw [if_pos (by rw [show (-500 : Int32) = iI (-500) from by decide]; exact (iI_le (by omega) (by omega) (by omega) (by omega)).mpr hl)]
        unfold f_X11_scaleTen_B63
        by_cases hk : 0 ≤ told - behind
        · rw [if_pos (by exact (iI_le (a := 0) (by omega) (by omega) (by omega) (by omega)).mpr hk)]
          have hR0 : R30 al ad (V * 10 ^ 0) := by rw [Nat.pow_zero, Nat.mul_one]; exact hR
          obtain ⟨al', ad', q1, q2⟩ := x11_L81a (x := told - behind) (by omega) (by omega) hV0 (by omega) (uI many) (uI behind) (iI told) 0 bl0 bd (told - behind).natAbs 0 FU al ad (by omega) (by rw [hFU]; omega) hR0
          have q1' : f_X11_scaleTen_L81a (uI many) (uI behind) (iI told) FU (iI (told - behind)) 0 0 al ad bl0 bd = _ := q1
          rw [q1']
          have hle : V * 10 ^ (told - behind).natAbs ≤ 10 ^ 2000 := by
            refine Nat.le_trans (Nat.mul_le_mul_right _ (Nat.le_of_lt hhi)) ?_
            rw [← Nat.pow_add]
            exact Nat.pow_le_pow_right (by decide) (by omega)
          have hble := bl_ten hle
          refine ⟨0, _, 1, al', ad', bl0, bd, rfl, q2, hB, by omega, by omega, by omega, by omega, by omega, ?_⟩
          intro f way sg P hf hR2
          obtain ⟨l1, l2⟩ := hl0 f
          rw [l1, l2, Nat.pow_zero, Nat.one_mul] at hR2
          show isR _ _ _ _ _ _ _
          rw [show (behind - told).toNat = 0 by omega, Nat.pow_zero, show (told - behind).toNat = (told - behind).natAbs by omega]
          exact hR2
        · rw [if_neg (by exact fun x => hk ((iI_le (a := 0) (by omega) (by omega) (by omega) (by omega)).mp x))]
          have hB0 : R30 bl0 bd (10 ^ 0) := hB
          obtain ⟨bl', bd', q1, q2⟩ := x11_L81b (x := told - behind) (by omega) (by omega) hV0 hR (uI many) (uI behind) (iI told) 0 (told - behind).natAbs 0 FU bl0 bd (by omega) (by rw [hFU]; omega) hB0
          have q1' : f_X11_scaleTen_L81b (uI many) (uI behind) (iI told) FU (iI (told - behind)) 0 0 al ad bl0 bd = _ := q1
          rw [q1']
          have hble := bl_ten (v := 10 ^ (told - behind).natAbs) (Nat.le_refl _)
          refine ⟨0, V, _, al, ad, bl', bd', rfl, hR, q2, by omega, by omega, Nat.pow_pos (by decide), by omega, by omega, ?_⟩
          intro f way sg P hf hR2
          obtain ⟨l1, l2⟩ := hl0 f
          rw [l1, l2, Nat.pow_zero, Nat.mul_one] at hR2
          show isR _ _ _ _ _ _ _
          rw [show (told - behind).toNat = 0 by omega, Nat.pow_zero, Nat.mul_one, show (behind - told).toNat = (told - behind).natAbs by omega]
          exact hR2
      · rw [if_neg (by rw [show (-500 : Int32) = iI (-500) from by decide]; exact fun x => hl ((iI_le (by omega) (by omega) (by omega) (by omega)).mp x)), if_pos (by exact (iI_le (b := 0) (by omega) (by omega) (by omega) (by omega)).mpr (by omega))]
        exact hext false (fun f way sg hf => rdP_tiny hf hhi hV0 (by omega))
