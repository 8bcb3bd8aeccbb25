/-! far too great, far too small -/
def tinyP (f way sg : Nat) : Nat := pat f sg (if gO way sg false false true then 1 else 0)
theorem stV_zero (f : Nat) : stV f 0 = 0 := by unfold stV stM; rw [Nat.zero_div, if_pos rfl, Nat.zero_mul]
theorem stV_one (f : Nat) : stV f 1 = 1 := by
  have : 1 / 2 ^ fWd f = 0 := Nat.div_eq_of_lt (by unfold fWd; split <;> decide)
  unfold stV stM stE
  rw [this, if_pos rfl]
theorem stMid_zero (f : Nat) : stMid f 0 = 1 := by rw [stMid_eq, stV_zero]; unfold stE; rw [Nat.zero_div]
theorem inf_bd {f : Nat} (hf : f ≤ 1) : 2 * stV f (fInf f) ≤ 2 ^ (1024 + (1 - fLo f).toNat) ∧ 1 < fInf f ∧ (1 - fLo f).toNat ≤ 1075 := by
  rcases f_cases hf with rfl | rfl
  · refine ⟨?_, by decide, by decide⟩
    have e1 : stV 0 (fInf 0) = 2 ^ 23 * 2 ^ 254 := by decide +kernel
    rw [e1, ← Nat.pow_add, ← Nat.pow_succ']
    exact Nat.pow_le_pow_right (by decide) (by decide)
  · refine ⟨?_, by decide, by decide⟩
    have e1 : stV 1 (fInf 1) = 2 ^ 52 * 2 ^ 2046 := by decide +kernel
    rw [e1, ← Nat.pow_add, ← Nat.pow_succ']
    exact Nat.pow_le_pow_right (by decide) (by decide)
theorem isR_huge {f way sg N D P : Nat} (hf : f ≤ 1) (h : isR f way sg N D 1 P) (hN : D * 2 ^ (1024 + (1 - fLo f).toNat) ≤ N) : P = tooG f sg way := by
  have hb := (inf_bd hf).1
  have h1 : D * (2 * stV f (fInf f)) ≤ N := Nat.le_trans (Nat.mul_le_mul_left _ hb) hN
  rcases h with ⟨_, h2⟩ | ⟨t, h2, h3, h4⟩
  · exact h2
  · exfalso
    have h5 := h3.2
    rw [Nat.pow_one] at h5
    have h6 := stV_mono' (f := f) (show t + 1 ≤ fInf f by omega)
    have h7 : D * (2 * stV f (t + 1)) ≤ D * (2 * stV f (fInf f)) := Nat.mul_le_mul_left _ (by omega)
    omega
theorem isR_tiny {f way sg N D P : Nat} (hf : f ≤ 1) (h : isR f way sg N D 1 P) (h0 : 0 < N) (hN : N < D) : P = tinyP f way sg := by
  have hb := inf_bd hf
  have hmono : ∀ t, 0 < t → N < D * (2 * stV f t) ^ 1 := by
    intro t ht
    have h6 := stV_mono' (f := f) (show 1 ≤ t by omega)
    rw [stV_one] at h6
    have h7 : D * 1 ≤ D * (2 * stV f t) := Nat.mul_le_mul_left _ (by omega)
    rw [Nat.pow_one]
    omega
  rcases h with ⟨h2, _⟩ | ⟨t, h2, h3, h4⟩
  · have := hmono (fInf f) (by omega)
    rw [Nat.pow_one] at this
    exfalso
    have h8 : D * (2 * stV f (fInf f)) ^ 1 ≤ N := h2
    rw [Nat.pow_one] at h8
    omega
  · have ht0 : t = 0 := by
      apply Nat.eq_zero_of_not_pos
      intro hp
      have := hmono t hp
      have := h3.1
      omega
    subst ht0
    have e : outT f way sg N D 1 0 = (if gO way sg false false true then 1 else 0) := by
      unfold outT
      rw [stMid_zero, stV_zero, Nat.pow_one, Nat.pow_one, Nat.mul_one, Nat.mul_zero, decide_eq_false (by omega : ¬ D ≤ N), decide_eq_true (by omega : 0 ≠ N), decide_eq_true (by omega : D ≠ N), Nat.zero_add]
      rfl
    rw [h4]
    unfold outP
    rw [if_neg (by omega), e, if_neg (by split <;> omega)]
    rfl
theorem rc_huge {f way sg V : Nat} {x : Int} (hf : f ≤ 1) (hV : V ≠ 0) (h : 2500 < (bl V : Int) + x) : rcP f way sg V x false = tooG f sg way := by
  have hlo := fLo_bd f
  refine isR_huge hf (rc_isR hf (lnk_exact f V x) (fun hh => by cases hh)) ?_
  have h1 := bl_le hV
  have h2 := bl_pos hV
  refine Nat.le_trans ?_ (Nat.mul_le_mul_right _ h1)
  rw [← Nat.pow_add, ← Nat.pow_add]
  apply Nat.pow_le_pow_right (by decide)
  unfold lnU lnD
  omega
theorem rc_tiny {f way sg V : Nat} {x : Int} (hf : f ≤ 1) (hV : V ≠ 0) (h : (bl V : Int) + x < -2500) : rcP f way sg V x false = tinyP f way sg := by
  have hlo := fLo_bd f
  have h2 := bl_pos hV
  refine isR_tiny hf (rc_isR hf (lnk_exact f V x) (fun hh => by cases hh)) (Nat.mul_pos (by omega) (Nat.two_pow_pos _)) ?_
  have e1 : lnU f x = 0 := by unfold lnU; omega
  rw [e1, Nat.pow_zero, Nat.mul_one]
  refine Nat.lt_of_lt_of_le (bl_lt V) ?_
  apply Nat.pow_le_pow_right (by decide)
  unfold lnD
  omega
theorem isR_scale {f way sg N D c P : Nat} (hc : 0 < c) : isR f way sg (N * c) (D * c) 1 P ↔ isR f way sg N D 1 P := by
  have hle : ∀ y, D * c * y ^ 1 ≤ N * c ↔ D * y ^ 1 ≤ N := by
    intro y
    rw [Nat.mul_right_comm, Nat.mul_le_mul_right_iff hc]
  have heq : ∀ y, D * c * y ^ 1 = N * c ↔ D * y ^ 1 = N := by
    intro y
    rw [Nat.mul_right_comm, Nat.mul_left_inj (show c ≠ 0 by omega)]
  have hlt : ∀ y, N * c < D * c * y ^ 1 ↔ N < D * y ^ 1 := by
    intro y
    rw [← Nat.not_le, hle, Nat.not_le]
  have hO : ∀ t, outT f way sg (N * c) (D * c) 1 t = outT f way sg N D 1 t := by
    intro t
    unfold outT
    simp only [ne_eq, hle, heq]
  have hP : ∀ t, outP f way sg (N * c) (D * c) 1 t = outP f way sg N D 1 t := by
    intro t
    unfold outP
    rw [hO]
  unfold isR isT
  simp only [hle, hlt, hP]
theorem isR_of_huge {f way sg N D : Nat} (hf : f ≤ 1) (hN : D * 2 ^ (1024 + (1 - fLo f).toNat) ≤ N) : isR f way sg N D 1 (tooG f sg way) := by
  left
  refine ⟨?_, rfl⟩
  rw [Nat.pow_one]
  exact Nat.le_trans (Nat.mul_le_mul_left _ (inf_bd hf).1) hN
theorem isR_of_tiny {f way sg N D : Nat} (hf : f ≤ 1) (h0 : 0 < N) (hN : N < D) : isR f way sg N D 1 (tinyP f way sg) := by
  have hb := inf_bd hf
  right
  refine ⟨0, by omega, ⟨by rw [stV_zero]; simp, by rw [Nat.zero_add, stV_one, Nat.pow_one]; omega⟩, ?_⟩
  have e : outT f way sg N D 1 0 = (if gO way sg false false true then 1 else 0) := by
    unfold outT
    rw [stMid_zero, stV_zero, Nat.pow_one, Nat.pow_one, Nat.mul_one, Nat.mul_zero, decide_eq_false (by omega : ¬ D ≤ N), decide_eq_true (by omega : 0 ≠ N), decide_eq_true (by omega : D ≠ N), Nat.zero_add]
    rfl
  unfold outP
  rw [if_neg (by omega), e, if_neg (by split <;> omega)]
  rfl
theorem isR_nought {f way sg D : Nat} (hf : f ≤ 1) (hD : 0 < D) : isR f way sg 0 D 1 (pat f sg 0) := by
  have h := rc_isR (f := f) (way := way) (sg := sg) hf (lnk_exact f 0 (fLo f - 1)) (fun hh => by cases hh)
  have e1 : lnD f (fLo f - 1) = 0 := by unfold lnD; omega
  rw [rcP_zero, Nat.zero_mul, e1, Nat.pow_zero] at h
  have h2 := (isR_scale hD).mpr h
  rw [Nat.zero_mul, Nat.one_mul] at h2
  exact h2
theorem isR_two {f way sg N D N' D' a b P : Nat} (hN : N * 2 ^ a = N' * 2 ^ b) (hD : D * 2 ^ a = D' * 2 ^ b) (h : isR f way sg N D 1 P) : isR f way sg N' D' 1 P := by
  rw [← isR_scale (Nat.two_pow_pos a), hN, hD, isR_scale (Nat.two_pow_pos b)] at h
  exact h
/-- what a read number becomes -/
def rdP (f way sg : Nat) (sx : Bool) (V behind : Nat) (told : Int) (P : Nat) : Prop :=
  if sx then P = rcP f way sg V (told - 4 * behind) false else isR f way sg (V * 10 ^ (told - behind).toNat * 2 ^ (1 - fLo f).toNat) (10 ^ (behind - told).toNat) 1 P
theorem rdP_uniq {f way sg : Nat} {sx : Bool} {V behind : Nat} {told : Int} {P Q : Nat} (h1 : rdP f way sg sx V behind told P) (h2 : rdP f way sg sx V behind told Q) : P = Q := by
  cases sx
  · exact isR_uniq h1 h2
  · exact Eq.trans h1 (Eq.symm h2)
theorem rdP_isP {f way sg : Nat} {sx : Bool} {V behind : Nat} {told : Int} {P : Nat} (hf : f ≤ 1) (hs : sg ≤ 1) (h : rdP f way sg sx V behind told P) : isP f P := by
  cases sx
  · exact isP_isR hf hs h
  · rw [show P = rcP f way sg V (told - 4 * behind) false from h]; exact isP_rcP hf hs
theorem rdP_nought {f way sg : Nat} {sx : Bool} {behind : Nat} {told : Int} (hf : f ≤ 1) : rdP f way sg sx 0 behind told (pat f sg 0) := by
  cases sx
  · show isR _ _ _ _ _ _ _
    rw [Nat.zero_mul, Nat.zero_mul]
    exact isR_nought hf (Nat.pow_pos (by decide))
  · show pat f sg 0 = rcP f way sg 0 _ false
    rw [rcP_zero]
theorem rdP_huge {f way sg V many behind : Nat} {told : Int} (hf : f ≤ 1) (hV : 10 ^ (many - 1) ≤ V) (hm : 0 < many) (h : 402 ≤ (many : Int) + (told - behind)) : rdP f way sg false V behind told (tooG f sg way) := by
  refine isR_of_huge hf ?_
  rw [Nat.pow_add, ← Nat.mul_assoc]
  apply Nat.mul_le_mul_right
  have e1 : (2 : Nat) ^ 1024 ≤ 10 ^ 309 := by decide +kernel
  refine Nat.le_trans (Nat.mul_le_mul_left _ e1) (Nat.le_trans ?_ (Nat.mul_le_mul_right _ hV))
  rw [← Nat.pow_add, ← Nat.pow_add]
  exact Nat.pow_le_pow_right (by decide) (by omega)
theorem rdP_tiny {f way sg V many behind : Nat} {told : Int} (hf : f ≤ 1) (hV : V < 10 ^ many) (hV0 : V ≠ 0) (h : (many : Int) + (told - behind) ≤ -400) : rdP f way sg false V behind told (tinyP f way sg) := by
  have hb := (inf_bd hf).2.2
  have e0 : (told - behind).toNat = 0 := by omega
  show isR _ _ _ _ _ _ _
  rw [e0, Nat.pow_zero, Nat.mul_one]
  refine isR_of_tiny hf (Nat.mul_pos (by omega) (Nat.two_pow_pos _)) ?_
  have e1 : (2 : Nat) ^ 1075 ≤ 10 ^ 324 := by decide +kernel
  have e2 : (2 : Nat) ^ (1 - fLo f).toNat ≤ 10 ^ 324 := Nat.le_trans (Nat.pow_le_pow_right (by decide) hb) e1
  refine Nat.lt_of_le_of_lt (Nat.mul_le_mul_left _ e2) (Nat.lt_of_lt_of_le (Nat.mul_lt_mul_of_pos_right hV (Nat.pow_pos (by decide))) ?_)
  rw [← Nat.pow_add]
  exact Nat.pow_le_pow_right (by decide) (by omega)
theorem ten_pow (k : Nat) : (10 : Nat) ^ k = 5 ^ k * 2 ^ k := by rw [← Nat.mul_pow]
theorem rdP_up {f way sg V behind : Nat} {told : Int} {P : Nat} (hk : 0 ≤ told - behind) (h : isR f way sg (V * 5 ^ (told - behind).toNat * 2 ^ lnU f (told - behind)) (2 ^ lnD f (told - behind)) 1 P) : rdP f way sg false V behind told P := by
  have hlo := fLo_bd f
  have e1 : lnD f (told - behind) = 0 := by unfold lnD; omega
  have e2 : lnU f (told - behind) = (told - behind).toNat + (1 - fLo f).toNat := by unfold lnU; omega
  have e3 : (behind - told).toNat = 0 := by omega
  show isR _ _ _ _ _ _ _
  rw [e1, e2, Nat.pow_zero, Nat.pow_add, ← Nat.mul_assoc, Nat.mul_assoc V, ← ten_pow] at h
  rw [e3, Nat.pow_zero]
  exact h
theorem rdP_down {f way sg V behind : Nat} {told : Int} {P : Nat} (hk : told - behind < 0) (h : isR f way sg (V * 2 ^ lnU f (told - behind)) (5 ^ (behind - told).toNat * 2 ^ lnD f (told - behind)) 1 P) : rdP f way sg false V behind told P := by
  have hlo := fLo_bd f
  have e1 : (told - behind).toNat = 0 := by omega
  have e2 : lnD f (told - behind) + (1 - fLo f).toNat = lnU f (told - behind) + (behind - told).toNat := by unfold lnD lnU; omega
  show isR _ _ _ _ _ _ _
  rw [e1, Nat.pow_zero, Nat.mul_one]
  generalize (behind - told).toNat = j at *
  generalize lnU f (told - behind) = u at *
  generalize lnD f (told - behind) = d at *
  generalize (1 - fLo f).toNat = w at *
  refine isR_two (a := j + w) (b := u + j) ?_ ?_ h
  · rw [Nat.mul_assoc, Nat.mul_assoc, ← Nat.pow_add, ← Nat.pow_add]
    congr 2; omega
  · rw [ten_pow, Nat.mul_assoc, Nat.mul_assoc, ← Nat.pow_add, ← Nat.pow_add]
    congr 2; omega
