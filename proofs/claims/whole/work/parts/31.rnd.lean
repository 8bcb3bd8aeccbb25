/-! steps -/
theorem stV_succ (f t : Nat) : stV f (t + 1) = stV f t + 2 ^ stE f t := by
  unfold stV stM stE
  have hp : 0 < 2 ^ fWd f := Nat.two_pow_pos _
  generalize 2 ^ fWd f = q at *
  by_cases hlast : (t + 1) % q = 0
  · -- the next power
    have h1 := Nat.div_add_mod (t + 1) q
    have h2 := Nat.div_add_mod t q
    have h3 : t % q < q := Nat.mod_lt _ hp
    have hd : (t + 1) / q = t / q + 1 := by
      rw [hlast] at h1
      generalize (t + 1) / q = a at *
      generalize t / q = b at *
      have hab : q * a = q * b + (t % q + 1) := by omega
      have h4 : b < a := by
        apply Nat.lt_of_not_le
        intro h
        have := Nat.mul_le_mul_left q h
        omega
      have h5 : a < b + 2 := by
        apply Nat.lt_of_not_le
        intro h
        have := Nat.mul_le_mul_left q h
        rw [Nat.mul_add] at this
        omega
      omega
    have hm : t % q = q - 1 := by
      rw [hlast, hd, Nat.mul_add] at h1
      omega
    rw [hd, hlast, hm, if_neg (Nat.succ_ne_zero _), Nat.zero_add, Nat.add_sub_cancel]
    by_cases h0 : t / q = 0
    · rw [if_pos h0, h0]
      rw [h0] at h2
      simp only [Nat.pow_zero, Nat.mul_one, Nat.zero_sub]
      omega
    · rw [if_neg h0]
      obtain ⟨k, hk⟩ : ∃ k, t / q = k + 1 := ⟨t / q - 1, (Nat.sub_add_cancel (Nat.pos_of_ne_zero h0)).symm⟩
      rw [hk, Nat.add_sub_cancel, Nat.pow_succ]
      have : q * (2 ^ k * 2) = 2 * q * 2 ^ k := by rw [Nat.mul_comm (2 ^ k), ← Nat.mul_assoc, Nat.mul_comm q]
      rw [this, show q - 1 + q = 2 * q - 1 by omega]
      have h6 : (2 * q - 1) * 2 ^ k + 1 * 2 ^ k = 2 * q * 2 ^ k := by rw [← Nat.add_mul]; congr 1; omega
      omega
  · have h1 := Nat.div_add_mod (t + 1) q
    have h2 := Nat.div_add_mod t q
    have h3 : t % q < q := Nat.mod_lt _ hp
    have h3' : (t + 1) % q < q := Nat.mod_lt _ hp
    have hd : (t + 1) / q = t / q := by
      generalize (t + 1) / q = a at *
      generalize t / q = b at *
      have h4 : b ≤ a := by
        apply Nat.le_of_not_lt
        intro h
        have := Nat.mul_le_mul_left q (show a + 1 ≤ b by omega)
        rw [Nat.mul_add] at this
        omega
      have h5 : a ≤ b := by
        apply Nat.le_of_not_lt
        intro h
        have := Nat.mul_le_mul_left q (show b + 1 ≤ a by omega)
        rw [Nat.mul_add] at this
        omega
      omega
    have hm : (t + 1) % q = t % q + 1 := by rw [hd] at h1; omega
    rw [hd, hm]
    by_cases h0 : t / q = 0
    · rw [if_pos h0, if_pos h0, h0]
      simp only [Nat.pow_zero, Nat.mul_one, Nat.zero_sub]
    · rw [if_neg h0, if_neg h0, show t % q + 1 + q = (t % q + q) + 1 by omega, Nat.add_mul, Nat.one_mul]
theorem stV_mono {f a b : Nat} (h : a < b) : stV f a < stV f b := by
  induction b with
  | zero => omega
  | succ b ih =>
    have h1 := stV_succ f b
    have h2 : 0 < 2 ^ stE f b := Nat.two_pow_pos _
    by_cases e : a = b
    · subst e; omega
    · have := ih (by omega); omega
/-! how a value stands to a step: the value is the r-th root of N by D, in halves of the least step -/
def gLe (N D r y : Nat) : Prop := D * y ^ r ≤ N
def stMid (f t : Nat) : Nat := (2 * stM f t + 1) * 2 ^ stE f t
theorem stMid_eq (f t : Nat) : stMid f t = 2 * stV f t + 2 ^ stE f t := by
  unfold stMid stV
  rw [Nat.add_mul, Nat.one_mul, Nat.mul_assoc]
/-- the pattern without sign that a value is rounded to, or beyond -/
def outT (f way sg N D r t : Nat) : Nat := t + (if gO way sg (t % 2 == 1) (decide (D * stMid f t ^ r ≤ N)) (decide (D * (2 * stV f t) ^ r ≠ N) && decide (D * stMid f t ^ r ≠ N)) then 1 else 0)
def outP (f way sg N D r t : Nat) : Nat := if fInf f ≤ t then tooG f sg way else if fInf f ≤ outT f way sg N D r t then tooG f sg way else pat f sg (outT f way sg N D r t)
/-- t is the step at or below the value (or beyond all) -/
def isT (f N D r t : Nat) : Prop := D * (2 * stV f t) ^ r ≤ N ∧ (N < D * (2 * stV f (t + 1)) ^ r)
def isR (f way sg N D r p : Nat) : Prop := (D * (2 * stV f (fInf f)) ^ r ≤ N ∧ p = tooG f sg way) ∨ (∃ t, t < fInf f ∧ isT f N D r t ∧ p = outP f way sg N D r t)
theorem pow_mono {D r a b : Nat} (h : a ≤ b) : D * a ^ r ≤ D * b ^ r := Nat.mul_le_mul_left _ (Nat.pow_le_pow_left h r)
theorem isT_le {f N D r t u : Nat} (h : isT f N D r t) (hu : D * (2 * stV f u) ^ r ≤ N) : u ≤ t := by
  apply Nat.le_of_not_lt
  intro hlt
  have h1 : stV f (t + 1) ≤ stV f u := by
    by_cases e : t + 1 = u
    · rw [e]; exact Nat.le_refl _
    · exact Nat.le_of_lt (stV_mono (by omega))
  have := pow_mono (D := D) (r := r) (show 2 * stV f (t + 1) ≤ 2 * stV f u by omega)
  have := h.2
  omega
theorem isR_uniq {f way sg N D r p q : Nat} (hp : isR f way sg N D r p) (hq : isR f way sg N D r q) : p = q := by
  rcases hp with ⟨h1, rfl⟩ | ⟨t, ht, h1, rfl⟩
  · rcases hq with ⟨_, rfl⟩ | ⟨u, hu, h2, rfl⟩
    · rfl
    · have := isT_le h2 h1; omega
  · rcases hq with ⟨h2, rfl⟩ | ⟨u, hu, h2, rfl⟩
    · have := isT_le h1 h2; omega
    · have e : t = u := Nat.le_antisymm (isT_le h2 h1.1) (isT_le h1 h2.1)
      rw [e]
theorem outP_lt {f way sg N D r t : Nat} (hf : f ≤ 1) (hs : sg ≤ 1) : ∃ u, u < 2 ^ fTop f ∧ outP f way sg N D r t = pat f sg u := by
  have hi := fInf_lt hf
  unfold outP tooG
  split
  · split
    · exact ⟨_, hi, rfl⟩
    · exact ⟨_, by omega, rfl⟩
  · split
    · split
      · exact ⟨_, hi, rfl⟩
      · exact ⟨_, by omega, rfl⟩
    · exact ⟨_, by omega, rfl⟩
theorem isR_pat {f way sg N D r p : Nat} (hf : f ≤ 1) (hs : sg ≤ 1) (h : isR f way sg N D r p) : ∃ u, u < 2 ^ fTop f ∧ p = pat f sg u := by
  rcases h with ⟨_, rfl⟩ | ⟨t, _, _, rfl⟩
  · have hi := fInf_lt hf
    unfold tooG
    split
    · exact ⟨_, hi, rfl⟩
    · exact ⟨_, by omega, rfl⟩
  · exact outP_lt hf hs
/-! the class: n times 2 to the x, and a rest -/
def rcE (f n : Nat) (x : Int) : Int := max (x + bl n - (fWd f + 1)) (fLo f)
def rcM (f n : Nat) (x : Int) : Nat := if 0 < rcE f n x - x then n / 2 ^ (rcE f n x - x).toNat else n * 2 ^ (x - rcE f n x).toNat
def rcHalf (f n : Nat) (x : Int) : Bool := decide (0 < rcE f n x - x) && (n / 2 ^ ((rcE f n x - x).toNat - 1) % 2 == 1)
def rcMore (f n : Nat) (x : Int) (rest : Bool) : Bool := rest || (decide (0 < rcE f n x - x) && (n % 2 ^ ((rcE f n x - x).toNat - 1) != 0))
def rcT (f n : Nat) (x : Int) : Nat := (rcE f n x - fLo f).toNat * 2 ^ fWd f + rcM f n x
def rcP (f way sg n : Nat) (x : Int) (rest : Bool) : Nat :=
  if n = 0 then pat f sg 0 else if fLo f + fEx f - 2 < rcE f n x then tooG f sg way
  else if fInf f ≤ rcT f n x + (if gO way sg (rcM f n x % 2 == 1) (rcHalf f n x) (rcMore f n x rest) then 1 else 0) then tooG f sg way
  else pat f sg (rcT f n x + (if gO way sg (rcM f n x % 2 == 1) (rcHalf f n x) (rcMore f n x rest) then 1 else 0))
theorem max_iI {a b : Int} (h1 : -2147483648 ≤ a) (h2 : a < 2147483648) (h3 : -2147483648 ≤ b) (h4 : b < 2147483648) : f_J9_max_7cf53 (iI a) (iI b) = some (iI (max a b)) := by
  unfold f_J9_max_7cf53
  by_cases h : a < b
  · rw [if_pos (by exact (iI_lt h1 h2 h3 h4).mpr h)]; congr 2; omega
  · rw [if_neg (by exact fun e => h ((iI_lt h1 h2 h3 h4).mp e))]; congr 2; omega
theorem min_iI {a b : Int} (h1 : -2147483648 ≤ a) (h2 : a < 2147483648) (h3 : -2147483648 ≤ b) (h4 : b < 2147483648) : f_J9_min_7cf53 (iI a) (iI b) = some (iI (min a b)) := by
  unfold f_J9_min_7cf53
  by_cases h : b < a
  · rw [if_pos (by exact (iI_lt h3 h4 h1 h2).mpr h)]; congr 2; omega
  · rw [if_neg (by exact fun e => h ((iI_lt h3 h4 h1 h2).mp e))]; congr 2; omega
/-- the bits kept are below 2 to the precision -/
theorem rcM_lt {f n : Nat} {x : Int} : rcM f n x < 2 ^ (fWd f + 1) := by
  unfold rcM
  have hE : x + bl n - (fWd f + 1) ≤ rcE f n x := by unfold rcE; omega
  have hb := bl_lt n
  by_cases hc : 0 < rcE f n x - x
  · rw [if_pos hc]
    apply Nat.div_lt_of_lt_mul
    rw [← Nat.pow_add]
    exact Nat.lt_of_lt_of_le hb (Nat.pow_le_pow_right (by decide) (by omega))
  · rw [if_neg hc]
    have h1 : n * 2 ^ (x - rcE f n x).toNat < 2 ^ bl n * 2 ^ (x - rcE f n x).toNat := Nat.mul_lt_mul_of_pos_right hb (Nat.two_pow_pos _)
    rw [← Nat.pow_add] at h1
    exact Nat.lt_of_lt_of_le h1 (Nat.pow_le_pow_right (by decide) (by omega))
theorem x0_rounded {s : Int32} {L : Nat → Int64} {n f sg way : Nat} {x : Int} (rest : Bool) (h : R32 s L n) (hf : f ≤ 1) (hs : sg ≤ 1) (hw : way < 4) (hx1 : -10000000 ≤ x) (hx2 : x ≤ 10000000) :
    f_X0_rounded s L (uI sg) (iI x) (bI rest) (uI f) (uI way) = some (uL (rcP f way sg n x rest)) := by
  have hbl : bl n ≤ 5120 := by
    obtain ⟨k, hk, _, hv, _⟩ := h
    have : n < 2 ^ 5120 := by
      refine Nat.lt_of_lt_of_le hv ?_
      rw [q_pow]; exact Nat.pow_le_pow_right (by decide) (by omega)
    exact bl_le_of_lt this
  have hlo := fLo_bd f
  have hwd := wd_lt f
  have hex := fEx_cases hf
  unfold f_X0_rounded
  rw [x4_isN h, Option.bind_some]
  unfold rcP
  by_cases h0 : n = 0
  · rw [if_pos h0, if_pos h0, if_neg (by decide), x2_nought hf hs]; rfl
  · rw [if_neg h0, if_neg h0, if_pos (by first | rfl | decide), x2_precision hf, Option.bind_some, x2_lowest hf, Option.bind_some, x4_bits h, Option.bind_some, iI_add, iI_sub, max_iI (by omega) (by omega) (by omega) (by omega), Option.bind_some, x2_highest hf, Option.bind_some]
    have hE : max (x + ((bl n : Nat) : Int) - ((fWd f + 1 : Nat) : Int)) (fLo f) = rcE f n x := by unfold rcE; omega
    rw [hE]
    have hE1 : rcE f n x ≤ 10005120 := by unfold rcE; omega
    have hE2 : -1074 ≤ rcE f n x := by unfold rcE; omega
    have hE3 : fLo f ≤ rcE f n x := by unfold rcE; omega
    have hE4 : x + bl n - (fWd f + 1) ≤ rcE f n x := by unfold rcE; omega
    have hmlt := rcM_lt (f := f) (n := n) (x := x)
    have hm53 : 2 ^ (fWd f + 1) ≤ 2 ^ 53 := Nat.pow_le_pow_right (by decide) (by omega)
    by_cases hhi : fLo f + fEx f - 2 < rcE f n x
    · rw [if_pos hhi, if_neg (fun e => by
        have := (iI_le (by omega) (by omega) (by omega) (by omega)).mp e
        omega), x2_tooGreat hf hs hw]; rfl
    · rw [if_neg hhi, if_pos (by exact (iI_le (by omega) (by omega) (by omega) (by omega)).mpr (by omega)), iI_sub]
      -- the tail
      have hsz : rcT f n x < 2 ^ 63 - 1 := by
        unfold rcT
        have h1 : (rcE f n x - fLo f).toNat ≤ fEx f - 2 := by omega
        have h2 := Nat.mul_le_mul_right (2 ^ fWd f) h1
        have h3 : (fEx f - 2) * 2 ^ fWd f + 2 ^ (fWd f + 1) ≤ fInf f := by
          unfold fInf
          rw [Nat.pow_succ, Nat.mul_comm (2 ^ fWd f) 2, ← Nat.add_mul, show fEx f - 2 + 2 = fEx f by omega]
          exact Nat.le_refl _
        have h4 := fInf_lt hf
        have h5 : 2 ^ fTop f ≤ 2 ^ 63 := Nat.pow_le_pow_right (by decide) (fTop_le f)
        omega
      have hinf63 := top_t63 hf (fInf_lt hf)
      have tail : ∀ more half : Bool, f_X0_rounded_B142 s L (uI sg) (uI f) (uI way) (uI (fWd f + 1)) (iI (fLo f)) (iI (rcE f n x)) (uL (rcM f n x)) (bI half) (bI more) =
          some (uL (if fInf f ≤ rcT f n x + (if gO way sg (rcM f n x % 2 == 1) half more then 1 else 0) then tooG f sg way else pat f sg (rcT f n x + (if gO way sg (rcM f n x % 2 == 1) half more then 1 else 0)))) := by
        intro more half
        have hB193 : ∀ z : Nat, z < 9223372036854775808 → f_X0_rounded_B193 s L (uI sg) (uI f) (uI way) (uL z) = some (uL (if fInf f ≤ z then tooG f sg way else pat f sg z)) := by
          intro z hz
          unfold f_X0_rounded_B193
          rw [x2_endlessSize hf, Option.bind_some]
          by_cases hlt : z < fInf f
          · have := fInf_lt hf
            rw [if_pos (by exact (uL_clt hz hinf63).mpr hlt), if_neg (by omega), x2_signed hf hs (by omega)]; rfl
          · rw [if_neg (by exact fun e => hlt ((uL_clt hz hinf63).mp e)), if_pos (by omega), x2_tooGreat hf hs hw]; rfl
        have hB177 : ∀ odd : Bool, f_X0_rounded_B177 s L (uI sg) (uI f) (uI way) (bI half) (bI more) (uL (rcT f n x)) (uI way) (uI sg) (bI odd) = some (uL (if fInf f ≤ rcT f n x + (if gO way sg odd half more then 1 else 0) then tooG f sg way else pat f sg (rcT f n x + (if gO way sg odd half more then 1 else 0)))) := by
          intro odd
          unfold f_X0_rounded_B177
          rw [x2_goesOn odd half more hs hw, Option.bind_some]
          cases gO way sg odd half more
          · rw [if_pos (by first | rfl | decide), hB193 _ (by omega)]; rfl
          · rw [if_neg (by decide), show uL (rcT f n x) + (1 : Int64) = uL (rcT f n x + 1) from uL_add _ 1, hB193 _ (by omega)]; rfl
        unfold f_X0_rounded_B142
        have e1 : lsh ((iI (rcE f n x) - iI (fLo f)).toInt64) (uI (fWd f + 1) - (1 : Int32)) + uL (rcM f n x) = uL (rcT f n x) := by
          rw [iI_sub, wd_pred, iI_l (by omega) (by omega)]
          have : rcE f n x - fLo f = (((rcE f n x - fLo f).toNat : Nat) : Int) := by omega
          rw [this, uL_lsh _ (by omega), uL_add]
          unfold rcT
          congr 2
        rw [e1, uL_mask1]
        have hodd : rcM f n x % 2 = 0 ∨ rcM f n x % 2 = 1 := by omega
        rcases hodd with ho | ho
        · rw [ho, if_pos (by exact (uL_cmp0 (by decide)).mpr rfl)]
          exact hB177 false
        · rw [ho, if_neg (fun e => by have := (uL_cmp0 (by decide)).mp e; omega)]
          exact hB177 true
      have hB115 : ∀ half : Bool, f_X0_rounded_B115 s L (uI sg) (bI rest) (uI f) (uI way) (uI (fWd f + 1)) (iI (fLo f)) (iI (rcE f n x)) (iI (rcE f n x - x)) (uL (rcM f n x)) (bI half) =
          some (uL (if fInf f ≤ rcT f n x + (if gO way sg (rcM f n x % 2 == 1) half (rcMore f n x rest) then 1 else 0) then tooG f sg way else pat f sg (rcT f n x + (if gO way sg (rcM f n x % 2 == 1) half (rcMore f n x rest) then 1 else 0)))) := by
        intro half
        unfold f_X0_rounded_B115 f_X0_rounded_B137 f_X0_rounded_B141 rcMore
        cases rest
        · rw [if_pos (by first | rfl | decide), Bool.false_or]
          by_cases hc : 0 < rcE f n x - x
          · have e2 : iI (rcE f n x - x) - (1 : Int32) = uI ((rcE f n x - x).toNat - 1) := by rw [wI_1, iI_sub]; congr 1; omega
            rw [if_neg (by rw [wI_0, iI_le (by omega) (by omega) (by omega) (by omega)]; omega), e2, x4_any h (by omega), Option.bind_some, decide_eq_true hc, Bool.true_and]
            by_cases hz : n % 2 ^ ((rcE f n x - x).toNat - 1) = 0
            · rw [if_pos hz, if_pos (by first | rfl | decide), hz]; exact tail false half
            · rw [if_neg hz, if_neg (by decide), bne_iff_ne.mpr hz]; exact tail true half
          · rw [if_pos (by rw [wI_0, iI_le (by omega) (by omega) (by omega) (by omega)]; omega), decide_eq_false hc, Bool.false_and]
            exact tail false half
        · rw [if_neg (by decide), Bool.true_or]
          exact tail true half
      have hB92 : f_X0_rounded_B92 s L (uI sg) (bI rest) (uI f) (uI way) (uI (fWd f + 1)) (iI (fLo f)) (iI (rcE f n x)) (iI (rcE f n x - x)) (uL (rcM f n x)) =
          some (uL (if fInf f ≤ rcT f n x + (if gO way sg (rcM f n x % 2 == 1) (rcHalf f n x) (rcMore f n x rest) then 1 else 0) then tooG f sg way else pat f sg (rcT f n x + (if gO way sg (rcM f n x % 2 == 1) (rcHalf f n x) (rcMore f n x rest) then 1 else 0)))) := by
        unfold f_X0_rounded_B92 f_X0_rounded_B114 rcHalf
        by_cases hc : 0 < rcE f n x - x
        · have e2 : iI (rcE f n x - x) - (1 : Int32) = uI ((rcE f n x - x).toNat - 1) := by rw [wI_1, iI_sub]; congr 1; omega
          rw [if_neg (by rw [wI_0, iI_le (by omega) (by omega) (by omega) (by omega)]; omega), e2, x4_bit h (by omega), Option.bind_some, decide_eq_true hc, Bool.true_and]
          have hb : n / 2 ^ ((rcE f n x - x).toNat - 1) % 2 = 0 ∨ n / 2 ^ ((rcE f n x - x).toNat - 1) % 2 = 1 := by omega
          rcases hb with hb | hb
          · rw [hb, if_pos (by first | rfl | decide)]; exact hB115 false
          · rw [hb, if_neg (by decide)]; exact hB115 true
        · rw [if_pos (by rw [wI_0, iI_le (by omega) (by omega) (by omega) (by omega)]; omega), decide_eq_false hc, Bool.false_and]
          exact hB115 false
      by_cases hc : 0 < rcE f n x - x
      · have e3 : iI (rcE f n x - x) = uI (rcE f n x - x).toNat := by congr 1; omega
        have hq : n / 2 ^ (rcE f n x - x).toNat = rcM f n x := by unfold rcM; rw [if_pos hc]
        rw [if_neg (by rw [wI_0, iI_le (by omega) (by omega) (by omega) (by omega)]; omega)]
        have hbf := x4_bitsFrom (i := (rcE f n x - x).toNat) h (by omega) (by rw [hq]; omega)
        rw [hq, ← e3] at hbf
        rw [hbf, Option.bind_some]
        exact hB92
      · have hq : n * 2 ^ (x - rcE f n x).toNat = rcM f n x := by unfold rcM; rw [if_neg hc]
        have hn64 : n / 2 ^ 0 < 18446744073709551616 := by
          rw [Nat.pow_zero, Nat.div_one]
          have := Nat.le_mul_of_pos_right n (Nat.two_pow_pos (x - rcE f n x).toNat)
          omega
        have hbf := x4_bitsFrom (i := 0) h (by omega) hn64
        rw [Nat.pow_zero, Nat.div_one] at hbf
        have hbf' : f_X4_bitsFrom s L (0 : Int32) = some (uL n) := hbf
        have hsh : (x - rcE f n x).toNat < 64 := by
          have := bl_pos h0
          omega
        have e4 : -iI (rcE f n x - x) = uI (x - rcE f n x).toNat := by rw [iI_neg]; congr 1; omega
        rw [if_pos (by rw [wI_0, iI_le (by omega) (by omega) (by omega) (by omega)]; omega), hbf', Option.bind_some, e4, uL_lsh _ hsh, hq]
        exact hB92
