/-! the class's rounding is the rounding -/
def lnU (f : Nat) (x : Int) : Nat := (x - fLo f + 1).toNat
def lnD (f : Nat) (x : Int) : Nat := (fLo f - 1 - x).toNat
def lnk (f n : Nat) (x : Int) (rest : Bool) (N D r : Nat) : Prop :=
  (∀ z, D * (z * 2 ^ lnU f x) ^ r ≤ N * (2 ^ lnD f x) ^ r ↔ z ≤ n) ∧ (D * (n * 2 ^ lnU f x) ^ r = N * (2 ^ lnD f x) ^ r ↔ rest = false)
theorem lnk_pos {f n : Nat} {x : Int} {rest : Bool} {N D r : Nat} (h : lnk f n x rest N D r) : 0 < D ∧ 0 < r := by
  constructor
  · apply Nat.pos_of_ne_zero
    intro h0
    have := (h.1 (n + 1)).mp (by rw [h0, Nat.zero_mul]; exact Nat.zero_le _)
    omega
  · apply Nat.pos_of_ne_zero
    intro h0
    subst h0
    have h1 := (h.1 n).mpr (Nat.le_refl _)
    have := (h.1 (n + 1)).mp (by simpa only [Nat.pow_zero] using h1)
    omega
theorem lnk_le {f n : Nat} {x : Int} {rest : Bool} {N D r y z : Nat} (h : lnk f n x rest N D r) (hy : y * 2 ^ lnD f x = z * 2 ^ lnU f x) : D * y ^ r ≤ N ↔ z ≤ n := by
  rw [← h.1 z, ← hy, Nat.mul_pow, ← Nat.mul_assoc]
  exact (Nat.mul_le_mul_right_iff (Nat.pow_pos (Nat.two_pow_pos _))).symm
theorem lnk_eq {f n : Nat} {x : Int} {rest : Bool} {N D r y z : Nat} (h : lnk f n x rest N D r) (hy : y * 2 ^ lnD f x = z * 2 ^ lnU f x) : D * y ^ r = N ↔ (z = n ∧ rest = false) := by
  have hpos := lnk_pos h
  have hp : 0 < (2 ^ lnD f x) ^ r := Nat.pow_pos (Nat.two_pow_pos _)
  have h1 : D * y ^ r = N ↔ D * (z * 2 ^ lnU f x) ^ r = N * (2 ^ lnD f x) ^ r := by
    rw [← hy, Nat.mul_pow, ← Nat.mul_assoc]
    exact (Nat.mul_right_cancel_iff hp).symm
  rw [h1]
  constructor
  · intro he
    have hz : z ≤ n := (h.1 z).mp (by rw [he]; exact Nat.le_refl _)
    have hn : z = n := by
      apply Nat.le_antisymm hz
      apply Nat.le_of_not_lt
      intro hlt
      have h2 := (h.1 (z + 1)).mpr (by omega)
      rw [← he] at h2
      have h3 := Nat.le_of_mul_le_mul_left h2 hpos.1
      have h4 : (z * 2 ^ lnU f x) ^ r < ((z + 1) * 2 ^ lnU f x) ^ r := by
        apply Nat.pow_lt_pow_left
        · exact Nat.mul_lt_mul_of_pos_right (Nat.lt_succ_self z) (Nat.two_pow_pos _)
        · omega
      omega
    subst hn
    exact ⟨rfl, h.2.mp he⟩
  · rintro ⟨rfl, hr⟩
    exact h.2.mpr hr
theorem stE_rcT {f n : Nat} {x : Int} (hn : n ≠ 0) : stE f (rcT f n x) = (rcE f n x - fLo f).toNat ∧ stM f (rcT f n x) = rcM f n x ∧ (rcM f n x < 2 ^ fWd f → rcE f n x = fLo f) := by
  have hm := rcM_lt (f := f) (n := n) (x := x)
  have hq : 0 < 2 ^ fWd f := Nat.two_pow_pos _
  have hlow : rcM f n x < 2 ^ fWd f → rcE f n x = fLo f := by
    intro hlt
    apply Classical.byContradiction
    intro hne
    have hE : rcE f n x = x + bl n - (fWd f + 1) := by unfold rcE at hne ⊢; omega
    have hb := bl_pos hn
    have hble := bl_le hn
    unfold rcM at hlt
    by_cases hc : 0 < rcE f n x - x
    · rw [if_pos hc] at hlt
      have h1 := (Nat.div_lt_iff_lt_mul (Nat.two_pow_pos _)).mp hlt
      rw [← Nat.pow_add] at h1
      have h2 : 2 ^ (fWd f + (rcE f n x - x).toNat) ≤ 2 ^ (bl n - 1) := Nat.pow_le_pow_right (by decide) (by omega)
      omega
    · rw [if_neg hc] at hlt
      have h1 : 2 ^ (bl n - 1) * 2 ^ (x - rcE f n x).toNat ≤ n * 2 ^ (x - rcE f n x).toNat := Nat.mul_le_mul_right _ hble
      rw [← Nat.pow_add] at h1
      have h2 : 2 ^ fWd f ≤ 2 ^ (bl n - 1 + (x - rcE f n x).toNat) := Nat.pow_le_pow_right (by decide) (by omega)
      omega
  refine ⟨?_, ?_, hlow⟩
  · unfold stE rcT
    rw [Nat.add_comm, Nat.add_mul_div_right _ _ hq]
    by_cases hlt : rcM f n x < 2 ^ fWd f
    · rw [Nat.div_eq_of_lt hlt, hlow hlt]; omega
    · have : rcM f n x / 2 ^ fWd f = 1 := by
        rw [Nat.pow_succ] at hm
        apply Nat.le_antisymm
        · apply Nat.le_of_lt_succ; exact Nat.div_lt_of_lt_mul hm
        · exact (Nat.le_div_iff_mul_le hq).mpr (by omega)
      rw [this]; omega
  · unfold stM rcT
    by_cases hlt : rcM f n x < 2 ^ fWd f
    · have e : (rcE f n x - fLo f).toNat = 0 := by rw [hlow hlt]; omega
      rw [e, Nat.zero_mul, Nat.zero_add, if_pos (Nat.div_eq_of_lt hlt)]
    · rw [Nat.pow_succ] at hm
      have h1 : rcM f n x / 2 ^ fWd f = 1 := by
        apply Nat.le_antisymm
        · apply Nat.le_of_lt_succ; exact Nat.div_lt_of_lt_mul hm
        · exact (Nat.le_div_iff_mul_le hq).mpr (by omega)
      have h2 := Nat.div_add_mod (rcM f n x) (2 ^ fWd f)
      rw [h1, Nat.mul_one] at h2
      rw [Nat.add_comm, Nat.add_mul_div_right _ _ hq, h1, if_neg (by omega), Nat.add_mul_mod_self_right]
      omega
theorem stV_rcT {f n : Nat} {x : Int} (hn : n ≠ 0) : stV f (rcT f n x) = rcM f n x * 2 ^ (rcE f n x - fLo f).toNat := by
  unfold stV
  rw [(stE_rcT hn).1, (stE_rcT hn).2.1]
theorem pow_bal {m a b c d : Nat} (h : a + b = c + d) : m * 2 ^ a * 2 ^ b = m * 2 ^ c * 2 ^ d := by
  rw [Nat.mul_assoc, Nat.mul_assoc, ← Nat.pow_add, ← Nat.pow_add, h]
theorem rc_T_lt {f n : Nat} {x : Int} (hf : f ≤ 1) (he : rcE f n x ≤ fLo f + fEx f - 2) : rcT f n x < fInf f := by
  have hm := rcM_lt (f := f) (n := n) (x := x)
  have hE3 : fLo f ≤ rcE f n x := by unfold rcE; omega
  have hex := fEx_cases hf
  unfold rcT fInf
  have h1 : (rcE f n x - fLo f).toNat + 2 ≤ fEx f := by omega
  have h2 := Nat.mul_le_mul_right (2 ^ fWd f) h1
  rw [Nat.add_mul] at h2
  rw [Nat.pow_succ] at hm
  omega
theorem rc_T_ge {f n : Nat} {x : Int} (hn : n ≠ 0) (he : fLo f + fEx f - 2 < rcE f n x) (hf : f ≤ 1) : fInf f ≤ rcT f n x := by
  have hex := fEx_cases hf
  have hm : 2 ^ fWd f ≤ rcM f n x := by
    apply Nat.le_of_not_lt
    intro h
    have := (stE_rcT hn).2.2 h
    omega
  unfold rcT fInf
  have h1 : fEx f ≤ (rcE f n x - fLo f).toNat + 1 := by omega
  have h2 := Nat.mul_le_mul_right (2 ^ fWd f) h1
  rw [Nat.add_mul, Nat.one_mul] at h2
  omega
theorem rcT_par {f n : Nat} {x : Int} : rcT f n x % 2 = rcM f n x % 2 := by
  unfold rcT
  obtain ⟨k, hk⟩ : ∃ k, fWd f = k + 1 := by unfold fWd; split <;> exact ⟨_, rfl⟩
  rw [hk, Nat.pow_succ, ← Nat.mul_assoc]
  omega
theorem stV_mono' {f a b : Nat} (h : a ≤ b) : stV f a ≤ stV f b := by
  by_cases e : a = b
  · rw [e]; exact Nat.le_refl _
  · exact Nat.le_of_lt (stV_mono (by omega))
/-- both flags come out alike -/
theorem rc_core {f way sg n : Nat} {x : Int} {rest : Bool} {N D r : Nat} (h : lnk f n x rest N D r) (hn : n ≠ 0) (hr : rest = true → fWd f + 2 ≤ bl n) :
    isT f N D r (rcT f n x) ∧ outT f way sg N D r (rcT f n x) = rcT f n x + (if gO way sg (rcM f n x % 2 == 1) (rcHalf f n x) (rcMore f n x rest) then 1 else 0) := by
  have hE3 : fLo f ≤ rcE f n x := by unfold rcE; omega
  have hE4 : x + bl n - (fWd f + 1) ≤ rcE f n x := by unfold rcE; omega
  have hse := (stE_rcT (f := f) (x := x) hn).1
  have hsm := (stE_rcT (f := f) (x := x) hn).2.1
  have hsv := stV_rcT (f := f) (x := x) hn
  have hsuc := stV_succ f (rcT f n x)
  have hmid := stMid_eq f (rcT f n x)
  rw [hse] at hsuc hmid
  rw [hsv] at hsuc hmid
  have hy0 : 2 * stV f (rcT f n x) = rcM f n x * 2 ^ ((rcE f n x - fLo f).toNat + 1) := by
    rw [hsv, Nat.pow_succ, Nat.mul_comm 2, Nat.mul_assoc]
  have hy1 : 2 * stV f (rcT f n x + 1) = (rcM f n x + 1) * 2 ^ ((rcE f n x - fLo f).toNat + 1) := by
    rw [hsuc, Nat.pow_succ, Nat.add_mul, Nat.one_mul, ← Nat.mul_assoc]; omega
  have hym : stMid f (rcT f n x) = (2 * rcM f n x + 1) * 2 ^ (rcE f n x - fLo f).toNat := by
    rw [hmid, Nat.add_mul, Nat.one_mul, Nat.mul_assoc]
  by_cases hc : 0 < rcE f n x - x
  · have hz0 : 2 * stV f (rcT f n x) * 2 ^ lnD f x = rcM f n x * 2 ^ (rcE f n x - x).toNat * 2 ^ lnU f x := by
      rw [hy0]; apply pow_bal; unfold lnD lnU; omega
    have hz1 : 2 * stV f (rcT f n x + 1) * 2 ^ lnD f x = (rcM f n x + 1) * 2 ^ (rcE f n x - x).toNat * 2 ^ lnU f x := by
      rw [hy1]; apply pow_bal; unfold lnD lnU; omega
    have hzm : stMid f (rcT f n x) * 2 ^ lnD f x = (2 * rcM f n x + 1) * 2 ^ ((rcE f n x - x).toNat - 1) * 2 ^ lnU f x := by
      rw [hym]; apply pow_bal; unfold lnD lnU; omega
    have hM : rcM f n x = n / 2 ^ (rcE f n x - x).toNat := by unfold rcM; rw [if_pos hc]
    have hc1 : (rcE f n x - x).toNat = (rcE f n x - x).toNat - 1 + 1 := by omega
    -- the parts of n
    have hp0 : 0 < 2 ^ ((rcE f n x - x).toNat - 1) := Nat.two_pow_pos _
    have hd1 := Nat.div_add_mod n (2 ^ ((rcE f n x - x).toNat - 1))
    have hd2 : n % 2 ^ ((rcE f n x - x).toNat - 1) < 2 ^ ((rcE f n x - x).toNat - 1) := Nat.mod_lt _ hp0
    have hM2 : rcM f n x = n / 2 ^ ((rcE f n x - x).toNat - 1) / 2 := by
      rw [hM, hc1, Nat.pow_succ, Nat.div_div_eq_div_mul, Nat.add_sub_cancel]
    have hpow : 2 ^ (rcE f n x - x).toNat = 2 ^ ((rcE f n x - x).toNat - 1) * 2 := by
      conv => lhs; rw [hc1, Nat.pow_succ]
    have hl0 := lnk_le h hz0
    have hl1 := lnk_le h hz1
    have hlm := lnk_le h hzm
    have he0 := lnk_eq h hz0
    have hem := lnk_eq h hzm
    have hhalf : rcHalf f n x = (n / 2 ^ ((rcE f n x - x).toNat - 1) % 2 == 1) := by unfold rcHalf; rw [decide_eq_true hc, Bool.true_and]
    have hmore : rcMore f n x rest = (rest || (n % 2 ^ ((rcE f n x - x).toNat - 1) != 0)) := by unfold rcMore; rw [decide_eq_true hc, Bool.true_and]
    rw [hpow] at hl0 hl1 he0
    rw [hhalf, hmore]
    generalize hP : 2 ^ ((rcE f n x - x).toNat - 1) = P at *
    generalize hQ : n / P = q at *
    generalize hR : n % P = ρ at *
    rw [hM2] at hl0 hl1 hlm he0 hem ⊢
    have e0 : q / 2 * (P * 2) = P * (q / 2 * 2) := by rw [Nat.mul_comm P 2, ← Nat.mul_assoc, Nat.mul_comm]
    have e1 : (q / 2 + 1) * (P * 2) = P * (q / 2 * 2 + 2) := by rw [Nat.mul_comm P 2, ← Nat.mul_assoc, Nat.mul_comm, Nat.add_mul]
    have em : (2 * (q / 2) + 1) * P = P * (q / 2 * 2 + 1) := by rw [Nat.mul_comm, Nat.mul_comm 2]
    rw [e0] at hl0 he0
    rw [e1] at hl1
    rw [em] at hlm hem
    have hq2 : q = q / 2 * 2 ∨ q = q / 2 * 2 + 1 := by omega
    have g0 : P * (q / 2 * 2) ≤ n := by
      have := Nat.mul_le_mul_left P (show q / 2 * 2 ≤ q by omega)
      omega
    have g1 : ¬ P * (q / 2 * 2 + 2) ≤ n := by
      have := Nat.mul_le_mul_left P (show q + 1 ≤ q / 2 * 2 + 2 by omega)
      rw [Nat.mul_add, Nat.mul_one] at this
      omega
    have gm : P * (q / 2 * 2 + 1) ≤ n ↔ q % 2 = 1 := by
      constructor
      · intro hle
        apply Classical.byContradiction
        intro hne
        have hqe : q = q / 2 * 2 := by omega
        rw [Nat.mul_add, Nat.mul_one, ← hqe] at hle
        omega
      · intro ho
        have hqe : q = q / 2 * 2 + 1 := by omega
        rw [← hqe]; omega
    have gq0 : P * (q / 2 * 2) = n ↔ (q % 2 = 0 ∧ ρ = 0) := by
      constructor
      · intro he
        rcases hq2 with g | g
        · rw [← g] at he; exact ⟨by omega, by omega⟩
        · exfalso
          rw [g, Nat.mul_add, Nat.mul_one] at hd1
          omega
      · rintro ⟨ho, hz⟩
        have hqe : q = q / 2 * 2 := by omega
        rw [← hqe]; omega
    have gqm : P * (q / 2 * 2 + 1) = n ↔ (q % 2 = 1 ∧ ρ = 0) := by
      constructor
      · intro he
        rcases hq2 with g | g
        · exfalso
          rw [Nat.mul_add, Nat.mul_one, ← g] at he
          omega
        · rw [← g] at he; exact ⟨by omega, by omega⟩
      · rintro ⟨ho, hz⟩
        have hqe : q = q / 2 * 2 + 1 := by omega
        rw [← hqe]; omega
    refine ⟨⟨hl0.mpr g0, Nat.lt_of_not_le (fun hh => g1 (hl1.mp hh))⟩, ?_⟩
    unfold outT
    have f1 : decide (D * stMid f (rcT f n x) ^ r ≤ N) = (q % 2 == 1) := by
      rw [Bool.eq_iff_iff, decide_eq_true_iff, beq_iff_eq, hlm, gm]
    have f2 : (decide (D * (2 * stV f (rcT f n x)) ^ r ≠ N) && decide (D * stMid f (rcT f n x) ^ r ≠ N)) = (rest || (ρ != 0)) := by
      rw [Bool.eq_iff_iff, Bool.and_eq_true, decide_eq_true_iff, decide_eq_true_iff, Bool.or_eq_true, bne_iff_ne, Ne, he0, Ne, hem, gq0, gqm]
      cases rest
      · have : q % 2 = 0 ∨ q % 2 = 1 := by omega
        constructor
        · rintro ⟨a, b⟩
          right
          intro hz
          rcases this with g | g
          · exact a ⟨⟨g, hz⟩, rfl⟩
          · exact b ⟨⟨g, hz⟩, rfl⟩
        · rintro (a | a)
          · cases a
          · exact ⟨fun b => a b.1.2, fun b => a b.1.2⟩
      · constructor
        · intro _; left; rfl
        · intro _; exact ⟨fun b => absurd b.2 (by decide), fun b => absurd b.2 (by decide)⟩
    rw [f1, f2, rcT_par, hM2]
  · have hrf : rest = false := by
      cases rest
      · rfl
      · have := hr rfl; omega
    have hM : rcM f n x = n * 2 ^ (x - rcE f n x).toNat := by unfold rcM; rw [if_neg hc]
    have hz0 : 2 * stV f (rcT f n x) * 2 ^ lnD f x = n * 2 ^ lnU f x := by
      rw [hy0, hM, Nat.mul_assoc, Nat.mul_assoc, ← Nat.pow_add, ← Nat.pow_add]
      congr 2; unfold lnD lnU; omega
    have he0 := (lnk_eq h hz0).mpr ⟨rfl, hrf⟩
    have hpos := lnk_pos h
    have hlt : ∀ y, 2 * stV f (rcT f n x) < y → N < D * y ^ r := by
      intro y hy
      rw [← he0]
      exact Nat.mul_lt_mul_of_pos_left (Nat.pow_lt_pow_left hy (by omega)) hpos.1
    have hsm2 : stV f (rcT f n x) < stV f (rcT f n x + 1) := stV_mono (Nat.lt_succ_self _)
    refine ⟨⟨Nat.le_of_eq he0, hlt _ (by omega)⟩, ?_⟩
    have hmlt : 2 * stV f (rcT f n x) < stMid f (rcT f n x) := by
      rw [stMid_eq]; have := Nat.two_pow_pos (stE f (rcT f n x)); omega
    have hN := hlt _ hmlt
    unfold outT
    have f1 : decide (D * stMid f (rcT f n x) ^ r ≤ N) = false := by rw [decide_eq_false_iff_not]; omega
    have f2 : decide (D * (2 * stV f (rcT f n x)) ^ r ≠ N) = false := by rw [decide_eq_false_iff_not]; intro hh; exact hh he0
    have f3 : rcHalf f n x = false := by unfold rcHalf; rw [decide_eq_false hc, Bool.false_and]
    have f4 : rcMore f n x rest = false := by unfold rcMore; rw [decide_eq_false hc, Bool.false_and, hrf]; rfl
    rw [f1, f2, f3, f4, rcT_par, Bool.false_and]
theorem gO_none (way sg : Nat) (odd : Bool) : gO way sg odd false false = false := by
  unfold gO; split <;> simp
theorem rc_isR {f way sg n : Nat} {x : Int} {rest : Bool} {N D r : Nat} (hf : f ≤ 1) (h : lnk f n x rest N D r) (hr : rest = true → fWd f + 2 ≤ bl n) : isR f way sg N D r (rcP f way sg n x rest) := by
  have hpos := lnk_pos h
  by_cases hn : n = 0
  · subst hn
    have hrf : rest = false := by
      cases rest
      · rfl
      · have := hr rfl; rw [bl_zero] at this; omega
    have h0 := h.2.mpr hrf
    rw [Nat.zero_mul, Nat.zero_pow hpos.2, Nat.mul_zero] at h0
    have hN : N = 0 := by
      rcases Nat.mul_eq_zero.mp h0.symm with g | g
      · exact g
      · have := Nat.pow_pos (n := r) (Nat.two_pow_pos (lnD f x)); omega
    subst hN
    right
    have hv0 : stV f 0 = 0 := by unfold stV stM; rw [Nat.zero_div, if_pos rfl, Nat.zero_mul]
    have hv1 := stV_succ f 0
    have hp := Nat.two_pow_pos (stE f 0)
    have hinf : 0 < fInf f := by rcases f_cases hf with rfl | rfl <;> decide
    refine ⟨0, hinf, ⟨?_, ?_⟩, ?_⟩
    · rw [hv0, Nat.mul_zero, Nat.zero_pow hpos.2, Nat.mul_zero]; exact Nat.le_refl _
    · exact Nat.mul_pos hpos.1 (Nat.pow_pos (by omega))
    · have ho : outT f way sg 0 D r 0 = 0 := by
        unfold outT
        have f2 : decide (D * (2 * stV f 0) ^ r ≠ 0) = false := by
          rw [decide_eq_false_iff_not, hv0, Nat.mul_zero, Nat.zero_pow hpos.2, Nat.mul_zero]; intro hh; exact hh rfl
        have hm : 0 < stMid f 0 := by rw [stMid_eq]; omega
        have f1 : decide (D * stMid f 0 ^ r ≤ 0) = false := by
          rw [decide_eq_false_iff_not]
          have := Nat.mul_pos hpos.1 (Nat.pow_pos (n := r) hm)
          omega
        rw [f1, f2, Bool.false_and, gO_none]; rfl
      unfold rcP outP
      rw [if_pos rfl, if_neg (by omega), ho, if_neg (by omega)]
  · have hcore := rc_core (way := way) (sg := sg) h hn hr
    unfold rcP
    rw [if_neg hn]
    by_cases he : fLo f + fEx f - 2 < rcE f n x
    · rw [if_pos he]
      left
      refine ⟨?_, rfl⟩
      have h1 := rc_T_ge hn he hf
      have h2 := stV_mono' (f := f) h1
      have h3 := pow_mono (D := D) (r := r) (show 2 * stV f (fInf f) ≤ 2 * stV f (rcT f n x) by omega)
      have := hcore.1.1
      omega
    · rw [if_neg he]
      right
      have hlt := rc_T_lt (f := f) (n := n) (x := x) hf (by omega)
      refine ⟨rcT f n x, hlt, hcore.1, ?_⟩
      unfold outP
      rw [hcore.2, if_neg (show ¬ fInf f ≤ rcT f n x by omega)]
/-- n times 2 to the x itself -/
theorem lnk_exact (f n : Nat) (x : Int) : lnk f n x false (n * 2 ^ lnU f x) (2 ^ lnD f x) 1 := by
  have hu : 0 < 2 ^ lnU f x := Nat.two_pow_pos _
  have hd : 0 < 2 ^ lnD f x := Nat.two_pow_pos _
  constructor
  · intro z
    rw [Nat.pow_one, Nat.pow_one, Nat.mul_comm (2 ^ lnD f x), Nat.mul_le_mul_right_iff hd, Nat.mul_le_mul_right_iff hu]
  · rw [Nat.pow_one, Nat.pow_one, Nat.mul_comm (2 ^ lnD f x)]
    exact ⟨fun _ => rfl, fun _ => rfl⟩
