/-! reading: the class's value -/
theorem rdI_ne {sx : Bool} {V many behind k : Nat} (h : rdI sx V many behind k) (hV : V ≠ 0) : 0 < many := by
  apply Nat.pos_of_ne_zero
  intro e
  subst e
  have := h.1
  rw [Nat.pow_zero] at this
  omega
theorem bl_ten {v k : Nat} (h : v ≤ 10 ^ k) : bl v ≤ 4 * k + 1 := by
  apply bl_le_of_lt
  refine Nat.lt_of_le_of_lt (Nat.le_trans h (Nat.pow_le_pow_left (by decide : 10 ≤ 16) k)) ?_
  rw [show (16 : Nat) = 2 ^ 4 from rfl, ← Nat.pow_mul]
  exact Nat.pow_lt_pow_right (by decide) (by omega)
theorem bl_five {k : Nat} : bl (5 ^ k) ≤ 3 * k + 1 := by
  apply bl_le_of_lt
  refine Nat.lt_of_le_of_lt (Nat.pow_le_pow_left (by decide : 5 ≤ 8) k) ?_
  rw [show (8 : Nat) = 2 ^ 3 from rfl, ← Nat.pow_mul]
  exact Nat.pow_lt_pow_right (by decide) (by omega)
theorem bl_five' {k : Nat} (hk : k ≤ 1700) : bl (5 ^ k) ≤ 4800 := by
  apply bl_le_of_lt
  refine Nat.lt_of_le_of_lt (Nat.pow_le_pow_right (by decide : 0 < 5) hk) ?_
  decide +kernel
theorem x0_valueOf {n f way sg g e V many behind : Nat} {told : Int} {T : Nat → Int32} (hT : tpOK n T) (sx : Bool) (hg : g ≤ e) (he : e ≤ n) (hV : V = rdV sx T n g (e - g)) (hI : rdI sx V many behind (e - g)) (ht1 : -1000000 < told) (ht2 : told < 1000000) (hf : f ≤ 1) (hs : sg ≤ 1) (hw : way < 4) (ls : Int32) (ll : Nat → Int64) (rs : Int32) (rl : Nat → Int64) :
    ∃ P s L s2 L2, f_X0_valueOf (uI n) (uI sg) 2 (bI sx) (uI behind) (uI many) (iI told) (uI g) (uI e) T (uI f) (uI way) ls ll rs rl = some (uL P, s, L, s2, L2) ∧ rdP f way sg sx V behind told P := by
  have hn := hT.1
  have hm := hI.2.2.1
  have hbh := hI.2.2.2
  obtain ⟨s1, L1, h1, h2⟩ := x7_gather hT sx hg he ls ll
  rw [← hV] at h2
  have hbV : bl V ≤ 4800 := by rw [hV]; exact rdV_room sx T n g (by omega)
  have hB55 : ∃ s L s2 L2, f_X0_valueOf_B55 (uI n) (uI sg) 2 (bI sx) (uI behind) (uI many) (iI told) (uI g) (uI e) T (uI f) (uI way) s1 L1 rs rl = some (uL (rcP f way sg V (told - 4 * behind) false), s, L, s2, L2) := by
    unfold f_X0_valueOf_B55
    have h3 := x0_rounded (sg := sg) (x := told - 4 * behind) false h2 hf hs hw (by omega) (by omega)
    have h4 : f_X0_rounded s1 L1 (uI sg) (iI (told - 4 * behind)) (0 : Int32) (uI f) (uI way) = _ := h3
    rw [show (4 : Int32) * uI behind = iI (4 * behind) from iI_mul 4 behind, iI_sub, h4, Option.bind_some]
    exact ⟨_, _, _, _, rfl⟩
  unfold f_X0_valueOf
  rw [if_neg (by decide), if_neg (by decide), h1, Option.bind_some, x4_isN h2, Option.bind_some]
  by_cases hV0 : V = 0
  · rw [if_pos hV0, if_neg (by decide)]
    obtain ⟨s, L, s2, L2, h5⟩ := hB55
    refine ⟨_, s, L, s2, L2, h5, ?_⟩
    rw [hV0, rcP_zero]
    exact rdP_nought hf
  · rw [if_neg hV0, if_pos (by rfl)]
    cases sx
    · have hm0 := rdI_ne hI hV0
      have hlo : 10 ^ (many - 1) ≤ V := hI.2.1 hm0
      have hhi : V < 10 ^ many := hI.1
      rw [if_pos (by rfl)]
      have etop : iI told - uI behind + uI many - 1 = iI (told - behind + many - 1) := by rw [iI_sub, iI_add, wI_1, iI_sub]
      rw [etop, iI_sub]
      have hB119 : ∀ (v5 : Int32) (P : Nat), (0 ≤ v5 → P = tooG f sg way) → (¬ 0 ≤ v5 → P = tinyP f way sg) → ∃ s L s2 L2, f_X0_valueOf_B119 (uI n) (uI sg) 2 (bI false) (uI behind) (uI many) (iI told) (uI g) (uI e) T (uI f) (uI way) v5 s1 L1 rs rl = some (uL P, s, L, s2, L2) := by
        intro v5 P hP1 hP2
        unfold f_X0_valueOf_B119 f_X0_valueOf_B149
        obtain ⟨s3, L3, h5, h6⟩ := x4_take s1 L1 (u := 1) (by decide)
        have h5' : f_X4_take (1 : Int64) s1 L1 = some (s3, L3) := h5
        rw [h5', Option.bind_some]
        have hb1 : bl 1 = 1 := by decide
        by_cases hv : 0 ≤ v5
        · rw [if_pos hv, hP1 hv]
          have h7 := x0_rounded (sg := sg) (x := 5000) false h6 hf hs hw (by omega) (by omega)
          rw [rc_huge hf (by decide) (by rw [hb1]; decide)] at h7
          have h8 : f_X0_rounded s3 L3 (uI sg) (5000 : Int32) (0 : Int32) (uI f) (uI way) = _ := h7
          rw [h8, Option.bind_some]; exact ⟨_, _, _, _, rfl⟩
        · rw [if_neg hv, hP2 hv]
          have h7 := x0_rounded (sg := sg) (x := -5000) false h6 hf hs hw (by omega) (by omega)
          rw [rc_tiny hf (by decide) (by rw [hb1]; decide)] at h7
          have h8 : f_X0_rounded s3 L3 (uI sg) (-5000 : Int32) (0 : Int32) (uI f) (uI way) = some (uL (tinyP f way sg)) := by rw [show (-5000 : Int32) = iI (-5000) from by decide]; exact h7
          rw [h8, Option.bind_some]; exact ⟨_, _, _, _, rfl⟩
      by_cases ht : 400 < told - behind + many - 1
      · rw [if_pos (by exact (iI_lt (a := 400) (by omega) (by omega) (by omega) (by omega)).mpr ht)]
        obtain ⟨s, L, s2, L2, h5⟩ := hB119 (iI (told - behind + many - 1)) (tooG f sg way) (fun _ => rfl) (fun hh => absurd ((iI_le (a := 0) (by omega) (by omega) (by omega) (by omega)).mpr (by omega)) hh)
        exact ⟨_, s, L, s2, L2, h5, rdP_huge hf hlo hm0 (by omega)⟩
      · rw [if_neg (by exact fun x => ht ((iI_lt (a := 400) (by omega) (by omega) (by omega) (by omega)).mp x))]
        by_cases ht2 : -400 ≤ told - behind + many - 1
        · rw [if_pos (by rw [show (-400 : Int32) = iI (-400) from by decide]; exact (iI_le (by omega) (by omega) (by omega) (by omega)).mpr ht2)]
          by_cases hk : told - behind < 0
          · rw [if_pos (by exact (iI_lt (b := 0) (by omega) (by omega) (by omega) (by omega)).mpr hk)]
            obtain ⟨s3, L3, h5, h6⟩ := x4_take rs rl (u := 1) (by decide)
            have h5' : f_X4_take (1 : Int64) rs rl = some (s3, L3) := h5
            have hj : (behind - told).toNat ≤ 1700 := by omega
            have hfive := bl_five' hj
            obtain ⟨s4, L4, h7, h8⟩ := x4_fives (n := (behind - told).toNat) h6 (by omega) (by rw [Nat.one_mul]; exact r32_room hfive)
            rw [Nat.one_mul] at h8
            have h7' : f_X4_scaleByFives (-(iI (told - behind))) s3 L3 = some (s4, L4) := by
              rw [iI_neg, show iI (-(told - behind)) = uI (behind - told).toNat from congrArg iI (by omega)]; exact h7
            obtain ⟨P, s5, L5, s6, L6, h9, h10⟩ := x0_divided (sg := sg) (x := told - behind) h2 h8 hV0 (by have := Nat.pow_pos (n := (behind - told).toNat) (show 0 < 5 by decide); omega) hbV hfive hf hs hw (by omega) (by omega)
            rw [h5', Option.bind_some, h7', Option.bind_some, h9, Option.bind_some]
            exact ⟨P, _, _, _, _, rfl, rdP_down hk h10⟩
          · rw [if_neg (by exact fun x => hk ((iI_lt (b := 0) (by omega) (by omega) (by omega) (by omega)).mp x))]
            have hj : (told - behind).toNat + many ≤ 401 := by omega
            have hprod : V * 5 ^ (told - behind).toNat ≤ 10 ^ 401 := by
              have g1 : V * 5 ^ (told - behind).toNat ≤ 10 ^ many * 10 ^ (told - behind).toNat := Nat.mul_le_mul (Nat.le_of_lt hhi) (Nat.pow_le_pow_left (by decide) _)
              rw [← Nat.pow_add] at g1
              exact Nat.le_trans g1 (Nat.pow_le_pow_right (by decide) (by omega))
            have hbp := bl_ten hprod
            obtain ⟨s4, L4, h7, h8⟩ := x4_fives (n := (told - behind).toNat) h2 (by omega) (r32_room (by omega))
            have h7' : f_X4_scaleByFives (iI (told - behind)) s1 L1 = some (s4, L4) := by
              rw [show iI (told - behind) = uI (told - behind).toNat from congrArg iI (by omega)]; exact h7
            have h9 := x0_rounded (sg := sg) (x := told - behind) false h8 hf hs hw (by omega) (by omega)
            have h9' : f_X0_rounded s4 L4 (uI sg) (iI (told - behind)) (0 : Int32) (uI f) (uI way) = _ := h9
            rw [h7', Option.bind_some, h9', Option.bind_some]
            refine ⟨_, _, _, _, _, rfl, rdP_up (by omega) ?_⟩
            exact rc_isR hf (lnk_exact f _ _) (fun hh => by cases hh)
        · rw [if_neg (by rw [show (-400 : Int32) = iI (-400) from by decide]; exact fun x => ht2 ((iI_le (by omega) (by omega) (by omega) (by omega)).mp x))]
          obtain ⟨s, L, s2, L2, h5⟩ := hB119 (iI (told - behind + many - 1)) (tinyP f way sg) (fun hh => by have := (iI_le (a := 0) (by omega) (by omega) (by omega) (by omega)).mp hh; omega) (fun _ => rfl)
          exact ⟨_, s, L, s2, L2, h5, rdP_tiny hf hhi hV0 (by omega)⟩
    · rw [if_neg (by decide)]
      obtain ⟨s, L, s2, L2, h5⟩ := hB55
      exact ⟨_, s, L, s2, L2, h5, rfl⟩
