/-! reading: the figures gathered by the class -/
theorem rdV_lt (sx : Bool) (T : Nat → Int32) (n g : Nat) : ∀ k, rdV sx T n g k < (if sx then 16 else 10) ^ k := by
  intro k
  induction k with
  | zero => rw [rdV, Nat.pow_zero]; decide
  | succ k ih =>
    have hb := bs_bd sx
    have hfb := fig_bd sx (atI T n (g + k))
    have hd : (figI sx (atI T n (g + k))).toNat < (if sx then 16 else 10) := by
      cases sx
      · have := hfb.2.2.1 rfl; show _ < 10; omega
      · show _ < 16; omega
    rw [rdV, Nat.pow_succ]
    generalize (if sx then 16 else 10 : Nat) = B at *
    have := Nat.mul_le_mul_right B ih
    rw [Nat.succ_mul] at this
    split
    · omega
    · have : rdV sx T n g k * 1 ≤ rdV sx T n g k * B := Nat.mul_le_mul_left _ (by omega)
      omega
theorem rdV_room (sx : Bool) (T : Nat → Int32) (n g : Nat) {k : Nat} (hk : k ≤ 1200) : bl (rdV sx T n g k) ≤ 4800 := by
  apply bl_le_of_lt
  have hb := bs_bd sx
  have h1 := rdV_lt sx T n g k
  generalize (if sx then 16 else 10 : Nat) = B at *
  refine Nat.lt_of_lt_of_le h1 (Nat.le_trans (Nat.pow_le_pow_left hb.2 k) ?_)
  rw [show (16 : Nat) = 2 ^ 4 from rfl, ← Nat.pow_mul]
  exact Nat.pow_le_pow_right (by decide) (by omega)
theorem r32_room {v : Nat} (h : bl v ≤ 4800) : v < 4294967296 ^ 160 := by
  have h1 := lt_of_bl_le h
  refine Nat.lt_of_lt_of_le h1 ?_
  rw [q_pow]; exact Nat.pow_le_pow_right (by decide) (by decide)
theorem x7_gatherL {n : Nat} {T : Nat → Int32} (hT : tpOK n T) (sx : Bool) {g e : Nat} (he : e ≤ n) (bg : Int32) :
    ∀ k i fuel A c m sz L, i + k = e → g ≤ i → k < fuel → R32 sz L A → c < m → 0 < m → m < 268435456 → rdV sx T n g (i - g) = A * m + c →
    ∃ s' L', f_X7_gather_L31 (uI n) (bI sx) bg (uI e) T fuel (uI (if sx then 16 else 10)) (uL c) (uL m) (uI i) sz L = some (s', L') ∧ R32 s' L' (rdV sx T n g (e - g)) := by
  have hn := hT.1
  intro k
  induction k with
  | zero =>
    intro i fuel A c m sz L hk hg hf hR hc hm0 hm hV
    obtain ⟨m1, rfl, _⟩ := ex_succ hf
    have hie : i = e := by omega
    subst hie
    rw [f_X7_gather_L31, if_pos (by exact (uI_le (by omega) (by omega)).mpr (Nat.le_refl _))]
    unfold f_X7_gather_B96
    obtain ⟨s', L', h1, h2⟩ := x4_scale (f := m) (x := c) hR (by omega) (by omega) (by rw [← hV]; exact r32_room (rdV_room sx T n g (by omega)))
    rw [h1, Option.bind_some, hV]
    exact ⟨s', L', rfl, h2⟩
  | succ k ih =>
    intro i fuel A c m sz L hk hg hf hR hc hm0 hm hV
    obtain ⟨m1, rfl, hm1⟩ := ex_succ hf
    have hfb := fig_bd sx (atI T n i)
    have hb := bs_bd sx
    have hii : g + (i - g) = i := by omega
    have e1 : i + 1 - g = (i - g) + 1 := by omega
    rw [f_X7_gather_L31, if_neg (by exact fun x => by have := (uI_le (by omega) (by omega)).mp x; omega), x7_fig hT sx (by omega), Option.bind_some]
    have hnext : ∀ c' m' : Nat, c' < m' → 0 < m' → m' < 4294967296 → rdV sx T n g (i + 1 - g) = A * m' + c' →
        ∃ s' L', f_X7_gather_B69 (uI n) (bI sx) bg (uI e) T (f_X7_gather_L31 (uI n) (bI sx) bg (uI e) T m1) (uI (if sx then 16 else 10)) (uL c') (uL m') (uI i) sz L = some (s', L') ∧ R32 s' L' (rdV sx T n g (e - g)) := by
      intro c' m' hc' hm0' hm' hV'
      unfold f_X7_gather_B69
      by_cases hlt : m' < 268435456
      · rw [if_pos (by exact (lgc_lt _ _).mpr ((uL_lt (b := 268435456) (by omega) (by omega)).mpr hlt)), uI_succ]
        exact ih (i + 1) m1 A c' m' sz L (by omega) (by omega) (by omega) hR hc' hm0' hlt hV'
      · rw [if_neg (by exact fun x => hlt ((uL_lt (b := 268435456) (by omega) (by omega)).mp ((lgc_lt _ _).mp x)))]
        obtain ⟨s2, L2, h1, h2⟩ := x4_scale (f := m') (x := c') hR (by omega) (by omega) (by rw [← hV']; exact r32_room (rdV_room sx T n g (by omega)))
        rw [h1, Option.bind_some, uI_succ]
        exact ih (i + 1) m1 (A * m' + c') 0 1 s2 L2 (by omega) (by omega) (by omega) h2 (by omega) (by omega) (by omega) (by rw [hV', Nat.mul_one, Nat.add_zero])
    by_cases hfig : 0 ≤ figI sx (atI T n i)
    · obtain ⟨d, hd⟩ : ∃ d : Nat, figI sx (atI T n i) = (d : Int) := ⟨(figI sx (atI T n i)).toNat, by omega⟩
      have hd16 : d < (if sx then 16 else 10) := by
        cases sx
        · have := hfb.2.2.1 rfl; show d < 10; omega
        · show d < 16; omega
      have hV' : rdV sx T n g (i + 1 - g) = rdV sx T n g (i - g) * (if sx then 16 else 10) + d := by
        rw [e1, rdV, hii, hd, if_pos (c := (0 : Int) ≤ (d : Int)) (by omega)]; rfl
      rw [hd, if_neg (by exact uI_nneg (by omega)), uI_toL (by omega), uI_toL (by omega), uL_mul, uL_mul, uL_add]
      rw [hV] at hV'
      generalize hB : (if sx then 16 else 10 : Nat) = B at *
      have hcm : c * B + d < m * B := by
        have := Nat.mul_le_mul_right B hc
        rw [Nat.succ_mul] at this
        omega
      have hmB : m * B ≤ m * 16 := Nat.mul_le_mul_left _ hb.2
      exact hnext (c * B + d) (m * B) hcm (by omega) (by omega) (by rw [hV', Nat.add_mul, Nat.mul_assoc, Nat.add_assoc])
    · rw [if_pos (by exact (iI_lt (b := 0) (by omega) (by omega) (by omega) (by omega)).mpr (by omega))]
      exact hnext c m hc hm0 (by omega) (by rw [e1, rdV, hii, if_neg hfig]; exact hV)
theorem x7_gather {n : Nat} {T : Nat → Int32} (hT : tpOK n T) (sx : Bool) {g e : Nat} (hg : g ≤ e) (he : e ≤ n) (sz : Int32) (L : Nat → Int64) :
    ∃ s' L', f_X7_gather (uI n) (bI sx) (uI g) (uI e) T sz L = some (s', L') ∧ R32 s' L' (rdV sx T n g (e - g)) := by
  have hn := hT.1
  obtain ⟨s1, L1, h1, h2⟩ := x4_take sz L (u := 0) (by decide)
  have h1' : f_X4_take (0 : Int64) sz L = some (s1, L1) := h1
  obtain ⟨s', L', h3, h4⟩ := x7_gatherL (g := g) hT sx he (uI g) (e - g) g FU 0 0 1 s1 L1 (by omega) (by omega) (by rw [hFU]; omega) h2 (by omega) (by omega) (by omega) (by rw [Nat.sub_self]; rfl)
  refine ⟨s', L', ?_, h4⟩
  unfold f_X7_gather f_X7_gather_B14
  rw [h1']
  simp only [Option.bind_some]
  cases sx
  · rw [if_pos (by rfl)]; exact h3
  · rw [if_neg (by decide)]; exact h3
