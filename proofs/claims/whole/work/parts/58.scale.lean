/-! the reference's scale, nextFigure, putRounded -/
def sv (N D : Nat) (t : Int) (m : Nat) (e : Int) : Prop := N * 10 ^ t.toNat * 2 ^ (-e).toNat = D * (m * 2 ^ e.toNat * 10 ^ (-t).toNat)
theorem lim_sc : (2 : Nat) ^ 1074 ≤ 10 ^ 324 := by decide +kernel
theorem lim_sc2 : (10 : Nat) ^ 402 < 1073741824 ^ 519 := by decide +kernel
theorem lim400 : (10 : Nat) ^ 325 ≤ 10 ^ 400 := Nat.pow_le_pow_right (by decide) (by decide)
theorem lim401 {a : Nat} (h : a < 10 ^ 400) : a * 10 < 10 ^ 401 := by
  rw [show 401 = 400 + 1 from rfl, Nat.pow_succ]
  exact Nat.mul_lt_mul_of_pos_right h (by decide)
theorem lim401' {a : Nat} (h : a < 10 ^ 401) : a < 1073741824 ^ 519 ∧ a < 1073741824 ^ 520 := by
  have h1 : a < 1073741824 ^ 519 := Nat.lt_trans h (Nat.lt_trans (Nat.pow_lt_pow_right (by decide) (by decide)) lim_sc2)
  exact ⟨h1, Nat.lt_trans h1 lim30'⟩
theorem x11_sc117 {n0 d0 j : Nat} (mm : Int64) (ee : Int32) {nl : Int32} {nd : Nat → Int32} (hd : 0 < d0) (hN : n0 < 10 ^ 400) (hR : R30 nl nd n0) (hj : j ≤ 324) : ∀ (k i fuel : Nat) (ll : Int32) (ld : Nat → Int32) (dl : Int32) (dd : Nat → Int32), i + k = 400 → k < fuel → d0 * 10 ^ i ≤ n0 → R30 dl dd (d0 * 10 ^ i) → R30 ll ld (d0 * 10 ^ i * 10) →
    ∃ (i' : Nat) (ll' : Int32) (ld' : Nat → Int32) (dl' : Int32) (dd' : Nat → Int32), f_X11_scale_L117 mm ee fuel (iI ((i : Int) - j)) ll ld nl nd dl dd = some (iI ((i' : Int) - j), ll', ld', nl, nd, dl', dd') ∧ i' ≤ 400 ∧ d0 * 10 ^ i' ≤ n0 ∧ n0 < d0 * 10 ^ i' * 10 ∧ R30 dl' dd' (d0 * 10 ^ i') := by
  intro k
  induction k with
  | zero =>
    intro i fuel ll ld dl dd hi hf hle hRd hRl
    exfalso
    rw [show i = 400 by omega] at hle
    have := Nat.mul_le_mul_right (10 ^ 400) hd
    rw [Nat.succ_mul, Nat.zero_mul, Nat.zero_add] at this
    exact Nat.lt_irrefl _ (Nat.lt_of_lt_of_le hN (Nat.le_trans this hle))
  | succ k ih =>
    intro i fuel ll ld dl dd hi hf hle hRd hRl
    obtain ⟨f, rfl, hf'⟩ := ex_succ hf
    rw [f_X11_scale_L117, x10_cmp hR hRl, Option.bind_some]
    by_cases hlt : n0 < d0 * 10 ^ i * 10
    · rw [if_pos (by exact (cmp_iI_lt _ _).mpr hlt)]
      exact ⟨i, _, _, _, _, rfl, by omega, hle, hlt, hRd⟩
    · obtain ⟨s1, D1, g1, g2⟩ := x10_copy hRl dl dd
      have hb := lim401 (Nat.lt_of_le_of_lt (Nat.not_lt.mp hlt) hN)
      obtain ⟨s2, D2, g3, g4⟩ := x10_times hRl (f := 10) (x := 0) (by decide) (by decide) (lim401' hb).2
      have g3' : f_X10_times (10 : Int64) (0 : Int32) ll ld = some (s2, D2) := g3
      have et : iI ((i : Int) - j) + 1 = iI (((i + 1 : Nat) : Int) - j) := by rw [wI_1, iI_add]; exact congrArg iI (by omega)
      rw [if_neg (by exact fun x => hlt ((cmp_iI_lt _ _).mp x)), g1, Option.bind_some, g3', Option.bind_some, et]
      rw [Nat.mul_assoc d0, ← Nat.pow_succ] at g2 g4
      rw [Nat.mul_assoc d0, ← Nat.pow_succ] at hlt
      exact ih (i + 1) f s2 D2 s1 D1 (by omega) (by omega) (Nat.not_lt.mp hlt) g2 g4
theorem x11_sc57 {n0 d0 : Nat} (mm : Int64) (ee : Int32) (hn0 : 0 < n0) (hd : 0 < d0) (hN : n0 < 10 ^ 400) (hD : d0 ≤ 10 ^ 324) (ll : Int32) (ld : Nat → Int32) {dl : Int32} {dd : Nat → Int32} (hRd : R30 dl dd d0) : ∀ (k j fuel : Nat) (nl : Int32) (nd : Nat → Int32), j + k = 324 → k < fuel → (j = 0 ∨ n0 * 10 ^ (j - 1) < d0) → R30 nl nd (n0 * 10 ^ j) →
    ∃ (i' j' : Nat) (ll' : Int32) (ld' : Nat → Int32) (nl' : Int32) (nd' : Nat → Int32) (dl' : Int32) (dd' : Nat → Int32), f_X11_scale_L57 mm ee fuel (iI (-(j : Int))) ll ld nl nd dl dd = some (iI ((i' : Int) - (j' : Nat)), ll', ld', nl', nd', dl', dd') ∧ i' ≤ 400 ∧ j' ≤ 324 ∧ d0 * 10 ^ i' ≤ n0 * 10 ^ j' ∧ n0 * 10 ^ j' < d0 * 10 ^ i' * 10 ∧ R30 nl' nd' (n0 * 10 ^ j') ∧ R30 dl' dd' (d0 * 10 ^ i') ∧ n0 * 10 ^ j' < 10 ^ 400 := by
  have hend : ∀ (j : Nat) (nl : Int32) (nd : Nat → Int32), j ≤ 324 → (j = 0 ∨ n0 * 10 ^ (j - 1) < d0) → R30 nl nd (n0 * 10 ^ j) → d0 ≤ n0 * 10 ^ j → ∃ (i' j' : Nat) (ll' : Int32) (ld' : Nat → Int32) (nl' : Int32) (nd' : Nat → Int32) (dl' : Int32) (dd' : Nat → Int32), f_X11_scale_B95 mm ee (iI (-(j : Int))) ll ld nl nd dl dd = some (iI ((i' : Int) - (j' : Nat)), ll', ld', nl', nd', dl', dd') ∧ i' ≤ 400 ∧ j' ≤ 324 ∧ d0 * 10 ^ i' ≤ n0 * 10 ^ j' ∧ n0 * 10 ^ j' < d0 * 10 ^ i' * 10 ∧ R30 nl' nd' (n0 * 10 ^ j') ∧ R30 dl' dd' (d0 * 10 ^ i') ∧ n0 * 10 ^ j' < 10 ^ 400 := by
    intro j nl nd hj hb hR hle
    have hN2 : n0 * 10 ^ j < 10 ^ 400 := by
      rcases hb with rfl | g
      · rw [Nat.pow_zero, Nat.mul_one]; exact hN
      · by_cases hj0 : j = 0
        · rw [hj0, Nat.pow_zero, Nat.mul_one]; exact hN
        · rw [show j = j - 1 + 1 by omega, Nat.pow_succ, ← Nat.mul_assoc]
          refine Nat.lt_of_lt_of_le (Nat.mul_lt_mul_of_pos_right (Nat.lt_of_lt_of_le g hD) (by decide)) ?_
          rw [← Nat.pow_succ]; exact lim400
    unfold f_X11_scale_B95
    obtain ⟨s1, D1, g1, g2⟩ := x10_copy hRd ll ld
    have hb2 := lim401 (Nat.lt_of_le_of_lt hle hN2)
    obtain ⟨s2, D2, g3, g4⟩ := x10_times g2 (f := 10) (x := 0) (by decide) (by decide) (lim401' hb2).2
    have g3' : f_X10_times (10 : Int64) (0 : Int32) s1 D1 = some (s2, D2) := g3
    obtain ⟨i', a1, a2, a3, a4, q1, q2, q3, q4, q5⟩ := x11_sc117 mm ee (j := j) hd hN2 hR hj 400 0 FU s2 D2 dl dd (by omega) (by rw [hFU]; omega) (by rw [Nat.pow_zero, Nat.mul_one]; exact hle) (by rw [Nat.pow_zero, Nat.mul_one]; exact hRd) (by rw [Nat.pow_zero, Nat.mul_one]; exact g4)
    rw [Int.natCast_zero, Int.zero_sub] at q1
    rw [g1, Option.bind_some, g3', Option.bind_some]
    exact ⟨i', j, _, _, _, _, _, _, q1, q2, hj, q3, q4, hR, q5, hN2⟩
  intro k
  induction k with
  | zero =>
    intro j fuel nl nd hj hf hb hR
    obtain ⟨f, rfl, _⟩ := ex_succ hf
    have hle : d0 ≤ n0 * 10 ^ j := by
      rw [show j = 324 by omega]
      have := Nat.mul_le_mul_right (10 ^ 324) hn0
      rw [Nat.succ_mul, Nat.zero_mul, Nat.zero_add] at this
      exact Nat.le_trans hD this
    rw [f_X11_scale_L57, x10_cmp hR hRd, Option.bind_some, if_pos (by exact (cmp_iI_ge _ _).mpr hle)]
    exact hend j nl nd (by omega) hb hR hle
  | succ k ih =>
    intro j fuel nl nd hj hf hb hR
    obtain ⟨f, rfl, hf'⟩ := ex_succ hf
    rw [f_X11_scale_L57, x10_cmp hR hRd, Option.bind_some]
    by_cases hle : d0 ≤ n0 * 10 ^ j
    · rw [if_pos (by exact (cmp_iI_ge _ _).mpr hle)]
      exact hend j nl nd (by omega) hb hR hle
    · have hb2 := lim401 (Nat.lt_of_lt_of_le (Nat.not_le.mp hle) (Nat.le_trans hD (Nat.pow_le_pow_right (by decide) (by decide))))
      obtain ⟨s2, D2, g3, g4⟩ := x10_times hR (f := 10) (x := 0) (by decide) (by decide) (lim401' hb2).2
      have g3' : f_X10_times (10 : Int64) (0 : Int32) nl nd = some (s2, D2) := g3
      have et : iI (-(j : Int)) - 1 = iI (-((j + 1 : Nat) : Int)) := by rw [wI_1, iI_sub]; exact congrArg iI (by omega)
      rw [if_neg (by exact fun x => hle ((cmp_iI_ge _ _).mp x)), g3', Option.bind_some, et]
      rw [Nat.mul_assoc n0, ← Nat.pow_succ] at g4
      exact ih (j + 1) f s2 D2 (by omega) (by omega) (Or.inr (Nat.not_le.mp hle)) g4
theorem x11_scale {m : Nat} {e : Int} (hm0 : m ≠ 0) (hm : m < 2 ^ 53) (he1 : -1074 ≤ e) (he2 : e ≤ 971) (te ll : Int32) (ld : Nat → Int32) (nl : Int32) (nd : Nat → Int32) (dl : Int32) (dd : Nat → Int32) :
    ∃ t N D ll' ld' nl' nd' dl' dd', f_X11_scale (uL m) (iI e) te ll ld nl nd dl dd = some (iI t, ll', ld', nl', nd', dl', dd') ∧ R30 nl' nd' N ∧ R30 dl' dd' D ∧ 0 < D ∧ D ≤ N ∧ N < D * 10 ∧ N < 10 ^ 400 ∧ sv N D t m e ∧ -324 ≤ t ∧ t ≤ 400 := by
  have key : ∀ (n0 d0 : Nat) nl nd dl dd, n0 = m * 2 ^ e.toNat → d0 = 2 ^ (-e).toNat → n0 < 10 ^ 400 → R30 nl nd n0 → R30 dl dd d0 → ∃ t N D ll' ld' nl' nd' dl' dd', f_X11_scale_L57 (uL m) (iI e) FU (0 : Int32) ll ld nl nd dl dd = some (iI t, ll', ld', nl', nd', dl', dd') ∧ R30 nl' nd' N ∧ R30 dl' dd' D ∧ 0 < D ∧ D ≤ N ∧ N < D * 10 ∧ N < 10 ^ 400 ∧ sv N D t m e ∧ -324 ≤ t ∧ t ≤ 400 := by
    intro n0 d0 nl nd dl dd hn hd hlim hRn hRd
    have hn0 : 0 < n0 := by rw [hn]; exact Nat.mul_pos (Nat.pos_of_ne_zero hm0) (Nat.pow_pos (by decide))
    have hd0 : 0 < d0 := by rw [hd]; exact Nat.pow_pos (by decide)
    have hD : d0 ≤ 10 ^ 324 := by rw [hd]; exact Nat.le_trans (Nat.pow_le_pow_right (by decide) (by omega)) lim_sc
    obtain ⟨i, j, a1, a2, a3, a4, a5, a6, q1, q2, q3, q4, q5, q6, q7, q8⟩ := x11_sc57 (uL m) (iI e) hn0 hd0 hlim hD ll ld hRd 324 0 FU nl nd (by omega) (by rw [hFU]; omega) (Or.inl rfl) (by rw [Nat.pow_zero, Nat.mul_one]; exact hRn)
    have q1' : f_X11_scale_L57 (uL m) (iI e) FU (0 : Int32) ll ld nl nd dl dd = some (iI ((i : Int) - (j : Nat)), a1, a2, a3, a4, a5, a6) := q1
    refine ⟨(i : Int) - j, n0 * 10 ^ j, d0 * 10 ^ i, _, _, _, _, _, _, q1', q6, q7, Nat.mul_pos hd0 (ten_pos i), q4, q5, q8, ?_, by omega, by omega⟩
    unfold sv
    have e1 : 10 ^ j * 10 ^ ((i : Int) - j).toNat = 10 ^ i * 10 ^ (-((i : Int) - j)).toNat := by
      rw [← Nat.pow_add, ← Nat.pow_add]; congr 1; omega
    rw [← hn, ← hd]
    have e2 : n0 * 10 ^ j * 10 ^ ((i : Int) - j).toNat * d0 = n0 * (10 ^ j * 10 ^ ((i : Int) - j).toNat) * d0 := by simp only [Nat.mul_assoc]
    rw [e2, e1]
    simp only [Nat.mul_comm, Nat.mul_left_comm, Nat.mul_assoc]
  unfold f_X11_scale
  obtain ⟨s1, D1, g1, g2⟩ := x10_set nl nd (u := m) (by omega)
  obtain ⟨s2, D2, g3, g4⟩ := x10_set dl dd (u := 1) (by omega)
  have g3' : f_X10_set (1 : Int64) dl dd = some (s2, D2) := g3
  rw [g1, Option.bind_some, g3', Option.bind_some]
  by_cases he : e ≤ 0
  · have hneg : - iI e = uI (-e).toNat := by rw [iI_neg]; exact congrArg iI (by omega)
    have hl2 : 1 * 2 ^ (-e).toNat < 1073741824 ^ 519 := by
      rw [Nat.one_mul]
      exact Nat.lt_of_le_of_lt (Nat.le_trans (Nat.pow_le_pow_right (by decide) (by omega)) lim_sc) (Nat.lt_trans (Nat.pow_lt_pow_right (by decide) (by decide)) lim_sc2)
    obtain ⟨s3, D3, g5, g6⟩ := x10_shift g4 (s := (-e).toNat) (by omega) hl2
    rw [if_pos (by rw [wI_0, iI_le (by omega) (by omega) (by omega) (by omega)]; exact he), hneg, g5, Option.bind_some]
    refine key m (2 ^ (-e).toNat) _ _ _ _ ?_ rfl ?_ g2 ?_
    · rw [show e.toNat = 0 by omega, Nat.pow_zero, Nat.mul_one]
    · exact Nat.lt_of_lt_of_le hm (by decide +kernel)
    · rw [Nat.one_mul] at g6; exact g6
  · obtain ⟨s, rfl⟩ : ∃ s : Nat, e = (s : Int) := ⟨e.toNat, by omega⟩
    have hlim : m * 2 ^ s < 10 ^ 400 := by
      refine Nat.lt_of_le_of_lt ?_ lim_ex3
      exact Nat.mul_le_mul (Nat.le_of_lt hm) (Nat.pow_le_pow_right (by decide) (by omega))
    obtain ⟨s3, D3, g5, g6⟩ := x10_shift g2 (s := s) (by omega) (Nat.lt_trans hlim (Nat.lt_trans (Nat.pow_lt_pow_right (by decide) (by decide)) lim_sc2))
    rw [if_neg (by rw [wI_0, iI_le (by omega) (by omega) (by omega) (by omega)]; exact he), show iI ((s : Nat) : Int) = uI s from rfl, g5, Option.bind_some]
    refine key (m * 2 ^ s) 1 _ _ _ _ (by rw [Int.toNat_natCast]) ?_ hlim g6 g4
    rw [show (-(s : Int)).toNat = 0 by omega, Nat.pow_zero]
theorem x11_nextL {D : Nat} {dl : Int32} {dd : Nat → Int32} (hRd : R30 dl dd D) (hD : 0 < D) : ∀ k v fuel V nl nd, V / D = k → k < fuel → R30 nl nd V →
    ∃ nl' nd', f_X11_nextFigure_L2 dl dd fuel (uI v) nl nd = some (uI (v + k), nl', nd') ∧ R30 nl' nd' (V % D) := by
  intro k
  induction k with
  | zero =>
    intro v fuel V nl nd hV hf hR
    obtain ⟨f, rfl, _⟩ := ex_succ hf
    have hlt : V < D := (Nat.div_eq_zero_iff_lt hD).mp hV
    rw [f_X11_nextFigure_L2, x10_cmp hR hRd, Option.bind_some, if_pos (by exact (cmp_iI_lt _ _).mpr hlt), Nat.mod_eq_of_lt hlt]
    exact ⟨nl, nd, rfl, hR⟩
  | succ k ih =>
    intro v fuel V nl nd hV hf hR
    obtain ⟨f, rfl, hf'⟩ := ex_succ hf
    have hle : D ≤ V := by
      rcases Nat.lt_or_ge V D with g | g
      · rw [Nat.div_eq_of_lt g] at hV; omega
      · exact g
    obtain ⟨s1, D1, g1, g2⟩ := x10_less hR hRd hle
    have h1 : (V - D) / D = k := by
      have := Nat.sub_mul_div V D 1
      rw [Nat.mul_one] at this
      omega
    have h2 : (V - D) % D = V % D := by rw [Nat.mod_eq_sub_mod hle]
    obtain ⟨a, b, q1, q2⟩ := ih (v + 1) f (V - D) s1 D1 h1 (by omega) g2
    rw [f_X11_nextFigure_L2, x10_cmp hR hRd, Option.bind_some, if_neg (by exact fun x => by have := (cmp_iI_lt _ _).mp x; omega), g1, Option.bind_some, uI_succ]
    rw [h2] at q2
    rw [show v + 1 + k = v + (k + 1) by omega] at q1
    exact ⟨a, b, q1, q2⟩
theorem x11_next {D V : Nat} {dl nl : Int32} {dd nd : Nat → Int32} (hRd : R30 dl dd D) (hD : 0 < D) (hR : R30 nl nd V) (hV : V < D * 10) :
    ∃ nl' nd', f_X11_nextFigure dl dd nl nd = some (uI (V / D), nl', nd') ∧ R30 nl' nd' (V % D) := by
  have h10 : V / D < 10 := Nat.div_lt_of_lt_mul hV
  obtain ⟨a, b, q1, q2⟩ := x11_nextL hRd hD (V / D) 0 FU V nl nd rfl (by rw [hFU]; omega) hR
  rw [Nat.zero_add] at q1
  exact ⟨a, b, q1, q2⟩
