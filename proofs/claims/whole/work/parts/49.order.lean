/-! order -/
theorem x8_bits {m : Nat} (hm : m < 2 ^ 53) : f_X8_bits (uL m) = some (uI (bl m)) := by
  unfold f_X8_bits
  have hb : bl m ≤ 53 := bl_le_of_lt hm
  rw [nlz64 (by omega), Option.bind_some, wI_64, iI_sub]
  congr 2; omega
/-- how two numbers stand -/
def ordI (s1 a s2 b : Nat) : Int :=
  if s1 = s2 then (if a = b then 0 else if a < b then (if s2 = 1 then 1 else -1) else (if s1 = 1 then -1 else 1))
  else (if a + b = 0 then 0 else if s1 = 1 then -1 else 1)
theorem x8_sizes {k1 m1 k2 m2 : Nat} {e1 e2 : Int} (hk1 : k1 ≤ 2) (hk2 : k2 ≤ 2) (hm1 : m1 < 2 ^ 53) (hm2 : m2 < 2 ^ 53) (h11 : -1074 ≤ e1) (h12 : e1 ≤ 971) (h21 : -1074 ≤ e2) (h22 : e2 ≤ 971) :
    ∃ c, f_X8_comparedSizes (uI k1) (uL m1) (iI e1) (uI k2) (uL m2) (iI e2) = some (iI c) ∧ -1 ≤ c ∧ c ≤ 1 ∧ (m1 ≠ 0 → m2 ≠ 0 → c = cmpI (m1 * 2 ^ (e1 - min e1 e2).toNat) (m2 * 2 ^ (e2 - min e1 e2).toNat)) := by
  have c3 : ∀ k : Nat, k ≤ 4 → k ≠ 3 → ¬ uI k = (3 : Int32) := fun k h1 h2 x => h2 ((uI_eq (b := 3) (by omega) (by omega)).mp x)
  have hb1 : bl m1 ≤ 53 := bl_le_of_lt hm1
  have hb2 : bl m2 ≤ 53 := bl_le_of_lt hm2
  unfold f_X8_comparedSizes
  rw [if_neg (c3 k1 (by omega) (by omega)), if_neg (c3 k2 (by omega) (by omega)), x8_bits hm1, Option.bind_some, x8_bits hm2, Option.bind_some, iI_add, iI_add]
  by_cases ht : ((bl m1 : Nat) : Int) + e1 = ((bl m2 : Nat) : Int) + e2
  · rw [if_pos (by rw [ht]), Option.bind_some, Option.bind_some, show (63 : Int32) - uI (bl m1) = uI (63 - bl m1) from uI_sub (a := 63) (by omega), show (63 : Int32) - uI (bl m2) = uI (63 - bl m2) from uI_sub (a := 63) (by omega), uL_lsh _ (by omega), uL_lsh _ (by omega)]
    have hu1 : m1 * 2 ^ (63 - bl m1) < 9223372036854775808 := by
      have := bl_shift_le m1 (63 - bl m1)
      exact lt_of_bl_le (k := 63) (by omega)
    have hu2 : m2 * 2 ^ (63 - bl m2) < 9223372036854775808 := by
      have := bl_shift_le m2 (63 - bl m2)
      exact lt_of_bl_le (k := 63) (by omega)
    have hcmp : f_J13_compare_74951 (uL (m1 * 2 ^ (63 - bl m1))) (uL (m2 * 2 ^ (63 - bl m2))) = some (iI (cmpI (m1 * 2 ^ (63 - bl m1)) (m2 * 2 ^ (63 - bl m2)))) := by
      unfold f_J13_compare_74951 cmpI
      generalize m1 * 2 ^ (63 - bl m1) = a at *
      generalize m2 * 2 ^ (63 - bl m2) = b at *
      by_cases hlt : a < b
      · rw [if_neg (by exact fun x => by have := (uL_cge hu1 hu2).mp x; omega), if_pos hlt, wI_m1]
      · rw [if_pos (by exact (uL_cge hu1 hu2).mpr (by omega)), if_neg hlt]
        by_cases heq : a = b
        · rw [if_pos (by exact (uL_ceq (by omega) (by omega)).mpr heq), if_pos heq]; rfl
        · rw [if_neg (by exact fun x => heq ((uL_ceq (by omega) (by omega)).mp x)), if_neg heq]; rfl
    rw [hcmp, Option.bind_some]
    refine ⟨_, rfl, ?_, ?_, fun _ _ => ?_⟩
    · unfold cmpI; split
      · omega
      · split <;> omega
    · unfold cmpI; split
      · omega
      · split <;> omega
    · refine cmpI_scale (c := 2 ^ (bl m1 + (e1 - min e1 e2).toNat)) (c' := 2 ^ 63) (Nat.two_pow_pos _) (Nat.two_pow_pos _) ?_ ?_
      · apply pow_bal; omega
      · apply pow_bal; omega
  · rw [if_neg (by rw [iI_eq (by omega) (by omega) (by omega) (by omega)]; exact ht)]
    by_cases hle : ((bl m2 : Nat) : Int) + e2 ≤ ((bl m1 : Nat) : Int) + e1
    · refine ⟨1, by rw [if_pos (by exact (iI_le (by omega) (by omega) (by omega) (by omega)).mpr hle)]; rfl, by omega, by omega, fun n1 n2 => ?_⟩
      have b1 := bl_mul (k := (e1 - min e1 e2).toNat) n1
      have b2 := bl_mul (k := (e2 - min e1 e2).toNat) n2
      have := bl_lt_imp (a := m2 * 2 ^ (e2 - min e1 e2).toNat) (b := m1 * 2 ^ (e1 - min e1 e2).toNat) (by omega)
      unfold cmpI; rw [if_neg (by omega), if_neg (by omega)]
    · refine ⟨-1, by rw [if_neg (by exact fun x => hle ((iI_le (by omega) (by omega) (by omega) (by omega)).mp x)), wI_m1], by omega, by omega, fun n1 n2 => ?_⟩
      have b1 := bl_mul (k := (e1 - min e1 e2).toNat) n1
      have b2 := bl_mul (k := (e2 - min e1 e2).toNat) n2
      have := bl_lt_imp (a := m1 * 2 ^ (e1 - min e1 e2).toNat) (b := m2 * 2 ^ (e2 - min e1 e2).toNat) (by omega)
      unfold cmpI; rw [if_pos this]
theorem x8_side {k s : Nat} (hk : k ≤ 2) (hs : s ≤ 1) : f_X8_side (uI k) (uI s) = some (iI (if k = 0 then 0 else if s = 0 then 1 else -1)) := by
  have h1 : k = 0 ∨ k = 1 ∨ k = 2 := by omega
  have h2 : s = 0 ∨ s = 1 := by omega
  rcases h1 with rfl | rfl | rfl <;> rcases h2 with rfl | rfl <;> decide
theorem x8_compared {k1 s1 m1 k2 s2 m2 : Nat} {e1 e2 : Int} (h1 : isV k1 s1 m1 e1) (h2 : isV k2 s2 m2 e2) (hk1 : k1 ≤ 2) (hk2 : k2 ≤ 2) :
    f_X8_compared (uI k1) (uI s1) (uL m1) (iI e1) (uI k2) (uI s2) (uL m2) (iI e2) = some (iI (ordI s1 (m1 * 2 ^ (e1 - min e1 e2).toNat) s2 (m2 * 2 ^ (e2 - min e1 e2).toNat))) := by
  obtain ⟨_, hs1, hm1, h11, h12, z1, n1, _⟩ := h1
  obtain ⟨_, hs2, hm2, h21, h22, z2, n2, _⟩ := h2
  have c4 : ∀ k : Nat, k ≤ 4 → k ≠ 4 → ¬ uI k = (4 : Int32) := fun k h1 h2 x => h2 ((uI_eq (b := 4) (by omega) (by omega)).mp x)
  obtain ⟨c, hc, hcl, hcu, hcc⟩ := x8_sizes hk1 hk2 hm1 hm2 h11 h12 h21 h22
  unfold f_X8_compared
  rw [if_neg (c4 k1 (by omega) (by omega)), if_neg (c4 k2 (by omega) (by omega)), x8_side hk1 hs1, Option.bind_some, x8_side hk2 hs2, Option.bind_some]
  have hp1 := Nat.two_pow_pos (e1 - min e1 e2).toNat
  have hp2 := Nat.two_pow_pos (e2 - min e1 e2).toNat
  have hzz1 : k1 = 0 → m1 * 2 ^ (e1 - min e1 e2).toNat = 0 := fun h => by rw [z1 h, Nat.zero_mul]
  have hzz2 : k2 = 0 → m2 * 2 ^ (e2 - min e1 e2).toNat = 0 := fun h => by rw [z2 h, Nat.zero_mul]
  have hnn1 : k1 ≠ 0 → 0 < m1 * 2 ^ (e1 - min e1 e2).toNat := fun h => Nat.mul_pos (Nat.pos_of_ne_zero (n1 (by omega))) hp1
  have hnn2 : k2 ≠ 0 → 0 < m2 * 2 ^ (e2 - min e1 e2).toNat := fun h => Nat.mul_pos (Nat.pos_of_ne_zero (n2 (by omega))) hp2
  have hcc' : k1 ≠ 0 → k2 ≠ 0 → c = cmpI (m1 * 2 ^ (e1 - min e1 e2).toNat) (m2 * 2 ^ (e2 - min e1 e2).toNat) := fun h h' => hcc (n1 (by omega)) (n2 (by omega))
  generalize m1 * 2 ^ (e1 - min e1 e2).toNat = a at *
  generalize m2 * 2 ^ (e2 - min e1 e2).toNat = b at *
  simp only [Option.bind_some, hc]
  by_cases hk10 : k1 = 0
  · have ha := hzz1 hk10
    simp only [if_pos hk10]
    by_cases hk20 : k2 = 0
    · have hb := hzz2 hk20
      simp only [if_pos hk20, if_true]
      rw [iI_mul, Int.zero_mul]
      unfold ordI
      rw [ha, hb]
      split <;> rfl
    · have hb := hnn2 hk20
      simp only [if_neg hk20]
      have hs2c : s2 = 0 ∨ s2 = 1 := by omega
      have hs1c : s1 = 0 ∨ s1 = 1 := by omega
      rcases hs2c with rfl | rfl
      · simp only [if_true, show (iI 0 = iI 1) = False from eq_false (by decide), if_false, show (iI 1 ≤ iI 0) = False from eq_false (by decide)]
        unfold ordI
        rcases hs1c with rfl | rfl
        · rw [if_pos rfl, if_neg (by omega), if_pos (by omega), if_neg (by decide), wI_m1]
        · rw [if_neg (by decide), if_neg (by omega), if_pos rfl, wI_m1]
      · simp only [show ¬ (1 : Nat) = 0 by decide, if_false, show (iI 0 = iI (-1)) = False from eq_false (by decide), show (iI (-1) ≤ iI 0) = True from eq_true (by decide), if_true]
        unfold ordI
        rcases hs1c with rfl | rfl
        · rw [if_neg (by decide), if_neg (by omega), if_neg (by decide)]; rfl
        · rw [if_pos rfl, if_neg (by omega), if_pos (by omega), if_pos rfl]; rfl
  · have ha := hnn1 hk10
    simp only [if_neg hk10]
    by_cases hk20 : k2 = 0
    · have hb := hzz2 hk20
      simp only [if_pos hk20]
      have hs2c : s2 = 0 ∨ s2 = 1 := by omega
      have hs1c : s1 = 0 ∨ s1 = 1 := by omega
      rcases hs1c with rfl | rfl
      · simp only [if_true, show (iI 1 = iI 0) = False from eq_false (by decide), if_false, show (iI 0 ≤ iI 1) = True from eq_true (by decide)]
        unfold ordI
        rcases hs2c with rfl | rfl
        · rw [if_pos rfl, if_neg (by omega), if_neg (by omega), if_neg (by decide)]; rfl
        · rw [if_neg (by decide), if_neg (by omega), if_neg (by decide)]; rfl
      · simp only [show ¬ (1 : Nat) = 0 by decide, if_false, show (iI (-1) = iI 0) = False from eq_false (by decide), show (iI 0 ≤ iI (-1)) = False from eq_false (by decide)]
        unfold ordI
        rcases hs2c with rfl | rfl
        · rw [if_neg (by decide), if_neg (by omega), if_pos rfl, wI_m1]
        · rw [if_pos rfl, if_neg (by omega), if_neg (by omega), if_pos rfl, wI_m1]
    · have hb := hnn2 hk20
      have hcv := hcc' hk10 hk20
      simp only [if_neg hk20]
      have hs2c : s2 = 0 ∨ s2 = 1 := by omega
      have hs1c : s1 = 0 ∨ s1 = 1 := by omega
      rcases hs1c with rfl | rfl
      · rcases hs2c with rfl | rfl
        · simp only [if_true]
          rw [iI_mul, hcv, Int.one_mul]
          unfold ordI cmpI
          rw [if_pos rfl]
          by_cases hlt : a < b
          · rw [if_pos hlt, if_neg (by omega), if_pos hlt, if_neg (by decide)]
          · rw [if_neg hlt]
            by_cases heq : a = b
            · rw [if_pos heq, if_pos heq]
            · rw [if_neg heq, if_neg heq, if_neg hlt, if_neg (by decide)]
        · simp only [if_true, show ¬ (1 : Nat) = 0 by decide, if_false, show (iI 1 = iI (-1)) = False from eq_false (by decide), show (iI (-1) ≤ iI 1) = True from eq_true (by decide)]
          unfold ordI
          rw [if_neg (by decide), if_neg (by omega), if_neg (by decide)]; rfl
      · rcases hs2c with rfl | rfl
        · simp only [if_true, show ¬ (1 : Nat) = 0 by decide, if_false, show (iI (-1) = iI 1) = False from eq_false (by decide), show (iI 1 ≤ iI (-1)) = False from eq_false (by decide)]
          unfold ordI
          rw [if_neg (by decide), if_neg (by omega), if_pos rfl, wI_m1]
        · simp only [show ¬ (1 : Nat) = 0 by decide, if_false, if_true]
          rw [iI_mul, hcv]
          unfold ordI cmpI
          rw [if_pos rfl]
          by_cases hlt : a < b
          · rw [if_pos hlt, if_neg (by omega), if_pos hlt, if_pos rfl]; rfl
          · rw [if_neg hlt]
            by_cases heq : a = b
            · rw [if_pos heq, if_pos heq]; rfl
            · rw [if_neg heq, if_neg heq, if_neg hlt, if_pos rfl]; rfl
theorem k_order {F : Nat → Int32} {G : Nat → Int64} (h : wfp F G) (p1 : Int32) (p2 : Int32) (c_first_kind : Int32) (c_first_minus : Int32) (c_first_m : Int64) (c_first_e : Int32) (c_first_narrowBelow : Int32) (c_second_kind : Int32) (c_second_minus : Int32) (c_second_m : Int64) (c_second_e : Int32) (c_second_narrowBelow : Int32) (r_kind : Int32) (r_minus : Int32) (r_m : Int64) (r_e : Int32) (r_sign : Int32) (r_power : Int32) (r_root : Int32) (r_thrown : Int32) (r_otherSign : Int32) (r_otherPower : Int32) (r_a_len : Int32) (r_a_d : Nat → Int32) (r_b_len : Int32) (r_b_d : Nat → Int32) (r_left_len : Int32) (r_left_d : Nat → Int32) (r_other_len : Int32) (r_other_d : Nat → Int32) :
    ((∃ x, f_X9_order F G p1 p2 c_first_kind c_first_minus c_first_m c_first_e c_first_narrowBelow c_second_kind c_second_minus c_second_m c_second_e c_second_narrowBelow = some (.inl (1, x))) ∧ (∃ v k m l e sg pw rt y, f_X11_order F G p1 p2 r_kind r_minus r_m r_e r_sign r_power r_root r_thrown r_otherSign r_otherPower r_a_len r_a_d r_b_len r_b_d r_left_len r_left_d r_other_len r_other_d = some (v, k, m, l, e, sg, pw, rt, 1, y))) ∨
    (∃ v, (∃ x, f_X9_order F G p1 p2 c_first_kind c_first_minus c_first_m c_first_e c_first_narrowBelow c_second_kind c_second_minus c_second_m c_second_e c_second_narrowBelow = some (.inr (v, x))) ∧ (∃ k m l e sg pw rt y, f_X11_order F G p1 p2 r_kind r_minus r_m r_e r_sign r_power r_root r_thrown r_otherSign r_otherPower r_a_len r_a_d r_b_len r_b_d r_left_len r_left_d r_other_len r_other_d = some (v, k, m, l, e, sg, pw, rt, 0, y))) := by
  rcases pl_cases p1 with ⟨a, ha, rfl, a1, a2⟩ | ⟨a1, a2⟩
  · rcases pl_cases p2 with ⟨b, hb, rfl, b1, b2⟩ | ⟨b1, b2⟩
    · right
      obtain ⟨f1, s1, t1, g1, g2, g3, g4, g5⟩ := h a ha
      obtain ⟨f2, s2, t2, q1, q2, q3, q4, q5⟩ := h b hb
      have hV1 := isV_of g1 g2 g3
      have hV2 := isV_of q1 q2 q3
      have hcl : ∀ v, f_X8_compared (uI (vK f1 t1)) (uI s1) (uL (vM f1 t1)) (iI (vE f1 t1)) (uI (vK f2 t2)) (uI s2) (uL (vM f2 t2)) (iI (vE f2 t2)) = some v → f_X9_order F G (uI a) (uI b) c_first_kind c_first_minus c_first_m c_first_e c_first_narrowBelow c_second_kind c_second_minus c_second_m c_second_e c_second_narrowBelow = some (.inr (v, uI (vK f1 t1), uI s1, uL (vM f1 t1), iI (vE f1 t1), bI (vN f1 t1), uI (vK f2 t2), uI s2, uL (vM f2 t2), iI (vE f2 t2), bI (vN f2 t2))) := by
        intro v hv
        unfold f_X9_order
        simp only [a1, b1, Option.bind_some, sm, Sum.elim_inl, Sum.elim_inr, i00, i10, i20, if_true, if_false, go0, go10, go11, x9_look ha g4 g5 g1 g2 g3, x9_look hb q4 q5 q1 q2 q3, hv]
      obtain ⟨sa, Da, sb, Db, y1, y2, y3⟩ := x11_take (m := vM f1 t1) (by have := hV1.2.2.1; omega) (uI s1) (iI (vE f1 t1)) r_sign r_power r_root r_a_len r_a_d r_b_len r_b_d
      have hrf : f_X11_order F G (uI a) (uI b) r_kind r_minus r_m r_e r_sign r_power r_root r_thrown r_otherSign r_otherPower r_a_len r_a_d r_b_len r_b_d r_left_len r_left_d r_other_len r_other_d = f_X11_order_B20 F G (uI a) (uI b) 1 r_kind r_minus r_m r_e r_sign r_power r_root r_thrown r_otherSign r_otherPower r_a_len r_a_d r_b_len r_b_d r_left_len r_left_d r_other_len r_other_d := by
        unfold f_X11_order
        simp only [a2, b2, Option.bind_some, sm, Sum.elim_inl, Sum.elim_inr, i00, i10, i20, if_true, if_false, go0, go10, go11]
      rw [hrf]
      unfold f_X11_order_B20
      simp only [Option.bind_some, sm, Sum.elim_inl, Sum.elim_inr, i00, i10, i20, if_true, if_false, go0, go10, go11, x11_look ha g4 g5 g1 g2 g3, y1, x11_look hb q4 q5 q1 q2 q3]
      have hk1 := hV1.1
      have hk2 := hV2.1
      generalize hK1 : vK f1 t1 = k1 at *
      generalize hK2 : vK f2 t2 = k2 at *
      by_cases hfin : k1 ≤ 2 ∧ k2 ≤ 2
      · have hv := x8_compared hV1 hV2 hfin.1 hfin.2
        refine ⟨_, ⟨_, hcl _ hv⟩, ?_⟩
        have n4 : ∀ k : Nat, k ≤ 2 → ¬ uI k = (4 : Int32) := fun k h1 x => by have := (uI_eq (b := 4) (by omega) (by omega)).mp x; omega
        have n3 : ∀ k : Nat, k ≤ 2 → ¬ uI k = (3 : Int32) := fun k h1 x => by have := (uI_eq (b := 3) (by omega) (by omega)).mp x; omega
        rw [if_neg (n4 k1 hfin.1), if_neg (n4 k2 hfin.2), if_neg (n3 k1 hfin.1), if_neg (n3 k2 hfin.2)]
        obtain ⟨_, _, hm1, h11, h12, _⟩ := hV1
        obtain ⟨_, _, hm2, h21, h22, _⟩ := hV2
        obtain ⟨sc, Dc, y4, y5⟩ := x10_set r_other_len r_other_d (u := vM f2 t2) (by omega)
        have hb1 : bl (vM f1 t1) ≤ 53 := bl_le_of_lt hm1
        have hb2 : bl (vM f2 t2) ≤ 53 := bl_le_of_lt hm2
        have e1 : (1 : Int32) - uI s2 = uI (1 - s2) := uI_sub (a := 1) (by omega)
        obtain ⟨sd, Dd, l3, l4, o3, o4, y6, y7⟩ := x11_sum (p := vE f1 t1) (q := vE f2 t2) (sa := s1) (sb := 1 - s2) y2 y5 (by omega) (by omega) g2 (by omega) (by omega) (by omega) (by omega) (by omega) r_left_len r_left_d
        rw [y4, Option.bind_some, e1]
        have y6' : f_X11_sum (uI (1 - s2)) (iI (vE f2 t2)) (uI s1) (iI (vE f1 t1)) sa Da r_left_len r_left_d (sc, Dc).1 (sc, Dc).2 = _ := y6
        rw [y6', Option.bind_some]
        have hz := r30_len0 y7
        unfold suN at y7 hz
        generalize vM f1 t1 * 2 ^ (vE f1 t1 - min (vE f1 t1) (vE f2 t2)).toNat = A at *
        generalize vM f2 t2 * 2 ^ (vE f2 t2 - min (vE f1 t1) (vE f2 t2)).toNat = B at *
        unfold ordI
        have hs2c : s2 = 0 ∨ s2 = 1 := by omega
        have hs1c : s1 = 0 ∨ s1 = 1 := by omega
        by_cases hss : s1 = s2
        · have hne : ¬ s1 = 1 - s2 := by omega
          rw [if_neg hne] at hz
          simp only [if_neg hne, if_pos hss]
          by_cases heq : A = B
          · have hz0 : sd = 0 := hz.mpr (by rw [if_pos (by omega)]; omega)
            rw [if_pos (by exact hz0), if_pos heq]
            exact ⟨_, _, _, _, _, _, _, _, rfl⟩
          · have hz0 : ¬ sd = 0 := fun x => by
              have := hz.mp x
              split at this <;> omega
            rw [if_neg (by exact hz0), if_neg heq]
            by_cases hlt : A < B
            · simp only [if_pos hlt]
              rcases hs2c with rfl | rfl
              · rw [if_pos (by decide), if_neg (by decide), wI_m1]; exact ⟨_, _, _, _, _, _, _, _, rfl⟩
              · rw [if_neg (by decide), if_pos rfl]; exact ⟨_, _, _, _, _, _, _, _, rfl⟩
            · simp only [if_neg hlt]
              rcases hs1c with rfl | rfl
              · rw [if_neg (by decide), if_neg (by decide)]; exact ⟨_, _, _, _, _, _, _, _, rfl⟩
              · rw [if_pos (by decide), if_pos rfl, wI_m1]; exact ⟨_, _, _, _, _, _, _, _, rfl⟩
        · have hee : s1 = 1 - s2 := by omega
          rw [if_pos hee] at hz
          simp only [if_pos hee, if_neg hss]
          by_cases hsum : A + B = 0
          · rw [if_pos (by exact hz.mpr hsum), if_pos hsum]
            exact ⟨_, _, _, _, _, _, _, _, rfl⟩
          · rw [if_neg (by exact fun x => hsum (hz.mp x)), if_neg hsum]
            rcases hs1c with rfl | rfl
            · rw [if_neg (by decide), if_neg (by decide)]; exact ⟨_, _, _, _, _, _, _, _, rfl⟩
            · rw [if_pos (by decide), if_pos rfl, wI_m1]; exact ⟨_, _, _, _, _, _, _, _, rfl⟩
      · have hk1c : k1 = 0 ∨ k1 = 1 ∨ k1 = 2 ∨ k1 = 3 ∨ k1 = 4 := by omega
        have hk2c : k2 = 0 ∨ k2 = 1 ∨ k2 = 2 ∨ k2 = 3 ∨ k2 = 4 := by omega
        have hs2c : s2 = 0 ∨ s2 = 1 := by omega
        have hs1c : s1 = 0 ∨ s1 = 1 := by omega
        clear hK1 hK2 hrf
        rcases hk1c with rfl | rfl | rfl | rfl | rfl <;> rcases hk2c with rfl | rfl | rfl | rfl | rfl <;> first | (exfalso; exact hfin ⟨by decide, by decide⟩) | (rcases hs1c with rfl | rfl <;> rcases hs2c with rfl | rfl <;> exact ⟨_, ⟨_, hcl _ rfl⟩, ⟨_, _, _, _, _, _, _, _, rfl⟩⟩)
    · left
      refine ⟨⟨(c_first_kind, c_first_minus, c_first_m, c_first_e, c_first_narrowBelow, c_second_kind, c_second_minus, c_second_m, c_second_e, c_second_narrowBelow), ?_⟩, ?_⟩
      · unfold f_X9_order; simp only [a1, b1, Option.bind_some, sm, Sum.elim_inl, Sum.elim_inr, i00, i10, i20, if_true, if_false, go0, go10, go11]
      · unfold f_X11_order f_X11_order_B19 f_X11_order_B20; simp only [a2, b2, Option.bind_some, sm, Sum.elim_inl, Sum.elim_inr, i00, i10, i20, if_true, if_false, go0, go10, go11]; exact ⟨_, _, _, _, _, _, _, _, _, rfl⟩
  · left
    refine ⟨⟨(c_first_kind, c_first_minus, c_first_m, c_first_e, c_first_narrowBelow, c_second_kind, c_second_minus, c_second_m, c_second_e, c_second_narrowBelow), ?_⟩, ?_⟩
    · unfold f_X9_order; simp only [a1, Option.bind_some, sm, Sum.elim_inl, Sum.elim_inr, i00, i10, i20, if_true, if_false, go0, go10, go11]
    · unfold f_X11_order f_X11_order_B19 f_X11_order_B20; simp only [a2, Option.bind_some, sm, Sum.elim_inl, Sum.elim_inr, i00, i10, i20, if_true, if_false, go0, go10, go11]; exact ⟨_, _, _, _, _, _, _, _, _, rfl⟩
