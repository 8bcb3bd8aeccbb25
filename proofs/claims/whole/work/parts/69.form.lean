/-! which forms may be asked for -/
theorem fr_cases (p2 p3 : Int32) : (∃ fo : Nat, fo ≤ 5 ∧ p2 = uI fo ∧ (fo = 2 → ∃ n : Nat, n ≤ 60 ∧ p3 = uI n) ∧ (fo = 3 → ∃ n : Nat, 1 ≤ n ∧ n ≤ 60 ∧ p3 = uI n) ∧ f_X9_needForm p2 p3 = some (.inr ())) ∨ (f_X9_needForm p2 p3 = some (.inl 2) ∧ (p2 < 0 ∨ 5 < p2 ∨ (p2 = 2 ∧ (p3 < 0 ∨ 60 < p3)) ∨ (p2 = 3 ∧ (p3 < 1 ∨ 60 < p3)))) := by
  obtain ⟨a, h1, h2, rfl⟩ := iI_of p2
  obtain ⟨b, h3, h4, rfl⟩ := iI_of p3
  have c0 : iI a < 0 ↔ a < 0 := iI_lt h1 h2 (b := 0) (by omega) (by omega)
  have c5 : iI a ≤ 5 ↔ a ≤ 5 := iI_le h1 h2 (b := 5) (by omega) (by omega)
  have c5' : (5 : Int32) < iI a ↔ 5 < a := iI_lt (a := 5) (by omega) (by omega) h1 h2
  have e2 : iI a = 2 ↔ a = 2 := iI_eq h1 h2 (b := 2) (by omega) (by omega)
  have e3 : iI a = 3 ↔ a = 3 := iI_eq h1 h2 (b := 3) (by omega) (by omega)
  have d0 : iI b < 0 ↔ b < 0 := iI_lt h3 h4 (b := 0) (by omega) (by omega)
  have d1 : iI b < 1 ↔ b < 1 := iI_lt h3 h4 (b := 1) (by omega) (by omega)
  have d60 : iI b ≤ 60 ↔ b ≤ 60 := iI_le h3 h4 (b := 60) (by omega) (by omega)
  have d60' : (60 : Int32) < iI b ↔ 60 < b := iI_lt (a := 60) (by omega) (by omega) h3 h4
  unfold f_X9_needForm f_X9_needForm_B9 f_X9_needForm_B29 f_X9_needForm_B40 f_X9_needForm_B51
  by_cases ha0 : a < 0
  · right
    rw [if_pos (c0.mpr ha0)]
    exact ⟨rfl, Or.inl (c0.mpr ha0)⟩
  rw [if_neg (fun x => ha0 (c0.mp x))]
  by_cases ha5 : 5 < a
  · right
    rw [if_neg (fun x => by have := c5.mp x; omega)]
    exact ⟨rfl, Or.inr (Or.inl (c5'.mpr (by omega)))⟩
  rw [if_pos (c5.mpr (by omega))]
  have hua : iI a = uI a.toNat := congrArg iI (by omega)
  by_cases ha3 : a = 3
  · rw [if_pos (e3.mpr ha3), if_neg (fun x => by have := e2.mp x; omega), if_pos (e3.mpr ha3)]
    by_cases hb : b < 1
    · right
      rw [if_pos (d1.mpr hb)]
      exact ⟨rfl, Or.inr (Or.inr (Or.inr ⟨e3.mpr ha3, Or.inl (d1.mpr hb)⟩))⟩
    rw [if_neg (fun x => hb (d1.mp x))]
    by_cases hb6 : b ≤ 60
    · left
      rw [if_pos (d60.mpr hb6)]
      refine ⟨3, by omega, congrArg iI (by omega), fun h => absurd h (by decide), fun _ => ⟨b.toNat, by omega, by omega, congrArg iI (by omega)⟩, rfl⟩
    · right
      rw [if_neg (fun x => hb6 (d60.mp x))]
      exact ⟨rfl, Or.inr (Or.inr (Or.inr ⟨e3.mpr ha3, Or.inr (d60'.mpr (by omega))⟩))⟩
  rw [if_neg (fun x => ha3 (e3.mp x))]
  by_cases ha2 : a = 2
  · rw [if_pos (e2.mpr ha2)]
    by_cases hb : b < 0
    · right
      rw [if_pos (d0.mpr hb)]
      exact ⟨rfl, Or.inr (Or.inr (Or.inl ⟨e2.mpr ha2, Or.inl (d0.mpr hb)⟩))⟩
    rw [if_neg (fun x => hb (d0.mp x))]
    by_cases hb6 : b ≤ 60
    · left
      rw [if_pos (d60.mpr hb6)]
      refine ⟨2, by omega, congrArg iI (by omega), fun _ => ⟨b.toNat, by omega, congrArg iI (by omega)⟩, fun h => absurd h (by decide), rfl⟩
    · right
      rw [if_neg (fun x => hb6 (d60.mp x))]
      exact ⟨rfl, Or.inr (Or.inr (Or.inl ⟨e2.mpr ha2, Or.inr (d60'.mpr (by omega))⟩))⟩
  rw [if_neg (fun x => ha2 (e2.mp x)), if_neg (fun x => ha3 (e3.mp x))]
  left
  exact ⟨a.toNat, by omega, hua, fun h => by omega, fun h => by omega, rfl⟩
