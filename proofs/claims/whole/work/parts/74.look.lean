/-! reading: letters and figures -/
def atI (T : Nat → Int32) (n i : Nat) : Int := if i < n then ((T i).toNatClampNeg : Int) else -1
def figI (sx : Bool) (a : Int) : Int := if 48 ≤ a ∧ a ≤ 57 then a - 48 else if sx = true ∧ 97 ≤ a ∧ a ≤ 102 then a - 87 else -1
theorem at_bd {n : Nat} {T : Nat → Int32} (h : tpOK n T) (i : Nat) : -1 ≤ atI T n i ∧ atI T n i < 256 ∧ (i < n → T i = iI (atI T n i) ∧ 0 ≤ atI T n i) ∧ (n ≤ i → atI T n i = -1) := by
  unfold atI
  by_cases hi : i < n
  · obtain ⟨b, hb, e⟩ := h.2 i hi
    rw [if_pos hi, e, uI_clamp (by omega)]
    exact ⟨by omega, by omega, fun _ => ⟨rfl, by omega⟩, fun hh => by omega⟩
  · rw [if_neg hi]
    exact ⟨by omega, by omega, fun hh => absurd hh hi, fun _ => rfl⟩
theorem fig_bd (sx : Bool) (a : Int) : -1 ≤ figI sx a ∧ figI sx a < 16 ∧ (sx = false → figI sx a < 10) ∧ (0 ≤ figI sx a → 48 ≤ a) := by
  unfold figI
  cases sx
  · by_cases h1 : 48 ≤ a ∧ a ≤ 57
    · rw [if_pos h1]; omega
    · rw [if_neg h1, if_neg (fun hh => by cases hh.1)]; omega
  · by_cases h1 : 48 ≤ a ∧ a ≤ 57
    · rw [if_pos h1]; exact ⟨by omega, by omega, (fun hh => by cases hh), by omega⟩
    · rw [if_neg h1]
      by_cases h2 : 97 ≤ a ∧ a ≤ 102
      · rw [if_pos ⟨rfl, h2⟩]; exact ⟨by omega, by omega, (fun hh => by cases hh), by omega⟩
      · rw [if_neg (fun hh => h2 hh.2)]; exact ⟨by omega, by omega, (fun hh => by cases hh), by omega⟩
theorem m1_iI : (-1 : Int32) = iI (-1) := by rw [wI_m1]
theorem x7_at {n i : Nat} {T : Nat → Int32} (h : tpOK n T) (hi : i < 100000) : f_X7_at (uI n) T (uI i) = some (iI (atI T n i)) := by
  obtain ⟨h1, h2, h3, h4⟩ := at_bd h i
  have hn := h.1
  unfold f_X7_at
  rw [if_neg (uI_nneg (by omega))]
  by_cases hin : i < n
  · rw [if_neg (by exact fun x => by have := (uI_le (by omega) (by omega)).mp x; omega), if_neg (by exact fun x => by have := (uI_le (a := 1200) (by omega) (by omega)).mp x; omega), if_pos (by exact (uI_vIn (by omega)).mpr (by omega)), uI_clamp (by omega), (h3 hin).1]
  · rw [if_pos (by exact (uI_le (by omega) (by omega)).mpr (by omega)), h4 (by omega), m1_iI]
theorem x11_here {n i : Nat} {T : Nat → Int32} (h : tpOK n T) (hi : i < 100000) : f_X11_here (uI i) (uI n) T = some (iI (atI T n i)) := by
  obtain ⟨h1, h2, h3, h4⟩ := at_bd h i
  have hn := h.1
  unfold f_X11_here
  by_cases hin : i < n
  · rw [if_neg (by exact fun x => by have := (uI_le (by omega) (by omega)).mp x; omega), if_pos (by exact (uI_vIn (by omega)).mpr (by omega)), uI_clamp (by omega), (h3 hin).1]
  · rw [if_pos (by exact (uI_le (by omega) (by omega)).mpr (by omega)), h4 (by omega), m1_iI]
theorem by_Fin {P : Int → Prop} (key : ∀ a : Fin 257, P ((a.val : Int) - 1)) {a : Int} (h1 : -1 ≤ a) (h2 : a < 256) : P a := by
  have := key ⟨(a + 1).toNat, by omega⟩
  rw [show (((⟨(a + 1).toNat, by omega⟩ : Fin 257).val : Nat) : Int) - 1 = a from by show ((a + 1).toNat : Int) - 1 = a; omega] at this
  exact this
theorem x7_ten {a : Int} (h1 : -1 ≤ a) (h2 : a < 256) : f_X7_isTenFigure (iI a) = some (bI (decide (48 ≤ a) && decide (a ≤ 57))) :=
  by_Fin (P := fun a => f_X7_isTenFigure (iI a) = some (bI (decide (48 ≤ a) && decide (a ≤ 57)))) (by decide +kernel) h1 h2
theorem x11_fig {a : Int} (sx : Bool) (h1 : -1 ≤ a) (h2 : a < 256) : f_X11_figure (iI a) (uI (if sx then 16 else 10)) = some (iI (figI sx a)) := by
  cases sx
  · exact by_Fin (P := fun a => f_X11_figure (iI a) (uI 10) = some (iI (figI false a))) (by decide +kernel) h1 h2
  · exact by_Fin (P := fun a => f_X11_figure (iI a) (uI 16) = some (iI (figI true a))) (by decide +kernel) h1 h2
def figS (sx : Bool) (a : Int32) : Option Int32 := (f_X7_isTenFigure a).bind fun u3 => if u3 = 0 then if bI sx = 0 then some (-1) else if a < 97 then some (-1) else if 102 < a then some (-1) else some ((a - 97) + 10) else some (a - 48)
theorem figS_eq {a : Int} (sx : Bool) (h1 : -1 ≤ a) (h2 : a < 256) : figS sx (iI a) = some (iI (figI sx a)) := by
  cases sx
  · exact by_Fin (P := fun a => figS false (iI a) = some (iI (figI false a))) (by decide +kernel) h1 h2
  · exact by_Fin (P := fun a => figS true (iI a) = some (iI (figI true a))) (by decide +kernel) h1 h2
theorem x7_fig {n i : Nat} {T : Nat → Int32} (h : tpOK n T) (sx : Bool) (hi : i < 100000) : f_X7_figureAt (uI n) (bI sx) T (uI i) = some (iI (figI sx (atI T n i))) := by
  obtain ⟨h1, h2, h3, h4⟩ := at_bd h i
  unfold f_X7_figureAt
  rw [x7_at h hi, Option.bind_some]
  exact figS_eq sx h1 h2
