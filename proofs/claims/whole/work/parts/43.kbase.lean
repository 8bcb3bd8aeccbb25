/-! the places -/
def isP (f P : Nat) : Prop := ∃ sg u, sg ≤ 1 ∧ u < 2 ^ fTop f ∧ P = pat f sg u
def wfp (F : Nat → Int32) (G : Nat → Int64) : Prop := ∀ i, i < 16 → ∃ f sg t, f ≤ 1 ∧ sg ≤ 1 ∧ t < 2 ^ fTop f ∧ F i = uI f ∧ G i = uL (pat f sg t)
theorem wfp_upd {F : Nat → Int32} {G : Nat → Int64} {r f P : Nat} (h : wfp F G) (hf : f ≤ 1) (hP : isP f P) : wfp (upd F r (uI f)) (vp_updL G r (uL P)) := by
  intro i hi
  by_cases e : i = r
  · subst e
    obtain ⟨sg, u, h1, h2, rfl⟩ := hP
    exact ⟨f, sg, u, hf, h1, h2, upd_eq _ _ _, updL_eq _ _ _⟩
  · rw [upd_ne _ _ e, updL_ne _ _ e]; exact h i hi
theorem upd_self {F : Nat → Int32} {r : Nat} {x : Int32} (h : F r = x) : upd F r x = F := by
  funext i
  by_cases e : i = r
  · subst e; rw [upd_eq, h]
  · rw [upd_ne _ _ e]
theorem updL_self {G : Nat → Int64} {r : Nat} {x : Int64} (h : G r = x) : vp_updL G r x = G := by
  funext i
  by_cases e : i = r
  · subst e; rw [updL_eq, h]
  · rw [updL_ne _ _ e]
theorem isP_none {f : Nat} (hf : f ≤ 1) : isP f (patNone f) := ⟨0, patNone f, by omega, patNone_lt hf, by unfold pat; omega⟩
theorem isP_pat {f sg u : Nat} (hs : sg ≤ 1) (hu : u < 2 ^ fTop f) : isP f (pat f sg u) := ⟨sg, u, hs, hu, rfl⟩
theorem isP_inf {f sg : Nat} (hf : f ≤ 1) (hs : sg ≤ 1) : isP f (pat f sg (fInf f)) := isP_pat hs (fInf_lt hf)
theorem isP_zero {f sg : Nat} (hs : sg ≤ 1) : isP f (pat f sg 0) := isP_pat hs (Nat.two_pow_pos _)
theorem isP_tooG {f sg way : Nat} (hf : f ≤ 1) (hs : sg ≤ 1) : isP f (tooG f sg way) := by
  have := fInf_lt hf
  unfold tooG; split
  · exact isP_pat hs this
  · exact isP_pat hs (by omega)
theorem isP_rcP {f way sg n : Nat} {x : Int} {rest : Bool} (hf : f ≤ 1) (hs : sg ≤ 1) : isP f (rcP f way sg n x rest) := by
  have := fInf_lt hf
  unfold rcP
  split
  · exact isP_zero hs
  · split
    · exact isP_tooG hf hs
    · generalize rcT f n x + (if gO way sg (rcM f n x % 2 == 1) (rcHalf f n x) (rcMore f n x rest) then 1 else 0) = y
      split
      · exact isP_tooG hf hs
      · exact isP_pat hs (by omega)
theorem isP_isR {f way sg N D r p : Nat} (hf : f ≤ 1) (hs : sg ≤ 1) (h : isR f way sg N D r p) : isP f p := by
  obtain ⟨u, h1, h2⟩ := isR_pat hf hs h
  exact ⟨sg, u, hs, h1, h2⟩
theorem suS_le {sa A sb B way : Nat} {p q : Int} (h1 : sa ≤ 1) (h2 : sb ≤ 1) : suS sa A p sb B q way ≤ 1 := by
  unfold suS
  split
  · exact h1
  · split
    · split <;> omega
    · split
      · exact h1
      · exact h2
theorem isP_sumP {f way sa A k sg m : Nat} {p e : Int} {endl : Bool} (hf : f ≤ 1) (hsa : sa ≤ 1) (hs : sg ≤ 1) : isP f (sumP f way endl sa A p k sg m e) := by
  unfold sumP
  split
  · split
    · exact isP_none hf
    · refine isP_inf hf ?_
      split
      · exact hsa
      · exact hs
  · exact isP_rcP hf (suS_le hsa hs)
theorem L_of (x : Int64) : ∃ u, u < 18446744073709551616 ∧ x = uL u := ⟨x.toBitVec.toNat, x.toBitVec.isLt, iL_ext x.toBitVec.isLt rfl⟩
theorem isP_double {u : Nat} (hu : u < 18446744073709551616) : isP 1 u := by
  have e : fTop 1 = 63 := rfl
  refine ⟨u / 2 ^ 63, u % 2 ^ 63, by omega, by rw [e]; omega, ?_⟩
  unfold pat
  rw [e]; omega
theorem isP_float {u : Nat} (hu : u < 4294967296) : isP 0 u := by
  have e : fTop 0 = 31 := rfl
  refine ⟨u / 2 ^ 31, u % 2 ^ 31, by omega, by rw [e]; omega, ?_⟩
  unfold pat
  rw [e]; omega
/-! what is asked of the arguments -/
theorem i00 : ((0 : Int32) = 0) = True := eq_true rfl
theorem i10 : ((1 : Int32) = 0) = False := eq_false (by decide)
theorem i20 : ((2 : Int32) = 0) = False := eq_false (by decide)
theorem go0 (b th : Int32) : f_X11_goes 0 b th = some (0, 1) := by unfold f_X11_goes f_X11_goes_B18; simp only [i00, i10, if_true, if_false]
theorem go10 (th : Int32) : f_X11_goes 1 0 th = some (0, 2) := by unfold f_X11_goes f_X11_goes_B18; simp only [i00, i10, i20, if_true, if_false]
theorem go11 (th : Int32) : f_X11_goes 1 1 th = some (1, 0) := by unfold f_X11_goes f_X11_goes_B18; simp only [i00, i10, i20, if_true, if_false]
theorem pl_cases (p : Int32) : (∃ n, n < 16 ∧ p = uI n ∧ f_X9_needPlace p = some (.inr ()) ∧ f_X11_isPlace p = some 1) ∨ (f_X9_needPlace p = some (.inl 1) ∧ f_X11_isPlace p = some 0) := by
  obtain ⟨a, h1, h2, rfl⟩ := iI_of p
  unfold f_X9_needPlace f_X9_needPlace_B10 f_X11_isPlace
  rw [wI_0, show (16 : Int32) = iI 16 from rfl]
  simp only [iI_lt h1 h2 (show (-2147483648 : Int) ≤ 0 by omega) (by omega), iI_lt h1 h2 (show (-2147483648 : Int) ≤ 16 by omega) (by omega), iI_le (show (-2147483648 : Int) ≤ 16 by omega) (by omega) h1 h2]
  by_cases hn : a < 0
  · right; exact ⟨by rw [if_pos hn], by rw [if_pos hn]⟩
  · by_cases hb : a < 16
    · left
      refine ⟨a.toNat, by omega, ?_, ?_, ?_⟩
      · show iI a = iI (a.toNat : Int)
        congr 1; omega
      · rw [if_neg hn, if_pos hb]
      · rw [if_neg hn, if_neg (by omega)]
    · right; exact ⟨by rw [if_neg hn, if_neg hb], by rw [if_neg hn, if_pos (by omega)]⟩
theorem fm_cases (p : Int32) : (∃ f, f ≤ 1 ∧ p = uI f ∧ f_X9_needFormat p = some (.inr ()) ∧ f_X11_isFormat p = some 1) ∨ (f_X9_needFormat p = some (.inl 2) ∧ f_X11_isFormat p = some 0) := by
  unfold f_X9_needFormat f_X11_isFormat
  by_cases h0 : p = 0
  · left; subst h0; exact ⟨0, by omega, rfl, by rw [if_pos rfl], by rw [if_pos rfl]⟩
  · by_cases h1 : p = 1
    · left; subst h1; exact ⟨1, by omega, rfl, by rw [if_neg h0, if_pos rfl], by rw [if_neg h0, if_pos rfl]⟩
    · right; exact ⟨by rw [if_neg h0, if_neg h1], by rw [if_neg h0, if_neg h1]⟩
theorem wy_cases (p : Int32) : (∃ n, n < 4 ∧ p = uI n ∧ f_X9_needWay p = some (.inr ()) ∧ f_X11_isWay p = some 1) ∨ (f_X9_needWay p = some (.inl 2) ∧ f_X11_isWay p = some 0) := by
  obtain ⟨a, h1, h2, rfl⟩ := iI_of p
  unfold f_X9_needWay f_X9_needWay_B9 f_X11_isWay
  rw [wI_0, wI_3, wI_4]
  simp only [iI_lt h1 h2 (show (-2147483648 : Int) ≤ 0 by omega) (by omega), iI_le h1 h2 (show (-2147483648 : Int) ≤ 3 by omega) (by omega), iI_le (show (-2147483648 : Int) ≤ 4 by omega) (by omega) h1 h2]
  by_cases hn : a < 0
  · right; exact ⟨by rw [if_pos hn], by rw [if_pos hn]⟩
  · by_cases hb : a ≤ 3
    · left
      refine ⟨a.toNat, by omega, ?_, ?_, ?_⟩
      · show iI a = iI (a.toNat : Int)
        congr 1; omega
      · rw [if_neg hn, if_pos hb]
      · rw [if_neg hn, if_neg (by omega)]
    · right; exact ⟨by rw [if_neg hn, if_neg hb], by rw [if_neg hn, if_pos (by omega)]⟩
theorem x9_look {F : Nat → Int32} {G : Nat → Int64} {f sg t p : Nat} (hp : p < 16) (hF : F p = uI f) (hG : G p = uL (pat f sg t)) (hf : f ≤ 1) (hs : sg ≤ 1) (ht : t < 2 ^ fTop f) (k0 m0 : Int32) (l0 : Int64) (e0 n0 : Int32) :
    f_X9_look F G (uI p) k0 m0 l0 e0 n0 = some (uI (vK f t), uI sg, uL (vM f t), iI (vE f t), bI (vN f t)) := by
  unfold f_X9_look
  rw [if_pos (by exact (uI_vIn (by omega)).mpr hp), uI_clamp (by omega), hF, hG, x8_unpack hf hs ht]; rfl
theorem x9_put {F : Nat → Int32} {G : Nat → Int64} {r : Nat} (hr : r < 16) (f : Int32) (P : Int64) : f_X9_put (uI r) f P F G = some (upd F r f, vp_updL G r P) := by
  unfold f_X9_put
  rw [if_pos (by exact (uI_vIn (by omega)).mpr hr), uI_clamp (by omega)]
theorem xor_sg {a b : Nat} (ha : a ≤ 1) (hb : b ≤ 1) : uI a ^^^ uI b = uI (prS a b) := by
  have h1 : a = 0 ∨ a = 1 := by omega
  have h2 : b = 0 ∨ b = 1 := by omega
  rcases h1 with rfl | rfl <;> rcases h2 with rfl | rfl <;> decide
theorem vIn16 {r : Nat} (hr : r < 16) : vIn (uI r) 16 = true := (uI_vIn (by omega)).mpr hr
