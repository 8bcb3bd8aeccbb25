/-! feed, letter -/
def tpOK (n : Nat) (T : Nat → Int32) : Prop := n ≤ 1200 ∧ ∀ j, j < n → ∃ b, b < 256 ∧ T j = uI b
theorem fd_byte {u i : Nat} (hu : u < 18446744073709551616) (hi : i < 8) : ((lus (uL u) ((8 : Int32) * uI i)).toInt32 &&& (255 : Int32)) = uI (u / 2 ^ (8 * i) % 256) ∧ ((lsr (uL u) ((8 : Int32) * uI i) &&& (255 : Int64)).toInt32) = uI (u / 2 ^ (8 * i) % 256) := by
  rw [show (8 : Int32) * uI i = uI (8 * i) from uI_mul 8 i]
  constructor
  · rw [uL_lus hu (by omega), uL_toI, mask8I]; rfl
  · by_cases hb : u < 9223372036854775808
    · rw [uL_lsr hb (by omega), mask8, iL_i]; rfl
    · have e : uL u = iL ((u : Int) - 18446744073709551616) := iL_eqm (by omega)
      rw [e, lsr_iL (by omega) (by omega) (by omega), mask8, iL_i]
      show iI _ = iI _
      congr 1
      have : i = 0 ∨ i = 1 ∨ i = 2 ∨ i = 3 ∨ i = 4 ∨ i = 5 ∨ i = 6 ∨ i = 7 := by omega
      rcases this with rfl | rfl | rfl | rfl | rfl | rfl | rfl | rfl
      · show ((u : Int) - 18446744073709551616) / 1 % 256 = ((u / 1 % 256 : Nat) : Int); omega
      · show ((u : Int) - 18446744073709551616) / 256 % 256 = ((u / 256 % 256 : Nat) : Int); omega
      · show ((u : Int) - 18446744073709551616) / 65536 % 256 = ((u / 65536 % 256 : Nat) : Int); omega
      · show ((u : Int) - 18446744073709551616) / 16777216 % 256 = ((u / 16777216 % 256 : Nat) : Int); omega
      · show ((u : Int) - 18446744073709551616) / 4294967296 % 256 = ((u / 4294967296 % 256 : Nat) : Int); omega
      · show ((u : Int) - 18446744073709551616) / 1099511627776 % 256 = ((u / 1099511627776 % 256 : Nat) : Int); omega
      · show ((u : Int) - 18446744073709551616) / 281474976710656 % 256 = ((u / 281474976710656 % 256 : Nat) : Int); omega
      · show ((u : Int) - 18446744073709551616) / 72057594037927936 % 256 = ((u / 72057594037927936 % 256 : Nat) : Int); omega
theorem fd_loop {u c : Nat} (hu : u < 18446744073709551616) (hc : c ≤ 8) : ∀ k i fuel n T, i + k = c → k < fuel → n + k ≤ 1200 → tpOK n T →
    ∃ T', tpOK (n + k) T' ∧ f_X9_feed_L35 fuel (uL u) (uI c) (uI i) (uI n) T = some (.inr (uI (n + k), uI (n + k), T')) ∧ f_X11_feed_L35 fuel (uL u) (uI c) (uI i) 0 (uI n) T = some (uI (n + k), 0, uI (n + k), T') := by
  intro k
  induction k with
  | zero =>
    intro i fuel n T hk hf hn hT
    obtain ⟨m, rfl, _⟩ := ex_succ hf
    refine ⟨T, hT, ?_, ?_⟩
    · rw [f_X9_feed_L35, if_pos (by exact (uI_le (by omega) (by omega)).mpr (by omega))]; rfl
    · rw [f_X11_feed_L35, if_pos (by exact (uI_le (by omega) (by omega)).mpr (by omega))]
      unfold f_X11_feed_B85
      rw [if_pos rfl]; rfl
  | succ k ih =>
    intro i fuel n T hk hf hn hT
    obtain ⟨m, rfl, hm⟩ := ex_succ hf
    have hb := fd_byte hu (show i < 8 by omega)
    have hT2 : tpOK (n + 1) (upd T n (uI (u / 2 ^ (8 * i) % 256))) := by
      refine ⟨by omega, fun j hj => ?_⟩
      by_cases e : j = n
      · subst e; exact ⟨_, by omega, upd_eq _ _ _⟩
      · rw [upd_ne _ _ e]; exact hT.2 j (by omega)
    obtain ⟨T', h1, h2, h3⟩ := ih (i + 1) m (n + 1) _ (by omega) (by omega) (by omega) hT2
    rw [show n + 1 + k = n + (k + 1) by omega] at h1 h2 h3
    refine ⟨T', h1, ?_, ?_⟩
    · rw [f_X9_feed_L35, if_neg (by exact fun x => by have := (uI_le (by omega) (by omega)).mp x; omega), hb.1]
      unfold f_X7_append
      rw [if_neg (by exact fun x => by have := (uI_le (a := 1200) (by omega) (by omega)).mp x; omega), if_pos (by exact (uI_vIn (by omega)).mpr (by omega)), uI_clamp (by omega), uI_succ, Option.bind_some, uI_succ]
      exact h2
    · rw [f_X11_feed_L35, if_neg (by exact fun x => by have := (uI_le (by omega) (by omega)).mp x; omega), if_pos rfl, if_pos (by exact (uI_vIn (by omega)).mpr (by omega)), uI_clamp (by omega), hb.2, uI_succ, uI_succ]
      exact h3
theorem k_feed {n : Nat} {T : Nat → Int32} (h : tpOK n T) (p1 : Int64) (p2 th : Int32) :
    (f_X9_feed p1 p2 (uI n) T = some (.inl (2, uI n, T)) ∧ f_X11_feed p1 p2 th (uI n) T = some (0, 1, uI n, T)) ∨
    (∃ n' T', tpOK n' T' ∧ f_X9_feed p1 p2 (uI n) T = some (.inr (uI n', uI n', T')) ∧ f_X11_feed p1 p2 th (uI n) T = some (uI n', 0, uI n', T')) := by
  obtain ⟨u, hu, rfl⟩ := L_of p1
  obtain ⟨a, ha1, ha2, rfl⟩ := iI_of p2
  have hn := h.1
  have hbad : ¬ (1 ≤ a ∧ a ≤ 8 ∧ (n : Int) + a ≤ 1200) → f_X11_feed (uL u) (iI a) th (uI n) T = some (0, 1, uI n, T) := by
    intro hno
    have hL : f_X11_feed_L35 FU (uL u) (iI a) 0 1 (uI n) T = some (0, 1, uI n, T) := by
      rw [show FU = 99999 + 1 from rfl, f_X11_feed_L35]
      unfold f_X11_feed_B85
      simp only [show ((1 : Int32) = 0) = False from i10, if_false, ite_self]
    unfold f_X11_feed
    rw [wI_1, wI_8, iI_add]
    by_cases h1 : a < 1
    · rw [if_pos (by exact (iI_lt (by omega) (by omega) (by omega) (by omega)).mpr h1)]; exact hL
    · rw [if_neg (by exact fun x => h1 ((iI_lt (by omega) (by omega) (by omega) (by omega)).mp x))]
      by_cases h8 : 8 < a
      · rw [if_pos (by exact (iI_lt (by omega) (by omega) (by omega) (by omega)).mpr h8)]; exact hL
      · rw [if_neg (by exact fun x => h8 ((iI_lt (by omega) (by omega) (by omega) (by omega)).mp x)), show (1200 : Int32) = iI 1200 from rfl, if_neg (by rw [iI_le (by omega) (by omega) (by omega) (by omega)]; omega)]; exact hL
  by_cases hok : 1 ≤ a ∧ a ≤ 8 ∧ (n : Int) + a ≤ 1200
  · right
    have ea : iI a = uI a.toNat := by show iI _ = iI _; congr 1; omega
    obtain ⟨T', t1, t2, t3⟩ := fd_loop hu (c := a.toNat) (by omega) a.toNat 0 FU n T (by omega) (by rw [hFU]; omega) (by omega) h
    have t2' : f_X9_feed_L35 FU (uL u) (uI a.toNat) (0 : Int32) (uI n) T = _ := t2
    have t3' : f_X11_feed_L35 FU (uL u) (uI a.toNat) (0 : Int32) 0 (uI n) T = _ := t3
    refine ⟨n + a.toNat, T', t1, ?_, ?_⟩
    · unfold f_X9_feed f_X7_hasRoomFor
      rw [show (1200 : Int32) = iI 1200 from rfl, iI_sub, if_neg (by rw [wI_1, iI_lt (by omega) (by omega) (by omega) (by omega)]; omega), if_neg (by rw [wI_8, iI_lt (by omega) (by omega) (by omega) (by omega)]; omega), if_neg (by rw [iI_lt (by omega) (by omega) (by omega) (by omega)]; omega), Option.bind_some, if_neg (by decide), ea]
      exact t2'
    · unfold f_X11_feed
      rw [iI_add, if_neg (by rw [wI_1, iI_lt (by omega) (by omega) (by omega) (by omega)]; omega), if_neg (by rw [wI_8, iI_lt (by omega) (by omega) (by omega) (by omega)]; omega), show (1200 : Int32) = iI 1200 from rfl, if_pos (by rw [iI_le (by omega) (by omega) (by omega) (by omega)]; omega), ea]
      exact t3'
  · left
    refine ⟨?_, hbad hok⟩
    unfold f_X9_feed f_X7_hasRoomFor f_X9_feed_B22
    rw [show (1200 : Int32) = iI 1200 from rfl, iI_sub, wI_1, wI_8]
    by_cases h1 : a < 1
    · rw [if_pos (by exact (iI_lt (by omega) (by omega) (by omega) (by omega)).mpr h1)]
    · rw [if_neg (by exact fun x => h1 ((iI_lt (by omega) (by omega) (by omega) (by omega)).mp x))]
      by_cases h8 : 8 < a
      · rw [if_pos (by exact (iI_lt (by omega) (by omega) (by omega) (by omega)).mpr h8)]
      · rw [if_neg (by exact fun x => h8 ((iI_lt (by omega) (by omega) (by omega) (by omega)).mp x)), if_pos (by rw [iI_lt (by omega) (by omega) (by omega) (by omega)]; omega), Option.bind_some, if_pos rfl]
/-! the sheet -/
def shOK (l : List Nat) (len : Int32) (B : Nat → Int32) : Prop := len = uI l.length ∧ ∀ j (h : j < l.length), B j = uI l[j]
theorem k_letter {l : List Nat} {B X : Nat → Int32} {len wr : Int32} (hB : shOK l len B) (hX : shOK l wr X) (hl : l.length ≤ 1077) (p1 th : Int32) :
    ∃ v, f_X9_letter len B p1 = some v ∧ f_X11_letter wr X p1 th = some (v, 0) := by
  obtain ⟨rfl, hB2⟩ := hB
  obtain ⟨rfl, hX2⟩ := hX
  obtain ⟨a, ha1, ha2, rfl⟩ := iI_of p1
  have c0 : iI a < (0 : Int32) ↔ a < 0 := by rw [wI_0, iI_lt (by omega) (by omega) (by omega) (by omega)]
  unfold f_X9_letter f_X5_at f_X11_letter
  by_cases h0 : a < 0
  · simp only [if_pos (c0.mpr h0)]
    exact ⟨_, rfl, rfl⟩
  · have ea : iI a = uI a.toNat := by show iI _ = iI _; congr 1; omega
    simp only [if_neg (fun x => h0 (c0.mp x))]
    rw [ea]
    by_cases hge : l.length ≤ a.toNat
    · simp only [if_pos ((uI_le (show l.length < 2147483648 by omega) (show a.toNat < 2147483648 by omega)).mpr hge)]
      exact ⟨_, rfl, rfl⟩
    · have n1 : ¬ uI l.length ≤ uI a.toNat := fun x => hge ((uI_le (by omega) (by omega)).mp x)
      have n2 : ¬ (1077 : Int32) ≤ uI a.toNat := fun x => by have := (uI_le (a := 1077) (by omega) (by omega)).mp x; omega
      have v1 : vIn (uI a.toNat) 1077 = true := (uI_vIn (by omega)).mpr (by omega)
      have v2 : vIn (uI a.toNat) 1600 = true := (uI_vIn (by omega)).mpr (by omega)
      simp only [if_neg n1, if_neg n2, if_pos v1, if_pos v2, uI_clamp (show a.toNat < 2147483648 by omega), hB2 _ (show a.toNat < l.length by omega), hX2 _ (show a.toNat < l.length by omega)]
      exact ⟨_, rfl, rfl⟩
/-! putting letters -/
theorem x5_put {l : List Nat} {len : Int32} {B : Nat → Int32} {c : Nat} (h : shOK l len B) (hl : l.length < 1077) : ∃ len' B', f_X5_put (uI c) len B = some (len', B') ∧ shOK (l ++ [c]) len' B' := by
  obtain ⟨rfl, h2⟩ := h
  unfold f_X5_put
  rw [if_neg (by exact fun x => by have := (uI_le (a := 1077) (by omega) (by omega)).mp x; omega), if_pos (by exact (uI_vIn (by omega)).mpr hl), uI_clamp (by omega), uI_succ]
  refine ⟨_, _, rfl, by rw [List.length_append]; rfl, fun j hj => ?_⟩
  rw [List.length_append, List.length_singleton] at hj
  by_cases e : j = l.length
  · subst e; rw [upd_eq, List.getElem_append_right (Nat.le_refl _)]; simp
  · rw [upd_ne _ _ e, h2 j (by omega), List.getElem_append_left (by omega)]
theorem x11_putc {l : List Nat} {len : Int32} {B : Nat → Int32} {c : Nat} (h : shOK l len B) (hl : l.length < 1600) : ∃ len' B', f_X11_put_ (uI c) len B = some (len', B') ∧ shOK (l ++ [c]) len' B' := by
  obtain ⟨rfl, h2⟩ := h
  unfold f_X11_put_
  rw [if_pos (by exact (uI_vIn (by omega)).mpr hl), uI_clamp (by omega), uI_succ]
  refine ⟨_, _, rfl, by rw [List.length_append]; rfl, fun j hj => ?_⟩
  rw [List.length_append, List.length_singleton] at hj
  by_cases e : j = l.length
  · subst e; rw [upd_eq, List.getElem_append_right (Nat.le_refl _)]; simp
  · rw [upd_ne _ _ e, h2 j (by omega), List.getElem_append_left (by omega)]
theorem sh_nil (B : Nat → Int32) : shOK [] (uI 0) B := ⟨rfl, fun j hj => absurd hj (Nat.not_lt_zero j)⟩
