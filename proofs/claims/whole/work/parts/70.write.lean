/-! write: finite values that are not nought -/
theorem hxL_len : ∀ n v, (hxL n v).length ≤ n := by
  intro n
  induction n with
  | zero => intro v; simp [hxL]
  | succ n ih =>
    intro v
    unfold hxL
    split
    · simp
    · rw [List.length_cons]; have := ih (v * 16 % 2 ^ 64); omega
theorem six_len {l : List Nat} (m : Nat) (e : Int) (hl : l.length ≤ 1) : (l ++ sixL m e).length ≤ 1077 := by
  unfold sixL
  have h1 := numL_len (e + bl m - 1)
  have h2 := hxL_len 16 (m * 2 ^ (65 - bl m) % 2 ^ 64)
  have h3 : (if m * 2 ^ (65 - bl m) % 2 ^ 64 = 0 then ([] : List Nat) else [46]).length ≤ 1 := by split <;> simp
  rw [List.length_append, List.length_append, List.length_append, List.length_append, show [48, 120, 49].length = 3 from rfl, List.length_cons]
  omega
theorem k_finite {F : Nat → Int32} {G : Nat → Int64} {p f sg t fo w kd : Nat} {p3 : Int32} (hp : p < 16) (hF : F p = uI f) (hG : G p = uL (pat f sg t)) (hf : f ≤ 1) (hs1 : sg ≤ 1) (ht : t < 2 ^ fTop f) (ht0 : t ≠ 0) (hfin : t / 2 ^ fWd f ≠ fEx f) (hkd : kd = 1 ∨ kd = 2) (hw : w < 4) (hfo : fo ≤ 5) (h2 : fo = 2 → ∃ n : Nat, n ≤ 60 ∧ p3 = uI n) (h3 : fo = 3 → ∃ n : Nat, 1 ≤ n ∧ n ≤ 60 ∧ p3 = uI n)
    {m : Nat} {e : Int} {nw : Bool} (hm : m = stM f t) (he : e = fLo f + stE f t) (hnw : nw = vN f t) (hm0 : m ≠ 0) (he1 : -1074 ≤ e) (he2 : e ≤ 971)
    (cl : Int32) (cB : Nat → Int32) (z1 : Int32) (z2 : Int32) (z3 : Int32) (z4 : Nat → Int64) (z5 : Int32) (z6 : Nat → Int64) (z7 : Int32) (z8 : Nat → Int64) (z9 : Int32) (z10 : Nat → Int64) (ct : Int32) (tp : Int32) (row : Nat → Int32) (sign : Int32) (power : Int32) (root : Int32) (th : Int32) (wr : Int32) (fm : Int32) (la : Int32) (te : Int32) (al : Int32) (ad : Nat → Int32) (bl0 : Int32) (bd : Nat → Int32) (ll : Int32) (ld : Nat → Int32) (rl : Int32) (rd : Nat → Int32) (gl : Int32) (gd : Nat → Int32) (tl : Int32) (td : Nat → Int32) (tx : Nat → Int32) (fg : Nat → Int32) (nl : Int32) (nd : Nat → Int32) (dl : Int32) (dd : Nat → Int32) (wl : Int32) (wd : Nat → Int32) (hl : Int32) (hd : Nat → Int32) {l : List Nat} (hsc : shOK l cl cB) (hsr : shOK l wr tx) (hln : l.length ≤ 1) :
    ∃ l' : List Nat, l'.length ≤ 1077 ∧ (∃ (q0 : Int32) (q1 : Nat → Int32) (q2 : Int32) (q3 : Int32) (q4 : Int32) (q5 : Nat → Int64) (q6 : Int32) (q7 : Nat → Int64) (q8 : Int32) (q9 : Nat → Int64) (q10 : Int32) (q11 : Nat → Int64) (q12 : Int32) (q13 : Int32) (q14 : Nat → Int32), f_X3_print_B41 (uI kd) (uI sg) (uL m) (iI e) (bI nw) (uI fo) p3 (uI w) cl cB z1 z2 z3 z4 z5 z6 z7 z8 z9 z10 ct tp row = some (q0, q1, q2, q3, q4, q5, q6, q7, q8, q9, q10, q11, q12, q13, q14) ∧ shOK l' q0 q1) ∧ (∃ (s0 : Int32) (s1 : Int32) (s2 : Int32) (s5 : Int32) (s6 : Int32) (s7 : Int32) (s8 : Int32) (s9 : Nat → Int32) (s10 : Int32) (s11 : Nat → Int32) (s12 : Int32) (s13 : Nat → Int32) (s14 : Int32) (s15 : Nat → Int32) (s16 : Int32) (s17 : Nat → Int32) (s18 : Int32) (s19 : Nat → Int32) (s21 : Nat → Int32) (s22 : Int32) (s23 : Nat → Int32) (s24 : Int32) (s25 : Nat → Int32) (s26 : Int32) (s27 : Nat → Int32) (s28 : Int32) (s29 : Nat → Int32) (wr' : Int32) (tx' : Nat → Int32), f_X11_write_B114 F G (uI p) (uI fo) p3 (uI w) (uI kd) (uI sg) (uL m) (iI e) sign power root th wr fm la te al ad bl0 bd ll ld rl rd gl gd tl td tx fg nl nd dl dd wl wd hl hd = some (wr', uI kd, uI sg, uL m, iI e, s0, s1, s2, th, wr', s5, s6, s7, s8, s9, s10, s11, s12, s13, s14, s15, s16, s17, s18, s19, tx', s21, s22, s23, s24, s25, s26, s27, s28, s29) ∧ shOK l' wr' tx') := by
  have hmb : m < 2 ^ 53 := by rw [hm]; exact stM_lt f t
  have k0 : ¬ uI kd = 0 := by rcases hkd with rfl | rfl <;> decide
  have k3 : ¬ uI kd = 3 := by rcases hkd with rfl | rfl <;> decide
  have hcs : fo = 0 ∨ fo = 1 ∨ fo = 2 ∨ fo = 3 ∨ fo = 4 ∨ fo = 5 := by clear h2 h3; omega
  unfold f_X3_print_B41 f_X11_write_B114 f_X3_findFigures f_X1_clear f_X3_findFigures_B24 f_X3_printFigures
  simp only [if_neg k3, if_neg k0, Option.bind_some]
  rcases hcs with rfl | rfl | rfl | rfl | rfl | rfl
  · obtain ⟨E, c, T, u1, u2, u3, u4, u5, ⟨o1, o2, o3, o4, o5, o6, o7, o8, o9, o10, ct', tp', row', g1, g2⟩, ⟨v1, v2, v3, v4, a1, a2, a3, a4, a5, a6, a7, a8, a9, a10, a11, a12, fg', b1, b2, b3, b4, b5, b6, b7, b8, g3, g4⟩⟩ := k_shortE hf ht ht0 hfin (by rw [← hm]; exact hm0) (by rw [← he]; exact he1) (by rw [← he]; exact he2) z1 z2 z3 z4 z5 z6 z7 z8 z9 z10 (0 : Int32) (0 : Int32) row sign power root fm la te al ad bl0 bd ll ld rl rd gl gd tl td fg nl nd dl dd wl wd hl hd
    rw [← hm, ← he, ← hnw] at g1
    rw [← hm, ← he] at g3
    obtain ⟨l', hl', ⟨b, len1, B1, q1, q2, q3⟩, ⟨len2, B2, q4, q5⟩⟩ := sh_plain u1 u2 u3 u4 g2 g4 hsc hln hsr
    refine ⟨l', hl', ?_, ?_⟩
    · rw [if_neg (by decide), if_pos (by rfl), g1, Option.bind_some, Option.bind_some]
      dsimp only
      rw [if_neg (by decide), if_neg (by decide), if_neg (by decide), q1, Option.bind_some, q2, Option.bind_some, Option.bind_some]
      exact ⟨_, _, _, _, _, _, _, _, _, _, _, _, _, _, _, rfl, q3⟩
    · rw [if_neg (by decide), if_pos (vIn16 hp), uI_clamp (by omega), hF, hG, x11_signBit hf, Option.bind_some, and_nsign hf hs1 ht, g3, Option.bind_some]
      dsimp only
      rw [if_pos (by rfl), q4, Option.bind_some]
      exact ⟨_, _, _, _, _, _, _, _, _, _, _, _, _, _, _, _, _, _, _, _, _, _, _, _, _, _, _, _, _, rfl, q5⟩
  · obtain ⟨E, c, T, u1, u2, u3, u4, u5, ⟨o1, o2, o3, o4, o5, o6, o7, o8, o9, o10, ct', tp', row', g1, g2⟩, ⟨v1, v2, v3, v4, a1, a2, a3, a4, a5, a6, a7, a8, a9, a10, a11, a12, fg', b1, b2, b3, b4, b5, b6, b7, b8, g3, g4⟩⟩ := k_shortE hf ht ht0 hfin (by rw [← hm]; exact hm0) (by rw [← he]; exact he1) (by rw [← he]; exact he2) z1 z2 z3 z4 z5 z6 z7 z8 z9 z10 (0 : Int32) (0 : Int32) row sign power root fm la te al ad bl0 bd ll ld rl rd gl gd tl td fg nl nd dl dd wl wd hl hd
    rw [← hm, ← he, ← hnw] at g1
    rw [← hm, ← he] at g3
    obtain ⟨l', hl', ⟨b, len1, B1, q1, q2, q3⟩, ⟨len2, B2, q4, q5⟩⟩ := sh_powered u1 u2 u3 u4 g2 g4 hsc hln hsr
    refine ⟨l', hl', ?_, ?_⟩
    · rw [if_neg (by decide), if_neg (by decide), if_pos (by rfl), g1, Option.bind_some, Option.bind_some]
      dsimp only
      rw [if_pos (by rfl), q1, Option.bind_some, q2, Option.bind_some, Option.bind_some]
      exact ⟨_, _, _, _, _, _, _, _, _, _, _, _, _, _, _, rfl, q3⟩
    · rw [if_neg (by decide), if_pos (vIn16 hp), uI_clamp (by omega), hF, hG, x11_signBit hf, Option.bind_some, and_nsign hf hs1 ht, g3, Option.bind_some]
      dsimp only
      rw [if_neg (by decide), q4, Option.bind_some]
      exact ⟨_, _, _, _, _, _, _, _, _, _, _, _, _, _, _, _, _, _, _, _, _, _, _, _, _, _, _, _, _, rfl, q5⟩
  · obtain ⟨n, hn, rfl⟩ := h2 rfl
    obtain ⟨l', hl', ⟨a1, a2, a3, a4, a5, b1, b2, b3, len1, B1, g1, g2, g3, g4⟩, ⟨len2, r1, r2, r3, B2, r4, r5, r6, g5, g6⟩⟩ := k_fixed (n := n) (way := w) (sg := sg) hm0 hmb he1 he2 hn hs1 hw hsc hln hsr (0 : Int32) (0 : Int32) row z3 z4 fm ll ld fg wl wd
    refine ⟨l', hl', ?_, ?_⟩
    · rw [if_neg (by decide), if_neg (by decide), if_neg (by decide), g1, Option.bind_some, if_pos (by rfl), g2, Option.bind_some, Option.bind_some]
      dsimp only
      rw [if_neg (by decide), if_pos (by rfl), g3, Option.bind_some, Option.bind_some]
      exact ⟨_, _, _, _, _, _, _, _, _, _, _, _, _, _, _, rfl, g4⟩
    · rw [if_pos (by decide), if_pos (by rfl), g5, Option.bind_some]
      exact ⟨_, _, _, _, _, _, _, _, _, _, _, _, _, _, _, _, _, _, _, _, _, _, _, _, _, _, _, _, _, rfl, g6⟩
  · obtain ⟨n, hn1, hn, rfl⟩ := h3 rfl
    obtain ⟨l', hl', ⟨a1, a2, a3, a4, a5, b1, b2, b3, len1, B1, g1, g2, g3, g4⟩, ⟨len2, r1, r2, r3, r4, r5, B2, r6, r7, r8, r9, r10, r11, r12, g5, g6⟩⟩ := k_rounded (n := n) (way := w) (sg := sg) hm0 hmb he1 he2 hn1 hn hs1 hw hsc hln hsr (0 : Int32) (0 : Int32) row z3 z4 fm la te ll ld fg nl nd dl dd wl wd
    refine ⟨l', hl', ?_, ?_⟩
    · rw [if_neg (by decide), if_neg (by decide), if_neg (by decide), g1, Option.bind_some, if_neg (by decide), if_pos (by rfl), g2, Option.bind_some, Option.bind_some]
      dsimp only
      rw [if_neg (by decide), if_neg (by decide), if_pos (by rfl), g3, Option.bind_some, Option.bind_some]
      exact ⟨_, _, _, _, _, _, _, _, _, _, _, _, _, _, _, rfl, g4⟩
    · rw [if_pos (by decide), if_neg (by decide), if_pos (by rfl), g5, Option.bind_some]
      exact ⟨_, _, _, _, _, _, _, _, _, _, _, _, _, _, _, _, _, _, _, _, _, _, _, _, _, _, _, _, _, rfl, g6⟩
  · clear h2 h3
    obtain ⟨len1, B1, g1, g2⟩ := x3_six (k := kd) (m := m) (e := e) (by omega) (by omega) hmb hm0 (by omega) (by omega) hsc hln
    obtain ⟨len2, B2, g3, g4⟩ := x11_six (m := m) (e := e) hmb hm0 (by omega) (by omega) hsr hln
    refine ⟨l ++ sixL m e, ?_, ?_, ?_⟩
    · exact six_len m e hln
    · rw [if_pos (by rfl), g1, Option.bind_some]
      exact ⟨_, _, _, _, _, _, _, _, _, _, _, _, _, _, _, rfl, g2⟩
    · rw [if_pos (by decide), if_neg (by decide), if_neg (by decide), if_pos (by rfl), g3, Option.bind_some]
      exact ⟨_, _, _, _, _, _, _, _, _, _, _, _, _, _, _, _, _, _, _, _, _, _, _, _, _, _, _, _, _, rfl, g4⟩
  · obtain ⟨l', hl', ⟨a1, a2, a3, a4, a5, b1, len1, B1, g1, g2, g3, g4⟩, ⟨len2, r1, r2, r3, r4, B2, r5, r6, r7, g5, g6⟩⟩ := k_exact hm0 hmb he1 he2 hsc hln hsr (0 : Int32) (0 : Int32) row z3 z4 fm la ll ld fg wl wd
    refine ⟨l', hl', ?_, ?_⟩
    · rw [if_neg (by decide), if_neg (by decide), if_neg (by decide), g1, Option.bind_some, if_neg (by decide), if_neg (by decide), Option.bind_some]
      dsimp only
      rw [if_neg (by decide), if_neg (by decide), if_neg (by decide), g2, Option.bind_some, g3, Option.bind_some, Option.bind_some]
      exact ⟨_, _, _, _, _, _, _, _, _, _, _, _, _, _, _, rfl, g4⟩
    · rw [if_pos (by decide), if_neg (by decide), if_neg (by decide), if_neg (by decide), g5, Option.bind_some]
      exact ⟨_, _, _, _, _, _, _, _, _, _, _, _, _, _, _, _, _, _, _, _, _, _, _, _, _, _, _, _, _, rfl, g6⟩
