/-! write: the checks -/
theorem wr_good {F : Nat → Int32} {G : Nat → Int64} {fo : Nat} {p1 p3 p4 : Int32} (hfo : fo ≤ 5) (h2 : fo = 2 → ∃ n : Nat, n ≤ 60 ∧ p3 = uI n) (h3 : fo = 3 → ∃ n : Nat, 1 ≤ n ∧ n ≤ 60 ∧ p3 = uI n) (hw : f_X11_isWay p4 = some 1) (rk rm : Int32) (rl0 : Int64) (re : Int32) (sign : Int32) (power : Int32) (root : Int32) (th : Int32) (wr : Int32) (fm : Int32) (la : Int32) (te : Int32) (al : Int32) (ad : Nat → Int32) (bl0 : Int32) (bd : Nat → Int32) (ll : Int32) (ld : Nat → Int32) (rl : Int32) (rd : Nat → Int32) (gl : Int32) (gd : Nat → Int32) (tl : Int32) (td : Nat → Int32) (tx : Nat → Int32) (fg : Nat → Int32) (nl : Int32) (nd : Nat → Int32) (dl : Int32) (dd : Nat → Int32) (wl : Int32) (wd : Nat → Int32) (hl : Int32) (hd : Nat → Int32) :
    f_X11_write F G p1 (uI fo) p3 p4 rk rm rl0 re sign power root th wr fm la te al ad bl0 bd ll ld rl rd gl gd tl td tx fg nl nd dl dd wl wd hl hd = f_X11_write_B53 F G p1 (uI fo) p3 p4 (1 : Int32) rk rm rl0 re sign power root th wr fm la te al ad bl0 bd ll ld rl rd gl gd tl td tx fg nl nd dl dd wl wd hl hd := by
  have n0 : ¬ uI fo < 0 := uI_nneg (by omega)
  have n5 : ¬ (5 : Int32) < uI fo := fun x => by have := (uI_lt (a := 5) (by omega) (by omega)).mp x; omega
  unfold f_X11_write f_X11_write_B32 f_X11_write_B48
  rw [if_neg n0, if_neg n5, hw, Option.bind_some, if_neg (by decide)]
  by_cases c2 : fo = 2
  · obtain ⟨n, hn, rfl⟩ := h2 c2
    subst c2
    rw [if_pos (by rfl), if_neg (uI_nneg (by omega)), if_neg (by exact fun x => by have := (uI_lt (a := 60) (by omega) (by omega)).mp x; omega), if_neg (by decide)]
  · rw [if_neg (by exact fun x => c2 ((uI_eq (b := 2) (by omega) (by omega)).mp x))]
    by_cases c3 : fo = 3
    · obtain ⟨n, hn1, hn, rfl⟩ := h3 c3
      subst c3
      rw [if_pos (by rfl), if_neg (by exact fun x => by have := (uI_lt (b := 1) (by omega) (by omega)).mp x; omega), if_neg (by exact fun x => by have := (uI_lt (a := 60) (by omega) (by omega)).mp x; omega)]
    · rw [if_neg (by exact fun x => c3 ((uI_eq (b := 3) (by omega) (by omega)).mp x))]
theorem wr_bad {F : Nat → Int32} {G : Nat → Int64} {p1 p2 p3 p4 : Int32} {x : Int32} (hx : x = 0 ∨ x = 1) (hw : f_X11_isWay p4 = some x) (hb : x = 0 ∨ (p2 < 0 ∨ 5 < p2 ∨ (p2 = 2 ∧ (p3 < 0 ∨ 60 < p3)) ∨ (p2 = 3 ∧ (p3 < 1 ∨ 60 < p3)))) (rk rm : Int32) (rl0 : Int64) (re : Int32) (sign : Int32) (power : Int32) (root : Int32) (th : Int32) (wr : Int32) (fm : Int32) (la : Int32) (te : Int32) (al : Int32) (ad : Nat → Int32) (bl0 : Int32) (bd : Nat → Int32) (ll : Int32) (ld : Nat → Int32) (rl : Int32) (rd : Nat → Int32) (gl : Int32) (gd : Nat → Int32) (tl : Int32) (td : Nat → Int32) (tx : Nat → Int32) (fg : Nat → Int32) (nl : Int32) (nd : Nat → Int32) (dl : Int32) (dd : Nat → Int32) (wl : Int32) (wd : Nat → Int32) (hl : Int32) (hd : Nat → Int32) :
    f_X11_write F G p1 p2 p3 p4 rk rm rl0 re sign power root th wr fm la te al ad bl0 bd ll ld rl rd gl gd tl td tx fg nl nd dl dd wl wd hl hd = f_X11_write_B53 F G p1 p2 p3 p4 (0 : Int32) rk rm rl0 re sign power root th wr fm la te al ad bl0 bd ll ld rl rd gl gd tl td tx fg nl nd dl dd wl wd hl hd := by
  unfold f_X11_write f_X11_write_B32 f_X11_write_B52
  by_cases c0 : p2 < 0
  · rw [if_pos c0]
  rw [if_neg c0]
  by_cases c5 : 5 < p2
  · rw [if_pos c5]
  rw [if_neg c5, hw, Option.bind_some]
  rcases hx with rfl | rfl
  · rw [if_pos rfl]
  rw [if_neg (by decide)]
  rcases hb with g | g | g | ⟨g, g2⟩ | ⟨g, g2⟩
  · exact absurd g (by decide)
  · exact absurd g c0
  · exact absurd g c5
  · rw [if_pos g]
    by_cases d : p3 < 0
    · rw [if_pos d]
    · rcases g2 with g2 | g2
      · exact absurd g2 d
      · rw [if_neg d, if_pos g2]
  · rw [if_neg (by rw [g]; decide), if_pos g]
    by_cases d : p3 < 1
    · rw [if_pos d]
    · rcases g2 with g2 | g2
      · exact absurd g2 d
      · rw [if_neg d, if_pos g2]
