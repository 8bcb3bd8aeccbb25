/-! THE CLAIM OUT OF ONE WALK OF THE LAW'S BODY. Your part is whole_start (and what it stands on); all else here is the same for every law, but numbers. -/
def R_law : String := "FigurePressLaw"
def lw_P (b : Addr) (xs : List Int32) (args : Array Value) (s : State) : Prop := args = #[.ref b] ∧ s.IntsAt b xs ∧ xs.length ≤ 3072 ∧ (Jvm.Cond.and given_1 narrow_1).before args s = true
def lw_Q (_ : Array Value) (s : State) (o : Outcome) (t : State) : Prop := o = .returned (some (.int 1)) ∧ Framed s o t [] 3132 132442
def lw_Z (below : List Frame) (a : Array Value) (s : State) : State → Prop := fun t => ∃ o, t.status = .running ∧ Ended t below o ∧ lw_Q a s o t
/-- the law's own end, with 1 on the stack, nothing written that was there before, its room as the claim has it -/
theorem lw_ret {p : Program} {l : Launch} {e : Env} {s : State} {m : MethodId} {below : List Frame} {meth : Method} {c : Code} {b : Nat} (hx : p.tables.exec = Jvm.exec) (hb : c.code = code) (hr : meth.sig.returnType = ret) (hlocks : meth.locks = false) {pc : Nat} {H : Heap} {ls : Array Slot} (hdg : decode code pc = .ok (.ireturn, 1)) : W p l e room_1 s m #[Value.ref b] below meth c H [] 3132 132442 (lw_Z below #[Value.ref b] s) (F0 m pc ls [.int 1]) := by
  intro T hT X
  obtain ⟨fs, hret, hrun, hended, hW, hframe⟩ := X.leave (v := some (.int 1)) (hlocks := hlocks) (fun h => by rw [hr] at h; cases h)
  have hmeth' : T.vm.method? m = some meth := X.method'
  refine ⟨T.setFrames fs, ?_, .returned (some (.int 1)), hrun, hended, rfl, ⟨_, rfl⟩, hW, hframe⟩
  jvm_step X.here [X.here.top, hx, hb, hdg, hmeth', hr, ret, narrow_b1]
  (try refine ⟨rfl, ?_⟩); (try refine ⟨rfl, ?_⟩)
  first | (intro acts; rw [hret _ acts rfl rfl rfl]) | rw [hret _ _ rfl rfl rfl]
  exact Steps.refl _
/-- what holds at the law's entry: the machine, the code, the tables' words (any of lw_tbl by 'hts w (by decide +kernel)'), the script of L ints xs at the cell b, what the Statement gives of the start (any of its parts by flat_of_before) -/
def lw_At (p : Program) (s : State) (m : MethodId) (meth : Method) (c : Code) (b L : Nat) (xs : Nat → Int32) : Prop :=
  p.tables.exec = Jvm.exec ∧ c.code = code ∧ meth.sig.returnType = ret ∧ c.maxLocals = 8 ∧ s.vm.findClass R_law = some m.cls ∧ (∀ w ∈ lw_tbl, w.before #[Value.ref b] s = true) ∧ va_X b L xs s s.heap ∧ b < s.heap.size ∧ meth.locks = false ∧ (Jvm.Cond.and given_1 narrow_1).before #[Value.ref b] s = true

/-! what the statement gives of the start -/
def FL0 : List Cond := flatC (Jvm.Cond.and given_1 narrow_1)
def rwS (q : strRow) : List Cond := Cond.exactly (.string q.1 q.2.1) "java/lang/String" :: Cond.eq (.field (.string q.1 q.2.1) "java/lang/String" "coder" "B") (.int 0) :: Cond.arrayOf (.field (.string q.1 q.2.1) "java/lang/String" "value" "[B") .byte :: Cond.eq (.length (.field (.string q.1 q.2.1) "java/lang/String" "value" "[B")) (.int (Int32.ofNat q.2.2.2.length)) :: (List.range q.2.2.2.length).map (fun j => Cond.eq (.elem (.field (.string q.1 q.2.1) "java/lang/String" "value" "[B") (.int (Int32.ofNat j))) (.int (q.2.2.2.getD j 0)))
def stS : List Nat := [52, 74, 98, 126, 148, 163, 201, 214, 228, 256, 296, 313, 331, 352, 372, 393, 415, 438, 464, 488]
def stR : List Nat := [356, 372, 423, 441, 572, 736, 760, 813, 861, 862, 871, 883, 888, 889, 1431, 1442, 1447, 1448, 1449, 1500]
set_option maxRecDepth 100000 in
theorem ev_chk : ∀ p ∈ strTab.zip stS, (FL0.drop p.2).take (rwS p.1).length = rwS p.1 := by decide +kernel
set_option maxRecDepth 100000 in
theorem ev_ref : ∀ p ∈ strTab.zip stR, tables_1[p.2]? = some (Cond.stringRef p.1.1 p.1.2.1 p.1.2.2.1) := by decide +kernel
theorem ev_len : ∀ q ∈ strTab, q.2.2.2.length < 100 := by decide +kernel
theorem zip_at {α β : Type} {l1 : List α} {l2 : List β} {i : Nat} {q : α} (hl : l1.length = l2.length) (h : l1[i]? = some q) : ∃ a, (q, a) ∈ l1.zip l2 := by
  have hi := (List.getElem?_eq_some_iff.mp h).1
  exact ⟨l2[i]'(by omega), List.mem_of_getElem? (i := i) (List.getElem?_zip_eq_some.mpr ⟨h, List.getElem?_eq_getElem (by omega)⟩)⟩
theorem ev_mem {i : Nat} {q : strRow} (h : strTab[i]? = some q) : ∀ w ∈ rwS q, w ∈ FL0 := by
  obtain ⟨a, ha⟩ := zip_at (l1 := strTab) (l2 := stS) rfl h
  have e := ev_chk _ ha
  intro w hw
  rw [← e] at hw
  exact List.mem_of_mem_drop (List.mem_of_mem_take hw)
theorem ev_start {s : State} {ar : Array Value} (hts : ∀ w ∈ lw_tbl, w.before ar s = true) (hg : (Jvm.Cond.and given_1 narrow_1).before ar s = true) : ∃ sa sv : Nat → Nat, EV sa sv (fun q : Nat => s.heap.size ≤ q) s s.heap := by
  have hf := flat_of_before _ hg
  have hA : ∀ a : Nat, a < s.heap.size → ¬ (fun q : Nat => s.heap.size ≤ q) a := fun a h1 h2 => Nat.not_le.mpr h1 h2
  have htT : ∀ (i : Nat) (w : Cond), tables_1[i]? = some w → w.before ar s = true := fun i w h => hts w (List.mem_append_right _ (List.mem_of_getElem? h))
  have hfi : ∀ (i : Nat) (w : Cond), FL0[i]? = some w → w.before ar s = true := fun i w h => hf w (List.mem_of_getElem? h)
  have h0 : ∀ i : Nat, ∃ z : Nat × Nat, ∀ q : strRow, strTab[i]? = some q → vk_R q.1 q.2.1 q.2.2.1 z.1 s ∧ va_O "java/lang/String" z.1 (fun q : Nat => s.heap.size ≤ q) s s.heap ∧ va_OF "java/lang/String" "coder" "B" (.int 0) z.1 (fun q : Nat => s.heap.size ≤ q) s s.heap ∧ va_OF "java/lang/String" "value" "[B" (.ref z.2) z.1 (fun q : Nat => s.heap.size ≤ q) s s.heap ∧ va_T .byte z.2 q.2.2.2.length (fun j => .int (q.2.2.2.getD j 0)) (fun q : Nat => s.heap.size ≤ q) s s.heap := by
    intro i
    cases hi : strTab[i]? with
    | none => exact ⟨(0, 0), fun q h => by cases h⟩
    | some q =>
      have hm := fun w hw => hf w (ev_mem hi w hw)
      have hlen := ev_len q (List.mem_of_getElem? hi)
      have hex : (Cond.exactly (.string q.1 q.2.1) "java/lang/String").before ar s = true := hm _ List.mem_cons_self
      have hco : (Cond.eq (.field (.string q.1 q.2.1) "java/lang/String" "coder" "B") (.int 0)).before ar s = true := hm _ (List.mem_cons_of_mem _ List.mem_cons_self)
      have har : (Cond.arrayOf (.field (.string q.1 q.2.1) "java/lang/String" "value" "[B") .byte).before ar s = true := hm _ (List.mem_cons_of_mem _ (List.mem_cons_of_mem _ List.mem_cons_self))
      have hle : (Cond.eq (.length (.field (.string q.1 q.2.1) "java/lang/String" "value" "[B")) (.int (Int32.ofNat q.2.2.2.length))).before ar s = true := hm _ (List.mem_cons_of_mem _ (List.mem_cons_of_mem _ (List.mem_cons_of_mem _ List.mem_cons_self)))
      have hel : ∀ j : Nat, j < q.2.2.2.length → (Cond.eq (.elem (.field (.string q.1 q.2.1) "java/lang/String" "value" "[B") (.int (Int32.ofNat j))) (.int (q.2.2.2.getD j 0))).before ar s = true := fun j hj => hm _ (List.mem_cons_of_mem _ (List.mem_cons_of_mem _ (List.mem_cons_of_mem _ (List.mem_cons_of_mem _ (List.mem_map.mpr ⟨j, List.mem_range.mpr hj, rfl⟩)))))
      obtain ⟨a, c, cA, kA, q1, q2, q3, q4, q5, q6, -⟩ := Cond.exactly_spec (args := ar) (first := s) (o := none) (s := s) (idx := []) (t := .string q.1 q.2.1) (cls := "java/lang/String") hex
      obtain ⟨t, ht, hT⟩ := va_Tof (f := fun j => .int (q.2.2.2.getD j 0)) (A := fun q : Nat => s.heap.size ≤ q) (by omega) har (va_eqt hle) (fun j hj => va_eqt (hel j hj)) hA
      obtain ⟨a9, ha9⟩ := zip_at (l1 := strTab) (l2 := stR) rfl hi
      refine ⟨(a, t), fun q' hq' => ?_⟩
      cases hq'
      exact ⟨vk_R.of (htT _ _ (ev_ref _ ha9)) q1, ⟨cA, q3, q5, by rw [q6]; exact q2, hA a (Array.getElem?_eq_some_iff.mp q3).1⟩, vk_OFof q1 (va_eqt hco) hA, vk_OFof q1 ht hA, hT⟩
  obtain ⟨z, hz⟩ := Classical.axiomOfChoice h0
  refine ⟨fun i => (z i).1, fun i => (z i).2, ⟨?_, ?_, ?_, ?_⟩, fun i q hi => (hz i q hi).1, fun i q hi => (hz i q hi).2⟩
  · exact vx_Zqof (htT 280 _ (by decide +kernel)) (htT 12 _ (by decide +kernel)) (hfi 4 _ (by decide +kernel)) hA
  · exact vx_Zqof (htT 282 _ (by decide +kernel)) (htT 12 _ (by decide +kernel)) (hfi 5 _ (by decide +kernel)) hA
  · exact va_Zof (htT 774 _ (by decide +kernel)) (htT 17 _ (by decide +kernel)) (va_eqt (hfi 6 _ (by decide +kernel))) hA
  · exact va_Zqof (htT 790 _ (by decide +kernel)) (htT 25 _ (by decide +kernel)) (hfi 7 _ (by decide +kernel)) hA
theorem nc_start {s : State} {ar : Array Value} (hg : (Jvm.Cond.and given_1 narrow_1).before ar s = true) : NC s := by
  have hf := flat_of_before _ hg
  have hfi : ∀ (i : Nat) (w : Cond), FL0[i]? = some w → w.before ar s = true := fun i w h => hf w (List.mem_of_getElem? h)
  exact ⟨va_Nc.of (hfi 22 _ (by decide +kernel)), va_Nc.of (hfi 23 _ (by decide +kernel)), va_Nc.of (hfi 37 _ (by decide +kernel))⟩
theorem nw_on {w : Cond} (h : isNestW w = true) : w.onTables = true := by
  cases w <;> first | rfl | exact (Bool.false_ne_true h).elim
theorem nw_start {s : State} {ar : Array Value} (hts : ∀ w ∈ lw_tbl, w.before ar s = true) : NW s := fun w hw =>
  va_Nw.of (nw_on (List.mem_filter.mp hw).2) (hts w (List.mem_filter.mp hw).1)
theorem uwJ0 : ∀ w ∈ u_ws RJ0 TJ0 2, w ∈ WT := wt_all [335, 337] (by decide +kernel) (by decide +kernel)
theorem uwJx00060 : ∀ w ∈ u_ws RJx00060 TJx00060 6, w ∈ WT := wt_all [301, 303, 305, 307, 309, 311] (by decide +kernel) (by decide +kernel)
theorem arr_start {s : State} {ar : Array Value} {ty : FieldType} (h : (Cond.arrayClass ty).before ar s = true) (hty : ty = .int ∨ ty = .long) : ∃ cA : ClassId, ArrOfT s cA ty ∧ va_RA s cA ty := by
  obtain ⟨c, k, comp, h1, h2, h3⟩ := Cond.arrayClass_spec h
  refine ⟨c, fun n z => ⟨fun k h => (by cases h), k, h2, comp, h3⟩, ?_⟩
  rcases hty with rfl | rfl
  · exact h1
  · exact h1
theorem kcl9_8 : Cond.classLink RL 8 RX9 ∈ WT := wtT 27 (by decide +kernel) rfl
theorem kcl9_81 : Cond.classLink RL 81 RX11 ∈ WT := wtT 1019 (by decide +kernel) rfl
theorem win9_9 : Cond.instantiable RX9 8 ∈ WT := wtT 28 (by decide +kernel) rfl
theorem win9_11 : Cond.instantiable RX11 36 ∈ WT := wtT 1020 (by decide +kernel) rfl
theorem wiz9_9 : Cond.initialized RX9 ∈ WT := wtT 1 (by decide +kernel) rfl
theorem wiz9_11 : Cond.initialized RX11 ∈ WT := wtT 10 (by decide +kernel) rfl
theorem kmi9_80 : Cond.methodLink RL 80 yX9_init ∈ WT := wtT 29 (by decide +kernel) rfl
theorem kmi9_83 : Cond.methodLink RL 83 yX11_init ∈ WT := wtT 1021 (by decide +kernel) rfl
theorem k_start {s : State} {ar : Array Value} (hts : ∀ w ∈ WT, w.before ar s = true) : ∃ (D : va_G) (cI cJ : ClassId), va_K D vwCl (tyIJ cI cJ) s := by
  have h0 : ∀ k : Nat, ∃ d : ClassId × (Nat → Nat), ∀ q : vw_C, vwCl[k]? = some q → u_Kn s q.1 q.2.1 q.2.2 d.1 d.2 := by
    intro k
    match k with
    | 0 =>
      obtain ⟨c, iS, h⟩ := u_known (C := RJ0) (T := TJ0) (N := 2) (n := 4) hts uwJ0 (hts (.instantiable RJ0 4) (wtT 333 (by decide +kernel) rfl))
      exact ⟨(c, iS), fun q hq => by cases hq; exact h⟩
    | 1 =>
      obtain ⟨c, iS, h⟩ := u_known (C := RJx00060) (T := TJx00060) (N := 6) (n := 6) hts uwJx00060 (hts (.instantiable RJx00060 6) (wtT 263 (by decide +kernel) rfl))
      exact ⟨(c, iS), fun q hq => by cases hq; exact h⟩
    | 2 =>
      obtain ⟨c, iS, h⟩ := u_known (C := RX0) (T := TX0) (N := 2) (n := 2) hts uwX0 (hts (.instantiable RX0 2) (wtT 134 (by decide +kernel) rfl))
      exact ⟨(c, iS), fun q hq => by cases hq; exact h⟩
    | 3 =>
      obtain ⟨c, iS, h⟩ := u_known (C := RX1) (T := TX1) (N := 3) (n := 3) hts uwX1 (hts (.instantiable RX1 3) (wtT 194 (by decide +kernel) rfl))
      exact ⟨(c, iS), fun q hq => by cases hq; exact h⟩
    | 4 =>
      obtain ⟨c, iS, h⟩ := u_known (C := RX3) (T := TX3) (N := 4) (n := 4) hts uwX3 (hts (.instantiable RX3 4) (wtT 147 (by decide +kernel) rfl))
      exact ⟨(c, iS), fun q hq => by cases hq; exact h⟩
    | 5 =>
      obtain ⟨c, iS, h⟩ := u_known (C := RX4) (T := TX4) (N := 2) (n := 2) hts uwX4 (hts (.instantiable RX4 2) (wtT 121 (by decide +kernel) rfl))
      exact ⟨(c, iS), fun q hq => by cases hq; exact h⟩
    | 6 =>
      obtain ⟨c, iS, h⟩ := u_known (C := RX5) (T := TX5) (N := 2) (n := 2) hts uwX5 (hts (.instantiable RX5 2) (wtT 180 (by decide +kernel) rfl))
      exact ⟨(c, iS), fun q hq => by cases hq; exact h⟩
    | 7 =>
      obtain ⟨c, iS, h⟩ := u_known (C := RX6) (T := TX6) (N := 6) (n := 6) hts uwX6 (hts (.instantiable RX6 6) (wtT 149 (by decide +kernel) rfl))
      exact ⟨(c, iS), fun q hq => by cases hq; exact h⟩
    | 8 =>
      obtain ⟨c, iS, h⟩ := u_known (C := RX7) (T := TX7) (N := 10) (n := 10) hts uwX7 (hts (.instantiable RX7 10) (wtT 77 (by decide +kernel) rfl))
      exact ⟨(c, iS), fun q hq => by cases hq; exact h⟩
    | 9 =>
      obtain ⟨c, iS, h⟩ := u_known (C := RX8) (T := TX8) (N := 5) (n := 5) hts uwX8 (hts (.instantiable RX8 5) (wtT 36 (by decide +kernel) rfl))
      exact ⟨(c, iS), fun q hq => by cases hq; exact h⟩
    | 10 =>
      obtain ⟨c, iS, h⟩ := u_known (C := RX9) (T := TX9) (N := 8) (n := 8) hts uwX9 (hts (.instantiable RX9 8) (wtT 28 (by decide +kernel) rfl))
      exact ⟨(c, iS), fun q hq => by cases hq; exact h⟩
    | 11 =>
      obtain ⟨c, iS, h⟩ := u_known (C := RX10) (T := TX10) (N := 2) (n := 2) hts uwX10 (hts (.instantiable RX10 2) (wtT 1026 (by decide +kernel) rfl))
      exact ⟨(c, iS), fun q hq => by cases hq; exact h⟩
    | 12 =>
      obtain ⟨c, iS, h⟩ := u_known (C := RX11) (T := TX11) (N := 36) (n := 36) hts uwX11 (hts (.instantiable RX11 36) (wtT 1020 (by decide +kernel) rfl))
      exact ⟨(c, iS), fun q hq => by cases hq; exact h⟩
    | k + 13 => exact ⟨(default, fun _ => 0), fun q hq => by cases hq⟩
  obtain ⟨d, hd⟩ := Classical.axiomOfChoice h0
  obtain ⟨cI, hI1, hI2⟩ := arr_start (hts _ wArI) (Or.inl rfl)
  obtain ⟨cJ, hJ1, hJ2⟩ := arr_start (hts _ wArJ) (Or.inr rfl)
  refine ⟨(fun k => (d k).1, fun k => (d k).2), cI, cJ, fun k q hq => hd k q hq, fun k q hk => ?_⟩
  match k, hk with
  | 0, hk => cases hk; exact ⟨hI1, hI2⟩
  | 1, hk => cases hk; exact ⟨hJ1, hJ2⟩
  | k + 2, hk => cases hk
theorem wf_start : wfp (fun _ => 0) (fun _ => 0) := fun i _ => ⟨0, 0, 0, by decide, by decide, by decide, rfl, show (0 : Int64) = uL (pat 0 0 0) by decide⟩
