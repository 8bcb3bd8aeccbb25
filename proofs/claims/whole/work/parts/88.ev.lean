/-! What a method that throws, or reads a text, takes as given beside its cells: statics of Throwable and String, and the constant texts (a text by its number in strTab). -/
def EV (sa sv : Nat → Nat) (A : Nat → Prop) (U : State) (H : Heap) : Prop :=
  (vx_Zq Bundle.tN "UNASSIGNED_STACK" Bundle.steD A U H ∧ vx_Zq Bundle.tN "SUPPRESSED_SENTINEL" Bundle.listD A U H ∧ va_Z "java/lang/String" "COMPACT_STRINGS" "Z" (.int 1) A U H ∧ va_Zq "jdk/internal/util/Preconditions" "SIOOBE_FORMATTER" "Ljava/util/function/BiFunction;" A U H) ∧
  (∀ (i : Nat) (q : strRow), strTab[i]? = some q → vk_R q.1 q.2.1 q.2.2.1 (sa i) U) ∧
  ∀ (i : Nat) (q : strRow), strTab[i]? = some q → va_O "java/lang/String" (sa i) A U H ∧ va_OF "java/lang/String" "coder" "B" (.int 0) (sa i) A U H ∧ va_OF "java/lang/String" "value" "[B" (.ref (sv i)) (sa i) A U H ∧ va_T .byte (sv i) q.2.2.2.length (fun j => .int (q.2.2.2.getD j 0)) A U H
theorem EV.kept {sa sv : Nat → Nat} {A : Nat → Prop} {U : State} {H H1 : Heap} (h : EV sa sv A U H) (hq : ∀ a : Nat, a < H.size → ¬ A a → H1[a]? = H[a]?) : EV sa sv A U H1 :=
  ⟨⟨h.1.1.kept hq, h.1.2.1.kept hq, h.1.2.2.1.kept hq, h.1.2.2.2.kept hq⟩, h.2.1, fun i q hi => ⟨(h.2.2 i q hi).1.kept hq, (h.2.2 i q hi).2.1.kept hq, (h.2.2 i q hi).2.2.1.kept hq, (h.2.2 i q hi).2.2.2.kept hq⟩⟩
theorem EV.narrow {sa sv : Nat → Nat} {A B : Nat → Prop} {U : State} {H : Heap} (h : EV sa sv A U H) (hq : ∀ q, B q → A q) : EV sa sv B U H :=
  ⟨⟨h.1.1.narrow hq, h.1.2.1.narrow hq, h.1.2.2.1.narrow hq, h.1.2.2.2.narrow hq⟩, h.2.1, fun i q hi => ⟨(h.2.2 i q hi).1.narrow hq, (h.2.2 i q hi).2.1.narrow hq, (h.2.2 i q hi).2.2.1.narrow hq, (h.2.2 i q hi).2.2.2.narrow hq⟩⟩
theorem EV.warm {sa sv : Nat → Nat} {A : Nat → Prop} {s U : State} {H : Heap} (hW : s.WarmedH U.vm) (h : EV sa sv A s H) : EV sa sv A U H :=
  ⟨⟨h.1.1.moved hW.alike, h.1.2.1.moved hW.alike, h.1.2.2.1.moved hW.alike, h.1.2.2.2.moved hW.alike⟩, fun i q hi => vk_R.warm hW (h.2.1 i q hi), fun i q hi => ⟨(h.2.2 i q hi).1.moved hW.alike, (h.2.2 i q hi).2.1.moved hW.alike, (h.2.2 i q hi).2.2.1.moved hW.alike, (h.2.2 i q hi).2.2.2.moved hW.alike⟩⟩
theorem EV.same {sa sv : Nat → Nat} {A : Nat → Prop} {u U : State} {H : Heap} (hv : U.vm = u.vm) (h : EV sa sv A u H) : EV sa sv A U H := by
  have hA : u.vm.Alike U.vm := by rw [hv]; exact Vm.Alike.refl u.vm
  exact ⟨⟨h.1.1.moved hA, h.1.2.1.moved hA, h.1.2.2.1.moved hA, h.1.2.2.2.moved hA⟩, fun i q hi => vk_R.same hv (h.2.1 i q hi), fun i q hi => ⟨(h.2.2 i q hi).1.moved hA, (h.2.2 i q hi).2.1.moved hA, (h.2.2 i q hi).2.2.1.moved hA, (h.2.2 i q hi).2.2.2.moved hA⟩⟩
def PreX (D : va_G) (cI cJ : ClassId) (sa sv : Nat → Nat) (z : Nat) (ws : va_W) (U : State) : Prop := PreB D cI cJ z ws U ∧ EV sa sv (va_A ws z) U U.heap
theorem PreX.blind {D : va_G} {cI cJ : ClassId} {sa sv : Nat → Nat} {z : Nat} {ws : va_W} {As : List Value} : FrameBlind (va_Pc As (PreX D cI cJ sa sv z ws)) := fun a U g mk q => by
  obtain ⟨q0, q1, q2⟩ := q
  exact ⟨q0, (PreB.blind a U g mk ⟨q0, q1⟩).2, EV.same (u := U) (U := U.calling g mk a) rfl q2⟩
theorem PreX.use {s : State} {H : Heap} {D : va_G} {cI cJ : ClassId} {sa sv : Nat → Nat} {ws : va_W} {A : Nat → Prop} {locs : List Loc} (As : List Value) (hP : va_P D vwCl ws H) (hK : va_K D vwCl (tyIJ cI cJ) s) (hD : va_D A ws) (hN : NW s) (hE : EV sa sv A s s.heap) (hS : va_S A s.heap H locs) (hF : ∀ q, va_A ws H.size q → A q) : ∀ U : State, U.heap = H → s.WarmedH U.vm → va_Pc As (PreX D cI cJ sa sv H.size ws) As.toArray U := fun U hU hW =>
  ⟨rfl, (PreB.use As hP hK hD hN U hU hW).2, by rw [hU]; exact ((hE.kept hS.2.1).narrow hF).warm hW⟩
abbrev rmc (fr mc ms lo : Nat) : Room := { frames := fr, cells := mc, slots := ms, locals := lo }
abbrev pxB (D : va_G) (A : Nat → Prop) (w : va_W) (t : State) : Prop := va_P D vwCl w t.heap ∧ va_D A w
/-- contracts of methods that return or throw: PR says what comes back and how the cells are then, PX which exception, and how the cells are then -/
def CxI (l : Launch) (y : MethodName) (b : ByteArray) (nL fr mc ms lo : Nat) (ret : FieldType) (As : List Value) (D : va_G) (cI cJ : ClassId) (sa sv : Nat → Nat) (ws : va_W) (PR : Int32 → va_W → Prop) (PX : String → va_W → Prop) : Prop :=
  ∀ z : Nat, vx_Met l y (Cond.code y b nL (some ret) :: WT) (rmc fr mc ms lo) (va_Pc As (PreX D cI cJ sa sv z ws)) (va_Qi PR (pxB D (va_A ws z)) (va_A ws z)) (vx_X (fun (w : String × va_W) => PX w.1 w.2) (fun E w t => E = w.1 ∧ pxB D (va_A ws z) w.2 t) (va_A ws z)) mc ms (va_A ws z)
def CxL (l : Launch) (y : MethodName) (b : ByteArray) (nL fr mc ms lo : Nat) (As : List Value) (D : va_G) (cI cJ : ClassId) (sa sv : Nat → Nat) (ws : va_W) (PR : Int64 → va_W → Prop) (PX : String → va_W → Prop) : Prop :=
  ∀ z : Nat, vx_Met l y (Cond.code y b nL (some .long) :: WT) (rmc fr mc ms lo) (va_Pc As (PreX D cI cJ sa sv z ws)) (va_Ql PR (pxB D (va_A ws z)) (va_A ws z)) (vx_X (fun (w : String × va_W) => PX w.1 w.2) (fun E w t => E = w.1 ∧ pxB D (va_A ws z) w.2 t) (va_A ws z)) mc ms (va_A ws z)
def CxV (l : Launch) (y : MethodName) (b : ByteArray) (nL fr mc ms lo : Nat) (As : List Value) (D : va_G) (cI cJ : ClassId) (sa sv : Nat → Nat) (ws : va_W) (PR : va_W → Prop) (PX : String → va_W → Prop) : Prop :=
  ∀ z : Nat, vx_Met l y (Cond.code y b nL none :: WT) (rmc fr mc ms lo) (va_Pc As (PreX D cI cJ sa sv z ws)) (va_Qv PR (pxB D (va_A ws z)) (va_A ws z)) (vx_X (fun (w : String × va_W) => PX w.1 w.2) (fun E w t => E = w.1 ∧ pxB D (va_A ws z) w.2 t) (va_A ws z)) mc ms (va_A ws z)
/-- the words of a 'throw new X(text)' in the class own -/
def ThrW (own : String) (ik ic : Nat) (cls : String) (names : List String) : Prop :=
  Bundle.fit cls = true ∧ (∀ n ∈ names, Bundle.fit n = true) ∧ Cond.classLink own ik cls ∈ WT ∧ Cond.initialized cls ∈ WT ∧ (∀ w ∈ vx_atS own ic cls names, (w ∈ WT ∨ (w ∈ NT ∧ w.onTables = true))) ∧ ∀ w ∈ Cond.classLink own ik cls :: Cond.initialized cls :: vx_atS own ic cls names, vx_ot w = true
theorem mkXI {l : Launch} (hst : l.stackTraces = false) {y : MethodName} {b : ByteArray} {nL fr mc ms lo : Nat} {As : List Value} {D : va_G} {cI cJ : ClassId} {sa sv : Nat → Nat} {ws : va_W} {PR : Int32 → va_W → Prop} {PX : String → va_W → Prop} {own : String} (ho : y.cls = own) (hy : plainName own = true) (hn : (lg_sl As).length ≤ nL) {lv : List (Nat × Value)} (hlv : lv_args 0 As = lv)
    (body : ∀ (p : Program) (e : Env) (s : State) (m : MethodId) (below : List Frame) (meth : Method) (c : Code) (Q : State → Prop) (A : Nat → Prop) (ls : Array Slot) (ar : Array Value), CallFix p m c b nL s ar WT own → (∀ q : Nat, s.heap.size ≤ q → A q) → va_K D vwCl (tyIJ cI cJ) s → NW s → EV sa sv A s s.heap →
      (∀ (r : Int32) (w : va_W) (H : Heap) (locs : List Loc) (ls : Array Slot) (pc cells slots : Nat), PR r w → cells ≤ mc → slots ≤ ms → decode b pc = .ok (.ireturn, 1) → va_P D vwCl w H → va_D A w → va_S A s.heap H locs → W p l e (rmc fr mc ms lo) s m ar below meth c H locs cells slots Q (F0 m pc ls [.int r])) →
      (∀ (E : String) (w : va_W) (H : Heap) (locs : List Loc) (ls : Array Slot) (pc cells slots : Nat) (rest : List Value) (q : Addr) (ce : Cell), PX E w → cells ≤ mc → slots ≤ ms → H[q]? = some ce → ce.vm = .none → s.vm.findClass E = some ce.cls → va_P D vwCl w H → va_D A w → va_S A s.heap H locs → vx_W p l e (rmc fr mc ms lo) s m ar below meth c H locs cells slots Q (F0 m pc ls rest) q) →
      (∀ (cls : String) (names : List String) (ik is ic i : Nat) (text : String) (bs : List Int32) (w : va_W) (H : Heap) (locs : List Loc) (ls : Array Slot) (pc cells slots : Nat) (rest : List Value), ThrW own ik ic cls names → strTab[i]? = some (own, is, text, bs) → PX cls w → ls.size = nL → decode b pc = .ok (.new ik, 3) → decode b (pc + 3) = .ok (.dup, 1) → decode b (pc + 4) = .ok (.ldc is, 2) → decode b (pc + 6) = .ok (.invokespecial ic, 3) → decode b (pc + 9) = .ok (.athrow, 1) →
        names.length + 3 < fr → (rest.map fun v => v.category).sum + (13 * (names.length + 1) + 43) ≤ lo → cells + 1 ≤ mc → slots + 6 ≤ ms → va_P D vwCl w H → va_D A w → va_S A s.heap H locs → W p l e (rmc fr mc ms lo) s m ar below meth c H locs cells slots Q (F0 m pc ls rest)) →
      ∀ (H : Heap) (locs : List Loc), va_P D vwCl ws H → va_D A ws → va_S A s.heap H locs → lv_has ls nL lv → W p l e (rmc fr mc ms lo) s m ar below meth c H locs 0 0 Q (F0 m 0 ls [])) : CxI l y b nL fr mc ms lo .int As D cI cJ sa sv ws PR PX := by
  intro z
  subst ho
  refine vx_ofW (cc := b) (maxL := nL) (ret := (some .int)) hy rfl ?_
  intro p e s m args below meth c s₁ B hml ht hv
  obtain ⟨rfl, ⟨hsz, hP, hK, hD0, hN⟩, hE⟩ := hv
  have hts := atoms_spec (ws := Cond.code y b nL (some .int) :: WT) B.pre
  have htW : ∀ w ∈ WT, w.before As.toArray s = true := fun w hw => hts w (List.mem_cons_of_mem _ hw)
  subst hsz
  rw [lg_entry_eq]
  have hl := lv_entry As (n := nL) hn
  rw [hlv] at hl
  have hown := findClass_of_methodNamed B.named
  refine body p e s m below meth c _ (va_A ws s.heap.size) _ _ ⟨B.exec, B.bytes, hml, hown, htW⟩ (fun q h => Or.inr h) hK hN hE ?_ ?_ ?_ _ _ hP hD0.self va_S.rf hl
  · intro r w H locs ls pc cells slots hPR hc hs hd hP' hD' hS'
    refine vx_ret (W.widen hc hs ?_)
    exact W.iret B.exec B.bytes B.returns (fun t ht9 _ => ⟨⟨r, w, rfl, hPR, by rw [ht9]; exact hP', hD'⟩, hS'.F ht9⟩) hS'.2.2 hd B.notSynchronized
  · intro E w H locs ls pc cells slots rest q ce hPX hc hs hq hv hcl hP' hD' hS'
    exact vx_out (fun x hx => (ht x hx).elim) B.notSynchronized hq hv hcl (fun t ht9 _ => ⟨(E, w), hPX, ⟨rfl, by rw [ht9]; exact hP', hD'⟩, hS'.F ht9⟩) hS'.2.2 hc hs
  · intro cls names ik is ic i text bs w H locs ls pc cells slots rest hT hi hPX hsz d0 d3 d4 d6 d9 hfr hlo hc hs hP' hD' hS'
    have hvk := hE.2.1 i _ hi
    refine vx_throwS B.exec B.bytes hst (own := y.cls) (cls := cls) (names := names) (text := text) (sa := sa i) (A := va_A ws s.heap.size) hown hT.1 hT.2.1 (htW _ hT.2.2.1) (htW _ hT.2.2.2.1) hvk (fun w hw => ?_) hT.2.2.2.2.2 hE.1.1 hE.1.2.1 hS' (hsz.trans hml.symm) d0 d3 d4 d6 d9 (fun x hx => (ht x hx).elim) hfr hlo hc hs B.notSynchronized (fun t hal hz hk => ?_) hS'.2.2 hc hs
    · rcases hT.2.2.2.2.1 w hw with h | ⟨h, h1⟩
      · exact htW w h
      · exact hN.get h h1
    · refine ⟨(cls, w), hPX, ⟨rfl, hP'.kept (fun k q hq => hk q.1 (hP' k q hq).lt), hD'⟩, Nat.le_trans hS'.1 hz, fun q h1 h2 => ?_⟩
      rw [hk q (Nat.lt_of_lt_of_le h1 hS'.1)]
      exact hS'.2.1 q h1 h2
theorem mkXL {l : Launch} (hst : l.stackTraces = false) {y : MethodName} {b : ByteArray} {nL fr mc ms lo : Nat} {As : List Value} {D : va_G} {cI cJ : ClassId} {sa sv : Nat → Nat} {ws : va_W} {PR : Int64 → va_W → Prop} {PX : String → va_W → Prop} {own : String} (ho : y.cls = own) (hy : plainName own = true) (hn : (lg_sl As).length ≤ nL) {lv : List (Nat × Value)} (hlv : lv_args 0 As = lv)
    (body : ∀ (p : Program) (e : Env) (s : State) (m : MethodId) (below : List Frame) (meth : Method) (c : Code) (Q : State → Prop) (A : Nat → Prop) (ls : Array Slot) (ar : Array Value), CallFix p m c b nL s ar WT own → (∀ q : Nat, s.heap.size ≤ q → A q) → va_K D vwCl (tyIJ cI cJ) s → NW s → EV sa sv A s s.heap →
      (∀ (r : Int64) (w : va_W) (H : Heap) (locs : List Loc) (ls : Array Slot) (pc cells slots : Nat), PR r w → cells ≤ mc → slots ≤ ms → decode b pc = .ok (.lreturn, 1) → va_P D vwCl w H → va_D A w → va_S A s.heap H locs → W p l e (rmc fr mc ms lo) s m ar below meth c H locs cells slots Q (F0 m pc ls [.long r])) →
      (∀ (E : String) (w : va_W) (H : Heap) (locs : List Loc) (ls : Array Slot) (pc cells slots : Nat) (rest : List Value) (q : Addr) (ce : Cell), PX E w → cells ≤ mc → slots ≤ ms → H[q]? = some ce → ce.vm = .none → s.vm.findClass E = some ce.cls → va_P D vwCl w H → va_D A w → va_S A s.heap H locs → vx_W p l e (rmc fr mc ms lo) s m ar below meth c H locs cells slots Q (F0 m pc ls rest) q) →
      (∀ (cls : String) (names : List String) (ik is ic i : Nat) (text : String) (bs : List Int32) (w : va_W) (H : Heap) (locs : List Loc) (ls : Array Slot) (pc cells slots : Nat) (rest : List Value), ThrW own ik ic cls names → strTab[i]? = some (own, is, text, bs) → PX cls w → ls.size = nL → decode b pc = .ok (.new ik, 3) → decode b (pc + 3) = .ok (.dup, 1) → decode b (pc + 4) = .ok (.ldc is, 2) → decode b (pc + 6) = .ok (.invokespecial ic, 3) → decode b (pc + 9) = .ok (.athrow, 1) →
        names.length + 3 < fr → (rest.map fun v => v.category).sum + (13 * (names.length + 1) + 43) ≤ lo → cells + 1 ≤ mc → slots + 6 ≤ ms → va_P D vwCl w H → va_D A w → va_S A s.heap H locs → W p l e (rmc fr mc ms lo) s m ar below meth c H locs cells slots Q (F0 m pc ls rest)) →
      ∀ (H : Heap) (locs : List Loc), va_P D vwCl ws H → va_D A ws → va_S A s.heap H locs → lv_has ls nL lv → W p l e (rmc fr mc ms lo) s m ar below meth c H locs 0 0 Q (F0 m 0 ls [])) : CxL l y b nL fr mc ms lo As D cI cJ sa sv ws PR PX := by
  intro z
  subst ho
  refine vx_ofW (cc := b) (maxL := nL) (ret := (some .long)) hy rfl ?_
  intro p e s m args below meth c s₁ B hml ht hv
  obtain ⟨rfl, ⟨hsz, hP, hK, hD0, hN⟩, hE⟩ := hv
  have hts := atoms_spec (ws := Cond.code y b nL (some .long) :: WT) B.pre
  have htW : ∀ w ∈ WT, w.before As.toArray s = true := fun w hw => hts w (List.mem_cons_of_mem _ hw)
  subst hsz
  rw [lg_entry_eq]
  have hl := lv_entry As (n := nL) hn
  rw [hlv] at hl
  have hown := findClass_of_methodNamed B.named
  refine body p e s m below meth c _ (va_A ws s.heap.size) _ _ ⟨B.exec, B.bytes, hml, hown, htW⟩ (fun q h => Or.inr h) hK hN hE ?_ ?_ ?_ _ _ hP hD0.self va_S.rf hl
  · intro r w H locs ls pc cells slots hPR hc hs hd hP' hD' hS'
    refine vx_ret (W.widen hc hs ?_)
    exact W.lret B.exec B.bytes B.returns (fun t ht9 _ => ⟨⟨r, w, rfl, hPR, by rw [ht9]; exact hP', hD'⟩, hS'.F ht9⟩) hS'.2.2 hd B.notSynchronized
  · intro E w H locs ls pc cells slots rest q ce hPX hc hs hq hv hcl hP' hD' hS'
    exact vx_out (fun x hx => (ht x hx).elim) B.notSynchronized hq hv hcl (fun t ht9 _ => ⟨(E, w), hPX, ⟨rfl, by rw [ht9]; exact hP', hD'⟩, hS'.F ht9⟩) hS'.2.2 hc hs
  · intro cls names ik is ic i text bs w H locs ls pc cells slots rest hT hi hPX hsz d0 d3 d4 d6 d9 hfr hlo hc hs hP' hD' hS'
    have hvk := hE.2.1 i _ hi
    refine vx_throwS B.exec B.bytes hst (own := y.cls) (cls := cls) (names := names) (text := text) (sa := sa i) (A := va_A ws s.heap.size) hown hT.1 hT.2.1 (htW _ hT.2.2.1) (htW _ hT.2.2.2.1) hvk (fun w hw => ?_) hT.2.2.2.2.2 hE.1.1 hE.1.2.1 hS' (hsz.trans hml.symm) d0 d3 d4 d6 d9 (fun x hx => (ht x hx).elim) hfr hlo hc hs B.notSynchronized (fun t hal hz hk => ?_) hS'.2.2 hc hs
    · rcases hT.2.2.2.2.1 w hw with h | ⟨h, h1⟩
      · exact htW w h
      · exact hN.get h h1
    · refine ⟨(cls, w), hPX, ⟨rfl, hP'.kept (fun k q hq => hk q.1 (hP' k q hq).lt), hD'⟩, Nat.le_trans hS'.1 hz, fun q h1 h2 => ?_⟩
      rw [hk q (Nat.lt_of_lt_of_le h1 hS'.1)]
      exact hS'.2.1 q h1 h2
theorem mkXV {l : Launch} (hst : l.stackTraces = false) {y : MethodName} {b : ByteArray} {nL fr mc ms lo : Nat} {As : List Value} {D : va_G} {cI cJ : ClassId} {sa sv : Nat → Nat} {ws : va_W} {PR : va_W → Prop} {PX : String → va_W → Prop} {own : String} (ho : y.cls = own) (hy : plainName own = true) (hn : (lg_sl As).length ≤ nL) {lv : List (Nat × Value)} (hlv : lv_args 0 As = lv)
    (body : ∀ (p : Program) (e : Env) (s : State) (m : MethodId) (below : List Frame) (meth : Method) (c : Code) (Q : State → Prop) (A : Nat → Prop) (ls : Array Slot) (ar : Array Value), CallFix p m c b nL s ar WT own → (∀ q : Nat, s.heap.size ≤ q → A q) → va_K D vwCl (tyIJ cI cJ) s → NW s → EV sa sv A s s.heap →
      (∀ (w : va_W) (H : Heap) (locs : List Loc) (ls : Array Slot) (pc cells slots : Nat), PR w → cells ≤ mc → slots ≤ ms → decode b pc = .ok (.return_, 1) → va_P D vwCl w H → va_D A w → va_S A s.heap H locs → W p l e (rmc fr mc ms lo) s m ar below meth c H locs cells slots Q (F0 m pc ls [])) →
      (∀ (E : String) (w : va_W) (H : Heap) (locs : List Loc) (ls : Array Slot) (pc cells slots : Nat) (rest : List Value) (q : Addr) (ce : Cell), PX E w → cells ≤ mc → slots ≤ ms → H[q]? = some ce → ce.vm = .none → s.vm.findClass E = some ce.cls → va_P D vwCl w H → va_D A w → va_S A s.heap H locs → vx_W p l e (rmc fr mc ms lo) s m ar below meth c H locs cells slots Q (F0 m pc ls rest) q) →
      (∀ (cls : String) (names : List String) (ik is ic i : Nat) (text : String) (bs : List Int32) (w : va_W) (H : Heap) (locs : List Loc) (ls : Array Slot) (pc cells slots : Nat) (rest : List Value), ThrW own ik ic cls names → strTab[i]? = some (own, is, text, bs) → PX cls w → ls.size = nL → decode b pc = .ok (.new ik, 3) → decode b (pc + 3) = .ok (.dup, 1) → decode b (pc + 4) = .ok (.ldc is, 2) → decode b (pc + 6) = .ok (.invokespecial ic, 3) → decode b (pc + 9) = .ok (.athrow, 1) →
        names.length + 3 < fr → (rest.map fun v => v.category).sum + (13 * (names.length + 1) + 43) ≤ lo → cells + 1 ≤ mc → slots + 6 ≤ ms → va_P D vwCl w H → va_D A w → va_S A s.heap H locs → W p l e (rmc fr mc ms lo) s m ar below meth c H locs cells slots Q (F0 m pc ls rest)) →
      ∀ (H : Heap) (locs : List Loc), va_P D vwCl ws H → va_D A ws → va_S A s.heap H locs → lv_has ls nL lv → W p l e (rmc fr mc ms lo) s m ar below meth c H locs 0 0 Q (F0 m 0 ls [])) : CxV l y b nL fr mc ms lo As D cI cJ sa sv ws PR PX := by
  intro z
  subst ho
  refine vx_ofW (cc := b) (maxL := nL) (ret := none) hy rfl ?_
  intro p e s m args below meth c s₁ B hml ht hv
  obtain ⟨rfl, ⟨hsz, hP, hK, hD0, hN⟩, hE⟩ := hv
  have hts := atoms_spec (ws := Cond.code y b nL none :: WT) B.pre
  have htW : ∀ w ∈ WT, w.before As.toArray s = true := fun w hw => hts w (List.mem_cons_of_mem _ hw)
  subst hsz
  rw [lg_entry_eq]
  have hl := lv_entry As (n := nL) hn
  rw [hlv] at hl
  have hown := findClass_of_methodNamed B.named
  refine body p e s m below meth c _ (va_A ws s.heap.size) _ _ ⟨B.exec, B.bytes, hml, hown, htW⟩ (fun q h => Or.inr h) hK hN hE ?_ ?_ ?_ _ _ hP hD0.self va_S.rf hl
  · intro w H locs ls pc cells slots hPR hc hs hd hP' hD' hS'
    refine vx_ret (W.widen hc hs ?_)
    exact W.vret B.exec B.bytes B.returns (fun t ht9 _ => ⟨⟨w, rfl, hPR, by rw [ht9]; exact hP', hD'⟩, hS'.F ht9⟩) hS'.2.2 hd B.notSynchronized
  · intro E w H locs ls pc cells slots rest q ce hPX hc hs hq hv hcl hP' hD' hS'
    exact vx_out (fun x hx => (ht x hx).elim) B.notSynchronized hq hv hcl (fun t ht9 _ => ⟨(E, w), hPX, ⟨rfl, by rw [ht9]; exact hP', hD'⟩, hS'.F ht9⟩) hS'.2.2 hc hs
  · intro cls names ik is ic i text bs w H locs ls pc cells slots rest hT hi hPX hsz d0 d3 d4 d6 d9 hfr hlo hc hs hP' hD' hS'
    have hvk := hE.2.1 i _ hi
    refine vx_throwS B.exec B.bytes hst (own := y.cls) (cls := cls) (names := names) (text := text) (sa := sa i) (A := va_A ws s.heap.size) hown hT.1 hT.2.1 (htW _ hT.2.2.1) (htW _ hT.2.2.2.1) hvk (fun w hw => ?_) hT.2.2.2.2.2 hE.1.1 hE.1.2.1 hS' (hsz.trans hml.symm) d0 d3 d4 d6 d9 (fun x hx => (ht x hx).elim) hfr hlo hc hs B.notSynchronized (fun t hal hz hk => ?_) hS'.2.2 hc hs
    · rcases hT.2.2.2.2.1 w hw with h | ⟨h, h1⟩
      · exact htW w h
      · exact hN.get h h1
    · refine ⟨(cls, w), hPX, ⟨rfl, hP'.kept (fun k q hq => hk q.1 (hP' k q hq).lt), hD'⟩, Nat.le_trans hS'.1 hz, fun q h1 h2 => ?_⟩
      rw [hk q (Nat.lt_of_lt_of_le h1 hS'.1)]
      exact hS'.2.1 q h1 h2
