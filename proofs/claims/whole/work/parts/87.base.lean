/-! The base of all contracts here: ONE word list for every method (the good words of the tables), the nest words beside it, contracts that own a list of cells, and calls that put the callee's cells back in their places. -/
def isNestW : Cond → Bool
  | .fieldLinkNest .. => true
  | .methodLinkNest .. => true
  | .castable .. => true
  | .declares .. => true
  | _ => false
def WT : List Cond := lw_tbl.filter goodWord
def NT : List Cond := lw_tbl.filter isNestW
theorem wtT {w : Cond} (i : Nat) (h : tables_1[i]? = some w) (g : goodWord w = true) : w ∈ WT :=
  List.mem_filter.mpr ⟨List.mem_append_right _ (List.mem_of_getElem? h), g⟩
theorem wtP {w : Cond} (i : Nat) (h : (k2_sels lw_privs)[i]? = some w) (g : goodWord w = true) : w ∈ WT :=
  List.mem_filter.mpr ⟨List.mem_append_left _ (List.mem_of_getElem? h), g⟩
theorem ntT {w : Cond} (i : Nat) (h : tables_1[i]? = some w) (g : isNestW w = true) : w ∈ NT :=
  List.mem_filter.mpr ⟨List.mem_append_right _ (List.mem_of_getElem? h), g⟩
theorem wt_all {ws : List Cond} (is : List Nat) (hp : ws = is.filterMap (fun i => tables_1[i]?)) (h : ws.all goodWord = true) : ∀ w ∈ ws, w ∈ WT := fun w hw => by
  have g := List.all_eq_true.mp h w hw
  rw [hp] at hw
  obtain ⟨i, -, hi⟩ := List.mem_filterMap.mp hw
  exact wtT i hi g
theorem wt_good {w : Cond} (h : w ∈ WT) : (w.onTables && w.keeps) = true ∨ ∃ ty, w = .arrayClass ty := good_of_word (List.mem_filter.mp h).2
def NW (U : State) : Prop := ∀ w ∈ NT, va_Nw w U
theorem NW.warm {s U : State} (hW : s.WarmedH U.vm) (h : NW s) : NW U := by
  intro w hw
  have g := (List.mem_filter.mp hw).2
  have h1 := h w hw
  cases w <;> first | exact va_Nw.warmF hW h1 | exact va_Nw.warmM hW h1 | exact va_Nw.warmC hW h1 | exact va_tabs rfl (rfl : (s.setVm U.vm).vm = U.vm) (by rw [Cond.declares_setVm hW.alike]; exact h1) | exact (Bool.false_ne_true g).elim
theorem NW.same {u U : State} (hv : u.vm = U.vm) (h : NW u) : NW U := by
  intro w hw
  have g := (List.mem_filter.mp hw).2
  have h1 := h w hw
  cases w <;> first | exact va_Nw.same rfl hv h1 | exact (Bool.false_ne_true g).elim
theorem NW.get {args : Array Value} {s : State} (h : NW s) {w : Cond} (hw : w ∈ NT) (ho : w.onTables = true) : w.before args s = true := va_Nw.use ho (h w hw)
/-- the words on a method that a call of it needs -/
def MWords (y : MethodName) (b : ByteArray) (nb : Nat) (ret : Option FieldType) (n : Nat) : Prop :=
  Cond.initialized y.cls ∈ WT ∧ Cond.code y b nb ret ∈ WT ∧ (y.cls ≠ "java/lang/invoke/MethodHandle" ∧ y.cls ≠ "java/lang/invoke/VarHandle" ∧ (parseMethodDescriptor y.desc).map (fun d => d.parameters.length) = some n)
theorem wt_goodIn {y : MethodName} {b : ByteArray} {nb : Nat} {ret : Option FieldType} (h : Cond.code y b nb ret ∈ WT) : GoodIn WT (Cond.code y b nb ret :: WT) := fun w hw => by
  rcases List.mem_cons.mp hw with rfl | hw
  · exact ⟨h, wt_good h⟩
  · exact ⟨hw, wt_good hw⟩
abbrev tyIJ (cI cJ : ClassId) : List (ClassId × FieldType) := [(cI, .int), (cJ, .long)]
/-- what a method may take as given of the cells that it owns -/
def PreB (D : va_G) (cI cJ : ClassId) (z : Nat) (ws : va_W) (U : State) : Prop := U.heap.size = z ∧ va_P D vwCl ws U.heap ∧ va_K D vwCl (tyIJ cI cJ) U ∧ va_D (fun _ => True) ws ∧ NW U
def PosB (D : va_G) (A : Nat → Prop) (ws : va_W) (_ : Unit) (t : State) : Prop := va_P D vwCl ws t.heap ∧ va_D A ws
theorem PreB.blind {D : va_G} {cI cJ : ClassId} {z : Nat} {ws : va_W} {As : List Value} : FrameBlind (va_Pc As (PreB D cI cJ z ws)) := fun a U g mk q => by
  obtain ⟨q0, q1, qP, qK, qD, qN⟩ := q
  exact ⟨q0, q1, qP, va_K.moved (u := U) (U := U.calling g mk a) (Vm.Alike.refl U.vm) qK, qD, NW.same (u := U) (U := U.calling g mk a) rfl qN⟩
theorem PreB.use {s : State} {H : Heap} {D : va_G} {cI cJ : ClassId} {ws : va_W} {A : Nat → Prop} (As : List Value) (hP : va_P D vwCl ws H) (hK : va_K D vwCl (tyIJ cI cJ) s) (hD : va_D A ws) (hN : NW s) : ∀ U : State, U.heap = H → s.WarmedH U.vm → va_Pc As (PreB D cI cJ H.size ws) As.toArray U := fun U hU hW =>
  ⟨rfl, by rw [hU], by rw [hU]; exact hP, va_K.moved hW.alike hK, hD.weaken (fun _ _ _ _ => trivial), NW.warm hW hN⟩
abbrev rmz (fr lo : Nat) : Room := { frames := fr, cells := 0, slots := 0, locals := lo }
/-- contracts: the cells ws become ws', nothing else that was there changes, no cell comes; the answer is r -/
def CtI (l : Launch) (y : MethodName) (b : ByteArray) (nL fr lo : Nat) (ret : FieldType) (As : List Value) (D : va_G) (cI cJ : ClassId) (ws ws' : va_W) (r : Int32) : Prop :=
  ∀ z : Nat, Met l y (Cond.code y b nL (some ret) :: WT) (rmz fr lo) (va_Pc As (PreB D cI cJ z ws)) (va_Qi (fun (r' : Int32) (_ : Unit) => r' = r) (PosB D (va_A ws z) ws') (va_A ws z)) 0 0 (va_A ws z)
def CtL (l : Launch) (y : MethodName) (b : ByteArray) (nL fr lo : Nat) (As : List Value) (D : va_G) (cI cJ : ClassId) (ws ws' : va_W) (r : Int64) : Prop :=
  ∀ z : Nat, Met l y (Cond.code y b nL (some .long) :: WT) (rmz fr lo) (va_Pc As (PreB D cI cJ z ws)) (va_Ql (fun (r' : Int64) (_ : Unit) => r' = r) (PosB D (va_A ws z) ws') (va_A ws z)) 0 0 (va_A ws z)
def CtV (l : Launch) (y : MethodName) (b : ByteArray) (nL fr lo : Nat) (As : List Value) (D : va_G) (cI cJ : ClassId) (ws ws' : va_W) : Prop :=
  ∀ z : Nat, Met l y (Cond.code y b nL none :: WT) (rmz fr lo) (va_Pc As (PreB D cI cJ z ws)) (va_Qv (fun (_ : Unit) => True) (PosB D (va_A ws z) ws') (va_A ws z)) 0 0 (va_A ws z)
theorem met_ofWF {l : Launch} {y : MethodName} {ws ws' : List Cond} {rm : Room} {Pc : Array Value → State → Prop} {Qc : Array Value → State → Outcome → State → Prop} {mc ms : Nat} {free : Addr → Prop} {cc : ByteArray} {maxL : Nat} {ret : Option FieldType}
    (hy : plainFor y = true) (hw : ws = Cond.code y cc maxL ret :: ws')
    (body : ∀ p e s m args below meth c s₁, BodyLoose p l y (headSpec ws rm) cc maxL ret e s m args below meth c s₁ → c.maxLocals = maxL → Pc args s →
      W p l e (headSpec ws rm).room s m args below meth c s.heap [] 0 0 (MQ below Qc args s mc ms free) (entryFrame m args maxL)) : Met l y ws rm Pc Qc mc ms free := by
  refine MetFree.of_bodySF (code := cc) (maxLocals := maxL) (ret := ret) hy ?_ ?_
  · intro args s m h hn
    obtain ⟨meth, c, h1, h2, h3, h4, h5, h6, -, -⟩ := Cond.code_spec hn (atoms_spec (ws := ws) h _ (by rw [hw]; exact List.mem_cons_self))
    exact ⟨meth, c, h1, h2, h3, h4, h5, h6⟩
  · intro p e s m args below meth c s₁ B hml hP _
    have hh0 : s₁.heap = s.heap := by rw [B.state]; rfl
    obtain ⟨t, a1, o, b1, b2, b3⟩ := body p e s m args below meth c s₁ B hml hP s₁ hh0 (Stand.of_body B)
    exact ⟨t, o, a1, b1, b2, ⟨b3.1, b3.2⟩⟩
/-- the body of a contract: what a walk begins with -/
theorem mkI {l : Launch} {y : MethodName} {b : ByteArray} {nL fr lo : Nat} {As : List Value} {D : va_G} {cI cJ : ClassId} {ws ws' : va_W} {r : Int32} {own : String} (ho : y.cls = own) (hy : plainFor y = true) (hn : (lg_sl As).length ≤ nL) {lv : List (Nat × Value)} (hlv : lv_args 0 As = lv)
    (body : ∀ (p : Program) (e : Env) (s : State) (m : MethodId) (below : List Frame) (meth : Method) (c : Code) (Q : State → Prop) (A : Nat → Prop) (ls : Array Slot) (ar : Array Value), CallFix p m c b nL s ar WT own → (∀ q : Nat, s.heap.size ≤ q → A q) → va_K D vwCl (tyIJ cI cJ) s → NW s →
      (∀ (H : Heap) (locs : List Loc) (ls : Array Slot) (pc : Nat), decode b pc = .ok (.ireturn, 1) → va_P D vwCl ws' H → va_D A ws' → va_S A s.heap H locs → W p l e (rmz fr lo) s m ar below meth c H locs 0 0 Q (F0 m pc ls [.int r])) →
      ∀ (H : Heap) (locs : List Loc), va_P D vwCl ws H → va_D A ws → va_S A s.heap H locs → lv_has ls nL lv → W p l e (rmz fr lo) s m ar below meth c H locs 0 0 Q (F0 m 0 ls [])) : CtI l y b nL fr lo .int As D cI cJ ws ws' r := by
  intro z
  subst ho
  refine met_ofWF (cc := b) (maxL := nL) (ret := some .int) hy rfl ?_
  intro p e s m args below meth c s₁ B hml hv
  obtain ⟨rfl, hsz, hP, hK, hD0, hN⟩ := hv
  have hts := atoms_spec (ws := Cond.code y b nL (some .int) :: WT) B.pre
  subst hsz
  rw [lg_entry_eq]
  have hl := lv_entry As (n := nL) hn
  rw [hlv] at hl
  refine body p e s m below meth c _ (va_A ws s.heap.size) _ _ ⟨B.exec, B.bytes, hml, findClass_of_methodNamed B.named, fun w hw => hts w (List.mem_cons_of_mem _ hw)⟩ (fun q h => Or.inr h) hK hN ?_ _ _ hP hD0.self va_S.rf hl
  intro H locs ls pc hd hP' hD' hS'
  exact W.iret B.exec B.bytes B.returns (fun t ht _ => ⟨⟨r, (), rfl, rfl, by rw [ht]; exact hP', hD'⟩, hS'.F ht⟩) hS'.2.2 hd B.notSynchronized
theorem mkZ {l : Launch} {y : MethodName} {b : ByteArray} {nL fr lo : Nat} {As : List Value} {D : va_G} {cI cJ : ClassId} {ws ws' : va_W} {r : Int32} {own : String} (ho : y.cls = own) (hy : plainFor y = true) (hn : (lg_sl As).length ≤ nL) {lv : List (Nat × Value)} (hlv : lv_args 0 As = lv)
    (body : ∀ (p : Program) (e : Env) (s : State) (m : MethodId) (below : List Frame) (meth : Method) (c : Code) (Q : State → Prop) (A : Nat → Prop) (ls : Array Slot) (ar : Array Value), CallFix p m c b nL s ar WT own → (∀ q : Nat, s.heap.size ≤ q → A q) → va_K D vwCl (tyIJ cI cJ) s → NW s →
      (∀ (H : Heap) (locs : List Loc) (ls : Array Slot) (pc : Nat), decode b pc = .ok (.ireturn, 1) → (r = 0 ∨ r = 1) → va_P D vwCl ws' H → va_D A ws' → va_S A s.heap H locs → W p l e (rmz fr lo) s m ar below meth c H locs 0 0 Q (F0 m pc ls [.int r])) →
      ∀ (H : Heap) (locs : List Loc), va_P D vwCl ws H → va_D A ws → va_S A s.heap H locs → lv_has ls nL lv → W p l e (rmz fr lo) s m ar below meth c H locs 0 0 Q (F0 m 0 ls [])) : CtI l y b nL fr lo .boolean As D cI cJ ws ws' r := by
  intro z
  subst ho
  refine met_ofWF (cc := b) (maxL := nL) (ret := some .boolean) hy rfl ?_
  intro p e s m args below meth c s₁ B hml hv
  obtain ⟨rfl, hsz, hP, hK, hD0, hN⟩ := hv
  have hts := atoms_spec (ws := Cond.code y b nL (some .boolean) :: WT) B.pre
  subst hsz
  rw [lg_entry_eq]
  have hl := lv_entry As (n := nL) hn
  rw [hlv] at hl
  refine body p e s m below meth c _ (va_A ws s.heap.size) _ _ ⟨B.exec, B.bytes, hml, findClass_of_methodNamed B.named, fun w hw => hts w (List.mem_cons_of_mem _ hw)⟩ (fun q h => Or.inr h) hK hN ?_ _ _ hP hD0.self va_S.rf hl
  intro H locs ls pc hd hbl hP' hD' hS'
  exact W.zret B.exec B.bytes B.returns (by rcases hbl with rfl | rfl <;> rfl) (fun t ht _ => ⟨⟨r, (), rfl, rfl, by rw [ht]; exact hP', hD'⟩, hS'.F ht⟩) hS'.2.2 hd B.notSynchronized
theorem mkL {l : Launch} {y : MethodName} {b : ByteArray} {nL fr lo : Nat} {As : List Value} {D : va_G} {cI cJ : ClassId} {ws ws' : va_W} {r : Int64} {own : String} (ho : y.cls = own) (hy : plainFor y = true) (hn : (lg_sl As).length ≤ nL) {lv : List (Nat × Value)} (hlv : lv_args 0 As = lv)
    (body : ∀ (p : Program) (e : Env) (s : State) (m : MethodId) (below : List Frame) (meth : Method) (c : Code) (Q : State → Prop) (A : Nat → Prop) (ls : Array Slot) (ar : Array Value), CallFix p m c b nL s ar WT own → (∀ q : Nat, s.heap.size ≤ q → A q) → va_K D vwCl (tyIJ cI cJ) s → NW s →
      (∀ (H : Heap) (locs : List Loc) (ls : Array Slot) (pc : Nat), decode b pc = .ok (.lreturn, 1) → va_P D vwCl ws' H → va_D A ws' → va_S A s.heap H locs → W p l e (rmz fr lo) s m ar below meth c H locs 0 0 Q (F0 m pc ls [.long r])) →
      ∀ (H : Heap) (locs : List Loc), va_P D vwCl ws H → va_D A ws → va_S A s.heap H locs → lv_has ls nL lv → W p l e (rmz fr lo) s m ar below meth c H locs 0 0 Q (F0 m 0 ls [])) : CtL l y b nL fr lo As D cI cJ ws ws' r := by
  intro z
  subst ho
  refine met_ofWF (cc := b) (maxL := nL) (ret := some .long) hy rfl ?_
  intro p e s m args below meth c s₁ B hml hv
  obtain ⟨rfl, hsz, hP, hK, hD0, hN⟩ := hv
  have hts := atoms_spec (ws := Cond.code y b nL (some .long) :: WT) B.pre
  subst hsz
  rw [lg_entry_eq]
  have hl := lv_entry As (n := nL) hn
  rw [hlv] at hl
  refine body p e s m below meth c _ (va_A ws s.heap.size) _ _ ⟨B.exec, B.bytes, hml, findClass_of_methodNamed B.named, fun w hw => hts w (List.mem_cons_of_mem _ hw)⟩ (fun q h => Or.inr h) hK hN ?_ _ _ hP hD0.self va_S.rf hl
  intro H locs ls pc hd hP' hD' hS'
  exact W.lret B.exec B.bytes B.returns (fun t ht _ => ⟨⟨r, (), rfl, rfl, by rw [ht]; exact hP', hD'⟩, hS'.F ht⟩) hS'.2.2 hd B.notSynchronized
theorem mkV {l : Launch} {y : MethodName} {b : ByteArray} {nL fr lo : Nat} {As : List Value} {D : va_G} {cI cJ : ClassId} {ws ws' : va_W} {own : String} (ho : y.cls = own) (hy : plainFor y = true) (hn : (lg_sl As).length ≤ nL) {lv : List (Nat × Value)} (hlv : lv_args 0 As = lv)
    (body : ∀ (p : Program) (e : Env) (s : State) (m : MethodId) (below : List Frame) (meth : Method) (c : Code) (Q : State → Prop) (A : Nat → Prop) (ls : Array Slot) (ar : Array Value), CallFix p m c b nL s ar WT own → (∀ q : Nat, s.heap.size ≤ q → A q) → va_K D vwCl (tyIJ cI cJ) s → NW s →
      (∀ (H : Heap) (locs : List Loc) (ls : Array Slot) (pc : Nat), decode b pc = .ok (.return_, 1) → va_P D vwCl ws' H → va_D A ws' → va_S A s.heap H locs → W p l e (rmz fr lo) s m ar below meth c H locs 0 0 Q (F0 m pc ls [])) →
      ∀ (H : Heap) (locs : List Loc), va_P D vwCl ws H → va_D A ws → va_S A s.heap H locs → lv_has ls nL lv → W p l e (rmz fr lo) s m ar below meth c H locs 0 0 Q (F0 m 0 ls [])) : CtV l y b nL fr lo As D cI cJ ws ws' := by
  intro z
  subst ho
  refine met_ofWF (cc := b) (maxL := nL) (ret := none) hy rfl ?_
  intro p e s m args below meth c s₁ B hml hv
  obtain ⟨rfl, hsz, hP, hK, hD0, hN⟩ := hv
  have hts := atoms_spec (ws := Cond.code y b nL none :: WT) B.pre
  subst hsz
  rw [lg_entry_eq]
  have hl := lv_entry As (n := nL) hn
  rw [hlv] at hl
  refine body p e s m below meth c _ (va_A ws s.heap.size) _ _ ⟨B.exec, B.bytes, hml, findClass_of_methodNamed B.named, fun w hw => hts w (List.mem_cons_of_mem _ hw)⟩ (fun q h => Or.inr h) hK hN ?_ _ _ hP hD0.self va_S.rf hl
  intro H locs ls pc hd hP' hD' hS'
  exact W.vret B.exec B.bytes B.returns (fun t ht _ => ⟨⟨(), rfl, trivial, by rw [ht]; exact hP', hD'⟩, hS'.F ht⟩) hS'.2.2 hd B.notSynchronized
