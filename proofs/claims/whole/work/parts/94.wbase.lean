/-! the law's wrappers: methods with handlers -/
def NC (U : State) : Prop := va_Nc "java/lang/IllegalArgumentException" "java/lang/IndexOutOfBoundsException" U ∧ va_Nc "java/lang/ArithmeticException" "java/lang/IndexOutOfBoundsException" U ∧ va_Nc "java/lang/ArithmeticException" "java/lang/IllegalArgumentException" U
theorem NC.moved {u U : State} (hvm : u.vm.Alike U.vm) (h : NC u) : NC U := ⟨va_Nc.moved hvm h.1, va_Nc.moved hvm h.2.1, va_Nc.moved hvm h.2.2⟩
def PreW (D : va_G) (cI cJ : ClassId) (sa sv : Nat → Nat) (z : Nat) (ws : va_W) (U : State) : Prop := PreX D cI cJ sa sv z ws U ∧ NC U
theorem PreW.blind {D : va_G} {cI cJ : ClassId} {sa sv : Nat → Nat} {z : Nat} {ws : va_W} {As : List Value} : FrameBlind (va_Pc As (PreW D cI cJ sa sv z ws)) := fun a U g mk q => by
  obtain ⟨q0, q1, q2⟩ := q
  exact ⟨q0, (PreX.blind a U g mk ⟨q0, q1⟩).2, NC.moved (u := U) (U := U.calling g mk a) (Vm.Alike.refl U.vm) q2⟩
theorem PreW.use {s : State} {H : Heap} {D : va_G} {cI cJ : ClassId} {sa sv : Nat → Nat} {ws : va_W} {A : Nat → Prop} {locs : List Loc} (As : List Value) (hP : va_P D vwCl ws H) (hK : va_K D vwCl (tyIJ cI cJ) s) (hD : va_D A ws) (hN : NW s) (hE : EV sa sv A s s.heap) (hC : NC s) (hS : va_S A s.heap H locs) (hF : ∀ q, va_A ws H.size q → A q) : ∀ U : State, U.heap = H → s.WarmedH U.vm → va_Pc As (PreW D cI cJ sa sv H.size ws) As.toArray U := fun U hU hW =>
  ⟨rfl, (PreX.use As hP hK hD hN hE hS hF U hU hW).2, NC.moved hW.alike hC⟩
def CwI (l : Launch) (y : MethodName) (b : ByteArray) (nL : Nat) (hh : List (Nat × Nat × Nat × Nat)) (fr mc ms lo : Nat) (As : List Value) (D : va_G) (cI cJ : ClassId) (sa sv : Nat → Nat) (ws ws' : va_W) (r : Int32) : Prop :=
  ∀ z : Nat, Met l y (Cond.codeWith y b nL (some .int) hh :: WT) (rmc fr mc ms lo) (va_Pc As (PreW D cI cJ sa sv z ws)) (va_Qi (fun (r' : Int32) (_ : Unit) => r' = r) (PosB D (va_A ws z) ws') (va_A ws z)) mc ms (va_A ws z)
theorem met_ofWH {l : Launch} {y : MethodName} {ws ws' : List Cond} {rm : Room} {Pc : Array Value → State → Prop} {Qc : Array Value → State → Outcome → State → Prop} {mc ms : Nat} {free : Addr → Prop} {cc : ByteArray} {maxL : Nat} {ret : Option FieldType} {hh : List (Nat × Nat × Nat × Nat)}
    (hy : plainName y.cls = true) (hw : ws = Cond.codeWith y cc maxL ret hh :: ws')
    (body : ∀ p e s m args below meth c s₁, BodyLoose p l y (headSpec ws rm) cc maxL ret e s m args below meth c s₁ → c.maxLocals = maxL → Pc args s →
      W p l e (headSpec ws rm).room s m args below meth c s.heap [] 0 0 (MQ below Qc args s mc ms free) (entryFrame m args maxL)) : Met l y ws rm Pc Qc mc ms free := by
  refine MetFree.of_bodyS (code := cc) (maxLocals := maxL) (ret := ret) hy ?_ ?_
  · intro args s m h hn
    obtain ⟨m9, meth, c, hn9, h1, h2, h3, h4, -, h5, h6, -⟩ := Cond.codeWith_spec (atoms_spec (ws := ws) h _ (by rw [hw]; exact List.mem_cons_self))
    cases hn.symm.trans hn9
    exact ⟨meth, c, h1, h2, h3, h4, h5, h6⟩
  · intro p e s m args below meth c s₁ B hml hP _
    have hh0 : s₁.heap = s.heap := by rw [B.state]; rfl
    obtain ⟨t, a1, o, b1, b2, b3⟩ := body p e s m args below meth c s₁ B hml hP s₁ hh0 (Stand.of_body B)
    exact ⟨t, o, a1, b1, b2, ⟨b3.1, b3.2⟩⟩
theorem mkW {l : Launch} {y : MethodName} {b : ByteArray} {nL fr mc ms lo : Nat} {hh : List (Nat × Nat × Nat × Nat)} {As : List Value} {D : va_G} {cI cJ : ClassId} {sa sv : Nat → Nat} {ws ws' : va_W} {r : Int32} {own : String} (ho : y.cls = own) (hy : plainName own = true) (hn : (lg_sl As).length ≤ nL) {lv : List (Nat × Value)} (hlv : lv_args 0 As = lv)
    (body : ∀ (p : Program) (e : Env) (s : State) (m : MethodId) (below : List Frame) (meth : Method) (c : Code) (Q : State → Prop) (A : Nat → Prop) (ls : Array Slot) (ar : Array Value), CallFix p m c b nL s ar WT own → c.exceptionTable.toList = tableOf hh → (∀ q : Nat, s.heap.size ≤ q → A q) → va_K D vwCl (tyIJ cI cJ) s → NW s → EV sa sv A s s.heap → NC s →
      (∀ (H : Heap) (locs : List Loc) (ls : Array Slot) (pc cells slots : Nat), cells ≤ mc → slots ≤ ms → decode b pc = .ok (.ireturn, 1) → va_P D vwCl ws' H → va_D A ws' → va_S A s.heap H locs → W p l e (rmc fr mc ms lo) s m ar below meth c H locs cells slots Q (F0 m pc ls [.int r])) →
      ∀ (H : Heap) (locs : List Loc), va_P D vwCl ws H → va_D A ws → va_S A s.heap H locs → lv_has ls nL lv → W p l e (rmc fr mc ms lo) s m ar below meth c H locs 0 0 Q (F0 m 0 ls [])) : CwI l y b nL hh fr mc ms lo As D cI cJ sa sv ws ws' r := by
  intro z
  subst ho
  refine met_ofWH (cc := b) (maxL := nL) (ret := some .int) (hh := hh) hy rfl ?_
  intro p e s m args below meth c s₁ B hml hv
  obtain ⟨rfl, ⟨⟨hsz, hP, hK, hD0, hN⟩, hE⟩, hC⟩ := hv
  have hts := atoms_spec (ws := Cond.codeWith y b nL (some .int) hh :: WT) B.pre
  have htab := vx_table (x := y) B (hts _ List.mem_cons_self)
  subst hsz
  rw [lg_entry_eq]
  have hl := lv_entry As (n := nL) hn
  rw [hlv] at hl
  refine body p e s m below meth c _ (va_A ws s.heap.size) _ _ ⟨B.exec, B.bytes, hml, findClass_of_methodNamed B.named, fun w hw => hts w (List.mem_cons_of_mem _ hw)⟩ htab (fun q h => Or.inr h) hK hN hE hC ?_ _ _ hP hD0.self va_S.rf hl
  intro H locs ls pc cells slots hc hs hd hP' hD' hS'
  refine W.widen hc hs ?_
  exact W.iret B.exec B.bytes B.returns (fun t ht _ => ⟨⟨r, (), rfl, rfl, by rw [ht]; exact hP', hD'⟩, hS'.F ht⟩) hS'.2.2 hd B.notSynchronized
def MWordsW (y : MethodName) (b : ByteArray) (nb : Nat) (ret : Option FieldType) (hh : List (Nat × Nat × Nat × Nat)) (n : Nat) : Prop :=
  Cond.initialized y.cls ∈ WT ∧ Cond.codeWith y b nb ret hh ∈ WT ∧ (y.cls ≠ "java/lang/invoke/MethodHandle" ∧ y.cls ≠ "java/lang/invoke/VarHandle" ∧ (parseMethodDescriptor y.desc).map (fun d => d.parameters.length) = some n)
theorem gi_W {own : String} {idx : Nat} {y : MethodName} {b : ByteArray} {nb n : Nat} {ret : Option FieldType} {hh : List (Nat × Nat × Nat × Nat)} (mw : MWordsW y b nb ret hh n) (hi : Cond.static y ∈ WT) (hl : Cond.methodLink own idx y ∈ WT) : GoodIn WT (va_wsS own idx y (Cond.codeWith y b nb ret hh :: WT)) := fun w hw => by
  unfold va_wsS at hw
  rcases List.mem_append.mp hw with h | h
  · have hm : w ∈ WT := by
      simp only [List.mem_cons, List.not_mem_nil, or_false] at h
      rcases h with rfl | rfl | rfl
      · exact hl
      · exact hi
      · exact mw.1
    exact ⟨hm, wt_good hm⟩
  · rcases List.mem_cons.mp h with rfl | h
    · exact ⟨mw.2.1, wt_good mw.2.1⟩
    · exact ⟨h, wt_good h⟩
section WCALLS
variable {p : Program} {l : Launch} {e : Env} {R : Room} {s : State} {m : MethodId} {args : Array Value} {below : List Frame} {meth : Method} {c : Code} {H : Heap} {locs : List Loc} {cells slots : Nat} {Q : State → Prop}
variable {cc b : ByteArray} {nL nb n idx fr mc ms lo pc : Nat} {hh : List (Nat × Nat × Nat × Nat)} {own : String} {D : va_G} {cI cJ : ClassId} {sa sv : Nat → Nat} {A : Nat → Prop} {ws wc w1 ws' : va_W} {y : MethodName} {As rest st : List Value} {ls : Array Slot}
theorem cW_I {r : Int32} (S : CallFix p m c cc nL s args WT own) (hK : va_K D vwCl (tyIJ cI cJ) s) (hN : NW s) (hE : EV sa sv A s s.heap) (hNC : NC s) (hA : ∀ q : Nat, s.heap.size ≤ q → A q) (hP : va_P D vwCl ws H) (hD : va_D A ws) (hS : va_S A s.heap H locs)
    (hM : CwI l y b nb hh fr mc ms lo As D cI cJ sa sv wc w1 r) (mw : MWordsW y b nb (some .int) hh n) (hi : Cond.static y ∈ WT) (hl : Cond.methodLink own idx y ∈ WT)
    (isC : List Nat) (hC : isC.map (fun i => ws[i]?) = wc.map some) (hnd : va_nd isC = true) (hlen : isC.length = w1.length) (hput : putAll ws isC w1 = ws') (hadr : ws'.map Prod.fst = ws.map Prod.fst)
    (hR : fr + 1 ≤ R.frames ∧ 8 + (nb + 11) + lo ≤ R.locals) (hcs : cells + mc ≤ R.cells ∧ slots + ms ≤ R.slots) (hsz : ls.size = nL) (hn : As.length = n) (hst : st = As.reverse ++ rest) (hrm : (rest.map fun v => v.category).sum ≤ 8) (hdg : decode cc pc = .ok (.invokestatic idx, 3))
    (kk : ∀ (H1 : Heap) (locs1 : List Loc), va_P D vwCl ws' H1 → va_D A ws' → va_S A s.heap H1 locs1 → W p l e R s m args below meth c H1 locs1 (cells + mc) (slots + ms) Q (F0 m (pc + 3) ls (.int r :: rest))) : W p l e R s m args below meth c H locs cells slots Q (F0 m pc ls st) := by
  have hPc := hP.sub (ws' := wc) isC (fm_of_map isC hC)
  have hDc := hD.sub (ws' := wc) isC hnd hC
  have hFc := va_free (wc := wc) hD hS hA isC hC
  refine va_calli (vx_runSW (As := As) (rest := rest) S (hM H.size) (vx_cwSW n S.2.2.2.2 (gi_W mw hi hl) rfl rfl rfl mw.2.2 hR) ⟨PreW.blind, PreW.use _ hPc hK hDc hN hE hNC hS hFc⟩ rfl hn hsz hst (lv_room hrm) hdg hcs) hS (fun q _ h => hFc q h) hFc (fun r' u t H1 locs1 ht hvm hw hB hz1 hk1 hS1 => ?_)
  obtain ⟨hP1, hD1⟩ := hB
  rw [ht] at hP1
  subst hw
  exact kk H1 locs1 (va_back hP hD isC hC hlen hput hk1 hP1) (hD.adr hadr) hS1
end WCALLS
