/-! Contracts and calls of methods that read constant texts: as the plain ones, with EV. -/
def CeI (l : Launch) (y : MethodName) (b : ByteArray) (nL fr lo : Nat) (ret : FieldType) (As : List Value) (D : va_G) (cI cJ : ClassId) (sa sv : Nat → Nat) (ws ws' : va_W) (r : Int32) : Prop :=
  ∀ z : Nat, Met l y (Cond.code y b nL (some ret) :: WT) (rmz fr lo) (va_Pc As (PreX D cI cJ sa sv z ws)) (va_Qi (fun (r' : Int32) (_ : Unit) => r' = r) (PosB D (va_A ws z) ws') (va_A ws z)) 0 0 (va_A ws z)
def CeL (l : Launch) (y : MethodName) (b : ByteArray) (nL fr lo : Nat) (As : List Value) (D : va_G) (cI cJ : ClassId) (sa sv : Nat → Nat) (ws ws' : va_W) (r : Int64) : Prop :=
  ∀ z : Nat, Met l y (Cond.code y b nL (some .long) :: WT) (rmz fr lo) (va_Pc As (PreX D cI cJ sa sv z ws)) (va_Ql (fun (r' : Int64) (_ : Unit) => r' = r) (PosB D (va_A ws z) ws') (va_A ws z)) 0 0 (va_A ws z)
def CeV (l : Launch) (y : MethodName) (b : ByteArray) (nL fr lo : Nat) (As : List Value) (D : va_G) (cI cJ : ClassId) (sa sv : Nat → Nat) (ws ws' : va_W) : Prop :=
  ∀ z : Nat, Met l y (Cond.code y b nL none :: WT) (rmz fr lo) (va_Pc As (PreX D cI cJ sa sv z ws)) (va_Qv (fun (_ : Unit) => True) (PosB D (va_A ws z) ws') (va_A ws z)) 0 0 (va_A ws z)
theorem mkEI {l : Launch} {y : MethodName} {b : ByteArray} {nL fr lo : Nat} {As : List Value} {D : va_G} {cI cJ : ClassId} {sa sv : Nat → Nat} {ws ws' : va_W} {r : Int32} {own : String} (ho : y.cls = own) (hy : plainFor y = true) (hn : (lg_sl As).length ≤ nL) {lv : List (Nat × Value)} (hlv : lv_args 0 As = lv)
    (body : ∀ (p : Program) (e : Env) (s : State) (m : MethodId) (below : List Frame) (meth : Method) (c : Code) (Q : State → Prop) (A : Nat → Prop) (ls : Array Slot) (ar : Array Value), CallFix p m c b nL s ar WT own → (∀ q : Nat, s.heap.size ≤ q → A q) → va_K D vwCl (tyIJ cI cJ) s → NW s → EV sa sv A s s.heap →
      (∀ (H : Heap) (locs : List Loc) (ls : Array Slot) (pc : Nat), decode b pc = .ok (.ireturn, 1) → va_P D vwCl ws' H → va_D A ws' → va_S A s.heap H locs → W p l e (rmz fr lo) s m ar below meth c H locs 0 0 Q (F0 m pc ls [.int r])) →
      ∀ (H : Heap) (locs : List Loc), va_P D vwCl ws H → va_D A ws → va_S A s.heap H locs → lv_has ls nL lv → W p l e (rmz fr lo) s m ar below meth c H locs 0 0 Q (F0 m 0 ls [])) : CeI l y b nL fr lo .int As D cI cJ sa sv ws ws' r := by
  intro z
  subst ho
  refine met_ofWF (cc := b) (maxL := nL) (ret := some .int) hy rfl ?_
  intro p e s m args below meth c s₁ B hml hv
  obtain ⟨rfl, ⟨hsz, hP, hK, hD0, hN⟩, hE⟩ := hv
  have hts := atoms_spec (ws := Cond.code y b nL (some .int) :: WT) B.pre
  subst hsz
  rw [lg_entry_eq]
  have hl := lv_entry As (n := nL) hn
  rw [hlv] at hl
  refine body p e s m below meth c _ (va_A ws s.heap.size) _ _ ⟨B.exec, B.bytes, hml, findClass_of_methodNamed B.named, fun w hw => hts w (List.mem_cons_of_mem _ hw)⟩ (fun q h => Or.inr h) hK hN hE ?_ _ _ hP hD0.self va_S.rf hl
  intro H locs ls pc hd hP' hD' hS'
  exact W.iret B.exec B.bytes B.returns (fun t ht _ => ⟨⟨r, (), rfl, rfl, by rw [ht]; exact hP', hD'⟩, hS'.F ht⟩) hS'.2.2 hd B.notSynchronized
theorem mkEZ {l : Launch} {y : MethodName} {b : ByteArray} {nL fr lo : Nat} {As : List Value} {D : va_G} {cI cJ : ClassId} {sa sv : Nat → Nat} {ws ws' : va_W} {r : Int32} {own : String} (ho : y.cls = own) (hy : plainFor y = true) (hn : (lg_sl As).length ≤ nL) {lv : List (Nat × Value)} (hlv : lv_args 0 As = lv)
    (body : ∀ (p : Program) (e : Env) (s : State) (m : MethodId) (below : List Frame) (meth : Method) (c : Code) (Q : State → Prop) (A : Nat → Prop) (ls : Array Slot) (ar : Array Value), CallFix p m c b nL s ar WT own → (∀ q : Nat, s.heap.size ≤ q → A q) → va_K D vwCl (tyIJ cI cJ) s → NW s → EV sa sv A s s.heap →
      (∀ (H : Heap) (locs : List Loc) (ls : Array Slot) (pc : Nat), decode b pc = .ok (.ireturn, 1) → (r = 0 ∨ r = 1) → va_P D vwCl ws' H → va_D A ws' → va_S A s.heap H locs → W p l e (rmz fr lo) s m ar below meth c H locs 0 0 Q (F0 m pc ls [.int r])) →
      ∀ (H : Heap) (locs : List Loc), va_P D vwCl ws H → va_D A ws → va_S A s.heap H locs → lv_has ls nL lv → W p l e (rmz fr lo) s m ar below meth c H locs 0 0 Q (F0 m 0 ls [])) : CeI l y b nL fr lo .boolean As D cI cJ sa sv ws ws' r := by
  intro z
  subst ho
  refine met_ofWF (cc := b) (maxL := nL) (ret := some .boolean) hy rfl ?_
  intro p e s m args below meth c s₁ B hml hv
  obtain ⟨rfl, ⟨hsz, hP, hK, hD0, hN⟩, hE⟩ := hv
  have hts := atoms_spec (ws := Cond.code y b nL (some .boolean) :: WT) B.pre
  subst hsz
  rw [lg_entry_eq]
  have hl := lv_entry As (n := nL) hn
  rw [hlv] at hl
  refine body p e s m below meth c _ (va_A ws s.heap.size) _ _ ⟨B.exec, B.bytes, hml, findClass_of_methodNamed B.named, fun w hw => hts w (List.mem_cons_of_mem _ hw)⟩ (fun q h => Or.inr h) hK hN hE ?_ _ _ hP hD0.self va_S.rf hl
  intro H locs ls pc hd hbl hP' hD' hS'
  exact W.zret B.exec B.bytes B.returns (by rcases hbl with rfl | rfl <;> rfl) (fun t ht _ => ⟨⟨r, (), rfl, rfl, by rw [ht]; exact hP', hD'⟩, hS'.F ht⟩) hS'.2.2 hd B.notSynchronized
theorem mkEL {l : Launch} {y : MethodName} {b : ByteArray} {nL fr lo : Nat} {As : List Value} {D : va_G} {cI cJ : ClassId} {sa sv : Nat → Nat} {ws ws' : va_W} {r : Int64} {own : String} (ho : y.cls = own) (hy : plainFor y = true) (hn : (lg_sl As).length ≤ nL) {lv : List (Nat × Value)} (hlv : lv_args 0 As = lv)
    (body : ∀ (p : Program) (e : Env) (s : State) (m : MethodId) (below : List Frame) (meth : Method) (c : Code) (Q : State → Prop) (A : Nat → Prop) (ls : Array Slot) (ar : Array Value), CallFix p m c b nL s ar WT own → (∀ q : Nat, s.heap.size ≤ q → A q) → va_K D vwCl (tyIJ cI cJ) s → NW s → EV sa sv A s s.heap →
      (∀ (H : Heap) (locs : List Loc) (ls : Array Slot) (pc : Nat), decode b pc = .ok (.lreturn, 1) → va_P D vwCl ws' H → va_D A ws' → va_S A s.heap H locs → W p l e (rmz fr lo) s m ar below meth c H locs 0 0 Q (F0 m pc ls [.long r])) →
      ∀ (H : Heap) (locs : List Loc), va_P D vwCl ws H → va_D A ws → va_S A s.heap H locs → lv_has ls nL lv → W p l e (rmz fr lo) s m ar below meth c H locs 0 0 Q (F0 m 0 ls [])) : CeL l y b nL fr lo As D cI cJ sa sv ws ws' r := by
  intro z
  subst ho
  refine met_ofWF (cc := b) (maxL := nL) (ret := some .long) hy rfl ?_
  intro p e s m args below meth c s₁ B hml hv
  obtain ⟨rfl, ⟨hsz, hP, hK, hD0, hN⟩, hE⟩ := hv
  have hts := atoms_spec (ws := Cond.code y b nL (some .long) :: WT) B.pre
  subst hsz
  rw [lg_entry_eq]
  have hl := lv_entry As (n := nL) hn
  rw [hlv] at hl
  refine body p e s m below meth c _ (va_A ws s.heap.size) _ _ ⟨B.exec, B.bytes, hml, findClass_of_methodNamed B.named, fun w hw => hts w (List.mem_cons_of_mem _ hw)⟩ (fun q h => Or.inr h) hK hN hE ?_ _ _ hP hD0.self va_S.rf hl
  intro H locs ls pc hd hP' hD' hS'
  exact W.lret B.exec B.bytes B.returns (fun t ht _ => ⟨⟨r, (), rfl, rfl, by rw [ht]; exact hP', hD'⟩, hS'.F ht⟩) hS'.2.2 hd B.notSynchronized
theorem mkEV {l : Launch} {y : MethodName} {b : ByteArray} {nL fr lo : Nat} {As : List Value} {D : va_G} {cI cJ : ClassId} {sa sv : Nat → Nat} {ws ws' : va_W} {own : String} (ho : y.cls = own) (hy : plainFor y = true) (hn : (lg_sl As).length ≤ nL) {lv : List (Nat × Value)} (hlv : lv_args 0 As = lv)
    (body : ∀ (p : Program) (e : Env) (s : State) (m : MethodId) (below : List Frame) (meth : Method) (c : Code) (Q : State → Prop) (A : Nat → Prop) (ls : Array Slot) (ar : Array Value), CallFix p m c b nL s ar WT own → (∀ q : Nat, s.heap.size ≤ q → A q) → va_K D vwCl (tyIJ cI cJ) s → NW s → EV sa sv A s s.heap →
      (∀ (H : Heap) (locs : List Loc) (ls : Array Slot) (pc : Nat), decode b pc = .ok (.return_, 1) → va_P D vwCl ws' H → va_D A ws' → va_S A s.heap H locs → W p l e (rmz fr lo) s m ar below meth c H locs 0 0 Q (F0 m pc ls [])) →
      ∀ (H : Heap) (locs : List Loc), va_P D vwCl ws H → va_D A ws → va_S A s.heap H locs → lv_has ls nL lv → W p l e (rmz fr lo) s m ar below meth c H locs 0 0 Q (F0 m 0 ls [])) : CeV l y b nL fr lo As D cI cJ sa sv ws ws' := by
  intro z
  subst ho
  refine met_ofWF (cc := b) (maxL := nL) (ret := none) hy rfl ?_
  intro p e s m args below meth c s₁ B hml hv
  obtain ⟨rfl, ⟨hsz, hP, hK, hD0, hN⟩, hE⟩ := hv
  have hts := atoms_spec (ws := Cond.code y b nL none :: WT) B.pre
  subst hsz
  rw [lg_entry_eq]
  have hl := lv_entry As (n := nL) hn
  rw [hlv] at hl
  refine body p e s m below meth c _ (va_A ws s.heap.size) _ _ ⟨B.exec, B.bytes, hml, findClass_of_methodNamed B.named, fun w hw => hts w (List.mem_cons_of_mem _ hw)⟩ (fun q h => Or.inr h) hK hN hE ?_ _ _ hP hD0.self va_S.rf hl
  intro H locs ls pc hd hP' hD' hS'
  exact W.vret B.exec B.bytes B.returns (fun t ht _ => ⟨⟨(), rfl, trivial, by rw [ht]; exact hP', hD'⟩, hS'.F ht⟩) hS'.2.2 hd B.notSynchronized
section ECALLS
variable {p : Program} {l : Launch} {e : Env} {R : Room} {s : State} {m : MethodId} {args : Array Value} {below : List Frame} {meth : Method} {c : Code} {H : Heap} {locs : List Loc} {cells slots : Nat} {Q : State → Prop}
variable {cc b : ByteArray} {nL nb n idx fr lo pc : Nat} {own : String} {D : va_G} {cI cJ : ClassId} {sa sv : Nat → Nat} {A : Nat → Prop} {ws wc w1 ws' : va_W} {y : MethodName} {ret : FieldType} {h : Nat} {As rest st : List Value} {ls : Array Slot}
theorem eV_I {r : Int32} (S : CallFix p m c cc nL s args WT own) (hK : va_K D vwCl (tyIJ cI cJ) s) (hN : NW s) (hE : EV sa sv A s s.heap) (hA : ∀ q : Nat, s.heap.size ≤ q → A q) (hP : va_P D vwCl ws H) (hD : va_D A ws) (hS : va_S A s.heap H locs)
    (hM : CeI l y b nb fr lo ret (.ref h :: As) D cI cJ sa sv wc w1 r) (mw : MWords y b nb (some ret) n) (hi : Cond.instanceMethod y ∈ WT ∧ Cond.selects y.cls y y ∈ WT) (hl : Cond.methodLink own idx y ∈ WT)
    (isC : List Nat) (hC : isC.map (fun i => ws[i]?) = wc.map some) (hnd : va_nd isC = true) (hlen : isC.length = w1.length) (hput : putAll ws isC w1 = ws') (hadr : ws'.map Prod.fst = ws.map Prod.fst) (q0 : Nat) {ci : Nat} {fs : List Value} {T : u_T} {N : Nat} (he : wc[q0]? = some (h, .inr (ci, fs))) (hc : vwCl[ci]? = some (y.cls, T, N))
    (hR : fr + 1 ≤ R.frames ∧ 8 + (nb + 11) + lo ≤ R.locals) (hcs : cells ≤ R.cells ∧ slots ≤ R.slots) (hsz : ls.size = nL) (hn : As.length = n) (hst : st = As.reverse ++ .ref h :: rest) (hrm : (rest.map fun v => v.category).sum ≤ 8) (hdg : decode cc pc = .ok (.invokevirtual idx, 3))
    (kk : ∀ (H1 : Heap) (locs1 : List Loc), va_P D vwCl ws' H1 → va_D A ws' → va_S A s.heap H1 locs1 → W p l e R s m args below meth c H1 locs1 cells slots Q (F0 m (pc + 3) ls (.int r :: rest))) : W p l e R s m args below meth c H locs cells slots Q (F0 m pc ls st) := by
  have hPc := hP.sub (ws' := wc) isC (fm_of_map isC hC)
  have hDc := hD.sub (ws' := wc) isC hnd hC
  have hFc := va_free (wc := wc) hD hS hA isC hC
  refine va_calli (va_runV (As := As) (rest := rest) S (hM H.size) (cwV n S.2.2.2.2 (gi_V mw hi hl) rfl rfl rfl ⟨rfl, mw.2.2⟩ hR) ⟨PreX.blind, va_recv hK hPc hc he, PreX.use _ hPc hK hDc hN hE hS hFc⟩ rfl hn hsz hst (lv_room hrm) hdg hcs) hS (fun q _ h => hFc q h) hFc (fun r' u t H1 locs1 ht hvm hw hB hz1 hk1 hS1 => ?_)
  obtain ⟨hP1, hD1⟩ := hB
  rw [ht] at hP1
  subst hw
  exact kk H1 locs1 (va_back hP hD isC hC hlen hput hk1 hP1) (hD.adr hadr) hS1
theorem eS_I {r : Int32} (S : CallFix p m c cc nL s args WT own) (hK : va_K D vwCl (tyIJ cI cJ) s) (hN : NW s) (hE : EV sa sv A s s.heap) (hA : ∀ q : Nat, s.heap.size ≤ q → A q) (hP : va_P D vwCl ws H) (hD : va_D A ws) (hS : va_S A s.heap H locs)
    (hM : CeI l y b nb fr lo ret As D cI cJ sa sv wc w1 r) (mw : MWords y b nb (some ret) n) (hi : Cond.static y ∈ WT) (hl : Cond.methodLink own idx y ∈ WT)
    (isC : List Nat) (hC : isC.map (fun i => ws[i]?) = wc.map some) (hnd : va_nd isC = true) (hlen : isC.length = w1.length) (hput : putAll ws isC w1 = ws') (hadr : ws'.map Prod.fst = ws.map Prod.fst)
    (hR : fr + 1 ≤ R.frames ∧ 8 + (nb + 11) + lo ≤ R.locals) (hcs : cells ≤ R.cells ∧ slots ≤ R.slots) (hsz : ls.size = nL) (hn : As.length = n) (hst : st = As.reverse ++ rest) (hrm : (rest.map fun v => v.category).sum ≤ 8) (hdg : decode cc pc = .ok (.invokestatic idx, 3))
    (kk : ∀ (H1 : Heap) (locs1 : List Loc), va_P D vwCl ws' H1 → va_D A ws' → va_S A s.heap H1 locs1 → W p l e R s m args below meth c H1 locs1 cells slots Q (F0 m (pc + 3) ls (.int r :: rest))) : W p l e R s m args below meth c H locs cells slots Q (F0 m pc ls st) := by
  have hPc := hP.sub (ws' := wc) isC (fm_of_map isC hC)
  have hDc := hD.sub (ws' := wc) isC hnd hC
  have hFc := va_free (wc := wc) hD hS hA isC hC
  refine va_calli (va_runS (As := As) (rest := rest) S (hM H.size) (va_cwS n S.2.2.2.2 (gi_S mw hi hl) rfl rfl rfl mw.2.2 hR) ⟨PreX.blind, PreX.use _ hPc hK hDc hN hE hS hFc⟩ rfl hn hsz hst (lv_room hrm) hdg hcs) hS (fun q _ h => hFc q h) hFc (fun r' u t H1 locs1 ht hvm hw hB hz1 hk1 hS1 => ?_)
  obtain ⟨hP1, hD1⟩ := hB
  rw [ht] at hP1
  subst hw
  exact kk H1 locs1 (va_back hP hD isC hC hlen hput hk1 hP1) (hD.adr hadr) hS1
theorem eV_L {r : Int64} (S : CallFix p m c cc nL s args WT own) (hK : va_K D vwCl (tyIJ cI cJ) s) (hN : NW s) (hE : EV sa sv A s s.heap) (hA : ∀ q : Nat, s.heap.size ≤ q → A q) (hP : va_P D vwCl ws H) (hD : va_D A ws) (hS : va_S A s.heap H locs)
    (hM : CeL l y b nb fr lo (.ref h :: As) D cI cJ sa sv wc w1 r) (mw : MWords y b nb (some .long) n) (hi : Cond.instanceMethod y ∈ WT ∧ Cond.selects y.cls y y ∈ WT) (hl : Cond.methodLink own idx y ∈ WT)
    (isC : List Nat) (hC : isC.map (fun i => ws[i]?) = wc.map some) (hnd : va_nd isC = true) (hlen : isC.length = w1.length) (hput : putAll ws isC w1 = ws') (hadr : ws'.map Prod.fst = ws.map Prod.fst) (q0 : Nat) {ci : Nat} {fs : List Value} {T : u_T} {N : Nat} (he : wc[q0]? = some (h, .inr (ci, fs))) (hc : vwCl[ci]? = some (y.cls, T, N))
    (hR : fr + 1 ≤ R.frames ∧ 8 + (nb + 11) + lo ≤ R.locals) (hcs : cells ≤ R.cells ∧ slots ≤ R.slots) (hsz : ls.size = nL) (hn : As.length = n) (hst : st = As.reverse ++ .ref h :: rest) (hrm : (rest.map fun v => v.category).sum ≤ 8) (hdg : decode cc pc = .ok (.invokevirtual idx, 3))
    (kk : ∀ (H1 : Heap) (locs1 : List Loc), va_P D vwCl ws' H1 → va_D A ws' → va_S A s.heap H1 locs1 → W p l e R s m args below meth c H1 locs1 cells slots Q (F0 m (pc + 3) ls (.long r :: rest))) : W p l e R s m args below meth c H locs cells slots Q (F0 m pc ls st) := by
  have hPc := hP.sub (ws' := wc) isC (fm_of_map isC hC)
  have hDc := hD.sub (ws' := wc) isC hnd hC
  have hFc := va_free (wc := wc) hD hS hA isC hC
  refine va_calll (va_runV (As := As) (rest := rest) S (hM H.size) (cwV n S.2.2.2.2 (gi_V mw hi hl) rfl rfl rfl ⟨rfl, mw.2.2⟩ hR) ⟨PreX.blind, va_recv hK hPc hc he, PreX.use _ hPc hK hDc hN hE hS hFc⟩ rfl hn hsz hst (lv_room hrm) hdg hcs) hS (fun q _ h => hFc q h) hFc (fun r' u t H1 locs1 ht hvm hw hB hz1 hk1 hS1 => ?_)
  obtain ⟨hP1, hD1⟩ := hB
  rw [ht] at hP1
  subst hw
  exact kk H1 locs1 (va_back hP hD isC hC hlen hput hk1 hP1) (hD.adr hadr) hS1
theorem eS_L {r : Int64} (S : CallFix p m c cc nL s args WT own) (hK : va_K D vwCl (tyIJ cI cJ) s) (hN : NW s) (hE : EV sa sv A s s.heap) (hA : ∀ q : Nat, s.heap.size ≤ q → A q) (hP : va_P D vwCl ws H) (hD : va_D A ws) (hS : va_S A s.heap H locs)
    (hM : CeL l y b nb fr lo As D cI cJ sa sv wc w1 r) (mw : MWords y b nb (some .long) n) (hi : Cond.static y ∈ WT) (hl : Cond.methodLink own idx y ∈ WT)
    (isC : List Nat) (hC : isC.map (fun i => ws[i]?) = wc.map some) (hnd : va_nd isC = true) (hlen : isC.length = w1.length) (hput : putAll ws isC w1 = ws') (hadr : ws'.map Prod.fst = ws.map Prod.fst)
    (hR : fr + 1 ≤ R.frames ∧ 8 + (nb + 11) + lo ≤ R.locals) (hcs : cells ≤ R.cells ∧ slots ≤ R.slots) (hsz : ls.size = nL) (hn : As.length = n) (hst : st = As.reverse ++ rest) (hrm : (rest.map fun v => v.category).sum ≤ 8) (hdg : decode cc pc = .ok (.invokestatic idx, 3))
    (kk : ∀ (H1 : Heap) (locs1 : List Loc), va_P D vwCl ws' H1 → va_D A ws' → va_S A s.heap H1 locs1 → W p l e R s m args below meth c H1 locs1 cells slots Q (F0 m (pc + 3) ls (.long r :: rest))) : W p l e R s m args below meth c H locs cells slots Q (F0 m pc ls st) := by
  have hPc := hP.sub (ws' := wc) isC (fm_of_map isC hC)
  have hDc := hD.sub (ws' := wc) isC hnd hC
  have hFc := va_free (wc := wc) hD hS hA isC hC
  refine va_calll (va_runS (As := As) (rest := rest) S (hM H.size) (va_cwS n S.2.2.2.2 (gi_S mw hi hl) rfl rfl rfl mw.2.2 hR) ⟨PreX.blind, PreX.use _ hPc hK hDc hN hE hS hFc⟩ rfl hn hsz hst (lv_room hrm) hdg hcs) hS (fun q _ h => hFc q h) hFc (fun r' u t H1 locs1 ht hvm hw hB hz1 hk1 hS1 => ?_)
  obtain ⟨hP1, hD1⟩ := hB
  rw [ht] at hP1
  subst hw
  exact kk H1 locs1 (va_back hP hD isC hC hlen hput hk1 hP1) (hD.adr hadr) hS1
theorem eV_V  (S : CallFix p m c cc nL s args WT own) (hK : va_K D vwCl (tyIJ cI cJ) s) (hN : NW s) (hE : EV sa sv A s s.heap) (hA : ∀ q : Nat, s.heap.size ≤ q → A q) (hP : va_P D vwCl ws H) (hD : va_D A ws) (hS : va_S A s.heap H locs)
    (hM : CeV l y b nb fr lo (.ref h :: As) D cI cJ sa sv wc w1) (mw : MWords y b nb none n) (hi : Cond.instanceMethod y ∈ WT ∧ Cond.selects y.cls y y ∈ WT) (hl : Cond.methodLink own idx y ∈ WT)
    (isC : List Nat) (hC : isC.map (fun i => ws[i]?) = wc.map some) (hnd : va_nd isC = true) (hlen : isC.length = w1.length) (hput : putAll ws isC w1 = ws') (hadr : ws'.map Prod.fst = ws.map Prod.fst) (q0 : Nat) {ci : Nat} {fs : List Value} {T : u_T} {N : Nat} (he : wc[q0]? = some (h, .inr (ci, fs))) (hc : vwCl[ci]? = some (y.cls, T, N))
    (hR : fr + 1 ≤ R.frames ∧ 8 + (nb + 11) + lo ≤ R.locals) (hcs : cells ≤ R.cells ∧ slots ≤ R.slots) (hsz : ls.size = nL) (hn : As.length = n) (hst : st = As.reverse ++ .ref h :: rest) (hrm : (rest.map fun v => v.category).sum ≤ 8) (hdg : decode cc pc = .ok (.invokevirtual idx, 3))
    (kk : ∀ (H1 : Heap) (locs1 : List Loc), va_P D vwCl ws' H1 → va_D A ws' → va_S A s.heap H1 locs1 → W p l e R s m args below meth c H1 locs1 cells slots Q (F0 m (pc + 3) ls (rest))) : W p l e R s m args below meth c H locs cells slots Q (F0 m pc ls st) := by
  have hPc := hP.sub (ws' := wc) isC (fm_of_map isC hC)
  have hDc := hD.sub (ws' := wc) isC hnd hC
  have hFc := va_free (wc := wc) hD hS hA isC hC
  refine va_callv (va_runV (As := As) (rest := rest) S (hM H.size) (cwV n S.2.2.2.2 (gi_V mw hi hl) rfl rfl rfl ⟨rfl, mw.2.2⟩ hR) ⟨PreX.blind, va_recv hK hPc hc he, PreX.use _ hPc hK hDc hN hE hS hFc⟩ rfl hn hsz hst (lv_room hrm) hdg hcs) hS (fun q _ h => hFc q h) hFc (fun u t H1 locs1 ht hvm hw hB hz1 hk1 hS1 => ?_)
  obtain ⟨hP1, hD1⟩ := hB
  rw [ht] at hP1
  skip
  exact kk H1 locs1 (va_back hP hD isC hC hlen hput hk1 hP1) (hD.adr hadr) hS1
theorem eS_V  (S : CallFix p m c cc nL s args WT own) (hK : va_K D vwCl (tyIJ cI cJ) s) (hN : NW s) (hE : EV sa sv A s s.heap) (hA : ∀ q : Nat, s.heap.size ≤ q → A q) (hP : va_P D vwCl ws H) (hD : va_D A ws) (hS : va_S A s.heap H locs)
    (hM : CeV l y b nb fr lo As D cI cJ sa sv wc w1) (mw : MWords y b nb none n) (hi : Cond.static y ∈ WT) (hl : Cond.methodLink own idx y ∈ WT)
    (isC : List Nat) (hC : isC.map (fun i => ws[i]?) = wc.map some) (hnd : va_nd isC = true) (hlen : isC.length = w1.length) (hput : putAll ws isC w1 = ws') (hadr : ws'.map Prod.fst = ws.map Prod.fst)
    (hR : fr + 1 ≤ R.frames ∧ 8 + (nb + 11) + lo ≤ R.locals) (hcs : cells ≤ R.cells ∧ slots ≤ R.slots) (hsz : ls.size = nL) (hn : As.length = n) (hst : st = As.reverse ++ rest) (hrm : (rest.map fun v => v.category).sum ≤ 8) (hdg : decode cc pc = .ok (.invokestatic idx, 3))
    (kk : ∀ (H1 : Heap) (locs1 : List Loc), va_P D vwCl ws' H1 → va_D A ws' → va_S A s.heap H1 locs1 → W p l e R s m args below meth c H1 locs1 cells slots Q (F0 m (pc + 3) ls (rest))) : W p l e R s m args below meth c H locs cells slots Q (F0 m pc ls st) := by
  have hPc := hP.sub (ws' := wc) isC (fm_of_map isC hC)
  have hDc := hD.sub (ws' := wc) isC hnd hC
  have hFc := va_free (wc := wc) hD hS hA isC hC
  refine va_callv (va_runS (As := As) (rest := rest) S (hM H.size) (va_cwS n S.2.2.2.2 (gi_S mw hi hl) rfl rfl rfl mw.2.2 hR) ⟨PreX.blind, PreX.use _ hPc hK hDc hN hE hS hFc⟩ rfl hn hsz hst (lv_room hrm) hdg hcs) hS (fun q _ h => hFc q h) hFc (fun u t H1 locs1 ht hvm hw hB hz1 hk1 hS1 => ?_)
  obtain ⟨hP1, hD1⟩ := hB
  rw [ht] at hP1
  skip
  exact kk H1 locs1 (va_back hP hD isC hC hlen hput hk1 hP1) (hD.adr hadr) hS1
end ECALLS
theorem EV.obj {sa sv : Nat → Nat} {A : Nat → Prop} {U : State} {H : Heap} (h : EV sa sv A U H) {t : Nat} (ht : t < strTab.length) : va_O "java/lang/String" (sa t) A U H := (h.2.2 t _ (List.getElem?_eq_getElem ht)).1
theorem str_small : ∀ t, t < strTab.length → (sByt t).length < 1000 := by decide +kernel
theorem str_lt {t : Nat} {k : Int32} (ht : t < strTab.length) (hk : vp_in k (sByt t).length) : k < sLen t := by
  have h := str_small t ht
  obtain ⟨h1, h2⟩ := vp_in_iff.mp hk
  unfold sLen
  rw [Int32.lt_iff_toInt_lt]
  have e : (Int32.ofNat (sByt t).length).toInt = ((sByt t).length : Int) := nI_toInt (by omega)
  rw [e]; exact h2
theorem va_ldcSW {p : Program} {l : Launch} {e : Env} {R : Room} {s : State} {m : MethodId} {args : Array Value} {below : List Frame} {meth : Method} {c : Code} {H : Heap} {locs : List Loc} {cells slots : Nat} {Q : State → Prop} {cc : ByteArray} {pc : Nat} {ls : Array Slot} {rest : List Value} (hexec : p.tables.exec = Jvm.exec) (hb : c.code = cc) {own tx : String} {index q : Nat} (hown : s.vm.findClass own = some m.cls) (hZ : vk_R own index tx q s) (hdg : decode cc pc = .ok (.ldc_w index, 3))
    (k : W p l e R s m args below meth c H locs cells slots Q (F0 m (pc + 3) ls (.ref q :: rest))) : W p l e R s m args below meth c H locs cells slots Q (F0 m pc ls rest) := by
  intro T hT X
  obtain ⟨t, a1, b1⟩ := k T hT X
  exact ⟨t, X.ldcStringW hexec hown (text := tx) (a := q) hZ.1 hZ.2 (g := F0 m pc ls rest) rfl (by rw [hb]; exact hdg) t a1, b1⟩
theorem sl0 : 0 < strTab.length := by decide +kernel
theorem sr0 : strTab[0]? = some ("FigurePress", 199, "places are 0 to 15", [112, 108, 97, 99, 101, 115, 32, 97, 114, 101, 32, 48, 32, 116, 111, 32, 49, 53]) := by decide +kernel
theorem EV.s0 {sa sv : Nat → Nat} {A : Nat → Prop} {U : State} {H : Heap} (h : EV sa sv A U H) : vk_R "FigurePress" 199 "places are 0 to 15" (sa 0) U := by
  have h1 := h.2.1 0 _ sr0
  exact h1
theorem sl1 : 1 < strTab.length := by decide +kernel
theorem sr1 : strTab[1]? = some ("FigurePress", 202, "formats are 0 and 1", [102, 111, 114, 109, 97, 116, 115, 32, 97, 114, 101, 32, 48, 32, 97, 110, 100, 32, 49]) := by decide +kernel
theorem EV.s1 {sa sv : Nat → Nat} {A : Nat → Prop} {U : State} {H : Heap} (h : EV sa sv A U H) : vk_R "FigurePress" 202 "formats are 0 and 1" (sa 1) U := by
  have h1 := h.2.1 1 _ sr1
  exact h1
theorem sl2 : 2 < strTab.length := by decide +kernel
theorem sr2 : strTab[2]? = some ("FigurePress", 91, "what is told is 0 to 3", [119, 104, 97, 116, 32, 105, 115, 32, 116, 111, 108, 100, 32, 105, 115, 32, 48, 32, 116, 111, 32, 51]) := by decide +kernel
theorem EV.s2 {sa sv : Nat → Nat} {A : Nat → Prop} {U : State} {H : Heap} (h : EV sa sv A U H) : vk_R "FigurePress" 91 "what is told is 0 to 3" (sa 2) U := by
  have h1 := h.2.1 2 _ sr2
  exact h1
theorem sl3 : 3 < strTab.length := by decide +kernel
theorem sr3 : strTab[3]? = some ("FigurePress", 204, "ways are 0 to 3", [119, 97, 121, 115, 32, 97, 114, 101, 32, 48, 32, 116, 111, 32, 51]) := by decide +kernel
theorem EV.s3 {sa sv : Nat → Nat} {A : Nat → Prop} {U : State} {H : Heap} (h : EV sa sv A U H) : vk_R "FigurePress" 204 "ways are 0 to 3" (sa 3) U := by
  have h1 := h.2.1 3 _ sr3
  exact h1
theorem sl4 : 4 < strTab.length := by decide +kernel
theorem sr4 : strTab[4]? = some ("FigurePress", 117, "no long", [110, 111, 32, 108, 111, 110, 103]) := by decide +kernel
theorem EV.s4 {sa sv : Nat → Nat} {A : Nat → Prop} {U : State} {H : Heap} (h : EV sa sv A U H) : vk_R "FigurePress" 117 "no long" (sa 4) U := by
  have h1 := h.2.1 4 _ sr4
  exact h1
theorem sl5 : 5 < strTab.length := by decide +kernel
theorem sr5 : strTab[5]? = some ("FigurePress", 159, "1 to 8 bytes, and 1200 in all", [49, 32, 116, 111, 32, 56, 32, 98, 121, 116, 101, 115, 44, 32, 97, 110, 100, 32, 49, 50, 48, 48, 32, 105, 110, 32, 97, 108, 108]) := by decide +kernel
theorem EV.s5 {sa sv : Nat → Nat} {A : Nat → Prop} {U : State} {H : Heap} (h : EV sa sv A U H) : vk_R "FigurePress" 159 "1 to 8 bytes, and 1200 in all" (sa 5) U := by
  have h1 := h.2.1 5 _ sr5
  exact h1
theorem sl6 : 6 < strTab.length := by decide +kernel
theorem sr6 : strTab[6]? = some ("FigurePress$Text", 33, "inf", [105, 110, 102]) := by decide +kernel
theorem EV.s6 {sa sv : Nat → Nat} {A : Nat → Prop} {U : State} {H : Heap} (h : EV sa sv A U H) : vk_R "FigurePress$Text" 33 "inf" (sa 6) U := by
  have h1 := h.2.1 6 _ sr6
  exact h1
theorem sl7 : 7 < strTab.length := by decide +kernel
theorem sr7 : strTab[7]? = some ("FigurePress$Text", 39, "nan", [110, 97, 110]) := by decide +kernel
theorem EV.s7 {sa sv : Nat → Nat} {A : Nat → Prop} {U : State} {H : Heap} (h : EV sa sv A U H) : vk_R "FigurePress$Text" 39 "nan" (sa 7) U := by
  have h1 := h.2.1 7 _ sr7
  exact h1
theorem sl8 : 8 < strTab.length := by decide +kernel
theorem sr8 : strTab[8]? = some ("FigurePress", 206, "forms are 0 to 5", [102, 111, 114, 109, 115, 32, 97, 114, 101, 32, 48, 32, 116, 111, 32, 53]) := by decide +kernel
theorem EV.s8 {sa sv : Nat → Nat} {A : Nat → Prop} {U : State} {H : Heap} (h : EV sa sv A U H) : vk_R "FigurePress" 206 "forms are 0 to 5" (sa 8) U := by
  have h1 := h.2.1 8 _ sr8
  exact h1
theorem sl9 : 9 < strTab.length := by decide +kernel
theorem sr9 : strTab[9]? = some ("FigurePress", 208, "too few or too many figures", [116, 111, 111, 32, 102, 101, 119, 32, 111, 114, 32, 116, 111, 111, 32, 109, 97, 110, 121, 32, 102, 105, 103, 117, 114, 101, 115]) := by decide +kernel
theorem EV.s9 {sa sv : Nat → Nat} {A : Nat → Prop} {U : State} {H : Heap} (h : EV sa sv A U H) : vk_R "FigurePress" 208 "too few or too many figures" (sa 9) U := by
  have h1 := h.2.1 9 _ sr9
  exact h1
theorem sl10 : 10 < strTab.length := by decide +kernel
theorem sr10 : strTab[10]? = some ("FigurePress$Forms", 42, "nan", [110, 97, 110]) := by decide +kernel
theorem EV.s10 {sa sv : Nat → Nat} {A : Nat → Prop} {U : State} {H : Heap} (h : EV sa sv A U H) : vk_R "FigurePress$Forms" 42 "nan" (sa 10) U := by
  have h1 := h.2.1 10 _ sr10
  exact h1
theorem sl11 : 11 < strTab.length := by decide +kernel
theorem sr11 : strTab[11]? = some ("FigurePress$Forms", 56, "inf", [105, 110, 102]) := by decide +kernel
theorem EV.s11 {sa sv : Nat → Nat} {A : Nat → Prop} {U : State} {H : Heap} (h : EV sa sv A U H) : vk_R "FigurePress$Forms" 56 "inf" (sa 11) U := by
  have h1 := h.2.1 11 _ sr11
  exact h1
theorem sl12 : 12 < strTab.length := by decide +kernel
theorem sr12 : strTab[12]? = some ("FigurePress$Forms", 110, "0x0p0", [48, 120, 48, 112, 48]) := by decide +kernel
theorem EV.s12 {sa sv : Nat → Nat} {A : Nat → Prop} {U : State} {H : Heap} (h : EV sa sv A U H) : vk_R "FigurePress$Forms" 110 "0x0p0" (sa 12) U := by
  have h1 := h.2.1 12 _ sr12
  exact h1
theorem sl13 : 13 < strTab.length := by decide +kernel
theorem sr13 : strTab[13]? = some ("FigurePress$Forms", 112, "0x1", [48, 120, 49]) := by decide +kernel
theorem EV.s13 {sa sv : Nat → Nat} {A : Nat → Prop} {U : State} {H : Heap} (h : EV sa sv A U H) : vk_R "FigurePress$Forms" 112 "0x1" (sa 13) U := by
  have h1 := h.2.1 13 _ sr13
  exact h1
theorem sl14 : 14 < strTab.length := by decide +kernel
theorem sr14 : strTab[14]? = some ("FigurePressModel", 384, "nan", [110, 97, 110]) := by decide +kernel
theorem EV.s14 {sa sv : Nat → Nat} {A : Nat → Prop} {U : State} {H : Heap} (h : EV sa sv A U H) : vk_R "FigurePressModel" 384 "nan" (sa 14) U := by
  have h1 := h.2.1 14 _ sr14
  exact h1
theorem sl15 : 15 < strTab.length := by decide +kernel
theorem sr15 : strTab[15]? = some ("FigurePressModel", 386, "inf", [105, 110, 102]) := by decide +kernel
theorem EV.s15 {sa sv : Nat → Nat} {A : Nat → Prop} {U : State} {H : Heap} (h : EV sa sv A U H) : vk_R "FigurePressModel" 386 "inf" (sa 15) U := by
  have h1 := h.2.1 15 _ sr15
  exact h1
theorem sl16 : 16 < strTab.length := by decide +kernel
theorem sr16 : strTab[16]? = some ("FigurePressModel", 378, "0e0", [48, 101, 48]) := by decide +kernel
theorem EV.s16 {sa sv : Nat → Nat} {A : Nat → Prop} {U : State} {H : Heap} (h : EV sa sv A U H) : vk_R "FigurePressModel" 378 "0e0" (sa 16) U := by
  have h1 := h.2.1 16 _ sr16
  exact h1
theorem sl17 : 17 < strTab.length := by decide +kernel
theorem sr17 : strTab[17]? = some ("FigurePressModel", 380, "0x0p0", [48, 120, 48, 112, 48]) := by decide +kernel
theorem EV.s17 {sa sv : Nat → Nat} {A : Nat → Prop} {U : State} {H : Heap} (h : EV sa sv A U H) : vk_R "FigurePressModel" 380 "0x0p0" (sa 17) U := by
  have h1 := h.2.1 17 _ sr17
  exact h1
theorem sl18 : 18 < strTab.length := by decide +kernel
theorem sr18 : strTab[18]? = some ("FigurePressModel", 382, "e0", [101, 48]) := by decide +kernel
theorem EV.s18 {sa sv : Nat → Nat} {A : Nat → Prop} {U : State} {H : Heap} (h : EV sa sv A U H) : vk_R "FigurePressModel" 382 "e0" (sa 18) U := by
  have h1 := h.2.1 18 _ sr18
  exact h1
theorem sl19 : 19 < strTab.length := by decide +kernel
theorem sr19 : strTab[19]? = some ("FigurePressModel", 367, "0x1", [48, 120, 49]) := by decide +kernel
theorem EV.s19 {sa sv : Nat → Nat} {A : Nat → Prop} {U : State} {H : Heap} (h : EV sa sv A U H) : vk_R "FigurePressModel" 367 "0x1" (sa 19) U := by
  have h1 := h.2.1 19 _ sr19
  exact h1
