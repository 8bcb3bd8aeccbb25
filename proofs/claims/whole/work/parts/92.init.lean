/-! constructors: contracts of methods that make cells -/
theorem ra_int {D : va_G} {cl : List vw_C} {cI cJ cA : ClassId} {s : State} (h : va_K D cl (tyIJ cI cJ ++ [(cA, .int)]) s) : cA = cI := by
  have h1 : s.vm.findClass ("[" ++ FieldType.int.toString) = some cI := (h.2 0 (cI, .int) rfl).2
  have h2 : s.vm.findClass ("[" ++ FieldType.int.toString) = some cA := (h.2 2 (cA, .int) rfl).2
  exact Option.some.inj (h2.symm.trans h1)
theorem ra_long {D : va_G} {cl : List vw_C} {cI cJ cA : ClassId} {s : State} (h : va_K D cl (tyIJ cI cJ ++ [(cA, .long)]) s) : cA = cJ := by
  have h1 : s.vm.findClass ("[" ++ FieldType.long.toString) = some cJ := (h.2 1 (cJ, .long) rfl).2
  have h2 : s.vm.findClass ("[" ++ FieldType.long.toString) = some cA := (h.2 2 (cA, .long) rfl).2
  exact Option.some.inj (h2.symm.trans h1)
def CnV (l : Launch) (y : MethodName) (b : ByteArray) (nL fr mc ms lo : Nat) (As : List Value) (D : va_G) (cI cJ : ClassId) (ws : va_W) (PR : va_W → Prop) : Prop :=
  ∀ z : Nat, Met l y (Cond.code y b nL none :: WT) (rmc fr mc ms lo) (va_Pc As (PreB D cI cJ z ws)) (va_Qv PR (pxB D (va_A ws z)) (va_A ws z)) mc ms (va_A ws z)
theorem mkN {l : Launch} {y : MethodName} {b : ByteArray} {nL fr mc ms lo : Nat} {As : List Value} {D : va_G} {cI cJ : ClassId} {ws : va_W} {PR : va_W → Prop} {own : String} (ho : y.cls = own) (hy : plainFor y = true) (hn : (lg_sl As).length ≤ nL) {lv : List (Nat × Value)} (hlv : lv_args 0 As = lv) (hy1 : y.name = "<init>")
    (body : ∀ (p : Program) (e : Env) (s : State) (m : MethodId) (below : List Frame) (meth : Method) (c : Code) (Q : State → Prop) (A : Nat → Prop) (ls : Array Slot) (ar : Array Value), CallFix p m c b nL s ar WT own → meth.name = "<init>" → (∀ q : Nat, s.heap.size ≤ q → A q) → va_K D vwCl (tyIJ cI cJ) s → NW s →
      (∀ (w : va_W) (H : Heap) (locs : List Loc) (ls : Array Slot) (pc cells slots : Nat), PR w → cells ≤ mc → slots ≤ ms → decode b pc = .ok (.return_, 1) → va_P D vwCl w H → va_D A w → va_S A s.heap H locs → W p l e (rmc fr mc ms lo) s m ar below meth c H locs cells slots Q (F0 m pc ls [])) →
      ∀ (H : Heap) (locs : List Loc), va_P D vwCl ws H → va_D A ws → va_S A s.heap H locs → lv_has ls nL lv → W p l e (rmc fr mc ms lo) s m ar below meth c H locs 0 0 Q (F0 m 0 ls [])) : CnV l y b nL fr mc ms lo As D cI cJ ws PR := by
  intro z
  subst ho
  refine met_ofWF (cc := b) (maxL := nL) (ret := none) hy rfl ?_
  intro p e s m args below meth c s₁ B hml hv
  obtain ⟨rfl, hsz, hP, hK, hD0, hN⟩ := hv
  have hts := atoms_spec (ws := Cond.code y b nL none :: WT) B.pre
  subst hsz
  rw [lg_entry_eq]
  have hl := lv_entry As (n := nL) hn
  rw [hlv] at hl
  refine body p e s m below meth c _ (va_A ws s.heap.size) _ _ ⟨B.exec, B.bytes, hml, findClass_of_methodNamed B.named, fun w hw => hts w (List.mem_cons_of_mem _ hw)⟩ ((name_of_methodNamed B.named B.method).1.trans hy1) (fun q h => Or.inr h) hK hN ?_ _ _ hP hD0.self va_S.rf hl
  intro w H locs ls pc cells slots hPR hc hs hd hP' hD' hS'
  refine W.widen hc hs ?_
  exact W.vret B.exec B.bytes B.returns (fun t ht _ => ⟨⟨w, rfl, hPR, by rw [ht]; exact hP', hD'⟩, hS'.F ht⟩) hS'.2.2 hd B.notSynchronized
section NCALLS
variable {p : Program} {l : Launch} {e : Env} {R : Room} {s : State} {m : MethodId} {args : Array Value} {below : List Frame} {meth : Method} {c : Code} {H : Heap} {locs : List Loc} {cells slots : Nat} {Q : State → Prop}
variable {cc b : ByteArray} {nL nb n idx fr mc ms lo pc : Nat} {own host : String} {D : va_G} {cI cJ : ClassId} {A : Nat → Prop} {ws wc wr : va_W} {y : MethodName} {h : Nat} {As rest st : List Value} {ls : Array Slot} {PR : va_W → Prop}
theorem nI_V (S : CallFix p m c cc nL s args WT own) (hK : va_K D vwCl (tyIJ cI cJ) s) (hN : NW s) (hA : ∀ q : Nat, s.heap.size ≤ q → A q) (hP : va_P D vwCl ws H) (hD : va_D A ws) (hS : va_S A s.heap H locs)
    (hM : CnV l y b nb fr mc ms lo (.ref h :: As) D cI cJ wc PR) (mw : MWords y b nb none n) (hi : Cond.instanceMethod y ∈ WT) (hy1 : y.name = "<init>") (hl : Cond.methodLink own idx y ∈ WT)
    (isC isR : List Nat) (hC : isC.map (fun i => ws[i]?) = wc.map some) (hRr : isR.map (fun i => ws[i]?) = wr.map some) (hnd : va_nd isC = true) (hnr : va_nd isR = true) (hdis : ∀ i ∈ isR, i ∉ isC)
    (hR : fr + 1 ≤ R.frames ∧ 8 + (nb + 11) + lo ≤ R.locals) (hcs : cells + mc ≤ R.cells ∧ slots + ms ≤ R.slots) (hsz : ls.size = nL) (hn : As.length = n) (hst : st = As.reverse ++ .ref h :: rest) (hrm : (rest.map fun v => v.category).sum ≤ 8) (hdg : decode cc pc = .ok (.invokespecial idx, 3))
    (kk : ∀ (w : va_W) (H1 : Heap) (locs1 : List Loc), PR w → va_P D vwCl (wr ++ w) H1 → va_D A (wr ++ w) → va_S A s.heap H1 locs1 → W p l e R s m args below meth c H1 locs1 (cells + mc) (slots + ms) Q (F0 m (pc + 3) ls rest)) : W p l e R s m args below meth c H locs cells slots Q (F0 m pc ls st) := by
  have hPc := hP.sub (ws' := wc) isC (fm_of_map isC hC)
  have hDc := hD.sub (ws' := wc) isC hnd hC
  have hFc := va_free (wc := wc) hD hS hA isC hC
  refine va_callv (va_runI (As := As) (rest := rest) S (hM H.size) (cwI n S.2.2.2.2 (wt_goodIn mw.2.1) rfl rfl rfl (S.2.2.2.2 _ mw.1) (S.2.2.2.2 _ hl) (S.2.2.2.2 _ hi) hy1 mw.2.2 hR) ⟨PreB.blind, PreB.use _ hPc hK hDc hN⟩ rfl hn hsz hst (lv_room hrm) hdg hcs) hS (fun q _ h => hFc q h) hFc (fun u t H1 locs1 ht hvm hp hB hz1 hk1 hS1 => ?_)
  obtain ⟨hP1, hD1⟩ := hB
  rw [ht] at hP1
  obtain ⟨hP2, hD2⟩ := va_join (wr := wr) hP hD isC isR hC hRr hnr hdis hk1 hFc hP1 hD1
  exact kk u H1 locs1 hp hP2 hD2 hS1
theorem nN_V (S : CallFix p m c cc nL s args WT own) (hK : va_K D vwCl (tyIJ cI cJ) s) (hN : NW s) (hA : ∀ q : Nat, s.heap.size ≤ q → A q) (hP : va_P D vwCl ws H) (hD : va_D A ws) (hS : va_S A s.heap H locs)
    (hM : CnV l y b nb fr mc ms lo (.ref h :: As) D cI cJ wc PR) (mw : MWords y b nb none n) (hi : Cond.instanceMethod y ∈ WT) (hy1 : y.name = "<init>") (hl : Cond.methodLinkNest own idx y host ∈ NT)
    (isC isR : List Nat) (hC : isC.map (fun i => ws[i]?) = wc.map some) (hRr : isR.map (fun i => ws[i]?) = wr.map some) (hnd : va_nd isC = true) (hnr : va_nd isR = true) (hdis : ∀ i ∈ isR, i ∉ isC)
    (hR : fr + 1 ≤ R.frames ∧ 8 + (nb + 11) + lo ≤ R.locals) (hcs : cells + mc ≤ R.cells ∧ slots + ms ≤ R.slots) (hsz : ls.size = nL) (hn : As.length = n) (hst : st = As.reverse ++ .ref h :: rest) (hrm : (rest.map fun v => v.category).sum ≤ 8) (hdg : decode cc pc = .ok (.invokespecial idx, 3))
    (kk : ∀ (w : va_W) (H1 : Heap) (locs1 : List Loc), PR w → va_P D vwCl (wr ++ w) H1 → va_D A (wr ++ w) → va_S A s.heap H1 locs1 → W p l e R s m args below meth c H1 locs1 (cells + mc) (slots + ms) Q (F0 m (pc + 3) ls rest)) : W p l e R s m args below meth c H locs cells slots Q (F0 m pc ls st) := by
  have hPc := hP.sub (ws' := wc) isC (fm_of_map isC hC)
  have hDc := hD.sub (ws' := wc) isC hnd hC
  have hFc := va_free (wc := wc) hD hS hA isC hC
  refine va_callv (va_runIN (As := As) (rest := rest) S (hM H.size) ⟨va_cnB (host := host) n S.2.2.2.2 (wt_goodIn mw.2.1) rfl rfl rfl (hN _ hl) (S.2.2.2.2 _ mw.1) mw.2.2 hR, hy1, S.2.2.2.2 _ hi⟩ ⟨PreB.blind, PreB.use _ hPc hK hDc hN⟩ rfl hn hsz hst (lv_room hrm) hdg hcs) hS (fun q _ h => hFc q h) hFc (fun u t H1 locs1 ht hvm hp hB hz1 hk1 hS1 => ?_)
  obtain ⟨hP1, hD1⟩ := hB
  rw [ht] at hP1
  obtain ⟨hP2, hD2⟩ := va_join (wr := wr) hP hD isC isR hC hRr hnr hdis hk1 hFc hP1 hD1
  exact kk u H1 locs1 hp hP2 hD2 hS1
end NCALLS
theorem wObjI : Cond.instanceMethod objectInit ∈ WT := wtT 33 (by decide +kernel) rfl
theorem wObjC : Cond.code objectInit ⟨#[0xb1]⟩ 1 none ∈ WT := wtT 34 (by decide +kernel) rfl
theorem wArI : Cond.arrayClass .int ∈ WT := wtT 74 (by decide +kernel) rfl
theorem wArJ : Cond.arrayClass .long ∈ WT := wtT 75 (by decide +kernel) rfl
theorem kmOX8 : Cond.methodLink RX8 3 objectInit ∈ WT := wtT 40 (by decide +kernel) rfl
theorem mwcX8_init : MWords yX8_init cX8_init 1 none 0 := ⟨wtT 2 (by decide +kernel) rfl, wtT 39 (by decide +kernel) rfl, by decide +kernel⟩
theorem micX8_init : Cond.instanceMethod yX8_init ∈ WT := wtT 38 (by decide +kernel) rfl
theorem kmOX4 : Cond.methodLink RX4 1 objectInit ∈ WT := wtT 125 (by decide +kernel) rfl
theorem mwcX4_init : MWords yX4_init cX4_init 1 none 0 := ⟨wtT 4 (by decide +kernel) rfl, wtT 124 (by decide +kernel) rfl, by decide +kernel⟩
theorem micX4_init : Cond.instanceMethod yX4_init ∈ WT := wtT 123 (by decide +kernel) rfl
theorem kmOX5 : Cond.methodLink RX5 1 objectInit ∈ WT := wtT 184 (by decide +kernel) rfl
theorem mwcX5_init : MWords yX5_init cX5_init 1 none 0 := ⟨wtT 8 (by decide +kernel) rfl, wtT 183 (by decide +kernel) rfl, by decide +kernel⟩
theorem micX5_init : Cond.instanceMethod yX5_init ∈ WT := wtT 182 (by decide +kernel) rfl
theorem kmOX7 : Cond.methodLink RX7 3 objectInit ∈ WT := wtT 81 (by decide +kernel) rfl
theorem mwcX7_init : MWords yX7_init cX7_init 1 none 0 := ⟨wtT 3 (by decide +kernel) rfl, wtT 80 (by decide +kernel) rfl, by decide +kernel⟩
theorem micX7_init : Cond.instanceMethod yX7_init ∈ WT := wtT 79 (by decide +kernel) rfl
theorem kmOX1 : Cond.methodLink RX1 1 objectInit ∈ WT := wtT 198 (by decide +kernel) rfl
theorem mwcX1_init : MWords yX1_init cX1_init 1 none 0 := ⟨wtT 9 (by decide +kernel) rfl, wtT 197 (by decide +kernel) rfl, by decide +kernel⟩
theorem micX1_init : Cond.instanceMethod yX1_init ∈ WT := wtT 196 (by decide +kernel) rfl
theorem kmOX0 : Cond.methodLink RX0 3 objectInit ∈ WT := wtT 138 (by decide +kernel) rfl
theorem mwcX0_init : MWords yX0_init cX0_init 3 none 2 := ⟨wtT 5 (by decide +kernel) rfl, wtT 137 (by decide +kernel) rfl, by decide +kernel⟩
theorem micX0_init : Cond.instanceMethod yX0_init ∈ WT := wtT 136 (by decide +kernel) rfl
theorem kmOX6 : Cond.methodLink RX6 1 objectInit ∈ WT := wtT 153 (by decide +kernel) rfl
theorem kclX6_7 : Cond.classLink RX6 7 RX4 ∈ WT := wtT 154 (by decide +kernel) rfl
theorem winX4 : Cond.instantiable RX4 2 ∈ WT := wtT 121 (by decide +kernel) rfl
theorem wizX4 : Cond.initialized RX4 ∈ WT := wtT 4 (by decide +kernel) rfl
theorem kmnX6_9 : Cond.methodLinkNest RX6 9 yX4_init "FigurePress" ∈ NT := ntT 155 (by decide +kernel) rfl
theorem mwcX6_init : MWords yX6_init cX6_init 3 none 2 := ⟨wtT 7 (by decide +kernel) rfl, wtT 152 (by decide +kernel) rfl, by decide +kernel⟩
theorem micX6_init : Cond.instanceMethod yX6_init ∈ WT := wtT 151 (by decide +kernel) rfl
theorem kmOX3 : Cond.methodLink RX3 3 objectInit ∈ WT := wtT 178 (by decide +kernel) rfl
theorem kclX3_9 : Cond.classLink RX3 9 RX5 ∈ WT := wtT 179 (by decide +kernel) rfl
theorem winX5 : Cond.instantiable RX5 2 ∈ WT := wtT 180 (by decide +kernel) rfl
theorem wizX5 : Cond.initialized RX5 ∈ WT := wtT 8 (by decide +kernel) rfl
theorem kmnX3_11 : Cond.methodLinkNest RX3 11 yX5_init "FigurePress" ∈ NT := ntT 181 (by decide +kernel) rfl
theorem kclX3_18 : Cond.classLink RX3 18 RX1 ∈ WT := wtT 193 (by decide +kernel) rfl
theorem winX1 : Cond.instantiable RX1 3 ∈ WT := wtT 194 (by decide +kernel) rfl
theorem wizX1 : Cond.initialized RX1 ∈ WT := wtT 9 (by decide +kernel) rfl
theorem kmnX3_20 : Cond.methodLinkNest RX3 20 yX1_init "FigurePress" ∈ NT := ntT 195 (by decide +kernel) rfl
theorem mwcX3_init : MWords yX3_init cX3_init 3 none 2 := ⟨wtT 6 (by decide +kernel) rfl, wtT 177 (by decide +kernel) rfl, by decide +kernel⟩
theorem micX3_init : Cond.instanceMethod yX3_init ∈ WT := wtT 176 (by decide +kernel) rfl
theorem kmOX9 : Cond.methodLink RX9 1 objectInit ∈ WT := wtT 32 (by decide +kernel) rfl
theorem kclX9_17 : Cond.classLink RX9 17 RX8 ∈ WT := wtT 35 (by decide +kernel) rfl
theorem winX8 : Cond.instantiable RX8 5 ∈ WT := wtT 36 (by decide +kernel) rfl
theorem wizX8 : Cond.initialized RX8 ∈ WT := wtT 2 (by decide +kernel) rfl
theorem kmnX9_19 : Cond.methodLinkNest RX9 19 yX8_init "FigurePress" ∈ NT := ntT 37 (by decide +kernel) rfl
theorem kclX9_30 : Cond.classLink RX9 30 RX7 ∈ WT := wtT 76 (by decide +kernel) rfl
theorem winX7 : Cond.instantiable RX7 10 ∈ WT := wtT 77 (by decide +kernel) rfl
theorem wizX7 : Cond.initialized RX7 ∈ WT := wtT 3 (by decide +kernel) rfl
theorem kmnX9_32 : Cond.methodLinkNest RX9 32 yX7_init "FigurePress" ∈ NT := ntT 78 (by decide +kernel) rfl
theorem kclX9_37 : Cond.classLink RX9 37 RX4 ∈ WT := wtT 120 (by decide +kernel) rfl
theorem kmnX9_39 : Cond.methodLinkNest RX9 39 yX4_init "FigurePress" ∈ NT := ntT 122 (by decide +kernel) rfl
theorem kclX9_40 : Cond.classLink RX9 40 RX0 ∈ WT := wtT 133 (by decide +kernel) rfl
theorem winX0 : Cond.instantiable RX0 2 ∈ WT := wtT 134 (by decide +kernel) rfl
theorem wizX0 : Cond.initialized RX0 ∈ WT := wtT 5 (by decide +kernel) rfl
theorem kmiX9_42 : Cond.methodLink RX9 42 yX0_init ∈ WT := wtT 135 (by decide +kernel) rfl
theorem kclX9_49 : Cond.classLink RX9 49 RX3 ∈ WT := wtT 146 (by decide +kernel) rfl
theorem winX3 : Cond.instantiable RX3 4 ∈ WT := wtT 147 (by decide +kernel) rfl
theorem wizX3 : Cond.initialized RX3 ∈ WT := wtT 6 (by decide +kernel) rfl
theorem kclX9_51 : Cond.classLink RX9 51 RX6 ∈ WT := wtT 148 (by decide +kernel) rfl
theorem winX6 : Cond.instantiable RX6 6 ∈ WT := wtT 149 (by decide +kernel) rfl
theorem wizX6 : Cond.initialized RX6 ∈ WT := wtT 7 (by decide +kernel) rfl
theorem kmiX9_53 : Cond.methodLink RX9 53 yX6_init ∈ WT := wtT 150 (by decide +kernel) rfl
theorem kmiX9_54 : Cond.methodLink RX9 54 yX3_init ∈ WT := wtT 175 (by decide +kernel) rfl
theorem mwcX9_init : MWords yX9_init cX9_init 3 none 0 := ⟨wtT 1 (by decide +kernel) rfl, wtT 31 (by decide +kernel) rfl, by decide +kernel⟩
theorem micX9_init : Cond.instanceMethod yX9_init ∈ WT := wtT 30 (by decide +kernel) rfl
theorem kmOX10 : Cond.methodLink RX10 3 objectInit ∈ WT := wtT 1030 (by decide +kernel) rfl
theorem mwcX10_init : MWords yX10_init cX10_init 1 none 0 := ⟨wtT 11 (by decide +kernel) rfl, wtT 1029 (by decide +kernel) rfl, by decide +kernel⟩
theorem micX10_init : Cond.instanceMethod yX10_init ∈ WT := wtT 1028 (by decide +kernel) rfl
theorem kmOX11 : Cond.methodLink RX11 143 objectInit ∈ WT := wtT 1024 (by decide +kernel) rfl
theorem kclX11_57 : Cond.classLink RX11 57 RX10 ∈ WT := wtT 1025 (by decide +kernel) rfl
theorem winX10 : Cond.instantiable RX10 2 ∈ WT := wtT 1026 (by decide +kernel) rfl
theorem wizX10 : Cond.initialized RX10 ∈ WT := wtT 11 (by decide +kernel) rfl
theorem kmnX11_149 : Cond.methodLinkNest RX11 149 yX10_init "FigurePressModel" ∈ NT := ntT 1027 (by decide +kernel) rfl
theorem mwcX11_init : MWords yX11_init cX11_init 1 none 0 := ⟨wtT 10 (by decide +kernel) rfl, wtT 1023 (by decide +kernel) rfl, by decide +kernel⟩
theorem micX11_init : Cond.instanceMethod yX11_init ∈ WT := wtT 1022 (by decide +kernel) rfl
theorem dX8_init_0 : decode cX8_init 0 = .ok (.aload_n 0, 1) := by decide +kernel
theorem dX8_init_1 : decode cX8_init 1 = .ok (.invokespecial 3, 3) := by decide +kernel
theorem dX8_init_4 : decode cX8_init 4 = .ok (.return_, 1) := by decide +kernel
theorem dX4_init_0 : decode cX4_init 0 = .ok (.aload_n 0, 1) := by decide +kernel
theorem dX4_init_1 : decode cX4_init 1 = .ok (.invokespecial 1, 3) := by decide +kernel
theorem dX4_init_4 : decode cX4_init 4 = .ok (.aload_n 0, 1) := by decide +kernel
theorem dX4_init_5 : decode cX4_init 5 = .ok (.sipush 160, 3) := by decide +kernel
theorem dX4_init_8 : decode cX4_init 8 = .ok (.newarray .long, 2) := by decide +kernel
theorem dX4_init_10 : decode cX4_init 10 = .ok (.putfield 9, 3) := by decide +kernel
theorem dX4_init_13 : decode cX4_init 13 = .ok (.return_, 1) := by decide +kernel
theorem dX5_init_0 : decode cX5_init 0 = .ok (.aload_n 0, 1) := by decide +kernel
theorem dX5_init_1 : decode cX5_init 1 = .ok (.invokespecial 1, 3) := by decide +kernel
theorem dX5_init_4 : decode cX5_init 4 = .ok (.aload_n 0, 1) := by decide +kernel
theorem dX5_init_5 : decode cX5_init 5 = .ok (.sipush 1077, 3) := by decide +kernel
theorem dX5_init_8 : decode cX5_init 8 = .ok (.newarray .int, 2) := by decide +kernel
theorem dX5_init_10 : decode cX5_init 10 = .ok (.putfield 9, 3) := by decide +kernel
theorem dX5_init_13 : decode cX5_init 13 = .ok (.return_, 1) := by decide +kernel
theorem dX7_init_0 : decode cX7_init 0 = .ok (.aload_n 0, 1) := by decide +kernel
theorem dX7_init_1 : decode cX7_init 1 = .ok (.invokespecial 3, 3) := by decide +kernel
theorem dX7_init_4 : decode cX7_init 4 = .ok (.aload_n 0, 1) := by decide +kernel
theorem dX7_init_5 : decode cX7_init 5 = .ok (.sipush 1200, 3) := by decide +kernel
theorem dX7_init_8 : decode cX7_init 8 = .ok (.newarray .int, 2) := by decide +kernel
theorem dX7_init_10 : decode cX7_init 10 = .ok (.putfield 11, 3) := by decide +kernel
theorem dX7_init_13 : decode cX7_init 13 = .ok (.return_, 1) := by decide +kernel
theorem dX1_init_0 : decode cX1_init 0 = .ok (.aload_n 0, 1) := by decide +kernel
theorem dX1_init_1 : decode cX1_init 1 = .ok (.invokespecial 1, 3) := by decide +kernel
theorem dX1_init_4 : decode cX1_init 4 = .ok (.aload_n 0, 1) := by decide +kernel
theorem dX1_init_5 : decode cX1_init 5 = .ok (.sipush 792, 3) := by decide +kernel
theorem dX1_init_8 : decode cX1_init 8 = .ok (.newarray .int, 2) := by decide +kernel
theorem dX1_init_10 : decode cX1_init 10 = .ok (.putfield 9, 3) := by decide +kernel
theorem dX1_init_13 : decode cX1_init 13 = .ok (.return_, 1) := by decide +kernel
theorem dX0_init_0 : decode cX0_init 0 = .ok (.aload_n 0, 1) := by decide +kernel
theorem dX0_init_1 : decode cX0_init 1 = .ok (.invokespecial 3, 3) := by decide +kernel
theorem dX0_init_4 : decode cX0_init 4 = .ok (.aload_n 0, 1) := by decide +kernel
theorem dX0_init_5 : decode cX0_init 5 = .ok (.aload_n 1, 1) := by decide +kernel
theorem dX0_init_6 : decode cX0_init 6 = .ok (.putfield 9, 3) := by decide +kernel
theorem dX0_init_9 : decode cX0_init 9 = .ok (.aload_n 0, 1) := by decide +kernel
theorem dX0_init_10 : decode cX0_init 10 = .ok (.aload_n 2, 1) := by decide +kernel
theorem dX0_init_11 : decode cX0_init 11 = .ok (.putfield 15, 3) := by decide +kernel
theorem dX0_init_14 : decode cX0_init 14 = .ok (.return_, 1) := by decide +kernel
theorem dX6_init_0 : decode cX6_init 0 = .ok (.aload_n 0, 1) := by decide +kernel
theorem dX6_init_1 : decode cX6_init 1 = .ok (.invokespecial 1, 3) := by decide +kernel
theorem dX6_init_4 : decode cX6_init 4 = .ok (.aload_n 0, 1) := by decide +kernel
theorem dX6_init_5 : decode cX6_init 5 = .ok (.new 7, 3) := by decide +kernel
theorem dX6_init_8 : decode cX6_init 8 = .ok (.dup, 1) := by decide +kernel
theorem dX6_init_9 : decode cX6_init 9 = .ok (.invokespecial 9, 3) := by decide +kernel
theorem dX6_init_12 : decode cX6_init 12 = .ok (.putfield 10, 3) := by decide +kernel
theorem dX6_init_15 : decode cX6_init 15 = .ok (.aload_n 0, 1) := by decide +kernel
theorem dX6_init_16 : decode cX6_init 16 = .ok (.new 7, 3) := by decide +kernel
theorem dX6_init_19 : decode cX6_init 19 = .ok (.dup, 1) := by decide +kernel
theorem dX6_init_20 : decode cX6_init 20 = .ok (.invokespecial 9, 3) := by decide +kernel
theorem dX6_init_23 : decode cX6_init 23 = .ok (.putfield 16, 3) := by decide +kernel
theorem dX6_init_26 : decode cX6_init 26 = .ok (.aload_n 0, 1) := by decide +kernel
theorem dX6_init_27 : decode cX6_init 27 = .ok (.aload_n 1, 1) := by decide +kernel
theorem dX6_init_28 : decode cX6_init 28 = .ok (.putfield 19, 3) := by decide +kernel
theorem dX6_init_31 : decode cX6_init 31 = .ok (.aload_n 0, 1) := by decide +kernel
theorem dX6_init_32 : decode cX6_init 32 = .ok (.aload_n 2, 1) := by decide +kernel
theorem dX6_init_33 : decode cX6_init 33 = .ok (.putfield 22, 3) := by decide +kernel
theorem dX6_init_36 : decode cX6_init 36 = .ok (.return_, 1) := by decide +kernel
theorem dX3_init_0 : decode cX3_init 0 = .ok (.aload_n 0, 1) := by decide +kernel
theorem dX3_init_1 : decode cX3_init 1 = .ok (.invokespecial 3, 3) := by decide +kernel
theorem dX3_init_4 : decode cX3_init 4 = .ok (.aload_n 0, 1) := by decide +kernel
theorem dX3_init_5 : decode cX3_init 5 = .ok (.new 9, 3) := by decide +kernel
theorem dX3_init_8 : decode cX3_init 8 = .ok (.dup, 1) := by decide +kernel
theorem dX3_init_9 : decode cX3_init 9 = .ok (.invokespecial 11, 3) := by decide +kernel
theorem dX3_init_12 : decode cX3_init 12 = .ok (.putfield 12, 3) := by decide +kernel
theorem dX3_init_15 : decode cX3_init 15 = .ok (.aload_n 0, 1) := by decide +kernel
theorem dX3_init_16 : decode cX3_init 16 = .ok (.new 18, 3) := by decide +kernel
theorem dX3_init_19 : decode cX3_init 19 = .ok (.dup, 1) := by decide +kernel
theorem dX3_init_20 : decode cX3_init 20 = .ok (.invokespecial 20, 3) := by decide +kernel
theorem dX3_init_23 : decode cX3_init 23 = .ok (.putfield 21, 3) := by decide +kernel
theorem dX3_init_26 : decode cX3_init 26 = .ok (.aload_n 0, 1) := by decide +kernel
theorem dX3_init_27 : decode cX3_init 27 = .ok (.aload_n 1, 1) := by decide +kernel
theorem dX3_init_28 : decode cX3_init 28 = .ok (.putfield 25, 3) := by decide +kernel
theorem dX3_init_31 : decode cX3_init 31 = .ok (.aload_n 0, 1) := by decide +kernel
theorem dX3_init_32 : decode cX3_init 32 = .ok (.aload_n 2, 1) := by decide +kernel
theorem dX3_init_33 : decode cX3_init 33 = .ok (.putfield 29, 3) := by decide +kernel
theorem dX3_init_36 : decode cX3_init 36 = .ok (.return_, 1) := by decide +kernel
theorem dX9_init_0 : decode cX9_init 0 = .ok (.aload_n 0, 1) := by decide +kernel
theorem dX9_init_1 : decode cX9_init 1 = .ok (.invokespecial 1, 3) := by decide +kernel
theorem dX9_init_4 : decode cX9_init 4 = .ok (.aload_n 0, 1) := by decide +kernel
theorem dX9_init_5 : decode cX9_init 5 = .ok (.bipush 16, 2) := by decide +kernel
theorem dX9_init_7 : decode cX9_init 7 = .ok (.newarray .int, 2) := by decide +kernel
theorem dX9_init_9 : decode cX9_init 9 = .ok (.putfield 9, 3) := by decide +kernel
theorem dX9_init_12 : decode cX9_init 12 = .ok (.aload_n 0, 1) := by decide +kernel
theorem dX9_init_13 : decode cX9_init 13 = .ok (.bipush 16, 2) := by decide +kernel
theorem dX9_init_15 : decode cX9_init 15 = .ok (.newarray .long, 2) := by decide +kernel
theorem dX9_init_17 : decode cX9_init 17 = .ok (.putfield 13, 3) := by decide +kernel
theorem dX9_init_20 : decode cX9_init 20 = .ok (.aload_n 0, 1) := by decide +kernel
theorem dX9_init_21 : decode cX9_init 21 = .ok (.new 17, 3) := by decide +kernel
theorem dX9_init_24 : decode cX9_init 24 = .ok (.dup, 1) := by decide +kernel
theorem dX9_init_25 : decode cX9_init 25 = .ok (.invokespecial 19, 3) := by decide +kernel
theorem dX9_init_28 : decode cX9_init 28 = .ok (.putfield 20, 3) := by decide +kernel
theorem dX9_init_31 : decode cX9_init 31 = .ok (.aload_n 0, 1) := by decide +kernel
theorem dX9_init_32 : decode cX9_init 32 = .ok (.new 17, 3) := by decide +kernel
theorem dX9_init_35 : decode cX9_init 35 = .ok (.dup, 1) := by decide +kernel
theorem dX9_init_36 : decode cX9_init 36 = .ok (.invokespecial 19, 3) := by decide +kernel
theorem dX9_init_39 : decode cX9_init 39 = .ok (.putfield 24, 3) := by decide +kernel
theorem dX9_init_42 : decode cX9_init 42 = .ok (.aload_n 0, 1) := by decide +kernel
theorem dX9_init_43 : decode cX9_init 43 = .ok (.new 17, 3) := by decide +kernel
theorem dX9_init_46 : decode cX9_init 46 = .ok (.dup, 1) := by decide +kernel
theorem dX9_init_47 : decode cX9_init 47 = .ok (.invokespecial 19, 3) := by decide +kernel
theorem dX9_init_50 : decode cX9_init 50 = .ok (.putfield 27, 3) := by decide +kernel
theorem dX9_init_53 : decode cX9_init 53 = .ok (.aload_n 0, 1) := by decide +kernel
theorem dX9_init_54 : decode cX9_init 54 = .ok (.new 30, 3) := by decide +kernel
theorem dX9_init_57 : decode cX9_init 57 = .ok (.dup, 1) := by decide +kernel
theorem dX9_init_58 : decode cX9_init 58 = .ok (.invokespecial 32, 3) := by decide +kernel
theorem dX9_init_61 : decode cX9_init 61 = .ok (.putfield 33, 3) := by decide +kernel
theorem dX9_init_64 : decode cX9_init 64 = .ok (.new 37, 3) := by decide +kernel
theorem dX9_init_67 : decode cX9_init 67 = .ok (.dup, 1) := by decide +kernel
theorem dX9_init_68 : decode cX9_init 68 = .ok (.invokespecial 39, 3) := by decide +kernel
theorem dX9_init_71 : decode cX9_init 71 = .ok (.astore_n 1, 1) := by decide +kernel
theorem dX9_init_72 : decode cX9_init 72 = .ok (.new 37, 3) := by decide +kernel
theorem dX9_init_75 : decode cX9_init 75 = .ok (.dup, 1) := by decide +kernel
theorem dX9_init_76 : decode cX9_init 76 = .ok (.invokespecial 39, 3) := by decide +kernel
theorem dX9_init_79 : decode cX9_init 79 = .ok (.astore_n 2, 1) := by decide +kernel
theorem dX9_init_80 : decode cX9_init 80 = .ok (.aload_n 0, 1) := by decide +kernel
theorem dX9_init_81 : decode cX9_init 81 = .ok (.new 40, 3) := by decide +kernel
theorem dX9_init_84 : decode cX9_init 84 = .ok (.dup, 1) := by decide +kernel
theorem dX9_init_85 : decode cX9_init 85 = .ok (.aload_n 1, 1) := by decide +kernel
theorem dX9_init_86 : decode cX9_init 86 = .ok (.aload_n 2, 1) := by decide +kernel
theorem dX9_init_87 : decode cX9_init 87 = .ok (.invokespecial 42, 3) := by decide +kernel
theorem dX9_init_90 : decode cX9_init 90 = .ok (.putfield 45, 3) := by decide +kernel
theorem dX9_init_93 : decode cX9_init 93 = .ok (.aload_n 0, 1) := by decide +kernel
theorem dX9_init_94 : decode cX9_init 94 = .ok (.new 49, 3) := by decide +kernel
theorem dX9_init_97 : decode cX9_init 97 = .ok (.dup, 1) := by decide +kernel
theorem dX9_init_98 : decode cX9_init 98 = .ok (.new 51, 3) := by decide +kernel
theorem dX9_init_101 : decode cX9_init 101 = .ok (.dup, 1) := by decide +kernel
theorem dX9_init_102 : decode cX9_init 102 = .ok (.aload_n 1, 1) := by decide +kernel
theorem dX9_init_103 : decode cX9_init 103 = .ok (.aload_n 2, 1) := by decide +kernel
theorem dX9_init_104 : decode cX9_init 104 = .ok (.invokespecial 53, 3) := by decide +kernel
theorem dX9_init_107 : decode cX9_init 107 = .ok (.aload_n 1, 1) := by decide +kernel
theorem dX9_init_108 : decode cX9_init 108 = .ok (.invokespecial 54, 3) := by decide +kernel
theorem dX9_init_111 : decode cX9_init 111 = .ok (.putfield 57, 3) := by decide +kernel
theorem dX9_init_114 : decode cX9_init 114 = .ok (.return_, 1) := by decide +kernel
theorem dX10_init_0 : decode cX10_init 0 = .ok (.aload_n 0, 1) := by decide +kernel
theorem dX10_init_1 : decode cX10_init 1 = .ok (.invokespecial 3, 3) := by decide +kernel
theorem dX10_init_4 : decode cX10_init 4 = .ok (.aload_n 0, 1) := by decide +kernel
theorem dX10_init_5 : decode cX10_init 5 = .ok (.sipush 520, 3) := by decide +kernel
theorem dX10_init_8 : decode cX10_init 8 = .ok (.newarray .int, 2) := by decide +kernel
theorem dX10_init_10 : decode cX10_init 10 = .ok (.putfield 9, 3) := by decide +kernel
theorem dX10_init_13 : decode cX10_init 13 = .ok (.return_, 1) := by decide +kernel
theorem dX11_init_0 : decode cX11_init 0 = .ok (.aload_n 0, 1) := by decide +kernel
theorem dX11_init_1 : decode cX11_init 1 = .ok (.invokespecial 143, 3) := by decide +kernel
theorem dX11_init_4 : decode cX11_init 4 = .ok (.aload_n 0, 1) := by decide +kernel
theorem dX11_init_5 : decode cX11_init 5 = .ok (.bipush 16, 2) := by decide +kernel
theorem dX11_init_7 : decode cX11_init 7 = .ok (.newarray .int, 2) := by decide +kernel
theorem dX11_init_9 : decode cX11_init 9 = .ok (.putfield 1, 3) := by decide +kernel
theorem dX11_init_12 : decode cX11_init 12 = .ok (.aload_n 0, 1) := by decide +kernel
theorem dX11_init_13 : decode cX11_init 13 = .ok (.bipush 16, 2) := by decide +kernel
theorem dX11_init_15 : decode cX11_init 15 = .ok (.newarray .long, 2) := by decide +kernel
theorem dX11_init_17 : decode cX11_init 17 = .ok (.putfield 11, 3) := by decide +kernel
theorem dX11_init_20 : decode cX11_init 20 = .ok (.aload_n 0, 1) := by decide +kernel
theorem dX11_init_21 : decode cX11_init 21 = .ok (.new 57, 3) := by decide +kernel
theorem dX11_init_24 : decode cX11_init 24 = .ok (.dup, 1) := by decide +kernel
theorem dX11_init_25 : decode cX11_init 25 = .ok (.invokespecial 149, 3) := by decide +kernel
theorem dX11_init_28 : decode cX11_init 28 = .ok (.putfield 52, 3) := by decide +kernel
theorem dX11_init_31 : decode cX11_init 31 = .ok (.aload_n 0, 1) := by decide +kernel
theorem dX11_init_32 : decode cX11_init 32 = .ok (.new 57, 3) := by decide +kernel
theorem dX11_init_35 : decode cX11_init 35 = .ok (.dup, 1) := by decide +kernel
theorem dX11_init_36 : decode cX11_init 36 = .ok (.invokespecial 149, 3) := by decide +kernel
theorem dX11_init_39 : decode cX11_init 39 = .ok (.putfield 62, 3) := by decide +kernel
theorem dX11_init_42 : decode cX11_init 42 = .ok (.aload_n 0, 1) := by decide +kernel
theorem dX11_init_43 : decode cX11_init 43 = .ok (.new 57, 3) := by decide +kernel
theorem dX11_init_46 : decode cX11_init 46 = .ok (.dup, 1) := by decide +kernel
theorem dX11_init_47 : decode cX11_init 47 = .ok (.invokespecial 149, 3) := by decide +kernel
theorem dX11_init_50 : decode cX11_init 50 = .ok (.putfield 71, 3) := by decide +kernel
theorem dX11_init_53 : decode cX11_init 53 = .ok (.aload_n 0, 1) := by decide +kernel
theorem dX11_init_54 : decode cX11_init 54 = .ok (.new 57, 3) := by decide +kernel
theorem dX11_init_57 : decode cX11_init 57 = .ok (.dup, 1) := by decide +kernel
theorem dX11_init_58 : decode cX11_init 58 = .ok (.invokespecial 149, 3) := by decide +kernel
theorem dX11_init_61 : decode cX11_init 61 = .ok (.putfield 78, 3) := by decide +kernel
theorem dX11_init_64 : decode cX11_init 64 = .ok (.aload_n 0, 1) := by decide +kernel
theorem dX11_init_65 : decode cX11_init 65 = .ok (.new 57, 3) := by decide +kernel
theorem dX11_init_68 : decode cX11_init 68 = .ok (.dup, 1) := by decide +kernel
theorem dX11_init_69 : decode cX11_init 69 = .ok (.invokespecial 149, 3) := by decide +kernel
theorem dX11_init_72 : decode cX11_init 72 = .ok (.putfield 100, 3) := by decide +kernel
theorem dX11_init_75 : decode cX11_init 75 = .ok (.aload_n 0, 1) := by decide +kernel
theorem dX11_init_76 : decode cX11_init 76 = .ok (.new 57, 3) := by decide +kernel
theorem dX11_init_79 : decode cX11_init 79 = .ok (.dup, 1) := by decide +kernel
theorem dX11_init_80 : decode cX11_init 80 = .ok (.invokespecial 149, 3) := by decide +kernel
theorem dX11_init_83 : decode cX11_init 83 = .ok (.putfield 103, 3) := by decide +kernel
theorem dX11_init_86 : decode cX11_init 86 = .ok (.aload_n 0, 1) := by decide +kernel
theorem dX11_init_87 : decode cX11_init 87 = .ok (.new 57, 3) := by decide +kernel
theorem dX11_init_90 : decode cX11_init 90 = .ok (.dup, 1) := by decide +kernel
theorem dX11_init_91 : decode cX11_init 91 = .ok (.invokespecial 149, 3) := by decide +kernel
theorem dX11_init_94 : decode cX11_init 94 = .ok (.putfield 150, 3) := by decide +kernel
theorem dX11_init_97 : decode cX11_init 97 = .ok (.aload_n 0, 1) := by decide +kernel
theorem dX11_init_98 : decode cX11_init 98 = .ok (.sipush 1200, 3) := by decide +kernel
theorem dX11_init_101 : decode cX11_init 101 = .ok (.newarray .int, 2) := by decide +kernel
theorem dX11_init_103 : decode cX11_init 103 = .ok (.putfield 153, 3) := by decide +kernel
theorem dX11_init_106 : decode cX11_init 106 = .ok (.aload_n 0, 1) := by decide +kernel
theorem dX11_init_107 : decode cX11_init 107 = .ok (.sipush 1600, 3) := by decide +kernel
theorem dX11_init_110 : decode cX11_init 110 = .ok (.newarray .int, 2) := by decide +kernel
theorem dX11_init_112 : decode cX11_init 112 = .ok (.putfield 156, 3) := by decide +kernel
theorem dX11_init_115 : decode cX11_init 115 = .ok (.aload_n 0, 1) := by decide +kernel
theorem dX11_init_116 : decode cX11_init 116 = .ok (.sipush 1200, 3) := by decide +kernel
theorem dX11_init_119 : decode cX11_init 119 = .ok (.newarray .int, 2) := by decide +kernel
theorem dX11_init_121 : decode cX11_init 121 = .ok (.putfield 159, 3) := by decide +kernel
theorem dX11_init_124 : decode cX11_init 124 = .ok (.aload_n 0, 1) := by decide +kernel
theorem dX11_init_125 : decode cX11_init 125 = .ok (.new 57, 3) := by decide +kernel
theorem dX11_init_128 : decode cX11_init 128 = .ok (.dup, 1) := by decide +kernel
theorem dX11_init_129 : decode cX11_init 129 = .ok (.invokespecial 149, 3) := by decide +kernel
theorem dX11_init_132 : decode cX11_init 132 = .ok (.putfield 162, 3) := by decide +kernel
theorem dX11_init_135 : decode cX11_init 135 = .ok (.aload_n 0, 1) := by decide +kernel
theorem dX11_init_136 : decode cX11_init 136 = .ok (.new 57, 3) := by decide +kernel
theorem dX11_init_139 : decode cX11_init 139 = .ok (.dup, 1) := by decide +kernel
theorem dX11_init_140 : decode cX11_init 140 = .ok (.invokespecial 149, 3) := by decide +kernel
theorem dX11_init_143 : decode cX11_init 143 = .ok (.putfield 165, 3) := by decide +kernel
theorem dX11_init_146 : decode cX11_init 146 = .ok (.aload_n 0, 1) := by decide +kernel
theorem dX11_init_147 : decode cX11_init 147 = .ok (.new 57, 3) := by decide +kernel
theorem dX11_init_150 : decode cX11_init 150 = .ok (.dup, 1) := by decide +kernel
theorem dX11_init_151 : decode cX11_init 151 = .ok (.invokespecial 149, 3) := by decide +kernel
theorem dX11_init_154 : decode cX11_init 154 = .ok (.putfield 168, 3) := by decide +kernel
theorem dX11_init_157 : decode cX11_init 157 = .ok (.aload_n 0, 1) := by decide +kernel
theorem dX11_init_158 : decode cX11_init 158 = .ok (.new 57, 3) := by decide +kernel
theorem dX11_init_161 : decode cX11_init 161 = .ok (.dup, 1) := by decide +kernel
theorem dX11_init_162 : decode cX11_init 162 = .ok (.invokespecial 149, 3) := by decide +kernel
theorem dX11_init_165 : decode cX11_init 165 = .ok (.putfield 171, 3) := by decide +kernel
theorem dX11_init_168 : decode cX11_init 168 = .ok (.return_, 1) := by decide +kernel
theorem dfX9 : ∀ j, j < 8 → defaultValue (tyX9 j) = vp_V [.null, .null, .null, .null, .null, .null, .null, .null] j := fun j hj => by
  rcases (show j = 0 ∨ j = 1 ∨ j = 2 ∨ j = 3 ∨ j = 4 ∨ j = 5 ∨ j = 6 ∨ j = 7 by omega) with rfl | rfl | rfl | rfl | rfl | rfl | rfl | rfl <;> rfl
theorem dfX0 : ∀ j, j < 2 → defaultValue (tyX0 j) = vp_V [.null, .null] j := fun j hj => by
  rcases (show j = 0 ∨ j = 1 by omega) with rfl | rfl <;> rfl
theorem dfX1 : ∀ j, j < 3 → defaultValue (tyX1 j) = vp_V [.null, .int 0, .int 0] j := fun j hj => by
  rcases (show j = 0 ∨ j = 1 ∨ j = 2 by omega) with rfl | rfl | rfl <;> rfl
theorem dfX3 : ∀ j, j < 4 → defaultValue (tyX3 j) = vp_V [.null, .null, .null, .null] j := fun j hj => by
  rcases (show j = 0 ∨ j = 1 ∨ j = 2 ∨ j = 3 by omega) with rfl | rfl | rfl | rfl <;> rfl
theorem dfX4 : ∀ j, j < 2 → defaultValue (tyX4 j) = vp_V [.null, .int 0] j := fun j hj => by
  rcases (show j = 0 ∨ j = 1 by omega) with rfl | rfl <;> rfl
theorem dfX5 : ∀ j, j < 2 → defaultValue (tyX5 j) = vp_V [.null, .int 0] j := fun j hj => by
  rcases (show j = 0 ∨ j = 1 by omega) with rfl | rfl <;> rfl
theorem dfX6 : ∀ j, j < 6 → defaultValue (tyX6 j) = vp_V [.null, .null, .null, .null, .int 0, .int 0] j := fun j hj => by
  rcases (show j = 0 ∨ j = 1 ∨ j = 2 ∨ j = 3 ∨ j = 4 ∨ j = 5 by omega) with rfl | rfl | rfl | rfl | rfl | rfl <;> rfl
theorem dfX7 : ∀ j, j < 10 → defaultValue (tyX7 j) = vp_V [.null, .int 0, .int 0, .int 0, .int 0, .int 0, .int 0, .int 0, .int 0, .int 0] j := fun j hj => by
  rcases (show j = 0 ∨ j = 1 ∨ j = 2 ∨ j = 3 ∨ j = 4 ∨ j = 5 ∨ j = 6 ∨ j = 7 ∨ j = 8 ∨ j = 9 by omega) with rfl | rfl | rfl | rfl | rfl | rfl | rfl | rfl | rfl | rfl <;> rfl
theorem dfX8 : ∀ j, j < 5 → defaultValue (tyX8 j) = vp_V [.int 0, .int 0, .long 0, .int 0, .int 0] j := fun j hj => by
  rcases (show j = 0 ∨ j = 1 ∨ j = 2 ∨ j = 3 ∨ j = 4 by omega) with rfl | rfl | rfl | rfl | rfl <;> rfl
theorem dfX11 : ∀ j, j < 36 → defaultValue (tyX11 j) = vp_V [.null, .null, .int 0, .int 0, .long 0, .int 0, .int 0, .null, .null, .int 0, .int 0, .null, .null, .null, .null, .int 0, .null, .int 0, .int 0, .null, .int 0, .int 0, .int 0, .int 0, .int 0, .int 0, .null, .int 0, .null, .int 0, .int 0, .null, .null, .null, .null, .int 0] j := fun j hj => by
  rcases (show j = 0 ∨ j = 1 ∨ j = 2 ∨ j = 3 ∨ j = 4 ∨ j = 5 ∨ j = 6 ∨ j = 7 ∨ j = 8 ∨ j = 9 ∨ j = 10 ∨ j = 11 ∨ j = 12 ∨ j = 13 ∨ j = 14 ∨ j = 15 ∨ j = 16 ∨ j = 17 ∨ j = 18 ∨ j = 19 ∨ j = 20 ∨ j = 21 ∨ j = 22 ∨ j = 23 ∨ j = 24 ∨ j = 25 ∨ j = 26 ∨ j = 27 ∨ j = 28 ∨ j = 29 ∨ j = 30 ∨ j = 31 ∨ j = 32 ∨ j = 33 ∨ j = 34 ∨ j = 35 by omega) with rfl | rfl | rfl | rfl | rfl | rfl | rfl | rfl | rfl | rfl | rfl | rfl | rfl | rfl | rfl | rfl | rfl | rfl | rfl | rfl | rfl | rfl | rfl | rfl | rfl | rfl | rfl | rfl | rfl | rfl | rfl | rfl | rfl | rfl | rfl | rfl <;> rfl
theorem dfX10 : ∀ j, j < 2 → defaultValue (tyX10 j) = vp_V [.null, .int 0] j := fun j hj => by
  rcases (show j = 0 ∨ j = 1 by omega) with rfl | rfl <;> rfl
