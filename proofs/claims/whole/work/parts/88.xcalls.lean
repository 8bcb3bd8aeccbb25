/-! Calls of methods that return or throw. -/
theorem smL {α β γ : Type} {u : α ⊕ β} {f : α → γ} {g : β → γ} {x : α} {r : γ} (h : u = .inl x) (e : sm u f g = r) : f x = r := by subst h; exact e
theorem smR {α β γ : Type} {u : α ⊕ β} {f : α → γ} {g : β → γ} {y : β} {r : γ} (h : u = .inr y) (e : sm u f g = r) : g y = r := by subst h; exact e
section XCALLS
variable {p : Program} {l : Launch} {e : Env} {R : Room} {s : State} {m : MethodId} {args : Array Value} {below : List Frame} {meth : Method} {c : Code} {H : Heap} {locs : List Loc} {cells slots : Nat} {Q : State → Prop}
variable {cc b : ByteArray} {nL nb n idx fr mc ms lo pc : Nat} {own : String} {D : va_G} {cI cJ : ClassId} {sa sv : Nat → Nat} {A : Nat → Prop} {ws wc : va_W} {y : MethodName} {ret : FieldType} {h : Nat} {As rest st : List Value} {ls : Array Slot} {PX : String → va_W → Prop}
theorem xV_I {PR : Int32 → va_W → Prop} (S : CallFix p m c cc nL s args WT own) (hK : va_K D vwCl (tyIJ cI cJ) s) (hN : NW s) (hE : EV sa sv A s s.heap) (hA : ∀ q : Nat, s.heap.size ≤ q → A q) (hP : va_P D vwCl ws H) (hD : va_D A ws) (hS : va_S A s.heap H locs)
    (hM : CxI l y b nb fr mc ms lo ret (.ref h :: As) D cI cJ sa sv wc PR PX) (mw : MWords y b nb (some ret) n) (hi : Cond.instanceMethod y ∈ WT ∧ Cond.selects y.cls y y ∈ WT) (hl : Cond.methodLink own idx y ∈ WT)
    (isC : List Nat) (hC : isC.map (fun i => ws[i]?) = wc.map some) (hnd : va_nd isC = true) (q0 : Nat) {ci : Nat} {fs : List Value} {T : u_T} {N : Nat} (he : wc[q0]? = some (h, .inr (ci, fs))) (hc : vwCl[ci]? = some (y.cls, T, N))
    (hR : fr + 1 ≤ R.frames ∧ 8 + (nb + 11) + lo ≤ R.locals) (hcs : cells + mc ≤ R.cells ∧ slots + ms ≤ R.slots) (hsz : ls.size = nL) (hn : As.length = n) (hst : st = As.reverse ++ .ref h :: rest) (hrm : (rest.map fun v => v.category).sum ≤ 8) (hdg : decode cc pc = .ok (.invokevirtual idx, 3))
    (kx : ∀ (E : String) (w : va_W) (H1 : Heap) (locs1 : List Loc) (q : Addr) (ce : Cell), PX E w → (∀ ws' : va_W, isC.length = w.length → putAll ws isC w = ws' → va_P D vwCl ws' H1) → va_S A s.heap H1 locs1 → H1[q]? = some ce → ce.vm = .none → s.vm.findClass E = some ce.cls → vx_W p l e R s m args below meth c H1 locs1 (cells + mc) (slots + ms) Q (F0 m pc ls rest) q)
    (kk : ∀ (r : Int32) (w : va_W) (H1 : Heap) (locs1 : List Loc), PR r w → (∀ ws' : va_W, isC.length = w.length → putAll ws isC w = ws' → va_P D vwCl ws' H1) → va_S A s.heap H1 locs1 → W p l e R s m args below meth c H1 locs1 (cells + mc) (slots + ms) Q (F0 m (pc + 3) ls (.int r :: rest))) : W p l e R s m args below meth c H locs cells slots Q (F0 m pc ls st) := by
  have hPc := hP.sub (ws' := wc) isC (fm_of_map isC hC)
  have hDc := hD.sub (ws' := wc) isC hnd hC
  have hFc := va_free (wc := wc) hD hS hA isC hC
  refine vx_calli (vx_runV (As := As) (rest := rest) S (hM H.size) (cwV n S.2.2.2.2 (gi_V mw hi hl) rfl rfl rfl ⟨rfl, mw.2.2⟩ hR) ⟨PreX.blind, va_recv hK hPc hc he, PreX.use _ hPc hK hDc hN hE hS hFc⟩ rfl hn hsz hst (lv_room hrm) hdg hcs) hS (fun q _ h => hFc q h) hFc (fun q _ h => hFc q h) (fun E ce q9 u t H1 locs1 ht hvm hp hB hz1 hk1 hS1 hq hv hcl => ?_) (fun r u t H1 locs1 ht hvm hp hB hz1 hk1 hS1 => ?_)
  · obtain ⟨rfl, hP1, hD1⟩ := hB
    rw [ht] at hP1
    exact kx _ _ H1 locs1 q9 ce hp (fun ws' hlen hput => va_back hP hD isC hC hlen hput hk1 hP1) hS1 hq hv hcl
  · obtain ⟨hP1, hD1⟩ := hB
    rw [ht] at hP1
    exact kk r u H1 locs1 hp (fun ws' hlen hput => va_back hP hD isC hC hlen hput hk1 hP1) hS1
theorem xS_I {PR : Int32 → va_W → Prop} (S : CallFix p m c cc nL s args WT own) (hK : va_K D vwCl (tyIJ cI cJ) s) (hN : NW s) (hE : EV sa sv A s s.heap) (hA : ∀ q : Nat, s.heap.size ≤ q → A q) (hP : va_P D vwCl ws H) (hD : va_D A ws) (hS : va_S A s.heap H locs)
    (hM : CxI l y b nb fr mc ms lo ret As D cI cJ sa sv wc PR PX) (mw : MWords y b nb (some ret) n) (hi : Cond.static y ∈ WT) (hl : Cond.methodLink own idx y ∈ WT)
    (isC : List Nat) (hC : isC.map (fun i => ws[i]?) = wc.map some) (hnd : va_nd isC = true)
    (hR : fr + 1 ≤ R.frames ∧ 8 + (nb + 11) + lo ≤ R.locals) (hcs : cells + mc ≤ R.cells ∧ slots + ms ≤ R.slots) (hsz : ls.size = nL) (hn : As.length = n) (hst : st = As.reverse ++ rest) (hrm : (rest.map fun v => v.category).sum ≤ 8) (hdg : decode cc pc = .ok (.invokestatic idx, 3))
    (kx : ∀ (E : String) (w : va_W) (H1 : Heap) (locs1 : List Loc) (q : Addr) (ce : Cell), PX E w → (∀ ws' : va_W, isC.length = w.length → putAll ws isC w = ws' → va_P D vwCl ws' H1) → va_S A s.heap H1 locs1 → H1[q]? = some ce → ce.vm = .none → s.vm.findClass E = some ce.cls → vx_W p l e R s m args below meth c H1 locs1 (cells + mc) (slots + ms) Q (F0 m pc ls rest) q)
    (kk : ∀ (r : Int32) (w : va_W) (H1 : Heap) (locs1 : List Loc), PR r w → (∀ ws' : va_W, isC.length = w.length → putAll ws isC w = ws' → va_P D vwCl ws' H1) → va_S A s.heap H1 locs1 → W p l e R s m args below meth c H1 locs1 (cells + mc) (slots + ms) Q (F0 m (pc + 3) ls (.int r :: rest))) : W p l e R s m args below meth c H locs cells slots Q (F0 m pc ls st) := by
  have hPc := hP.sub (ws' := wc) isC (fm_of_map isC hC)
  have hDc := hD.sub (ws' := wc) isC hnd hC
  have hFc := va_free (wc := wc) hD hS hA isC hC
  refine vx_calli (vx_runS (As := As) (rest := rest) S (hM H.size) (va_cwS n S.2.2.2.2 (gi_S mw hi hl) rfl rfl rfl mw.2.2 hR) ⟨PreX.blind, PreX.use _ hPc hK hDc hN hE hS hFc⟩ rfl hn hsz hst (lv_room hrm) hdg hcs) hS (fun q _ h => hFc q h) hFc (fun q _ h => hFc q h) (fun E ce q9 u t H1 locs1 ht hvm hp hB hz1 hk1 hS1 hq hv hcl => ?_) (fun r u t H1 locs1 ht hvm hp hB hz1 hk1 hS1 => ?_)
  · obtain ⟨rfl, hP1, hD1⟩ := hB
    rw [ht] at hP1
    exact kx _ _ H1 locs1 q9 ce hp (fun ws' hlen hput => va_back hP hD isC hC hlen hput hk1 hP1) hS1 hq hv hcl
  · obtain ⟨hP1, hD1⟩ := hB
    rw [ht] at hP1
    exact kk r u H1 locs1 hp (fun ws' hlen hput => va_back hP hD isC hC hlen hput hk1 hP1) hS1
theorem xV_L {PR : Int64 → va_W → Prop} (S : CallFix p m c cc nL s args WT own) (hK : va_K D vwCl (tyIJ cI cJ) s) (hN : NW s) (hE : EV sa sv A s s.heap) (hA : ∀ q : Nat, s.heap.size ≤ q → A q) (hP : va_P D vwCl ws H) (hD : va_D A ws) (hS : va_S A s.heap H locs)
    (hM : CxL l y b nb fr mc ms lo (.ref h :: As) D cI cJ sa sv wc PR PX) (mw : MWords y b nb (some .long) n) (hi : Cond.instanceMethod y ∈ WT ∧ Cond.selects y.cls y y ∈ WT) (hl : Cond.methodLink own idx y ∈ WT)
    (isC : List Nat) (hC : isC.map (fun i => ws[i]?) = wc.map some) (hnd : va_nd isC = true) (q0 : Nat) {ci : Nat} {fs : List Value} {T : u_T} {N : Nat} (he : wc[q0]? = some (h, .inr (ci, fs))) (hc : vwCl[ci]? = some (y.cls, T, N))
    (hR : fr + 1 ≤ R.frames ∧ 8 + (nb + 11) + lo ≤ R.locals) (hcs : cells + mc ≤ R.cells ∧ slots + ms ≤ R.slots) (hsz : ls.size = nL) (hn : As.length = n) (hst : st = As.reverse ++ .ref h :: rest) (hrm : (rest.map fun v => v.category).sum ≤ 8) (hdg : decode cc pc = .ok (.invokevirtual idx, 3))
    (kx : ∀ (E : String) (w : va_W) (H1 : Heap) (locs1 : List Loc) (q : Addr) (ce : Cell), PX E w → (∀ ws' : va_W, isC.length = w.length → putAll ws isC w = ws' → va_P D vwCl ws' H1) → va_S A s.heap H1 locs1 → H1[q]? = some ce → ce.vm = .none → s.vm.findClass E = some ce.cls → vx_W p l e R s m args below meth c H1 locs1 (cells + mc) (slots + ms) Q (F0 m pc ls rest) q)
    (kk : ∀ (r : Int64) (w : va_W) (H1 : Heap) (locs1 : List Loc), PR r w → (∀ ws' : va_W, isC.length = w.length → putAll ws isC w = ws' → va_P D vwCl ws' H1) → va_S A s.heap H1 locs1 → W p l e R s m args below meth c H1 locs1 (cells + mc) (slots + ms) Q (F0 m (pc + 3) ls (.long r :: rest))) : W p l e R s m args below meth c H locs cells slots Q (F0 m pc ls st) := by
  have hPc := hP.sub (ws' := wc) isC (fm_of_map isC hC)
  have hDc := hD.sub (ws' := wc) isC hnd hC
  have hFc := va_free (wc := wc) hD hS hA isC hC
  refine vx_calll (vx_runV (As := As) (rest := rest) S (hM H.size) (cwV n S.2.2.2.2 (gi_V mw hi hl) rfl rfl rfl ⟨rfl, mw.2.2⟩ hR) ⟨PreX.blind, va_recv hK hPc hc he, PreX.use _ hPc hK hDc hN hE hS hFc⟩ rfl hn hsz hst (lv_room hrm) hdg hcs) hS (fun q _ h => hFc q h) hFc (fun q _ h => hFc q h) (fun E ce q9 u t H1 locs1 ht hvm hp hB hz1 hk1 hS1 hq hv hcl => ?_) (fun r u t H1 locs1 ht hvm hp hB hz1 hk1 hS1 => ?_)
  · obtain ⟨rfl, hP1, hD1⟩ := hB
    rw [ht] at hP1
    exact kx _ _ H1 locs1 q9 ce hp (fun ws' hlen hput => va_back hP hD isC hC hlen hput hk1 hP1) hS1 hq hv hcl
  · obtain ⟨hP1, hD1⟩ := hB
    rw [ht] at hP1
    exact kk r u H1 locs1 hp (fun ws' hlen hput => va_back hP hD isC hC hlen hput hk1 hP1) hS1
theorem xS_L {PR : Int64 → va_W → Prop} (S : CallFix p m c cc nL s args WT own) (hK : va_K D vwCl (tyIJ cI cJ) s) (hN : NW s) (hE : EV sa sv A s s.heap) (hA : ∀ q : Nat, s.heap.size ≤ q → A q) (hP : va_P D vwCl ws H) (hD : va_D A ws) (hS : va_S A s.heap H locs)
    (hM : CxL l y b nb fr mc ms lo As D cI cJ sa sv wc PR PX) (mw : MWords y b nb (some .long) n) (hi : Cond.static y ∈ WT) (hl : Cond.methodLink own idx y ∈ WT)
    (isC : List Nat) (hC : isC.map (fun i => ws[i]?) = wc.map some) (hnd : va_nd isC = true)
    (hR : fr + 1 ≤ R.frames ∧ 8 + (nb + 11) + lo ≤ R.locals) (hcs : cells + mc ≤ R.cells ∧ slots + ms ≤ R.slots) (hsz : ls.size = nL) (hn : As.length = n) (hst : st = As.reverse ++ rest) (hrm : (rest.map fun v => v.category).sum ≤ 8) (hdg : decode cc pc = .ok (.invokestatic idx, 3))
    (kx : ∀ (E : String) (w : va_W) (H1 : Heap) (locs1 : List Loc) (q : Addr) (ce : Cell), PX E w → (∀ ws' : va_W, isC.length = w.length → putAll ws isC w = ws' → va_P D vwCl ws' H1) → va_S A s.heap H1 locs1 → H1[q]? = some ce → ce.vm = .none → s.vm.findClass E = some ce.cls → vx_W p l e R s m args below meth c H1 locs1 (cells + mc) (slots + ms) Q (F0 m pc ls rest) q)
    (kk : ∀ (r : Int64) (w : va_W) (H1 : Heap) (locs1 : List Loc), PR r w → (∀ ws' : va_W, isC.length = w.length → putAll ws isC w = ws' → va_P D vwCl ws' H1) → va_S A s.heap H1 locs1 → W p l e R s m args below meth c H1 locs1 (cells + mc) (slots + ms) Q (F0 m (pc + 3) ls (.long r :: rest))) : W p l e R s m args below meth c H locs cells slots Q (F0 m pc ls st) := by
  have hPc := hP.sub (ws' := wc) isC (fm_of_map isC hC)
  have hDc := hD.sub (ws' := wc) isC hnd hC
  have hFc := va_free (wc := wc) hD hS hA isC hC
  refine vx_calll (vx_runS (As := As) (rest := rest) S (hM H.size) (va_cwS n S.2.2.2.2 (gi_S mw hi hl) rfl rfl rfl mw.2.2 hR) ⟨PreX.blind, PreX.use _ hPc hK hDc hN hE hS hFc⟩ rfl hn hsz hst (lv_room hrm) hdg hcs) hS (fun q _ h => hFc q h) hFc (fun q _ h => hFc q h) (fun E ce q9 u t H1 locs1 ht hvm hp hB hz1 hk1 hS1 hq hv hcl => ?_) (fun r u t H1 locs1 ht hvm hp hB hz1 hk1 hS1 => ?_)
  · obtain ⟨rfl, hP1, hD1⟩ := hB
    rw [ht] at hP1
    exact kx _ _ H1 locs1 q9 ce hp (fun ws' hlen hput => va_back hP hD isC hC hlen hput hk1 hP1) hS1 hq hv hcl
  · obtain ⟨hP1, hD1⟩ := hB
    rw [ht] at hP1
    exact kk r u H1 locs1 hp (fun ws' hlen hput => va_back hP hD isC hC hlen hput hk1 hP1) hS1
theorem xV_V {PR : va_W → Prop} (S : CallFix p m c cc nL s args WT own) (hK : va_K D vwCl (tyIJ cI cJ) s) (hN : NW s) (hE : EV sa sv A s s.heap) (hA : ∀ q : Nat, s.heap.size ≤ q → A q) (hP : va_P D vwCl ws H) (hD : va_D A ws) (hS : va_S A s.heap H locs)
    (hM : CxV l y b nb fr mc ms lo (.ref h :: As) D cI cJ sa sv wc PR PX) (mw : MWords y b nb none n) (hi : Cond.instanceMethod y ∈ WT ∧ Cond.selects y.cls y y ∈ WT) (hl : Cond.methodLink own idx y ∈ WT)
    (isC : List Nat) (hC : isC.map (fun i => ws[i]?) = wc.map some) (hnd : va_nd isC = true) (q0 : Nat) {ci : Nat} {fs : List Value} {T : u_T} {N : Nat} (he : wc[q0]? = some (h, .inr (ci, fs))) (hc : vwCl[ci]? = some (y.cls, T, N))
    (hR : fr + 1 ≤ R.frames ∧ 8 + (nb + 11) + lo ≤ R.locals) (hcs : cells + mc ≤ R.cells ∧ slots + ms ≤ R.slots) (hsz : ls.size = nL) (hn : As.length = n) (hst : st = As.reverse ++ .ref h :: rest) (hrm : (rest.map fun v => v.category).sum ≤ 8) (hdg : decode cc pc = .ok (.invokevirtual idx, 3))
    (kx : ∀ (E : String) (w : va_W) (H1 : Heap) (locs1 : List Loc) (q : Addr) (ce : Cell), PX E w → (∀ ws' : va_W, isC.length = w.length → putAll ws isC w = ws' → va_P D vwCl ws' H1) → va_S A s.heap H1 locs1 → H1[q]? = some ce → ce.vm = .none → s.vm.findClass E = some ce.cls → vx_W p l e R s m args below meth c H1 locs1 (cells + mc) (slots + ms) Q (F0 m pc ls rest) q)
    (kk : ∀ (w : va_W) (H1 : Heap) (locs1 : List Loc), PR w → (∀ ws' : va_W, isC.length = w.length → putAll ws isC w = ws' → va_P D vwCl ws' H1) → va_S A s.heap H1 locs1 → W p l e R s m args below meth c H1 locs1 (cells + mc) (slots + ms) Q (F0 m (pc + 3) ls rest)) : W p l e R s m args below meth c H locs cells slots Q (F0 m pc ls st) := by
  have hPc := hP.sub (ws' := wc) isC (fm_of_map isC hC)
  have hDc := hD.sub (ws' := wc) isC hnd hC
  have hFc := va_free (wc := wc) hD hS hA isC hC
  refine vx_callv (vx_runV (As := As) (rest := rest) S (hM H.size) (cwV n S.2.2.2.2 (gi_V mw hi hl) rfl rfl rfl ⟨rfl, mw.2.2⟩ hR) ⟨PreX.blind, va_recv hK hPc hc he, PreX.use _ hPc hK hDc hN hE hS hFc⟩ rfl hn hsz hst (lv_room hrm) hdg hcs) hS (fun q _ h => hFc q h) hFc (fun q _ h => hFc q h) (fun E ce q9 u t H1 locs1 ht hvm hp hB hz1 hk1 hS1 hq hv hcl => ?_) (fun u t H1 locs1 ht hvm hp hB hz1 hk1 hS1 => ?_)
  · obtain ⟨rfl, hP1, hD1⟩ := hB
    rw [ht] at hP1
    exact kx _ _ H1 locs1 q9 ce hp (fun ws' hlen hput => va_back hP hD isC hC hlen hput hk1 hP1) hS1 hq hv hcl
  · obtain ⟨hP1, hD1⟩ := hB
    rw [ht] at hP1
    exact kk u H1 locs1 hp (fun ws' hlen hput => va_back hP hD isC hC hlen hput hk1 hP1) hS1
theorem xS_V {PR : va_W → Prop} (S : CallFix p m c cc nL s args WT own) (hK : va_K D vwCl (tyIJ cI cJ) s) (hN : NW s) (hE : EV sa sv A s s.heap) (hA : ∀ q : Nat, s.heap.size ≤ q → A q) (hP : va_P D vwCl ws H) (hD : va_D A ws) (hS : va_S A s.heap H locs)
    (hM : CxV l y b nb fr mc ms lo As D cI cJ sa sv wc PR PX) (mw : MWords y b nb none n) (hi : Cond.static y ∈ WT) (hl : Cond.methodLink own idx y ∈ WT)
    (isC : List Nat) (hC : isC.map (fun i => ws[i]?) = wc.map some) (hnd : va_nd isC = true)
    (hR : fr + 1 ≤ R.frames ∧ 8 + (nb + 11) + lo ≤ R.locals) (hcs : cells + mc ≤ R.cells ∧ slots + ms ≤ R.slots) (hsz : ls.size = nL) (hn : As.length = n) (hst : st = As.reverse ++ rest) (hrm : (rest.map fun v => v.category).sum ≤ 8) (hdg : decode cc pc = .ok (.invokestatic idx, 3))
    (kx : ∀ (E : String) (w : va_W) (H1 : Heap) (locs1 : List Loc) (q : Addr) (ce : Cell), PX E w → (∀ ws' : va_W, isC.length = w.length → putAll ws isC w = ws' → va_P D vwCl ws' H1) → va_S A s.heap H1 locs1 → H1[q]? = some ce → ce.vm = .none → s.vm.findClass E = some ce.cls → vx_W p l e R s m args below meth c H1 locs1 (cells + mc) (slots + ms) Q (F0 m pc ls rest) q)
    (kk : ∀ (w : va_W) (H1 : Heap) (locs1 : List Loc), PR w → (∀ ws' : va_W, isC.length = w.length → putAll ws isC w = ws' → va_P D vwCl ws' H1) → va_S A s.heap H1 locs1 → W p l e R s m args below meth c H1 locs1 (cells + mc) (slots + ms) Q (F0 m (pc + 3) ls rest)) : W p l e R s m args below meth c H locs cells slots Q (F0 m pc ls st) := by
  have hPc := hP.sub (ws' := wc) isC (fm_of_map isC hC)
  have hDc := hD.sub (ws' := wc) isC hnd hC
  have hFc := va_free (wc := wc) hD hS hA isC hC
  refine vx_callv (vx_runS (As := As) (rest := rest) S (hM H.size) (va_cwS n S.2.2.2.2 (gi_S mw hi hl) rfl rfl rfl mw.2.2 hR) ⟨PreX.blind, PreX.use _ hPc hK hDc hN hE hS hFc⟩ rfl hn hsz hst (lv_room hrm) hdg hcs) hS (fun q _ h => hFc q h) hFc (fun q _ h => hFc q h) (fun E ce q9 u t H1 locs1 ht hvm hp hB hz1 hk1 hS1 hq hv hcl => ?_) (fun u t H1 locs1 ht hvm hp hB hz1 hk1 hS1 => ?_)
  · obtain ⟨rfl, hP1, hD1⟩ := hB
    rw [ht] at hP1
    exact kx _ _ H1 locs1 q9 ce hp (fun ws' hlen hput => va_back hP hD isC hC hlen hput hk1 hP1) hS1 hq hv hcl
  · obtain ⟨hP1, hD1⟩ := hB
    rw [ht] at hP1
    exact kk u H1 locs1 hp (fun ws' hlen hput => va_back hP hD isC hC hlen hput hk1 hP1) hS1
end XCALLS
theorem thr_all {ws : List Cond} (is : List Nat) (h1 : ws.map some = is.map (fun i => tables_1[i]?)) (h2 : ws.all (fun w => goodWord w || (isNestW w && w.onTables)) = true) : ∀ w ∈ ws, (w ∈ WT ∨ (w ∈ NT ∧ w.onTables = true)) := fun w hw => by
  have h := List.all_eq_true.mp h2 w hw
  have hm : some w ∈ is.map (fun i => tables_1[i]?) := by rw [← h1]; exact List.mem_map.mpr ⟨w, hw, rfl⟩
  obtain ⟨i, -, hi⟩ := List.mem_map.mp hm
  rw [Bool.or_eq_true] at h
  rcases h with h | h
  · exact Or.inl (wtT i hi h)
  · rw [Bool.and_eq_true] at h
    exact Or.inr ⟨ntT i hi h.1, h.2⟩
theorem thrW1 : ThrW RX9 197 201 "java/lang/IndexOutOfBoundsException" ["java/lang/RuntimeException", "java/lang/Exception"] := ⟨by decide +kernel, by decide +kernel, wtT 347 (by decide +kernel) rfl, wtT 15 (by decide +kernel) rfl, thr_all [12, 330, 284, 290, 293, 295, 331, 332, 33, 34, 278, 283, 291, 298, 324, 299, 325, 300, 326, 279, 281, 327, 276, 277, 297, 327, 267, 268, 269, 270, 318, 270, 271, 272, 273, 320, 273, 274, 275, 276, 322, 357, 348, 349, 350, 289, 351, 352, 353, 354, 296, 328, 355] (by decide +kernel) (by decide +kernel), by decide +kernel⟩
theorem thrW2 : ThrW RX9 89 93 "java/lang/IllegalArgumentException" ["java/lang/RuntimeException", "java/lang/Exception"] := ⟨by decide +kernel, by decide +kernel, wtT 363 (by decide +kernel) rfl, wtT 18 (by decide +kernel) rfl, thr_all [12, 330, 284, 290, 293, 295, 331, 332, 33, 34, 278, 283, 291, 298, 324, 299, 325, 300, 326, 279, 281, 327, 276, 277, 297, 327, 374, 375, 376, 270, 318, 270, 271, 272, 273, 320, 273, 274, 275, 276, 322, 373, 364, 365, 366, 288, 367, 368, 369, 370, 296, 328, 371] (by decide +kernel) (by decide +kernel), by decide +kernel⟩
theorem thrW3 : ThrW RX9 115 119 "java/lang/ArithmeticException" ["java/lang/RuntimeException", "java/lang/Exception"] := ⟨by decide +kernel, by decide +kernel, wtT 571 (by decide +kernel) rfl, wtT 23 (by decide +kernel) rfl, thr_all [12, 330, 284, 290, 293, 295, 331, 332, 33, 34, 278, 283, 291, 298, 324, 299, 325, 300, 326, 279, 281, 327, 276, 277, 297, 327, 536, 537, 538, 270, 318, 270, 271, 272, 273, 320, 273, 274, 275, 276, 322, 573, 535, 546, 547, 286, 541, 542, 544, 540, 296, 328, 539] (by decide +kernel) (by decide +kernel), by decide +kernel⟩
