/-! Constant texts: length() and charAt(k) of the text number t. -/
theorem sByt_eq {t : Nat} {q : strRow} (h : strTab[t]? = some q) : sByt t = q.2.2.2 := by unfold sByt; rw [h]
theorem sRow {t : Nat} (h : t < strTab.length) : ∃ q, strTab[t]? = some q := ⟨strTab[t], List.getElem?_eq_getElem h⟩
theorem va_P_nil {D : va_G} {cl : List vw_C} {H : Heap} : va_P D cl [] H := fun k q h => by cases k <;> cases h
theorem va_D_nil {A : Nat → Prop} : va_D A [] := ⟨fun i j p q h => (by cases i <;> cases h), fun k q h => (by cases k <;> cases h)⟩
def CsI (l : Launch) (y : MethodName) (b : ByteArray) (nL fr lo : Nat) (ret : FieldType) (As : List Value) (D : va_G) (cI cJ : ClassId) (sa sv : Nat → Nat) (r : Int32) : Prop :=
  ∀ z : Nat, Met l y (Cond.code y b nL (some ret) :: WT) (rmz fr lo) (va_Pc As (PreX D cI cJ sa sv z [])) (va_Qi (fun (r' : Int32) (_ : Unit) => r' = r) (PosB D (va_A [] z) []) (va_A [] z)) 0 0 (va_A [] z)
def CsV (l : Launch) (y : MethodName) (b : ByteArray) (nL fr lo : Nat) (As : List Value) (D : va_G) (cI cJ : ClassId) (sa sv : Nat → Nat) : Prop :=
  ∀ z : Nat, Met l y (Cond.code y b nL none :: WT) (rmz fr lo) (va_Pc As (PreX D cI cJ sa sv z [])) (va_Qv (fun (_ : Unit) => True) (PosB D (va_A [] z) []) (va_A [] z)) 0 0 (va_A [] z)
theorem mkSI {l : Launch} {y : MethodName} {b : ByteArray} {nL fr lo : Nat} {ret : FieldType} {As : List Value} {D : va_G} {cI cJ : ClassId} {sa sv : Nat → Nat} {r : Int32} {own : String} (ho : y.cls = own) (hy : plainFor y = true) (hn : (lg_sl As).length ≤ nL) (hnar : narrow ret (.int r) = .int r) {lv : List (Nat × Value)} (hlv : lv_args 0 As = lv)
    (body : ∀ (p : Program) (e : Env) (s : State) (m : MethodId) (below : List Frame) (meth : Method) (c : Code) (Q : State → Prop) (A : Nat → Prop) (ls : Array Slot) (ar : Array Value), CallFix p m c b nL s ar WT own → (∀ q : Nat, s.heap.size ≤ q → A q) → va_K D vwCl (tyIJ cI cJ) s → NW s → EV sa sv A s s.heap →
      (∀ (H : Heap) (locs : List Loc) (ls : Array Slot) (pc : Nat), decode b pc = .ok (.ireturn, 1) → va_S A s.heap H locs → W p l e (rmz fr lo) s m ar below meth c H locs 0 0 Q (F0 m pc ls [.int r])) →
      ∀ (H : Heap) (locs : List Loc), va_S A s.heap H locs → lv_has ls nL lv → W p l e (rmz fr lo) s m ar below meth c H locs 0 0 Q (F0 m 0 ls [])) : CsI l y b nL fr lo ret As D cI cJ sa sv r := by
  intro z
  subst ho
  refine met_ofWF (cc := b) (maxL := nL) (ret := some ret) hy rfl ?_
  intro p e s m args below meth c s₁ B hml hv
  obtain ⟨rfl, ⟨hsz, hP, hK, hD0, hN⟩, hE⟩ := hv
  have hts := atoms_spec (ws := Cond.code y b nL (some ret) :: WT) B.pre
  subst hsz
  rw [lg_entry_eq]
  have hl := lv_entry As (n := nL) hn
  rw [hlv] at hl
  refine body p e s m below meth c _ (va_A [] s.heap.size) _ _ ⟨B.exec, B.bytes, hml, findClass_of_methodNamed B.named, fun w hw => hts w (List.mem_cons_of_mem _ hw)⟩ (fun q h => Or.inr h) hK hN hE ?_ _ _ va_S.rf hl
  intro H locs ls pc hd hS'
  exact W.zret B.exec B.bytes B.returns hnar (fun t ht _ => ⟨⟨r, (), rfl, rfl, va_P_nil, va_D_nil⟩, hS'.F ht⟩) hS'.2.2 hd B.notSynchronized
theorem mkSV {l : Launch} {y : MethodName} {b : ByteArray} {nL fr lo : Nat} {As : List Value} {D : va_G} {cI cJ : ClassId} {sa sv : Nat → Nat} {own : String} (ho : y.cls = own) (hy : plainFor y = true) (hn : (lg_sl As).length ≤ nL) {lv : List (Nat × Value)} (hlv : lv_args 0 As = lv)
    (body : ∀ (p : Program) (e : Env) (s : State) (m : MethodId) (below : List Frame) (meth : Method) (c : Code) (Q : State → Prop) (A : Nat → Prop) (ls : Array Slot) (ar : Array Value), CallFix p m c b nL s ar WT own → (∀ q : Nat, s.heap.size ≤ q → A q) → va_K D vwCl (tyIJ cI cJ) s → NW s → EV sa sv A s s.heap →
      (∀ (H : Heap) (locs : List Loc) (ls : Array Slot) (pc : Nat), decode b pc = .ok (.return_, 1) → va_S A s.heap H locs → W p l e (rmz fr lo) s m ar below meth c H locs 0 0 Q (F0 m pc ls [])) →
      ∀ (H : Heap) (locs : List Loc), va_S A s.heap H locs → lv_has ls nL lv → W p l e (rmz fr lo) s m ar below meth c H locs 0 0 Q (F0 m 0 ls [])) : CsV l y b nL fr lo As D cI cJ sa sv := by
  intro z
  subst ho
  refine met_ofWF (cc := b) (maxL := nL) (ret := none) hy rfl ?_
  intro p e s m args below meth c s₁ B hml hv
  obtain ⟨rfl, ⟨hsz, hP, hK, hD0, hN⟩, hE⟩ := hv
  have hts := atoms_spec (ws := Cond.code y b nL none :: WT) B.pre
  subst hsz
  rw [lg_entry_eq]
  have hl := lv_entry As (n := nL) hn
  rw [hlv] at hl
  refine body p e s m below meth c _ (va_A [] s.heap.size) _ _ ⟨B.exec, B.bytes, hml, findClass_of_methodNamed B.named, fun w hw => hts w (List.mem_cons_of_mem _ hw)⟩ (fun q h => Or.inr h) hK hN hE ?_ _ _ va_S.rf hl
  intro H locs ls pc hd hS'
  exact W.vret B.exec B.bytes B.returns (fun t ht _ => ⟨⟨(), rfl, trivial, va_P_nil, va_D_nil⟩, hS'.F ht⟩) hS'.2.2 hd B.notSynchronized
section SCALLS
variable {p : Program} {l : Launch} {e : Env} {R : Room} {s : State} {m : MethodId} {args : Array Value} {below : List Frame} {meth : Method} {c : Code} {H : Heap} {locs : List Loc} {cells slots : Nat} {Q : State → Prop}
variable {cc b : ByteArray} {nL nb n idx fr lo pc : Nat} {own : String} {D : va_G} {cI cJ : ClassId} {sa sv : Nat → Nat} {A : Nat → Prop} {ws : va_W} {y : MethodName} {ret : FieldType} {h : Nat} {As rest st : List Value} {ls : Array Slot}
theorem sV_I {r : Int32} (S : CallFix p m c cc nL s args WT own) (hK : va_K D vwCl (tyIJ cI cJ) s) (hN : NW s) (hE : EV sa sv A s s.heap) (hA : ∀ q : Nat, s.heap.size ≤ q → A q) (hP : va_P D vwCl ws H) (hD : va_D A ws) (hS : va_S A s.heap H locs)
    (hM : CsI l y b nb fr lo ret (.ref h :: As) D cI cJ sa sv r) (mw : MWords y b nb (some ret) n) (hi : Cond.instanceMethod y ∈ WT ∧ Cond.selects y.cls y y ∈ WT) (hl : Cond.methodLink own idx y ∈ WT) (hrc : va_O y.cls h A s s.heap)
    (hR : fr + 1 ≤ R.frames ∧ 8 + (nb + 11) + lo ≤ R.locals) (hcs : cells ≤ R.cells ∧ slots ≤ R.slots) (hsz : ls.size = nL) (hn : As.length = n) (hst : st = As.reverse ++ .ref h :: rest) (hrm : (rest.map fun v => v.category).sum ≤ 8) (hdg : decode cc pc = .ok (.invokevirtual idx, 3))
    (kk : ∀ (H1 : Heap) (locs1 : List Loc), va_P D vwCl ws H1 → va_S A s.heap H1 locs1 → W p l e R s m args below meth c H1 locs1 cells slots Q (F0 m (pc + 3) ls (.int r :: rest))) : W p l e R s m args below meth c H locs cells slots Q (F0 m pc ls st) := by
  have hFc := va_free (wc := []) hD hS hA [] rfl
  obtain ⟨cellB, c1, c2, c3, -⟩ := hrc.kept hS.2.1
  refine va_calli (va_runV (As := As) (rest := rest) S (hM H.size) (cwV n S.2.2.2.2 (gi_V mw hi hl) rfl rfl rfl ⟨rfl, mw.2.2⟩ hR) ⟨PreX.blind, ⟨cellB, c1, c2, c3⟩, PreX.use _ va_P_nil hK (va_D_nil (A := A)) hN hE hS hFc⟩ rfl hn hsz hst (lv_room hrm) hdg hcs) hS (fun q _ h => hFc q h) hFc (fun r' u t H1 locs1 ht hvm hw hB hz1 hk1 hS1 => ?_)
  subst hw
  exact kk H1 locs1 (va_back hP hD [] rfl rfl rfl hk1 (va_P_nil (D := D))) hS1
theorem sS_I {r : Int32} (S : CallFix p m c cc nL s args WT own) (hK : va_K D vwCl (tyIJ cI cJ) s) (hN : NW s) (hE : EV sa sv A s s.heap) (hA : ∀ q : Nat, s.heap.size ≤ q → A q) (hP : va_P D vwCl ws H) (hD : va_D A ws) (hS : va_S A s.heap H locs)
    (hM : CsI l y b nb fr lo ret As D cI cJ sa sv r) (mw : MWords y b nb (some ret) n) (hi : Cond.static y ∈ WT) (hl : Cond.methodLink own idx y ∈ WT)
    (hR : fr + 1 ≤ R.frames ∧ 8 + (nb + 11) + lo ≤ R.locals) (hcs : cells ≤ R.cells ∧ slots ≤ R.slots) (hsz : ls.size = nL) (hn : As.length = n) (hst : st = As.reverse ++ rest) (hrm : (rest.map fun v => v.category).sum ≤ 8) (hdg : decode cc pc = .ok (.invokestatic idx, 3))
    (kk : ∀ (H1 : Heap) (locs1 : List Loc), va_P D vwCl ws H1 → va_S A s.heap H1 locs1 → W p l e R s m args below meth c H1 locs1 cells slots Q (F0 m (pc + 3) ls (.int r :: rest))) : W p l e R s m args below meth c H locs cells slots Q (F0 m pc ls st) := by
  have hFc := va_free (wc := []) hD hS hA [] rfl
  refine va_calli (va_runS (As := As) (rest := rest) S (hM H.size) (va_cwS n S.2.2.2.2 (gi_S mw hi hl) rfl rfl rfl mw.2.2 hR) ⟨PreX.blind, PreX.use _ va_P_nil hK (va_D_nil (A := A)) hN hE hS hFc⟩ rfl hn hsz hst (lv_room hrm) hdg hcs) hS (fun q _ h => hFc q h) hFc (fun r' u t H1 locs1 ht hvm hw hB hz1 hk1 hS1 => ?_)
  subst hw
  exact kk H1 locs1 (va_back hP hD [] rfl rfl rfl hk1 (va_P_nil (D := D))) hS1
theorem sS_V (S : CallFix p m c cc nL s args WT own) (hK : va_K D vwCl (tyIJ cI cJ) s) (hN : NW s) (hE : EV sa sv A s s.heap) (hA : ∀ q : Nat, s.heap.size ≤ q → A q) (hP : va_P D vwCl ws H) (hD : va_D A ws) (hS : va_S A s.heap H locs)
    (hM : CsV l y b nb fr lo As D cI cJ sa sv) (mw : MWords y b nb none n) (hi : Cond.static y ∈ WT) (hl : Cond.methodLink own idx y ∈ WT)
    (hR : fr + 1 ≤ R.frames ∧ 8 + (nb + 11) + lo ≤ R.locals) (hcs : cells ≤ R.cells ∧ slots ≤ R.slots) (hsz : ls.size = nL) (hn : As.length = n) (hst : st = As.reverse ++ rest) (hrm : (rest.map fun v => v.category).sum ≤ 8) (hdg : decode cc pc = .ok (.invokestatic idx, 3))
    (kk : ∀ (H1 : Heap) (locs1 : List Loc), va_P D vwCl ws H1 → va_S A s.heap H1 locs1 → W p l e R s m args below meth c H1 locs1 cells slots Q (F0 m (pc + 3) ls rest)) : W p l e R s m args below meth c H locs cells slots Q (F0 m pc ls st) := by
  have hFc := va_free (wc := []) hD hS hA [] rfl
  refine va_callv (va_runS (As := As) (rest := rest) S (hM H.size) (va_cwS n S.2.2.2.2 (gi_S mw hi hl) rfl rfl rfl mw.2.2 hR) ⟨PreX.blind, PreX.use _ va_P_nil hK (va_D_nil (A := A)) hN hE hS hFc⟩ rfl hn hsz hst (lv_room hrm) hdg hcs) hS (fun q _ h => hFc q h) hFc (fun u t H1 locs1 ht hvm hw hB hz1 hk1 hS1 => ?_)
  exact kk H1 locs1 (va_back hP hD [] rfl rfl rfl hk1 (va_P_nil (D := D))) hS1
end SCALLS
set_option maxRecDepth 100000 in
theorem c_str_coder (l : Launch) (D : va_G) (cI cJ : ClassId) (sa sv : Nat → Nat) (t : Nat) (ht : t < strTab.length) : CsI l yJ0_coder_7d493 cJ0_coder_7d493 1 0 0 .byte [.ref (sa t)] D cI cJ sa sv 0 := by
  obtain ⟨q, hq⟩ := sRow ht
  refine mkSI (own := RJ0) rfl (by decide +kernel) (Nat.le_of_ble_eq_true rfl) rfl (lv := [(0, .ref (sa t))]) rfl ?_
  intro p e s m below meth c Q A ls ar S hA hK hN hE hret H locs hS hl
  obtain ⟨hx, hb, hml, hown, hts⟩ := id S
  refine va_gets (v := .int 1) hx hb hE.1.2.2.1 hS hown (hts _ kfJ0_38) (fun _ h => h) dJ0_coder_7d493_0 ?_
  refine lv_if_eq (tgt := 13) hx hb dJ0_coder_7d493_3 (by decide) (fun hc => absurd hc (by decide)) (fun _ => ?_)
  refine lv_aload_n hx hb dJ0_coder_7d493_6 rfl (lv_at hl 0 rfl) ?_
  refine vk_getf hx hb (hE.2.2 t q hq).2.1 hS hown (hts _ kfJ0_15) (fun _ h => h) dJ0_coder_7d493_7 ?_
  refine lv_goto (tgt := 14) hx hb dJ0_coder_7d493_10 (by decide) ?_
  exact hret H locs ls 14 dJ0_coder_7d493_14 hS
set_option maxRecDepth 100000 in
theorem c_str_isLatin1 (l : Launch) (D : va_G) (cI cJ : ClassId) (sa sv : Nat → Nat) (t : Nat) (ht : t < strTab.length) : CsI l yJ0_isLatin1_aae02 cJ0_isLatin1_aae02 1 0 0 .boolean [.ref (sa t)] D cI cJ sa sv 1 := by
  obtain ⟨q, hq⟩ := sRow ht
  refine mkSI (own := RJ0) rfl (by decide +kernel) (Nat.le_of_ble_eq_true rfl) rfl (lv := [(0, .ref (sa t))]) rfl ?_
  intro p e s m below meth c Q A ls ar S hA hK hN hE hret H locs hS hl
  obtain ⟨hx, hb, hml, hown, hts⟩ := id S
  refine va_gets (v := .int 1) hx hb hE.1.2.2.1 hS hown (hts _ kfJ0_38) (fun _ h => h) dJ0_isLatin1_aae02_0 ?_
  refine lv_if_eq (tgt := 17) hx hb dJ0_isLatin1_aae02_3 (by decide) (fun hc => absurd hc (by decide)) (fun _ => ?_)
  refine lv_aload_n hx hb dJ0_isLatin1_aae02_6 rfl (lv_at hl 0 rfl) ?_
  refine vk_getf hx hb (hE.2.2 t q hq).2.1 hS hown (hts _ kfJ0_15) (fun _ h => h) dJ0_isLatin1_aae02_7 ?_
  refine lv_if_ne (tgt := 17) hx hb dJ0_isLatin1_aae02_10 (by decide) (fun hc => absurd rfl hc) (fun _ => ?_)
  refine lv_iconst (v := 1) hx hb dJ0_isLatin1_aae02_13 (by decide) ?_
  refine lv_goto (tgt := 18) hx hb dJ0_isLatin1_aae02_14 (by decide) ?_
  exact hret H locs ls 18 dJ0_isLatin1_aae02_18 hS
set_option maxRecDepth 100000 in
theorem c_str_length (l : Launch) (D : va_G) (cI cJ : ClassId) (sa sv : Nat → Nat) (t : Nat) (ht : t < strTab.length) : CsI l yJ0_length_8abf5 cJ0_length_8abf5 1 1 20 .int [.ref (sa t)] D cI cJ sa sv (sLen t) := by
  obtain ⟨q, hq⟩ := sRow ht
  refine mkSI (own := RJ0) rfl (by decide +kernel) (Nat.le_of_ble_eq_true rfl) rfl (lv := [(0, .ref (sa t))]) rfl ?_
  intro p e s m below meth c Q A ls ar S hA hK hN hE hret H locs hS hl
  obtain ⟨hx, hb, hml, hown, hts⟩ := id S
  refine lv_aload_n hx hb dJ0_length_8abf5_0 rfl (lv_at hl 0 rfl) ?_
  refine vk_getf hx hb (hE.2.2 t q hq).2.2.1 hS hown (hts _ kfJ0_9) (fun _ h => h) dJ0_length_8abf5_1 ?_
  refine va_tlen (v := sLen t) hx hb (hE.2.2 t q hq).2.2.2 hS (by unfold sLen; rw [sByt_eq hq]) dJ0_length_8abf5_4 ?_
  refine lv_aload_n hx hb dJ0_length_8abf5_5 rfl (lv_at hl 0 rfl) ?_
  refine sV_I (ws := []) (rest := [.int (sLen t)]) S hK hN hE hA va_P_nil va_D_nil hS (c_str_coder l D cI cJ sa sv t ht) mwJ0_coder_7d493 miJ0_coder_7d493 kmJ0_335 (hE.2.2 t q hq).1 ⟨Nat.le_of_ble_eq_true rfl, Nat.le_of_ble_eq_true rfl⟩ ⟨Nat.zero_le _, Nat.zero_le _⟩ hl.1 rfl rfl (Nat.le_of_ble_eq_true rfl) dJ0_length_8abf5_6 (fun H locs _ hS => ?_)
  refine lv_ishr hx hb dJ0_length_8abf5_9 ?_
  rw [sb_shr0]
  exact hret H locs ls 10 dJ0_length_8abf5_10 hS
set_option maxRecDepth 100000 in
theorem c_str_check3 (l : Launch) (D : va_G) (cI cJ : ClassId) (sa sv : Nat → Nat) (i n : Int32) (h0 : ¬ i < 0) (h1 : i < n) (o : Option Nat) : CsI l yJ3_checkIndex_8e157 cJ3_checkIndex_8e157 3 0 0 .int [.int i, .int n, va_rf o] D cI cJ sa sv i := by
  have hsl : (lg_sl [.int i, .int n, va_rf o]).length ≤ 3 := by cases o <;> exact Nat.le_of_ble_eq_true rfl
  refine mkSI (own := RJ3) rfl (by decide +kernel) hsl rfl (lv := [(0, .int i), (1, .int n), (2, va_rf o)]) rfl ?_
  intro p e s m below meth c Q A ls ar S hA hK hN hE hret H locs hS hl
  obtain ⟨hx, hb, hml, hown, hts⟩ := id S
  refine lv_iload_n hx hb dJ3_checkIndex_8e157_0 rfl (lv_at hl 0 rfl) ?_
  refine lv_if_lt (tgt := 9) hx hb dJ3_checkIndex_8e157_1 (by decide) (fun hc => absurd hc h0) (fun _ => ?_)
  refine lv_iload_n hx hb dJ3_checkIndex_8e157_4 rfl (lv_at hl 0 rfl) ?_
  refine lv_iload_n hx hb dJ3_checkIndex_8e157_5 rfl (lv_at hl 1 rfl) ?_
  refine lv_icmp_lt (tgt := 16) hx hb dJ3_checkIndex_8e157_6 (by decide) (fun _ => ?_) (fun hc => absurd h1 hc)
  refine lv_iload_n hx hb dJ3_checkIndex_8e157_16 rfl (lv_at hl 0 rfl) ?_
  exact hret H locs ls 17 dJ3_checkIndex_8e157_17 hS
set_option maxRecDepth 100000 in
theorem c_str_check2 (l : Launch) (D : va_G) (cI cJ : ClassId) (sa sv : Nat → Nat) (i n : Int32) (h0 : ¬ i < 0) (h1 : i < n) : CsV l yJ0_checkIndex_df160 cJ0_checkIndex_df160 2 1 22 [.int i, .int n] D cI cJ sa sv := by
  refine mkSV (own := RJ0) rfl (by decide +kernel) (Nat.le_of_ble_eq_true rfl) (lv := [(0, .int i), (1, .int n)]) rfl ?_
  intro p e s m below meth c Q A ls ar S hA hK hN hE hret H locs hS hl
  obtain ⟨hx, hb, hml, hown, hts⟩ := id S
  refine lv_iload_n hx hb dJ0_checkIndex_df160_0 rfl (lv_at hl 0 rfl) ?_
  refine lv_iload_n hx hb dJ0_checkIndex_df160_1 rfl (lv_at hl 1 rfl) ?_
  have hz : ∃ o : Option Nat, va_Z "jdk/internal/util/Preconditions" "SIOOBE_FORMATTER" "Ljava/util/function/BiFunction;" (va_rf o) A s s.heap := by
    rcases hE.1.2.2.2 with h | ⟨t, h⟩
    · exact ⟨none, h⟩
    · exact ⟨some t, h⟩
  obtain ⟨o, ho⟩ := hz
  refine va_gets (v := va_rf o) hx hb ho hS hown (hts _ kfJ0_1053) (fun _ h => h) dJ0_checkIndex_df160_2 ?_
  refine sS_I (ws := []) (As := [.int i, .int n, va_rf o]) (rest := []) S hK hN hE hA va_P_nil va_D_nil hS (c_str_check3 l D cI cJ sa sv i n h0 h1 o) mwJ3_checkIndex_8e157 msJ3_checkIndex_8e157 kmJ0_1059 ⟨Nat.le_of_ble_eq_true rfl, Nat.le_of_ble_eq_true rfl⟩ ⟨Nat.zero_le _, Nat.zero_le _⟩ hl.1 rfl rfl (Nat.le_of_ble_eq_true rfl) dJ0_checkIndex_df160_5 (fun H locs _ hS => ?_)
  refine lv_pop hx hb dJ0_checkIndex_df160_8 rfl ?_
  exact hret H locs ls 9 dJ0_checkIndex_df160_9 hS
set_option maxRecDepth 100000 in
theorem c_str_latin (l : Launch) (D : va_G) (cI cJ : ClassId) (sa sv : Nat → Nat) (t : Nat) (ht : t < strTab.length) (k : Int32) (hk : vp_in k (sByt t).length) (hlen : k < sLen t) : CsI l yJ1_charAt_3b067 cJ1_charAt_3b067 2 2 43 .char [.ref (sv t), .int k] D cI cJ sa sv (sChr t k) := by
  obtain ⟨q, hq⟩ := sRow ht
  refine mkSI (own := RJ1) rfl (by decide +kernel) (Nat.le_of_ble_eq_true rfl) (pk_nc _) (lv := [(0, .ref (sv t)), (1, .int k)]) rfl ?_
  intro p e s m below meth c Q A ls ar S hA hK hN hE hret H locs hS hl
  obtain ⟨hx, hb, hml, hown, hts⟩ := id S
  have hT := (hE.2.2 t q hq).2.2.2
  rw [← sByt_eq hq] at hT
  refine lv_iload_n hx hb dJ1_charAt_3b067_0 rfl (lv_at hl 1 rfl) ?_
  refine lv_aload_n hx hb dJ1_charAt_3b067_1 rfl (lv_at hl 0 rfl) ?_
  refine va_tlen (v := sLen t) hx hb hT hS rfl dJ1_charAt_3b067_2 ?_
  refine sS_V (ws := []) (rest := []) S hK hN hE hA va_P_nil va_D_nil hS (c_str_check2 l D cI cJ sa sv k (sLen t) (fun h => hk (Or.inl h)) hlen) mwJ0_checkIndex_df160 msJ0_checkIndex_df160 kmJ1_9 ⟨Nat.le_of_ble_eq_true rfl, Nat.le_of_ble_eq_true rfl⟩ ⟨Nat.zero_le _, Nat.zero_le _⟩ hl.1 rfl rfl (Nat.le_of_ble_eq_true rfl) dJ1_charAt_3b067_3 (fun H locs _ hS => ?_)
  refine lv_aload_n hx hb dJ1_charAt_3b067_6 rfl (lv_at hl 0 rfl) ?_
  refine lv_iload_n hx hb dJ1_charAt_3b067_7 rfl (lv_at hl 1 rfl) ?_
  refine va_tb (v := .int ((sByt t).getD k.toNatClampNeg 0)) hx hb hT hS hk rfl dJ1_charAt_3b067_8 ?_
  refine lv_sipush (v := 255) hx hb dJ1_charAt_3b067_9 (by decide) ?_
  refine lv_iand hx hb dJ1_charAt_3b067_12 ?_
  refine lv_i2c (v := sChr t k) hx hb dJ1_charAt_3b067_13 rfl ?_
  exact hret H locs ls 14 dJ1_charAt_3b067_14 hS
set_option maxRecDepth 100000 in
theorem c_str_charAt (l : Launch) (D : va_G) (cI cJ : ClassId) (sa sv : Nat → Nat) (t : Nat) (ht : t < strTab.length) (k : Int32) (hk : vp_in k (sByt t).length) (hlen : k < sLen t) : CsI l yJ0_charAt_5068e cJ0_charAt_5068e 2 3 64 .char [.ref (sa t), .int k] D cI cJ sa sv (sChr t k) := by
  obtain ⟨q, hq⟩ := sRow ht
  refine mkSI (own := RJ0) rfl (by decide +kernel) (Nat.le_of_ble_eq_true rfl) (pk_nc _) (lv := [(0, .ref (sa t)), (1, .int k)]) rfl ?_
  intro p e s m below meth c Q A ls ar S hA hK hN hE hret H locs hS hl
  obtain ⟨hx, hb, hml, hown, hts⟩ := id S
  refine lv_aload_n hx hb dJ0_charAt_5068e_0 rfl (lv_at hl 0 rfl) ?_
  refine sV_I (ws := []) (rest := []) S hK hN hE hA va_P_nil va_D_nil hS (c_str_isLatin1 l D cI cJ sa sv t ht) mwJ0_isLatin1_aae02 miJ0_isLatin1_aae02 kmJ0_492 (hE.2.2 t q hq).1 ⟨Nat.le_of_ble_eq_true rfl, Nat.le_of_ble_eq_true rfl⟩ ⟨Nat.zero_le _, Nat.zero_le _⟩ hl.1 rfl rfl (Nat.le_of_ble_eq_true rfl) dJ0_charAt_5068e_1 (fun H locs _ hS => ?_)
  refine lv_if_eq (tgt := 16) hx hb dJ0_charAt_5068e_4 (by decide) (fun hc => absurd hc (by decide)) (fun _ => ?_)
  refine lv_aload_n hx hb dJ0_charAt_5068e_7 rfl (lv_at hl 0 rfl) ?_
  refine vk_getf hx hb (hE.2.2 t q hq).2.2.1 hS hown (hts _ kfJ0_9) (fun _ h => h) dJ0_charAt_5068e_8 ?_
  refine lv_iload_n hx hb dJ0_charAt_5068e_11 rfl (lv_at hl 1 rfl) ?_
  refine sS_I (ws := []) (As := [.ref (sv t), .int k]) (rest := []) S hK hN hE hA va_P_nil va_D_nil hS (c_str_latin l D cI cJ sa sv t ht k hk hlen) mwJ1_charAt_3b067 msJ1_charAt_3b067 kmJ0_495 ⟨Nat.le_of_ble_eq_true rfl, Nat.le_of_ble_eq_true rfl⟩ ⟨Nat.zero_le _, Nat.zero_le _⟩ hl.1 rfl rfl (Nat.le_of_ble_eq_true rfl) dJ0_charAt_5068e_12 (fun H locs _ hS => ?_)
  exact hret H locs ls 15 dJ0_charAt_5068e_15 hS
