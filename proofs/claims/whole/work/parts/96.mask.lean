/-! the callee's cells by a mask over the caller's -/
def mIx : Nat → List Bool → List Nat
  | _, [] => []
  | k, true :: ms => k :: mIx (k + 1) ms
  | k, false :: ms => mIx (k + 1) ms
def mSel : va_W → List Bool → va_W
  | w :: ws, true :: ms => w :: mSel ws ms
  | _ :: ws, false :: ms => mSel ws ms
  | _, _ => []
def mMrg : va_W → List Bool → va_W → va_W
  | _ :: ws, true :: ms, c :: cs => c :: mMrg ws ms cs
  | w :: ws, false :: ms, cs => w :: mMrg ws ms cs
  | ws, _, _ => ws
theorem mSel_map : ∀ (ms : List Bool) (ws pre : va_W), ws.length = ms.length → (mIx pre.length ms).map (fun i => (pre ++ ws)[i]?) = (mSel ws ms).map some
  | [], ws, pre, h => by
    have : ws = [] := List.length_eq_zero_iff.mp h
    subst this
    rfl
  | b :: ms, [], pre, h => by cases h
  | true :: ms, w :: ws, pre, h => by
    have ih := mSel_map ms ws (pre ++ [w]) (Nat.succ.inj h)
    rw [List.length_append, List.append_assoc] at ih
    show (pre ++ w :: ws)[pre.length]? :: (mIx (pre.length + 1) ms).map _ = some w :: (mSel ws ms).map some
    rw [List.getElem?_append_right (Nat.le_refl _), Nat.sub_self]
    exact congrArg (some w :: ·) ih
  | false :: ms, w :: ws, pre, h => by
    have ih := mSel_map ms ws (pre ++ [w]) (Nat.succ.inj h)
    rw [List.length_append, List.append_assoc] at ih
    exact ih
theorem mMrg_put : ∀ (ms : List Bool) (ws pre cs : va_W), ws.length = ms.length → putAll (pre ++ ws) (mIx pre.length ms) cs = pre ++ mMrg ws ms cs
  | [], ws, pre, cs, h => by
    have : ws = [] := List.length_eq_zero_iff.mp h
    subst this
    cases cs <;> rfl
  | b :: ms, [], pre, cs, h => by cases h
  | true :: ms, w :: ws, pre, [], h => by rfl
  | true :: ms, w :: ws, pre, c :: cs, h => by
    have ih := mMrg_put ms ws (pre ++ [c]) cs (Nat.succ.inj h)
    rw [List.length_append, List.append_assoc, List.append_assoc] at ih
    show putAll ((pre ++ w :: ws).set pre.length c) (mIx (pre.length + 1) ms) cs = pre ++ c :: mMrg ws ms cs
    rw [List.set_append_right _ _ (Nat.le_refl _), Nat.sub_self]
    exact ih
  | false :: ms, w :: ws, pre, cs, h => by
    have ih := mMrg_put ms ws (pre ++ [w]) cs (Nat.succ.inj h)
    rw [List.length_append, List.append_assoc, List.append_assoc] at ih
    have e : mMrg (w :: ws) (false :: ms) cs = w :: mMrg ws ms cs := by cases cs <;> rfl
    rw [e]
    exact ih
theorem mC {ws wc : va_W} {ms : List Bool} (hl : ws.length = ms.length) (h : mSel ws ms = wc) : (mIx 0 ms).map (fun i => ws[i]?) = wc.map some := by
  rw [← h]; exact mSel_map ms ws [] hl
theorem mP {ws w1 ws' : va_W} {ms : List Bool} (hl : ws.length = ms.length) (h : mMrg ws ms w1 = ws') : putAll ws (mIx 0 ms) w1 = ws' := by
  rw [← h]; exact mMrg_put ms ws [] w1 hl
theorem mIx_ge : ∀ (ms : List Bool) (k : Nat), ∀ i ∈ mIx k ms, k ≤ i
  | [], _, i, h => by cases h
  | true :: ms, k, i, h => by
    rcases List.mem_cons.mp h with rfl | h
    · exact Nat.le_refl _
    · have := mIx_ge ms (k + 1) i h; omega
  | false :: ms, k, i, h => by have := mIx_ge ms (k + 1) i h; omega
theorem mN : ∀ (ms : List Bool) (k : Nat), va_nd (mIx k ms) = true
  | [], _ => rfl
  | true :: ms, k => by
    have h : k ∉ mIx (k + 1) ms := fun h => by have := mIx_ge ms (k + 1) k h; omega
    show (decide (k ∉ mIx (k + 1) ms) && va_nd (mIx (k + 1) ms)) = true
    rw [decide_eq_true h, mN ms (k + 1)]; rfl
  | false :: ms, k => mN ms (k + 1)
