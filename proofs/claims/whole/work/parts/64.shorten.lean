/-! the reference's shorten -/
theorem cmp_scale {P Q a b a' b' : Nat} (hP : 0 < P) (hQ : 0 < Q) (h1 : P * a = Q * a') (h2 : P * b = Q * b') : (a < b ↔ a' < b') ∧ (a = b ↔ a' = b') := by
  constructor
  · rw [← Nat.mul_lt_mul_left hP, h1, h2, Nat.mul_lt_mul_left hQ]
  · rw [← Nat.mul_right_inj (Nat.pos_iff_ne_zero.mp hP), h1, h2, Nat.mul_right_inj (Nat.pos_iff_ne_zero.mp hQ)]
theorem lead_rel {R U j i : Nat} {T E k lo : Int} (hsv : sv R U T 1 E) (hE : E = lo - 1 + j) (hlo : lo ≤ 0) (hk : k = T - i) : U * (10 ^ (-k).toNat * 2 ^ j) = R * 10 ^ i * (10 ^ k.toNat * 2 ^ (1 - lo).toNat) := by
  unfold sv at hsv
  rw [Nat.one_mul] at hsv
  refine Nat.eq_of_mul_eq_mul_right (Nat.mul_pos (ten_pos T.toNat) (Nat.pow_pos (n := (-E).toNat) (show 0 < 2 by decide))) ?_
  have e1 : 2 ^ j * 2 ^ (-E).toNat = 2 ^ E.toNat * 2 ^ (1 - lo).toNat := by rw [← Nat.pow_add, ← Nat.pow_add]; congr 1; omega
  have e2 : 10 ^ (-k).toNat * 10 ^ T.toNat = 10 ^ k.toNat * 10 ^ i * 10 ^ (-T).toNat := by rw [← Nat.pow_add, ← Nat.pow_add, ← Nat.pow_add]; congr 1; omega
  have e3 : U * (10 ^ (-k).toNat * 2 ^ j) * (10 ^ T.toNat * 2 ^ (-E).toNat) = U * (10 ^ (-k).toNat * 10 ^ T.toNat) * (2 ^ j * 2 ^ (-E).toNat) := by simp only [Nat.mul_comm, Nat.mul_left_comm, Nat.mul_assoc]
  have e4 : R * 10 ^ i * (10 ^ k.toNat * 2 ^ (1 - lo).toNat) * (10 ^ T.toNat * 2 ^ (-E).toNat) = R * 10 ^ T.toNat * 2 ^ (-E).toNat * (10 ^ i * (10 ^ k.toNat * 2 ^ (1 - lo).toNat)) := by simp only [Nat.mul_comm, Nat.mul_left_comm, Nat.mul_assoc]
  rw [e3, e1, e2, e4, hsv]
  simp only [Nat.mul_comm, Nat.mul_left_comm, Nat.mul_assoc]
/-- the candidate against a middle -/
theorem lead_cmp {R U j i X M : Nat} {T E k lo : Int} (hU : 0 < U) (hsv : sv R U T 1 E) (hE : E = lo - 1 + j) (hlo : lo ≤ 0) (hk : k = T - i) :
    (X * 10 ^ k.toNat * 2 ^ (1 - lo).toNat < 10 ^ (-k).toNat * (M * 2 ^ j) ↔ X * U < M * (R * 10 ^ i)) ∧ (X * 10 ^ k.toNat * 2 ^ (1 - lo).toNat = 10 ^ (-k).toNat * (M * 2 ^ j) ↔ X * U = M * (R * 10 ^ i)) ∧ (10 ^ (-k).toNat * (M * 2 ^ j) < X * 10 ^ k.toNat * 2 ^ (1 - lo).toNat ↔ M * (R * 10 ^ i) < X * U) := by
  have hr := lead_rel hsv hE hlo hk
  have hQ : 0 < 10 ^ k.toNat * 2 ^ (1 - lo).toNat := Nat.mul_pos (ten_pos _) (Nat.pow_pos (by decide))
  have h1 : U * (X * 10 ^ k.toNat * 2 ^ (1 - lo).toNat) = 10 ^ k.toNat * 2 ^ (1 - lo).toNat * (X * U) := by simp only [Nat.mul_comm, Nat.mul_left_comm, Nat.mul_assoc]
  have h2 : U * (10 ^ (-k).toNat * (M * 2 ^ j)) = 10 ^ k.toNat * 2 ^ (1 - lo).toNat * (M * (R * 10 ^ i)) := by
    have : U * (10 ^ (-k).toNat * (M * 2 ^ j)) = M * (U * (10 ^ (-k).toNat * 2 ^ j)) := by simp only [Nat.mul_comm, Nat.mul_left_comm, Nat.mul_assoc]
    rw [this, hr]; simp only [Nat.mul_comm, Nat.mul_left_comm, Nat.mul_assoc]
  obtain ⟨a1, a2⟩ := cmp_scale hU hQ h1 h2
  obtain ⟨a3, _⟩ := cmp_scale hU hQ h2 h1
  exact ⟨a1, a2, a3⟩
theorem dec_iff {p q : Prop} (h : p ↔ q) [Decidable p] [Decidable q] : decide p = decide q := by
  rw [Bool.eq_iff_iff, decide_eq_true_iff, decide_eq_true_iff]; exact h
theorem lead_eq {f t A U R i : Nat} {T : Int} (hf : f ≤ 1) (ht0 : t ≠ 0) (hfin : t / 2 ^ fWd f ≠ fEx f) (hm0 : stM f t ≠ 0) (hU : 0 < U) (hR : 0 < R) (hA : A = stM f t * 2 ^ (if vN f t then 2 else 1) * R) (hsv : sv R U T 1 (fLo f + stE f t - (if vN f t then 2 else 1 : Nat))) :
    ldB f t (A * 10 ^ i / U) (T - i) = loP A U R (stM f t % 2 == 0) i ∧ ldB f t (A * 10 ^ i / U + 1) (T - i) = hiP A U R (if vN f t then 2 else 1) (stM f t % 2 == 0) i := by
  obtain ⟨j, hj1, hj2, hj3, hj4⟩ := st_prev ht0 hfin hf
  have hs1 : 1 ≤ (if vN f t then 2 else 1 : Nat) := by split <;> omega
  have hlo := fLo_bd f
  generalize (if vN f t then 2 else 1 : Nat) = s at *
  have hM1 : 1 ≤ stM f t * 2 ^ s := Nat.mul_pos (Nat.pos_of_ne_zero hm0) (Nat.pow_pos (by decide))
  have hdm := Nat.div_add_mod (A * 10 ^ i) U
  have hmod := Nat.mod_lt (A * 10 ^ i) hU
  rw [Nat.mul_comm] at hdm
  have hup : (stM f t * 2 ^ s + s) * (R * 10 ^ i) = A * 10 ^ i + s * (R * 10 ^ i) := by rw [hA, Nat.add_mul]; congr 1; simp only [Nat.mul_assoc]
  have hdn : (stM f t * 2 ^ s - 1) * (R * 10 ^ i) + R * 10 ^ i = A * 10 ^ i := by
    rw [← Nat.succ_mul, Nat.succ_eq_add_one, Nat.sub_add_cancel hM1, hA]; simp only [Nat.mul_assoc]
  have hRi : 0 < R * 10 ^ i := Nat.mul_pos hR (ten_pos i)
  have hsR : R * 10 ^ i ≤ s * (R * 10 ^ i) := Nat.le_mul_of_pos_left _ hs1
  have hpar : (stM f (t - 1) % 2 == 1) = (stM f t % 2 == 0) := by
    rw [Bool.eq_iff_iff, beq_iff_eq, beq_iff_eq]; exact hj4
  have key : ∀ X, ldB f t X (T - i) = ((decide (X * U < A * 10 ^ i + s * (R * 10 ^ i)) || (decide (X * U = A * 10 ^ i + s * (R * 10 ^ i)) && (stM f t % 2 == 0))) && (decide ((stM f t * 2 ^ s - 1) * (R * 10 ^ i) < X * U) || (decide (X * U = (stM f t * 2 ^ s - 1) * (R * 10 ^ i)) && (stM f t % 2 == 0)))) := by
    intro X
    obtain ⟨a1, a2, _⟩ := lead_cmp (X := X) (M := stM f t * 2 ^ s + s) hU hsv hj1 (by omega) rfl
    obtain ⟨_, b2, b3⟩ := lead_cmp (X := X) (M := stM f t * 2 ^ s - 1) hU hsv hj1 (by omega) rfl
    rw [hup] at a1 a2
    unfold ldB
    rw [hj2, hj3, hpar, dec_iff a1, dec_iff a2, dec_iff b2, dec_iff b3]
  generalize hq : A * 10 ^ i / U = q at *
  generalize hr : A * 10 ^ i % U = r at *
  generalize (stM f t * 2 ^ s - 1) * (R * 10 ^ i) = W at *
  constructor
  · rw [key q]
    unfold loP
    rw [hr]
    generalize A * 10 ^ i = V at *
    generalize s * (R * 10 ^ i) = S at *
    generalize R * 10 ^ i = P at *
    generalize q * U = Y at *
    rw [decide_eq_true (show Y < V + S by omega), dec_iff (show W < Y ↔ r < P by omega), dec_iff (show Y = W ↔ r = P by omega)]
    simp
  · rw [key (q + 1), Nat.succ_mul]
    unfold hiP
    rw [hr]
    generalize A * 10 ^ i = V at *
    generalize s * (R * 10 ^ i) = S at *
    generalize R * 10 ^ i = P at *
    generalize q * U = Y at *
    rw [decide_eq_true (show W < Y + U by omega), dec_iff (show Y + U < V + S ↔ U < r + S by omega), dec_iff (show Y + U = V + S ↔ U = r + S by omega)]
    simp
