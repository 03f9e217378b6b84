/-! SEMANTICS: what a day's end gives: numbers alone -/
section DAY
variable {z : Nat → Nat}
theorem sum_mul {f : Nat → Nat} {c : Nat} : ∀ n, sum n (fun p => c * f p) = c * sum n f := by
  intro n
  induction n with
  | zero => rfl
  | succ n ih =>
    show sum n (fun p => c * f p) + c * f n = c * (sum n f + f n)
    rw [ih, Nat.mul_add]
theorem sum_add {f g : Nat → Nat} : ∀ n, sum n (fun p => f p + g p) = sum n f + sum n g := by
  intro n
  induction n with
  | zero => rfl
  | succ n ih =>
    show sum n (fun p => f p + g p) + (f n + g n) = sum n f + f n + (sum n g + g n)
    rw [ih]
    omega
def allH (z : Nat → Nat) (o : Nat) : Nat := sum (z 2) (fun p => z (123 + 5 * p + o))
def quo (z : Nat → Nat) (o p : Nat) : Nat := z (56 + 7 * o + 4) * z (123 + 5 * p + o) / allH z o
def rst (z : Nat → Nat) (o p : Nat) : Nat := z (56 + 7 * o + 4) * z (123 + 5 * p + o) % allH z o
def lft (z : Nat → Nat) (o : Nat) : Nat := z (56 + 7 * o + 4) - sum (z 2) (quo z o)
def bstN (R : Nat → Int32) : Nat → Nat → Nat → Nat
  | 0, _, b => b
  | k + 1, p, b => bstN R k (p + 1) (if R p ≤ R b then b else p)
def bst (R : Nat → Int32) (n : Nat) : Nat := bstN R (n - 1) 1 0
def setI (R : Nat → Int32) (b : Nat) (v : Int32) : Nat → Int32 := fun p => if p = b then v else R p
def uni (n : Nat) : Nat → (Nat → Int32) → (Nat → Nat) → Nat → Nat
  | 0, _, A => A
  | k + 1, R, A => uni n k (setI R (bst R n) (-1)) (setN A (bst R n) (A (bst R n) + 1))
def shr (z : Nat → Nat) (o p : Nat) : Nat := if z (56 + 7 * o + 4) = 0 then 0 else quo z o p + uni (z 2) (lft z o) (fun p => Int32.ofNat (rst z o p)) (fun _ => 0) p
theorem bstN_lt {R : Nat → Int32} {n : Nat} : ∀ k p b, p + k ≤ n → b < n → bstN R k p b < n := by
  intro k
  induction k with
  | zero => intro p b _ h; exact h
  | succ k ih =>
    intro p b h1 h2
    refine ih (p + 1) _ (by omega) ?_
    split
    · exact h2
    · omega
theorem bst_lt {R : Nat → Int32} {n : Nat} (h : 0 < n) : bst R n < n := bstN_lt _ _ _ (by omega) h
theorem bstN_ext {R R' : Nat → Int32} {n : Nat} (h : ∀ p, p < n → R p = R' p) : ∀ k p b, p + k ≤ n → b < n → bstN R k p b = bstN R' k p b := by
  intro k
  induction k with
  | zero => intro p b _ _; rfl
  | succ k ih =>
    intro p b h1 h2
    show bstN R k (p + 1) (if R p ≤ R b then b else p) = bstN R' k (p + 1) (if R' p ≤ R' b then b else p)
    rw [h p (by omega), h b h2]
    refine ih (p + 1) _ (by omega) ?_
    split
    · exact h2
    · omega
theorem uni_sum {n : Nat} (h : 0 < n) : ∀ k R A, sum n (uni n k R A) = sum n A + k := by
  intro k
  induction k with
  | zero => intro R A; rfl
  | succ k ih =>
    intro R A
    show sum n (uni n k (setI R (bst R n) (-1)) (setN A (bst R n) (A (bst R n) + 1))) = _
    rw [ih]
    have hb := bst_lt (R := R) h
    have := sum_one (f := A) (f' := setN A (bst R n) (A (bst R n) + 1)) (m := bst R n) n hb (fun i hi hne => setN_ne hne)
    rw [setN_self] at this
    omega
theorem quo_rst {o p : Nat} : z (56 + 7 * o + 4) * z (123 + 5 * p + o) = allH z o * quo z o p + rst z o p := (Nat.div_add_mod _ _).symm
theorem quo_all {o : Nat} : z (56 + 7 * o + 4) * allH z o = allH z o * sum (z 2) (quo z o) + sum (z 2) (rst z o) := by
  rw [← sum_mul, ← sum_add]
  unfold allH
  rw [← sum_mul]
  exact sum_congr _ (fun p _ => quo_rst)
theorem quo_le {o : Nat} (h : allH z o ≠ 0) : sum (z 2) (quo z o) ≤ z (56 + 7 * o + 4) := by
  have h1 := quo_all (z := z) (o := o)
  have h2 : allH z o * sum (z 2) (quo z o) ≤ allH z o * z (56 + 7 * o + 4) := by
    rw [Nat.mul_comm (allH z o) (z (56 + 7 * o + 4)), h1]
    exact Nat.le_add_right _ _
  exact Nat.le_of_mul_le_mul_left h2 (by omega)
theorem lft_lt {o : Nat} (h : allH z o ≠ 0) : lft z o < z 2 := by
  have h1 := quo_all (z := z) (o := o)
  have h2 := quo_le h
  have hn : 0 < z 2 := by
    rcases Nat.eq_zero_or_pos (z 2) with q | q
    · exfalso
      apply h
      unfold allH
      rw [q]
      rfl
    · exact q
  have h3 : sum (z 2) (rst z o) ≤ (allH z o - 1) * z 2 := sum_le (z 2) (fun i _ => by
    have := Nat.mod_lt (z (56 + 7 * o + 4) * z (123 + 5 * i + o)) (show allH z o > 0 by omega)
    unfold rst
    omega)
  have h4 : (allH z o - 1) * z 2 + z 2 = allH z o * z 2 := by
    obtain ⟨m, hm⟩ : ∃ m, allH z o = m + 1 := ⟨allH z o - 1, by omega⟩
    rw [hm, Nat.add_sub_cancel, Nat.add_mul, Nat.one_mul]
  have h5 : allH z o * lft z o + allH z o * sum (z 2) (quo z o) = z (56 + 7 * o + 4) * allH z o := by
    unfold lft
    rw [← Nat.mul_add, Nat.sub_add_cancel h2, Nat.mul_comm]
  have h6 : allH z o * lft z o < allH z o * z 2 := by omega
  exact Nat.lt_of_mul_lt_mul_left h6
theorem shr_sum {o : Nat} (h : z (56 + 7 * o + 4) ≠ 0 → allH z o ≠ 0) : sum (z 2) (shr z o) = z (56 + 7 * o + 4) := by
  by_cases h0 : z (56 + 7 * o + 4) = 0
  · have : sum (z 2) (shr z o) = sum (z 2) (fun _ => 0) := sum_congr _ (fun p _ => if_pos h0)
    rw [this, h0]
    have := sum_le (f := fun _ => 0) (b := 0) (z 2) (fun i _ => Nat.le_refl _)
    omega
  · have hl := lft_lt (h h0)
    have e : sum (z 2) (shr z o) = sum (z 2) (fun p => quo z o p + uni (z 2) (lft z o) (fun p => Int32.ofNat (rst z o p)) (fun _ => 0) p) := sum_congr _ (fun p _ => if_neg h0)
    rw [e, sum_add, uni_sum (by omega)]
    have h9 := sum_le (f := fun _ => 0) (b := 0) (z 2) (fun i _ => Nat.le_refl _)
    have h8 := quo_le (h h0)
    unfold lft
    omega
/-- what is in the fund ahead of a player's allowance -/
def fndA (z : Nat → Nat) : Nat → Nat
  | 0 => z 10
  | p + 1 => fndA z p - (if timS z p < 3 then min (z 15) (fndA z p) else 0)
def getA (z : Nat → Nat) (p : Nat) : Nat := if timS z p < 3 then min (z 15) (fndA z p) else 0
theorem fndA_s {p : Nat} : fndA z (p + 1) = fndA z p - getA z p := rfl
theorem getA_le {p : Nat} : getA z p ≤ fndA z p := by
  unfold getA
  split
  · exact Nat.min_le_right _ _
  · exact Nat.zero_le _
theorem getA_sum : ∀ n, sum n (getA z) + fndA z n = z 10 := by
  intro n
  induction n with
  | zero => show 0 + z 10 = z 10; omega
  | succ n ih =>
    show sum n (getA z) + getA z n + (fndA z n - getA z n) = z 10
    have := getA_le (z := z) (p := n)
    omega
theorem fndA_le (n : Nat) : fndA z n ≤ z 10 := by
  have := getA_sum (z := z) n
  omega
/-- on a wet day alone -/
def getW (z : Nat → Nat) (p : Nat) : Nat := if z 5 = 1 then getA z p else 0
def fndW (z : Nat → Nat) : Nat := if z 5 = 1 then fndA z (z 2) else z 10
theorem getW_sum : sum (z 2) (getW z) + fndW z = z 10 := by
  by_cases h : z 5 = 1
  · have e1 : sum (z 2) (getW z) = sum (z 2) (getA z) := sum_congr _ (fun p _ => if_pos h)
    have e2 : fndW z = fndA z (z 2) := if_pos h
    rw [e1, e2]
    exact getA_sum _
  · have e1 : sum (z 2) (getW z) = sum (z 2) (fun _ => 0) := sum_congr _ (fun p _ => if_neg h)
    have e2 : fndW z = z 10 := if_neg h
    have := sum_le (f := fun _ => 0) (b := 0) (z 2) (fun i _ => Nat.le_refl _)
    rw [e1, e2]
    omega
def shrS (z : Nat → Nat) (p : Nat) : Nat := sum (z 1) (fun o => shr z o p)
theorem sum_swap {f : Nat → Nat → Nat} {m : Nat} : ∀ n, sum n (fun i => sum m (fun j => f i j)) = sum m (fun j => sum n (fun i => f i j)) := by
  intro n
  induction n with
  | zero =>
    show 0 = _
    have := sum_le (f := fun _ => 0) (b := 0) m (fun i _ => Nat.le_refl _)
    have e : sum m (fun j => sum 0 (fun i => f i j)) = sum m (fun _ => 0) := rfl
    rw [e]
    omega
  | succ n ih =>
    show sum n (fun i => sum m (fun j => f i j)) + sum m (fun j => f n j) = sum m (fun j => sum n (fun i => f i j) + f n j)
    rw [ih, sum_add]
/-- the state behind the payments -/
def endZ (z : Nat → Nat) : Nat → Nat := fun j =>
  if j = 10 then fndW z
  else if 56 ≤ j ∧ j < 56 + 7 * z 1 ∧ (j - 56) % 7 = 4 then 0
  else if 91 ≤ j ∧ j < 91 + 4 * z 2 ∧ (j - 91) % 4 = 1 then z j + shrS z ((j - 91) / 4) + getW z ((j - 91) / 4)
  else if 91 ≤ j ∧ j < 91 + 4 * z 2 ∧ (j - 91) % 4 = 2 then z j + getW z ((j - 91) / 4)
  else z j
/-- the state at the next day's begin -/
def dayZ (z : Nat → Nat) : Nat → Nat := fun j =>
  if j = 3 then z 3 + 1 else if j = 4 then 0 else if j = 5 then 0
  else if 123 ≤ j ∧ j < 213 then 0
  else if 56 ≤ j ∧ j < 56 + 7 * z 1 ∧ (j - 56) % 7 = 3 then 0
  else endZ z j
end DAY
