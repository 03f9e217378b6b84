/-! SEMANTICS: a day's end: the model's whole -/
section DAY4
variable {z : Nat → Nat} {μ : PM}
theorem shr_ext {z' : Nat → Nat} {o p : Nat} (h2 : z' 2 = z 2) (h4 : z' (56 + 7 * o + 4) = z (56 + 7 * o + 4)) (ht : ∀ p, z' (123 + 5 * p + o) = z (123 + 5 * p + o)) : shr z' o p = shr z o p := by
  have e1 : allH z' o = allH z o := by
    unfold allH
    rw [h2]
    exact sum_congr _ (fun p _ => ht p)
  have e2 : quo z' o = quo z o := funext fun p => by unfold quo; rw [h4, ht, e1]
  have e3 : rst z' o = rst z o := funext fun p => by unfold rst; rw [h4, ht, e1]
  unfold shr lft
  rw [h4, h2, e2, e3]
theorem timS_ext {z' : Nat → Nat} {p : Nat} (ht : ∀ o, o < 5 → z' (123 + 5 * p + o) = z (123 + 5 * p + o)) : timS z' p = timS z p := sum_congr _ (fun o ho => ht o ho)
theorem fndA_ext {z' : Nat → Nat} (h10 : z' 10 = z 10) (h15 : z' 15 = z 15) (ht : ∀ p, timS z' p = timS z p) : ∀ p, fndA z' p = fndA z p := by
  intro p
  induction p with
  | zero => exact h10
  | succ p ih =>
    show fndA z' p - (if timS z' p < 3 then min (z' 15) (fndA z' p) else 0) = fndA z p - (if timS z p < 3 then min (z 15) (fndA z p) else 0)
    rw [ih, ht, h15]
theorem getA_ext {z' : Nat → Nat} (h10 : z' 10 = z 10) (h15 : z' 15 = z 15) (ht : ∀ p, timS z' p = timS z p) (p : Nat) : getA z' p = getA z p := by
  unfold getA
  rw [fndA_ext h10 h15 ht, ht, h15]
/-- the state with the allowances given to m players -/
def aZ (y : Nat → Nat) (m : Nat) : Nat → Nat := fun j =>
  if j = 10 then fndA y m else if 91 ≤ j ∧ j < 91 + 4 * m ∧ (j - 91) % 4 = 1 then y j + getA y ((j - 91) / 4) else if 91 ≤ j ∧ j < 91 + 4 * m ∧ (j - 91) % 4 = 2 then y j + getA y ((j - 91) / 4) else y j
/-- the state with m pots shared -/
def stZ (m : Nat) (z : Nat → Nat) : Nat → Nat := fun j => if 56 ≤ j ∧ j < 56 + 7 * m ∧ (j - 56) % 7 = 4 then 0 else if 91 ≤ j ∧ j < 91 + 4 * z 2 ∧ (j - 91) % 4 = 1 then z j + sum m (fun o => shr z o ((j - 91) / 4)) else z j
theorem stZ_ne {m j : Nat} (h : j < 56 ∨ (56 + 7 * m ≤ j ∧ j < 91) ∨ 123 ≤ j) (h2 : z 2 ≤ 8) (hm : m ≤ 5) : stZ m z j = z j := by
  unfold stZ
  rw [if_neg (by omega), if_neg (by omega)]
theorem Ed_st {m : Nat} (hE : Ed z) (hm : m ≤ 5) : Ed (stZ m z) := by
  obtain ⟨n1, n2, n5, n15, ntm, npt, nfd⟩ := hE
  have ez : ∀ j, (j < 56 ∨ (56 + 7 * m ≤ j ∧ j < 91) ∨ 123 ≤ j) → stZ m z j = z j := fun j h => stZ_ne h n2 hm
  have ea : ∀ o, allH (stZ m z) o = allH z o := fun o => by
    unfold allH
    rw [ez 2 (by omega)]
    exact sum_congr _ (fun p _ => ez _ (by omega))
  refine ⟨by rw [ez 1 (by omega)]; exact n1, by rw [ez 2 (by omega)]; exact n2, by rw [ez 5 (by omega)]; exact n5, by rw [ez 15 (by omega)]; exact n15, fun p hp o ho => by rw [ez _ (by omega)]; exact ntm p hp o ho, fun o ho => ?_, by rw [ez 10 (by omega)]; exact nfd⟩
  rw [ea]
  by_cases q : o < m
  · have e0 : stZ m z (56 + 7 * o + 4) = 0 := if_pos (by omega)
    rw [e0]
    exact ⟨by omega, fun q => absurd rfl q⟩
  · rw [ez _ (by omega)]
    exact npt o ho
end DAY4
