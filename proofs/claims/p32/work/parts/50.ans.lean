/-! SEMANTICS: more answers that only show -/
section ANS
variable {z : Nat → Nat} {μ : PM}
theorem othN_le {o : Nat} (hb : Bd z) : othN z o ≤ 5 := by
  have h := hb.no
  have := sum_le (f := fun e => if e ≠ o ∧ z (163 + 10 * e + z 4) ≠ 0 ∧ near z (z (56 + 7 * o + 3) - 1) (z (56 + 7 * e + 3) - 1) then 1 else 0) (b := 1) (z 1) (fun i _ => by split <;> omega)
  unfold othN
  omega
theorem tun_at {o : Nat} (h : tunS z o ≠ 0) : z (56 + 7 * o + 3) ≠ 0 := by
  intro q
  apply h
  refine Nat.eq_of_testBit_eq fun t => ?_
  rw [Nat.zero_testBit]
  cases e : (tunS z o).testBit t with
  | false => rfl
  | true =>
    have := (tunS_bit.mp e).2
    unfold reas at this
    rw [if_pos q] at this
    cases this
end ANS
