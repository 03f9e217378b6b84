/-! SEMANTICS: the calls that set a number -/
section SETC
variable {z : Nat → Nat} {μ : PM}
theorem plyS_le : plyS z ≤ 50 := by
  have := sum_le (f := fun k => if z (163 + k) = 0 then 0 else 1) (b := 1) 50 (fun i _ => by split <;> omega)
  unfold plyS
  omega
end SETC
