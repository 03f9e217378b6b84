/-! SEMANTICS: firstError, run -/
section RUN
variable {z : Nat → Nat} {μ : PM} {n : Nat} {s : Nat → Nat}
/-- an order that may be done -/
def mayB (z : Nat → Nat) (o : Nat) : Prop := if o = 0 then z 4 = 0 ∧ plyS z = 0 else if o < 3 then plyS z = 0 else if o = 3 then True else ((o - 10) / 10 < z 1 ∧ reas z ((o - 10) / 10) ((o - 10) % 10) = 0)
noncomputable def doZ (z : Nat → Nat) (o : Nat) : Nat → Nat := if o = 0 then lotZ z else if o = 1 then setN z 5 1 else if o = 2 then setN z 5 0 else if o = 3 then nxtZ z else plaZ z ((o - 10) / 10) ((o - 10) % 10)
def okO (o : Nat) : Prop := o ≤ 3 ∨ (10 ≤ o ∧ o < 60)
end RUN
