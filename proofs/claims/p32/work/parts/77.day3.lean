/-! SEMANTICS: a day's end: what the model does -/
section DAY3
variable {z : Nat → Nat} {μ : PM}
theorem ix_g {p : Nat} : (91 + 4 * Int32.ofNat p) + 1 = Int32.ofNat (91 + 4 * p + 1) := by
  rw [show (91 : Int32) = Int32.ofNat 91 from rfl, show (4 : Int32) = Int32.ofNat 4 from rfl, show (1 : Int32) = Int32.ofNat 1 from rfl, i3_mul, i3_add, i3_add]
theorem ix_f {p : Nat} : (91 + 4 * Int32.ofNat p) + 2 = Int32.ofNat (91 + 4 * p + 2) := by
  rw [show (91 : Int32) = Int32.ofNat 91 from rfl, show (4 : Int32) = Int32.ofNat 4 from rfl, show (2 : Int32) = Int32.ofNat 2 from rfl, i3_mul, i3_add, i3_add]
theorem ix_p {o : Nat} : (56 + 7 * Int32.ofNat o) + 4 = Int32.ofNat (56 + 7 * o + 4) := by
  rw [show (56 : Int32) = Int32.ofNat 56 from rfl, show (7 : Int32) = Int32.ofNat 7 from rfl, show (4 : Int32) = Int32.ofNat 4 from rfl, i3_mul, i3_add, i3_add]
/-- what a day's end leaves alone -/
def FrE (μ μ' : PM) : Prop := FrM μ μ' ∧ mI μ' 14 = mI μ 14
theorem FrE.rf : FrE μ μ := ⟨FrM.rf, rfl⟩
theorem FrE.tr {μ1 μ2 : PM} (h : FrE μ μ1) (h' : FrE μ1 μ2) : FrE μ μ2 := ⟨h.1.tr h'.1, h'.2.trans h.2⟩
theorem FrE.s13 {μ1 : PM} {j : Nat} {v : Int32} (h : FrE μ μ1) : FrE μ (stI μ1 13 j v) := ⟨h.1.s13, by rw [stI_ne _ _ _ (by decide), h.2]⟩
theorem FrE.s18 {μ1 : PM} {j : Nat} {v : Int32} (h : FrE μ μ1) : FrE μ (stI μ1 18 j v) := ⟨h.1.st (by decide) ⟨fun q => absurd q (by decide), fun q => absurd q (by decide)⟩, by rw [stI_ne _ _ _ (by decide), h.2]⟩
/-- the units given out -/
def uZ (z : Nat → Nat) (n k : Nat) (R : Nat → Int32) : Nat → Nat := fun j => if 91 ≤ j ∧ j < 91 + 4 * n ∧ (j - 91) % 4 = 1 then uni n k R (fun p => z (91 + 4 * p + 1)) ((j - 91) / 4) else z j
/-- the state with an organ's pot shared -/
def shZ (z : Nat → Nat) (o : Nat) : Nat → Nat := fun j => if j = 56 + 7 * o + 4 then 0 else if 91 ≤ j ∧ j < 91 + 4 * z 2 ∧ (j - 91) % 4 = 1 then z j + shr z o ((j - 91) / 4) else z j
/-- .. with the whole parts -/
def quZ (z : Nat → Nat) (o m : Nat) : Nat → Nat := fun j => if 91 ≤ j ∧ j < 91 + 4 * m ∧ (j - 91) % 4 = 1 then z j + quo z o ((j - 91) / 4) else z j
end DAY3
