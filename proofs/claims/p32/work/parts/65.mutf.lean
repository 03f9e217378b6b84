/-! SEMANTICS: a call that saves and then changes -/
section MUTF
variable {z z' : Nat → Nat} {μ μ1 μ2 : PM}
/-- what the class's part of a change leaves alone -/
def FrC (μ μ' : PM) : Prop := μ'.2 = μ.2 ∧ ∀ x, (x < 5 ∨ (12 ≤ x ∧ x < 23) ∨ 69 ≤ x) → mI μ' x = mI μ x
/-- what the model's part of a change leaves alone -/
def FrM (μ μ' : PM) : Prop := μ'.2 = μ.2 ∧ (∀ x, (x < 12 ∨ x = 15 ∨ x = 16 ∨ x = 17 ∨ 23 ≤ x) → mI μ' x = mI μ x) ∧ (∀ j, 11 ≤ j → j ≤ 16 → mI μ' 12 j = mI μ 12 j) ∧ mI μ' 21 0 = mI μ 21 0
theorem lt_b {ν : PM} {f : PM → Option PO} : lt ν f = f ν := rfl
theorem FrC.rf : FrC μ μ := ⟨rfl, fun _ _ => rfl⟩
theorem FrC.tr (h : FrC μ μ1) (h' : FrC μ1 μ2) : FrC μ μ2 := ⟨h'.1.trans h.1, fun x hx => (h'.2 x hx).trans (h.2 x hx)⟩
theorem FrC.st {k j : Nat} {v : Int32} (h : FrC μ μ1) (hk : (5 ≤ k ∧ k < 12) ∨ (23 ≤ k ∧ k < 69)) : FrC μ (stI μ1 k j v) := ⟨h.1, fun x hx => by rw [stI_ne _ _ _ (by omega)]; exact h.2 x hx⟩
theorem FrM.rf : FrM μ μ := ⟨rfl, fun _ _ => rfl, fun _ _ _ => rfl, rfl⟩
theorem FrM.tr (h : FrM μ μ1) (h' : FrM μ1 μ2) : FrM μ μ2 := ⟨h'.1.trans h.1, fun x hx => (h'.2.1 x hx).trans (h.2.1 x hx), fun j h1 h2 => (h'.2.2.1 j h1 h2).trans (h.2.2.1 j h1 h2), h'.2.2.2.trans h.2.2.2⟩
theorem FrM.st {k j : Nat} {v : Int32} (h : FrM μ μ1) (hk : 12 ≤ k ∧ k < 23 ∧ k ≠ 15 ∧ k ≠ 16 ∧ k ≠ 17) (hj : (k = 12 → j < 11 ∨ 16 < j) ∧ (k = 21 → j ≠ 0)) : FrM μ (stI μ1 k j v) := ⟨h.1, fun x hx => by rw [stI_ne _ _ _ (by omega)]; exact h.2.1 x hx, fun i h1 h2 => by
  rw [st_get, if_neg (fun q => by have := hj.1 q.1.symm; omega)]
  exact h.2.2.1 i h1 h2, by
  rw [st_get, if_neg (fun q => hj.2 q.1.symm q.2.symm)]
  exact h.2.2.2⟩
theorem FrM.s13 {j : Nat} {v : Int32} (h : FrM μ μ1) : FrM μ (stI μ1 13 j v) := h.st (by decide) ⟨fun q => absurd q (by decide), fun q => absurd q (by decide)⟩
theorem RingC.fr {old sv : Nat} {zs : Nat → Nat → Nat} (hg : RingC old sv zs μ) (h : FrC μ μ1) : RingC old sv zs μ1 := by
  obtain ⟨q1, q2, q3, q4, q5⟩ := hg
  refine ⟨q1, q2, by rw [h.2 1 (by decide)]; exact q3, by rw [h.2 1 (by decide)]; exact q4, fun i hi => RT_fr (fun x y hx hx2 => by rw [h.2 x (by omega)]) (q5 i hi)⟩
theorem RingM.fr {sv : Nat} {zs : Nat → Nat → Nat} (hg : RingM sv zs μ) (h : FrM μ μ1) : RingM sv zs μ1 := by
  obtain ⟨q1, q2, q3⟩ := hg
  exact ⟨q1, by rw [h.2.2.1 14 (by decide) (by decide)]; exact q2, fun i hi m hm => by rw [h.2.1 15 (by decide)]; exact q3 i hi m hm⟩
end MUTF
