/-! SEMANTICS: calls that only show, with scratch; ifEnded -/
section ENDED
variable {z : Nat → Nat} {μ μ1 : PM}
/-- scratch of the class alone -/
def ScC (μ μ' : PM) : Prop := μ'.2 = μ.2 ∧ ∀ x, (x < 5 ∨ 12 ≤ x) → mI μ' x = mI μ x
theorem ScC.rf : ScC μ μ := ⟨rfl, fun _ _ => rfl⟩
theorem ScC.tr {μ2 : PM} (h : ScC μ μ1) (h' : ScC μ1 μ2) : ScC μ μ2 := ⟨h'.1.trans h.1, fun x hx => (h'.2 x hx).trans (h.2 x hx)⟩
theorem ScC.st {k j : Nat} {v : Int32} (h : ScC μ μ1) (hk : 5 ≤ k ∧ k < 12) : ScC μ (stI μ1 k j v) := ⟨h.1, fun x hx => by rw [stI_ne _ _ _ (by omega)]; exact h.2 x hx⟩
theorem ScC.rt (h : ScC μ μ1) (hr : RT 23 z μ) : RT 23 z μ1 := RT_fr (fun x y hx hx2 => by rw [h.2 x (by omega)]) hr
theorem FrP.sc (h : FrP μ μ1) : ScC μ μ1 := ⟨h.1, fun x hx => h.2 x (by omega) (by omega) (by omega)⟩
theorem FrM.s14 {j : Nat} {v : Int32} (h : FrM μ μ1) : FrM μ (stI μ1 14 j v) := h.st (by decide) ⟨fun q => absurd q (by decide), fun q => absurd q (by decide)⟩
theorem jn_z {N : Nat} (hJ : Jn N μ) : ∃ (z : Nat → Nat) (sv : Nat), mI μ 13 = zI z ∧ RT 23 z μ ∧ Okz N z ∧ mI μ 21 0 = 0 ∧ mI μ 1 2 = Int32.ofNat sv ∧ mI μ 12 14 = Int32.ofNat sv ∧ sv ≤ 6 := by
  obtain ⟨z, old, sv, zs, n, s, h1, h2, h3, h4, h5, h6, h7⟩ := hJ
  exact ⟨z, sv, h1, h2, h3, h7.2.2.1.2, h4.2.2.2.1, h5.2.1, h5.1⟩
theorem PT_of (hr : RT 23 z μ) : PT z μ := ⟨r_f5 hr, r_f6 hr, r_f9 hr, r_f14 hr, r_set hr (by decide), fun o ho => r_org hr ho (by decide) (by decide), fun p hp o ho => r_tim hr hp ho⟩
end ENDED
