/-! SEMANTICS: arguments; the answers that only show -/
section REQ
variable {z : Nat → Nat} {μ : PM}
theorem i3_toNat {x : Int32} (h : (0 : Int32) ≤ x) : x = Int32.ofNat x.toNatClampNeg ∧ x.toNatClampNeg < 2147483648 := by
  have h1 : (0 : Int) ≤ x.toInt := Int32.le_iff_toInt_le.mp h
  have h2 := Int32.toInt_lt x
  have h3 : x.toNatClampNeg < 2147483648 := by
    unfold Int32.toNatClampNeg
    omega
  refine ⟨Int32.toInt_inj.mp ?_, h3⟩
  rw [i3_negs h3]
  unfold Int32.toNatClampNeg
  omega
/-- a number within, or not -/
theorem idx (x : Int32) {n : Nat} (hn : n < 2147483648) : (∃ i, i < n ∧ x = Int32.ofNat i) ∨ (x < 0 ∨ (0 ≤ x ∧ Int32.ofNat n ≤ x)) := by
  by_cases h : (0 : Int32) ≤ x
  · obtain ⟨h1, h2⟩ := i3_toNat h
    by_cases h3 : x.toNatClampNeg < n
    · exact Or.inl ⟨_, h3, h1⟩
    · refine Or.inr (Or.inr ⟨h, ?_⟩)
      rw [h1]
      exact le_y (by omega) h2
  · exact Or.inr (Or.inl (Int32.not_le.mp h))
def out (x : Int32) (n : Nat) : Prop := x < 0 ∨ (0 ≤ x ∧ Int32.ofNat n ≤ x)
theorem reqI_y {i n : Nat} (h : i < n) (hn : n < 2147483648) : d_Oc_requireIndex (Int32.ofNat i) (Int32.ofNat n) μ = some (.inl none, μ) := by
  rw [e_Oc_requireIndex, if_neg (show ¬ _ < (0 : Int32) from lt_n (b := 0) (Nat.zero_le _) (by omega)), if_pos (lt_y h hn)]
theorem reqI_n {x : Int32} {n : Nat} (h : out x n) : d_Oc_requireIndex x (Int32.ofNat n) μ = some (.inr 3, exM μ) := by
  rw [e_Oc_requireIndex]
  rcases h with h | ⟨h1, h2⟩
  · rw [if_pos h]
  · rw [if_neg (Int32.not_lt.mpr h1), if_neg (Int32.not_lt.mpr h2)]
theorem reqR_y {i a n : Nat} (ha : a ≤ i) (h : i < n + 1) (hn : n < 2147483647) : d_Oc_requireInRange (Int32.ofNat i) (Int32.ofNat a) (Int32.ofNat n) μ = some (.inl none, μ) := by
  rw [e_Oc_requireInRange, if_neg (lt_n ha (by omega)), if_pos (le_y (by omega) (by omega))]
theorem out_lt {x : Int32} {n : Nat} (hn : n < 2147483647) (h : 0 ≤ x ∧ Int32.ofNat (n + 1) ≤ x) : Int32.ofNat n < x := by
  obtain ⟨h1, h2⟩ := i3_toNat h.1
  have h3 := h.2
  rw [h1] at h3 ⊢
  rw [i3_le (by omega) h2] at h3
  exact lt_y (by omega) h2
theorem reqR_n {x : Int32} {n : Nat} (hn : n < 2147483647) (h : out x (n + 1)) : d_Oc_requireInRange x 0 (Int32.ofNat n) μ = some (.inr 1, exM μ) := by
  rw [e_Oc_requireInRange]
  rcases h with h | h
  · rw [if_pos h]
  · rw [if_neg (Int32.not_lt.mpr h.1), if_neg (Int32.not_le.mpr (out_lt hn h))]
end REQ
