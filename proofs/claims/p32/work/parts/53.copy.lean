/-! SEMANTICS: copies of towns -/
section COPY
theorem beqC {x y : Nat} (h : x ≠ y) : Nat.beq x y = false := by
  cases e : Nat.beq x y with
  | false => rfl
  | true => exact absurd (Nat.eq_of_beq_eq_true e) h
theorem st_get (μ : PM) (k j : Nat) (v : Int32) (a b : Nat) : mI (stI μ k j v) a b = if a = k ∧ b = j then v else mI μ a b := by
  show (bif Nat.beq a k && Nat.beq b j then v else μ.1 a b) = _
  by_cases h1 : a = k
  · by_cases h2 : b = j
    · rw [if_pos ⟨h1, h2⟩, h1, h2, Nat.beq_refl, Nat.beq_refl]
      rfl
    · rw [if_neg (fun q => h2 q.2), beqC h2, Bool.and_false]
      rfl
  · rw [if_neg (fun q => h1 q.1), beqC h1, Bool.false_and]
    rfl
theorem cp_get (μ : PM) (a b n x y : Nat) : mI (cpI μ a 0 b 0 n) x y = if x = b ∧ y < n then mI μ a y else mI μ x y := by
  show (bif Nat.beq x b && Nat.ble 0 y && Nat.blt y (0 + n) then μ.1 a (0 + (y - 0)) else μ.1 x y) = _
  have e0 : Nat.ble 0 y = true := rfl
  rw [e0, Bool.and_true, Nat.zero_add, Nat.zero_add, Nat.sub_zero]
  by_cases h1 : x = b
  · by_cases h2 : y < n
    · rw [if_pos ⟨h1, h2⟩, h1, Nat.beq_refl, Nat.blt_eq.mpr h2]
      rfl
    · have h3 : Nat.blt y n = false := by
        cases e : Nat.blt y n with
        | false => rfl
        | true => exact absurd (Nat.blt_eq.mp e) h2
      rw [if_neg (fun q => h2 q.2), h3, Bool.and_false]
      rfl
  · rw [if_neg (fun q => h1 q.1), beqC h1, Bool.false_and]
    rfl
/-- what a copy does: of the places Pl of a to b, nothing else -/
def Cpy (μ μ' : PM) (S : Nat → Nat → Option Nat) : Prop := μ'.2 = μ.2 ∧ ∀ x y, mI μ' x y = match S x y with | some k => mI μ k y | none => mI μ x y
theorem y_cor {k0 k1 : Nat} {μ : PM} (h0 : cls k0 = 0) (h1 : cls k1 = 0) (hne : k0 ≠ k1) (hn0 : k0 + 1 ≠ k1) (hn1 : k1 + 1 ≠ k0) : ∃ μ', d_Cor_copyFrom k0 k1 μ = some (.inl none, μ') ∧ Cpy μ μ' (fun x y => if x = k0 ∧ y < 4 then some k1 else if x = k0 + 1 ∧ y < 10 then some (k1 + 1) else none) := by
  rw [e_Cor_copyFrom _ _ _ h0 h1]
  unfold lt
  dsimp only
  rw [chk_t ⟨cl_in1_0 h1, cl_in1_0 h0, by omega, rfl, rfl, by decide, by rw [cl_in2_0 h1]; decide, by rw [cl_in2_0 h0]; decide⟩]
  refine ⟨_, rfl, rfl, fun x y => ?_⟩
  show mI (cpI _ _ 0 _ 0 10) x y = _
  rw [cp_get]
  simp only [st_get]
  by_cases hx : x = k0
  · subst hx
    have e1 : ¬ (x = x + 1) := by omega
    have e2 : ¬ (k1 = x) := fun q => hne q.symm
    by_cases hy : y < 4
    · rcases (show y = 0 ∨ y = 1 ∨ y = 2 ∨ y = 3 by omega) with rfl | rfl | rfl | rfl <;> simp [e2]
    · have f0 : y ≠ 0 := by omega
      have f1 : y ≠ 1 := by omega
      have f2 : y ≠ 2 := by omega
      have f3 : y ≠ 3 := by omega
      simp [hy, f0, f1, f2, f3]
  · by_cases hx1 : x = k0 + 1
    · subst hx1
      have e1 : ¬ (k1 + 1 = k0) := hn1
      by_cases hy : y < 10
      · simp [hy, e1]
      · simp [hy]
    · simp [hx, hx1]
theorem y_ply {k0 k1 : Nat} {μ : PM} (h0 : cls k0 = 5) (h1 : cls k1 = 5) (hne : k0 ≠ k1) (hn0 : k0 + 1 ≠ k1) (hn1 : k1 + 1 ≠ k0) : ∃ μ', d_Ply_copyFrom k0 k1 μ = some (.inl none, μ') ∧ Cpy μ μ' (fun x y => if x = k0 ∧ y < 4 then some k1 else if x = k0 + 1 ∧ y < 5 then some (k1 + 1) else none) := by
  rw [e_Ply_copyFrom _ _ _ h0 h1]
  unfold lt
  dsimp only
  rw [chk_t ⟨cl_in1_5 h1, cl_in1_5 h0, by omega, rfl, rfl, by decide, by rw [cl_in2_5 h1]; decide, by rw [cl_in2_5 h0]; decide⟩]
  refine ⟨_, rfl, rfl, fun x y => ?_⟩
  show mI (cpI _ _ 0 _ 0 5) x y = _
  rw [cp_get]
  simp only [st_get]
  by_cases hx : x = k0
  · subst hx
    have e2 : ¬ (k1 = x) := fun q => hne q.symm
    by_cases hy : y < 4
    · rcases (show y = 0 ∨ y = 1 ∨ y = 2 ∨ y = 3 by omega) with rfl | rfl | rfl | rfl <;> simp [e2]
    · have f0 : y ≠ 0 := by omega
      have f1 : y ≠ 1 := by omega
      have f2 : y ≠ 2 := by omega
      have f3 : y ≠ 3 := by omega
      simp [hy, f0, f1, f2, f3]
  · by_cases hx1 : x = k0 + 1
    · subst hx1
      have e1 : ¬ (k1 + 1 = k0) := hn1
      by_cases hy : y < 5
      · simp [hy, e1]
      · simp [hy]
    · simp [hx, hx1]
theorem y_org {k0 k1 : Nat} {μ : PM} (h0 : cls k0 = 2) (h1 : cls k1 = 2) (hne : k0 ≠ k1) (hb : mI μ k1 1 = 0 ∨ mI μ k1 1 = 1) : ∃ μ', d_Org_copyFrom k0 k1 μ = some (.inl none, μ') ∧ Cpy μ μ' (fun x y => if x = k0 ∧ y < 8 then some k1 else none) := by
  have e2 : ¬ (k1 = k0) := fun q => hne q.symm
  rw [e_Org_copyFrom _ _ _ h0 h1]
  unfold lt
  rw [chk_t (by rw [st_get, if_neg (fun q => e2 q.1)]; exact hb)]
  refine ⟨_, rfl, rfl, fun x y => ?_⟩
  simp only [st_get]
  by_cases hx : x = k0
  · subst hx
    by_cases hy : y < 8
    · rcases (show y = 0 ∨ y = 1 ∨ y = 2 ∨ y = 3 ∨ y = 4 ∨ y = 5 ∨ y = 6 ∨ y = 7 by omega) with rfl | rfl | rfl | rfl | rfl | rfl | rfl | rfl <;> simp [e2]
    · have f0 : y ≠ 0 := by omega
      have f1 : y ≠ 1 := by omega
      have f2 : y ≠ 2 := by omega
      have f3 : y ≠ 3 := by omega
      have f4 : y ≠ 4 := by omega
      have f5 : y ≠ 5 := by omega
      have f6 : y ≠ 6 := by omega
      have f7 : y ≠ 7 := by omega
      simp [hy, f0, f1, f2, f3, f4, f5, f6, f7]
  · simp [hx]
end COPY
