/-! SEMANTICS: addCorner, addOrgan -/
section ADDC
variable {z : Nat → Nat} {μ : PM}
/-- a number in a range, or not -/
theorem rng (x : Int32) {a n : Nat} (ha : a ≤ n) (hn : n < 2147483647) : (∃ i, a ≤ i ∧ i ≤ n ∧ x = Int32.ofNat i) ∨ (x < Int32.ofNat a ∨ (¬ x < Int32.ofNat a ∧ Int32.ofNat n < x)) := by
  by_cases h0 : x < Int32.ofNat a
  · exact Or.inr (Or.inl h0)
  · have h1 : Int32.ofNat a ≤ x := Int32.not_lt.mp h0
    have h2 : (0 : Int32) ≤ x := Int32.le_trans (show (0 : Int32) ≤ Int32.ofNat a from le_y (a := 0) (Nat.zero_le _) (by omega)) h1
    obtain ⟨h3, h4⟩ := i3_toNat h2
    by_cases h5 : x.toNatClampNeg ≤ n
    · refine Or.inl ⟨_, ?_, h5, h3⟩
      rw [h3, i3_le (by omega) h4] at h1
      exact h1
    · refine Or.inr (Or.inr ⟨h0, ?_⟩)
      rw [h3]
      exact lt_y (by omega) h4
theorem reqR_o {x a n : Int32} (h : x < a ∨ (¬ x < a ∧ n < x)) : d_Oc_requireInRange x a n μ = some (.inr 1, exM μ) := by
  rw [e_Oc_requireInRange]
  rcases h with h | ⟨h1, h2⟩
  · rw [if_pos h]
  · rw [if_neg h1, if_neg (Int32.not_le.mpr h2)]
/-- a place that is taken -/
def tak (z : Nat → Nat) (p m : Nat) : Prop := ∃ c, c < m ∧ z (16 + 4 * c) = p
theorem tak_s {p m : Nat} : tak z p (m + 1) ↔ tak z p m ∨ z (16 + 4 * m) = p := by
  constructor
  · rintro ⟨c, h1, h2⟩
    by_cases e : c = m
    · subst e; exact Or.inr h2
    · exact Or.inl ⟨c, by omega, h2⟩
  · rintro (⟨c, h1, h2⟩ | h)
    · exact ⟨c, by omega, h2⟩
    · exact ⟨m, by omega, h⟩
theorem t_hasCornerAt {p : Nat} (hr : RT 23 z μ) (hb : Bd z) (hp : p < 100) : ∃ v : Int32, d_Twn_hasCornerAt (Int32.ofNat p) μ = rI v μ ∧ ((v = 1 ∧ tak z p (z 0)) ∨ (v = 0 ∧ ¬ tak z p (z 0))) := by
  have hn := hb.nc
  rw [e_Twn_hasCornerAt]
  have key : ∀ k m, m + k = z 0 → ¬ tak z p m → ∃ v : Int32, Twn_hasCornerAt_2 (Int32.ofNat p) (Int32.ofNat m) μ = rI v μ ∧ ((v = 1 ∧ tak z p (z 0)) ∨ (v = 0 ∧ ¬ tak z p (z 0))) := by
    intro k
    induction k with
    | zero =>
      intro m hm hi
      have e : m = z 0 := by omega
      subst e
      exact ⟨0, by rw [Twn_hasCornerAt_2_eq, r_f4 hr, if_pos (le_y (by omega) (by omega))], Or.inr ⟨rfl, hi⟩⟩
    | succ k ih =>
      intro m hm hi
      have hc := (hb.cor m (by omega)).1
      have e0 : mI μ (28 + 2 * m) 0 = Int32.ofNat (z (16 + 4 * m)) := r_cor hr (by omega) (by decide)
      rw [Twn_hasCornerAt_2_eq, r_f4 hr, if_neg (le_n (by omega) (by omega)), chk_t (i3_inb (by omega) (by decide)), i3_nat (by omega), e0, i3_add1]
      by_cases h : z (16 + 4 * m) = p
      · rw [if_neg (fun q => q (by rw [h]))]
        exact ⟨1, rfl, Or.inl ⟨rfl, m, by omega, h⟩⟩
      · rw [if_pos (fun q => by rw [i3_eq (by omega) (by omega)] at q; exact h q)]
        exact ih (m + 1) (by omega) (fun q => (tak_s.mp q).elim hi h)
  exact key (z 0) 0 (by omega) (fun ⟨c, h, _⟩ => absurd h (Nat.not_lt_zero c))
/-- the state with one more corner -/
def zAddc (z : Nat → Nat) (p c f q : Nat) : Nat → Nat := setN (setN (setN (setN (setN z (16 + 4 * z 0) p) (16 + 4 * z 0 + 1) c) (16 + 4 * z 0 + 2) f) (16 + 4 * z 0 + 3) q) 0 (z 0 + 1)
end ADDC
