/-! SEMANTICS: the most: the model's search as a whole -/
section MOST3
variable {z : Nat → Nat} {μ : PM}
def Bb (b : Nat × Nat) : Prop := b.1 ≤ 1000 ∧ b.2 < 32
noncomputable def layF (z : Nat → Nat) (k d : Nat) (P : Nat → Nat) (s : Nat) : Nat → Nat × Nat → Nat × Nat := fun v b => if v = 0 then lay z k (d + 1) (setN P d 0) s b else @ite _ (cpk z d v P) (Classical.propDecidable _) (lay z k (d + 1) (setN P d v) (s + ptk z d P) b) b
theorem lay_s {k d : Nat} {P : Nat → Nat} {s : Nat} {b : Nat × Nat} : lay z (k + 1) d P s b = flM (layF z k d P s) 11 0 b := rfl
theorem fl_bd {f : Nat → Nat × Nat → Nat × Nat} (hf : ∀ v b, Bb b → Bb (f v b)) : ∀ j v b, Bb b → Bb (flM f j v b) := by
  intro j
  induction j with
  | zero => intro v b h; exact h
  | succ j ih => intro v b h; exact ih (v + 1) (f v b) (hf v b h)
theorem lay_bd (hb : Bd z) : ∀ (k d : Nat) (P : Nat → Nat) (s : Nat) (b : Nat × Nat), d + k ≤ 5 → s ≤ 90 * d → Bb b → Bb (lay z k d P s b) := by
  intro k
  induction k with
  | zero =>
    intro d P s b h1 h2 h3
    rcases (kp_le (b := b) (s := s) (m := msk P d)).2.2 with q | q
    · show Bb (kp b s (msk P d))
      rw [q]; exact h3
    · show Bb (kp b s (msk P d))
      rw [q]
      exact ⟨by show s ≤ 1000; omega, Nat.lt_of_lt_of_le (msk_lt d (by omega)) (show 2 ^ d ≤ 2 ^ 5 from Nat.pow_le_pow_right (by decide) (by omega))⟩
  | succ k ih =>
    intro d P s b h1 h2 h3
    rw [lay_s]
    refine fl_bd (fun v b h => ?_) 11 0 b h3
    unfold layF
    by_cases q : v = 0
    · rw [if_pos q]; exact ih _ _ _ _ (by omega) (by omega) h
    · rw [if_neg q]
      by_cases q2 : cpk z d v P
      · have := tak_le (k := othN z d + ahd z P d) hb (show d < 5 by omega) (can_o q2.1).1
        rw [if_pos q2]
        exact ih _ _ _ _ (by omega) (by unfold ptk; omega) h
      · rw [if_neg q2]; exact h
theorem pmx : ∀ v, v < 11 → ¬ pm v - 1 = 9 := by decide
theorem pm_back {v : Nat} : pm v - 1 + 1 = pm v := Int32.sub_add_cancel _ _
theorem pm_fwd {v : Nat} : pm v = pm (v + 1) - 1 := by
  rw [pm_succ]
  rfl
end MOST3
