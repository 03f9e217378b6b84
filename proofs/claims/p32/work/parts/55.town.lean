/-! SEMANTICS: a town copied holds the same state -/
section TOWNC
variable {z : Nat → Nat} {μ : PM}
theorem i01 {a : Nat} (h : a ≤ 1) : Int32.ofNat a = 0 ∨ Int32.ofNat a = 1 := by
  rcases (show a = 0 ∨ a = 1 by omega) with q | q
  · rw [q]; exact Or.inl rfl
  · rw [q]; exact Or.inr rfl
theorem y_town {t t' : Nat} (h : isT t) (h' : isT t') (hne : t ≠ t') (hr : RT t' z μ) (hb : Bd z) : ∃ μ', d_Twn_copyFrom t t' μ = some (.inl none, μ') ∧ μ'.2 = μ.2 ∧ (∀ x y, (x < t ∨ t + 46 ≤ x) → mI μ' x y = mI μ x y) ∧ RT t z μ' := by
  have far := isT_far h h' hne
  obtain ⟨μ1, a1, a2, a3, a4⟩ := y_loop1 (μ := μ) h h' hne 10 (Nat.le_refl _)
  obtain ⟨⟨⟨q4, q5, q6, q7, q8, q9⟩, q10, q11, q12, q13, q14⟩, qs, qc, qo, qp⟩ := hr
  obtain ⟨μ2, b1, b2, b3, b4⟩ := y_loop2 (μ := μ1) h h' hne (fun o ho => by
    rw [a3 _ _ (by omega), (qo o ho).1 1 (by decide) (by decide)]
    exact i01 (hb.org o ho).2.1) 5 (Nat.le_refl _)
  obtain ⟨μ3, c1, c2, c3, c4⟩ := y_loop3 (μ := μ2) h h' hne 8 (Nat.le_refl _)
  obtain ⟨μ4, d1, d2, d3, d4, d5⟩ := y_last (μ := μ3) h h' hne (by
    rw [c3 _ _ (by omega), b3 _ _ (by omega), a3 _ _ (by omega), q9]
    exact i01 hb.wt)
  have old : ∀ x y, (t' ≤ x ∧ x < t' + 46) → mI μ3 x y = mI μ x y := fun x y hx => by
    rw [c3 _ _ (by omega), b3 _ _ (by omega), a3 _ _ (by omega)]
  have own : ∀ w, 4 ≤ w → w < 15 → mI μ4 t w = mI μ t' w := fun w h4 hw => by rw [d5 w h4 hw, old _ _ (by omega)]
  refine ⟨μ4, ?_, by rw [d2, c2, b2, a2], fun x y hx => ?_, ?_⟩
  · rw [e_Twn_copyFrom _ _ _ h h', a1, Twn_copyFrom_2_eq _ _ _ _ h h', if_pos (by decide), b1, Twn_copyFrom_31_eq _ _ _ _ h h', if_pos (by decide), c1, d1]
  · rw [d3 _ _ (by omega) (by omega), c3 _ _ (by omega), b3 _ _ (by omega), a3 _ _ (by omega)]
  · refine ⟨⟨⟨?_, ?_, ?_, ?_, ?_, ?_⟩, ?_, ?_, ?_, ?_, ?_⟩, fun i hi => ?_, fun c hc => ⟨fun w hw => ?_, fun w hw => ?_⟩, fun o ho => ⟨fun w hw h3 => ?_, ?_, ?_⟩, fun p hp => ⟨?_, fun w h1 hw => ?_, fun o ho => ?_⟩⟩
    · rw [own _ (by decide) (by decide), q4]
    · rw [own _ (by decide) (by decide), q5]
    · rw [own _ (by decide) (by decide), q6]
    · rw [own _ (by decide) (by decide), q7]
    · rw [own _ (by decide) (by decide), q8]
    · rw [own _ (by decide) (by decide), q9]
    · rw [own _ (by decide) (by decide), q10]
    · rw [own _ (by decide) (by decide), q11]
    · rw [own _ (by decide) (by decide), q12]
    · rw [own _ (by decide) (by decide), q13]
    · rw [own _ (by decide) (by decide), q14]
    · rw [d4 i hi, old _ _ (by omega), qs i hi]
    · rw [d3 _ _ (by omega) (by omega), c3 _ _ (by omega), b3 _ _ (by omega), (a4 c hc).1 w hw, (qc c hc).1 w hw]
    · rw [d3 _ _ (by omega) (by omega), c3 _ _ (by omega), b3 _ _ (by omega), (a4 c hc).2 w hw, (qc c hc).2 w hw]
    · rw [d3 _ _ (by omega) (by omega), c3 _ _ (by omega), b4 o ho w (by omega), a3 _ _ (by omega), (qo o ho).1 w hw h3]
    · rw [d3 _ _ (by omega) (by omega), c3 _ _ (by omega), b4 o ho 3 (by decide), a3 _ _ (by omega), (qo o ho).2.1]
    · rw [d3 _ _ (by omega) (by omega), c3 _ _ (by omega), b4 o ho 7 (by decide), a3 _ _ (by omega), (qo o ho).2.2]
    · rw [d3 _ _ (by omega) (by omega), (c4 p hp).1 0 (by decide), b3 _ _ (by omega), a3 _ _ (by omega), (qp p hp).1]
    · rw [d3 _ _ (by omega) (by omega), (c4 p hp).1 w hw, b3 _ _ (by omega), a3 _ _ (by omega), (qp p hp).2.1 w h1 hw]
    · rw [d3 _ _ (by omega) (by omega), (c4 p hp).2 o ho, b3 _ _ (by omega), a3 _ _ (by omega), (qp p hp).2.2 o ho]
end TOWNC
