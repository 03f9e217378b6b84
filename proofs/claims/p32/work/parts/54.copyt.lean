/-! SEMANTICS: copies of whole towns -/
section COPYT
theorem eN_1 {t : Nat} (h : isT t) (i : Nat) : eN (t + 1) i = t + 5 + 2 * i := by
  unfold eN
  rw [ft_1 h]
  show t + 1 + 4 + 2 * i = _
  omega
theorem eN_2 {t : Nat} (h : isT t) (i : Nat) : eN (t + 2) i = t + 25 + i := by
  unfold eN
  rw [ft_2 h]
  show t + 2 + 23 + i = _
  omega
theorem eN_3 {t : Nat} (h : isT t) (i : Nat) : eN (t + 3) i = t + 30 + 2 * i := by
  unfold eN
  rw [ft_3 h]
  show t + 3 + 27 + 2 * i = _
  omega
theorem isT_far {t t' : Nat} (h : isT t) (h' : isT t') (hne : t ≠ t') : t + 46 ≤ t' ∨ t' + 46 ≤ t := by
  obtain ⟨j, _, rfl⟩ := h
  obtain ⟨j', _, rfl⟩ := h'
  omega
theorem tc_cor {t i : Nat} (h : isT t) (hi : i < 10) : cls (t + 5 + 2 * i) = 0 := by
  have := ft_c1 (i := Int32.ofNat i) h (i3_inb hi (by decide))
  rwa [i3_nat (by omega), eN_1 h] at this
theorem tc_org {t i : Nat} (h : isT t) (hi : i < 5) : cls (t + 25 + i) = 2 := by
  have := ft_o1 (i := Int32.ofNat i) h (i3_inb hi (by decide))
  rwa [i3_nat (by omega), eN_2 h] at this
theorem tc_ply {t i : Nat} (h : isT t) (hi : i < 8) : cls (t + 30 + 2 * i) = 5 := by
  have := ft_p1 (i := Int32.ofNat i) h (i3_inb hi (by decide))
  rwa [i3_nat (by omega), eN_3 h] at this
theorem y_loop1 {t t' : Nat} {μ : PM} (h : isT t) (h' : isT t') (hne : t ≠ t') : ∀ n, n ≤ 10 → ∃ μn, Twn_copyFrom_2 t t' 0 μ = Twn_copyFrom_2 t t' (Int32.ofNat n) μn ∧ μn.2 = μ.2 ∧ (∀ x y, (x < t + 5 ∨ t + 5 + 2 * n ≤ x) → mI μn x y = mI μ x y) ∧ (∀ i, i < n → (∀ w, w < 4 → mI μn (t + 5 + 2 * i) w = mI μ (t' + 5 + 2 * i) w) ∧ ∀ w, w < 10 → mI μn (t + 6 + 2 * i) w = mI μ (t' + 6 + 2 * i) w) := by
  have far := isT_far h h' hne
  intro n
  induction n with
  | zero => intro _; exact ⟨μ, rfl, rfl, fun _ _ _ => rfl, fun i hi => absurd hi (Nat.not_lt_zero i)⟩
  | succ n ih =>
    intro hn
    obtain ⟨μn, h1, h2, h3, h4⟩ := ih (by omega)
    obtain ⟨μ', g1, g2, g3⟩ := y_cor (μ := μn) (tc_cor h (i := n) (by omega)) (tc_cor h' (i := n) (by omega)) (by omega) (by omega) (by omega)
    refine ⟨μ', ?_, g2.trans h2, fun x y hx => ?_, fun i hi => ⟨fun w hw => ?_, fun w hw => ?_⟩⟩
    · rw [h1, Twn_copyFrom_2_eq _ _ _ _ h h', if_neg (show ¬ (10 : Int32) ≤ Int32.ofNat n from le_n (a := 10) (by omega) (by decide)), chk_t (i3_inb (by omega) (by decide)), i3_nat (by omega), eN_1 h, eN_1 h', g1, i3_add1]
      rfl
    · rw [g3]
      simp only
      rw [if_neg (by omega), if_neg (by omega)]
      exact h3 x y (by omega)
    · rw [g3]
      simp only
      by_cases e : i = n
      · subst e
        rw [if_pos ⟨rfl, hw⟩]
        exact h3 _ _ (by omega)
      · rw [if_neg (by omega), if_neg (by omega)]
        exact (h4 i (by omega)).1 w hw
    · rw [g3]
      simp only
      by_cases e : i = n
      · subst e
        rw [if_neg (by omega), if_pos ⟨by omega, hw⟩]
        have e1 : t' + 5 + 2 * i + 1 = t' + 6 + 2 * i := by omega
        rw [e1]
        exact h3 _ _ (by omega)
      · rw [if_neg (by omega), if_neg (by omega)]
        exact (h4 i (by omega)).2 w hw
theorem y_loop2 {t t' : Nat} {μ : PM} (h : isT t) (h' : isT t') (hne : t ≠ t') (hb : ∀ o, o < 5 → mI μ (t' + 25 + o) 1 = 0 ∨ mI μ (t' + 25 + o) 1 = 1) : ∀ n, n ≤ 5 → ∃ μn, Twn_copyFrom_31 t t' 0 μ = Twn_copyFrom_31 t t' (Int32.ofNat n) μn ∧ μn.2 = μ.2 ∧ (∀ x y, (x < t + 25 ∨ t + 25 + n ≤ x) → mI μn x y = mI μ x y) ∧ (∀ i, i < n → ∀ w, w < 8 → mI μn (t + 25 + i) w = mI μ (t' + 25 + i) w) := by
  have far := isT_far h h' hne
  intro n
  induction n with
  | zero => intro _; exact ⟨μ, rfl, rfl, fun _ _ _ => rfl, fun i hi => absurd hi (Nat.not_lt_zero i)⟩
  | succ n ih =>
    intro hn
    obtain ⟨μn, h1, h2, h3, h4⟩ := ih (by omega)
    obtain ⟨μ', g1, g2, g3⟩ := y_org (μ := μn) (tc_org h (i := n) (by omega)) (tc_org h' (i := n) (by omega)) (by omega) (by rw [h3 _ _ (by omega)]; exact hb n (by omega))
    refine ⟨μ', ?_, g2.trans h2, fun x y hx => ?_, fun i hi w hw => ?_⟩
    · rw [h1, Twn_copyFrom_31_eq _ _ _ _ h h', if_neg (show ¬ (5 : Int32) ≤ Int32.ofNat n from le_n (a := 5) (by omega) (by decide)), chk_t (i3_inb (by omega) (by decide)), i3_nat (by omega), eN_2 h, eN_2 h', g1, i3_add1]
      rfl
    · rw [g3]
      simp only
      rw [if_neg (by omega)]
      exact h3 x y (by omega)
    · rw [g3]
      simp only
      by_cases e : i = n
      · subst e
        rw [if_pos ⟨rfl, hw⟩]
        exact h3 _ _ (by omega)
      · rw [if_neg (by omega)]
        exact h4 i (by omega) w hw
theorem y_loop3 {t t' : Nat} {μ : PM} (h : isT t) (h' : isT t') (hne : t ≠ t') : ∀ n, n ≤ 8 → ∃ μn, Twn_copyFrom_59 t t' 0 μ = Twn_copyFrom_59 t t' (Int32.ofNat n) μn ∧ μn.2 = μ.2 ∧ (∀ x y, (x < t + 30 ∨ t + 30 + 2 * n ≤ x) → mI μn x y = mI μ x y) ∧ (∀ i, i < n → (∀ w, w < 4 → mI μn (t + 30 + 2 * i) w = mI μ (t' + 30 + 2 * i) w) ∧ ∀ w, w < 5 → mI μn (t + 31 + 2 * i) w = mI μ (t' + 31 + 2 * i) w) := by
  have far := isT_far h h' hne
  intro n
  induction n with
  | zero => intro _; exact ⟨μ, rfl, rfl, fun _ _ _ => rfl, fun i hi => absurd hi (Nat.not_lt_zero i)⟩
  | succ n ih =>
    intro hn
    obtain ⟨μn, h1, h2, h3, h4⟩ := ih (by omega)
    obtain ⟨μ', g1, g2, g3⟩ := y_ply (μ := μn) (tc_ply h (i := n) (by omega)) (tc_ply h' (i := n) (by omega)) (by omega) (by omega) (by omega)
    refine ⟨μ', ?_, g2.trans h2, fun x y hx => ?_, fun i hi => ⟨fun w hw => ?_, fun w hw => ?_⟩⟩
    · rw [h1, Twn_copyFrom_59_eq _ _ _ _ h h', if_neg (show ¬ (8 : Int32) ≤ Int32.ofNat n from le_n (a := 8) (by omega) (by decide)), chk_t (i3_inb (by omega) (by decide)), i3_nat (by omega), eN_3 h, eN_3 h', g1, i3_add1]
      rfl
    · rw [g3]
      simp only
      rw [if_neg (by omega), if_neg (by omega)]
      exact h3 x y (by omega)
    · rw [g3]
      simp only
      by_cases e : i = n
      · subst e
        rw [if_pos ⟨rfl, hw⟩]
        exact h3 _ _ (by omega)
      · rw [if_neg (by omega), if_neg (by omega)]
        exact (h4 i (by omega)).1 w hw
    · rw [g3]
      simp only
      by_cases e : i = n
      · subst e
        rw [if_neg (by omega), if_pos ⟨by omega, hw⟩]
        have e1 : t' + 30 + 2 * i + 1 = t' + 31 + 2 * i := by omega
        rw [e1]
        exact h3 _ _ (by omega)
      · rw [if_neg (by omega), if_neg (by omega)]
        exact (h4 i (by omega)).2 w hw
theorem tc_len {t : Nat} (h : isT t) : len (t + 4) = 5 := by
  obtain ⟨j, hj, rfl⟩ := h
  exact (by decide +kernel : ∀ j, j < 7 → len (23 + 46 * j + 4) = 5) j hj
/-- the last piece: settings and the town's own fields -/
theorem y_last {t t' : Nat} {μ : PM} (h : isT t) (h' : isT t') (hne : t ≠ t') (hb : mI μ t' 9 = 0 ∨ mI μ t' 9 = 1) : ∃ μn, Twn_copyFrom_59 t t' (Int32.ofNat 8) μ = some (.inl none, μn) ∧ μn.2 = μ.2 ∧ (∀ x y, x ≠ t → x ≠ t + 4 → mI μn x y = mI μ x y) ∧ (∀ w, w < 5 → mI μn (t + 4) w = mI μ (t' + 4) w) ∧ ∀ w, 4 ≤ w → w < 15 → mI μn t w = mI μ t' w := by
  have far := isT_far h h' hne
  have n1 : ¬ t' = t := fun q => hne q.symm
  have n2 : ¬ t' = t + 4 := by omega
  have n3 : ¬ t = t + 4 := by omega
  rw [Twn_copyFrom_59_eq _ _ _ _ h h', if_pos (by decide), chk_t ⟨ft_4 h', ft_4 h, by omega, rfl, rfl, by decide, by rw [tc_len h']; decide, by rw [tc_len h]; decide⟩]
  unfold lt
  dsimp only
  rw [chk_t (by simp only [st_get, cp_get, n1, n2, false_and, if_false]; exact hb)]
  refine ⟨_, rfl, rfl, fun x y hx hx4 => ?_, fun w hw => ?_, fun w h4 hw => ?_⟩
  · simp only [st_get, cp_get, hx, hx4, false_and, if_false]
  · have n4 : ¬ t + 4 = t := by omega
    simp only [st_get, cp_get, n4, false_and, if_false]
    rw [if_pos ⟨trivial, hw⟩]
  · rcases (show w = 4 ∨ w = 5 ∨ w = 6 ∨ w = 7 ∨ w = 8 ∨ w = 9 ∨ w = 10 ∨ w = 11 ∨ w = 12 ∨ w = 13 ∨ w = 14 by omega) with rfl | rfl | rfl | rfl | rfl | rfl | rfl | rfl | rfl | rfl | rfl <;> simp [st_get, cp_get, n1, n2, n3]
end COPYT
