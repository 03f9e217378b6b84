/-! SEMANTICS: what corners, organs, players show; counts -/
section ANS2
variable {z : Nat → Nat} {μ : PM}
theorem whoP_none {c : Nat} : ∀ n, (∀ i, i < n → z (56 + 7 * i + 3) ≠ c + 1) → whoP z c n = 0 := by
  intro n
  induction n with
  | zero => intro _; rfl
  | succ n ih =>
    intro h
    have h1 := ih (fun i hi => h i (by omega))
    have h2 := h n (by omega)
    show (if whoP z c n ≠ 0 then whoP z c n else if z (56 + 7 * n + 3) = c + 1 then n + 1 else 0) = 0
    rw [if_neg (fun q => q h1), if_neg h2]
theorem whoP_first {c m : Nat} (hm : z (56 + 7 * m + 3) = c + 1) (hn : ∀ i, i < m → z (56 + 7 * i + 3) ≠ c + 1) : ∀ n, m < n → whoP z c n = m + 1 := by
  intro n
  induction n with
  | zero => intro h; omega
  | succ n ih =>
    intro h
    show (if whoP z c n ≠ 0 then whoP z c n else if z (56 + 7 * n + 3) = c + 1 then n + 1 else 0) = m + 1
    by_cases h1 : m < n
    · rw [ih h1, if_pos (by omega)]
    · have e : n = m := by omega
      subst e
      rw [if_neg (fun q => q (whoP_none n hn)), if_pos hm]
theorem whoP_some {c : Nat} : ∀ n, whoP z c n ≠ 0 → z (56 + 7 * (whoP z c n - 1) + 3) = c + 1 := by
  intro n
  induction n with
  | zero => intro h; exact absurd rfl h
  | succ n ih =>
    intro h
    have e : whoP z c (n + 1) = if whoP z c n ≠ 0 then whoP z c n else if z (56 + 7 * n + 3) = c + 1 then n + 1 else 0 := rfl
    by_cases h1 : whoP z c n = 0
    · rw [if_neg (fun q => q h1)] at e
      by_cases h2 : z (56 + 7 * n + 3) = c + 1
      · rw [if_pos h2] at e
        rw [e, Nat.add_sub_cancel]
        exact h2
      · rw [if_neg h2] at e
        exact absurd e h
    · rw [if_pos h1] at e
      rw [e]
      exact ih h1
theorem t_organAt {c : Nat} (hr : RT 23 z μ) (hb : Bd z) (hc : c < 10) : d_Twn_organAt (Int32.ofNat c) μ = rI (pm (whoP z c (z 1))) μ := by
  have hn := hb.no
  rw [e_Twn_organAt]
  have key : ∀ k m, m + k = z 1 → (∀ i, i < m → z (56 + 7 * i + 3) ≠ c + 1) → Twn_organAt_2 (Int32.ofNat c) (Int32.ofNat m) μ = rI (pm (whoP z c (z 1))) μ := by
    intro k
    induction k with
    | zero =>
      intro m hm hi
      rw [Twn_organAt_2_eq, r_f5 hr, if_pos (le_y (by omega) (by omega)), whoP_none _ (fun i h => hi i (by omega)), pm_zero]
    | succ k ih =>
      intro m hm hi
      have hbg := hb.big (56 + 7 * m + 3) (by omega)
      rw [Twn_organAt_2_eq, r_f5 hr, if_neg (le_n (by omega) (by omega)), chk_t (i3_inb (by omega) (by decide)), i3_nat (by omega), r_at hr (by omega), i3_add1]
      by_cases h : z (56 + 7 * m + 3) = c + 1
      · rw [if_neg (fun q => q ((pm_eq (by omega) (by omega)).mpr h)), whoP_first h hi _ (by omega), pm_succ]
      · rw [if_pos (fun q => h ((pm_eq (by omega) (by omega)).mp q))]
        refine ih (m + 1) (by omega) (fun i h9 => ?_)
        by_cases e : i = m
        · rw [e]; exact h
        · exact hi i (by omega)
  exact key (z 1) 0 (by omega) (fun i hi => absurd hi (Nat.not_lt_zero i))
/-- no two organs at one corner -/
def Dj (z : Nat → Nat) : Prop := ∀ o e, o < 5 → e < 5 → z (56 + 7 * o + 3) ≠ 0 → z (56 + 7 * o + 3) = z (56 + 7 * e + 3) → o = e
theorem plaS_eq {c : Nat} (hb : Bd z) (hd : Dj z) : plN z c 0 10 = plaS z c := by
  have hn := hb.no
  have hw := whoP_le (z := z) (c := c) (z 1)
  refine Nat.eq_of_testBit_eq fun t => ?_
  rw [Bool.eq_iff_iff, plN_bit]
  unfold plaS
  by_cases h : whoP z c (z 1) = 0
  · rw [if_pos h, Nat.zero_testBit]
    refine ⟨?_, fun q => by cases q⟩
    rintro ⟨i, _, h2⟩
    obtain ⟨o, h3, h4, -⟩ := noted_bit.mp h2
    exfalso
    have : ∀ m, m ≤ z 1 → (∀ i, i < m → z (56 + 7 * i + 3) ≠ c + 1) := by
      intro m
      induction m with
      | zero => intro _ i hi; omega
      | succ m ih =>
        intro hm i hi
        have h0 := ih (by omega)
        by_cases e : i = m
        · subst e
          intro q
          rw [whoP_first q h0 _ (by omega)] at h
          cases h
        · exact h0 i (by omega)
    exact this _ (Nat.le_refl _) o h3 h4
  · rw [if_neg h, tunN_bit]
    have ha := whoP_some (z := z) (c := c) (z 1) h
    constructor
    · rintro ⟨i, h1, h2⟩
      obtain ⟨o, h3, h4, h5⟩ := noted_bit.mp h2
      have : o = whoP z c (z 1) - 1 := hd o _ (by omega) (by omega) (by omega) (by rw [h4, ha])
      rw [← this]
      exact Or.inr ⟨i, h1, h5⟩
    · rintro (q | ⟨i, h1, h2⟩)
      · rw [Nat.zero_testBit] at q; cases q
      · exact ⟨i, h1, noted_bit.mpr ⟨_, by omega, ha, h2⟩⟩
end ANS2
