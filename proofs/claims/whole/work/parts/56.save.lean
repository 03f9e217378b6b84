/-! SEMANTICS: the model's saved rows -/
section SAVE
variable {z : Nat → Nat} {μ : PM}
/-- the rows move down by one -/
theorem m_shift {μ : PM} : ∀ n, n ≤ 1065 → ∃ μn, Md_save_11 0 μ = Md_save_11 (Int32.ofNat n) μn ∧ μn.2 = μ.2 ∧ (∀ x, x ≠ 15 → mI μn x = mI μ x) ∧ (∀ k, k < n → mI μn 15 k = mI μ 15 (213 + k)) ∧ (∀ k, n ≤ k → mI μn 15 k = mI μ 15 k) := by
  intro n
  induction n with
  | zero => intro _; exact ⟨μ, rfl, rfl, fun _ _ => rfl, fun k hk => absurd hk (Nat.not_lt_zero k), fun _ _ => rfl⟩
  | succ n ih =>
    intro hn
    obtain ⟨μn, h1, h2, h3, h4, h5⟩ := ih (by omega)
    refine ⟨stI μn 15 n (mI μn 15 (213 + n)), ?_, h2, fun x hx => ?_, fun k hk => ?_, fun k hk => ?_⟩
    · have e : (213 : Int32) + Int32.ofNat n = Int32.ofNat (213 + n) := i3_add 213 n
      rw [h1, Md_save_11_eq, if_neg (show ¬ (1065 : Int32) ≤ Int32.ofNat n from le_n (a := 1065) (by omega) (by decide)), e, chk_t (i3_inb (by omega) (by decide)), chk_t (i3_inb (by omega) (by decide)), i3_nat (by omega), i3_nat (by omega), i3_add1]
    · rw [stI_ne _ _ _ hx, h3 x hx]
    · rw [st_get]
      by_cases e : k = n
      · rw [if_pos ⟨rfl, e⟩, h5 _ (by omega), e]
      · rw [if_neg (fun q => e q.2), h4 k (by omega)]
    · rw [st_get, if_neg (fun q => by omega), h5 k (by omega)]
/-- the state goes behind the last row -/
theorem m_lay {μ : PM} {sv : Nat} (hz : mI μ 13 = zI z) (hs : mI μ 12 14 = Int32.ofNat sv) (h5 : sv < 6) : ∀ n, n ≤ 213 → ∃ μn, Md_save_52 0 μ = Md_save_52 (Int32.ofNat n) μn ∧ μn.2 = μ.2 ∧ (∀ x, x ≠ 15 → mI μn x = mI μ x) ∧ (∀ k, k < n → mI μn 15 (213 * sv + k) = Int32.ofNat (z k)) ∧ (∀ k, (k < 213 * sv ∨ 213 * sv + n ≤ k) → mI μn 15 k = mI μ 15 k) := by
  intro n
  induction n with
  | zero => intro _; exact ⟨μ, rfl, rfl, fun _ _ => rfl, fun k hk => absurd hk (Nat.not_lt_zero k), fun _ _ => rfl⟩
  | succ n ih =>
    intro hn
    obtain ⟨μn, h1, h2, h3, h4, h6⟩ := ih (by omega)
    have hz' : mI μn 13 = zI z := by rw [h3 13 (by decide), hz]
    have hs' : mI μn 12 14 = Int32.ofNat sv := by rw [h3 12 (by decide), hs]
    refine ⟨stI μn 15 (213 * sv + n) (Int32.ofNat (z n)), ?_, h2, fun x hx => ?_, fun k hk => ?_, fun k hk => ?_⟩
    · have e : (213 : Int32) * Int32.ofNat sv + Int32.ofNat n = Int32.ofNat (213 * sv + n) := by
        rw [show (213 : Int32) = Int32.ofNat 213 from rfl, i3_mul, i3_add]
      rw [h1, Md_save_52_eq, if_neg (show ¬ (213 : Int32) ≤ Int32.ofNat n from le_n (a := 213) (by omega) (by decide)), hs', e, chk_t (i3_inb (by omega) (by decide)), chk_t (i3_inb (by omega) (by decide)), i3_nat (by omega), i3_nat (by omega), m_h hz', i3_add1]
    · rw [stI_ne _ _ _ hx, h3 x hx]
    · rw [st_get]
      by_cases e : k = n
      · rw [if_pos ⟨rfl, by omega⟩, e]
      · rw [if_neg (fun q => by omega), h4 k (by omega)]
    · rw [st_get, if_neg (fun q => by omega), h6 k (by omega)]
/-- save: the rows, oldest first, are the last six -/
theorem m_save {μ : PM} {sv : Nat} (hz : mI μ 13 = zI z) (hs : mI μ 12 14 = Int32.ofNat sv) (h6 : sv ≤ 6) : ∃ μ', d_Md_save μ = some (.inl none, μ') ∧ μ'.2 = μ.2 ∧ (∀ x, x ≠ 15 → x ≠ 12 → mI μ' x = mI μ x) ∧ (∀ j, j ≠ 14 → mI μ' 12 j = mI μ 12 j) ∧
    mI μ' 12 14 = Int32.ofNat (if sv = 6 then 6 else sv + 1) ∧
    (∀ k, k < 213 → mI μ' 15 (213 * (if sv = 6 then 5 else sv) + k) = Int32.ofNat (z k)) ∧
    (∀ k, k < 213 * (if sv = 6 then 5 else sv) → mI μ' 15 k = mI μ 15 (if sv = 6 then 213 + k else k)) := by
  have fin : ∀ (μa : PM) (s : Nat), mI μa 13 = zI z → mI μa 12 14 = Int32.ofNat s → s < 6 → ∃ μ', Md_save_52 0 μa = some (.inl none, μ') ∧ μ'.2 = μa.2 ∧ (∀ x, x ≠ 15 → x ≠ 12 → mI μ' x = mI μa x) ∧ (∀ j, j ≠ 14 → mI μ' 12 j = mI μa 12 j) ∧ mI μ' 12 14 = Int32.ofNat (s + 1) ∧ (∀ k, k < 213 → mI μ' 15 (213 * s + k) = Int32.ofNat (z k)) ∧ (∀ k, k < 213 * s → mI μ' 15 k = mI μa 15 k) := by
    intro μa s ha1 ha2 ha3
    obtain ⟨μn, b1, b2, b3, b4, b5⟩ := m_lay ha1 ha2 ha3 213 (Nat.le_refl _)
    have hs' : mI μn 12 14 = Int32.ofNat s := by rw [b3 12 (by decide), ha2]
    refine ⟨stI μn 12 14 (mI μn 12 14 + 1), ?_, b2, fun x hx hx2 => ?_, fun j hj => ?_, ?_, fun k hk => ?_, fun k hk => ?_⟩
    · rw [b1, Md_save_52_eq, if_pos (by decide)]
    · rw [stI_ne _ _ _ hx2, b3 x hx]
    · rw [st_get, if_neg (fun q => hj q.2), b3 12 (by decide)]
    · rw [st_get, if_pos ⟨rfl, rfl⟩, hs', i3_add1]
    · rw [stI_ne _ _ _ (by decide), b4 k hk]
    · rw [stI_ne _ _ _ (by decide), b5 k (Or.inl hk)]
  rw [e_Md_save, hs]
  by_cases h : sv = 6
  · subst h
    obtain ⟨μn, b1, b2, b3, b4, b5⟩ := m_shift (μ := μ) 1065 (Nat.le_refl _)
    have hs' : mI μn 12 14 = Int32.ofNat 6 := by rw [b3 12 (by decide), hs]
    obtain ⟨μ', c1, c2, c3, c4, c5, c6, c7⟩ := fin (stI μn 12 14 (mI μn 12 14 - 1)) 5 (by rw [stI_ne _ _ _ (by decide), b3 13 (by decide), hz]) (by rw [st_get, if_pos ⟨rfl, rfl⟩, hs']; rfl) (by decide)
    refine ⟨μ', ?_, c2.trans b2, fun x hx hx2 => ?_, fun j hj => ?_, ?_, fun k hk => ?_, fun k hk => ?_⟩
    · rw [if_neg (fun q => q rfl), b1, Md_save_11_eq, if_pos (by decide), c1]
    · rw [c3 x hx hx2, stI_ne _ _ _ hx2, b3 x hx]
    · rw [c4 j hj, st_get, if_neg (fun q => hj q.2), b3 12 (by decide)]
    · rw [c5]; rfl
    · exact c6 k hk
    · have hk' : k < 1065 := hk
      rw [c7 k hk', stI_ne _ _ _ (by decide), b4 k hk']
      rfl
  · obtain ⟨μ', c1, c2, c3, c4, c5, c6, c7⟩ := fin μ sv hz hs (by omega)
    refine ⟨μ', ?_, c2, c3, c4, ?_, ?_, fun k hk => ?_⟩
    · rw [if_pos (fun q => h (by rw [show (6 : Int32) = Int32.ofNat 6 from rfl, i3_eq (by omega) (by decide)] at q; exact q)), c1]
    · rw [c5, if_neg h]
    · rw [if_neg h]; exact c6
    · rw [if_neg h] at hk ⊢
      exact c7 k hk
end SAVE
