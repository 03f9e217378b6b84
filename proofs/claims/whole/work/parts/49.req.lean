/-! SEMANTICS: arguments; the answers that only show -/
section REQ
variable {z : Nat → Nat} {μ : PM}
theorem i3_toNat {x : Int32} (h : (0 : Int32) ≤ x) : x = Int32.ofNat x.toNatClampNeg ∧ x.toNatClampNeg < 2147483648 := by
  have h1 : (0 : Int) ≤ x.toInt := Int32.le_iff_toInt_le.mp h
  have h2 := Int32.toInt_lt x
  have h3 : x.toNatClampNeg < 2147483648 := by
    unfold Int32.toNatClampNeg
    omega
  refine ⟨Int32.toInt_inj.mp ?_, h3⟩
  rw [i3_negs h3]
  unfold Int32.toNatClampNeg
  omega
/-- a number within, or not -/
theorem idx (x : Int32) {n : Nat} (hn : n < 2147483648) : (∃ i, i < n ∧ x = Int32.ofNat i) ∨ (x < 0 ∨ (0 ≤ x ∧ Int32.ofNat n ≤ x)) := by
  by_cases h : (0 : Int32) ≤ x
  · obtain ⟨h1, h2⟩ := i3_toNat h
    by_cases h3 : x.toNatClampNeg < n
    · exact Or.inl ⟨_, h3, h1⟩
    · refine Or.inr (Or.inr ⟨h, ?_⟩)
      rw [h1]
      exact le_y (by omega) h2
  · exact Or.inr (Or.inl (Int32.not_le.mp h))
def out (x : Int32) (n : Nat) : Prop := x < 0 ∨ (0 ≤ x ∧ Int32.ofNat n ≤ x)
theorem reqI_y {i n : Nat} (h : i < n) (hn : n < 2147483648) : d_Oc_requireIndex (Int32.ofNat i) (Int32.ofNat n) μ = some (.inl none, μ) := by
  rw [e_Oc_requireIndex, if_neg (show ¬ _ < (0 : Int32) from lt_n (b := 0) (Nat.zero_le _) (by omega)), if_pos (lt_y h hn)]
theorem reqI_n {x : Int32} {n : Nat} (h : out x n) : d_Oc_requireIndex x (Int32.ofNat n) μ = some (.inr 3, exM μ) := by
  rw [e_Oc_requireIndex]
  rcases h with h | ⟨h1, h2⟩
  · rw [if_pos h]
  · rw [if_neg (Int32.not_lt.mpr h1), if_neg (Int32.not_lt.mpr h2)]
theorem reqR_y {i a n : Nat} (ha : a ≤ i) (h : i < n + 1) (hn : n < 2147483647) : d_Oc_requireInRange (Int32.ofNat i) (Int32.ofNat a) (Int32.ofNat n) μ = some (.inl none, μ) := by
  rw [e_Oc_requireInRange, if_neg (lt_n ha (by omega)), if_pos (le_y (by omega) (by omega))]
theorem out_lt {x : Int32} {n : Nat} (hn : n < 2147483647) (h : 0 ≤ x ∧ Int32.ofNat (n + 1) ≤ x) : Int32.ofNat n < x := by
  obtain ⟨h1, h2⟩ := i3_toNat h.1
  have h3 := h.2
  rw [h1] at h3 ⊢
  rw [i3_le (by omega) h2] at h3
  exact lt_y (by omega) h2
theorem reqR_n {x : Int32} {n : Nat} (hn : n < 2147483647) (h : out x (n + 1)) : d_Oc_requireInRange x 0 (Int32.ofNat n) μ = some (.inr 1, exM μ) := by
  rw [e_Oc_requireInRange]
  rcases h with h | h
  · rw [if_pos h]
  · rw [if_neg (Int32.not_lt.mpr h.1), if_neg (Int32.not_le.mpr (out_lt hn h))]
theorem with_y {i a n : Nat} (ha : a ≤ i) (h : i < n + 1) (hn : n < 2147483647) : d_Md_within (Int32.ofNat i) (Int32.ofNat a) (Int32.ofNat n) μ = rI 1 μ := by
  rw [e_Md_within, if_neg (lt_n ha (by omega)), if_neg (lt_n (by omega) (by omega))]
theorem with_n {x : Int32} {n : Nat} (hn : n < 2147483647) (h : out x (n + 1)) : d_Md_within x 0 (Int32.ofNat n) μ = rI 0 μ := by
  rw [e_Md_within]
  rcases h with h | h
  · rw [if_pos h]
  · rw [if_neg (Int32.not_lt.mpr h.1), if_pos (out_lt hn h)]
theorem isX_y {i n : Nat} (h : i < n) (hn : n < 2147483648) : d_Md_within (Int32.ofNat i) 0 (Int32.ofNat n - 1) μ = rI 1 μ := by
  obtain ⟨m, rfl⟩ : ∃ m, n = m + 1 := ⟨n - 1, by omega⟩
  show d_Md_within _ _ (pm (m + 1)) _ = _
  rw [pm_succ]
  exact with_y (a := 0) (Nat.zero_le _) h (by omega)
theorem isX_n {x : Int32} {n : Nat} (hn : n < 2147483648) (h : out x n) : d_Md_within x 0 (Int32.ofNat n - 1) μ = rI 0 μ := by
  cases n with
  | zero =>
    rw [e_Md_within]
    rcases h with h | h
    · rw [if_pos h]
    · rw [if_neg (Int32.not_lt.mpr h.1), if_pos]
      show pm 0 < x
      rw [pm_zero]
      have h1 := Int32.le_iff_toInt_le.mp h.1
      have e0 : (0 : Int32).toInt = 0 := rfl
      have e1 : (-1 : Int32).toInt = -1 := rfl
      rw [Int32.lt_iff_toInt_lt, e1]
      omega
  | succ m =>
    show d_Md_within _ _ (pm (m + 1)) _ = _
    rw [pm_succ]
    exact with_n (by omega) h
theorem m_isOrgan_y {i : Nat} (hz : mI μ 13 = zI z) (hb : Bd z) (h : i < z 1) : d_Md_isOrgan (Int32.ofNat i) μ = rI 1 μ := by
  have := hb.no
  rw [e_Md_isOrgan, m_h hz, isX_y h (by omega), bI_r, chk_t (Or.inr rfl)]
theorem m_isOrgan_n {x : Int32} (hz : mI μ 13 = zI z) (hb : Bd z) (h : out x (z 1)) : d_Md_isOrgan x μ = rI 0 μ := by
  have := hb.no
  rw [e_Md_isOrgan, m_h hz, isX_n (by omega) h, bI_r, chk_t (Or.inl rfl)]
theorem m_isCorner_y {i : Nat} (hz : mI μ 13 = zI z) (hb : Bd z) (h : i < z 0) : d_Md_isCorner (Int32.ofNat i) μ = rI 1 μ := by
  have := hb.nc
  rw [e_Md_isCorner, m_h hz, isX_y h (by omega), bI_r, chk_t (Or.inr rfl)]
theorem m_isCorner_n {x : Int32} (hz : mI μ 13 = zI z) (hb : Bd z) (h : out x (z 0)) : d_Md_isCorner x μ = rI 0 μ := by
  have := hb.nc
  rw [e_Md_isCorner, m_h hz, isX_n (by omega) h, bI_r, chk_t (Or.inl rfl)]
theorem m_isPlayer_y {i : Nat} (hz : mI μ 13 = zI z) (hb : Bd z) (h : i < z 2) : d_Md_isPlayer (Int32.ofNat i) μ = rI 1 μ := by
  have := hb.np
  rw [e_Md_isPlayer, m_h hz, isX_y h (by omega), bI_r, chk_t (Or.inr rfl)]
theorem m_isPlayer_n {x : Int32} (hz : mI μ 13 = zI z) (hb : Bd z) (h : out x (z 2)) : d_Md_isPlayer x μ = rI 0 μ := by
  have := hb.np
  rw [e_Md_isPlayer, m_h hz, isX_n (by omega) h, bI_r, chk_t (Or.inl rfl)]
theorem hz_t {v : Int32} (hz : mI μ 13 = zI z) : mI (stI μ 12 16 v) 13 = zI z := by rw [stI_ne _ _ _ (by decide), hz]
/-- what an answer of the class and of the model come to: the same number, or the same exception -/
def Ans (c : Option PO) (m : PM → Option PO) (μ : PM) (code : Nat → Option Int32) : Prop :=
  (∃ v : Int32, c = rI v μ ∧ ∀ μ', mI μ' 13 = mI μ 13 → mI μ' 12 14 = mI μ 12 14 → m μ' = rI v (stI μ' 12 16 0)) ∨
  (∃ (k : Nat) (w : Int32), code k = some w ∧ w ≠ 0 ∧ c = some (.inr k, exM μ) ∧ ∀ μ', mI μ' 13 = mI μ 13 → mI μ' 12 14 = mI μ 12 14 → m μ' = rI 0 (stI (stI μ' 12 16 0) 12 16 w))
theorem a_setting {x : Int32} (hr : RT 23 z μ) (hz : mI μ 13 = zI z) (hb : Bd z) : Ans (d_Oc_setting x μ) (d_Md_setting x) μ (fun k => if k = 3 then some 1 else none) := by
  rcases idx x (n := 5) (by decide) with ⟨i, hi, rfl⟩ | h
  · refine Or.inl ⟨Int32.ofNat (z (11 + i)), ?_, fun μ' h13 _ => ?_⟩
    · rw [e_Oc_setting, show (5 : Int32) = Int32.ofNat 5 from rfl, reqI_y hi (by decide)]
      show chk _ _ = _
      rw [chk_t (i3_inb hi (by decide)), i3_nat (by omega), r_set hr hi]
    · have hz' : mI μ' 13 = zI z := h13.trans hz
      rw [e_Md_setting, show (0 : Int32) = Int32.ofNat 0 from rfl, show (4 : Int32) = Int32.ofNat 4 from rfl, with_y (Nat.zero_le _) hi (by decide), bI_r, if_neg (by decide), show (11 : Int32) = Int32.ofNat 11 from rfl, i3_add, chk_t (i3_inb (by omega) (by decide)), i3_nat (by omega), m_h (hz_t hz')]
  · refine Or.inr ⟨3, 1, rfl, by decide, ?_, fun μ' h13 _ => ?_⟩
    · rw [e_Oc_setting, show (5 : Int32) = Int32.ofNat 5 from rfl, reqI_n h]
      rfl
    · rw [e_Md_setting, show (4 : Int32) = Int32.ofNat 4 from rfl, with_n (by decide) h, bI_r, if_pos rfl, e_Md_fails]
      rfl
end REQ
