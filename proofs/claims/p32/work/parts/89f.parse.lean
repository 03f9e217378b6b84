/-! SEMANTICS: the text: numbers, and the class's reading -/
section PARSE
variable {μ : PM}
def lo4 : List (List Nat) := [[108, 111, 116, 115], [119, 101, 116], [100, 114, 121], [110, 101, 120, 116], [48, 58, 97]]
def hi4 : List (List Nat) := [[108, 111, 116, 115], [119, 101, 116], [100, 114, 121], [110, 101, 120, 116], [52, 58, 106]]
def sn4 : List (List Nat) := [[0, 1, 2, 3], [0, 4, 5], [0, 6, 7], [0, 8, 9, 10], [0, 11, 12]]
def loN (k i : Nat) : Nat := (lo4.getD k []).getD i 0
def hiN (k i : Nat) : Nat := (hi4.getD k []).getD i 0
def stN (k i : Nat) : Nat := (sn4.getD k []).getD i 0
def lenK (k : Nat) : Nat := [4, 3, 3, 4, 3].getD k 0
def fitN (k i c : Nat) : Prop := loN k i ≤ c ∧ c ≤ hiN k i
theorem fit_dec (k i c : Nat) : fitN k i c ∨ ¬ fitN k i c := Classical.em _
/-- the kind of an order by its first sign; 5: none -/
def kdN (c : Nat) : Nat := if c = 108 then 0 else if c = 119 then 1 else if c = 100 then 2 else if c = 110 then 3 else if 48 ≤ c ∧ c ≤ 52 then 4 else 5
theorem kd_le {c : Nat} : kdN c ≤ 5 := by
  unfold kdN
  repeat' split
  all_goals omega
theorem kd_fit {c k : Nat} (hk : k < 5) : kdN c = k → fitN k 0 c := by
  unfold kdN fitN loN hiN
  rcases (show k = 0 ∨ k = 1 ∨ k = 2 ∨ k = 3 ∨ k = 4 by omega) with rfl | rfl | rfl | rfl | rfl <;> intro h
  all_goals
    simp [lo4, hi4]
    repeat' split at h
    all_goals omega
theorem kd_no {c k j : Nat} (hj : j < 5) (h : kdN c = k) (hne : j < k) : ¬ fitN j 0 c := by
  unfold kdN at h
  unfold fitN loN hiN
  rcases (show j = 0 ∨ j = 1 ∨ j = 2 ∨ j = 3 ∨ j = 4 by omega) with rfl | rfl | rfl | rfl | rfl
  all_goals
    simp [lo4, hi4]
    repeat' split at h
    all_goals omega
theorem fits_tab : ∀ k, k < 5 → ∀ i, i < lenK k → strLen (420 + 2 * (410 + k - 410) + 0) = Int32.ofNat (lenK k) ∧ strLen (420 + 2 * (410 + k - 410) + 1) = Int32.ofNat (lenK k) ∧ strAt (420 + 2 * (410 + k - 410) + 0) i = Int32.ofNat (loN k i) ∧ strAt (420 + 2 * (410 + k - 410) + 1) i = Int32.ofNat (hiN k i) ∧
    cls (420 + 2 * (410 + k - 410) + 0) = 30 ∧ cls (420 + 2 * (410 + k - 410) + 1) = 30 ∧ (strs.getD ((420 + 2 * (410 + k - 410) + 0) - 420) []).length = lenK k ∧ (strs.getD ((420 + 2 * (410 + k - 410) + 1) - 420) []).length = lenK k ∧ cls (410 + k) = 29 ∧ loN k i < 200 ∧ hiN k i < 200 ∧ lenK k ≤ 4 := by decide +kernel
theorem len_pos : ∀ k, k < 5 → 3 ≤ lenK k ∧ lenK k ≤ 4 := by decide
theorem t_fits {k i c : Nat} (hk : k < 5) (hi : i < lenK k) (hc : c < 2147483648) : ∃ v : Int32, d_Knd_fits (410 + k) (Int32.ofNat i) (Int32.ofNat c) μ = rI v μ ∧ ((v = 1 ∧ fitN k i c) ∨ (v = 0 ∧ ¬ fitN k i c)) := by
  obtain ⟨f1, f2, f3, f4, f5, f6, f7, f8, f9, f10, f11, f12⟩ := fits_tab k hk i hi
  rw [e_Knd_fits _ _ _ _ f9, if_neg (show ¬ Int32.ofNat i < 0 from lt_n (b := 0) (Nat.zero_le _) (by omega)), chk_t f5, f1, if_neg (le_n hi (by omega)), chk_t f6, f2, if_neg (le_n hi (by omega)), i3_nat (by omega), chk_t ⟨f5, by rw [f7]; exact i3_inb hi (by omega)⟩, f3]
  by_cases q1 : c < loN k i
  · rw [if_pos (lt_y q1 (by omega))]
    exact ⟨0, rfl, Or.inr ⟨rfl, fun r => absurd r.1 (by omega)⟩⟩
  · rw [if_neg (lt_n (by omega) hc), chk_t ⟨f6, by rw [f8]; exact i3_inb hi (by omega)⟩, f4]
    by_cases q2 : hiN k i < c
    · rw [if_pos (lt_y q2 hc)]
      exact ⟨0, rfl, Or.inr ⟨rfl, fun r => absurd r.2 (by omega)⟩⟩
    · rw [if_neg (lt_n (by omega) (by omega))]
      exact ⟨1, rfl, Or.inl ⟨rfl, by omega, by omega⟩⟩
theorem t_signCount {k : Nat} (hk : k < 5) : d_Knd_signCount (410 + k) μ = rI (Int32.ofNat (lenK k)) μ := by
  obtain ⟨f1, f2, f3, f4, f5, f6, f7, f8, f9, f10, f11, f12⟩ := fits_tab k hk 0 (by have := len_pos k hk; omega)
  rw [e_Knd_signCount _ _ f9, chk_t f5, f1]
/-- the class's text -/
def TxC (n : Nat) (s : Nat → Nat) (μ : PM) : Prop := n ≤ 60 ∧ mI μ 3 1 = Int32.ofNat n ∧ ∀ i, i < n → mI μ 4 i = Int32.ofNat (s i) ∧ 33 ≤ s i ∧ s i ≤ 126
def TxM (n : Nat) (s : Nat → Nat) (μ : PM) : Prop := n ≤ 60 ∧ mI μ 12 15 = Int32.ofNat n ∧ ∀ i, i < n → mI μ 16 i = Int32.ofNat (s i) ∧ 33 ≤ s i ∧ s i ≤ 126
variable {n : Nat} {s : Nat → Nat}
theorem t_kindAt {st : Nat} (hT : TxC n s μ) (hst : st < n) : (kdN (s st) = 5 ∧ d_Txt_kindAt (Int32.ofNat st) μ = some (.inl (some .null), μ)) ∨ (kdN (s st) < 5 ∧ d_Txt_kindAt (Int32.ofNat st) μ = some (.inl (some (.ref (410 + kdN (s st)))), μ)) := by
  obtain ⟨hn, h31, h4⟩ := hT
  obtain ⟨g1, g2, g3⟩ := h4 st hst
  have hle := kd_le (c := s st)
  have e0 : d_Txt_kindAt (Int32.ofNat st) μ = Txt_kindAt_16 (Int32.ofNat st) 0 μ := by
    rw [e_Txt_kindAt, if_neg (show ¬ Int32.ofNat st < 0 from lt_n (b := 0) (Nat.zero_le _) (by omega)), h31, if_pos (lt_y hst (by omega))]
  have key : ∀ j, j ≤ kdN (s st) → Txt_kindAt_16 (Int32.ofNat st) 0 μ = Txt_kindAt_16 (Int32.ofNat st) (Int32.ofNat j) μ := by
    intro j
    induction j with
    | zero => intro _; rfl
    | succ j ih =>
      intro hj
      obtain ⟨v, f1, f2⟩ := t_fits (μ := μ) (k := j) (i := 0) (c := s st) (by omega) (by have := len_pos j (by omega); omega) (by omega)
      have f1' : d_Knd_fits (410 + j) 0 (Int32.ofNat (s st)) μ = rI v μ := f1
      rw [ih (by omega), Txt_kindAt_16_eq, if_neg (show ¬ (5 : Int32) ≤ Int32.ofNat j from le_n (a := 5) (by omega) (by decide)), chk_t (i3_inb (by omega) (by decide)), chk_t (i3_inb (by omega) (by decide)), i3_nat (by omega), i3_nat (by omega), g1, f1', bI_r, i3_add1]
      rcases f2 with ⟨_, f2⟩ | ⟨rfl, _⟩
      · exact absurd f2 (kd_no (by omega) rfl hj)
      · rw [if_pos rfl]
  have hk := key (kdN (s st)) (Nat.le_refl _)
  by_cases h5 : kdN (s st) = 5
  · refine Or.inl ⟨h5, ?_⟩
    rw [e0, hk, h5, Txt_kindAt_16_eq, if_pos (by decide)]
  · have h6 : kdN (s st) < 5 := by omega
    refine Or.inr ⟨h6, ?_⟩
    obtain ⟨v, f1, f2⟩ := t_fits (μ := μ) (k := kdN (s st)) (i := 0) (c := s st) h6 (by have := len_pos _ h6; omega) (by omega)
    have f1' : d_Knd_fits (410 + kdN (s st)) 0 (Int32.ofNat (s st)) μ = rI v μ := f1
    rw [e0, hk, Txt_kindAt_16_eq, if_neg (show ¬ (5 : Int32) ≤ Int32.ofNat (kdN (s st)) from le_n (a := 5) (by omega) (by decide)), chk_t (i3_inb (by omega) (by decide)), chk_t (i3_inb (by omega) (by decide)), i3_nat (by omega), i3_nat (by omega), g1, f1', bI_r]
    rcases f2 with ⟨rfl, _⟩ | ⟨_, f2⟩
    · rw [if_neg (by decide)]
    · exact absurd (kd_fit h6 rfl) f2
/-- how many signs of an order match -/
noncomputable def mtc (n : Nat) (s : Nat → Nat) (k st : Nat) : Nat → Nat → Nat
  | 0, i => i
  | f + 1, i => @ite _ (st + i < n ∧ fitN k i (s (st + i))) (Classical.propDecidable _) (mtc n s k st f (i + 1)) i
theorem mtc_y {k st f i : Nat} (h : st + i < n ∧ fitN k i (s (st + i))) : mtc n s k st (f + 1) i = mtc n s k st f (i + 1) := if_pos h
theorem mtc_n {k st f i : Nat} (h : ¬ (st + i < n ∧ fitN k i (s (st + i)))) : mtc n s k st (f + 1) i = i := if_neg h
theorem mtc_le {k st : Nat} : ∀ f i, i ≤ mtc n s k st f i ∧ mtc n s k st f i ≤ i + f ∧ (st + i ≤ n → st + mtc n s k st f i ≤ n) := by
  intro f
  induction f with
  | zero => intro i; exact ⟨Nat.le_refl _, Nat.le_refl _, fun h => h⟩
  | succ f ih =>
    intro i
    by_cases h : st + i < n ∧ fitN k i (s (st + i))
    · rw [mtc_y h]
      obtain ⟨a, b, c⟩ := ih (i + 1)
      exact ⟨by omega, by omega, fun _ => c (by omega)⟩
    · rw [mtc_n h]
      exact ⟨Nat.le_refl _, by omega, fun h => h⟩
def ordN (s : Nat → Nat) (k st : Nat) : Nat := if k = 4 then 10 + 10 * (s st - 48) + (s (st + 2) - 97) else k
/-- the reading of a text: where it ends, the state there, the orders -/
noncomputable def prsL (n : Nat) (s : Nat → Nat) : Nat → Nat → Nat × Nat × List Nat
  | 0, _ => (n, 0, [])
  | f + 1, st => if n ≤ st then (n, 0, []) else if kdN (s st) = 5 then (st, 0, []) else
      if mtc n s (kdN (s st)) st (lenK (kdN (s st))) 0 < lenK (kdN (s st)) then (st + mtc n s (kdN (s st)) st (lenK (kdN (s st))) 0, stN (kdN (s st)) (mtc n s (kdN (s st)) st (lenK (kdN (s st))) 0), [])
      else if n ≤ st + lenK (kdN (s st)) then (n, 20, [ordN s (kdN (s st)) st])
      else if s (st + lenK (kdN (s st))) = 59 then ((prsL n s f (st + lenK (kdN (s st)) + 1)).1, (prsL n s f (st + lenK (kdN (s st)) + 1)).2.1, ordN s (kdN (s st)) st :: (prsL n s f (st + lenK (kdN (s st)) + 1)).2.2)
      else (st + lenK (kdN (s st)), 20, [ordN s (kdN (s st)) st])
theorem prs_le : ∀ f st, st ≤ n → (prsL n s f st).1 ≤ n := by
  intro f
  induction f with
  | zero => intro st _; exact Nat.le_refl _
  | succ f ih =>
    intro st h
    unfold prsL
    by_cases h1 : n ≤ st
    · rw [if_pos h1]; exact Nat.le_refl _
    · rw [if_neg h1]
      by_cases h2 : kdN (s st) = 5
      · rw [if_pos h2]; exact h
      · rw [if_neg h2]
        by_cases h3 : mtc n s (kdN (s st)) st (lenK (kdN (s st))) 0 < lenK (kdN (s st))
        · rw [if_pos h3]; exact (mtc_le _ _).2.2 h
        · rw [if_neg h3]
          by_cases h4 : n ≤ st + lenK (kdN (s st))
          · rw [if_pos h4]; exact Nat.le_refl _
          · rw [if_neg h4]
            by_cases h5 : s (st + lenK (kdN (s st))) = 59
            · rw [if_pos h5]; exact ih _ (by omega)
            · rw [if_neg h5]; show st + lenK (kdN (s st)) ≤ n; omega
theorem t_err32 {k st : Nat} {w : Nat} (hT : TxC n s μ) (hk : k < 5) : ∀ j i, i + j = lenK k → st + i ≤ n → Txt_errorIndex_32 (Int32.ofNat st) (410 + k) (Int32.ofNat (st + lenK k)) (Int32.ofNat (st + i)) μ =
    if mtc n s k st j i < lenK k then rI (Int32.ofNat (st + mtc n s k st j i)) μ else if n ≤ st + lenK k then rI (Int32.ofNat n) μ else if s (st + lenK k) = 59 then Txt_errorIndex_2 (Int32.ofNat (st + lenK k + 1)) (.ref (410 + k)) (.int (Int32.ofNat (st + lenK k))) (.int (Int32.ofNat (st + lenK k))) μ else rI (Int32.ofNat (st + lenK k)) μ := by
  obtain ⟨hn, h31, h4⟩ := hT
  obtain ⟨l1, l2⟩ := len_pos k hk
  have hout : ∀ w2 w3 w4, n ≤ st + lenK k → st ≤ 60 → Txt_errorIndex_2 (Int32.ofNat (st + lenK k + 1)) w2 w3 w4 μ = rI (Int32.ofNat n) μ := fun w2 w3 w4 h h60 => by
    rw [Txt_errorIndex_2_eq, h31, if_pos (le_y (by omega) (by omega))]
  intro j
  induction j with
  | zero =>
    intro i hi hst
    have e : i = lenK k := by omega
    subst e
    have em : mtc n s k st 0 (lenK k) = lenK k := rfl
    rw [em, if_neg (Nat.lt_irrefl _), Txt_errorIndex_32_eq, if_pos (le_y (Nat.le_refl _) (by omega)), h31, i3_add1]
    by_cases h1 : n ≤ st + lenK k
    · rw [if_pos (le_y h1 (by omega)), if_pos h1, hout _ _ _ h1 (by omega)]
    · obtain ⟨g1, g2, g3⟩ := h4 (st + lenK k) (by omega)
      rw [if_neg (le_n (by omega) (by omega)), if_neg h1, chk_t (i3_inb (by omega) (by decide)), i3_nat (by omega), g1]
      by_cases h2 : s (st + lenK k) = 59
      · rw [if_pos (show Int32.ofNat (s (st + lenK k)) = 59 by rw [h2]; rfl), if_pos h2]
      · rw [if_neg (fun q => h2 (by rw [show (59 : Int32) = Int32.ofNat 59 from rfl, i3_eq (by omega) (by decide)] at q; exact q)), if_neg h2]
  | succ j ih =>
    intro i hi hst
    rw [Txt_errorIndex_32_eq, if_neg (le_n (by omega) (by omega)), h31]
    by_cases h1 : n ≤ st + i
    · have e : mtc n s k st (j + 1) i = i := mtc_n (fun q => by omega)
      have e2 : st + i = n := by omega
      rw [if_pos (le_y h1 (by omega)), if_pos (le_y (by omega) (by omega)), i3_add1, hout _ _ _ (by omega) (by omega), e, if_pos (by omega), e2]
    · obtain ⟨g1, g2, g3⟩ := h4 (st + i) (by omega)
      have es : Int32.ofNat (st + i) - Int32.ofNat st = Int32.ofNat i := by
        rw [i3_sub (by omega)]
        congr 1
        omega
      obtain ⟨v, f1, f2⟩ := t_fits (μ := μ) (k := k) (i := i) (c := s (st + i)) hk (by omega) (by omega)
      rw [if_neg (le_n (by omega) (by omega)), chk_t (i3_inb (by omega) (by decide)), i3_nat (by omega), g1, es, chk_t (fits_tab k hk 0 (by omega)).2.2.2.2.2.2.2.2.1, f1, bI_r, i3_add1]
      rcases f2 with ⟨rfl, f2⟩ | ⟨rfl, f2⟩
      · rw [if_pos (by decide), mtc_y ⟨by omega, f2⟩]
        exact ih (i + 1) (by omega) (by omega)
      · rw [if_neg (fun q => q rfl), mtc_n (fun q => f2 q.2), if_pos (by omega)]
theorem t_err (hT : TxC n s μ) : ∀ f st, st ≤ n → n - st < f → ∀ w2 w3 w4, Txt_errorIndex_2 (Int32.ofNat st) w2 w3 w4 μ = rI (Int32.ofNat (prsL n s f st).1) μ := by
  have hT0 := hT
  obtain ⟨hn, h31, h4⟩ := hT
  intro f
  induction f with
  | zero => intro st _ h; exact absurd h (Nat.not_lt_zero _)
  | succ f ih =>
    intro st hst hf w2 w3 w4
    rw [Txt_errorIndex_2_eq, h31]
    unfold prsL
    by_cases h1 : n ≤ st
    · rw [if_pos (le_y h1 (by omega)), if_pos h1]
    · rw [if_neg (le_n (by omega) (by omega)), if_neg h1]
      rcases t_kindAt hT0 (show st < n by omega) with ⟨k1, k2⟩ | ⟨k1, k2⟩
      · rw [k2, if_pos k1]
        rfl
      · obtain ⟨l1, l2⟩ := len_pos _ k1
        have e := t_err32 (w := 0) (st := st) hT0 k1 (lenK (kdN (s st))) 0 (by omega) (by omega)
        rw [Nat.add_zero] at e
        rw [k2, if_neg (by omega)]
        show chk (cls (410 + kdN (s st)) = 29) (bI (d_Knd_signCount (410 + kdN (s st)) μ) _) = _
        rw [chk_t (fits_tab _ k1 0 (by omega)).2.2.2.2.2.2.2.2.1, t_signCount k1, bI_r, i3_add, e]
        by_cases h3 : mtc n s (kdN (s st)) st (lenK (kdN (s st))) 0 < lenK (kdN (s st))
        · rw [if_pos h3, if_pos h3]
        · rw [if_neg h3, if_neg h3]
          by_cases h5 : n ≤ st + lenK (kdN (s st))
          · rw [if_pos h5, if_pos h5]
          · rw [if_neg h5, if_neg h5]
            by_cases h6 : s (st + lenK (kdN (s st))) = 59
            · rw [if_pos h6, if_pos h6]
              exact ih _ (by omega) (by omega) _ _ _
            · rw [if_neg h6, if_neg h6]
theorem t_errorIndex (hT : TxC n s μ) : d_Txt_errorIndex μ = rI (Int32.ofNat (prsL n s 61 0).1) μ := by
  have hn := hT.1
  rw [e_Txt_errorIndex]
  exact t_err hT 61 0 (Nat.zero_le _) (by omega) _ _ _
theorem stN_no : ∀ k, k < 5 → ∀ i, i < lenK k → stN k i ≠ 20 := by decide
/-- a whole row, or not -/
theorem t_whole15 (hT : TxC n s μ) : ∀ f st, st ≤ n → n - st < f → (prsL n s f st).1 = n → ∀ w, Txt_isWholeRow_15 (Int32.ofNat st) w μ = rI (if (prsL n s f st).2.1 = 20 then 1 else 0) μ := by
  have hT0 := hT
  obtain ⟨hn, h31, h4⟩ := hT
  have hend : ∀ m w, n ≤ m → m ≤ 70 → Txt_isWholeRow_15 (Int32.ofNat m) w μ = rI (if m = n + 1 then 1 else 0) μ := fun m w h1 h2 => by
    rw [Txt_isWholeRow_15_eq, h31, if_pos (le_y h1 (by omega)), i3_add1]
    by_cases q : m = n + 1
    · rw [if_neg (fun r => r (by rw [q])), if_pos q]
    · rw [if_pos (fun r => q (by rw [i3_eq (by omega) (by omega)] at r; exact r)), if_neg q]
  intro f
  induction f with
  | zero => intro st _ h; exact absurd h (Nat.not_lt_zero _)
  | succ f ih =>
    intro st hst hf hr w
    unfold prsL at hr ⊢
    by_cases h1 : n ≤ st
    · rw [hend st w h1 (by omega), if_neg (by omega), if_pos h1, if_neg (fun r => absurd (show (0 : Nat) = 20 from r) (by decide))]
    · rw [if_neg h1] at hr
      rw [if_neg h1, Txt_isWholeRow_15_eq, h31, if_neg (le_n (by omega) (by omega))]
      rcases t_kindAt hT0 (show st < n by omega) with ⟨k1, k2⟩ | ⟨k1, k2⟩
      · rw [if_pos k1] at hr
        have hr' : st = n := hr
        omega
      · obtain ⟨l1, l2⟩ := len_pos _ k1
        rw [if_neg (show ¬ kdN (s st) = 5 by omega)] at hr
        rw [k2, if_neg (show ¬ kdN (s st) = 5 by omega)]
        show chk (cls (410 + kdN (s st)) = 29) (bI (d_Knd_signCount (410 + kdN (s st)) μ) _) = _
        rw [chk_t (fits_tab _ k1 0 (by omega)).2.2.2.2.2.2.2.2.1, t_signCount k1, bI_r, i3_add1, i3_add, ← Nat.add_assoc]
        by_cases h3 : mtc n s (kdN (s st)) st (lenK (kdN (s st))) 0 < lenK (kdN (s st))
        · rw [if_pos h3] at hr
          have hr' : st + mtc n s (kdN (s st)) st (lenK (kdN (s st))) 0 = n := hr
          rw [hend _ _ (by omega) (by omega), if_neg (by omega), if_pos h3, if_neg (stN_no _ k1 _ h3)]
        · rw [if_neg h3] at hr
          rw [if_neg h3]
          by_cases h5 : n ≤ st + lenK (kdN (s st))
          · have hm := (mtc_le (n := n) (s := s) (k := kdN (s st)) (st := st) (lenK (kdN (s st))) 0).2.2 (by omega)
            have hm2 := (mtc_le (n := n) (s := s) (k := kdN (s st)) (st := st) (lenK (kdN (s st))) 0).2.1
            rw [hend _ _ (by omega) (by omega), if_pos (by omega), if_pos h5, if_pos rfl]
          · rw [if_neg h5] at hr
            rw [if_neg h5]
            by_cases h6 : s (st + lenK (kdN (s st))) = 59
            · rw [if_pos h6] at hr
              rw [if_pos h6]
              exact ih _ (by omega) (by omega) hr _
            · rw [if_neg h6] at hr
              have hr' : st + lenK (kdN (s st)) = n := hr
              omega
end PARSE
