/-! THE LAW'S TEXT: orders as signs, read back -/
section LTEXT
variable {μ μ1 : PM} {n : Nat} {s : Nat → Nat}
def nth : List Nat → Nat → Nat
  | [], _ => 0
  | a :: _, 0 => a
  | _ :: l, i + 1 => nth l i
theorem nth_l {b : List Nat} : ∀ (a : List Nat) (i : Nat), i < a.length → nth (a ++ b) i = nth a i := by
  intro a
  induction a with
  | nil => intro i h; exact absurd h (Nat.not_lt_zero _)
  | cons x a ih =>
    intro i h
    cases i with
    | zero => rfl
    | succ i => exact ih i (by rw [List.length_cons] at h; omega)
theorem nth_r {b : List Nat} : ∀ (a : List Nat) (i : Nat), nth (a ++ b) (a.length + i) = nth b i := by
  intro a
  induction a with
  | nil =>
    intro i
    show nth b (0 + i) = nth b i
    rw [Nat.zero_add]
  | cons x a ih =>
    intro i
    rw [List.length_cons, show a.length + 1 + i = (a.length + i) + 1 by omega]
    exact ih i
/-- the signs of an order -/
def sg (o : Nat) : List Nat := if o = 0 then [108, 111, 116, 115] else if o = 1 then [119, 101, 116] else if o = 2 then [100, 114, 121] else if o = 3 then [110, 101, 120, 116] else [48 + (o - 10) / 10, 58, 97 + (o - 10) % 10]
def txT : List Nat → List Nat
  | [] => []
  | o :: l => 59 :: (sg o ++ txT l)
theorem kd_dig : ∀ a, a < 5 → kdN (48 + a) = 4 := by decide
theorem sg_ok {o : Nat} (h : okO o) : ∃ k, k < 5 ∧ (sg o).length = lenK k ∧ kdN (nth (sg o) 0) = k ∧ (∀ j, j < lenK k → fitN k j (nth (sg o) j)) ∧ ((k = 4 ∧ o = 10 + 10 * (nth (sg o) 0 - 48) + (nth (sg o) 2 - 97)) ∨ (k ≠ 4 ∧ o = k)) := by
  have hf : ∀ k, k < 4 → ∀ j, j < lenK k → loN k j ≤ nth (sg k) j ∧ nth (sg k) j ≤ hiN k j := by decide
  by_cases h3 : o ≤ 3
  · refine ⟨o, by omega, ?_, ?_, fun j hj => hf o (by omega) j hj, Or.inr ⟨by omega, rfl⟩⟩
    · exact (by decide : ∀ o, o < 4 → (sg o).length = lenK o) o (by omega)
    · exact (by decide : ∀ o, o < 4 → kdN (nth (sg o) 0) = o) o (by omega)
  · have h2 : 10 ≤ o ∧ o < 60 := by rcases h with q | q <;> omega
    have e : sg o = [48 + (o - 10) / 10, 58, 97 + (o - 10) % 10] := by
      unfold sg
      rw [if_neg (by omega), if_neg (by omega), if_neg (by omega), if_neg (by omega)]
    rw [e]
    refine ⟨4, by decide, rfl, kd_dig _ (by omega), fun j hj => ?_, Or.inl ⟨rfl, ?_⟩⟩
    · have hj' : j < 3 := hj
      rcases (show j = 0 ∨ j = 1 ∨ j = 2 by omega) with rfl | rfl | rfl
      · show 48 ≤ 48 + (o - 10) / 10 ∧ 48 + (o - 10) / 10 ≤ 52
        omega
      · show 58 ≤ 58 ∧ 58 ≤ 58
        omega
      · show 97 ≤ 97 + (o - 10) % 10 ∧ 97 + (o - 10) % 10 ≤ 106
        omega
    · show o = 10 + 10 * (48 + (o - 10) / 10 - 48) + (97 + (o - 10) % 10 - 97)
      omega
theorem mtc_all {k st : Nat} : ∀ f i, (∀ j, i ≤ j → j < i + f → st + j < n ∧ fitN k j (s (st + j))) → mtc n s k st f i = i + f := by
  intro f
  induction f with
  | zero => intro i _; rfl
  | succ f ih =>
    intro i h
    rw [mtc_y (by exact h i (Nat.le_refl _) (by omega)), ih (i + 1) (fun j h1 h2 => h j (by omega) (by omega))]
    omega
theorem prs_tx : ∀ (l : List Nat) (o f st : Nat), (∀ q, q ∈ o :: l → okO q) → st + (sg o ++ txT l).length = n → (∀ i, i < (sg o ++ txT l).length → s (st + i) = nth (sg o ++ txT l) i) → n - st < f → prsL n s f st = (n, 20, o :: l) := by
  intro l
  induction l with
  | nil =>
    intro o f st hO hn hs hf
    obtain ⟨k, hk, hl, h0, hfit, hord⟩ := sg_ok (hO o List.mem_cons_self)
    have l3 := len_pos k hk
    have ea : sg o ++ txT [] = sg o := List.append_nil _
    rw [ea] at hn hs
    rw [hl] at hn hs
    obtain ⟨g, rfl⟩ : ∃ g, f = g + 1 := ⟨f - 1, by omega⟩
    have e0 : s st = nth (sg o) 0 := by
      have := hs 0 (by omega)
      rw [Nat.add_zero] at this
      exact this
    have hm : mtc n s k st (lenK k) 0 = lenK k := by
      have := mtc_all (n := n) (s := s) (k := k) (st := st) (lenK k) 0 (fun j h1 h2 => ⟨by omega, by rw [hs j (by omega)]; exact hfit j (by omega)⟩)
      rw [this, Nat.zero_add]
    have eo : ordN s k st = o := by
      unfold ordN
      rcases hord with ⟨q1, q2⟩ | ⟨q1, q2⟩
      · rw [if_pos q1, hs 2 (by omega), e0]
        exact q2.symm
      · rw [if_neg q1]
        exact q2.symm
    unfold prsL
    rw [if_neg (by omega), e0, h0, if_neg (by omega), hm, if_neg (Nat.lt_irrefl _), if_pos (by omega), eo]
  | cons o' l ih =>
    intro o f st hO hn hs hf
    obtain ⟨k, hk, hl, h0, hfit, hord⟩ := sg_ok (hO o List.mem_cons_self)
    have l3 := len_pos k hk
    have ea : txT (o' :: l) = 59 :: (sg o' ++ txT l) := rfl
    have hlen : (sg o ++ txT (o' :: l)).length = lenK k + (1 + (sg o' ++ txT l).length) := by rw [List.length_append, ea, List.length_cons, hl]; omega
    rw [hlen] at hn hs
    obtain ⟨g, rfl⟩ : ∃ g, f = g + 1 := ⟨f - 1, by omega⟩
    have hlo : ∀ i, i < lenK k → s (st + i) = nth (sg o) i := fun i hi => by rw [hs i (by omega), nth_l _ _ (by rw [hl]; exact hi)]
    have hhi : ∀ i, i < 1 + (sg o' ++ txT l).length → s (st + (lenK k + i)) = nth (59 :: (sg o' ++ txT l)) i := fun i hi => by
      rw [hs (lenK k + i) (by omega), ← hl, nth_r, ea]
    have e0 : s st = nth (sg o) 0 := by
      have := hlo 0 (by omega)
      rw [Nat.add_zero] at this
      exact this
    have hm : mtc n s k st (lenK k) 0 = lenK k := by
      have := mtc_all (n := n) (s := s) (k := k) (st := st) (lenK k) 0 (fun j h1 h2 => ⟨by omega, by rw [hlo j (by omega)]; exact hfit j (by omega)⟩)
      rw [this, Nat.zero_add]
    have eo : ordN s k st = o := by
      unfold ordN
      rcases hord with ⟨q1, q2⟩ | ⟨q1, q2⟩
      · rw [if_pos q1, hlo 2 (by omega), e0]
        exact q2.symm
      · rw [if_neg q1]
        exact q2.symm
    have e59 : s (st + lenK k) = 59 := by
      have := hhi 0 (by omega)
      rw [Nat.add_zero] at this
      exact this
    have hrec := ih o' g (st + lenK k + 1) (fun q hq => hO q (List.mem_cons_of_mem _ hq)) (by omega) (fun i hi => by
      have := hhi (i + 1) (by omega)
      rw [show st + (lenK k + (i + 1)) = st + lenK k + 1 + i by omega] at this
      exact this) (by omega)
    unfold prsL
    rw [if_neg (by omega), e0, h0, if_neg (by omega), hm, if_neg (Nat.lt_irrefl _), if_neg (by omega), if_pos e59, hrec, eo]
/-- the class's text is the list -/
def TxL (T : List Nat) (μ : PM) : Prop := TxC T.length (nth T) μ
/-- what the text calls leave alone -/
def XFr (μ μ' : PM) : Prop := μ'.2 = μ.2 ∧ ∀ x, x ≠ 3 → x ≠ 4 → mI μ' x = mI μ x
theorem XFr.rf : XFr μ μ := ⟨rfl, fun _ _ _ => rfl⟩
theorem XFr.tr {μ2 : PM} (h : XFr μ μ1) (h' : XFr μ1 μ2) : XFr μ μ2 := ⟨h'.1.trans h.1, fun x a b => (h'.2 x a b).trans (h.2 x a b)⟩
theorem c_clear : d_Oc_clearBuffer μ = rI (mI μ 3 1) (stI μ 3 1 0) ∧ XFr μ (stI μ 3 1 0) ∧ TxL [] (stI μ 3 1 0) :=
  ⟨e_Oc_clearBuffer μ, ⟨rfl, fun x a _ => stI_ne _ _ _ a⟩, Nat.zero_le _, by rw [st_get, if_pos ⟨rfl, rfl⟩]; rfl, fun i hi => absurd hi (Nat.not_lt_zero _)⟩
theorem c_append {T : List Nat} {i : Nat} (hT : TxL T μ) (hn : T.length < 60) (h1 : 33 ≤ i) (h2 : i ≤ 126) : ∃ μ', d_Oc_append (Int32.ofNat i) μ = rI (Int32.ofNat (T.length + 1)) μ' ∧ XFr μ μ' ∧ TxL (T ++ [i]) μ' := by
  obtain ⟨t1, t2, t3⟩ := hT
  have hin : ∀ ν : PM, d_Oc_requireInRange (Int32.ofNat i) 33 126 ν = some (.inl none, ν) := fun ν => reqR_y (a := 33) (n := 126) h1 (by omega) (by decide)
  refine ⟨stI (stI μ 4 T.length (Int32.ofNat i)) 3 1 (Int32.ofNat (T.length + 1)), ?_, ⟨rfl, fun x a b => by rw [stI_ne _ _ _ a, stI_ne _ _ _ b]⟩, ?_, ?_, fun j hj => ?_⟩
  · rw [e_Oc_append, hin, bV_r, t2, if_neg (show ¬ (60 : Int32) ≤ Int32.ofNat T.length from le_n (a := 60) hn (by decide)), reqS_y (by decide), bV_r, t2, chk_t (i3_inb hn (by decide)), i3_nat (by omega), i3_add1]
  · rw [List.length_append]
    exact hn
  · rw [st_get, if_pos ⟨rfl, rfl⟩, List.length_append]
    rfl
  · rw [List.length_append] at hj
    have hj' : j < T.length + 1 := hj
    rw [stI_ne _ _ _ (by decide), st_get]
    by_cases e : j = T.length
    · have en : nth (T ++ [i]) j = i := by
        have := nth_r (b := [i]) T 0
        rw [Nat.add_zero] at this
        rw [e, this]
        rfl
      rw [if_pos ⟨rfl, e⟩, en]
      exact ⟨rfl, h1, h2⟩
    · rw [if_neg (fun q => e q.2), nth_l _ _ (by omega)]
      exact t3 j (by omega)
theorem l_letters {T : List Nat} {a b c d : Nat} (hT : TxL T μ) (hn : T.length < 56) (ha : 33 ≤ a ∧ a ≤ 126) (hb : 33 ≤ b ∧ b ≤ 126) (hc : 33 ≤ c ∧ c ≤ 126) (hd : d = 0 ∨ (33 ≤ d ∧ d ≤ 126)) : ∃ μ', d_Lw_letters (Int32.ofNat a) (Int32.ofNat b) (Int32.ofNat c) (Int32.ofNat d) μ = rI 1 μ' ∧ XFr μ μ' ∧ TxL (T ++ (if d = 0 then [a, b, c] else [a, b, c, d])) μ' := by
  obtain ⟨μ1, a1, a2, a3⟩ := c_append hT (by omega) ha.1 ha.2
  have n1 : (T ++ [a]).length = T.length + 1 := List.length_append
  obtain ⟨μ2, b1, b2, b3⟩ := c_append a3 (by omega) hb.1 hb.2
  have n2 : (T ++ [a] ++ [b]).length = T.length + 1 + 1 := by rw [List.length_append, n1]; rfl
  obtain ⟨μ3, c1, c2, c3⟩ := c_append b3 (by omega) hc.1 hc.2
  have n3 : (T ++ [a] ++ [b] ++ [c]).length = T.length + 1 + 1 + 1 := by rw [List.length_append, n2]; rfl
  have f3 := (a2.tr b2).tr c2
  have le0 : ∀ k : Nat, k < 100 → ¬ Int32.ofNat (k + 1) ≤ 0 := fun k hk => le_n (b := 0) (by omega) (by omega)
  rw [e_Lw_letters, a1, bI_r, if_neg (le0 _ (by omega)), b1, bI_r, if_neg (le0 _ (by omega)), c1, bI_r, if_neg (le0 _ (by omega))]
  by_cases q : d = 0
  · rw [if_pos (show Int32.ofNat d = 0 by rw [q]; rfl), if_pos q]
    refine ⟨μ3, rfl, f3, ?_⟩
    rw [List.append_assoc, List.append_assoc] at c3
    exact c3
  · obtain ⟨μ4, d1, d2, d3⟩ := c_append c3 (i := d) (by omega) (by omega) (by omega)
    rw [if_neg (show ¬ Int32.ofNat d = 0 from fun r => q (by rw [i3_n0 (by omega)] at r; exact r)), d1, bI_r, if_neg (le0 _ (by omega)), if_neg q]
    refine ⟨μ4, rfl, f3.tr d2, ?_⟩
    rw [List.append_assoc, List.append_assoc, List.append_assoc] at d3
    exact d3
end LTEXT
