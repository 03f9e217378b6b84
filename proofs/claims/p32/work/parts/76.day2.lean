/-! SEMANTICS: a day's end: what the class reckons -/
section DAY2
variable {z : Nat → Nat} {μ : PM}
theorem uni_add {n : Nat} : ∀ k R (A B : Nat → Nat) p, uni n k R (fun p => A p + B p) p = A p + uni n k R B p := by
  intro k
  induction k with
  | zero => intro R A B p; rfl
  | succ k ih =>
    intro R A B p
    show uni n k (setI R (bst R n) (-1)) (setN (fun p => A p + B p) (bst R n) (A (bst R n) + B (bst R n) + 1)) p = A p + uni n k (setI R (bst R n) (-1)) (setN B (bst R n) (B (bst R n) + 1)) p
    rw [← ih]
    congr 1
    funext q
    show (if q = bst R n then A (bst R n) + B (bst R n) + 1 else A q + B q) = A q + (if q = bst R n then B (bst R n) + 1 else B q)
    by_cases e : q = bst R n
    · rw [if_pos e, if_pos e, e]; omega
    · rw [if_neg e, if_neg e]
theorem sum_le_n {f : Nat → Nat} {m : Nat} : ∀ n, m ≤ n → sum m f ≤ sum n f := by
  intro n
  induction n with
  | zero => intro h; rw [show m = 0 by omega]; exact Nat.le_refl _
  | succ n ih =>
    intro h
    by_cases e : m = n + 1
    · rw [e]; exact Nat.le_refl _
    · exact Nat.le_trans (ih (by omega)) (Nat.le_add_right _ _)
/-- what the payments read -/
def PT (z : Nat → Nat) (μ : PM) : Prop := mI μ 23 5 = Int32.ofNat (z 1) ∧ mI μ 23 6 = Int32.ofNat (z 2) ∧ mI μ 23 9 = Int32.ofNat (z 5) ∧ mI μ 23 14 = Int32.ofNat (z 10) ∧ mI μ 27 4 = Int32.ofNat (z 15) ∧
  (∀ o, o < 5 → mI μ (48 + o) 4 = Int32.ofNat (z (56 + 7 * o + 4))) ∧ ∀ p, p < 8 → ∀ o, o < 5 → mI μ (54 + 2 * p) o = Int32.ofNat (z (123 + 5 * p + o))
def Ed (z : Nat → Nat) : Prop := z 1 ≤ 5 ∧ z 2 ≤ 8 ∧ z 5 ≤ 1 ∧ z 15 ≤ 50 ∧ (∀ p, p < 8 → ∀ o, o < 5 → z (123 + 5 * p + o) ≤ 10) ∧ (∀ o, o < 5 → z (56 + 7 * o + 4) ≤ 900 ∧ (z (56 + 7 * o + 4) ≠ 0 → allH z o ≠ 0)) ∧ z 10 ≤ 2000000000
def FrP (μ μ' : PM) : Prop := μ'.2 = μ.2 ∧ ∀ x, x ≠ 6 → x ≠ 7 → x ≠ 8 → mI μ' x = mI μ x
theorem FrP.rf : FrP μ μ := ⟨rfl, fun _ _ _ _ => rfl⟩
theorem FrP.tr {μ1 μ2 : PM} (h : FrP μ μ1) (h' : FrP μ1 μ2) : FrP μ μ2 := ⟨h'.1.trans h.1, fun x h1 h2 h3 => (h'.2 x h1 h2 h3).trans (h.2 x h1 h2 h3)⟩
theorem FrP.st {μ1 : PM} {k j : Nat} {v : Int32} (h : FrP μ μ1) (hk : k = 6 ∨ k = 7 ∨ k = 8) : FrP μ (stI μ1 k j v) := ⟨h.1, fun x h1 h2 h3 => by rw [stI_ne _ _ _ (by omega)]; exact h.2 x h1 h2 h3⟩
theorem FrP.frC {μ1 : PM} (h : FrP μ μ1) : FrC μ μ1 := ⟨h.1, fun x hx => h.2 x (by omega) (by omega) (by omega)⟩
theorem PT.fr {μ1 : PM} (hP : PT z μ) (h : FrP μ μ1) : PT z μ1 := by
  obtain ⟨p1, p2, p3, p4, p5, p6, p7⟩ := hP
  refine ⟨?_, ?_, ?_, ?_, ?_, fun o ho => ?_, fun p hp o ho => ?_⟩
  · rw [h.2 23 (by decide) (by decide) (by decide)]; exact p1
  · rw [h.2 23 (by decide) (by decide) (by decide)]; exact p2
  · rw [h.2 23 (by decide) (by decide) (by decide)]; exact p3
  · rw [h.2 23 (by decide) (by decide) (by decide)]; exact p4
  · rw [h.2 27 (by decide) (by decide) (by decide)]; exact p5
  · rw [h.2 _ (by omega) (by omega) (by omega)]; exact p6 o ho
  · rw [h.2 _ (by omega) (by omega) (by omega)]; exact p7 p hp o ho
theorem t_units18 {n b : Nat} {x1 x3 : Int32} {R : Nat → Int32} (hn : n ≤ 8) (hR : ∀ p, p < n → mI μ 8 p = R p) : ∀ k p b, p + k = n → b < n → Pay_giveUnits_18 x1 (Int32.ofNat n) x3 (Int32.ofNat b) (Int32.ofNat p) μ = Pay_giveUnits_18 x1 (Int32.ofNat n) x3 (Int32.ofNat (bstN R k p b)) (Int32.ofNat n) μ := by
  intro k
  induction k with
  | zero => intro p b h _; rw [show p = n by omega]; rfl
  | succ k ih =>
    intro p b h hb
    show _ = Pay_giveUnits_18 x1 (Int32.ofNat n) x3 (Int32.ofNat (bstN R k (p + 1) (if R p ≤ R b then b else p))) (Int32.ofNat n) μ
    rw [Pay_giveUnits_18_eq, if_neg (le_n (by omega) (by omega)), chk_t (i3_inb (by omega) (by decide)), chk_t (i3_inb (by omega) (by decide)), i3_nat (by omega), i3_nat (by omega), hR p (by omega), hR b hb, i3_add1]
    by_cases q : R p ≤ R b
    · rw [if_pos q, if_pos q]
      exact ih (p + 1) b (by omega) hb
    · rw [if_neg q, if_neg q]
      exact ih (p + 1) p (by omega) (by omega)
theorem t_units {n : Nat} (hn : n ≤ 8) (h0 : 0 < n) : ∀ (k i : Nat) (R : Nat → Int32) (A : Nat → Nat) (μ : PM) (w4 w5 : Value), i + k ≤ n → (∀ p, p < n → mI μ 8 p = R p) → (∀ p, p < n → mI μ 6 p = Int32.ofNat (A p)) →
    ∃ μ', Pay_giveUnits_2 (Int32.ofNat (i + k)) (Int32.ofNat n) (Int32.ofNat i) w4 w5 μ = some (.inl none, μ') ∧ FrP μ μ' ∧ mI μ' 7 = mI μ 7 ∧ ∀ p, p < n → mI μ' 6 p = Int32.ofNat (uni n k R A p) := by
  intro k
  induction k with
  | zero =>
    intro i R A μ w4 w5 hi hR hA
    exact ⟨μ, by rw [Pay_giveUnits_2_eq, if_pos (le_y (by omega) (by omega))], FrP.rf, rfl, hA⟩
  | succ k ih =>
    intro i R A μ w4 w5 hi hR hA
    have hb := bst_lt (R := R) h0
    have e1 := t_units18 (x1 := Int32.ofNat (i + (k + 1))) (x3 := Int32.ofNat i) (b := 0) hn hR (n - 1) 1 0 (by omega) h0
    have e2 : Pay_giveUnits_18 (Int32.ofNat (i + (k + 1))) (Int32.ofNat n) (Int32.ofNat i) 0 1 μ = _ := e1
    obtain ⟨μ', a1, a2, a3, a4⟩ := ih (i + 1) (setI R (bst R n) (-1)) (setN A (bst R n) (A (bst R n) + 1)) (stI (stI μ 6 (bst R n) (Int32.ofNat (A (bst R n) + 1))) 8 (bst R n) (-1)) (.int (Int32.ofNat (bst R n))) (.int (Int32.ofNat n)) (by omega)
      (fun p hp => by
        rw [st_get]
        by_cases e : p = bst R n
        · rw [if_pos ⟨rfl, e⟩]; exact (if_pos e).symm
        · rw [if_neg (fun q => e q.2), stI_ne _ _ _ (by decide), hR p hp]; exact (if_neg e).symm)
      (fun p hp => by
        rw [stI_ne _ _ _ (by decide), st_get]
        by_cases e : p = bst R n
        · rw [if_pos ⟨rfl, e⟩, e, setN_self]
        · rw [if_neg (fun q => e q.2), setN_ne e, hA p hp])
    refine ⟨μ', ?_, (((FrP.rf.st (by decide)).st (by decide)).tr a2), ?_, a4⟩
    · rw [Pay_giveUnits_2_eq, if_neg (le_n (by omega) (by omega)), if_neg (le_n (by omega) (by omega)), e2, Pay_giveUnits_18_eq, if_pos (le_y (Nat.le_refl _) (by omega))]
      show chk (inb (Int32.ofNat (bst R n)) 8 = true) (Pay_giveUnits_2 (Int32.ofNat (i + (k + 1))) (Int32.ofNat n) (Int32.ofNat i + 1) (.int (Int32.ofNat (bst R n))) (.int (Int32.ofNat n)) (stI (stI μ 6 (Int32.ofNat (bst R n)).toNatClampNeg (mI μ 6 (Int32.ofNat (bst R n)).toNatClampNeg + 1)) 8 (Int32.ofNat (bst R n)).toNatClampNeg (-1))) = _
      rw [chk_t (i3_inb (by omega) (by decide)), i3_nat (by omega), hA _ hb, i3_add1, i3_add1, ← a1]
      congr 2
      omega
    · rw [a3, stI_ne _ _ _ (by decide), stI_ne _ _ _ (by decide)]
theorem allH_le {o : Nat} (hE : Ed z) (ho : o < 5) : allH z o ≤ 80 := by
  have h1 := hE.2.1
  have := sum_le (f := fun p => z (123 + 5 * p + o)) (b := 10) (z 2) (fun i hi => hE.2.2.2.2.1 i (by omega) o ho)
  unfold allH
  omega
theorem i3_ne0 {a : Nat} (h : a < 2147483648) : Int32.ofNat a = 0 ↔ a = 0 := by rw [show (0 : Int32) = Int32.ofNat 0 from rfl, i3_eq h (by decide)]
theorem t_sharePot {o : Nat} {F : Nat → Nat} (hP : PT z μ) (hE : Ed z) (ho : o < 5) (hF : ∀ p, p < z 2 → mI μ 6 p = Int32.ofNat (F p)) : ∃ μ', d_Pay_sharePot (Int32.ofNat o) μ = some (.inl none, μ') ∧ FrP μ μ' ∧ mI μ' 7 = mI μ 7 ∧ ∀ p, p < z 2 → mI μ' 6 p = Int32.ofNat (F p + shr z o p) := by
  obtain ⟨n1, n2, n5, n15, ntm, npt, nfd⟩ := hE
  obtain ⟨hpot, hpa⟩ := npt o ho
  have hal := allH_le (z := z) ⟨n1, n2, n5, n15, ntm, npt, nfd⟩ ho
  have q1 : mI μ (48 + o) 4 = Int32.ofNat (z (56 + 7 * o + 4)) := hP.2.2.2.2.2.1 o ho
  have h16 : Pay_sharePot_16 (Int32.ofNat o) (Int32.ofNat (z (56 + 7 * o + 4))) 0 0 μ = Pay_sharePot_16 (Int32.ofNat o) (Int32.ofNat (z (56 + 7 * o + 4))) (Int32.ofNat (allH z o)) (Int32.ofNat (z 2)) μ := by
    refine loopS (fun i a (_ : Unit) => Pay_sharePot_16 (Int32.ofNat o) (Int32.ofNat (z (56 + 7 * o + 4))) a i μ) (z 2) (fun p => z (123 + 5 * p + o)) () (fun i hi a => ?_)
    show Pay_sharePot_16 _ _ _ _ _ = Pay_sharePot_16 _ _ _ _ _
    have e : 53 + 2 * i + 1 = 54 + 2 * i := by omega
    have et : mI μ (54 + 2 * i) o = Int32.ofNat (z (123 + 5 * i + o)) := hP.2.2.2.2.2.2 i (by omega) o ho
    rw [Pay_sharePot_16_eq, hP.2.1, if_neg (le_n (by omega) (by omega)), chk_t (i3_inb (by omega) (by decide)), chk_t (i3_inb ho (by decide)), i3_nat (by omega), i3_nat (by omega), e, et, i3_add, i3_add1]
  rw [e_Pay_sharePot, chk_t (i3_inb ho (by decide)), i3_nat (by omega), q1, h16, Pay_sharePot_16_eq, hP.2.1, if_pos (le_y (Nat.le_refl _) (by omega))]
  by_cases h0 : z (56 + 7 * o + 4) = 0
  · rw [if_pos ((i3_ne0 (by omega)).mpr h0)]
    refine ⟨μ, rfl, FrP.rf, rfl, fun p hp => ?_⟩
    have e : shr z o p = 0 := if_pos h0
    rw [e]
    exact hF p hp
  · have ha := hpa h0
    have hl := lft_lt ha
    have hq := quo_le ha
    rw [if_neg (fun q => h0 ((i3_ne0 (by omega)).mp q)), if_pos (fun q => ha ((i3_ne0 (by omega)).mp q))]
    have key : ∀ m, m ≤ z 2 → ∃ μ' w, Pay_sharePot_64 (Int32.ofNat o) (Int32.ofNat (z (56 + 7 * o + 4))) (Int32.ofNat (allH z o)) (Int32.ofNat (z (56 + 7 * o + 4))) 0 pU μ = Pay_sharePot_64 (Int32.ofNat o) (Int32.ofNat (z (56 + 7 * o + 4))) (Int32.ofNat (allH z o)) (Int32.ofNat (z (56 + 7 * o + 4) - sum m (quo z o))) (Int32.ofNat m) w μ' ∧ FrP μ μ' ∧ mI μ' 7 = mI μ 7 ∧ (∀ p, p < m → mI μ' 6 p = Int32.ofNat (F p + quo z o p) ∧ mI μ' 8 p = Int32.ofNat (rst z o p)) ∧ ∀ p, m ≤ p → p < z 2 → mI μ' 6 p = Int32.ofNat (F p) := by
      intro m
      induction m with
      | zero => intro _; exact ⟨μ, pU, rfl, FrP.rf, rfl, fun p hp => absurd hp (Nat.not_lt_zero p), fun p _ hp => hF p hp⟩
      | succ m ih =>
        intro hm
        obtain ⟨μ1, w, a1, a2, a3, a4, a5⟩ := ih (by omega)
        have hP1 := hP.fr a2
        have e : 53 + 2 * m + 1 = 54 + 2 * m := by omega
        have et : mI μ1 (54 + 2 * m) o = Int32.ofNat (z (123 + 5 * m + o)) := hP1.2.2.2.2.2.2 m (by omega) o ho
        have htm := ntm m (by omega) o ho
        have hmul : z (56 + 7 * o + 4) * z (123 + 5 * m + o) ≤ 900 * 10 := Nat.mul_le_mul hpot htm
        have ed : Int32.ofNat (z (56 + 7 * o + 4) * z (123 + 5 * m + o)) / Int32.ofNat (allH z o) = Int32.ofNat (quo z o m) := i3_div (by omega) (by omega)
        have er : Int32.ofNat (z (56 + 7 * o + 4) * z (123 + 5 * m + o)) - Int32.ofNat (quo z o m) * Int32.ofNat (allH z o) = Int32.ofNat (rst z o m) := by
          rw [← ed]
          exact i3_rem (by omega) (by omega)
        have hs1 : sum (m + 1) (quo z o) ≤ sum (z 2) (quo z o) := sum_le_n _ hm
        have hs2 : sum (m + 1) (quo z o) = sum m (quo z o) + quo z o m := rfl
        have e8 : z (56 + 7 * o + 4) - sum m (quo z o) - quo z o m = z (56 + 7 * o + 4) - sum (m + 1) (quo z o) := by rw [hs2]; omega
        refine ⟨stI (stI μ1 6 m (Int32.ofNat (F m + quo z o m))) 8 m (Int32.ofNat (rst z o m)), .int (Int32.ofNat (z (56 + 7 * o + 4) * z (123 + 5 * m + o))), ?_, (a2.st (k := 6) (j := m) (v := Int32.ofNat (F m + quo z o m)) (by decide)).st (k := 8) (j := m) (v := Int32.ofNat (rst z o m)) (by decide), ?_, fun p hp => ⟨?_, ?_⟩, fun p h1 h2 => ?_⟩
        · rw [a1, Pay_sharePot_64_eq, hP1.2.1, if_neg (le_n (by omega) (by omega)), chk_t (i3_inb (by omega) (by decide)), chk_t (i3_inb ho (by decide)), chk_t (show ¬ Int32.ofNat (allH z o) = 0 from fun q => ha ((i3_ne0 (by omega)).mp q)), i3_nat (by omega), i3_nat (by omega), e, et, i3_mul, ed, er, i3_sub (by omega), e8, i3_add1, a5 m (Nat.le_refl _) (by omega), i3_add]
        · rw [stI_ne _ _ _ (by decide), stI_ne _ _ _ (by decide), a3]
        · rw [stI_ne _ _ _ (by decide), st_get]
          by_cases q : p = m
          · rw [if_pos ⟨rfl, q⟩, q]
          · rw [if_neg (fun r => q r.2)]
            exact (a4 p (by omega)).1
        · rw [st_get]
          by_cases q : p = m
          · rw [if_pos ⟨rfl, q⟩, q]
          · rw [if_neg (fun r => q r.2), stI_ne _ _ _ (by decide)]
            exact (a4 p (by omega)).2
        · rw [stI_ne _ _ _ (by decide), st_get, if_neg (fun r => by omega)]
          exact a5 p (by omega) h2
    obtain ⟨μ1, w, a1, a2, a3, a4, -⟩ := key (z 2) (Nat.le_refl _)
    have hP1 := hP.fr a2
    obtain ⟨μ2, b1, b2, b3, b4⟩ := t_units n2 (show 0 < z 2 by omega) (lft z o) 0 (fun p => Int32.ofNat (rst z o p)) (fun p => F p + quo z o p) μ1 pU pU (by omega) (fun p hp => (a4 p hp).2) (fun p hp => (a4 p hp).1)
    refine ⟨μ2, ?_, a2.tr b2, b3.trans a3, fun p hp => ?_⟩
    · rw [a1, Pay_sharePot_64_eq, hP1.2.1, if_pos (le_y (Nat.le_refl _) (by omega)), e_Pay_giveUnits]
      rw [Nat.zero_add] at b1
      have b1' : Pay_giveUnits_2 (Int32.ofNat (z (56 + 7 * o + 4) - sum (z 2) (quo z o))) (Int32.ofNat (z 2)) 0 pU pU μ1 = some (.inl none, μ2) := b1
      rw [b1']
      rfl
    · have e : shr z o p = quo z o p + uni (z 2) (lft z o) (fun p => Int32.ofNat (rst z o p)) (fun _ => 0) p := if_neg h0
      rw [b4 p hp, e, ← Nat.add_assoc]
      congr 1
      exact uni_add (lft z o) (fun p => Int32.ofNat (rst z o p)) (fun p => F p + quo z o p) (fun _ => 0) p
theorem t_hoursP {p : Nat} (hP : PT z μ) (hp : p < 8) : d_Ply_hoursOfDay (53 + 2 * p) μ = rI (Int32.ofNat (timS z p)) μ := by
  have hc := c_ply hp
  rw [e_Ply_hoursOfDay _ _ hc]
  refine (loopS (fun i a (_ : Unit) => Ply_hoursOfDay_4 (53 + 2 * p) a i μ) 5 (fun o => z (123 + 5 * p + o)) () (fun i hi a => ?_)).trans ?_
  · show Ply_hoursOfDay_4 _ _ _ _ = Ply_hoursOfDay_4 _ _ _ _
    have e : 53 + 2 * p + 1 = 54 + 2 * p := by omega
    have et : mI μ (54 + 2 * p) i = Int32.ofNat (z (123 + 5 * p + i)) := hP.2.2.2.2.2.2 p hp i hi
    rw [Ply_hoursOfDay_4_eq _ _ _ _ hc, if_neg (show ¬ (5 : Int32) ≤ Int32.ofNat i from le_n (a := 5) hi (by decide)), chk_t (i3_inb hi (by decide)), i3_nat (by omega), e, et, i3_add, i3_add1]
  · show Ply_hoursOfDay_4 _ _ _ _ = _
    rw [Ply_hoursOfDay_4_eq _ _ _ _ hc, if_pos (by decide)]
    rfl
theorem tim_le {p : Nat} (hE : Ed z) (hp : p < 8) : timS z p ≤ 50 := by
  have := sum_le (f := fun o => z (123 + 5 * p + o)) (b := 10) 5 (fun i hi => hE.2.2.2.2.1 p hp i hi)
  unfold timS
  omega
theorem t_allow (hE : Ed z) : ∀ (k p : Nat) (μ : PM), p + k = z 2 → PT z μ → (∀ i, p ≤ i → i < z 2 → mI μ 7 i = Int32.ofNat 0) →
    ∃ μ', Pay_giveAllowances_7 (Int32.ofNat (fndA z p)) (Int32.ofNat p) μ = some (.inl none, μ') ∧ FrP μ μ' ∧ mI μ' 6 = mI μ 6 ∧ (∀ i, i < p → mI μ' 7 i = mI μ 7 i) ∧ ∀ i, p ≤ i → i < z 2 → mI μ' 7 i = Int32.ofNat (getA z i) := by
  intro k
  induction k with
  | zero =>
    intro p μ hp hP h0
    have n2 := hE.2.1
    exact ⟨μ, by rw [Pay_giveAllowances_7_eq, hP.2.1, if_pos (le_y (by omega) (by omega))], FrP.rf, rfl, fun _ _ => rfl, fun i h1 h2 => absurd h2 (by omega)⟩
  | succ k ih =>
    intro p μ hp hP h0
    have n2 := hE.2.1
    have n15 := hE.2.2.2.1
    have nfd := hE.2.2.2.2.2.2
    have ht := tim_le hE (show p < 8 by omega)
    have hf := fndA_le (z := z) p
    rw [Pay_giveAllowances_7_eq, hP.2.1, if_neg (le_n (by omega) (by omega)), chk_t (i3_inb (by omega) (by decide)), i3_nat (by omega), t_hoursP hP (by omega), bI_r, i3_add1]
    by_cases h3 : timS z p < 3
    · have eg : getA z p = min (z 15) (fndA z p) := if_pos h3
      have em : (if Int32.ofNat (fndA z p) < mI μ 27 4 then Int32.ofNat (fndA z p) else mI μ 27 4) = Int32.ofNat (getA z p) := by
        rw [hP.2.2.2.2.1, eg]
        by_cases q : fndA z p < z 15
        · rw [if_pos (lt_y q (by omega)), Nat.min_eq_right (by omega)]
        · rw [if_neg (lt_n (by omega) (by omega)), Nat.min_eq_left (by omega)]
      have hgl := getA_le (z := z) (p := p)
      rw [if_neg (show ¬ (3 : Int32) ≤ Int32.ofNat (timS z p) from le_n (a := 3) h3 (by decide)), em, st_get, if_pos ⟨rfl, rfl⟩, i3_sub hgl]
      obtain ⟨μ', a1, a2, a3, a4, a5⟩ := ih (p + 1) (stI μ 7 p (Int32.ofNat (getA z p))) (by omega) (hP.fr (FrP.rf.st (by decide))) (fun i h1 h2 => by rw [st_get, if_neg (by omega)]; exact h0 i (by omega) h2)
      refine ⟨μ', a1, (FrP.rf.st (by decide)).tr a2, by rw [a3, stI_ne _ _ _ (by decide)], fun i hi => ?_, fun i h1 h2 => ?_⟩
      · rw [a4 i (by omega), st_get, if_neg (by omega)]
      · by_cases q : i = p
        · rw [a4 i (by omega), st_get, if_pos ⟨rfl, q⟩, q]
        · exact a5 i (by omega) h2
    · have eg : getA z p = 0 := if_neg h3
      have ef : fndA z (p + 1) = fndA z p := by rw [fndA_s, eg]; rfl
      rw [if_pos (show (3 : Int32) ≤ Int32.ofNat (timS z p) from le_y (a := 3) (by omega) (by omega)), ← ef]
      obtain ⟨μ', a1, a2, a3, a4, a5⟩ := ih (p + 1) μ (by omega) hP (fun i h1 h2 => h0 i (by omega) h2)
      refine ⟨μ', a1, a2, a3, fun i hi => a4 i (by omega), fun i h1 h2 => ?_⟩
      by_cases q : i = p
      · rw [a4 i (by omega), h0 i h1 h2, q, eg]
      · exact a5 i (by omega) h2
theorem t_reckon (hP : PT z μ) (hE : Ed z) : ∃ μ', d_Pay_reckon μ = some (.inl none, μ') ∧ FrP μ μ' ∧ ∀ p, p < z 2 → mI μ' 6 p = Int32.ofNat (shrS z p) ∧ mI μ' 7 p = Int32.ofNat (getW z p) := by
  have n1 := hE.1
  have n2 := hE.2.1
  have n5 := hE.2.2.1
  have h2 : ∀ n, n ≤ 8 → ∃ μ', Pay_reckon_2 0 μ = Pay_reckon_2 (Int32.ofNat n) μ' ∧ FrP μ μ' ∧ ∀ p, p < n → mI μ' 6 p = Int32.ofNat 0 ∧ mI μ' 7 p = Int32.ofNat 0 := by
    intro n
    induction n with
    | zero => intro _; exact ⟨μ, rfl, FrP.rf, fun p hp => absurd hp (Nat.not_lt_zero p)⟩
    | succ n ih =>
      intro hn
      obtain ⟨μ1, a1, a2, a3⟩ := ih (by omega)
      refine ⟨stI (stI μ1 6 n (Int32.ofNat 0)) 7 n (Int32.ofNat 0), ?_, (a2.st (by decide)).st (by decide), fun p hp => ⟨?_, ?_⟩⟩
      · rw [a1, Pay_reckon_2_eq, if_neg (show ¬ (8 : Int32) ≤ Int32.ofNat n from le_n (a := 8) (by omega) (by decide)), chk_t (i3_inb (by omega) (by decide)), i3_nat (by omega), i3_add1]
        rfl
      · rw [stI_ne _ _ _ (by decide), st_get]
        by_cases q : p = n
        · rw [if_pos ⟨rfl, q⟩]
        · rw [if_neg (fun r => q r.2)]; exact (a3 p (by omega)).1
      · rw [st_get]
        by_cases q : p = n
        · rw [if_pos ⟨rfl, q⟩]
        · rw [if_neg (fun r => q r.2), stI_ne _ _ _ (by decide)]; exact (a3 p (by omega)).2
  obtain ⟨μ1, a1, a2, a3⟩ := h2 8 (Nat.le_refl _)
  have h30 : ∀ n, n ≤ z 1 → ∃ μ', Pay_reckon_30 0 μ1 = Pay_reckon_30 (Int32.ofNat n) μ' ∧ FrP μ μ' ∧ (∀ p, p < z 2 → mI μ' 6 p = Int32.ofNat (sum n (fun o => shr z o p))) ∧ ∀ p, p < z 2 → mI μ' 7 p = Int32.ofNat 0 := by
    intro n
    induction n with
    | zero => intro _; exact ⟨μ1, rfl, a2, fun p hp => (a3 p (by omega)).1, fun p hp => (a3 p (by omega)).2⟩
    | succ n ih =>
      intro hn
      obtain ⟨μ2, b1, b2, b3, b4⟩ := ih (by omega)
      obtain ⟨μ3, c1, c2, c3, c4⟩ := t_sharePot (o := n) (hP.fr b2) hE (by omega) b3
      refine ⟨μ3, ?_, b2.tr c2, fun p hp => c4 p hp, fun p hp => by rw [c3]; exact b4 p hp⟩
      rw [b1, Pay_reckon_30_eq, (hP.fr b2).1, if_neg (le_n (by omega) (by omega)), c1, bV_r, i3_add1]
  obtain ⟨μ2, b1, b2, b3, b4⟩ := h30 (z 1) (Nat.le_refl _)
  have hP2 := hP.fr b2
  have e8 : Pay_reckon_2 0 μ = Pay_reckon_30 (Int32.ofNat (z 1)) μ2 := by
    rw [a1, Pay_reckon_2_eq, if_pos (by decide)]
    exact b1
  rw [e_Pay_reckon, e8, Pay_reckon_30_eq, hP2.1, if_pos (le_y (Nat.le_refl _) (by omega)), hP2.2.2.1]
  by_cases h5 : z 5 = 1
  · obtain ⟨μ3, c1, c2, c3, c4, c5⟩ := t_allow hE (z 2) 0 μ2 (by omega) hP2 (fun i _ hi => b4 i hi)
    rw [if_neg (fun q => by have := (i3_ne0 (by omega)).mp q; omega), e_Pay_giveAllowances, hP2.2.2.2.1]
    have c1' : Pay_giveAllowances_7 (Int32.ofNat (z 10)) 0 μ2 = some (.inl none, μ3) := c1
    rw [c1', bV_r]
    refine ⟨μ3, rfl, b2.tr c2, fun p hp => ⟨by rw [c3]; exact b3 p hp, ?_⟩⟩
    have e : getW z p = getA z p := if_pos h5
    rw [e]
    exact c5 p (Nat.zero_le _) hp
  · rw [if_pos ((i3_ne0 (by omega)).mpr (by omega))]
    refine ⟨μ2, rfl, b2, fun p hp => ⟨b3 p hp, ?_⟩⟩
    have e : getW z p = 0 := if_neg h5
    rw [e]
    exact b4 p hp
end DAY2
