/-! SEMANTICS: a day's end: what the model does -/
section DAY3
variable {z : Nat → Nat} {μ : PM}
theorem ix_g {p : Nat} : (91 + 4 * Int32.ofNat p) + 1 = Int32.ofNat (91 + 4 * p + 1) := by
  rw [show (91 : Int32) = Int32.ofNat 91 from rfl, show (4 : Int32) = Int32.ofNat 4 from rfl, show (1 : Int32) = Int32.ofNat 1 from rfl, i3_mul, i3_add, i3_add]
theorem ix_f {p : Nat} : (91 + 4 * Int32.ofNat p) + 2 = Int32.ofNat (91 + 4 * p + 2) := by
  rw [show (91 : Int32) = Int32.ofNat 91 from rfl, show (4 : Int32) = Int32.ofNat 4 from rfl, show (2 : Int32) = Int32.ofNat 2 from rfl, i3_mul, i3_add, i3_add]
theorem ix_p {o : Nat} : (56 + 7 * Int32.ofNat o) + 4 = Int32.ofNat (56 + 7 * o + 4) := by
  rw [show (56 : Int32) = Int32.ofNat 56 from rfl, show (7 : Int32) = Int32.ofNat 7 from rfl, show (4 : Int32) = Int32.ofNat 4 from rfl, i3_mul, i3_add, i3_add]
/-- what a day's end leaves alone -/
def FrE (μ μ' : PM) : Prop := FrM μ μ' ∧ mI μ' 14 = mI μ 14
theorem FrE.rf : FrE μ μ := ⟨FrM.rf, rfl⟩
theorem FrE.tr {μ1 μ2 : PM} (h : FrE μ μ1) (h' : FrE μ1 μ2) : FrE μ μ2 := ⟨h.1.tr h'.1, h'.2.trans h.2⟩
theorem FrE.s13 {μ1 : PM} {j : Nat} {v : Int32} (h : FrE μ μ1) : FrE μ (stI μ1 13 j v) := ⟨h.1.s13, by rw [stI_ne _ _ _ (by decide), h.2]⟩
theorem FrE.s18 {μ1 : PM} {j : Nat} {v : Int32} (h : FrE μ μ1) : FrE μ (stI μ1 18 j v) := ⟨h.1.st (by decide) ⟨fun q => absurd q (by decide), fun q => absurd q (by decide)⟩, by rw [stI_ne _ _ _ (by decide), h.2]⟩
theorem m_units139 {n b : Nat} {x1 x2 x3 x4 : Int32} {R : Nat → Int32} (h2 : mI μ 13 2 = Int32.ofNat n) (hn : n ≤ 8) (hR : ∀ p, p < n → mI μ 18 p = R p) : ∀ k p b, p + k = n → b < n → Md_sharePot_139 x1 x2 x3 x4 (Int32.ofNat b) (Int32.ofNat p) μ = Md_sharePot_139 x1 x2 x3 x4 (Int32.ofNat (bstN R k p b)) (Int32.ofNat n) μ := by
  intro k
  induction k with
  | zero => intro p b h _; rw [show p = n by omega]; rfl
  | succ k ih =>
    intro p b h hb
    show _ = Md_sharePot_139 x1 x2 x3 x4 (Int32.ofNat (bstN R k (p + 1) (if R p ≤ R b then b else p))) (Int32.ofNat n) μ
    rw [Md_sharePot_139_eq, h2, if_neg (le_n (by omega) (by omega)), chk_t (i3_inb (by omega) (by decide)), chk_t (i3_inb (by omega) (by decide)), i3_nat (by omega), i3_nat (by omega), hR p (by omega), hR b hb, i3_add1]
    by_cases q : R p ≤ R b
    · rw [if_pos q, if_pos q]
      exact ih (p + 1) b (by omega) hb
    · rw [if_neg q, if_neg q]
      exact ih (p + 1) p (by omega) (by omega)
/-- the units given out -/
def uZ (z : Nat → Nat) (n k : Nat) (R : Nat → Int32) : Nat → Nat := fun j => if 91 ≤ j ∧ j < 91 + 4 * n ∧ (j - 91) % 4 = 1 then uni n k R (fun p => z (91 + 4 * p + 1)) ((j - 91) / 4) else z j
theorem m_units128 {n o : Nat} {x2 x3 : Int32} (hn : n ≤ 8) (h0 : 0 < n) (ho : o < 5) : ∀ (k : Nat) (R : Nat → Int32) (z : Nat → Nat) (μ : PM) (x5 : Int32) (w6 : Value), k < 1000 → mI μ 13 = zI z → z 2 = n → (∀ p, p < n → mI μ 18 p = R p) →
    ∃ μ', Md_sharePot_128 (Int32.ofNat o) x2 x3 (Int32.ofNat k) x5 w6 μ = some (.inl none, μ') ∧ FrE μ μ' ∧ mI μ' 13 = zI (setN (uZ z n k R) (56 + 7 * o + 4) 0) := by
  intro k
  induction k with
  | zero =>
    intro R z μ x5 w6 _ hz h2 hR
    refine ⟨stI μ 13 (56 + 7 * o + 4) (Int32.ofNat 0), ?_, FrE.rf.s13, ?_⟩
    · rw [Md_sharePot_128_eq, if_pos (show Int32.ofNat 0 ≤ 0 by decide), ix_p, chk_t (i3_inb (by omega) (by decide)), i3_nat (by omega)]
      rfl
    · rw [zI_set hz]
      congr 2
      funext j
      unfold uZ
      by_cases q : 91 ≤ j ∧ j < 91 + 4 * n ∧ (j - 91) % 4 = 1
      · rw [if_pos q]
        show z j = z (91 + 4 * ((j - 91) / 4) + 1)
        congr 1
        omega
      · rw [if_neg q]
  | succ k ih =>
    intro R z μ x5 w6 hk hz h2 hR
    have hb := bst_lt (R := R) h0
    have e13 : mI μ 13 2 = Int32.ofNat n := by rw [m_h hz, h2]
    have e1 := m_units139 (x1 := Int32.ofNat o) (x2 := x2) (x3 := x3) (x4 := Int32.ofNat (k + 1)) (b := 0) e13 hn hR (n - 1) 1 0 (by omega) h0
    have e2 : Md_sharePot_139 (Int32.ofNat o) x2 x3 (Int32.ofNat (k + 1)) 0 1 μ = Md_sharePot_139 (Int32.ofNat o) x2 x3 (Int32.ofNat (k + 1)) (Int32.ofNat (bst R n)) (Int32.ofNat n) μ := e1
    have hz' : mI (stI μ 13 (91 + 4 * bst R n + 1) (Int32.ofNat (z (91 + 4 * bst R n + 1) + 1))) 13 = zI (setN z (91 + 4 * bst R n + 1) (z (91 + 4 * bst R n + 1) + 1)) := zI_set hz
    obtain ⟨μ', a1, a2, a3⟩ := ih (setI R (bst R n) (-1)) (setN z (91 + 4 * bst R n + 1) (z (91 + 4 * bst R n + 1) + 1)) (stI (stI μ 13 (91 + 4 * bst R n + 1) (Int32.ofNat (z (91 + 4 * bst R n + 1) + 1))) 18 (bst R n) (-1)) (Int32.ofNat (bst R n)) (.int (Int32.ofNat n)) (by omega)
      (by rw [stI_ne _ _ _ (by decide)]; exact hz') (by rw [setN_ne (by omega)]; exact h2)
      (fun p hp => by
        rw [st_get]
        by_cases e : p = bst R n
        · rw [if_pos ⟨rfl, e⟩]; exact (if_pos e).symm
        · rw [if_neg (fun q => e q.2), stI_ne _ _ _ (by decide), hR p hp]; exact (if_neg e).symm)
    refine ⟨μ', ?_, FrE.rf.s13.s18.tr a2, ?_⟩
    · have e3 : Int32.ofNat (k + 1) + (-1) = Int32.ofNat k := by
        rw [← Int32.sub_eq_add_neg]
        exact i3_sub (b := 1) (by omega)
      rw [Md_sharePot_128_eq, if_neg (show ¬ Int32.ofNat (k + 1) ≤ 0 from le_n (b := 0) (by omega) (by omega)), e2, Md_sharePot_139_eq, e13, if_pos (le_y (Nat.le_refl _) (by omega)), ix_g, chk_t (i3_inb (by omega) (by decide)), chk_t (i3_inb (by omega) (by decide)), i3_nat (by omega), i3_nat (by omega), m_h hz, i3_add1, e3]
      exact a1
    · rw [a3]
      congr 2
      funext j
      unfold uZ
      by_cases q : 91 ≤ j ∧ j < 91 + 4 * n ∧ (j - 91) % 4 = 1
      · rw [if_pos q, if_pos q]
        show uni n k (setI R (bst R n) (-1)) (fun p => setN z (91 + 4 * bst R n + 1) (z (91 + 4 * bst R n + 1) + 1) (91 + 4 * p + 1)) ((j - 91) / 4) = uni n k (setI R (bst R n) (-1)) (setN (fun p => z (91 + 4 * p + 1)) (bst R n) (z (91 + 4 * bst R n + 1) + 1)) ((j - 91) / 4)
        congr 1
        funext p
        by_cases e : p = bst R n
        · rw [e, setN_self, setN_self]
        · rw [setN_ne (by omega), setN_ne e]
      · rw [if_neg q, if_neg q, setN_ne (by omega)]
/-- the state with an organ's pot shared -/
def shZ (z : Nat → Nat) (o : Nat) : Nat → Nat := fun j => if j = 56 + 7 * o + 4 then 0 else if 91 ≤ j ∧ j < 91 + 4 * z 2 ∧ (j - 91) % 4 = 1 then z j + shr z o ((j - 91) / 4) else z j
/-- .. with the whole parts -/
def quZ (z : Nat → Nat) (o m : Nat) : Nat → Nat := fun j => if 91 ≤ j ∧ j < 91 + 4 * m ∧ (j - 91) % 4 = 1 then z j + quo z o ((j - 91) / 4) else z j
theorem m_sharePot {o : Nat} (hz : mI μ 13 = zI z) (hE : Ed z) (ho : o < 5) : ∃ μ', d_Md_sharePot (Int32.ofNat o) μ = some (.inl none, μ') ∧ FrE μ μ' ∧ mI μ' 13 = zI (shZ z o) := by
  have hal := allH_le hE ho
  obtain ⟨n1, n2, n5, n15, ntm, npt, nfd⟩ := hE
  obtain ⟨hpot, hpa⟩ := npt o ho
  have h12 : Md_sharePot_12 (Int32.ofNat o) (Int32.ofNat (z (56 + 7 * o + 4))) 0 0 μ = Md_sharePot_12 (Int32.ofNat o) (Int32.ofNat (z (56 + 7 * o + 4))) (Int32.ofNat (allH z o)) (Int32.ofNat (z 2)) μ := by
    refine loopS (fun i a (_ : Unit) => Md_sharePot_12 (Int32.ofNat o) (Int32.ofNat (z (56 + 7 * o + 4))) a i μ) (z 2) (fun p => z (123 + 5 * p + o)) () (fun i hi a => ?_)
    show Md_sharePot_12 _ _ _ _ _ = Md_sharePot_12 _ _ _ _ _
    rw [Md_sharePot_12_eq, m_h hz, if_neg (le_n (by omega) (by omega)), m_timeAt hz (by omega) ho, bI_r, i3_add, i3_add1]
  rw [e_Md_sharePot, m_organ0_4 hz ho, bI_r, h12, Md_sharePot_12_eq, m_h hz, if_pos (le_y (Nat.le_refl _) (by omega))]
  by_cases h0 : z (56 + 7 * o + 4) = 0
  · rw [if_pos ((i3_ne0 (by omega)).mpr h0)]
    refine ⟨μ, rfl, FrE.rf, ?_⟩
    rw [hz]
    congr 1
    funext j
    unfold shZ
    by_cases q : j = 56 + 7 * o + 4
    · rw [if_pos q, q, h0]
    · rw [if_neg q]
      by_cases q2 : 91 ≤ j ∧ j < 91 + 4 * z 2 ∧ (j - 91) % 4 = 1
      · have e : shr z o ((j - 91) / 4) = 0 := if_pos h0
        rw [if_pos q2, e]
        rfl
      · rw [if_neg q2]
  · have ha := hpa h0
    have hl := lft_lt ha
    have hq := quo_le ha
    rw [if_neg (fun q => h0 ((i3_ne0 (by omega)).mp q)), if_pos (fun q => ha ((i3_ne0 (by omega)).mp q))]
    have key : ∀ m, m ≤ z 2 → ∃ μ' w, Md_sharePot_54 (Int32.ofNat o) (Int32.ofNat (z (56 + 7 * o + 4))) (Int32.ofNat (allH z o)) (Int32.ofNat (z (56 + 7 * o + 4))) 0 pU μ = Md_sharePot_54 (Int32.ofNat o) (Int32.ofNat (z (56 + 7 * o + 4))) (Int32.ofNat (allH z o)) (Int32.ofNat (z (56 + 7 * o + 4) - sum m (quo z o))) (Int32.ofNat m) w μ' ∧ FrE μ μ' ∧ mI μ' 13 = zI (quZ z o m) ∧ ∀ p, p < m → mI μ' 18 p = Int32.ofNat (rst z o p) := by
      intro m
      induction m with
      | zero =>
        intro _
        refine ⟨μ, pU, rfl, FrE.rf, ?_, fun p hp => absurd hp (Nat.not_lt_zero p)⟩
        rw [hz]
        congr 1
        funext j
        unfold quZ
        rw [if_neg (by omega)]
      | succ m ih =>
        intro hm
        obtain ⟨μ1, w, a1, a2, a3, a4⟩ := ih (by omega)
        have e2 : quZ z o m 2 = z 2 := if_neg (by omega)
        have et : quZ z o m (123 + 5 * m + o) = z (123 + 5 * m + o) := if_neg (by omega)
        have eg : quZ z o m (91 + 4 * m + 1) = z (91 + 4 * m + 1) := if_neg (by omega)
        have htm := ntm m (by omega) o ho
        have hmul : z (56 + 7 * o + 4) * z (123 + 5 * m + o) ≤ 900 * 10 := Nat.mul_le_mul hpot htm
        have ed : Int32.ofNat (z (56 + 7 * o + 4) * z (123 + 5 * m + o)) / Int32.ofNat (allH z o) = Int32.ofNat (quo z o m) := i3_div (by omega) (by omega)
        have er : Int32.ofNat (z (56 + 7 * o + 4) * z (123 + 5 * m + o)) - Int32.ofNat (quo z o m) * Int32.ofNat (allH z o) = Int32.ofNat (rst z o m) := by
          rw [← ed]
          exact i3_rem (by omega) (by omega)
        have hs1 : sum (m + 1) (quo z o) ≤ sum (z 2) (quo z o) := sum_le_n _ hm
        have hs2 : sum (m + 1) (quo z o) = sum m (quo z o) + quo z o m := rfl
        have e8 : z (56 + 7 * o + 4) - sum m (quo z o) - quo z o m = z (56 + 7 * o + 4) - sum (m + 1) (quo z o) := by rw [hs2]; omega
        have hz1 : mI (stI μ1 18 m (Int32.ofNat (rst z o m))) 13 = zI (quZ z o m) := by rw [stI_ne _ _ _ (by decide)]; exact a3
        refine ⟨stI (stI μ1 18 m (Int32.ofNat (rst z o m))) 13 (91 + 4 * m + 1) (Int32.ofNat (z (91 + 4 * m + 1) + quo z o m)), .int (Int32.ofNat (quo z o m)), ?_, a2.s18.s13, ?_, fun p hp => ?_⟩
        · rw [a1, Md_sharePot_54_eq, m_h a3, e2, if_neg (le_n (by omega) (by omega)), m_timeAt a3 (by omega) ho, bI_r, chk_t (show ¬ Int32.ofNat (allH z o) = 0 from fun q => ha ((i3_ne0 (by omega)).mp q)), m_timeAt a3 (by omega) ho, bI_r, chk_t (i3_inb (by omega) (by decide)), ix_g, chk_t (i3_inb (by omega) (by decide)), et, i3_mul, ed, er, i3_sub (by omega), e8, i3_add1, i3_nat (by omega), i3_nat (by omega), m_h a3, eg, i3_add]
        · rw [zI_set hz1]
          congr 1
          funext j
          unfold quZ
          by_cases q : j = 91 + 4 * m + 1
          · have e9 : (j - 91) / 4 = m := by omega
            rw [q, setN_self, if_pos (by omega)]
            rw [q] at e9
            rw [e9]
          · rw [setN_ne q]
            by_cases q2 : 91 ≤ j ∧ j < 91 + 4 * m ∧ (j - 91) % 4 = 1
            · rw [if_pos q2, if_pos (by omega)]
            · rw [if_neg q2, if_neg (by omega)]
        · rw [stI_ne _ _ _ (by decide), st_get]
          by_cases q : p = m
          · rw [if_pos ⟨rfl, q⟩, q]
          · rw [if_neg (fun r => q r.2)]
            exact a4 p (by omega)
    obtain ⟨μ1, w, a1, a2, a3, a4⟩ := key (z 2) (Nat.le_refl _)
    have e2 : quZ z o (z 2) 2 = z 2 := if_neg (by omega)
    obtain ⟨μ2, b1, b2, b3⟩ := m_units128 (x2 := Int32.ofNat (z (56 + 7 * o + 4))) (x3 := Int32.ofNat (allH z o)) n2 (show 0 < z 2 by omega) ho (lft z o) (fun p => Int32.ofNat (rst z o p)) (quZ z o (z 2)) μ1 (Int32.ofNat (z 2)) w (by omega) a3 e2 a4
    refine ⟨μ2, ?_, a2.tr b2, ?_⟩
    · rw [a1, Md_sharePot_54_eq, m_h a3, e2, if_pos (le_y (Nat.le_refl _) (by omega))]
      exact b1
    · rw [b3]
      congr 1
      funext j
      unfold shZ
      by_cases q : j = 56 + 7 * o + 4
      · rw [if_pos q, q, setN_self]
      · rw [if_neg q, setN_ne q]
        unfold uZ
        by_cases q2 : 91 ≤ j ∧ j < 91 + 4 * z 2 ∧ (j - 91) % 4 = 1
        · rw [if_pos q2, if_pos q2]
          have e : shr z o ((j - 91) / 4) = quo z o ((j - 91) / 4) + uni (z 2) (lft z o) (fun p => Int32.ofNat (rst z o p)) (fun _ => 0) ((j - 91) / 4) := if_neg h0
          have hj : 91 + 4 * ((j - 91) / 4) + 1 = j := by omega
          have e9 := uni_add (n := z 2) (lft z o) (fun p => Int32.ofNat (rst z o p)) (fun p => quZ z o (z 2) (91 + 4 * p + 1)) (fun _ => 0) ((j - 91) / 4)
          rw [e, ← Nat.add_assoc]
          refine Eq.trans e9 ?_
          congr 1
          show quZ z o (z 2) (91 + 4 * ((j - 91) / 4) + 1) = _
          rw [hj]
          exact if_pos q2
        · rw [if_neg q2, if_neg q2]
          exact if_neg q2
end DAY3
