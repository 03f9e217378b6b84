/-! THE LAW'S OWN TOWN: what is heard, why a tune cannot be played, what it takes -/
section LWHY
variable {z : Nat → Nat} {μ : PM} {kt : Nat}
theorem at_6 {o : Nat} (h : LTr kt z μ) (hb : Bd z) (ho : o < z 1) (hat : z (56 + 7 * o + 3) ≠ 0) : z (56 + 7 * o + 3) - 1 < 6 ∧ pm (z (56 + 7 * o + 3)) = Int32.ofNat (z (56 + 7 * o + 3) - 1) := by
  have h0 := h.1.1
  have h1 := h.1.2.1
  obtain ⟨a1, a2, a3⟩ := at_lt hb (show o < 5 by omega) hat
  exact ⟨by omega, a3⟩
theorem l_heard18 {c o : Nat} (h : LTr kt z μ) (hT : TA kt μ) (hb : Bd z) (hc : c < 6) (ho : o < z 1) : ∀ k i b, i + k = z 4 + 1 →
    Lw_heard_18 (Int32.ofNat c) kt (Int32.ofNat b) (Int32.ofNat o) (Int32.ofNat i) μ = Lw_heard_6 (Int32.ofNat c) kt (Int32.ofNat (if z (56 + 7 * o + 3) ≠ 0 ∧ near z c (z (56 + 7 * o + 3) - 1) then tunN z o (max i (z 4 - z 12)) (z 4 + 1 - max i (z 4 - z 12)) b else b)) (Int32.ofNat (o + 1)) (.int (Int32.ofNat (z 4 + 1))) μ := by
  have h1 := h.1.2.1
  have h4 := hb.hr
  have h12 := hb.s1
  have hbg := hb.big (56 + 7 * o + 3) (by omega)
  intro k
  induction k with
  | zero =>
    intro i b hi
    have hi' : i = z 4 + 1 := by omega
    subst hi'
    have e : (if z (56 + 7 * o + 3) ≠ 0 ∧ near z c (z (56 + 7 * o + 3) - 1) then tunN z o (max (z 4 + 1) (z 4 - z 12)) (z 4 + 1 - max (z 4 + 1) (z 4 - z 12)) b else b) = b := by
      split
      · rw [Nat.max_eq_left (by omega), Nat.sub_self]; rfl
      · rfl
    rw [Lw_heard_18_eq _ _ _ _ _ _ hT.1, a_n4 h, if_pos (lt_y (by omega) (by omega)), e, i3_add1]
  | succ k ih =>
    intro i b hi
    have hub := (hb.tun o (by omega) i (by omega))
    rw [Lw_heard_18_eq _ _ _ _ _ _ hT.1, a_n4 h, if_neg (lt_n (by omega) (by omega)), k7, ka3, chk_t (i3_inb (by omega) (by decide)), i3_nat (by omega), a_at h (by omega)]
    by_cases h0 : z (56 + 7 * o + 3) = 0
    · have e1 : ∀ m, (if z (56 + 7 * o + 3) ≠ 0 ∧ near z c (z (56 + 7 * o + 3) - 1) then tunN z o (max m (z 4 - z 12)) (z 4 + 1 - max m (z 4 - z 12)) b else b) = b := fun m => if_neg (fun q => q.1 h0)
      rw [if_pos ((pm_lt (by omega)).mpr h0), i3_add1, ih (i + 1) b (by omega), e1, e1]
    · obtain ⟨a1, a2⟩ := at_6 h hb ho h0
      rw [if_neg (fun q => h0 ((pm_lt (by omega)).mp q)), a2, l_near h hb hc a1, bI_r]
      by_cases hn : near z c (z (56 + 7 * o + 3) - 1)
      · have e1 : ∀ m v, (if z (56 + 7 * o + 3) ≠ 0 ∧ near z c (z (56 + 7 * o + 3) - 1) then tunN z o (max m (z 4 - z 12)) (z 4 + 1 - max m (z 4 - z 12)) v else v) = tunN z o (max m (z 4 - z 12)) (z 4 + 1 - max m (z 4 - z 12)) v := fun m v => if_pos ⟨h0, hn⟩
        have e12 : mI μ 17 1 = Int32.ofNat (z 12) := a_s h (by decide)
        rw [if_pos hn, if_neg (by decide), e12, a_n4 h, i3_sub (by omega)]
        by_cases hw : i < z 4 - z 12
        · rw [if_pos (lt_y (by omega) (by omega)), i3_add1, ih (i + 1) b (by omega), e1, e1, Nat.max_eq_right (show i ≤ z 4 - z 12 by omega), Nat.max_eq_right (show i + 1 ≤ z 4 - z 12 by omega)]
        · have e2 : z 4 + 1 - i = (z 4 + 1 - (i + 1)) + 1 := by omega
          rw [if_neg (lt_n (by omega) (by omega)), k10, i3_add, chk_t (hT.ix (by omega)), i3_nat (by omega), a_u h (by omega) (by omega), e1, Nat.max_eq_left (show z 4 - z 12 ≤ i by omega), e2, tunN_succ]
          by_cases h9 : z (163 + 10 * o + i) = 0
          · rw [if_pos ((pm_lt (by omega)).mpr h9), i3_add1, ih (i + 1) b (by omega), e1, Nat.max_eq_left (show z 4 - z 12 ≤ i + 1 by omega), h9]
            show _ = Lw_heard_6 _ _ (Int32.ofNat (tunN z o (i + 1) (z 4 + 1 - (i + 1)) (b ||| 0))) _ _ _
            rw [Nat.or_zero]
          · rw [if_neg (fun q => h9 ((pm_lt (by omega)).mp q)), i3_bitT hub h9, i3_or, i3_add1, ih (i + 1) _ (by omega), e1, Nat.max_eq_left (show z 4 - z 12 ≤ i + 1 by omega)]
      · have e1 : ∀ m, (if z (56 + 7 * o + 3) ≠ 0 ∧ near z c (z (56 + 7 * o + 3) - 1) then tunN z o (max m (z 4 - z 12)) (z 4 + 1 - max m (z 4 - z 12)) b else b) = b := fun m => if_neg (fun q => hn q.2)
        rw [if_neg hn, if_pos rfl, i3_add1, ih (i + 1) b (by omega), e1, e1]
theorem l_heard {c : Nat} (h : LTr kt z μ) (hT : TA kt μ) (hb : Bd z) (hc : c < 6) : d_Lw_heard (Int32.ofNat c) kt μ = rI (Int32.ofNat (heaS z c)) μ := by
  have h1 := h.1.2.1
  rw [e_Lw_heard _ _ _ hT.1]
  obtain ⟨w', e⟩ := loopW (fun i (b : Nat) w => Lw_heard_6 (Int32.ofNat c) kt (Int32.ofNat b) i w μ) (z 1) (fun o b => if z (56 + 7 * o + 3) ≠ 0 ∧ near z c (z (56 + 7 * o + 3) - 1) then tunN z o (z 4 - z 12) (z 4 + 1 - (z 4 - z 12)) b else b) (fun _ _ => True) (fun _ _ _ _ => trivial)
    (fun o ho b w _ => ⟨.int (Int32.ofNat (z 4 + 1)), by
      show Lw_heard_6 _ _ _ _ _ _ = Lw_heard_6 _ _ _ _ _ _
      rw [Lw_heard_6_eq _ _ _ _ _ _ hT.1, a_n1 h, if_neg (le_n ho (by omega))]
      have := l_heard18 h hT hb hc ho (z 4 + 1) 0 b (by omega)
      rw [Nat.max_eq_right (Nat.zero_le _)] at this
      exact this⟩) (a := 0) trivial pU
  refine Eq.trans (show Lw_heard_6 (Int32.ofNat c) kt 0 0 pU μ = _ from e) ?_
  show Lw_heard_6 _ _ _ _ _ _ = _
  rw [Lw_heard_6_eq _ _ _ _ _ _ hT.1, a_n1 h, if_pos (le_y (Nat.le_refl _) (by omega))]
  rfl
theorem and_bit {a t : Nat} : (a &&& 1 <<< t = 0) ↔ a.testBit t = false := by
  rw [Nat.one_shiftLeft]
  constructor
  · intro h
    have h2 : (a &&& 2 ^ t).testBit t = (0 : Nat).testBit t := by rw [h]
    rw [Nat.testBit_and, Nat.testBit_two_pow_self, Bool.and_true, Nat.zero_testBit] at h2
    exact h2
  · intro h
    apply Nat.eq_of_testBit_eq
    intro i
    rw [Nat.testBit_and, Nat.zero_testBit, Nat.testBit_two_pow]
    by_cases e : t = i
    · subst e
      rw [h]
      rfl
    · simp [e]
theorem i3_andb {a t : Nat} (ha : a < 1024) (ht : t < 10) : (Int32.ofNat a &&& ((1 : Int32) <<< (Int32.ofNat t &&& 31)) = 0) ↔ a.testBit t = false := by
  have hl : a &&& 1 <<< t ≤ a := Nat.and_le_left
  rw [i3_bit t ht, i3_and, i3_ne0 (by omega), and_bit]
theorem l_why {o t : Nat} (h : LTr kt z μ) (hT : TA kt μ) (hb : Bd z) (ho : o < z 1) (ht : t < 10) : d_Lw_why (Int32.ofNat o) (Int32.ofNat t) kt μ = rI (Int32.ofNat (reas z o t)) μ := by
  have h1 := h.1.2.1
  have h4 := hb.hr
  have hbg := hb.big (56 + 7 * o + 3) (by omega)
  have hcr := crew_le (o := o) hb
  have hbar := (hb.org o (by omega)).2.2.1
  have hub := hb.tun o (by omega) (z 4) (by omega)
  rw [e_Lw_why _ _ _ _ hT.1, k7, ka3, chk_t (i3_inb (by omega) (by decide)), i3_nat (by omega), a_at h (by omega)]
  unfold reas
  by_cases h0 : z (56 + 7 * o + 3) = 0
  · rw [if_neg (fun q => by rw [pm_le0 (by omega)] at q; exact q h0), if_pos h0]
    rfl
  obtain ⟨a1, a2⟩ := at_6 h hb ho h0
  rw [if_pos (by rw [pm_le0 (by omega)]; exact h0), if_neg h0, l_crew h hb (by omega), bI_r]
  by_cases h2 : crew z o = 0
  · rw [if_neg (fun q => q ((i3_ne0 (by omega)).mpr h2)), if_pos h2]
    rfl
  rw [if_pos (fun q => h2 ((i3_ne0 (by omega)).mp q)), if_neg h2, ka2, chk_t (i3_inb (by omega) (by decide)), i3_nat (by omega), a_o h (by omega) (by decide) (by decide)]
  by_cases h3 : (z (56 + 7 * o + 2)).testBit t = false
  · rw [if_neg (fun q => q ((i3_andb (by omega) ht).mpr h3)), if_pos h3]
    rfl
  rw [if_pos (fun q => h3 ((i3_andb (by omega) ht).mp q)), if_neg h3, a_n4 h, k10, i3_add, chk_t (hT.ix (by omega)), i3_nat (by omega), a_u h (by omega) (by omega)]
  by_cases h5 : z (163 + 10 * o + z 4) ≠ 0
  · rw [if_neg (fun q => h5 ((pm_lt (by omega)).mp q)), if_pos h5]
    rfl
  have h5' : z (163 + 10 * o + z 4) = 0 := Classical.not_not.mp h5
  rw [if_pos ((pm_lt (by omega)).mpr h5'), if_neg h5, a2, l_quiet h hb a1, bI_r]
  by_cases h6 : isQ z (z (56 + 7 * o + 3) - 1)
  · rw [if_pos h6, if_pos h6, if_neg (by decide)]
    rfl
  have hh := heaS_lt (c := z (56 + 7 * o + 3) - 1) hb
  rw [if_neg h6, if_neg h6, if_pos rfl, l_heard h hT hb a1, bI_r]
  by_cases h7 : (heaS z (z (56 + 7 * o + 3) - 1)).testBit t = true
  · rw [if_neg (fun q => by rw [(i3_andb hh ht).mp q] at h7; cases h7), if_pos h7]
    rfl
  · rw [if_pos ((i3_andb hh ht).mpr (by simpa using h7)), if_neg h7]
    rfl
theorem l_takes {o : Nat} (h : LTr kt z μ) (hT : TA kt μ) (hb : Bd z) (hpl : Pl z) (ho : o < z 1) (hat : z (56 + 7 * o + 3) ≠ 0) : d_Lw_takes (Int32.ofNat o) kt μ = rI (Int32.ofNat (takN z o (othN z o))) μ := by
  have h1 := h.1.2.1
  have h4 := hb.hr
  have hw := hb.wt
  have hbg := hb.big (56 + 7 * o + 3) (by omega)
  obtain ⟨a1, a2⟩ := at_6 h hb ho hat
  have hcr := (hb.cor (z (56 + 7 * o + 3) - 1) (by omega)).2.1
  rw [e_Lw_takes _ _ _ hT.1]
  refine (loopP (fun i (a : Nat) => Lw_takes_7 (Int32.ofNat o) kt (Int32.ofNat (10 - 2 * a)) i μ) (z 1) (fun e a => a + if e ≠ o ∧ z (163 + 10 * e + z 4) ≠ 0 ∧ near z (z (56 + 7 * o + 3) - 1) (z (56 + 7 * e + 3) - 1) then 1 else 0) (fun i a => a ≤ i) (fun i _ a ha => ?_) (fun i hi a ha => ?_) (a := 0) (Nat.le_refl _)).trans ?_
  · show a + _ ≤ i + 1
    split <;> omega
  · show Lw_takes_7 _ _ _ _ _ = Lw_takes_7 _ _ _ _ _
    have hub := hb.tun i (by omega) (z 4) (by omega)
    have hbe := hb.big (56 + 7 * i + 3) (by omega)
    rw [Lw_takes_7_eq _ _ _ _ _ hT.1, a_n1 h, if_neg (le_n hi (by omega))]
    have e0 : Int32.ofNat (10 - 2 * a) - 0 = Int32.ofNat (10 - 2 * a) := i3_sub (b := 0) (Nat.zero_le _)
    have e2 : Int32.ofNat (10 - 2 * a) - 2 = Int32.ofNat (10 - 2 * (a + 1)) := by
      rw [show (2 : Int32) = Int32.ofNat 2 from rfl, i3_sub (by omega)]
      congr 1
    by_cases q1 : i = o
    · rw [if_pos (by rw [q1]), e0, i3_add1, if_neg (fun q => q.1 q1)]
      rfl
    rw [if_neg (fun q => q1 (by rw [i3_eq (by omega) (by omega)] at q; exact q)), a_n4 h, k10, i3_add, chk_t (hT.ix (by omega)), i3_nat (by omega), a_u h (by omega) (by omega)]
    by_cases q2 : z (163 + 10 * i + z 4) = 0
    · rw [if_pos ((pm_lt (by omega)).mpr q2), e0, i3_add1, if_neg (fun q => q.2.1 q2)]
      rfl
    obtain ⟨b1, b2⟩ := at_6 h hb hi (hpl i (by omega) (z 4) (by omega) q2)
    rw [if_neg (fun q => q2 ((pm_lt (by omega)).mp q)), k7, ka3, chk_t (i3_inb (by omega) (by decide)), i3_nat (by omega), a_at h (by omega), k7, ka3, chk_t (i3_inb (by omega) (by decide)), i3_nat (by omega), a_at h (by omega), a2, b2, l_near h hb a1 b1, bI_r]
    by_cases q3 : near z (z (56 + 7 * o + 3) - 1) (z (56 + 7 * i + 3) - 1)
    · rw [if_pos q3, if_neg (by decide), e2, i3_add1, if_pos ⟨q1, q2, q3⟩]
    · rw [if_neg q3, if_pos rfl, e0, i3_add1, if_neg (fun q => q3 q.2.2)]
      rfl
  · show Lw_takes_7 _ _ (Int32.ofNat (10 - 2 * othN z o)) _ _ = _
    have hoth : othN z o ≤ 3 := by
      have := sum_le (f := fun e => if e ≠ o ∧ z (163 + 10 * e + z 4) ≠ 0 ∧ near z (z (56 + 7 * o + 3) - 1) (z (56 + 7 * e + 3) - 1) then 1 else 0) (b := 1) (z 1) (fun i _ => by split <;> omega)
      unfold othN
      omega
    rw [Lw_takes_7_eq _ _ _ _ _ hT.1, a_n1 h, if_pos (le_y (Nat.le_refl _) (by omega)), if_pos (show (0 : Int32) < Int32.ofNat (10 - 2 * othN z o) from lt_y (a := 0) (by omega) (by omega)), k7, ka3, chk_t (i3_inb (by omega) (by decide)), i3_nat (by omega), a_at h (by omega), a2, k4, ka1, chk_t (i3_inb (by omega) (by decide)), i3_nat (by omega), a_c h a1 (by decide), a_n5 h, i3_mul]
    generalize hC : z (16 + 4 * (z (56 + 7 * o + 3) - 1) + 1) = C at hcr
    have hm : C * (10 - 2 * othN z o) ≤ 90 * 10 := Nat.mul_le_mul hcr (by omega)
    have ed : Int32.ofNat (C * (10 - 2 * othN z o)) / 10 = Int32.ofNat (C * (10 - 2 * othN z o) / 10) := i3_div (b := 10) (by omega) (by decide)
    have ed2 : Int32.ofNat (C * (10 - 2 * othN z o) / 10) / 2 = Int32.ofNat (C * (10 - 2 * othN z o) / 10 / 2) := i3_div (b := 2) (by omega) (by decide)
    unfold takN
    simp only [hC]
    rw [ed]
    by_cases q5 : z 5 = 1
    · rw [if_neg (show ¬ Int32.ofNat (z 5) ≤ 0 from le_n (b := 0) (by omega) (by omega)), if_pos q5, ed2]
    · rw [if_pos (show Int32.ofNat (z 5) ≤ 0 from le_y (b := 0) (by omega) (by decide)), if_neg q5]
end LWHY
