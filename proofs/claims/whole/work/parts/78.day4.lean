/-! SEMANTICS: a day's end: the model's whole -/
section DAY4
variable {z : Nat → Nat} {μ : PM}
theorem shr_ext {z' : Nat → Nat} {o p : Nat} (h2 : z' 2 = z 2) (h4 : z' (56 + 7 * o + 4) = z (56 + 7 * o + 4)) (ht : ∀ p, z' (123 + 5 * p + o) = z (123 + 5 * p + o)) : shr z' o p = shr z o p := by
  have e1 : allH z' o = allH z o := by
    unfold allH
    rw [h2]
    exact sum_congr _ (fun p _ => ht p)
  have e2 : quo z' o = quo z o := funext fun p => by unfold quo; rw [h4, ht, e1]
  have e3 : rst z' o = rst z o := funext fun p => by unfold rst; rw [h4, ht, e1]
  unfold shr lft
  rw [h4, h2, e2, e3]
theorem timS_ext {z' : Nat → Nat} {p : Nat} (ht : ∀ o, o < 5 → z' (123 + 5 * p + o) = z (123 + 5 * p + o)) : timS z' p = timS z p := sum_congr _ (fun o ho => ht o ho)
theorem fndA_ext {z' : Nat → Nat} (h10 : z' 10 = z 10) (h15 : z' 15 = z 15) (ht : ∀ p, timS z' p = timS z p) : ∀ p, fndA z' p = fndA z p := by
  intro p
  induction p with
  | zero => exact h10
  | succ p ih =>
    show fndA z' p - (if timS z' p < 3 then min (z' 15) (fndA z' p) else 0) = fndA z p - (if timS z p < 3 then min (z 15) (fndA z p) else 0)
    rw [ih, ht, h15]
theorem getA_ext {z' : Nat → Nat} (h10 : z' 10 = z 10) (h15 : z' 15 = z 15) (ht : ∀ p, timS z' p = timS z p) (p : Nat) : getA z' p = getA z p := by
  unfold getA
  rw [fndA_ext h10 h15 ht, ht, h15]
/-- the state with the allowances given to m players -/
def aZ (y : Nat → Nat) (m : Nat) : Nat → Nat := fun j =>
  if j = 10 then fndA y m else if 91 ≤ j ∧ j < 91 + 4 * m ∧ (j - 91) % 4 = 1 then y j + getA y ((j - 91) / 4) else if 91 ≤ j ∧ j < 91 + 4 * m ∧ (j - 91) % 4 = 2 then y j + getA y ((j - 91) / 4) else y j
theorem m_allow (hz : mI μ 13 = zI z) (hE : Ed z) (h5 : z 5 = 1) : ∀ m, m ≤ z 2 → ∃ μ' w', Md_endDay_25 0 pU μ = Md_endDay_25 (Int32.ofNat m) w' μ' ∧ FrE μ μ' ∧ mI μ' 13 = zI (aZ z m) := by
  have n2 := hE.2.1
  have n15 := hE.2.2.2.1
  have nfd := hE.2.2.2.2.2.2
  intro m
  induction m with
  | zero =>
    intro _
    refine ⟨μ, pU, rfl, FrE.rf, ?_⟩
    rw [hz]
    congr 1
    funext j
    unfold aZ
    by_cases q : j = 10
    · rw [if_pos q, q]; rfl
    · rw [if_neg q, if_neg (by omega), if_neg (by omega)]
  | succ m ih =>
    intro hm
    obtain ⟨μ1, w, a1, a2, a3⟩ := ih (by omega)
    have ez : ∀ j, j ≠ 10 → (j < 91 ∨ 91 + 4 * m ≤ j) → aZ z m j = z j := fun j h1 h2 => by
      unfold aZ
      rw [if_neg h1, if_neg (by omega), if_neg (by omega)]
    have e10 : aZ z m 10 = fndA z m := if_pos rfl
    have ht : timS (aZ z m) m = timS z m := timS_ext (fun o ho => ez _ (by omega) (by omega))
    have htl := tim_le hE (show m < 8 by omega)
    have hf := fndA_le (z := z) m
    have hgl := getA_le (z := z) (p := m)
    have hch : ∀ (g : Nat) (gv : Int32), gv = Int32.ofNat g → g ≤ fndA z m → stI (stI (stI μ1 13 (91 + 4 * m + 1) (mI μ1 13 (91 + 4 * m + 1) + gv)) 13 (91 + 4 * m + 2) (mI (stI μ1 13 (91 + 4 * m + 1) (mI μ1 13 (91 + 4 * m + 1) + gv)) 13 (91 + 4 * m + 2) + gv)) 13 10 (mI (stI (stI μ1 13 (91 + 4 * m + 1) (mI μ1 13 (91 + 4 * m + 1) + gv)) 13 (91 + 4 * m + 2) (mI (stI μ1 13 (91 + 4 * m + 1) (mI μ1 13 (91 + 4 * m + 1) + gv)) 13 (91 + 4 * m + 2) + gv)) 13 10 - gv) =
        stI (stI (stI μ1 13 (91 + 4 * m + 1) (Int32.ofNat (z (91 + 4 * m + 1) + g))) 13 (91 + 4 * m + 2) (Int32.ofNat (z (91 + 4 * m + 2) + g))) 13 10 (Int32.ofNat (fndA z m - g)) := by
      intro g gv hg hle
      subst hg
      rw [m_h a3, ez _ (by omega) (by omega), i3_add]
      have f1 : mI (stI μ1 13 (91 + 4 * m + 1) (Int32.ofNat (z (91 + 4 * m + 1) + g))) 13 (91 + 4 * m + 2) = Int32.ofNat (z (91 + 4 * m + 2)) := by
        rw [st_get, if_neg (by omega), m_h a3, ez _ (by omega) (by omega)]
      rw [f1, i3_add]
      have f2 : mI (stI (stI μ1 13 (91 + 4 * m + 1) (Int32.ofNat (z (91 + 4 * m + 1) + g))) 13 (91 + 4 * m + 2) (Int32.ofNat (z (91 + 4 * m + 2) + g))) 13 10 = Int32.ofNat (fndA z m) := by
        rw [st_get, if_neg (by omega), st_get, if_neg (by omega), m_h a3, e10]
      rw [f2, i3_sub hle]
    have hfin : mI (stI (stI (stI μ1 13 (91 + 4 * m + 1) (Int32.ofNat (z (91 + 4 * m + 1) + getA z m))) 13 (91 + 4 * m + 2) (Int32.ofNat (z (91 + 4 * m + 2) + getA z m))) 13 10 (Int32.ofNat (fndA z m - getA z m))) 13 = zI (aZ z (m + 1)) := by
      rw [zI_set (zI_set (zI_set a3))]
      congr 1
      funext j
      by_cases q : j = 10
      · rw [q, setN_self]
        exact (if_pos rfl).symm
      · rw [setN_ne q]
        by_cases q1 : j = 91 + 4 * m + 2
        · have e9 : (j - 91) / 4 = m := by omega
          unfold aZ
          rw [q1, setN_self, if_neg (by omega), if_neg (by omega), if_pos (by omega)]
          rw [q1] at e9
          rw [e9]
        · rw [setN_ne q1]
          by_cases q2 : j = 91 + 4 * m + 1
          · have e9 : (j - 91) / 4 = m := by omega
            unfold aZ
            rw [q2, setN_self, if_neg (by omega), if_pos (by omega)]
            rw [q2] at e9
            rw [e9]
          · rw [setN_ne q2]
            unfold aZ
            rw [if_neg q, if_neg q]
            by_cases q3 : 91 ≤ j ∧ j < 91 + 4 * m ∧ (j - 91) % 4 = 1
            · rw [if_pos q3, if_pos (by omega)]
            · rw [if_neg q3, if_neg (show ¬ (91 ≤ j ∧ j < 91 + 4 * (m + 1) ∧ (j - 91) % 4 = 1) by omega)]
              by_cases q4 : 91 ≤ j ∧ j < 91 + 4 * m ∧ (j - 91) % 4 = 2
              · rw [if_pos q4, if_pos (by omega)]
              · rw [if_neg q4, if_neg (by omega)]
    have e15 : aZ z m 15 = z 15 := ez _ (by omega) (by omega)
    rw [a1, Md_endDay_25_eq, m_h a3, ez 2 (by decide) (by omega), if_neg (le_n (by omega) (by omega)), m_h a3, ez 5 (by decide) (by omega), h5, if_neg (show ¬ ¬ Int32.ofNat 1 = 1 from fun q => q rfl), m_timeToday a3 (by omega), bI_r, ht, m_h a3 10, m_h a3 15, e10, e15, ix_g, ix_f, i3_nat (by omega), i3_nat (by omega), i3_add1]
    by_cases h3 : timS z m < 3
    · have eg : getA z m = min (z 15) (fndA z m) := if_pos h3
      rw [if_pos (show Int32.ofNat (timS z m) < 3 from lt_y (b := 3) h3 (by decide))]
      by_cases q : fndA z m ≤ z 15
      · have eg2 : getA z m = fndA z m := by rw [eg, Nat.min_eq_right q]
        rw [if_pos (le_y q (by omega)), chk_t (i3_inb (by omega) (by decide)), chk_t (i3_inb (by omega) (by decide)), lt_b, hch (getA z m) _ (by rw [eg2]) hgl]
        exact ⟨_, _, rfl, a2.s13.s13.s13, hfin⟩
      · have eg2 : getA z m = z 15 := by rw [eg, Nat.min_eq_left (by omega)]
        rw [if_neg (le_n (by omega) (by omega)), chk_t (i3_inb (by omega) (by decide)), chk_t (i3_inb (by omega) (by decide)), lt_b, hch (getA z m) _ (by rw [eg2]) hgl]
        exact ⟨_, _, rfl, a2.s13.s13.s13, hfin⟩
    · have eg : getA z m = 0 := if_neg h3
      rw [if_neg (show ¬ Int32.ofNat (timS z m) < 3 from lt_n (b := 3) (by omega) (by omega)), chk_t (i3_inb (by omega) (by decide)), chk_t (i3_inb (by omega) (by decide)), lt_b, hch (getA z m) _ (by rw [eg]; rfl) hgl]
      exact ⟨_, _, rfl, a2.s13.s13.s13, hfin⟩
/-- the state with m pots shared -/
def stZ (m : Nat) (z : Nat → Nat) : Nat → Nat := fun j => if 56 ≤ j ∧ j < 56 + 7 * m ∧ (j - 56) % 7 = 4 then 0 else if 91 ≤ j ∧ j < 91 + 4 * z 2 ∧ (j - 91) % 4 = 1 then z j + sum m (fun o => shr z o ((j - 91) / 4)) else z j
theorem stZ_ne {m j : Nat} (h : j < 56 ∨ (56 + 7 * m ≤ j ∧ j < 91) ∨ 123 ≤ j) (h2 : z 2 ≤ 8) (hm : m ≤ 5) : stZ m z j = z j := by
  unfold stZ
  rw [if_neg (by omega), if_neg (by omega)]
theorem Ed_st {m : Nat} (hE : Ed z) (hm : m ≤ 5) : Ed (stZ m z) := by
  obtain ⟨n1, n2, n5, n15, ntm, npt, nfd⟩ := hE
  have ez : ∀ j, (j < 56 ∨ (56 + 7 * m ≤ j ∧ j < 91) ∨ 123 ≤ j) → stZ m z j = z j := fun j h => stZ_ne h n2 hm
  have ea : ∀ o, allH (stZ m z) o = allH z o := fun o => by
    unfold allH
    rw [ez 2 (by omega)]
    exact sum_congr _ (fun p _ => ez _ (by omega))
  refine ⟨by rw [ez 1 (by omega)]; exact n1, by rw [ez 2 (by omega)]; exact n2, by rw [ez 5 (by omega)]; exact n5, by rw [ez 15 (by omega)]; exact n15, fun p hp o ho => by rw [ez _ (by omega)]; exact ntm p hp o ho, fun o ho => ?_, by rw [ez 10 (by omega)]; exact nfd⟩
  rw [ea]
  by_cases q : o < m
  · have e0 : stZ m z (56 + 7 * o + 4) = 0 := if_pos (by omega)
    rw [e0]
    exact ⟨by omega, fun q => absurd rfl q⟩
  · rw [ez _ (by omega)]
    exact npt o ho
theorem m_endDay (hz : mI μ 13 = zI z) (hE : Ed z) : ∃ μ', d_Md_endDay μ = some (.inl none, μ') ∧ FrE μ μ' ∧ mI μ' 13 = zI (endZ z) := by
  have n1 := hE.1
  have n2 := hE.2.1
  have n5 := hE.2.2.1
  have key : ∀ m, m ≤ z 1 → ∃ μ', Md_endDay_2 0 μ = Md_endDay_2 (Int32.ofNat m) μ' ∧ FrE μ μ' ∧ mI μ' 13 = zI (stZ m z) := by
    intro m
    induction m with
    | zero =>
      intro _
      refine ⟨μ, rfl, FrE.rf, ?_⟩
      rw [hz]
      congr 1
      funext j
      unfold stZ
      rw [if_neg (by omega)]
      split
      · rfl
      · rfl
    | succ m ih =>
      intro hm
      obtain ⟨μ1, a1, a2, a3⟩ := ih (by omega)
      obtain ⟨μ2, b1, b2, b3⟩ := m_sharePot (o := m) a3 (Ed_st hE (by omega)) (by omega)
      refine ⟨μ2, ?_, a2.tr b2, ?_⟩
      · rw [a1, Md_endDay_2_eq, m_h a3, stZ_ne (by omega) n2 (by omega), if_neg (le_n (by omega) (by omega)), b1, bV_r, i3_add1]
      · rw [b3]
        congr 1
        funext j
        have es : ∀ p, shr (stZ m z) m p = shr z m p := fun p => shr_ext (stZ_ne (by omega) n2 (by omega)) (stZ_ne (by omega) n2 (by omega)) (fun p => stZ_ne (by omega) n2 (by omega))
        have e2 : stZ m z 2 = z 2 := stZ_ne (by omega) n2 (by omega)
        unfold shZ
        rw [e2, es]
        by_cases q : j = 56 + 7 * m + 4
        · rw [if_pos q]
          unfold stZ
          rw [if_pos (by omega)]
        · rw [if_neg q]
          by_cases q2 : 91 ≤ j ∧ j < 91 + 4 * z 2 ∧ (j - 91) % 4 = 1
          · rw [if_pos q2]
            unfold stZ
            rw [if_neg (by omega), if_pos q2, if_neg (by omega), if_pos q2]
            exact Nat.add_assoc _ _ _
          · rw [if_neg q2]
            unfold stZ
            rw [if_neg q2, if_neg q2]
            by_cases q3 : 56 ≤ j ∧ j < 56 + 7 * m ∧ (j - 56) % 7 = 4
            · rw [if_pos q3, if_pos (by omega)]
            · rw [if_neg q3, if_neg (by omega)]
  obtain ⟨μ1, a1, a2, a3⟩ := key (z 1) (Nat.le_refl _)
  have e1 : stZ (z 1) z 1 = z 1 := stZ_ne (by omega) n2 n1
  have e2 : stZ (z 1) z 2 = z 2 := stZ_ne (by omega) n2 n1
  have e5 : stZ (z 1) z 5 = z 5 := stZ_ne (by omega) n2 n1
  have e10 : stZ (z 1) z 10 = z 10 := stZ_ne (by omega) n2 n1
  have e15 : stZ (z 1) z 15 = z 15 := stZ_ne (by omega) n2 n1
  have et : ∀ p, timS (stZ (z 1) z) p = timS z p := fun p => timS_ext (fun o ho => stZ_ne (by omega) n2 n1)
  rw [e_Md_endDay, a1, Md_endDay_2_eq, m_h a3, e1, if_pos (le_y (Nat.le_refl _) (by omega))]
  by_cases h5 : z 5 = 1
  · obtain ⟨μ2, w, b1, b2, b3⟩ := m_allow a3 (Ed_st hE n1) (by rw [e5]; exact h5) (z 2) (by rw [e2]; exact Nat.le_refl _)
    refine ⟨μ2, ?_, a2.tr b2, ?_⟩
    · have e22 : aZ (stZ (z 1) z) (z 2) 2 = z 2 := by
        unfold aZ
        rw [if_neg (by omega), if_neg (by omega), if_neg (by omega), e2]
      rw [b1, Md_endDay_25_eq, m_h b3, e22, if_pos (le_y (Nat.le_refl _) (by omega))]
    · rw [b3]
      congr 1
      funext j
      have ew : ∀ p, getW z p = getA z p := fun p => if_pos h5
      have ef : fndW z = fndA z (z 2) := if_pos h5
      unfold aZ endZ
      rw [fndA_ext e10 e15 et, getA_ext e10 e15 et, ew, ef]
      by_cases q : j = 10
      · rw [if_pos q, if_pos q]
      · rw [if_neg q, if_neg q]
        by_cases q2 : 91 ≤ j ∧ j < 91 + 4 * z 2 ∧ (j - 91) % 4 = 1
        · rw [if_pos q2, if_neg (by omega), if_pos q2]
          unfold stZ
          rw [if_neg (by omega), if_pos q2]
          rfl
        · rw [if_neg q2, if_neg q2]
          by_cases q3 : 91 ≤ j ∧ j < 91 + 4 * z 2 ∧ (j - 91) % 4 = 2
          · rw [if_pos q3, if_neg (by omega), if_pos q3]
            unfold stZ
            rw [if_neg (by omega), if_neg q2]
          · rw [if_neg q3, if_neg q3]
            unfold stZ
            rw [if_neg q2]
  · refine ⟨μ1, ?_, a2, ?_⟩
    · rw [Md_endDay_25_eq, m_h a3, e2]
      have h50 : z 5 = 0 := by omega
      by_cases q : z 2 = 0
      · rw [q, if_pos (by decide)]
      · rw [if_neg (show ¬ Int32.ofNat (z 2) ≤ 0 from le_n (b := 0) (by omega) (by omega)), m_h a3, e5, h50, if_pos (by decide)]
    · rw [a3]
      congr 1
      funext j
      have ew : ∀ p, getW z p = 0 := fun p => if_neg h5
      have ef : fndW z = z 10 := if_neg h5
      unfold endZ
      rw [ew, ef]
      by_cases q : j = 10
      · rw [if_pos q, q, e10]
      · rw [if_neg q]
        unfold stZ
        by_cases q1 : 56 ≤ j ∧ j < 56 + 7 * z 1 ∧ (j - 56) % 7 = 4
        · rw [if_pos q1, if_pos q1]
        · rw [if_neg q1, if_neg q1]
          by_cases q2 : 91 ≤ j ∧ j < 91 + 4 * z 2 ∧ (j - 91) % 4 = 1
          · rw [if_pos q2, if_pos q2]
            rfl
          · rw [if_neg q2, if_neg q2]
            split
            · rfl
            · rfl
end DAY4
