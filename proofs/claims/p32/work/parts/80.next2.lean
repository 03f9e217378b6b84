/-! SEMANTICS: next: the class's hour -/
section NEXT2
variable {z : Nat → Nat} {μ : PM}
theorem t_hour7 {n : Nat} (h5 : mI μ 23 5 = Int32.ofNat n) (hn : n ≤ 5) : ∀ m, m ≤ n → ∃ μ', Twn_endHour_2 0 μ = Twn_endHour_2 (Int32.ofNat m) μ' ∧ FrC μ μ' ∧ ∀ x y, mI μ' x y = if y = 7 ∧ 48 ≤ x ∧ x < 48 + m then pm 0 else mI μ x y := by
  intro m
  induction m with
  | zero => intro _; exact ⟨μ, rfl, FrC.rf, fun x y => by rw [if_neg (by omega)]⟩
  | succ m ih =>
    intro h
    obtain ⟨μ1, a1, a2, a3⟩ := ih (by omega)
    have e5 : mI μ1 23 5 = Int32.ofNat n := by rw [a3, if_neg (by omega), h5]
    refine ⟨stI μ1 (48 + m) 7 (pm 0), ?_, a2.st (by omega), fun x y => ?_⟩
    · rw [a1, Twn_endHour_2_eq, e5, if_neg (le_n (by omega) (by omega)), chk_t (i3_inb (by omega) (by decide)), i3_nat (by omega), i3_add1]
      rfl
    · rw [st_get, a3]
      by_cases e : x = 48 + m ∧ y = 7
      · rw [if_pos e, if_pos (by omega)]
      · rw [if_neg e]
        by_cases e2 : y = 7 ∧ 48 ≤ x ∧ x < 48 + m
        · rw [if_pos e2, if_pos (by omega)]
        · rw [if_neg e2, if_neg (by omega)]
theorem rt_hour {μ' : PM} (hr : RT 23 z μ) (hk : ∀ o, z 1 ≤ o → o < 5 → z (163 + 10 * o + z 4) = 0) (hf : ∀ o, o < 5 → z (163 + 10 * o + (z 4 + 1)) = 0)
    (he : ∀ x y, mI μ' x y = if x = 23 ∧ y = 8 then Int32.ofNat (z 4 + 1) else if y = 7 ∧ 48 ≤ x ∧ x < 48 + z 1 then pm 0 else mI μ x y) (hn : z 1 ≤ 5) : RT 23 (setN z 4 (z 4 + 1)) μ' := by
  have ne : ∀ j, j ≠ 4 → setN z 4 (z 4 + 1) j = z j := fun j hj => setN_ne hj
  have e1 : setN z 4 (z 4 + 1) 1 = z 1 := ne 1 (by omega)
  have e4 : setN z 4 (z 4 + 1) 4 = z 4 + 1 := setN_self
  have en : ∀ c h, noted (setN z 4 (z 4 + 1)) c h = noted z c h := fun c h => by
    unfold noted
    rw [e1]
    exact up_congr _ (fun i hi x => by rw [ne _ (by omega), ne _ (by omega)])
  have ep : plyS (setN z 4 (z 4 + 1)) = plyS z := sum_congr _ (fun i hi => by rw [ne _ (by omega)])
  have fr : ∀ X Y, ¬ (X = 23 ∧ Y = 8) → ¬ (Y = 7 ∧ 48 ≤ X ∧ X < 48 + z 1) → mI μ' X Y = mI μ X Y := fun X Y h1 h2 => by rw [he, if_neg h1, if_neg h2]
  obtain ⟨⟨⟨q4, q5, q6, q7, q8, q9⟩, q10, q11, q12, q13, q14⟩, qs, qc, qo, qp⟩ := hr
  refine ⟨⟨⟨?_, ?_, ?_, ?_, ?_, ?_⟩, ?_, ?_, ?_, ?_, ?_⟩, fun i hi => ?_, fun c hc => ⟨fun w hw => ?_, fun w hw => ?_⟩, fun o ho => ⟨fun w hw h3 => ?_, ?_, ?_⟩, fun p hp => ⟨?_, fun w h1 hw => ?_, fun o ho => ?_⟩⟩
  · rw [fr _ _ (by omega) (by omega), ne _ (by omega)]; exact q4
  · rw [fr _ _ (by omega) (by omega), ne _ (by omega)]; exact q5
  · rw [fr _ _ (by omega) (by omega), ne _ (by omega)]; exact q6
  · rw [fr _ _ (by omega) (by omega), ne _ (by omega)]; exact q7
  · rw [he, if_pos ⟨rfl, rfl⟩, e4]
  · rw [fr _ _ (by omega) (by omega), ne _ (by omega)]; exact q9
  · rw [fr _ _ (by omega) (by omega), ne _ (by omega)]; exact q10
  · rw [fr _ _ (by omega) (by omega), ep]; exact q11
  · rw [fr _ _ (by omega) (by omega), ne _ (by omega)]; exact q12
  · rw [fr _ _ (by omega) (by omega), ne _ (by omega)]; exact q13
  · rw [fr _ _ (by omega) (by omega), ne _ (by omega)]; exact q14
  · rw [fr _ _ (by omega) (by omega), ne _ (by omega)]; exact qs i hi
  · rw [fr _ _ (by omega) (by omega), ne _ (by omega)]; exact (qc c hc).1 w hw
  · rw [fr _ _ (by omega) (by omega), en]; exact (qc c hc).2 w hw
  · rw [fr _ _ (by omega) (by omega), ne _ (by omega)]; exact (qo o ho).1 w hw h3
  · rw [fr _ _ (by omega) (by omega), ne _ (by omega)]; exact (qo o ho).2.1
  · rw [e4, ne _ (by omega), hf o ho]
    by_cases q : o < z 1
    · rw [he, if_neg (by omega), if_pos (by omega)]
    · rw [fr _ _ (by omega) (by omega), (qo o ho).2.2, hk o (by omega) ho]
  · rw [fr _ _ (by omega) (by omega), ne _ (by omega)]; exact (qp p hp).1
  · rw [fr _ _ (by omega) (by omega), ne _ (by omega)]; exact (qp p hp).2.1 w h1 hw
  · rw [fr _ _ (by omega) (by omega), ne _ (by omega)]; exact (qp p hp).2.2 o ho
theorem t_payOut2 (hP : PT z μ) (n2 : z 2 ≤ 8) (h67 : ∀ p, p < z 2 → mI μ 6 p = Int32.ofNat (shrS z p) ∧ mI μ 7 p = Int32.ofNat (getW z p)) (hg : sum (z 2) (getW z) ≤ z 10) : ∀ m, m ≤ z 2 → ∃ μ' w, Twn_payOut_2 0 pU μ = Twn_payOut_2 (Int32.ofNat m) w μ' ∧ FrC μ μ' ∧
    ∀ x y, mI μ' x y = if x = 23 ∧ y = 14 then Int32.ofNat (z 10 - sum m (getW z)) else if 53 ≤ x ∧ x < 53 + 2 * m ∧ (x - 53) % 2 = 0 ∧ y = 1 then mI μ x y + (Int32.ofNat (shrS z ((x - 53) / 2)) + Int32.ofNat (getW z ((x - 53) / 2))) else if 53 ≤ x ∧ x < 53 + 2 * m ∧ (x - 53) % 2 = 0 ∧ y = 2 then mI μ x y + Int32.ofNat (getW z ((x - 53) / 2)) else mI μ x y := by
  intro m
  induction m with
  | zero =>
    intro _
    refine ⟨μ, pU, rfl, FrC.rf, fun x y => ?_⟩
    by_cases q : x = 23 ∧ y = 14
    · obtain ⟨rfl, rfl⟩ := q
      rw [if_pos ⟨rfl, rfl⟩, hP.2.2.2.1]
      rfl
    · rw [if_neg q, if_neg (by omega), if_neg (by omega)]
  | succ m ih =>
    intro h
    obtain ⟨μ1, w, a1, a2, a3⟩ := ih (by omega)
    have e6 : mI μ1 23 6 = Int32.ofNat (z 2) := by rw [a3, if_neg (by omega), if_neg (by omega), if_neg (by omega), hP.2.1]
    have f6 : mI μ1 6 m = Int32.ofNat (shrS z m) := by rw [a3, if_neg (by omega), if_neg (by omega), if_neg (by omega)]; exact (h67 m (by omega)).1
    have f7 : mI μ1 7 m = Int32.ofNat (getW z m) := by rw [a3, if_neg (by omega), if_neg (by omega), if_neg (by omega)]; exact (h67 m (by omega)).2
    have g1 : mI μ1 (53 + 2 * m) 1 = mI μ (53 + 2 * m) 1 := by rw [a3, if_neg (by omega), if_neg (by omega), if_neg (by omega)]
    have g2 : mI μ1 (53 + 2 * m) 2 = mI μ (53 + 2 * m) 2 := by rw [a3, if_neg (by omega), if_neg (by omega), if_neg (by omega)]
    have g14 : mI μ1 23 14 = Int32.ofNat (z 10 - sum m (getW z)) := by rw [a3, if_pos ⟨rfl, rfl⟩]
    have hs1 : sum (m + 1) (getW z) ≤ sum (z 2) (getW z) := sum_le_n _ h
    have hs2 : sum (m + 1) (getW z) = sum m (getW z) + getW z m := rfl
    have e8 : z 10 - sum m (getW z) - getW z m = z 10 - sum (m + 1) (getW z) := by omega
    refine ⟨stI (stI (stI μ1 (53 + 2 * m) 1 (mI μ (53 + 2 * m) 1 + (Int32.ofNat (shrS z m) + Int32.ofNat (getW z m)))) (53 + 2 * m) 2 (mI μ (53 + 2 * m) 2 + Int32.ofNat (getW z m))) 23 14 (Int32.ofNat (z 10 - sum (m + 1) (getW z))), .int (Int32.ofNat (getW z m)), ?_, ((a2.st (by omega)).st (by omega)).st (by omega), fun x y => ?_⟩
    · rw [a1, Twn_payOut_2_eq, e6, if_neg (le_n (by omega) (by omega)), chk_t (i3_inb (by omega) (by decide)), i3_nat (by omega), lt_b, f6, f7, g1, i3_add1, st_get, if_neg (by omega), g2, stI_ne _ _ _ (show 23 ≠ 53 + 2 * m by omega), stI_ne _ _ _ (show 23 ≠ 53 + 2 * m by omega), g14, i3_sub (by omega), e8]
    · rw [st_get]
      by_cases q : x = 23 ∧ y = 14
      · rw [if_pos q, if_pos q]
      · rw [if_neg q, if_neg q, st_get]
        by_cases q2 : x = 53 + 2 * m ∧ y = 2
        · have e9 : (x - 53) / 2 = m := by omega
          rw [if_pos q2, if_neg (by omega), if_pos (by omega), e9, q2.1, q2.2]
        · rw [if_neg q2, st_get]
          by_cases q1 : x = 53 + 2 * m ∧ y = 1
          · have e9 : (x - 53) / 2 = m := by omega
            rw [if_pos q1, if_pos (by omega), e9, q1.1, q1.2]
          · rw [if_neg q1, a3, if_neg q]
            by_cases q3 : 53 ≤ x ∧ x < 53 + 2 * m ∧ (x - 53) % 2 = 0 ∧ y = 1
            · rw [if_pos q3, if_pos (by omega)]
            · rw [if_neg q3, if_neg (show ¬ (53 ≤ x ∧ x < 53 + 2 * (m + 1) ∧ (x - 53) % 2 = 0 ∧ y = 1) by omega)]
              by_cases q4 : 53 ≤ x ∧ x < 53 + 2 * m ∧ (x - 53) % 2 = 0 ∧ y = 2
              · rw [if_pos q4, if_pos (by omega)]
              · rw [if_neg q4, if_neg (by omega)]
theorem t_payOut72 {n : Nat} {w : Value} (h5 : mI μ 23 5 = Int32.ofNat n) (hn : n ≤ 5) : ∃ μ', Twn_payOut_72 0 w μ = some (.inl none, μ') ∧ FrC μ μ' ∧ ∀ x y, mI μ' x y = if y = 4 ∧ 48 ≤ x ∧ x < 48 + n then Int32.ofNat 0 else mI μ x y := by
  have key : ∀ m, m ≤ n → ∃ μ', Twn_payOut_72 0 w μ = Twn_payOut_72 (Int32.ofNat m) w μ' ∧ FrC μ μ' ∧ ∀ x y, mI μ' x y = if y = 4 ∧ 48 ≤ x ∧ x < 48 + m then Int32.ofNat 0 else mI μ x y := by
    intro m
    induction m with
    | zero => intro _; exact ⟨μ, rfl, FrC.rf, fun x y => by rw [if_neg (by omega)]⟩
    | succ m ih =>
      intro h
      obtain ⟨μ1, a1, a2, a3⟩ := ih (by omega)
      have e5 : mI μ1 23 5 = Int32.ofNat n := by rw [a3, if_neg (by omega), h5]
      refine ⟨stI μ1 (48 + m) 4 (Int32.ofNat 0), ?_, a2.st (by omega), fun x y => ?_⟩
      · rw [a1, Twn_payOut_72_eq, e5, if_neg (le_n (by omega) (by omega)), chk_t (i3_inb (by omega) (by decide)), i3_nat (by omega), i3_add1]
        rfl
      · rw [st_get, a3]
        by_cases e : x = 48 + m ∧ y = 4
        · rw [if_pos e, if_pos (by omega)]
        · rw [if_neg e]
          by_cases e2 : y = 4 ∧ 48 ≤ x ∧ x < 48 + m
          · rw [if_pos e2, if_pos (by omega)]
          · rw [if_neg e2, if_neg (by omega)]
  obtain ⟨μ1, a1, a2, a3⟩ := key n (Nat.le_refl _)
  have e5 : mI μ1 23 5 = Int32.ofNat n := by rw [a3, if_neg (by omega), h5]
  exact ⟨μ1, by rw [a1, Twn_payOut_72_eq, e5, if_pos (le_y (Nat.le_refl _) (by omega))], a2, a3⟩
theorem t_forgetC {c : Nat} (hc : c < 10) : ∃ μ', d_Cor_forgetDay (28 + 2 * c) μ = some (.inl none, μ') ∧ FrC μ μ' ∧ ∀ x y, mI μ' x y = if x = 29 + 2 * c ∧ y < 10 then Int32.ofNat 0 else mI μ x y := by
  have hcl := c_cor hc
  have e29 : 28 + 2 * c + 1 = 29 + 2 * c := by omega
  have key : ∀ m, m ≤ 10 → ∃ μ', Cor_forgetDay_2 (28 + 2 * c) 0 μ = Cor_forgetDay_2 (28 + 2 * c) (Int32.ofNat m) μ' ∧ FrC μ μ' ∧ ∀ x y, mI μ' x y = if x = 29 + 2 * c ∧ y < m then Int32.ofNat 0 else mI μ x y := by
    intro m
    induction m with
    | zero => intro _; exact ⟨μ, rfl, FrC.rf, fun x y => by rw [if_neg (fun q => absurd q.2 (Nat.not_lt_zero y))]⟩
    | succ m ih =>
      intro h
      obtain ⟨μ1, a1, a2, a3⟩ := ih (by omega)
      refine ⟨stI μ1 (29 + 2 * c) m (Int32.ofNat 0), ?_, a2.st (by omega), fun x y => ?_⟩
      · rw [a1, Cor_forgetDay_2_eq _ _ _ hcl, if_neg (show ¬ (10 : Int32) ≤ Int32.ofNat m from le_n (a := 10) (by omega) (by decide)), chk_t (i3_inb (by omega) (by decide)), i3_nat (by omega), i3_add1, e29]
        rfl
      · rw [st_get, a3]
        by_cases e : x = 29 + 2 * c ∧ y = m
        · rw [if_pos e, if_pos (by omega)]
        · rw [if_neg e]
          by_cases e2 : x = 29 + 2 * c ∧ y < m
          · rw [if_pos e2, if_pos (by omega)]
          · rw [if_neg e2, if_neg (by omega)]
  obtain ⟨μ1, a1, a2, a3⟩ := key 10 (Nat.le_refl _)
  exact ⟨μ1, by rw [e_Cor_forgetDay _ _ hcl, a1, Cor_forgetDay_2_eq _ _ _ hcl, if_pos (by decide)], a2, a3⟩
theorem t_forgetP {p : Nat} (hp : p < 8) : ∃ μ', d_Ply_forgetDay (53 + 2 * p) μ = some (.inl none, μ') ∧ FrC μ μ' ∧ ∀ x y, mI μ' x y = if x = 54 + 2 * p ∧ y < 5 then Int32.ofNat 0 else mI μ x y := by
  have hcl := c_ply hp
  have e29 : 53 + 2 * p + 1 = 54 + 2 * p := by omega
  have key : ∀ m, m ≤ 5 → ∃ μ', Ply_forgetDay_2 (53 + 2 * p) 0 μ = Ply_forgetDay_2 (53 + 2 * p) (Int32.ofNat m) μ' ∧ FrC μ μ' ∧ ∀ x y, mI μ' x y = if x = 54 + 2 * p ∧ y < m then Int32.ofNat 0 else mI μ x y := by
    intro m
    induction m with
    | zero => intro _; exact ⟨μ, rfl, FrC.rf, fun x y => by rw [if_neg (fun q => absurd q.2 (Nat.not_lt_zero y))]⟩
    | succ m ih =>
      intro h
      obtain ⟨μ1, a1, a2, a3⟩ := ih (by omega)
      refine ⟨stI μ1 (54 + 2 * p) m (Int32.ofNat 0), ?_, a2.st (by omega), fun x y => ?_⟩
      · rw [a1, Ply_forgetDay_2_eq _ _ _ hcl, if_neg (show ¬ (5 : Int32) ≤ Int32.ofNat m from le_n (a := 5) (by omega) (by decide)), chk_t (i3_inb (by omega) (by decide)), i3_nat (by omega), i3_add1, e29]
        rfl
      · rw [st_get, a3]
        by_cases e : x = 54 + 2 * p ∧ y = m
        · rw [if_pos e, if_pos (by omega)]
        · rw [if_neg e]
          by_cases e2 : x = 54 + 2 * p ∧ y < m
          · rw [if_pos e2, if_pos (by omega)]
          · rw [if_neg e2, if_neg (by omega)]
  obtain ⟨μ1, a1, a2, a3⟩ := key 5 (Nat.le_refl _)
  exact ⟨μ1, by rw [e_Ply_forgetDay _ _ hcl, a1, Ply_forgetDay_2_eq _ _ _ hcl, if_pos (by decide)], a2, a3⟩
theorem t_forgetCs {n : Nat} (h4 : mI μ 23 4 = Int32.ofNat n) (hn : n ≤ 10) : ∃ μ', Twn_beginDay_31 0 μ = Twn_beginDay_56 0 μ' ∧ FrC μ μ' ∧ ∀ x y, mI μ' x y = if 29 ≤ x ∧ x < 29 + 2 * n ∧ (x - 29) % 2 = 0 ∧ y < 10 then Int32.ofNat 0 else mI μ x y := by
  have key : ∀ m, m ≤ n → ∃ μ', Twn_beginDay_31 0 μ = Twn_beginDay_31 (Int32.ofNat m) μ' ∧ FrC μ μ' ∧ ∀ x y, mI μ' x y = if 29 ≤ x ∧ x < 29 + 2 * m ∧ (x - 29) % 2 = 0 ∧ y < 10 then Int32.ofNat 0 else mI μ x y := by
    intro m
    induction m with
    | zero => intro _; exact ⟨μ, rfl, FrC.rf, fun x y => by rw [if_neg (by omega)]⟩
    | succ m ih =>
      intro h
      obtain ⟨μ1, a1, a2, a3⟩ := ih (by omega)
      have e5 : mI μ1 23 4 = Int32.ofNat n := by rw [a3, if_neg (by omega), h4]
      obtain ⟨μ2, b1, b2, b3⟩ := t_forgetC (μ := μ1) (c := m) (by omega)
      refine ⟨μ2, ?_, a2.tr b2, fun x y => ?_⟩
      · rw [a1, Twn_beginDay_31_eq, e5, if_neg (le_n (by omega) (by omega)), chk_t (i3_inb (by omega) (by decide)), i3_nat (by omega), b1, bV_r, i3_add1]
      · rw [b3, a3]
        by_cases e : x = 29 + 2 * m ∧ y < 10
        · rw [if_pos e, if_pos (by omega)]
        · rw [if_neg e]
          by_cases e2 : 29 ≤ x ∧ x < 29 + 2 * m ∧ (x - 29) % 2 = 0 ∧ y < 10
          · rw [if_pos e2, if_pos (by omega)]
          · rw [if_neg e2, if_neg (by omega)]
  obtain ⟨μ1, a1, a2, a3⟩ := key n (Nat.le_refl _)
  have e5 : mI μ1 23 4 = Int32.ofNat n := by rw [a3, if_neg (by omega), h4]
  exact ⟨μ1, by rw [a1, Twn_beginDay_31_eq, e5, if_pos (le_y (Nat.le_refl _) (by omega))], a2, a3⟩
theorem t_forgetPs {n : Nat} (h6 : mI μ 23 6 = Int32.ofNat n) (hn : n ≤ 8) : ∃ μ', Twn_beginDay_56 0 μ = some (.inl none, μ') ∧ FrC μ μ' ∧ ∀ x y, mI μ' x y = if 54 ≤ x ∧ x < 54 + 2 * n ∧ (x - 54) % 2 = 0 ∧ y < 5 then Int32.ofNat 0 else mI μ x y := by
  have key : ∀ m, m ≤ n → ∃ μ', Twn_beginDay_56 0 μ = Twn_beginDay_56 (Int32.ofNat m) μ' ∧ FrC μ μ' ∧ ∀ x y, mI μ' x y = if 54 ≤ x ∧ x < 54 + 2 * m ∧ (x - 54) % 2 = 0 ∧ y < 5 then Int32.ofNat 0 else mI μ x y := by
    intro m
    induction m with
    | zero => intro _; exact ⟨μ, rfl, FrC.rf, fun x y => by rw [if_neg (by omega)]⟩
    | succ m ih =>
      intro h
      obtain ⟨μ1, a1, a2, a3⟩ := ih (by omega)
      have e5 : mI μ1 23 6 = Int32.ofNat n := by rw [a3, if_neg (by omega), h6]
      obtain ⟨μ2, b1, b2, b3⟩ := t_forgetP (μ := μ1) (p := m) (by omega)
      refine ⟨μ2, ?_, a2.tr b2, fun x y => ?_⟩
      · rw [a1, Twn_beginDay_56_eq, e5, if_neg (le_n (by omega) (by omega)), chk_t (i3_inb (by omega) (by decide)), i3_nat (by omega), b1, bV_r, i3_add1]
      · rw [b3, a3]
        by_cases e : x = 54 + 2 * m ∧ y < 5
        · rw [if_pos e, if_pos (by omega)]
        · rw [if_neg e]
          by_cases e2 : 54 ≤ x ∧ x < 54 + 2 * m ∧ (x - 54) % 2 = 0 ∧ y < 5
          · rw [if_pos e2, if_pos (by omega)]
          · rw [if_neg e2, if_neg (by omega)]
  obtain ⟨μ1, a1, a2, a3⟩ := key n (Nat.le_refl _)
  have e5 : mI μ1 23 6 = Int32.ofNat n := by rw [a3, if_neg (by omega), h6]
  exact ⟨μ1, by rw [a1, Twn_beginDay_56_eq, e5, if_pos (le_y (Nat.le_refl _) (by omega))], a2, a3⟩
end NEXT2
