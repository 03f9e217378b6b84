/-! SEMANTICS: next, as the law makes it -/
section NEXT3
variable {z : Nat → Nat} {μ : PM}
theorem noted_hi {c h : Nat} (hb : Bd z) (hc : z 0 ≤ c) : noted z c h = 0 := by
  have hn := hb.no
  refine Nat.eq_of_testBit_eq fun t => ?_
  rw [Nat.zero_testBit]
  cases e : (noted z c h).testBit t with
  | false => rfl
  | true =>
    obtain ⟨o, h1, h2, -⟩ := noted_bit.mp e
    have := (hb.org o (by omega)).2.2.2
    omega
theorem rt_day {N : Nat} {μ' ν : PM} (hr : RT 23 z μ) (hk : Okz N z) (hN : N ≤ 20020)
    (hν : ∀ x y, x ≠ 6 → x ≠ 7 → x ≠ 8 → mI ν x y = if x = 23 ∧ y = 8 then Int32.ofNat (z 4 + 1) else if y = 7 ∧ 48 ≤ x ∧ x < 48 + z 1 then pm 0 else mI μ x y)
    (D : ∀ x y, mI μ' x y = if 54 ≤ x ∧ x < 54 + 2 * z 2 ∧ (x - 54) % 2 = 0 ∧ y < 5 then Int32.ofNat 0 else if 29 ≤ x ∧ x < 29 + 2 * z 0 ∧ (x - 29) % 2 = 0 ∧ y < 10 then Int32.ofNat 0 else if y = 3 ∧ 48 ≤ x ∧ x < 48 + z 1 then pm 0
      else if x = 23 ∧ y = 11 then 0 else if x = 23 ∧ y = 9 then 0 else if x = 23 ∧ y = 8 then 0 else if x = 23 ∧ y = 7 then Int32.ofNat (z 3 + 1) else if y = 4 ∧ 48 ≤ x ∧ x < 48 + z 1 then Int32.ofNat 0
      else if x = 23 ∧ y = 14 then Int32.ofNat (z 10 - sum (z 2) (getW z)) else if 53 ≤ x ∧ x < 53 + 2 * z 2 ∧ (x - 53) % 2 = 0 ∧ y = 1 then mI ν x y + (Int32.ofNat (shrS z ((x - 53) / 2)) + Int32.ofNat (getW z ((x - 53) / 2))) else if 53 ≤ x ∧ x < 53 + 2 * z 2 ∧ (x - 53) % 2 = 0 ∧ y = 2 then mI ν x y + Int32.ofNat (getW z ((x - 53) / 2)) else mI ν x y) : RT 23 (dayZ z) μ' := by
  have hb := hk.1
  have n0 := hb.nc
  have n1 := hb.no
  have n2 := hb.np
  have hkd := ok_day hk hN
  have D0 : ∀ x y, x ≠ 6 → x ≠ 7 → x ≠ 8 → ¬ (54 ≤ x ∧ x < 54 + 2 * z 2 ∧ (x - 54) % 2 = 0 ∧ y < 5) → ¬ (29 ≤ x ∧ x < 29 + 2 * z 0 ∧ (x - 29) % 2 = 0 ∧ y < 10) → ¬ (x = 23 ∧ (7 ≤ y ∧ y ≤ 11 ∧ y ≠ 10 ∨ y = 14)) → ¬ (48 ≤ x ∧ x < 48 + z 1 ∧ (y = 3 ∨ y = 4 ∨ y = 7)) → ¬ (53 ≤ x ∧ x < 53 + 2 * z 2 ∧ (x - 53) % 2 = 0 ∧ (y = 1 ∨ y = 2)) → mI μ' x y = mI μ x y := fun x y h6 h7 h8 a1 a2 a3 a4 a5 => by
    rw [D, if_neg a1, if_neg a2, if_neg (by omega), if_neg (by omega), if_neg (by omega), if_neg (by omega), if_neg (by omega), if_neg (by omega), if_neg (by omega), if_neg (by omega), if_neg (by omega), hν x y h6 h7 h8, if_neg (by omega), if_neg (by omega)]
  have ne : ∀ j, j ≠ 3 → j ≠ 4 → j ≠ 5 → j ≠ 10 → j < 123 → (56 ≤ j → j < 91 → (j - 56) % 7 ≠ 4 ∧ (j - 56) % 7 ≠ 3) → (91 ≤ j → (j - 91) % 4 = 0 ∨ (j - 91) % 4 = 3) → dayZ z j = z j := fun j h3 h4 h5 h10 h123 hp hg => dayZ_ne h3 h4 h5 h10 h123 hp hg n1 n2
  have nl : ∀ j, j ≠ 3 → j ≠ 4 → j ≠ 5 → j ≠ 10 → j < 56 → dayZ z j = z j := fun j h3 h4 h5 h10 h => ne j h3 h4 h5 h10 (by omega) (fun _ => by omega) (fun _ => by omega)
  have ehi : ∀ j, 123 ≤ j → j < 213 → dayZ z j = 0 := fun j h1 h2 => by
    unfold dayZ
    rw [if_neg (by omega), if_neg (by omega), if_neg (by omega), if_pos ⟨h1, h2⟩]
  have e1 : dayZ z 1 = z 1 := nl 1 (by decide) (by decide) (by decide) (by decide) (by decide)
  have ht0 : t0 (dayZ z) := fun o ho h hh => ehi _ (by omega) (by omega)
  have ep : plyS (dayZ z) = 0 := by
    have : plyS (dayZ z) = sum 50 (fun _ => 0) := sum_congr _ (fun i hi => by rw [ehi _ (by omega) (by omega), if_pos rfl])
    rw [this]
    rfl
  have hw := getW_sum (z := z)
  obtain ⟨-, -, -, -, hfu, hor, hpy, -⟩ := hk
  obtain ⟨⟨⟨q4, q5, q6, q7, q8, q9⟩, q10, q11, q12, q13, q14⟩, qs, qc, qo, qp⟩ := hr
  refine ⟨⟨⟨?_, ?_, ?_, ?_, ?_, ?_⟩, ?_, ?_, ?_, ?_, ?_⟩, fun i hi => ?_, fun c hc => ⟨fun w hw => ?_, fun w hw => ?_⟩, fun o ho => ⟨fun w hw h3 => ?_, ?_, ?_⟩, fun p hp => ⟨?_, fun w h1 hw => ?_, fun o ho => ?_⟩⟩
  · rw [D0 _ _ (by omega) (by omega) (by omega) (by omega) (by omega) (by omega) (by omega) (by omega), nl 0 (by decide) (by decide) (by decide) (by decide) (by decide)]; exact q4
  · rw [D0 _ _ (by omega) (by omega) (by omega) (by omega) (by omega) (by omega) (by omega) (by omega), e1]; exact q5
  · rw [D0 _ _ (by omega) (by omega) (by omega) (by omega) (by omega) (by omega) (by omega) (by omega), nl 2 (by decide) (by decide) (by decide) (by decide) (by decide)]; exact q6
  · rw [D, if_neg (by omega), if_neg (by omega), if_neg (by omega), if_neg (by omega), if_neg (by omega), if_neg (by omega), if_pos ⟨rfl, rfl⟩]; rfl
  · rw [D, if_neg (by omega), if_neg (by omega), if_neg (by omega), if_neg (by omega), if_neg (by omega), if_pos ⟨rfl, rfl⟩]; rfl
  · rw [D, if_neg (by omega), if_neg (by omega), if_neg (by omega), if_neg (by omega), if_pos ⟨rfl, rfl⟩]; rfl
  · rw [D0 _ _ (by omega) (by omega) (by omega) (by omega) (by omega) (by omega) (by omega) (by omega), nl 6 (by decide) (by decide) (by decide) (by decide) (by decide)]; exact q10
  · rw [D, if_neg (by omega), if_neg (by omega), if_neg (by omega), if_pos ⟨rfl, rfl⟩, ep]; rfl
  · rw [D0 _ _ (by omega) (by omega) (by omega) (by omega) (by omega) (by omega) (by omega) (by omega), nl 7 (by decide) (by decide) (by decide) (by decide) (by decide)]; exact q12
  · rw [D0 _ _ (by omega) (by omega) (by omega) (by omega) (by omega) (by omega) (by omega) (by omega), nl 9 (by decide) (by decide) (by decide) (by decide) (by decide)]; exact q13
  · have e10 : dayZ z 10 = fndW z := rfl
    rw [D, if_neg (by omega), if_neg (by omega), if_neg (by omega), if_neg (by omega), if_neg (by omega), if_neg (by omega), if_neg (by omega), if_neg (by omega), if_pos ⟨rfl, rfl⟩, e10]
    congr 1
    omega
  · rw [D0 _ _ (by omega) (by omega) (by omega) (by omega) (by omega) (by omega) (by omega) (by omega), nl _ (by omega) (by omega) (by omega) (by omega) (by omega)]; exact qs i hi
  · rw [D0 _ _ (by omega) (by omega) (by omega) (by omega) (by omega) (by omega) (by omega) (by omega), nl _ (by omega) (by omega) (by omega) (by omega) (by omega)]; exact (qc c hc).1 w hw
  · rw [noted0 hkd.1.no ht0 hw]
    by_cases q : c < z 0
    · rw [D, if_neg (by omega), if_pos (by omega)]
    · rw [D0 _ _ (by omega) (by omega) (by omega) (by omega) (by omega) (by omega) (by omega) (by omega), (qc c hc).2 w hw, noted_hi hb (by omega)]
  · by_cases w4 : w = 4
    · subst w4
      by_cases q : o < z 1
      · have e : dayZ z (56 + 7 * o + 4) = 0 := by
          unfold dayZ endZ
          rw [if_neg (by omega), if_neg (by omega), if_neg (by omega), if_neg (by omega), if_neg (by omega), if_neg (by omega), if_pos (by omega)]
        rw [D, if_neg (by omega), if_neg (by omega), if_neg (by omega), if_neg (by omega), if_neg (by omega), if_neg (by omega), if_neg (by omega), if_pos (by omega), e]
      · have e : dayZ z (56 + 7 * o + 4) = z (56 + 7 * o + 4) := by
          unfold dayZ endZ
          rw [if_neg (by omega), if_neg (by omega), if_neg (by omega), if_neg (by omega), if_neg (by omega), if_neg (by omega), if_neg (by omega), if_neg (by omega), if_neg (by omega)]
        rw [D0 _ _ (by omega) (by omega) (by omega) (by omega) (by omega) (by omega) (by omega) (by omega), e]
        exact (qo o ho).1 4 hw h3
    · rw [D0 _ _ (by omega) (by omega) (by omega) (by omega) (by omega) (by omega) (by omega) (by omega), ne _ (by omega) (by omega) (by omega) (by omega) (by omega) (fun _ _ => by omega) (fun _ => by omega)]; exact (qo o ho).1 w hw h3
  · by_cases q : o < z 1
    · have e : dayZ z (56 + 7 * o + 3) = 0 := by
        unfold dayZ
        rw [if_neg (by omega), if_neg (by omega), if_neg (by omega), if_neg (by omega), if_pos (by omega)]
      rw [D, if_neg (by omega), if_neg (by omega), if_pos (by omega), e]
    · have e : dayZ z (56 + 7 * o + 3) = z (56 + 7 * o + 3) := by
        unfold dayZ endZ
        rw [if_neg (by omega), if_neg (by omega), if_neg (by omega), if_neg (by omega), if_neg (by omega), if_neg (by omega), if_neg (by omega), if_neg (by omega), if_neg (by omega)]
      rw [D0 _ _ (by omega) (by omega) (by omega) (by omega) (by omega) (by omega) (by omega) (by omega), e]
      exact (qo o ho).2.1
  · have e4 : dayZ z 4 = 0 := rfl
    rw [e4, ehi _ (by omega) (by omega)]
    by_cases q : o < z 1
    · rw [D, if_neg (by omega), if_neg (by omega), if_neg (by omega), if_neg (by omega), if_neg (by omega), if_neg (by omega), if_neg (by omega), if_neg (by omega), if_neg (by omega), if_neg (by omega), if_neg (by omega), hν _ _ (by omega) (by omega) (by omega), if_neg (by omega), if_pos (by omega)]
    · rw [D0 _ _ (by omega) (by omega) (by omega) (by omega) (by omega) (by omega) (by omega) (by omega), (qo o ho).2.2, (hor o (by omega) ho).2 (z 4) (by have := hb.hr; omega)]
  · rw [D0 _ _ (by omega) (by omega) (by omega) (by omega) (by omega) (by omega) (by omega) (by omega), ne _ (by omega) (by omega) (by omega) (by omega) (by omega) (fun _ _ => by omega) (fun _ => by omega)]; exact (qp p hp).1
  · by_cases q : p < z 2
    · have hx : (23 + 30 + 2 * p - 53) / 2 = p := by omega
      by_cases w1 : w = 1
      · subst w1
        have e : dayZ z (91 + 4 * p + 1) = z (91 + 4 * p + 1) + shrS z p + getW z p := by
          have q9 : (91 + 4 * p + 1 - 91) / 4 = p := by omega
          unfold dayZ endZ
          rw [if_neg (by omega), if_neg (by omega), if_neg (by omega), if_neg (by omega), if_neg (by omega), if_neg (by omega), if_neg (by omega), if_pos (by omega), q9]
        rw [D, if_neg (by omega), if_neg (by omega), if_neg (by omega), if_neg (by omega), if_neg (by omega), if_neg (by omega), if_neg (by omega), if_neg (by omega), if_neg (by omega), if_pos (by omega), hν _ _ (by omega) (by omega) (by omega), if_neg (by omega), if_neg (by omega), (qp p hp).2.1 1 h1 hw, hx, i3_add, i3_add, e]
        congr 1
        omega
      · by_cases w2 : w = 2
        · subst w2
          have e : dayZ z (91 + 4 * p + 2) = z (91 + 4 * p + 2) + getW z p := by
            have q9 : (91 + 4 * p + 2 - 91) / 4 = p := by omega
            unfold dayZ endZ
            rw [if_neg (by omega), if_neg (by omega), if_neg (by omega), if_neg (by omega), if_neg (by omega), if_neg (by omega), if_neg (by omega), if_neg (by omega), if_pos (by omega), q9]
          rw [D, if_neg (by omega), if_neg (by omega), if_neg (by omega), if_neg (by omega), if_neg (by omega), if_neg (by omega), if_neg (by omega), if_neg (by omega), if_neg (by omega), if_neg (by omega), if_pos (by omega), hν _ _ (by omega) (by omega) (by omega), if_neg (by omega), if_neg (by omega), (qp p hp).2.1 2 h1 hw, hx, i3_add, e]
        · have w3 : w = 3 := by omega
          subst w3
          rw [D0 _ _ (by omega) (by omega) (by omega) (by omega) (by omega) (by omega) (by omega) (by omega), ne _ (by omega) (by omega) (by omega) (by omega) (by omega) (fun _ _ => by omega) (fun _ => by omega)]
          exact (qp p hp).2.1 3 h1 hw
    · have e : dayZ z (91 + 4 * p + w) = z (91 + 4 * p + w) := by
        unfold dayZ endZ
        rw [if_neg (by omega), if_neg (by omega), if_neg (by omega), if_neg (by omega), if_neg (by omega), if_neg (by omega), if_neg (by omega), if_neg (by omega), if_neg (by omega)]
      rw [D0 _ _ (by omega) (by omega) (by omega) (by omega) (by omega) (by omega) (by omega) (by omega), e]
      exact (qp p hp).2.1 w h1 hw
  · rw [ehi _ (by omega) (by omega)]
    by_cases q : p < z 2
    · rw [D, if_pos (by omega)]
    · rw [D0 _ _ (by omega) (by omega) (by omega) (by omega) (by omega) (by omega) (by omega) (by omega), (qp p hp).2.2 o ho, (hpy p (by omega) hp).2 o ho]
theorem t_endHour {N : Nat} (hr : RT 23 z μ) (hk : Okz N z) (hN : N ≤ 20020) : ∃ μ', d_Twn_endHour μ = some (.inl none, μ') ∧ FrC μ μ' ∧ RT 23 (nxtZ z) μ' := by
  have hb := hk.1
  have n0 := hb.nc
  have n1 := hb.no
  have n2 := hb.np
  have hh := hb.hr
  obtain ⟨μ1, a1, a2, a3⟩ := t_hour7 (r_f5 hr) n1 (z 1) (Nat.le_refl _)
  have b5 : mI μ1 23 5 = Int32.ofNat (z 1) := by rw [a3, if_neg (by omega), r_f5 hr]
  have b8 : mI μ1 23 8 = Int32.ofNat (z 4) := by rw [a3, if_neg (by omega), r_f8 hr]
  have dH : ∀ x y, mI (stI μ1 23 8 (Int32.ofNat (z 4 + 1))) x y = if x = 23 ∧ y = 8 then Int32.ofNat (z 4 + 1) else if y = 7 ∧ 48 ≤ x ∧ x < 48 + z 1 then pm 0 else mI μ x y := fun x y => by rw [st_get, a3]
  unfold nxtZ
  rw [e_Twn_endHour, a1, Twn_endHour_2_eq, b5, if_pos (le_y (Nat.le_refl _) (by omega)), b8, i3_add1]
  by_cases h : z 4 + 1 < 10
  · rw [if_pos (show Int32.ofNat (z 4 + 1) < 10 from lt_y (b := 10) h (by decide)), if_pos h]
    exact ⟨_, rfl, a2.st (by omega), rt_hour hr (fun o h1 h2 => (hk.2.2.2.2.2.1 o h1 h2).2 (z 4) (by omega)) (fun o ho => hk.2.2.2.2.1 o ho _ (by omega) h) dH n1⟩
  · rw [if_neg (show ¬ Int32.ofNat (z 4 + 1) < 10 from lt_n (b := 10) (by omega) (by omega)), if_neg h]
    have hE := hk.ed hN
    have hP : PT z (stI μ1 23 8 (Int32.ofNat (z 4 + 1))) := by
      refine ⟨?_, ?_, ?_, ?_, ?_, fun o ho => ?_, fun p hp o ho => ?_⟩
      · rw [dH, if_neg (by omega), if_neg (by omega), r_f5 hr]
      · rw [dH, if_neg (by omega), if_neg (by omega), r_f6 hr]
      · rw [dH, if_neg (by omega), if_neg (by omega), r_f9 hr]
      · rw [dH, if_neg (by omega), if_neg (by omega), r_f14 hr]
      · rw [dH, if_neg (by omega), if_neg (by omega), r_set hr (by decide)]
      · rw [dH, if_neg (by omega), if_neg (by omega), r_org hr ho (by decide) (by decide)]
      · rw [dH, if_neg (by omega), if_neg (by omega), r_tim hr hp ho]
    obtain ⟨μr, c1, c2, c3⟩ := t_reckon hP hE
    have hPr := hP.fr c2
    have hw := getW_sum (z := z)
    obtain ⟨μp, w, d1, d2, d3⟩ := t_payOut2 hPr n2 c3 (by omega) (z 2) (Nat.le_refl _)
    have p6 : mI μp 23 6 = Int32.ofNat (z 2) := by rw [d3, if_neg (by omega), if_neg (by omega), if_neg (by omega), hPr.2.1]
    have p5 : mI μp 23 5 = Int32.ofNat (z 1) := by rw [d3, if_neg (by omega), if_neg (by omega), if_neg (by omega), hPr.1]
    obtain ⟨μq, f1, f2, f3⟩ := t_payOut72 (w := w) p5 n1
    have hrb : ∀ x y, x ≠ 6 → x ≠ 7 → x ≠ 8 → mI μr x y = if x = 23 ∧ y = 8 then Int32.ofNat (z 4 + 1) else if y = 7 ∧ 48 ≤ x ∧ x < 48 + z 1 then pm 0 else mI μ x y := fun x y h6 h7 h8 => by rw [c2.2 x h6 h7 h8, dH]
    have q7 : mI μq 23 7 = Int32.ofNat (z 3) := by rw [f3, if_neg (by omega), d3, if_neg (by omega), if_neg (by omega), if_neg (by omega), hrb _ _ (by decide) (by decide) (by decide), if_neg (by omega), if_neg (by omega), r_f7 hr]
    have b51 : mI (stI (stI (stI (stI μq 23 7 (Int32.ofNat (z 3 + 1))) 23 8 0) 23 9 0) 23 11 0) 23 5 = Int32.ofNat (z 1) := by
      rw [st_get, if_neg (by omega), st_get, if_neg (by omega), st_get, if_neg (by omega), st_get, if_neg (by omega), f3, if_neg (by omega), p5]
    obtain ⟨μn, g1, g2, g3⟩ := t_noCorners b51 n1
    have n4 : mI μn 23 4 = Int32.ofNat (z 0) := by
      rw [g3, if_neg (by omega), st_get, if_neg (by omega), st_get, if_neg (by omega), st_get, if_neg (by omega), st_get, if_neg (by omega), f3, if_neg (by omega), d3, if_neg (by omega), if_neg (by omega), if_neg (by omega), hrb _ _ (by decide) (by decide) (by decide), if_neg (by omega), if_neg (by omega), r_f4 hr]
    obtain ⟨μc, k1, k2, k3⟩ := t_forgetCs n4 n0
    have c6 : mI μc 23 6 = Int32.ofNat (z 2) := by
      rw [k3, if_neg (by omega), g3, if_neg (by omega), st_get, if_neg (by omega), st_get, if_neg (by omega), st_get, if_neg (by omega), st_get, if_neg (by omega), f3, if_neg (by omega), p6]
    obtain ⟨μf, l1, l2, l3⟩ := t_forgetPs c6 n2
    refine ⟨μf, ?_, ?_, rt_day hr hk hN hrb (fun x y => by rw [l3, k3, g3, st_get, st_get, st_get, st_get, f3, d3])⟩
    · rw [c1, bV_r, e_Twn_payOut, d1, Twn_payOut_2_eq, p6, if_pos (le_y (Nat.le_refl _) (by omega)), f1, bV_r, e_Twn_beginDay, lt_b, q7, i3_add1, g1, bV_r, k1, l1]
      rfl
    · exact (((((((a2.st (by omega)).tr c2.frC).tr d2).tr f2).st (by omega)).st (by omega)).st (by omega)).st (by omega) |>.tr g2 |>.tr k2 |>.tr l2
theorem nxtZ_4 (hh : z 4 ≤ 9) : nxtZ z 4 = if z 4 + 1 < 10 then z 4 + 1 else 0 := by
  unfold nxtZ
  by_cases h : z 4 + 1 < 10
  · rw [if_pos h, if_pos h, setN_self]
  · rw [if_neg h, if_neg h]
    rfl
end NEXT3
