/-! THE LAW LOOKS AHEAD: what the class says of what would be -/
section LAHEAD
variable {z : Nat → Nat} {μ μ1 ν : PM} {N : Nat}
theorem c_ifEnded {i : Nat} (hr : RT 23 z μ) (hk : Okz N z) (hN : N ≤ 20020) (hi : i < z 2) : ∃ μ', d_Oc_ifEnded (Int32.ofNat i) μ = rI (Int32.ofNat (shrS z i + getW z i)) μ' ∧ ScC μ μ' := by
  have hp := hk.1.np
  obtain ⟨μ1, a1, a2, a3⟩ := t_reckon (PT_of hr) (hk.ed hN)
  exact ⟨μ1, by rw [e_Oc_ifEnded, r_f6 hr, reqI_y hi (by omega), bV_r, a1, bV_r, chk_t (i3_inb (by omega) (by decide)), i3_nat (by omega), (a3 i hi).1, (a3 i hi).2, i3_add], a2.sc⟩
theorem c_most {b : Nat × Nat} (hk : Okz N z) (hb : isBest z b) (hr : RT 23 z μ) : (∃ μ', d_Oc_most 0 μ = rI (Int32.ofNat b.1) μ' ∧ ScC μ μ') ∧ ∃ μ', d_Oc_most 1 μ = rI (Int32.ofNat b.2) μ' ∧ ScC μ μ' := by
  obtain ⟨r, h1, h2⟩ := x_most hk.1 hk.2.1
  have e := isBest.uni h1 hb
  subst e
  obtain ⟨μ1, μ2, a1, a2, a3, a4, a5⟩ := h2 μ hr
  have r0 : d_Oc_requireInRange 0 0 1 μ = some (.inl none, μ) := reqR_y (i := 0) (a := 0) (n := 1) (Nat.le_refl _) (by decide) (by decide)
  have r1 : d_Oc_requireInRange 1 0 1 μ = some (.inl none, μ) := reqR_y (i := 1) (a := 0) (n := 1) (by decide) (by decide) (by decide)
  refine ⟨⟨μ2, ?_, a3⟩, ⟨μ2, ?_, a3⟩⟩
  · rw [e_Oc_most, r0, bV_r, a1, bV_r, a2, bV_r, if_neg ne_0, a4]
  · rw [e_Oc_most, r1, bV_r, a1, bV_r, a2, bV_r, if_pos (by decide), a5]
theorem dl_q (q j : Nat) : dl (4 * q + j) = dl j := by
  unfold dl
  rw [show (4 * q + j) % 4 = j % 4 by omega]
theorem nw_ne {x : Nat} (h : x ≠ 430 + μ.2.2.2) : mI (newM μ) x = mI μ x := by
  funext y
  show (bif Nat.beq x (430 + μ.2.2.2) then 0 else μ.1 x y) = μ.1 x y
  have : Nat.beq x (430 + μ.2.2.2) = false := by
    cases e : Nat.beq x (430 + μ.2.2.2) with
    | false => rfl
    | true => exact absurd (Nat.eq_of_beq_eq_true e) h
  rw [this]
  rfl
theorem nw_k : (newM μ).2.2.2 = μ.2.2.2 + 1 := rfl
theorem AA.dyn {i n : Nat} (h : i < μ.2.2.2) (hn : dl i = n) : AA (430 + i) n μ := by
  refine ⟨Or.inr (cls_dyn i), ?_, by rw [len_dyn, hn]⟩
  unfold okA
  rw [cls_dyn]
  have : Nat.blt (430 + i) (430 + μ.2.2.2) = true := by
    unfold Nat.blt
    exact Nat.ble_eq_true_of_le (by omega)
  rw [this]
  rfl
/-- what looking ahead leaves alone -/
def AFr (μ μ' : PM) : Prop := μ'.2.1 = μ.2.1 ∧ μ'.2.2.1 = μ.2.2.1 ∧ μ'.2.2.2 = μ.2.2.2 + 4 ∧ ∀ x, (x < 5 ∨ 12 ≤ x) → x < 430 → mI μ' x = mI μ x
theorem l_499 {k8 ko kp kc : Nat} {x9 x10 : Int32} {w15 w16 w17 : Value} (hr : RT 23 z μ) (hl : LT z μ) (hk : Okz N z) (hN : N ≤ 20020) (h8 : AR k8) (hA : EA ko kp kc μ) (hkp : 430 ≤ kp) (hE : En ko kp kc (endZ z) μ) : ∃ μ', Lw_ahead_499 k8 x9 x10 ko kp kc 0 w15 w16 w17 μ = rI 1 μ' ∧ ScC μ μ' := by
  have hb := hk.1
  have hn1 := hb.no
  have hn2 := hl.1.2.2
  have hz2 : endZ z 2 = z 2 := endZ_ne (by decide) (by omega) (by omega) hb.no hb.np
  have key : ∀ m, m ≤ z 2 → ∃ μ', Lw_ahead_499 k8 x9 x10 ko kp kc 0 w15 w16 w17 μ = Lw_ahead_499 k8 x9 x10 ko kp kc (Int32.ofNat m) w15 w16 w17 μ' ∧ ScC μ μ' := by
    intro m
    induction m with
    | zero => intro _; exact ⟨μ, rfl, ScC.rf⟩
    | succ m ih =>
      intro hm
      obtain ⟨μ1, a1, a2⟩ := ih (by omega)
      obtain ⟨μ2, b1, b2⟩ := c_ifEnded (a2.rt hr) hk hN (show m < z 2 by omega)
      have a3 := a2.tr b2
      have hl1 : LT z μ1 := hl.fr (fun x hx => a2.2 x (by omega))
      have hl2 : LT z μ2 := hl.fr (fun x hx => a3.2 x (by omega))
      have ev : mI μ2 kp (4 * m + 1) = Int32.ofNat (z (91 + 4 * m + 1) + shrS z m + getW z m) := by
        rw [a3.2 kp (by omega), p_w hE.2.1 (by omega) (by decide) (by decide)]
        have : endZ z (91 + 4 * m + 1) = z (91 + 4 * m + 1) + shrS z m + getW z m := by
          unfold endZ
          rw [if_neg (by omega), if_neg (by omega), if_pos (by omega), show (91 + 4 * m + 1 - 91) / 4 = m by omega]
        rw [this]
      refine ⟨μ2, ?_, a3⟩
      rw [a1, Lw_ahead_499_eq _ _ _ _ _ _ _ _ _ _ _ h8 hA.1.1.1 hA.1.2.1.1 hA.1.2.2.1, a_n2 hl1, if_neg (le_n (by omega) (by omega)), b1, bI_r, k4, ka1, chk_t ((hA.1.2.1.fr a3.1).ix (by omega) (by decide)), chk_t (i3_inb (by omega) (by decide)), i3_nat (by omega), ev, a_p hl2 (by omega) (by decide) (by decide), i3_sub (by omega), show z (91 + 4 * m + 1) + shrS z m + getW z m - z (91 + 4 * m + 1) = shrS z m + getW z m by omega, if_pos rfl, i3_add1]
  obtain ⟨μ1, a1, a2⟩ := key (z 2) (Nat.le_refl _)
  refine ⟨μ1, ?_, a2⟩
  have hl1 : LT z μ1 := hl.fr (fun x hx => a2.2 x (by omega))
  rw [a1, Lw_ahead_499_eq _ _ _ _ _ _ _ _ _ _ _ h8 hA.1.1.1 hA.1.2.1.1 hA.1.2.2.1, a_n2 hl1, if_pos (le_y (Nat.le_refl _) (by omega))]
theorem l_ahead {q : Nat} (hr : RT 23 z μ) (hl : LT z μ) (hk : Okz N z) (hN : N ≤ 20020) (hq : μ.2.2.2 = 4 * q) : ∃ μ', d_Lw_ahead μ = rI 1 μ' ∧ AFr μ μ' := by
  have hb := hk.1
  have d0 : dl (4 * q) = 30 := dl_q q 0
  have d1 : dl (4 * q + 1) = 21 := dl_q q 1
  have d2 : dl (4 * q + 1 + 1) = 16 := dl_q q 2
  have d3 : dl (4 * q + 1 + 1 + 1) = 11 := dl_q q 3
  have n0 : ∀ x, x < 430 → mI (newM μ) x = mI μ x := fun x hx => nw_ne (by omega)
  have kA : (newM μ).2.2.2 = 4 * q + 1 := by rw [nw_k, hq]
  have hTA : TA (430 + 4 * q) (newM μ) := AA.dyn (by rw [kA]; omega) d0
  have hlA : LT z (newM μ) := hl.fr (fun x hx => n0 x (by omega))
  have hrA : RT 23 z (newM μ) := RT_fr (fun x y hx hx2 => by rw [n0 x (by omega)]) hr
  obtain ⟨μB, u12, u13, u14, hB1, hB2⟩ := l_kind9 (k8 := 430 + 4 * q) hrA hlA hTA (by omega) hk
  have hlB := hB2.lt (by omega) hlA
  obtain ⟨μC, b, v12, v13, v14, v15, v16, v17, hC1, hC2, hbest⟩ := l_224 (w12 := u12) (w13 := u13) (w14 := u14) hlB (hTA.fr hB2.1) (by omega) hk
  have fC := hB2.tr hC2
  have hrC := fC.rt (by omega) hrA
  obtain ⟨μD, hD1, hD2⟩ := (c_most hk hbest hrC).1
  obtain ⟨μE, hE1, hE2⟩ := (c_most hk hbest (hD2.rt hrC)).2
  have fE := fC.tr (HF.sc (hD2.tr hE2))
  have kE : μE.2.2.2 = 4 * q + 1 := by rw [fE.1, kA]
  have xE : ∀ x, (x < 5 ∨ 12 ≤ x) → x < 430 → mI μE x = mI μ x := fun x h1 h2 => by rw [fE.2 x h1 (by omega), n0 x h2]
  have kF : (newM (newM (newM μE))).2.2.2 = 4 * q + 4 := by rw [nw_k, nw_k, nw_k, kE]
  have xF : ∀ x, (x < 5 ∨ 12 ≤ x) → x < 430 → mI (newM (newM (newM μE))) x = mI μ x := fun x h1 h2 => by
    rw [nw_ne (by rw [nw_k, nw_k, kE]; omega), nw_ne (by rw [nw_k, kE]; omega), nw_ne (by rw [kE]; omega), xE x h1 h2]
  have sF1 : (newM (newM (newM μE))).2.1 = μ.2.1 := by
    show μE.2.1 = μ.2.1
    rw [fE.1]
    rfl
  have sF2 : (newM (newM (newM μE))).2.2.1 = μ.2.2.1 := by
    show μE.2.2.1 = μ.2.2.1
    rw [fE.1]
    rfl
  generalize hF : newM (newM (newM μE)) = μF at kF xF sF1 sF2
  have ao : AA (430 + (4 * q + 1)) 21 μF := AA.dyn (by omega) d1
  have ap : AA (430 + (4 * q + 1 + 1)) 16 μF := AA.dyn (by omega) d2
  have ac : AA (430 + (4 * q + 1 + 1 + 1)) 11 μF := AA.dyn (by omega) d3
  have ea0 := LT.ea (μ := μF)
  obtain ⟨μG, g1, g2, g3, g4⟩ := l_same ao ea0.1.1 (by decide) (by omega)
  obtain ⟨μH, h1, h2, h3, h4⟩ := l_same (ap.fr g2) (ea0.1.2.1.fr g2) (by decide) (by omega)
  obtain ⟨μK, k1, k2, k3, k4⟩ := l_same ((ac.fr g2).fr h2) ((ea0.1.2.2.fr g2).fr h2) (by decide) (by omega)
  have sK : μK.2 = μF.2 := k2.trans (h2.trans g2)
  have xK : ∀ x, x < 430 → mI μK x = mI μF x := fun x hx => by rw [k3 x (by omega), h3 x (by omega), g3 x (by omega)]
  have lK : LT z μK := hl.fr (fun x hx => by rw [xK x (by omega), xF x (by omega) (by omega)])
  have rK : RT 23 z μK := RT_fr (fun x y hx hx2 => by rw [xK x (by omega), xF x (by omega) (by omega)]) hr
  have hEA : EA (430 + (4 * q + 1)) (430 + (4 * q + 1 + 1)) (430 + (4 * q + 1 + 1 + 1)) μK := ⟨⟨ao.fr sK, ap.fr sK, ac.fr sK⟩, by omega, by omega, by omega⟩
  have hEn : En (430 + (4 * q + 1)) (430 + (4 * q + 1 + 1)) (430 + (4 * q + 1 + 1 + 1)) z μK := by
    refine ⟨fun j hj => ?_, fun j hj w => ?_, fun j hj => ?_⟩
    · rw [k3 _ (by omega), h3 _ (by omega), g4 j hj, xF 13 (by decide) (by decide)]
      exact hl.2.2.1 j hj
    · rw [k3 _ (by omega), h4 j hj, g3 14 (by omega), xF 14 (by decide) (by decide)]
      exact hl.2.2.2.1 j hj w
    · rw [k4 j hj, h3 18 (by omega), g3 18 (by omega), xF 18 (by decide) (by decide)]
      exact hl.2.2.2.2.2.2.2 j hj
  obtain ⟨μL, l1, l2, l3⟩ := l_ends hEA ⟨lK.2.2.2.2.1, a_s lK (i := 4) (by decide)⟩ (hk.ed hN) hl.1.2.1 hl.1.2.2 (fun p hp => ⟨hi_tim hk (by omega) (by have := hl.1.2.1; omega) (by decide), hi_tim hk (by omega) (by have := hl.1.2.1; omega) (by decide)⟩) hEn
  have lL : LT z μL := lK.fr (fun x hx => l2.2 x (by omega) (by omega) (by omega))
  have rL : RT 23 z μL := RT_fr (fun x y hx hx2 => by rw [l2.2 x (by omega) (by omega) (by omega)]) rK
  obtain ⟨μM, m1, m2⟩ := l_499 (k8 := 430 + 4 * q) (x9 := Int32.ofNat b.1) (x10 := Int32.ofNat b.2) (w15 := v15) (w16 := v16) (w17 := v17) rL lL hk hN (Or.inr (cls_dyn _)) (hEA.fr l2.1) (by omega) l3
  refine ⟨μM, ?_, ?_⟩
  · rw [e_Lw_ahead, hq, d0, chk_t (show (30 : Int32) = Int32.ofNat 30 from rfl), hB1, hC1, Lw_ahead_224_eq _ _ _ _ _ _ _ _ _ _ _ hTA.1, if_pos (show (1331 : Int32) ≤ Int32.ofNat 1331 by decide), hD1, bI_r, if_neg ne_0, hE1, bI_r, if_pos rfl, nw_k, nw_k, nw_k, kE, d1, d2, d3, chk_t (show (21 : Int32) = Int32.ofNat 21 from rfl), chk_t (show (16 : Int32) = Int32.ofNat 16 from rfl), chk_t (show (11 : Int32) = Int32.ofNat 11 from rfl), lt_b, hF, g1, bV_r, h1, bV_r, k1, bV_r, l1, bV_r]
    exact m1
  · have s0 : μM.2 = μF.2 := m2.1.trans (l2.1.trans sK)
    refine ⟨by rw [s0, sF1], by rw [s0, sF2], by rw [s0, kF, hq], fun x a1 a2 => ?_⟩
    rw [m2.2 x a1, l2.2 x (by omega) (by omega) (by omega), xK x a2, xF x a1 a2]
end LAHEAD
