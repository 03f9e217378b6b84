/-! SEMANTICS: play, as the law makes it -/
section PLAY3
variable {z : Nat → Nat} {μ : PM}
theorem div_bd {o all : Nat} (hb : Bd z) (ho : o < 5) (ha : all ≤ 90) (hbig : ∀ k, k < 91 → 7 ≤ k → z k ≤ 2000000000) : Bd (divZ z o all) := by
  have h1 := prt_le (all := all) hb
  have h2 := fnd_le (all := all) hb
  have h3 := own_le (o := o) (all := all) hb ho
  have g10 := hbig 10 (by decide) (by decide)
  have g9 := hbig 9 (by decide) (by decide)
  have g5 := hbig (56 + 7 * o + 5) (by omega) (by omega)
  have g4 := hbig (56 + 7 * o + 4) (by omega) (by omega)
  have g6 := hbig (56 + 7 * o + 6) (by omega) (by omega)
  have b1 : Bd (setN z 10 (z 10 + fndN z all)) := hb.set (by unfold okV; omega)
  have b2 : Bd (setN (setN z 10 (z 10 + fndN z all)) 9 (z 9 + (prtN z all - fndN z all))) := b1.set (by unfold okV; omega)
  have b3 : Bd (setN (setN (setN z 10 (z 10 + fndN z all)) 9 (z 9 + (prtN z all - fndN z all))) (56 + 7 * o + 5) (z (56 + 7 * o + 5) + ownN z o all)) := b2.set (by unfold okV; omega)
  have b4 : Bd (setN (setN (setN (setN z 10 (z 10 + fndN z all)) 9 (z 9 + (prtN z all - fndN z all))) (56 + 7 * o + 5) (z (56 + 7 * o + 5) + ownN z o all)) (56 + 7 * o + 4) (z (56 + 7 * o + 4) + ((all - prtN z all) - ownN z o all))) := b3.set (by unfold okV; omega)
  exact b4.set (by unfold okV; omega)
theorem divZ_ne {o all j : Nat} (h1 : j ≠ 10) (h2 : j ≠ 9) (h3 : j ≠ 56 + 7 * o + 5) (h4 : j ≠ 56 + 7 * o + 4) (h5 : j ≠ 56 + 7 * o + 6) : divZ z o all j = z j := by
  unfold divZ
  rw [setN_ne h5, setN_ne h4, setN_ne h3, setN_ne h2, setN_ne h1]
/-- what is small behind at most N orders -/
theorem Okz.small {N : Nat} (hk : Okz N z) (hN : N ≤ 20020) : (∀ k, k < 91 → 7 ≤ k → z k ≤ 2000000000) ∧ (∀ p, p < 8 → z (91 + 4 * p + 3) ≤ 20020) := by
  obtain ⟨hb, hpl, hdj, ht, hfu, hor, hpy, htm, hpt, hph, hcs, a, b, c, d, e⟩ := hk
  have hn := hb.no
  refine ⟨fun k h1 h2 => ?_, fun p hp => Nat.le_trans (d p hp) hN⟩
  by_cases k8 : k ≤ 10
  · rcases (show k = 7 ∨ k = 8 ∨ k = 9 ∨ k = 10 by omega) with rfl | rfl | rfl | rfl <;> omega
  · by_cases k16 : k < 16
    · have := hb.s0; have := hb.s1; have := hb.s2; have := hb.s3; have := hb.s4
      rcases (show k = 11 ∨ k = 12 ∨ k = 13 ∨ k = 14 ∨ k = 15 by omega) with rfl | rfl | rfl | rfl | rfl <;> omega
    · by_cases k56 : k < 56
      · have h3 := hb.cor ((k - 16) / 4) (by omega)
        rcases (show k = 16 + 4 * ((k - 16) / 4) ∨ k = 16 + 4 * ((k - 16) / 4) + 1 ∨ k = 16 + 4 * ((k - 16) / 4) + 2 ∨ k = 16 + 4 * ((k - 16) / 4) + 3 by omega) with q | q | q | q <;> rw [q] <;> omega
      · have ho : (k - 56) / 7 < 5 := by omega
        have hall : ∀ w, 4 ≤ w → w < 7 → z (56 + 7 * ((k - 56) / 7) + w) ≤ z 8 := fun w h4 h7 => by
          by_cases h9 : (k - 56) / 7 < z 1
          · have := sum_ge (f := fun o => z (56 + 7 * o + w)) (z 1) _ h9
            have h10 : orgS z w ≤ z 8 := by
              rcases (show w = 4 ∨ w = 5 ∨ w = 6 by omega) with rfl | rfl | rfl <;> omega
            exact Nat.le_trans this h10
          · rw [(hor _ (by omega) ho).1 w h7]; omega
        have h3 := hb.org ((k - 56) / 7) ho
        have hnc := hb.nc
        have h4 := hall 4 (by decide) (by decide)
        have h5 := hall 5 (by decide) (by decide)
        have h6 := hall 6 (by decide) (by decide)
        rcases (show k = 56 + 7 * ((k - 56) / 7) ∨ k = 56 + 7 * ((k - 56) / 7) + 1 ∨ k = 56 + 7 * ((k - 56) / 7) + 2 ∨ k = 56 + 7 * ((k - 56) / 7) + 3 ∨ k = 56 + 7 * ((k - 56) / 7) + 4 ∨ k = 56 + 7 * ((k - 56) / 7) + 5 ∨ k = 56 + 7 * ((k - 56) / 7) + 6 by omega) with q | q | q | q | q | q | q <;> rw [q] <;> omega
theorem crew_has {o : Nat} (h : crew z o ≠ 0) : ∃ p, p < z 2 ∧ z (91 + 4 * p) = o + 1 := by
  refine Classical.byContradiction fun q => h ?_
  have : crew z o = sum (z 2) (fun _ => 0) := sum_congr _ (fun p hp => if_neg (fun e => q ⟨p, hp, e⟩))
  rw [this]
  have := sum_le (f := fun _ => 0) (b := 0) (z 2) (fun i _ => Nat.le_refl _)
  omega
theorem ok_play {N o t : Nat} (hk : Okz N z) (hN : N ≤ 20020) (ho : o < z 1) (ht : t < 10) (hat : z (56 + 7 * o + 3) ≠ 0) (hcr : crew z o ≠ 0) (h0 : z (163 + 10 * o + z 4) = 0) : Okz (N + 1) (plaZ z o t) ∧ Bd (crewZ o (z 2) (divZ z o (takN z o (othN z o)))) := by
  obtain ⟨hsm, hhs⟩ := hk.small hN
  obtain ⟨hb, hpl, hdj, ht8, hfu, hor, hpy, htm, hpt, hph, hcs, a, b, c, d, e⟩ := hk
  have hn := hb.no
  have hp2 := hb.np
  have hh := hb.hr
  have ho5 : o < 5 := by omega
  have ha := tak_le (k := othN z o) hb ho5 hat
  have l1 := prt_le (all := takN z o (othN z o)) hb
  have l2 := fnd_le (all := takN z o (othN z o)) hb
  have l3 := own_le (o := o) (all := takN z o (othN z o)) hb ho5
  have hc9 := cnt_le h0 (show z 4 < 10 by omega)
  have bD := div_bd hb ho5 ha hsm
  have bC : Bd (crewZ o (z 2) (divZ z o (takN z o (othN z o)))) := crewZ_bd bD ho5 (fun p hp => by rw [divZ_ne (by omega) (by omega) (by omega) (by omega) (by omega)]; exact Nat.le_trans (htm p hp o ho5) hc9) (fun p hp => by rw [divZ_ne (by omega) (by omega) (by omega) (by omega) (by omega)]; have := hhs p hp; omega) (z 2) hp2
  have c4 : crewZ o (z 2) (divZ z o (takN z o (othN z o))) 4 = z 4 := by rw [crewZ_out ho5 hp2 (by omega), divZ_ne (by omega) (by omega) (by omega) (by omega) (by omega)]
  have c7 : crewZ o (z 2) (divZ z o (takN z o (othN z o))) 7 = z 7 := by rw [crewZ_out ho5 hp2 (by omega), divZ_ne (by omega) (by omega) (by omega) (by omega) (by omega)]
  have bP : Bd (plaZ z o t) := by
    unfold plaZ notZ
    rw [c4, c7]
    refine ((bC.set ?_).set ?_).set ?_
    · unfold okV; omega
    · unfold okV; omega
    · unfold okV; omega
  refine ⟨?_, bC⟩
  have gg := plaZ_get (t := t) hb ho5
  have ne : ∀ j, j ≠ 163 + 10 * o + z 4 → (j < 7 ∨ 10 < j) → j ≠ 56 + 7 * o + 4 → j ≠ 56 + 7 * o + 5 → j ≠ 56 + 7 * o + 6 → ¬ crwAt z o (z 2) j → plaZ z o t j = z j := fun j q1 q2 q3 q4 q5 q6 => (gg j).2.2.2.2.2.2.2.2.2 q1 (by omega) (by omega) (by omega) (by omega) q3 q4 q5 q6
  have nc : ∀ j, (j < 91 ∨ 163 ≤ j) → ¬ crwAt z o (z 2) j := fun j hj ⟨p, q1, q2, q3⟩ => by omega
  have v0 : plaZ z o t (163 + 10 * o + z 4) = t + 1 := (gg _).1 rfl
  have v7 : plaZ z o t 7 = z 7 + 1 := (gg 7).2.1 rfl
  have v8 : plaZ z o t 8 = z 8 + takN z o (othN z o) := (gg 8).2.2.1 rfl
  have v9 := (gg 9).2.2.2.1 rfl
  have v10 := (gg 10).2.2.2.2.1 rfl
  have vo4 := (gg (56 + 7 * o + 4)).2.2.2.2.2.1 rfl
  have vo5 := (gg (56 + 7 * o + 5)).2.2.2.2.2.2.1 rfl
  have vo6 := (gg (56 + 7 * o + 6)).2.2.2.2.2.2.2.1 rfl
  have vc : ∀ j, crwAt z o (z 2) j → plaZ z o t j = z j + 1 := fun j q => (gg j).2.2.2.2.2.2.2.2.1 q
  have e1 : plaZ z o t 1 = z 1 := ne 1 (by omega) (by omega) (by omega) (by omega) (by omega) (nc _ (by omega))
  have e2 : plaZ z o t 2 = z 2 := ne 2 (by omega) (by omega) (by omega) (by omega) (by omega) (nc _ (by omega))
  have e4 : plaZ z o t 4 = z 4 := ne 4 (by omega) (by omega) (by omega) (by omega) (by omega) (nc _ (by omega))
  have eo : ∀ w, 4 ≤ w → w < 7 → orgS (plaZ z o t) w + z (56 + 7 * o + w) = orgS z w + plaZ z o t (56 + 7 * o + w) := fun w h1 h2 => by
    unfold orgS
    rw [e1]
    exact sum_one (f := fun i => z (56 + 7 * i + w)) (f' := fun i => plaZ z o t (56 + 7 * i + w)) (m := o) (z 1) ho (fun i hi hne => ne _ (by omega) (by omega) (by omega) (by omega) (by omega) (nc _ (by omega)))
  have s4 := eo 4 (by decide) (by decide)
  have s5 := eo 5 (by decide) (by decide)
  have s6 := eo 6 (by decide) (by decide)
  have eg : gotS (plaZ z o t) = gotS z := by
    unfold gotS
    rw [e2]
    exact sum_congr _ (fun i hi => ne _ (by omega) (by omega) (by omega) (by omega) (by omega) (fun ⟨p, q1, q2, q3⟩ => by omega))
  have ec : ∀ o', o' < 5 → o' ≠ o → cntT (plaZ z o t) o' = cntT z o' := fun o' h1 h2 => sum_congr _ (fun i hi => by rw [ne _ (by omega) (by omega) (by omega) (by omega) (by omega) (nc _ (by omega))])
  have eco : cntT (plaZ z o t) o = cntT z o + 1 := by
    have := sum_one (f := fun h => if z (163 + 10 * o + h) = 0 then 0 else 1) (f' := fun h => if plaZ z o t (163 + 10 * o + h) = 0 then 0 else 1) (m := z 4) 10 (by omega) (fun i hi hne => by rw [ne _ (by omega) (by omega) (by omega) (by omega) (by omega) (nc _ (by omega))])
    have this2 : cntT (plaZ z o t) o + (if z (163 + 10 * o + z 4) = 0 then 0 else 1) = cntT z o + (if plaZ z o t (163 + 10 * o + z 4) = 0 then 0 else 1) := this
    rw [h0, v0, if_pos rfl, if_neg (by omega)] at this2
    exact this2
  have hat' : ∀ o', o' < 5 → plaZ z o t (56 + 7 * o' + 3) = z (56 + 7 * o' + 3) := fun o' h => ne _ (by omega) (by omega) (by omega) (by omega) (by omega) (nc _ (by omega))
  have htun : ∀ o', o' < 5 → ∀ h, h < 10 → (o' ≠ o ∨ h ≠ z 4) → plaZ z o t (163 + 10 * o' + h) = z (163 + 10 * o' + h) := fun o' h1 h h2 h3 => ne _ (by omega) (by omega) (by omega) (by omega) (by omega) (nc _ (by omega))
  refine ⟨bP, fun o' ho' h hh' q => ?_, fun o' x ho' hx q r => ?_, ?_, fun o' ho' h h1 h2 => ?_, fun o' h1 ho' => ⟨fun w hw => ?_, fun h hh' => ?_⟩, fun p h1 hp => ⟨fun w hw => ?_, fun o' ho' => ?_⟩, fun p hp o' ho' => ?_, fun o' ho' => ?_, fun o' ho' q => ?_, ?_, ?_, ?_, ?_, fun p hp => ?_, fun p hp => ?_⟩
  · rw [hat' o' ho']
    by_cases q1 : o' = o
    · subst q1; exact hat
    · rw [htun o' ho' h hh' (Or.inl q1)] at q
      exact hpl o' ho' h hh' q
  · rw [hat' o' ho'] at q
    rw [hat' o' ho', hat' x hx] at r
    exact hdj o' x ho' hx q r
  · omega
  · rw [e4] at h1
    rw [htun o' ho' h h2 (Or.inr (by omega))]
    exact hfu o' ho' h h1 h2
  · rw [e1] at h1
    rw [ne _ (by omega) (by omega) (by omega) (by omega) (by omega) (nc _ (by omega))]
    exact (hor o' h1 ho').1 w hw
  · rw [e1] at h1
    rw [htun o' ho' h hh' (Or.inl (by omega))]
    exact (hor o' h1 ho').2 h hh'
  · rw [e2] at h1
    rw [ne _ (by omega) (by omega) (by omega) (by omega) (by omega) (fun ⟨p, q1, q2, q3⟩ => by omega)]
    exact (hpy p h1 hp).1 w hw
  · rw [e2] at h1
    rw [ne _ (by omega) (by omega) (by omega) (by omega) (by omega) (fun ⟨p, q1, q2, q3⟩ => by omega)]
    exact (hpy p h1 hp).2 o' ho'
  · have h1 := htm p hp o' ho'
    by_cases q1 : o' = o
    · subst q1
      rw [eco]
      by_cases q2 : crwAt z o' (z 2) (123 + 5 * p + o')
      · rw [vc _ q2]; omega
      · rw [ne _ (by omega) (by omega) (by omega) (by omega) (by omega) q2]; omega
    · rw [ec o' ho' q1, ne _ (by omega) (by omega) (by omega) (by omega) (by omega) (fun ⟨p, q1, q2, q3⟩ => by omega)]
      exact h1
  · have h1 := hpt o' ho'
    by_cases q1 : o' = o
    · subst q1
      rw [eco, vo4]; omega
    · rw [ec o' ho' q1, ne _ (by omega) (by omega) (by omega) (by omega) (by omega) (nc _ (by omega))]
      exact h1
  · by_cases q1 : o' = o
    · subst q1
      obtain ⟨p, g1, g2⟩ := crew_has hcr
      exact ⟨p, by omega, by rw [vc _ ⟨p, g1, g2, Or.inl rfl⟩]; omega⟩
    · rw [ne _ (by omega) (by omega) (by omega) (by omega) (by omega) (nc _ (by omega))] at q
      obtain ⟨p, g1, g2⟩ := hph o' ho' q
      exact ⟨p, g1, by rw [ne _ (by omega) (by omega) (by omega) (by omega) (by omega) (fun ⟨p, q1, q2, q3⟩ => by omega)]; exact g2⟩
  · omega
  · omega
  · omega
  · rw [ne 3 (by omega) (by omega) (by omega) (by omega) (by omega) (nc _ (by omega))]; omega
  · have h1 := d p hp
    by_cases q2 : crwAt z o (z 2) (91 + 4 * p + 3)
    · rw [vc _ q2]; omega
    · rw [ne _ (by omega) (by omega) (by omega) (by omega) (by omega) q2]; omega
  · rw [ne _ (by omega) (by omega) (by omega) (by omega) (by omega) (fun ⟨p, q1, q2, q3⟩ => by omega), ne _ (by omega) (by omega) (by omega) (by omega) (by omega) (fun ⟨p, q1, q2, q3⟩ => by omega)]
    exact e p hp
theorem t_play {N o t : Nat} (hr : RT 23 z μ) (hk : Okz N z) (hN : N ≤ 20020) (ho : o < z 1) (ht : t < 10) (hat : z (56 + 7 * o + 3) ≠ 0) (hcr : crew z o ≠ 0) (h0 : z (163 + 10 * o + z 4) = 0) : ∃ μ', d_Twn_playTune (Int32.ofNat o) (Int32.ofNat t) μ = rI (Int32.ofNat (takN z o (othN z o))) μ' ∧ FrC μ μ' ∧ RT 23 (plaZ z o t) μ' := by
  obtain ⟨-, bC⟩ := ok_play (t := t) hk hN ho ht hat hcr h0
  obtain ⟨hsm, hhs⟩ := hk.small hN
  have hb := hk.1
  have hn := hb.no
  have hp2 := hb.np
  have hh := hb.hr
  have ho5 : o < 5 := by omega
  have ha := tak_le (k := othN z o) hb ho5 hat
  have hol := othN_le (o := o) hb
  have hc9 := cnt_le h0 (show z 4 < 10 by omega)
  obtain ⟨a1, a2, a3⟩ := at_lt hb ho5 hat
  obtain ⟨μ1, b1, b2, b3, b4⟩ := t_divide (all := takN z o (othN z o)) hr hb ho5 ha hsm
  obtain ⟨μ2, c1, c2, c3⟩ := t_addHour b3 b4 ho5 (fun p hp => by rw [divZ_ne (by omega) (by omega) (by omega) (by omega) (by omega)]; exact Nat.le_trans (hk.2.2.2.2.2.2.2.1 p hp o ho5) hc9) (fun p hp => by rw [divZ_ne (by omega) (by omega) (by omega) (by omega) (by omega)]; have := hhs p hp; omega)
  have d2 : divZ z o (takN z o (othN z o)) 2 = z 2 := divZ_ne (by omega) (by omega) (by omega) (by omega) (by omega)
  rw [d2] at c3
  have cz : ∀ j, (j < 9 ∨ (10 < j ∧ j < 56) ∨ (56 ≤ j ∧ j < 91 ∧ (j - 56) % 7 < 4) ∨ 163 ≤ j) → crewZ o (z 2) (divZ z o (takN z o (othN z o))) j = z j := fun j hj => by rw [crewZ_out ho5 hp2 (by omega), divZ_ne (by omega) (by omega) (by omega) (by omega) (by omega)]
  have c4 := cz 4 (by omega)
  have cat := cz (56 + 7 * o + 3) (by omega)
  have cnow := cz (163 + 10 * o + z 4) (by omega)
  have r4 : RT 23 (plaZ z o t) _ := rt_play (t := t) (v8 := z 8 + takN z o (othN z o)) c3 bC (by rw [cz 1 (by omega)]; exact ho) ht (by rw [cat]; exact hat) (by rw [c4]; exact cnow.trans h0)
  refine ⟨_, ?_, ?_, r4⟩
  · rw [e_Twn_playTune, t_cornerOf hr hb ho5, if_neg hat]
    show bI (d_Twn_playedNear _ μ) _ = _
    rw [t_playedNear hr hb hk.2.1 ho5 hat, bI_r, t_takingsFor hr hb ho5 hat (by omega), bI_r, chk_t (i3_inb ho5 (by decide)), i3_nat (by omega), b1, bV_r, c1, bV_r, chk_t (c_cor a1), r_f8 c3, c4, e_Cor_noteTune _ _ _ _ (c_cor a1), if_neg (show ¬ Int32.ofNat (z 4) < 0 from lt_n (b := 0) (Nat.zero_le _) (by omega)), if_neg (show ¬ (10 : Int32) ≤ Int32.ofNat (z 4) from le_n (a := 10) (by omega) (by decide)), chk_t (i3_inb (by omega) (by decide)), bV_r, lt_b, i3_nat (by omega), i3_bit t ht]
    have e29 : 28 + 2 * (z (56 + 7 * o + 3) - 1) + 1 = 29 + 2 * (z (56 + 7 * o + 3) - 1) := by omega
    have etn : mI μ2 (29 + 2 * (z (56 + 7 * o + 3) - 1)) (z 4) = Int32.ofNat (noted (crewZ o (z 2) (divZ z o (takN z o (othN z o)))) (z (56 + 7 * o + 3) - 1) (z 4)) := r_tun c3 a1 (by omega)
    rw [e29, etn, i3_or, st_get, if_neg (by omega), st_get, if_neg (by omega), r_f11 c3, i3_add1, st_get, if_neg (by omega), st_get, if_neg (by omega), r_f12 c3, i3_add1, cat]
  · exact ((((b2.tr c2).st (by omega)).st (by omega)).st (by omega)).st (by omega)
/-- what no reason means -/
theorem reas_0 {o t : Nat} (h : reas z o t = 0) : z (56 + 7 * o + 3) ≠ 0 ∧ crew z o ≠ 0 ∧ z (163 + 10 * o + z 4) = 0 := by
  unfold reas at h
  by_cases h1 : z (56 + 7 * o + 3) = 0
  · rw [if_pos h1] at h; cases h
  · rw [if_neg h1] at h
    by_cases h2 : crew z o = 0
    · rw [if_pos h2] at h; cases h
    · rw [if_neg h2] at h
      by_cases h3 : (z (56 + 7 * o + 2)).testBit t = false
      · rw [if_pos h3] at h; cases h
      · rw [if_neg h3] at h
        by_cases h4 : z (163 + 10 * o + z 4) ≠ 0
        · rw [if_pos h4] at h; cases h
        · exact ⟨h1, h2, by omega⟩
end PLAY3
