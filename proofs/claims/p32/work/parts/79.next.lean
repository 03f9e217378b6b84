/-! SEMANTICS: next: the model's hour -/
section NEXT
variable {z : Nat → Nat} {μ : PM}
def nxtZ (z : Nat → Nat) : Nat → Nat := if z 4 + 1 < 10 then setN z 4 (z 4 + 1) else dayZ z
theorem cntT_le {o : Nat} : cntT z o ≤ 10 := by
  have := sum_le (f := fun h => if z (163 + 10 * o + h) = 0 then 0 else 1) (b := 1) 10 (fun i _ => by split <;> omega)
  unfold cntT
  omega
theorem Okz.ed {N : Nat} (hk : Okz N z) (hN : N ≤ 20020) : Ed z := by
  obtain ⟨hsm, -⟩ := hk.small hN
  obtain ⟨hb, hpl, hdj, ht8, hfu, hor, hpy, htm, hpt, hph, hcs, a, b, c, d, e⟩ := hk
  refine ⟨hb.no, hb.np, hb.wt, hb.s4, hb.tim, fun o ho => ⟨?_, fun q => ?_⟩, hsm 10 (by decide) (by decide)⟩
  · have h1 := hpt o ho
    have h2 := cntT_le (z := z) (o := o)
    omega
  · obtain ⟨p, h1, h2⟩ := hph o ho q
    have hp : p < z 2 := Classical.byContradiction fun q9 => h2 ((hpy p (by omega) h1).2 o ho)
    have := sum_ge (f := fun p => z (123 + 5 * p + o)) (z 2) p hp
    unfold allH
    intro q9
    rw [q9] at this
    exact h2 (Nat.le_zero.mp this)
theorem endZ_h {v j : Nat} (h4 : j ≠ 4) : endZ (setN z 4 v) j = endZ z j := by
  have ez : ∀ j, j ≠ 4 → setN z 4 v j = z j := fun j h => setN_ne h
  have et : ∀ p, timS (setN z 4 v) p = timS z p := fun p => timS_ext (fun o ho => ez _ (by omega))
  have eg : ∀ p, getW (setN z 4 v) p = getW z p := fun p => by
    unfold getW
    rw [ez 5 (by decide), getA_ext (ez 10 (by decide)) (ez 15 (by decide)) et]
  have ef : fndW (setN z 4 v) = fndW z := by
    unfold fndW
    rw [ez 5 (by decide), ez 2 (by decide), ez 10 (by decide), fndA_ext (ez 10 (by decide)) (ez 15 (by decide)) et]
  have es : ∀ p, shrS (setN z 4 v) p = shrS z p := fun p => by
    unfold shrS
    rw [ez 1 (by decide)]
    exact sum_congr _ (fun o _ => shr_ext (ez 2 (by decide)) (ez _ (by omega)) (fun p => ez _ (by omega)))
  unfold endZ
  rw [ef, es, eg, ez 1 (by decide), ez 2 (by decide), ez j h4]
theorem clrC_get {n j : Nat} : clrC n z j = if 56 ≤ j ∧ j < 56 + 7 * n ∧ (j - 56) % 7 = 3 then 0 else z j := by
  by_cases q : 56 ≤ j ∧ j < 56 + 7 * n ∧ (j - 56) % 7 = 3
  · rw [if_pos q]
    have e : j = 56 + 7 * ((j - 56) / 7) + 3 := by omega
    rw [e]
    exact clrC_at (by omega)
  · rw [if_neg q]
    exact clrC_ne (fun o ho => by omega)
/-- numbers that a day's end leaves -/
theorem endZ_ne {j : Nat} (h10 : j ≠ 10) (hp : 56 ≤ j → j < 91 → (j - 56) % 7 ≠ 4) (hg : 91 ≤ j → j < 123 → (j - 91) % 4 = 0 ∨ (j - 91) % 4 = 3) (n1 : z 1 ≤ 5) (n2 : z 2 ≤ 8) : endZ z j = z j := by
  unfold endZ
  rw [if_neg h10, if_neg (fun q => hp q.1 (by omega) q.2.2), if_neg (fun q => by have := hg q.1 (by omega); omega), if_neg (fun q => by have := hg q.1 (by omega); omega)]
theorem dayZ_ne {j : Nat} (h3 : j ≠ 3) (h4 : j ≠ 4) (h5 : j ≠ 5) (h10 : j ≠ 10) (h123 : j < 123) (hp : 56 ≤ j → j < 91 → (j - 56) % 7 ≠ 4 ∧ (j - 56) % 7 ≠ 3) (hg : 91 ≤ j → (j - 91) % 4 = 0 ∨ (j - 91) % 4 = 3) (n1 : z 1 ≤ 5) (n2 : z 2 ≤ 8) : dayZ z j = z j := by
  unfold dayZ
  rw [if_neg h3, if_neg h4, if_neg h5, if_neg (by omega), if_neg (fun q => (hp q.1 (by omega)).2 q.2.2)]
  exact endZ_ne h10 (fun a b => (hp a b).1) (fun a _ => hg a) n1 n2
theorem ok_hour {N : Nat} (hk : Okz N z) (h9 : z 4 + 1 < 10) : Okz N (setN z 4 (z 4 + 1)) := by
  have ne : ∀ j, j ≠ 4 → setN z 4 (z 4 + 1) j = z j := fun j hj => setN_ne hj
  obtain ⟨hb, hpl, hdj, ht, hfu, hor, hpy, htm, hpt, hph, hcs, a, b, c, d, e⟩ := hk
  have e1 : setN z 4 (z 4 + 1) 1 = z 1 := ne 1 (by decide)
  have e2 : setN z 4 (z 4 + 1) 2 = z 2 := ne 2 (by decide)
  have e4 : setN z 4 (z 4 + 1) 4 = z 4 + 1 := setN_self
  have eo : ∀ w, orgS (setN z 4 (z 4 + 1)) w = orgS z w := fun w => by
    unfold orgS
    rw [e1]
    exact sum_congr _ (fun i hi => ne _ (by omega))
  have ec : ∀ o, cntT (setN z 4 (z 4 + 1)) o = cntT z o := fun o => sum_congr _ (fun i hi => by rw [ne _ (by omega)])
  have eg : gotS (setN z 4 (z 4 + 1)) = gotS z := by
    unfold gotS
    rw [e2]
    exact sum_congr _ (fun i hi => ne _ (by omega))
  refine ⟨hb.set (by unfold okV; omega), fun o ho h hh q => ?_, fun o x ho hx q r => ?_, ?_, fun o ho h h1 h2 => ?_, fun o h1 ho => ⟨fun w hw => ?_, fun h hh => ?_⟩, fun p h1 hp => ⟨fun w hw => ?_, fun o ho => ?_⟩, fun p hp o ho => ?_, fun o ho => ?_, fun o ho q => ?_, ?_, ?_, ?_, ?_, fun p hp => ?_, fun p hp => ?_⟩
  · rw [ne _ (by omega)] at q ⊢
    exact hpl o ho h hh q
  · rw [ne _ (by omega)] at q r
    rw [ne _ (by omega)] at r
    exact hdj o x ho hx q r
  · rw [eo, ne _ (by decide)]; exact ht
  · rw [e4] at h1
    rw [ne _ (by omega)]
    exact hfu o ho h (by omega) h2
  · rw [e1] at h1
    rw [ne _ (by omega)]
    exact (hor o (by omega) ho).1 w hw
  · rw [e1] at h1
    rw [ne _ (by omega)]
    exact (hor o (by omega) ho).2 h hh
  · rw [e2] at h1
    rw [ne _ (by omega)]
    exact (hpy p (by omega) hp).1 w hw
  · rw [e2] at h1
    rw [ne _ (by omega)]
    exact (hpy p (by omega) hp).2 o ho
  · rw [ne _ (by omega), ec]; exact htm p hp o ho
  · rw [ne _ (by omega), ec]; exact hpt o ho
  · rw [ne _ (by omega)] at q
    obtain ⟨p, h1, h2⟩ := hph o ho q
    exact ⟨p, h1, by rw [ne _ (by omega)]; exact h2⟩
  · rw [eg, eo, eo, ne _ (by decide), ne _ (by decide), ne _ (by decide)]; exact hcs
  · rw [ne _ (by decide)]; omega
  · rw [ne _ (by decide)]; omega
  · rw [ne _ (by decide)]; omega
  · rw [ne _ (by omega)]; exact d p hp
  · rw [ne _ (by omega), ne _ (by omega)]; exact e p hp
theorem ok_day {N : Nat} (hk : Okz N z) (hN : N ≤ 20020) : Okz (N + 1) (dayZ z) := by
  have hE := hk.ed hN
  obtain ⟨hb, hpl, hdj, ht, hfu, hor, hpy, htm, hpt, hph, hcs, a, b, c, d, e⟩ := hk
  have n1 := hb.no
  have n2 := hb.np
  have ne : ∀ j, j ≠ 3 → j ≠ 4 → j ≠ 5 → j ≠ 10 → j < 123 → (56 ≤ j → j < 91 → (j - 56) % 7 ≠ 4 ∧ (j - 56) % 7 ≠ 3) → (91 ≤ j → (j - 91) % 4 = 0 ∨ (j - 91) % 4 = 3) → dayZ z j = z j := fun j h3 h4 h5 h10 h123 hp hg => dayZ_ne h3 h4 h5 h10 h123 hp hg n1 n2
  have n0 : ∀ j, j ≠ 3 → j ≠ 4 → j ≠ 5 → j ≠ 10 → j < 56 → dayZ z j = z j := fun j h3 h4 h5 h10 h => ne j h3 h4 h5 h10 (by omega) (fun _ => by omega) (fun _ => by omega)
  have e0 : dayZ z 0 = z 0 := n0 0 (by decide) (by decide) (by decide) (by decide) (by decide)
  have e1 : dayZ z 1 = z 1 := n0 1 (by decide) (by decide) (by decide) (by decide) (by decide)
  have e2 : dayZ z 2 = z 2 := n0 2 (by decide) (by decide) (by decide) (by decide) (by decide)
  have e3 : dayZ z 3 = z 3 + 1 := rfl
  have e4 : dayZ z 4 = 0 := rfl
  have e5 : dayZ z 5 = 0 := rfl
  have e7 : dayZ z 7 = z 7 := n0 7 (by decide) (by decide) (by decide) (by decide) (by decide)
  have e8 : dayZ z 8 = z 8 := n0 8 (by decide) (by decide) (by decide) (by decide) (by decide)
  have e9 : dayZ z 9 = z 9 := n0 9 (by decide) (by decide) (by decide) (by decide) (by decide)
  have e10 : dayZ z 10 = fndW z := rfl
  have ehi : ∀ j, 123 ≤ j → j < 213 → dayZ z j = 0 := fun j h1 h2 => by
    unfold dayZ
    rw [if_neg (by omega), if_neg (by omega), if_neg (by omega), if_pos ⟨h1, h2⟩]
  have eat : ∀ o, o < 5 → dayZ z (56 + 7 * o + 3) = 0 := fun o ho => by
    by_cases q : o < z 1
    · unfold dayZ
      rw [if_neg (by omega), if_neg (by omega), if_neg (by omega), if_neg (by omega), if_pos (by omega)]
    · unfold dayZ endZ
      rw [if_neg (by omega), if_neg (by omega), if_neg (by omega), if_neg (by omega), if_neg (by omega), if_neg (by omega), if_neg (by omega), if_neg (by omega), if_neg (by omega)]
      exact (hor o (by omega) ho).1 3 (by decide)
  have ept : ∀ o, o < 5 → dayZ z (56 + 7 * o + 4) = 0 := fun o ho => by
    by_cases q : o < z 1
    · unfold dayZ endZ
      rw [if_neg (by omega), if_neg (by omega), if_neg (by omega), if_neg (by omega), if_neg (by omega), if_neg (by omega), if_pos (by omega)]
    · unfold dayZ endZ
      rw [if_neg (by omega), if_neg (by omega), if_neg (by omega), if_neg (by omega), if_neg (by omega), if_neg (by omega), if_neg (by omega), if_neg (by omega), if_neg (by omega)]
      exact (hor o (by omega) ho).1 4 (by decide)
  have eg1 : ∀ p, p < z 2 → dayZ z (91 + 4 * p + 1) = z (91 + 4 * p + 1) + shrS z p + getW z p := fun p hp => by
    have q9 : (91 + 4 * p + 1 - 91) / 4 = p := by omega
    unfold dayZ endZ
    rw [if_neg (by omega), if_neg (by omega), if_neg (by omega), if_neg (by omega), if_neg (by omega), if_neg (by omega), if_neg (by omega), if_pos (by omega), q9]
  have eg2 : ∀ p, p < z 2 → dayZ z (91 + 4 * p + 2) = z (91 + 4 * p + 2) + getW z p := fun p hp => by
    have q9 : (91 + 4 * p + 2 - 91) / 4 = p := by omega
    unfold dayZ endZ
    rw [if_neg (by omega), if_neg (by omega), if_neg (by omega), if_neg (by omega), if_neg (by omega), if_neg (by omega), if_neg (by omega), if_neg (by omega), if_pos (by omega), q9]
  have eg3 : ∀ p w, z 2 ≤ p → p < 8 → w < 4 → dayZ z (91 + 4 * p + w) = 0 := fun p w h1 h2 hw => by
    unfold dayZ endZ
    rw [if_neg (by omega), if_neg (by omega), if_neg (by omega), if_neg (by omega), if_neg (by omega), if_neg (by omega), if_neg (by omega), if_neg (by omega), if_neg (by omega)]
    exact (hpy p h1 h2).1 w hw
  have eo : ∀ w, 5 ≤ w → w < 7 → orgS (dayZ z) w = orgS z w := fun w h1 h2 => by
    unfold orgS
    rw [e1]
    exact sum_congr _ (fun i hi => ne _ (by omega) (by omega) (by omega) (by omega) (by omega) (fun _ _ => by omega) (fun _ => by omega))
  have eo4 : orgS (dayZ z) 4 = 0 := by
    have : orgS (dayZ z) 4 = sum (z 1) (fun _ => 0) := by
      unfold orgS
      rw [e1]
      exact sum_congr _ (fun i hi => ept i (by omega))
    have h9 := sum_le (f := fun _ => 0) (b := 0) (z 1) (fun i _ => Nat.le_refl _)
    omega
  have hsw : sum (z 2) (shrS z) = orgS z 4 := by
    have h1 : sum (z 2) (shrS z) = sum (z 1) (fun o => sum (z 2) (fun p => shr z o p)) := sum_swap (f := fun p o => shr z o p) (z 2)
    rw [h1]
    exact sum_congr _ (fun o ho => shr_sum (hE.2.2.2.2.2.1 o (by omega)).2)
  have hgt : gotS (dayZ z) = gotS z + orgS z 4 + sum (z 2) (getW z) := by
    have h1 : gotS (dayZ z) = sum (z 2) (fun p => (z (91 + 4 * p + 1) + shrS z p) + getW z p) := by
      unfold gotS
      rw [e2]
      exact sum_congr _ (fun p hp => eg1 p hp)
    rw [h1, sum_add, sum_add, hsw]
    rfl
  have hgw := getW_sum (z := z)
  have hcs' : gotS (dayZ z) + orgS (dayZ z) 4 + orgS (dayZ z) 5 + dayZ z 9 + dayZ z 10 = dayZ z 8 := by
    rw [hgt, eo4, eo 5 (by decide) (by decide), e9, e10, e8]
    omega
  have hgb : ∀ p, p < z 2 → z (91 + 4 * p + 1) + shrS z p + getW z p ≤ z 8 := fun p hp => by
    have h1 := sum_ge (f := fun p => dayZ z (91 + 4 * p + 1)) (z 2) p hp
    have h2 : gotS (dayZ z) = sum (z 2) (fun p => dayZ z (91 + 4 * p + 1)) := by unfold gotS; rw [e2]
    have h3 : dayZ z (91 + 4 * p + 1) ≤ gotS (dayZ z) := by rw [h2]; exact h1
    rw [eg1 p hp] at h3
    omega
  refine ⟨⟨?_, ?_, ?_, ?_, ?_, ?_, ?_, ?_, ?_, ?_, fun c hc => ?_, fun o ho => ?_, fun p hp => ?_, fun p hp o ho => ?_, fun o ho h hh => ?_, fun k hk => ?_⟩, fun o ho h hh q => ?_, fun o x ho hx q r => ?_, ?_, fun o ho h h1 h2 => ?_, fun o h1 ho => ⟨fun w hw => ?_, fun h hh => ?_⟩, fun p h1 hp => ⟨fun w hw => ?_, fun o ho => ?_⟩, fun p hp o ho => ?_, fun o ho => ?_, fun o ho q => ?_, hcs', ?_, ?_, ?_, fun p hp => ?_, fun p hp => ?_⟩
  · rw [e0]; exact hb.nc
  · rw [e1]; exact n1
  · rw [e2]; exact n2
  · rw [e4]; omega
  · rw [e5]; omega
  · rw [n0 11 (by decide) (by decide) (by decide) (by decide) (by decide)]; exact hb.s0
  · rw [n0 12 (by decide) (by decide) (by decide) (by decide) (by decide)]; exact hb.s1
  · rw [n0 13 (by decide) (by decide) (by decide) (by decide) (by decide)]; exact hb.s2
  · rw [n0 14 (by decide) (by decide) (by decide) (by decide) (by decide)]; exact hb.s3
  · rw [n0 15 (by decide) (by decide) (by decide) (by decide) (by decide)]; exact hb.s4
  · rw [n0 _ (by omega) (by omega) (by omega) (by omega) (by omega), n0 _ (by omega) (by omega) (by omega) (by omega) (by omega), n0 _ (by omega) (by omega) (by omega) (by omega) (by omega), n0 _ (by omega) (by omega) (by omega) (by omega) (by omega)]; exact hb.cor c hc
  · have q := hb.org o ho
    rw [ne (56 + 7 * o) (by omega) (by omega) (by omega) (by omega) (by omega) (fun _ _ => by omega) (fun _ => by omega), ne (56 + 7 * o + 1) (by omega) (by omega) (by omega) (by omega) (by omega) (fun _ _ => by omega) (fun _ => by omega), ne (56 + 7 * o + 2) (by omega) (by omega) (by omega) (by omega) (by omega) (fun _ _ => by omega) (fun _ => by omega), eat o ho]
    exact ⟨q.1, q.2.1, q.2.2.1, Nat.zero_le _⟩
  · rw [ne _ (by omega) (by omega) (by omega) (by omega) (by omega) (fun _ _ => by omega) (fun _ => by omega), e1]; exact hb.crw p hp
  · rw [ehi _ (by omega) (by omega)]; omega
  · rw [ehi _ (by omega) (by omega)]; omega
  · by_cases k3 : k = 3
    · subst k3; rw [e3]; omega
    · by_cases k4 : k = 4
      · subst k4; rw [e4]; omega
      · by_cases k5 : k = 5
        · subst k5; rw [e5]; omega
        · by_cases k10 : k = 10
          · subst k10; rw [e10]; omega
          · by_cases k123 : 123 ≤ k
            · rw [ehi k k123 hk]; omega
            · by_cases kp : 91 ≤ k
              · by_cases kq : (k - 91) / 4 < z 2
                · have g := hgb _ kq
                  rcases (show k = 91 + 4 * ((k - 91) / 4) ∨ k = 91 + 4 * ((k - 91) / 4) + 3 ∨ k = 91 + 4 * ((k - 91) / 4) + 1 ∨ k = 91 + 4 * ((k - 91) / 4) + 2 by omega) with q | q | q | q
                  · rw [ne k k3 k4 k5 k10 (by omega) (fun _ _ => by omega) (fun _ => by omega)]; exact hb.big k hk
                  · rw [ne k k3 k4 k5 k10 (by omega) (fun _ _ => by omega) (fun _ => by omega)]; exact hb.big k hk
                  · rw [q, eg1 _ kq]; omega
                  · rw [q, eg2 _ kq]
                    have := e ((k - 91) / 4) (by omega)
                    omega
                · have q : k = 91 + 4 * ((k - 91) / 4) + (k - 91) % 4 := by omega
                  rw [q, eg3 _ _ (by omega) (by omega) (by omega)]
                  omega
              · by_cases ko : 56 ≤ k
                · rcases (show k = 56 + 7 * ((k - 56) / 7) + 3 ∨ k = 56 + 7 * ((k - 56) / 7) + 4 ∨ ((k - 56) % 7 ≠ 3 ∧ (k - 56) % 7 ≠ 4) by omega) with q | q | q
                  · rw [q, eat _ (by omega)]; omega
                  · rw [q, ept _ (by omega)]; omega
                  · rw [ne k k3 k4 k5 k10 (by omega) (fun _ _ => by omega) (fun _ => by omega)]; exact hb.big k hk
                · rw [n0 k k3 k4 k5 k10 (by omega)]; exact hb.big k hk
  · rw [ehi _ (by omega) (by omega)] at q; exact absurd rfl q
  · rw [eat o ho] at q; exact absurd rfl q
  · rw [e8, eo 6 (by decide) (by decide)]; exact ht
  · exact ehi _ (by omega) (by omega)
  · rw [e1] at h1
    by_cases w3 : w = 3
    · subst w3; exact eat o ho
    · by_cases w4 : w = 4
      · subst w4; exact ept o ho
      · rw [ne _ (by omega) (by omega) (by omega) (by omega) (by omega) (fun _ _ => by omega) (fun _ => by omega)]
        exact (hor o h1 ho).1 w hw
  · exact ehi _ (by omega) (by omega)
  · rw [e2] at h1
    exact eg3 p w h1 hp hw
  · exact ehi _ (by omega) (by omega)
  · rw [ehi _ (by omega) (by omega)]; exact Nat.zero_le _
  · rw [ept o ho]; exact Nat.zero_le _
  · rw [ept o ho] at q; exact absurd rfl q
  · rw [e8]; omega
  · rw [e7]; omega
  · rw [e3]; omega
  · rw [ne _ (by omega) (by omega) (by omega) (by omega) (by omega) (fun _ _ => by omega) (fun _ => by omega)]
    exact Nat.le_trans (d p hp) (by omega)
  · by_cases q : p < z 2
    · rw [eg1 p q, eg2 p q]
      have := e p hp
      omega
    · rw [eg3 p 2 (by omega) hp (by decide)]; exact Nat.zero_le _
theorem ok_next {N : Nat} (hk : Okz N z) (hN : N ≤ 20020) : Okz (N + 1) (nxtZ z) := by
  unfold nxtZ
  by_cases h : z 4 + 1 < 10
  · rw [if_pos h]; exact (ok_hour hk h).mono (by omega)
  · rw [if_neg h]; exact ok_day hk hN
end NEXT
