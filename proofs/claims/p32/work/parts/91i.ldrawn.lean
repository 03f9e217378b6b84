/-! THE LAW'S OWN TOWN: lots -/
section LDRAWN
variable {z : Nat → Nat} {μ μ1 : PM}
theorem l_draw {m : Nat} (h : LT z μ) (hb : Bd z) (h0 : 0 < m) (hm : m < 2147483648) : d_Lw_draw (Int32.ofNat m) μ = rI (Int32.ofNat (sd (z 6) / 65536 % m)) (stI μ 18 6 (Int32.ofNat (sd (z 6)))) := by
  have h6 := hb.big 6 (by decide)
  have e6 : mI μ 18 6 = Int32.ofNat (z 6) := a_n h (by decide)
  rw [e_Lw_draw, chk_t (show ¬ Int32.ofNat m = 0 from fun q => by rw [i3_ne0 hm] at q; omega), e6, i3_sd h6, i3_draw hm]
theorem l_free105 {x2 x4 : Int32} {o : Nat} (h : LT z μ) (hb : Bd z) (ho : o < 3) : ∀ n c left, c + n = z 0 → left < frF z c n → ∃ w5,
    Lw_drawn_105 x2 (Int32.ofNat o) x4 (Int32.ofNat left) (Int32.ofNat c) μ = Lw_drawn_28 (x2 + 1) (Int32.ofNat (o + 1)) (.int x4) w5 (.int (Int32.ofNat (fA z n c left))) (stI μ 13 (7 * o + 3) (Int32.ofNat (fA z n c left))) := by
  have hc0 := h.1.1
  intro n
  induction n with
  | zero => intro c left _ hl; exact absurd hl (Nat.not_lt_zero _)
  | succ n ih =>
    intro c left hc hl
    have hl' : left < (if whoP z c (z 1) = 0 then 1 else 0) + frF z (c + 1) n := hl
    have hw := whoP_le (z := z) (c := c) (z 1)
    have hz1 := hb.no
    have hfr : frF z (c + 1) n ≤ n := by
      rw [frF_sum]
      have := sum_le (f := fun i => if whoP z (c + 1 + i) (z 1) = 0 then 1 else 0) (b := 1) n (fun i _ => by split <;> omega)
      omega
    have e0 : Int32.ofNat left - 0 = Int32.ofNat left := i3_sub (b := 0) (Nat.zero_le _)
    have ep : (0 : Int32) ≤ pm (whoP z c (z 1)) ↔ whoP z c (z 1) ≠ 0 := by rw [pm_le0 (by omega)]
    have hbound : left < 100 := by split at hl' <;> omega
    show ∃ w5, _ = Lw_drawn_28 (x2 + 1) (Int32.ofNat (o + 1)) (.int x4) w5 (.int (Int32.ofNat (if whoP z c (z 1) = 0 then (if left = 0 then c else fA z n (c + 1) (left - 1)) else fA z n (c + 1) left))) (stI μ 13 (7 * o + 3) (Int32.ofNat (if whoP z c (z 1) = 0 then (if left = 0 then c else fA z n (c + 1) (left - 1)) else fA z n (c + 1) left)))
    rw [Lw_drawn_105_eq, l_holder h hb (by omega), bI_r, i3_add1]
    by_cases e : whoP z c (z 1) = 0
    · rw [if_neg (fun q => ep.mp q e), if_pos e]
      rw [if_pos e] at hl'
      by_cases e2 : left = 0
      · rw [if_pos (show Int32.ofNat left ≤ 0 from le_y (b := 0) (by omega) (by omega)), if_pos e2, k7, ka3, chk_t (i3_inb (by omega) (by decide)), i3_nat (by omega), i3_add1]
        exact ⟨_, rfl⟩
      · rw [if_neg (show ¬ Int32.ofNat left ≤ 0 from le_n (b := 0) (by omega) (by omega)), if_neg e2, l_holder h hb (by omega), bI_r, if_neg (fun q => ep.mp q e), show (1 : Int32) = Int32.ofNat 1 from rfl, i3_sub (b := 1) (by omega)]
        exact ih (c + 1) (left - 1) (by omega) (by omega)
    · rw [if_pos (ep.mpr e), if_neg e, l_holder h hb (by omega), bI_r, if_pos (ep.mpr e), e0]
      rw [if_neg e] at hl'
      exact ih (c + 1) left (by omega) (by omega)
theorem l_free41 {x2 : Int32} {o : Nat} {w6 : Value} (h : LT z μ) (hb : Bd z) : Lw_drawn_41 x2 (Int32.ofNat o) 0 0 w6 μ = Lw_drawn_41 x2 (Int32.ofNat o) (Int32.ofNat (freeS z (z 0))) (Int32.ofNat (z 0)) w6 μ :=
  loopS (fun i a (_ : Unit) => Lw_drawn_41 x2 (Int32.ofNat o) a i w6 μ) (z 0) (fun c => if whoP z c (z 1) = 0 then 1 else 0) () (fun i hi a => by
    have hc0 := h.1.1
    have hw := whoP_le (z := z) (c := i) (z 1)
    have hz1 := hb.no
    have ep : (0 : Int32) ≤ pm (whoP z i (z 1)) ↔ whoP z i (z 1) ≠ 0 := by rw [pm_le0 (by omega)]
    show Lw_drawn_41 _ _ _ _ _ _ = Lw_drawn_41 _ _ _ _ _ _
    rw [Lw_drawn_41_eq, a_n0 h, if_neg (le_n hi (by omega)), l_holder h hb (by omega), bI_r, i3_add0, i3_add1, i3_add1]
    by_cases e : whoP z i (z 1) = 0
    · rw [if_neg (fun q => ep.mp q e), if_pos e]
    · rw [if_pos (ep.mpr e), if_neg e]
      rfl)
theorem l_drawn28 {N : Nat} : ∀ (k o : Nat) (z : Nat → Nat) (μ : PM) (w4 w5 w6 : Value), LI N o z → LT z μ → o + k = z 1 → ∃ μ', Lw_drawn_28 (Int32.ofNat (withS z (z 1))) (Int32.ofNat o) w4 w5 w6 μ = rI (Int32.ofNat (withS (lotF k o z) (z 1))) μ' ∧ LFr μ μ' ∧ LT (lotF k o z) μ' := by
  intro k
  induction k with
  | zero =>
    intro o z μ w4 w5 w6 hI h hok
    have hn := h.1.2.1
    exact ⟨μ, by rw [Lw_drawn_28_eq, a_n1 h, if_pos (le_y (by omega) (by omega))]; rfl, LFr.rf, h⟩
  | succ k ih =>
    intro o z μ w4 w5 w6 hI h hok
    have hb := hI.1.1
    have hn := h.1.2.1
    have hn0 := h.1.1
    have ho : o < z 1 := by omega
    have hfl := freeS_le (z := z) (z 0)
    obtain ⟨g1, g2, g3, g4, g5⟩ := LI_step hI ho
    have hp01 := (hb.org o (by omega)).2.1
    have ep1 : mI μ 13 (7 * o + 1) = Int32.ofNat (z (56 + 7 * o + 1)) := a_o h (by omega) (by decide) (by decide)
    show ∃ μ', _ = rI (Int32.ofNat (withS (lotF k (o + 1) (stepL o z)) (z 1))) μ' ∧ LFr μ μ' ∧ LT (lotF k (o + 1) (stepL o z)) μ'
    have hgo : ∀ ν w4 w5 w6, LFr μ ν → LT (stepL o z) ν → ∃ μ', Lw_drawn_28 (Int32.ofNat (withS (stepL o z) (z 1))) (Int32.ofNat (o + 1)) w4 w5 w6 ν = rI (Int32.ofNat (withS (lotF k (o + 1) (stepL o z)) (z 1))) μ' ∧ LFr μ μ' ∧ LT (lotF k (o + 1) (stepL o z)) μ' := fun ν w4 w5 w6 h1 h2 => by
      obtain ⟨μ', q1, q2, q3⟩ := ih (o + 1) (stepL o z) ν w4 w5 w6 g1 h2 (by rw [g3]; omega)
      rw [g3] at q1
      exact ⟨μ', q1, h1.tr q2, q3⟩
    rw [Lw_drawn_28_eq, a_n1 h, if_neg (le_n (by omega) (by omega)), l_free41 h hb, Lw_drawn_41_eq, a_n0 h, if_pos (le_y (Nat.le_refl _) (by omega)), k7, ka1, chk_t (i3_inb (by omega) (by decide)), i3_nat (by omega), ep1, i3_add1]
    by_cases h1 : z (56 + 7 * o + 1) = 1
    · rw [if_neg (fun q => by rw [h1] at q; exact absurd q (by decide))]
      by_cases h2 : 0 < freeS z (z 0)
      · have hm : sd (z 6) / 65536 % freeS z (z 0) < freeS z (z 0) := Nat.mod_lt _ h2
        have es : stepL o z = setN (setN z 6 (sd (z 6))) (56 + 7 * o + 3) (fA (setN z 6 (sd (z 6))) (z 0) 0 (sd (z 6) / 65536 % freeS z (z 0)) + 1) := if_pos ⟨h1, h2⟩
        have b1 : Bd (setN z 6 (sd (z 6))) := hb.set (by have := sd_lt (a := z 6); unfold okV; omega)
        have r1 : LT (setN z 6 (sd (z 6))) (stI μ 18 6 (Int32.ofNat (sd (z 6)))) := h.s18 (by decide) (by decide)
        have e60 : setN z 6 (sd (z 6)) 0 = z 0 := setN_ne (by decide)
        obtain ⟨v5, ef⟩ := l_free105 (x2 := Int32.ofNat (withS z (z 1))) (x4 := Int32.ofNat (freeS z (z 0))) (o := o) r1 b1 (by omega) (z 0) 0 (sd (z 6) / 65536 % freeS z (z 0)) (by rw [e60]; omega) (by rw [frF_free, seed_free]; exact hm)
        have ef2 : Lw_drawn_105 (Int32.ofNat (withS z (z 1))) (Int32.ofNat o) (Int32.ofNat (freeS z (z 0))) (Int32.ofNat (sd (z 6) / 65536 % freeS z (z 0))) 0 (stI μ 18 6 (Int32.ofNat (sd (z 6)))) = _ := ef
        rw [if_pos (fun q => by rw [i3_ne0 (by omega)] at q; omega), l_draw h hb h2 (by omega), bI_r, ef2, i3_add1, ← g5 ⟨h1, h2⟩]
        refine hgo _ _ _ _ ((LFr.rf.st (by decide)).st (by decide)) ?_
        rw [es]
        have r2 := r1.at13 (o := o) (v := fA (setN z 6 (sd (z 6))) (z 0) 0 (sd (z 6) / 65536 % freeS z (z 0)) + 1) (by omega)
        rw [pm_succ] at r2
        exact r2
      · have es := g4 (fun q => h2 q.2)
        rw [if_neg (fun q => q (by rw [i3_ne0 (by omega)]; omega))]
        have := hgo μ (.int (Int32.ofNat (freeS z (z 0)))) (.int (Int32.ofNat (z 0))) w6 LFr.rf (by rw [es]; exact h)
        rw [es] at this ⊢
        exact this
    · have es := g4 (fun q => h1 q.1)
      rw [if_pos (by rw [i3_ne0 (by omega)]; omega)]
      have := hgo μ (.int (Int32.ofNat (freeS z (z 0)))) (.int (Int32.ofNat (z 0))) w6 LFr.rf (by rw [es]; exact h)
      rw [es] at this ⊢
      exact this
theorem l_clr {n : Nat} (h : LT z μ) (hn : n ≤ z 1) : ∃ μ', Lw_drawn_4 0 0 μ = Lw_drawn_4 0 (Int32.ofNat n) μ' ∧ LFr μ μ' ∧ LT (clrC n z) μ' := by
  have h1 := h.1.2.1
  induction n with
  | zero => exact ⟨μ, rfl, LFr.rf, h⟩
  | succ n ih =>
    obtain ⟨μ1, a1, a2, a3⟩ := ih (by omega)
    have e1 : clrC n z 1 = z 1 := clrC_ne (fun o ho => by omega)
    rw [a1, Lw_drawn_4_eq, a_n1 a3, e1, if_neg (le_n (by omega) (by omega)), k7, ka3, chk_t (i3_inb (by omega) (by decide)), i3_nat (by omega), i3_add1]
    exact ⟨_, rfl, a2.st (by decide), a3.at13 (o := n) (v := 0) (by omega)⟩
theorem l_drawn {N : Nat} (h : LT z μ) (hk : Okz N z) (hp : plyS z = 0) : ∃ μ', d_Lw_drawn μ = rI (Int32.ofNat (withS (lotZ z) (z 1))) μ' ∧ LFr μ μ' ∧ LT (lotZ z) μ' := by
  have h1 := h.1.2.1
  have ht := t0_of hp
  obtain ⟨g1, g2, g3⟩ := LI_0 hk ht
  obtain ⟨μ1, a1, a2, a3⟩ := l_clr (n := z 1) h (Nat.le_refl _)
  obtain ⟨μ2, b1, b2, b3⟩ := l_drawn28 (z 1) 0 _ μ1 pU pU pU g1 a3 (by rw [g2]; omega)
  rw [g2, g3] at b1
  refine ⟨μ2, ?_, a2.tr b2, b3⟩
  rw [e_Lw_drawn, a1, Lw_drawn_4_eq, a_n1 a3, g2, if_pos (le_y (Nat.le_refl _) (by omega))]
  exact b1
end LDRAWN
