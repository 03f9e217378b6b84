/-! SEMANTICS: firstError, run -/
section RUN
variable {z : Nat → Nat} {μ : PM} {n : Nat} {s : Nat → Nat}
/-- an order that may be done -/
def mayB (z : Nat → Nat) (o : Nat) : Prop := if o = 0 then z 4 = 0 ∧ plyS z = 0 else if o < 3 then plyS z = 0 else if o = 3 then True else ((o - 10) / 10 < z 1 ∧ reas z ((o - 10) / 10) ((o - 10) % 10) = 0)
noncomputable def doZ (z : Nat → Nat) (o : Nat) : Nat → Nat := if o = 0 then lotZ z else if o = 1 then setN z 5 1 else if o = 2 then setN z 5 0 else if o = 3 then nxtZ z else plaZ z ((o - 10) / 10) ((o - 10) % 10)
def okO (o : Nat) : Prop := o ≤ 3 ∨ (10 ≤ o ∧ o < 60)
theorem ok_do {N o : Nat} (hk : Okz N z) (hN : N ≤ 20020) (ho : okO o) (h : mayB z o) : Okz (N + 1) (doZ z o) := by
  have hb := hk.1
  unfold mayB at h
  unfold doZ
  by_cases h0 : o = 0
  · rw [if_pos h0] at h ⊢
    exact (x_lots hk h.2).1.mono (by omega)
  · rw [if_neg h0] at h ⊢
    have hw : ∀ b, b ≤ 1 → Okz (N + 1) (setN z 5 b) := fun b hbb => (hk.setB (hb.set (by unfold okV; omega)) (fun j hj => setN_ne (by omega)) (fun o h1 h2 w hw => by rw [setN_ne (by omega)]; exact (hk.2.2.2.2.2.1 o h1 h2).1 w (by omega)) (fun p h1 h2 => by rw [setN_ne (by omega)]; exact (hk.2.2.2.2.2.2.1 p h1 h2).1 0 (by decide))).mono (by omega)
    by_cases h1 : o = 1
    · rw [if_pos h1]; exact hw 1 (Nat.le_refl _)
    · rw [if_neg h1]
      by_cases h2 : o = 2
      · rw [if_pos h2]; exact hw 0 (Nat.zero_le _)
      · rw [if_neg h2]
        rw [if_neg (by omega)] at h
        by_cases h3 : o = 3
        · rw [if_pos h3]; exact ok_next hk hN
        · rw [if_neg h3] at h ⊢
          obtain ⟨q1, q2, q3⟩ := reas_0 h.2
          exact (ok_play hk hN h.1 (Nat.mod_lt _ (by decide)) q1 q2 q3).1
/-- the class's order -/
theorem t_obey {N k st : Nat} (hr : RT 23 z μ) (hT : TxC n s μ) (hk : Okz N z) (hN : N ≤ 20020) (hk5 : k < 5) (hst : st < n) (h4 : k = 4 → st + 2 < n ∧ 48 ≤ s st ∧ s st ≤ 52 ∧ 97 ≤ s (st + 2) ∧ s (st + 2) ≤ 106) :
    (mayB z (ordN s k st) ∧ ∃ μ', d_Oc_obey (410 + k) (Int32.ofNat st) μ = rI 1 μ' ∧ FrC μ μ' ∧ RT 23 (doZ z (ordN s k st)) μ') ∨ (¬ mayB z (ordN s k st) ∧ d_Oc_obey (410 + k) (Int32.ofNat st) μ = rI 0 μ) := by
  have hb := hk.1
  have hn1 := hb.no
  have hps := plyS_le (z := z)
  have hn := hT.1
  have hcl : cls (410 + k) = 29 := (fits_tab k hk5 0 (by have := len_pos k hk5; omega)).2.2.2.2.2.2.2.2.1
  have hw : d_Twn_weatherMayChange μ = rI (if plyS z = 0 then 1 else 0) μ := by
    rw [e_Twn_weatherMayChange, r_f11 hr]
    by_cases q : plyS z = 0
    · rw [if_neg (fun r => r ((i3_ne0 (by omega)).mpr q)), if_pos q]
    · rw [if_pos (fun r => q ((i3_ne0 (by omega)).mp r)), if_neg q]
  rw [e_Oc_obey _ _ _ hcl, chk_t hcl, show 410 + k - 410 = k by omega, chk_t (i3_inb hk5 (by decide)), i3_nat (by omega)]
  rcases (show k = 0 ∨ k = 1 ∨ k = 2 ∨ k = 3 ∨ k = 4 by omega) with rfl | rfl | rfl | rfl | rfl
  · have eo : ordN s 0 st = 0 := rfl
    have em : mayB z 0 = (z 4 = 0 ∧ plyS z = 0) := if_pos rfl
    have ed : doZ z 0 = lotZ z := if_pos rfl
    rw [eo, em, ed, if_pos (show cst 402 0 = 1 from rfl), t_mayDraw hr hb, bI_r]
    by_cases q : z 4 = 0 ∧ plyS z = 0
    · obtain ⟨μ1, a1, a2, a3⟩ := (x_lots hk q.2).2.2.1 μ hr
      rw [if_pos q, if_pos (by decide), a1, bI_r]
      exact Or.inl ⟨q, μ1, rfl, a2, a3⟩
    · rw [if_neg q, if_neg (fun r => r rfl)]
      exact Or.inr ⟨q, rfl⟩
  · have eo : ordN s 1 st = 1 := rfl
    have em : mayB z 1 = (plyS z = 0) := rfl
    have ed : doZ z 1 = setN z 5 1 := rfl
    rw [eo, em, ed, if_neg (show ¬ cst 402 1 = 1 by decide), if_pos (show cst 402 1 = 2 from rfl), hw, bI_r]
    by_cases q : plyS z = 0
    · rw [if_pos q, if_pos (by decide), chk_t ⟨hcl, rfl⟩, if_neg (fun r => r rfl)]
      exact Or.inl ⟨q, _, rfl, FrC.rf.st (by decide), rs_f9 hr hb⟩
    · rw [if_neg q, if_neg (fun r => r rfl)]
      exact Or.inr ⟨q, rfl⟩
  · have eo : ordN s 2 st = 2 := rfl
    have em : mayB z 2 = (plyS z = 0) := rfl
    have ed : doZ z 2 = setN z 5 0 := rfl
    rw [eo, em, ed, if_neg (show ¬ cst 402 2 = 1 by decide), if_neg (show ¬ cst 402 2 = 2 by decide), if_pos (show cst 402 2 = 3 from rfl), hw, bI_r]
    by_cases q : plyS z = 0
    · rw [if_pos q, if_pos (by decide), chk_t ⟨hcl, rfl⟩, if_pos (by decide)]
      exact Or.inl ⟨q, _, rfl, FrC.rf.st (by decide), rs_f9 hr hb⟩
    · rw [if_neg q, if_neg (fun r => r rfl)]
      exact Or.inr ⟨q, rfl⟩
  · have eo : ordN s 3 st = 3 := rfl
    have em : mayB z 3 = True := rfl
    have ed : doZ z 3 = nxtZ z := rfl
    obtain ⟨μ1, a1, a2, a3⟩ := t_endHour hr hk hN
    rw [eo, em, ed, if_neg (show ¬ cst 402 3 = 1 by decide), if_neg (show ¬ cst 402 3 = 2 by decide), if_neg (show ¬ cst 402 3 = 3 by decide), if_pos (show cst 402 3 = 4 from rfl), a1, bV_r]
    exact Or.inl ⟨trivial, μ1, rfl, a2, a3⟩
  · obtain ⟨f1, f2, f3, f4, f5⟩ := h4 rfl
    obtain ⟨g1, -⟩ := hT.2.2 st hst
    obtain ⟨g2, -⟩ := hT.2.2 (st + 2) f1
    have eo : ordN s 4 st = 10 + 10 * (s st - 48) + (s (st + 2) - 97) := rfl
    have e1 : (10 + 10 * (s st - 48) + (s (st + 2) - 97) - 10) / 10 = s st - 48 := by omega
    have e2 : (10 + 10 * (s st - 48) + (s (st + 2) - 97) - 10) % 10 = s (st + 2) - 97 := by omega
    have em : mayB z (10 + 10 * (s st - 48) + (s (st + 2) - 97)) = (s st - 48 < z 1 ∧ reas z (s st - 48) (s (st + 2) - 97) = 0) := by
      unfold mayB
      rw [if_neg (by omega), if_neg (by omega), if_neg (by omega), e1, e2]
    have ed : doZ z (10 + 10 * (s st - 48) + (s (st + 2) - 97)) = plaZ z (s st - 48) (s (st + 2) - 97) := by
      unfold doZ
      rw [if_neg (by omega), if_neg (by omega), if_neg (by omega), if_neg (by omega), e1, e2]
    have o1 : d_Txt_organAt (Int32.ofNat st) μ = rI (Int32.ofNat (s st - 48)) μ := by
      rw [e_Txt_organAt, if_neg (show ¬ Int32.ofNat st < 0 from lt_n (b := 0) (Nat.zero_le _) (by omega)), hT.2.1, if_neg (le_n hst (by omega)), chk_t (i3_inb (by omega) (by decide)), i3_nat (by omega), g1, show (48 : Int32) = Int32.ofNat 48 from rfl, i3_sub (by omega)]
    have o2 : d_Txt_tuneAt (Int32.ofNat st) μ = rI (Int32.ofNat (s (st + 2) - 97)) μ := by
      have e3 : Int32.ofNat st + 2 = Int32.ofNat (st + 2) := i3_add st 2
      rw [e_Txt_tuneAt, if_neg (show ¬ Int32.ofNat st < 0 from lt_n (b := 0) (Nat.zero_le _) (by omega)), hT.2.1, e3, if_neg (le_n f1 (by omega)), chk_t (i3_inb (by omega) (by decide)), i3_nat (by omega), g2, show (97 : Int32) = Int32.ofNat 97 from rfl, i3_sub (by omega)]
    rw [eo, em, ed, if_neg (show ¬ cst 402 4 = 1 by decide), if_neg (show ¬ cst 402 4 = 2 by decide), if_neg (show ¬ cst 402 4 = 3 by decide), if_neg (show ¬ cst 402 4 = 4 by decide), o1, bI_r, o2, bI_r, e_Oc_obeyPlay, if_neg (show ¬ Int32.ofNat (s st - 48) < 0 from lt_n (b := 0) (Nat.zero_le _) (by omega)), r_f5 hr]
    by_cases q1 : s st - 48 < z 1
    · have hrl := reas_le (z := z) (o := s st - 48) (t := s (st + 2) - 97)
      rw [if_neg (le_n q1 (by omega)), if_neg (show ¬ Int32.ofNat (s (st + 2) - 97) < 0 from lt_n (b := 0) (Nat.zero_le _) (by omega)), if_neg (show ¬ (10 : Int32) ≤ Int32.ofNat (s (st + 2) - 97) from le_n (a := 10) (by omega) (by decide)), t_reasonAgainst hr hb (by omega) (by omega), bI_r]
      by_cases q2 : reas z (s st - 48) (s (st + 2) - 97) = 0
      · obtain ⟨r1, r2, r3⟩ := reas_0 q2
        obtain ⟨μ1, a1, a2, a3⟩ := t_play hr hk hN q1 (show s (st + 2) - 97 < 10 by omega) r1 r2 r3
        rw [if_pos ((i3_ne0 (by omega)).mpr q2), a1, bI_r, bI_r, chk_t (Or.inr rfl)]
        exact Or.inl ⟨⟨q1, q2⟩, μ1, rfl, a2, a3⟩
      · rw [if_neg (fun r => q2 ((i3_ne0 (by omega)).mp r)), bI_r, chk_t (Or.inl rfl)]
        exact Or.inr ⟨fun r => q2 r.2, rfl⟩
    · rw [if_pos (le_y (by omega) (by omega)), bI_r, chk_t (Or.inl rfl)]
      exact Or.inr ⟨fun r => q1 r.1, rfl⟩
end RUN
