/-! SEMANTICS: run, as the law makes it -/
section RUN2
variable {z : Nat → Nat} {μ : PM} {n : Nat} {s : Nat → Nat}
noncomputable def runZ : List Nat → (Nat → Nat) → Nat × (Nat → Nat)
  | [], z => (0, z)
  | o :: l, z => @ite _ (mayB z o) (Classical.propDecidable _) ((runZ l (doZ z o)).1 + 1, (runZ l (doZ z o)).2) (0, z)
theorem runZ_y {o : Nat} {l : List Nat} (h : mayB z o) : runZ (o :: l) z = ((runZ l (doZ z o)).1 + 1, (runZ l (doZ z o)).2) := if_pos h
theorem runZ_n {o : Nat} {l : List Nat} (h : ¬ mayB z o) : runZ (o :: l) z = (0, z) := if_neg h
theorem ok_run : ∀ (l : List Nat) (N : Nat) (z : Nat → Nat), Okz N z → N + l.length ≤ 20020 → (∀ o, o ∈ l → okO o) → Okz (N + l.length) (runZ l z).2 := by
  intro l
  induction l with
  | nil => intro N z hk _ _; exact hk
  | cons o l ih =>
    intro N z hk hN ho
    rw [List.length_cons] at hN ⊢
    by_cases h : mayB z o
    · rw [runZ_y h]
      have := ih (N + 1) (doZ z o) (ok_do hk (by omega) (ho o List.mem_cons_self) h) (by omega) (fun q hq => ho q (List.mem_cons_of_mem _ hq))
      exact this.mono (by omega)
    · rw [runZ_n h]
      exact hk.mono (by omega)
theorem mtc_full {k st : Nat} : ∀ f i, mtc n s k st f i = i + f → ∀ j, i ≤ j → j < i + f → st + j < n ∧ fitN k j (s (st + j)) := by
  intro f
  induction f with
  | zero => intro i _ j h1 h2; exact absurd h2 (by omega)
  | succ f ih =>
    intro i h j h1 h2
    by_cases q : st + i < n ∧ fitN k i (s (st + i))
    · rw [mtc_y q] at h
      by_cases r : j = i
      · rw [r]; exact q
      · exact ih (i + 1) (by omega) j (by omega) (by omega)
    · rw [mtc_n q] at h
      omega
theorem mtc_whole {k st : Nat} (h : ¬ mtc n s k st (lenK k) 0 < lenK k) : ∀ j, j < lenK k → st + j < n ∧ fitN k j (s (st + j)) := fun j hj => by
  have h1 := (mtc_le (n := n) (s := s) (k := k) (st := st) (lenK k) 0).2.1
  exact mtc_full (lenK k) 0 (by omega) j (Nat.zero_le _) (by omega)
theorem ord_ok {k st : Nat} (hk : k < 5) (h : ∀ j, j < lenK k → st + j < n ∧ fitN k j (s (st + j))) : okO (ordN s k st) ∧ (k = 4 → st + 2 < n ∧ 48 ≤ s st ∧ s st ≤ 52 ∧ 97 ≤ s (st + 2) ∧ s (st + 2) ≤ 106) := by
  by_cases q : k = 4
  · subst q
    have h0 := h 0 (by decide)
    have h2 := h 2 (by decide)
    have a0 : 48 ≤ s (st + 0) ∧ s (st + 0) ≤ 52 := h0.2
    have a2 : 97 ≤ s (st + 2) ∧ s (st + 2) ≤ 106 := h2.2
    rw [Nat.add_zero] at a0
    refine ⟨?_, fun _ => ⟨h2.1, a0.1, a0.2, a2.1, a2.2⟩⟩
    unfold okO ordN
    rw [if_pos rfl]
    omega
  · refine ⟨?_, fun r => absurd r q⟩
    unfold okO ordN
    rw [if_neg q]
    omega
/-- what a whole row is made of -/
theorem prs_ok : ∀ f st, st ≤ n → n - st < f → (∀ o, o ∈ (prsL n s f st).2.2 → okO o) ∧ 4 * (prsL n s f st).2.2.length ≤ n + 1 - st := by
  intro f
  induction f with
  | zero => intro st _ h; exact absurd h (Nat.not_lt_zero _)
  | succ f ih =>
    intro st hst hf
    unfold prsL
    by_cases h1 : n ≤ st
    · rw [if_pos h1]; exact ⟨fun o ho => absurd ho List.not_mem_nil, Nat.zero_le _⟩
    · rw [if_neg h1]
      by_cases h2 : kdN (s st) = 5
      · rw [if_pos h2]; exact ⟨fun o ho => absurd ho List.not_mem_nil, Nat.zero_le _⟩
      · have hk : kdN (s st) < 5 := by have := kd_le (c := s st); omega
        obtain ⟨l1, l2⟩ := len_pos _ hk
        rw [if_neg h2]
        by_cases h3 : mtc n s (kdN (s st)) st (lenK (kdN (s st))) 0 < lenK (kdN (s st))
        · rw [if_pos h3]; exact ⟨fun o ho => absurd ho List.not_mem_nil, Nat.zero_le _⟩
        · rw [if_neg h3]
          have hw := mtc_whole h3
          have ho := (ord_ok hk hw).1
          have hlast := (hw (lenK (kdN (s st)) - 1) (by omega)).1
          have hone : (∀ o, o ∈ [ordN s (kdN (s st)) st] → okO o) ∧ 4 * [ordN s (kdN (s st)) st].length ≤ n + 1 - st := ⟨fun o hh => by rw [List.mem_singleton.mp hh]; exact ho, by rw [List.length_singleton]; omega⟩
          by_cases h4 : n ≤ st + lenK (kdN (s st))
          · rw [if_pos h4]; exact hone
          · rw [if_neg h4]
            by_cases h5 : s (st + lenK (kdN (s st))) = 59
            · obtain ⟨i1, i2⟩ := ih (st + lenK (kdN (s st)) + 1) (by omega) (by omega)
              rw [if_pos h5]
              refine ⟨fun o hh => ?_, ?_⟩
              · rcases List.mem_cons.mp hh with q | q
                · rw [q]; exact ho
                · exact i1 o q
              · show 4 * (ordN s (kdN (s st)) st :: _).length ≤ _
                rw [List.length_cons]
                omega
            · rw [if_neg h5]; exact hone
theorem TxC.fr {μ1 : PM} (hT : TxC n s μ) (h : FrC μ μ1) : TxC n s μ1 := ⟨hT.1, by rw [h.2 3 (by decide)]; exact hT.2.1, fun i hi => by rw [h.2 4 (by decide)]; exact hT.2.2 i hi⟩
theorem t_run35 : ∀ (f st cnt N : Nat) (z : Nat → Nat) (μ : PM) (w : Value), TxC n s μ → st < n → n - st < f → (prsL n s f st).1 = n → (prsL n s f st).2.1 = 20 → RT 23 z μ → Okz N z → N + (prsL n s f st).2.2.length ≤ 20020 → cnt + (prsL n s f st).2.2.length ≤ 1000 →
    ∃ μ', Oc_run_35 (Int32.ofNat cnt) (Int32.ofNat st) w μ = rI (Int32.ofNat (cnt + (runZ (prsL n s f st).2.2 z).1)) (stI μ' 3 1 0) ∧ FrC μ μ' ∧ RT 23 (runZ (prsL n s f st).2.2 z).2 μ' := by
  intro f
  induction f with
  | zero => intro st cnt N z μ w _ _ h; exact absurd h (Nat.not_lt_zero _)
  | succ f ih =>
    intro st cnt N z μ w hT hst hf hr1 hr2 hr hk hN hc
    have hn := hT.1
    unfold prsL at hr1 hr2 hN hc ⊢
    rw [if_neg (show ¬ n ≤ st by omega)] at hr1 hr2 hN hc ⊢
    rcases t_kindAt hT hst with ⟨k1, k2⟩ | ⟨k1, k2⟩
    · rw [if_pos k1] at hr1
      have hr1' : st = n := hr1
      omega
    · have h2 : ¬ kdN (s st) = 5 := by omega
      obtain ⟨l1, l2⟩ := len_pos _ k1
      rw [if_neg h2] at hr1 hr2 hN hc ⊢
      by_cases h3 : mtc n s (kdN (s st)) st (lenK (kdN (s st))) 0 < lenK (kdN (s st))
      · rw [if_pos h3] at hr2
        exact absurd hr2 (stN_no _ k1 _ h3)
      · rw [if_neg h3] at hr1 hr2 hN hc ⊢
        have hw := mtc_whole h3
        obtain ⟨ho, h4⟩ := ord_ok k1 hw
        have hlast := (hw (lenK (kdN (s st)) - 1) (by omega)).1
        have hcl : cls (410 + kdN (s st)) = 29 := (fits_tab _ k1 0 (by omega)).2.2.2.2.2.2.2.2.1
        rw [Oc_run_35_eq, hT.2.1, if_neg (le_n hst (by omega)), k2]
        by_cases h5 : n ≤ st + lenK (kdN (s st))
        · rw [if_pos h5] at hN hc ⊢
          have hN' : N + 1 ≤ 20020 := hN
          show ∃ μ', bI (d_Oc_obey (410 + kdN (s st)) (Int32.ofNat st) μ) _ = _ ∧ _
          rcases t_obey hr hT hk (by omega) k1 hst h4 with ⟨m1, μ1, a1, a2, a3⟩ | ⟨m1, a1⟩
          · rw [a1, bI_r, if_pos (by decide), chk_t hcl, t_signCount k1, bI_r, i3_add1, i3_add1, i3_add, Oc_run_35_eq, (hT.fr a2).2.1, if_pos (le_y (by omega) (by omega)), runZ_y m1]
            exact ⟨μ1, rfl, a2, a3⟩
          · rw [a1, bI_r, if_neg (fun r => r rfl), runZ_n m1]
            exact ⟨μ, rfl, FrC.rf, hr⟩
        · rw [if_neg h5] at hr1 hr2 hN hc ⊢
          by_cases h6 : s (st + lenK (kdN (s st))) = 59
          · rw [if_pos h6] at hr1 hr2 hN hc ⊢
            have hN' : N + ((prsL n s f (st + lenK (kdN (s st)) + 1)).2.2.length + 1) ≤ 20020 := by
              have : N + (ordN s (kdN (s st)) st :: (prsL n s f (st + lenK (kdN (s st)) + 1)).2.2).length ≤ 20020 := hN
              rw [List.length_cons] at this
              exact this
            have hc' : cnt + ((prsL n s f (st + lenK (kdN (s st)) + 1)).2.2.length + 1) ≤ 1000 := by
              have : cnt + (ordN s (kdN (s st)) st :: (prsL n s f (st + lenK (kdN (s st)) + 1)).2.2).length ≤ 1000 := hc
              rw [List.length_cons] at this
              exact this
            show ∃ μ', bI (d_Oc_obey (410 + kdN (s st)) (Int32.ofNat st) μ) _ = rI (Int32.ofNat (cnt + (runZ (ordN s (kdN (s st)) st :: (prsL n s f (st + lenK (kdN (s st)) + 1)).2.2) z).1)) _ ∧ _ ∧ RT 23 (runZ (ordN s (kdN (s st)) st :: (prsL n s f (st + lenK (kdN (s st)) + 1)).2.2) z).2 μ'
            rcases t_obey hr hT hk (by omega) k1 hst h4 with ⟨m1, μ1, a1, a2, a3⟩ | ⟨m1, a1⟩
            · have hlt : st + lenK (kdN (s st)) + 1 < n := by
                refine Classical.byContradiction fun q => ?_
                have e : st + lenK (kdN (s st)) + 1 = n := by omega
                have hr2' : (prsL n s f (st + lenK (kdN (s st)) + 1)).2.1 = 20 := hr2
                obtain ⟨g, rfl⟩ : ∃ g, f = g + 1 := ⟨f - 1, by omega⟩
                unfold prsL at hr2'
                rw [if_pos (by omega)] at hr2'
                exact absurd (show (0 : Nat) = 20 from hr2') (by decide)
              obtain ⟨μ2, c1, c2, c3⟩ := ih (st + lenK (kdN (s st)) + 1) (cnt + 1) (N + 1) (doZ z (ordN s (kdN (s st)) st)) μ1 (.ref (410 + kdN (s st))) (hT.fr a2) hlt (by omega) hr1 hr2 a3 (ok_do hk (by omega) ho m1) (by omega) (by omega)
              rw [a1, bI_r, if_pos (by decide), chk_t hcl, t_signCount k1, bI_r, i3_add1, i3_add1, i3_add, ← Nat.add_assoc, c1, runZ_y m1]
              refine ⟨μ2, ?_, a2.tr c2, c3⟩
              show rI (Int32.ofNat (cnt + 1 + (runZ (prsL n s f (st + lenK (kdN (s st)) + 1)).2.2 (doZ z (ordN s (kdN (s st)) st))).1)) _ = rI (Int32.ofNat (cnt + ((runZ (prsL n s f (st + lenK (kdN (s st)) + 1)).2.2 (doZ z (ordN s (kdN (s st)) st))).1 + 1))) _
              rw [show ∀ a : Nat, cnt + 1 + a = cnt + (a + 1) from fun a => by omega]
            · rw [a1, bI_r, if_neg (fun r => r rfl), runZ_n m1]
              exact ⟨μ, rfl, FrC.rf, hr⟩
          · rw [if_neg h6] at hr1
            have hr1' : st + lenK (kdN (s st)) = n := hr1
            omega
theorem t_isWhole (hT : TxC n s μ) : d_Txt_isWholeRow μ = rI (if (prsL n s 61 0).1 = n ∧ (prsL n s 61 0).2.1 = 20 then 1 else 0) μ := by
  have hn := hT.1
  have hle := prs_le (n := n) (s := s) 61 0 (Nat.zero_le _)
  rw [e_Txt_isWholeRow, t_errorIndex hT, bI_r, hT.2.1]
  by_cases q : (prsL n s 61 0).1 = n
  · have hw := t_whole15 hT 61 0 (Nat.zero_le _) (by omega) q pU
    rw [if_pos (le_y (by omega) (by omega))]
    refine Eq.trans hw ?_
    by_cases q2 : (prsL n s 61 0).2.1 = 20
    · rw [if_pos q2, if_pos ⟨q, q2⟩]
    · rw [if_neg q2, if_neg (fun r => q2 r.2)]
  · rw [if_neg (le_n (by omega) (by omega)), if_neg (fun r => q r.1)]
end RUN2
