/-! SEMANTICS: run, as the law makes it -/
section RUN2
variable {z : Nat → Nat} {μ : PM} {n : Nat} {s : Nat → Nat}
noncomputable def runZ : List Nat → (Nat → Nat) → Nat × (Nat → Nat)
  | [], z => (0, z)
  | o :: l, z => @ite _ (mayB z o) (Classical.propDecidable _) ((runZ l (doZ z o)).1 + 1, (runZ l (doZ z o)).2) (0, z)
theorem runZ_y {o : Nat} {l : List Nat} (h : mayB z o) : runZ (o :: l) z = ((runZ l (doZ z o)).1 + 1, (runZ l (doZ z o)).2) := if_pos h
theorem runZ_n {o : Nat} {l : List Nat} (h : ¬ mayB z o) : runZ (o :: l) z = (0, z) := if_neg h
theorem ok_run : ∀ (l : List Nat) (N : Nat) (z : Nat → Nat), Okz N z → N + l.length ≤ 20020 → (∀ o, o ∈ l → okO o) → Okz (N + l.length) (runZ l z).2 := by
  intro l
  induction l with
  | nil => intro N z hk _ _; exact hk
  | cons o l ih =>
    intro N z hk hN ho
    rw [List.length_cons] at hN ⊢
    by_cases h : mayB z o
    · rw [runZ_y h]
      have := ih (N + 1) (doZ z o) (ok_do hk (by omega) (ho o List.mem_cons_self) h) (by omega) (fun q hq => ho q (List.mem_cons_of_mem _ hq))
      exact this.mono (by omega)
    · rw [runZ_n h]
      exact hk.mono (by omega)
theorem m_run37 : ∀ (l : List Nat) (e N : Nat) (z : Nat → Nat) (μ : PM), mI μ 13 = zI z → Okz N z → N + l.length ≤ 20020 → (∀ o, o ∈ l → okO o) → mI μ 12 11 = Int32.ofNat (e + l.length) → e + l.length ≤ 32 → (∀ i, i < l.length → mI μ 17 (e + i) = Int32.ofNat (l.getD i 0)) →
    ∃ μ', Md_run_37 (Int32.ofNat e) μ = rI (Int32.ofNat (e + (runZ l z).1)) (stI μ' 12 15 0) ∧ FrM μ μ' ∧ mI μ' 13 = zI (runZ l z).2 := by
  intro l
  induction l with
  | nil =>
    intro e N z μ hz hk hN ho h11 h32 h17
    have h11' : mI μ 12 11 = Int32.ofNat e := h11
    exact ⟨μ, by rw [Md_run_37_eq, h11', if_pos (le_y (Nat.le_refl _) (by omega))]; rfl, FrM.rf, hz⟩
  | cons o l ih =>
    intro e N z μ hz hk hN ho h11 h32 h17
    rw [List.length_cons] at hN h11 h32
    have h0 : mI μ 17 e = Int32.ofNat o := by
      have := h17 0 (by rw [List.length_cons]; omega)
      rw [Nat.add_zero] at this
      exact this
    have hoo := ho o List.mem_cons_self
    obtain ⟨v, a1, a2⟩ := m_mayDo hz hk hoo
    rw [Md_run_37_eq, h11, if_neg (le_n (by omega) (by omega)), chk_t (i3_inb (by omega) (by decide)), i3_nat (by omega), h0, a1, bI_r, i3_add1]
    rcases a2 with ⟨rfl, h⟩ | ⟨rfl, h⟩
    · obtain ⟨μ1, b1, b2, b3⟩ := m_does hz hk (by omega) hoo h
      obtain ⟨μ2, c1, c2, c3⟩ := ih (e + 1) (N + 1) (doZ z o) μ1 b3 (ok_do hk (by omega) hoo h) (by omega) (fun q hq => ho q (List.mem_cons_of_mem _ hq)) (by rw [b2.2.2.1 11 (by decide) (by decide), h11]; congr 1; omega) (by omega) (fun i hi => by
        rw [b2.2.1 17 (by decide)]
        have := h17 (i + 1) (by rw [List.length_cons]; omega)
        rw [show e + 1 + i = e + (i + 1) by omega, this]
        rfl)
      rw [if_neg (by decide), h0, b1, bV_r, c1, runZ_y h]
      refine ⟨μ2, ?_, b2.tr c2, c3⟩
      show rI (Int32.ofNat (e + 1 + (runZ l (doZ z o)).1)) _ = rI (Int32.ofNat (e + ((runZ l (doZ z o)).1 + 1))) _
      rw [show e + 1 + (runZ l (doZ z o)).1 = e + ((runZ l (doZ z o)).1 + 1) by omega]
    · rw [if_pos rfl, runZ_n h]
      exact ⟨μ, rfl, FrM.rf, hz⟩
theorem mtc_full {k st : Nat} : ∀ f i, mtc n s k st f i = i + f → ∀ j, i ≤ j → j < i + f → st + j < n ∧ fitN k j (s (st + j)) := by
  intro f
  induction f with
  | zero => intro i _ j h1 h2; exact absurd h2 (by omega)
  | succ f ih =>
    intro i h j h1 h2
    by_cases q : st + i < n ∧ fitN k i (s (st + i))
    · rw [mtc_y q] at h
      by_cases r : j = i
      · rw [r]; exact q
      · exact ih (i + 1) (by omega) j (by omega) (by omega)
    · rw [mtc_n q] at h
      omega
theorem mtc_whole {k st : Nat} (h : ¬ mtc n s k st (lenK k) 0 < lenK k) : ∀ j, j < lenK k → st + j < n ∧ fitN k j (s (st + j)) := fun j hj => by
  have h1 := (mtc_le (n := n) (s := s) (k := k) (st := st) (lenK k) 0).2.1
  exact mtc_full (lenK k) 0 (by omega) j (Nat.zero_le _) (by omega)
theorem ord_ok {k st : Nat} (hk : k < 5) (h : ∀ j, j < lenK k → st + j < n ∧ fitN k j (s (st + j))) : okO (ordN s k st) ∧ (k = 4 → st + 2 < n ∧ 48 ≤ s st ∧ s st ≤ 52 ∧ 97 ≤ s (st + 2) ∧ s (st + 2) ≤ 106) := by
  by_cases q : k = 4
  · subst q
    have h0 := h 0 (by decide)
    have h2 := h 2 (by decide)
    have a0 : 48 ≤ s (st + 0) ∧ s (st + 0) ≤ 52 := h0.2
    have a2 : 97 ≤ s (st + 2) ∧ s (st + 2) ≤ 106 := h2.2
    rw [Nat.add_zero] at a0
    refine ⟨?_, fun _ => ⟨h2.1, a0.1, a0.2, a2.1, a2.2⟩⟩
    unfold okO ordN
    rw [if_pos rfl]
    omega
  · refine ⟨?_, fun r => absurd r q⟩
    unfold okO ordN
    rw [if_neg q]
    omega
/-- what a whole row is made of -/
theorem prs_ok : ∀ f st, st ≤ n → n - st < f → (∀ o, o ∈ (prsL n s f st).2.2 → okO o) ∧ 4 * (prsL n s f st).2.2.length ≤ n + 1 - st := by
  intro f
  induction f with
  | zero => intro st _ h; exact absurd h (Nat.not_lt_zero _)
  | succ f ih =>
    intro st hst hf
    unfold prsL
    by_cases h1 : n ≤ st
    · rw [if_pos h1]; exact ⟨fun o ho => absurd ho List.not_mem_nil, Nat.zero_le _⟩
    · rw [if_neg h1]
      by_cases h2 : kdN (s st) = 5
      · rw [if_pos h2]; exact ⟨fun o ho => absurd ho List.not_mem_nil, Nat.zero_le _⟩
      · have hk : kdN (s st) < 5 := by have := kd_le (c := s st); omega
        obtain ⟨l1, l2⟩ := len_pos _ hk
        rw [if_neg h2]
        by_cases h3 : mtc n s (kdN (s st)) st (lenK (kdN (s st))) 0 < lenK (kdN (s st))
        · rw [if_pos h3]; exact ⟨fun o ho => absurd ho List.not_mem_nil, Nat.zero_le _⟩
        · rw [if_neg h3]
          have hw := mtc_whole h3
          have ho := (ord_ok hk hw).1
          have hlast := (hw (lenK (kdN (s st)) - 1) (by omega)).1
          have hone : (∀ o, o ∈ [ordN s (kdN (s st)) st] → okO o) ∧ 4 * [ordN s (kdN (s st)) st].length ≤ n + 1 - st := ⟨fun o hh => by rw [List.mem_singleton.mp hh]; exact ho, by rw [List.length_singleton]; omega⟩
          by_cases h4 : n ≤ st + lenK (kdN (s st))
          · rw [if_pos h4]; exact hone
          · rw [if_neg h4]
            by_cases h5 : s (st + lenK (kdN (s st))) = 59
            · obtain ⟨i1, i2⟩ := ih (st + lenK (kdN (s st)) + 1) (by omega) (by omega)
              rw [if_pos h5]
              refine ⟨fun o hh => ?_, ?_⟩
              · rcases List.mem_cons.mp hh with q | q
                · rw [q]; exact ho
                · exact i1 o q
              · show 4 * (ordN s (kdN (s st)) st :: _).length ≤ _
                rw [List.length_cons]
                omega
            · rw [if_neg h5]; exact hone
theorem TxC.fr {μ1 : PM} (hT : TxC n s μ) (h : FrC μ μ1) : TxC n s μ1 := ⟨hT.1, by rw [h.2 3 (by decide)]; exact hT.2.1, fun i hi => by rw [h.2 4 (by decide)]; exact hT.2.2 i hi⟩
theorem t_run35 : ∀ (f st cnt N : Nat) (z : Nat → Nat) (μ : PM) (w : Value), TxC n s μ → st < n → n - st < f → (prsL n s f st).1 = n → (prsL n s f st).2.1 = 20 → RT 23 z μ → Okz N z → N + (prsL n s f st).2.2.length ≤ 20020 → cnt + (prsL n s f st).2.2.length ≤ 1000 →
    ∃ μ', Oc_run_35 (Int32.ofNat cnt) (Int32.ofNat st) w μ = rI (Int32.ofNat (cnt + (runZ (prsL n s f st).2.2 z).1)) (stI μ' 3 1 0) ∧ FrC μ μ' ∧ RT 23 (runZ (prsL n s f st).2.2 z).2 μ' := by
  intro f
  induction f with
  | zero => intro st cnt N z μ w _ _ h; exact absurd h (Nat.not_lt_zero _)
  | succ f ih =>
    intro st cnt N z μ w hT hst hf hr1 hr2 hr hk hN hc
    have hn := hT.1
    unfold prsL at hr1 hr2 hN hc ⊢
    rw [if_neg (show ¬ n ≤ st by omega)] at hr1 hr2 hN hc ⊢
    rcases t_kindAt hT hst with ⟨k1, k2⟩ | ⟨k1, k2⟩
    · rw [if_pos k1] at hr1
      have hr1' : st = n := hr1
      omega
    · have h2 : ¬ kdN (s st) = 5 := by omega
      obtain ⟨l1, l2⟩ := len_pos _ k1
      rw [if_neg h2] at hr1 hr2 hN hc ⊢
      by_cases h3 : mtc n s (kdN (s st)) st (lenK (kdN (s st))) 0 < lenK (kdN (s st))
      · rw [if_pos h3] at hr2
        exact absurd hr2 (stN_no _ k1 _ h3)
      · rw [if_neg h3] at hr1 hr2 hN hc ⊢
        have hw := mtc_whole h3
        obtain ⟨ho, h4⟩ := ord_ok k1 hw
        have hlast := (hw (lenK (kdN (s st)) - 1) (by omega)).1
        have hcl : cls (410 + kdN (s st)) = 29 := (fits_tab _ k1 0 (by omega)).2.2.2.2.2.2.2.2.1
        rw [Oc_run_35_eq, hT.2.1, if_neg (le_n hst (by omega)), k2]
        by_cases h5 : n ≤ st + lenK (kdN (s st))
        · rw [if_pos h5] at hN hc ⊢
          have hN' : N + 1 ≤ 20020 := hN
          show ∃ μ', bI (d_Oc_obey (410 + kdN (s st)) (Int32.ofNat st) μ) _ = _ ∧ _
          rcases t_obey hr hT hk (by omega) k1 hst h4 with ⟨m1, μ1, a1, a2, a3⟩ | ⟨m1, a1⟩
          · rw [a1, bI_r, if_pos (by decide), chk_t hcl, t_signCount k1, bI_r, i3_add1, i3_add1, i3_add, Oc_run_35_eq, (hT.fr a2).2.1, if_pos (le_y (by omega) (by omega)), runZ_y m1]
            exact ⟨μ1, rfl, a2, a3⟩
          · rw [a1, bI_r, if_neg (fun r => r rfl), runZ_n m1]
            exact ⟨μ, rfl, FrC.rf, hr⟩
        · rw [if_neg h5] at hr1 hr2 hN hc ⊢
          by_cases h6 : s (st + lenK (kdN (s st))) = 59
          · rw [if_pos h6] at hr1 hr2 hN hc ⊢
            have hN' : N + ((prsL n s f (st + lenK (kdN (s st)) + 1)).2.2.length + 1) ≤ 20020 := by
              have : N + (ordN s (kdN (s st)) st :: (prsL n s f (st + lenK (kdN (s st)) + 1)).2.2).length ≤ 20020 := hN
              rw [List.length_cons] at this
              exact this
            have hc' : cnt + ((prsL n s f (st + lenK (kdN (s st)) + 1)).2.2.length + 1) ≤ 1000 := by
              have : cnt + (ordN s (kdN (s st)) st :: (prsL n s f (st + lenK (kdN (s st)) + 1)).2.2).length ≤ 1000 := hc
              rw [List.length_cons] at this
              exact this
            show ∃ μ', bI (d_Oc_obey (410 + kdN (s st)) (Int32.ofNat st) μ) _ = rI (Int32.ofNat (cnt + (runZ (ordN s (kdN (s st)) st :: (prsL n s f (st + lenK (kdN (s st)) + 1)).2.2) z).1)) _ ∧ _ ∧ RT 23 (runZ (ordN s (kdN (s st)) st :: (prsL n s f (st + lenK (kdN (s st)) + 1)).2.2) z).2 μ'
            rcases t_obey hr hT hk (by omega) k1 hst h4 with ⟨m1, μ1, a1, a2, a3⟩ | ⟨m1, a1⟩
            · have hlt : st + lenK (kdN (s st)) + 1 < n := by
                refine Classical.byContradiction fun q => ?_
                have e : st + lenK (kdN (s st)) + 1 = n := by omega
                have hr2' : (prsL n s f (st + lenK (kdN (s st)) + 1)).2.1 = 20 := hr2
                obtain ⟨g, rfl⟩ : ∃ g, f = g + 1 := ⟨f - 1, by omega⟩
                unfold prsL at hr2'
                rw [if_pos (by omega)] at hr2'
                exact absurd (show (0 : Nat) = 20 from hr2') (by decide)
              obtain ⟨μ2, c1, c2, c3⟩ := ih (st + lenK (kdN (s st)) + 1) (cnt + 1) (N + 1) (doZ z (ordN s (kdN (s st)) st)) μ1 (.ref (410 + kdN (s st))) (hT.fr a2) hlt (by omega) hr1 hr2 a3 (ok_do hk (by omega) ho m1) (by omega) (by omega)
              rw [a1, bI_r, if_pos (by decide), chk_t hcl, t_signCount k1, bI_r, i3_add1, i3_add1, i3_add, ← Nat.add_assoc, c1, runZ_y m1]
              refine ⟨μ2, ?_, a2.tr c2, c3⟩
              show rI (Int32.ofNat (cnt + 1 + (runZ (prsL n s f (st + lenK (kdN (s st)) + 1)).2.2 (doZ z (ordN s (kdN (s st)) st))).1)) _ = rI (Int32.ofNat (cnt + ((runZ (prsL n s f (st + lenK (kdN (s st)) + 1)).2.2 (doZ z (ordN s (kdN (s st)) st))).1 + 1))) _
              rw [show ∀ a : Nat, cnt + 1 + a = cnt + (a + 1) from fun a => by omega]
            · rw [a1, bI_r, if_neg (fun r => r rfl), runZ_n m1]
              exact ⟨μ, rfl, FrC.rf, hr⟩
          · rw [if_neg h6] at hr1
            have hr1' : st + lenK (kdN (s st)) = n := hr1
            omega
theorem t_isWhole (hT : TxC n s μ) : d_Txt_isWholeRow μ = rI (if (prsL n s 61 0).1 = n ∧ (prsL n s 61 0).2.1 = 20 then 1 else 0) μ := by
  have hn := hT.1
  have hle := prs_le (n := n) (s := s) 61 0 (Nat.zero_le _)
  rw [e_Txt_isWholeRow, t_errorIndex hT, bI_r, hT.2.1]
  by_cases q : (prsL n s 61 0).1 = n
  · have hw := t_whole15 hT 61 0 (Nat.zero_le _) (by omega) q pU
    rw [if_pos (le_y (by omega) (by omega))]
    refine Eq.trans hw ?_
    by_cases q2 : (prsL n s 61 0).2.1 = 20
    · rw [if_pos q2, if_pos ⟨q, q2⟩]
    · rw [if_neg q2, if_neg (fun r => q2 r.2)]
  · rw [if_neg (le_n (by omega) (by omega)), if_neg (fun r => q r.1)]
theorem o_run : Op d_Lw_run d_Md_run := by
  intro N μ hN hJ
  have hJ0 := hJ
  obtain ⟨z, old, sv, zs, n, s, h1, h2, h3, h4, h5, h6, t1, t2, ⟨t3, t31⟩, t4⟩ := hJ
  have hC : TxC n s μ := ⟨t1, t2, fun i hi => ⟨(t4 i hi).1, (t4 i hi).2.2⟩⟩
  have hle := prs_le (n := n) (s := s) 61 0 (Nat.zero_le _)
  obtain ⟨hoo, hlen⟩ := prs_ok (n := n) (s := s) 61 0 (Nat.zero_le _) (by omega)
  by_cases hw : (prsL n s 61 0).1 = n ∧ (prsL n s 61 0).2.1 = 20
  · obtain ⟨hw1, hw2⟩ := hw
    have hn0 : 0 < n := by
      refine Classical.byContradiction fun q => ?_
      unfold prsL at hw2
      rw [if_pos (by omega)] at hw2
      exact absurd (show (0 : Nat) = 20 from hw2) (by decide)
    obtain ⟨μs, old', a1, a2, a3, a4, a5⟩ := t_save h2 h3.1 h4
    have hrs : RT 23 z μs := RT_fr (fun x y hx hx2 => a3 x (by omega) (by omega) y) h2
    have hCs : TxC n s μs := ⟨t1, by rw [a3 3 (by decide) (by decide)]; exact t2, fun i hi => by rw [a3 4 (by decide) (by decide)]; exact ⟨(t4 i hi).1, (t4 i hi).2.2⟩⟩
    obtain ⟨μr, b1, b2, b3⟩ := t_run35 61 0 0 N z μs pU hCs hn0 (by omega) hw1 hw2 hrs h3 (by omega) (by omega)
    rw [Nat.zero_add] at b1
    have b1' : Oc_run_35 0 0 pU μs = rI (Int32.ofNat (runZ (prsL n s 61 0).2.2 z).1) (stI μr 3 1 0) := b1
    generalize hV : (runZ (prsL n s 61 0).2.2 z).1 = V at b1'
    have hA : ∀ x, (x < 1 ∨ x = 2 ∨ x = 4 ∨ (12 ≤ x ∧ x < 23) ∨ 345 ≤ x) → mI (stJ (stI μr 3 1 0) 22 0 (Int32.ofNat V).toInt64) x = mI μ x := fun x hx => by
      show mI (stI μr 3 1 0) x = _
      rw [stI_ne _ _ _ (by omega), b2.2 x (by omega)]
      funext y
      exact a3 x (by omega) (by omega) y
    have zA : mI (stI (stJ (stI μr 3 1 0) 22 0 (Int32.ofNat V).toInt64) 12 16 0) 13 = zI z := by rw [stI_ne _ _ _ (by decide), hA 13 (by decide)]; exact h1
    have tA : TxM n s (stI (stJ (stI μr 3 1 0) 22 0 (Int32.ofNat V).toInt64) 12 16 0) := ⟨t1, by rw [st_get, if_neg (by decide), hA 12 (by decide)]; exact t3, fun i hi => by rw [stI_ne _ _ _ (by decide), hA 16 (by decide)]; exact ⟨(t4 i hi).2.1, (t4 i hi).2.2⟩⟩
    obtain ⟨μB, c1, c2, c3⟩ := m_read tA
    obtain ⟨d1, d2, d3⟩ := c3 hw1
    have zB : mI μB 13 = zI z := by rw [c2.2.1 13 (by decide) (by decide)]; exact zA
    have rB : RingM sv zs μB := by
      obtain ⟨q1, q2, q3⟩ := h5
      refine ⟨q1, ?_, fun k hk i hi => ?_⟩
      · rw [c2.2.2.1 14 (by decide), st_get, if_neg (by decide), hA 12 (by decide)]; exact q2
      · rw [c2.2.1 15 (by decide) (by decide), stI_ne _ _ _ (by decide), hA 15 (by decide)]; exact q3 k hk i hi
    obtain ⟨μC, f1, f2, f3, f4, f5⟩ := m_saveR zB rB
    have zC : mI μC 13 = zI z := by rw [f3 13 (by decide) (by decide)]; exact zB
    obtain ⟨μD, g1, g2, g3⟩ := m_run37 (prsL n s 61 0).2.2 0 N z μC zC h3 (by omega) hoo (by rw [f4 11 (by decide), d2, Nat.zero_add]) (by omega) (fun i hi => by rw [f3 17 (by decide) (by decide), Nat.zero_add]; exact d3 i hi)
    rw [Nat.zero_add, hV] at g1
    have g1' : Md_run_37 0 μC = rI (Int32.ofNat V) (stI μD 12 15 0) := g1
    have okD : Okz (N + 20) (runZ (prsL n s 61 0).2.2 z).2 := (ok_run _ N z h3 (by omega) hoo).mono (by omega)
    have hB : ∀ x, x ≠ 12 → x ≠ 17 → mI μB x = mI (stJ (stI μr 3 1 0) 22 0 (Int32.ofNat V).toInt64) x := fun x q1 q2 => by rw [c2.2.1 x q1 q2, stI_ne _ _ _ q1]
    have hD : ∀ x, (x < 12 ∨ x = 16 ∨ 23 ≤ x) → mI (stI μD 12 15 0) x = mI (stJ (stI μr 3 1 0) 22 0 (Int32.ofNat V).toInt64) x := fun x hx => by
      rw [stI_ne _ _ _ (by omega), g2.2.1 x (by omega), f3 x (by omega) (by omega), hB x (by omega) (by omega)]
    have h22 : (stI μD 12 15 0).2 = (stJ (stI μr 3 1 0) 22 0 (Int32.ofNat V).toInt64).2 := by
      show μD.2 = _
      rw [g2.1, f2, c2.1]
      rfl
    have h222 : (stI μD 12 15 0).2.2 = μ.2.2 := by
      rw [h22]
      show μr.2.2 = _
      rw [b2.1, a2]
    refine ⟨0, Int32.ofNat V, stJ (stI μr 3 1 0) 22 0 (Int32.ofNat V).toInt64, stI μD 12 15 0, ?_, ?_, ?_, fun _ => ?_, ⟨(runZ (prsL n s 61 0).2.2 z).2, old', nxt sv, pushZ zs sv z, 0, s, ?_, ?_, okD, ?_, ?_, pushZ_ok h5.1 h3 h6 (by omega), by decide, ?_, ⟨?_, ?_⟩, fun i hi => absurd hi (Nat.not_lt_zero i)⟩, ?_, ?_, ?_, ?_, ?_⟩
    · rw [e_Lw_run, e_Oc_run, t_isWhole hC, bI_r, if_pos (show (prsL n s 61 0).1 = n ∧ (prsL n s 61 0).2.1 = 20 from ⟨hw1, hw2⟩), if_pos (by decide), a1, bV_r, b1']
      rfl
    · rw [e_Md_run, c1, bI_r, c2.2.2.1 15 (by decide), tA.2.1, hw1, if_neg (lt_n (Nat.le_refl _) (by omega)), d1, hw2, if_pos (show Int32.ofNat 20 = 20 from rfl), f1, bV_r, g1']
    · rw [st_get, if_neg (by decide), g2.2.2.1 16 (by decide) (by decide), f4 16 (by decide), c2.2.2.1 16 (by decide), st_get, if_pos ⟨rfl, rfl⟩]
    · have e9 : mJ (stI μD 12 15 0) = mJ (stJ (stI μr 3 1 0) 22 0 (Int32.ofNat V).toInt64) := congrArg Prod.fst h22
      rw [e9]
      rfl
    · rw [stI_ne _ _ _ (by decide)]; exact g3
    · exact RT_fr (fun x y hx hx2 => by rw [hD x (by omega)]; show mI (stI μr 3 1 0) x y = _; rw [stI_ne _ _ _ (by omega)]) b3
    · obtain ⟨q1, q2, q3, q4, q5⟩ := a5.fr b2
      refine ⟨q1, q2, ?_, ?_, fun k hk => RT_fr (fun x y hx hx2 => ?_) (q5 k hk)⟩
      · rw [hD 1 (by decide)]; show mI (stI μr 3 1 0) 1 1 = _; rw [stI_ne _ _ _ (by decide)]; exact q3
      · rw [hD 1 (by decide)]; show mI (stI μr 3 1 0) 1 2 = _; rw [stI_ne _ _ _ (by decide)]; exact q4
      · rw [hD x (by omega)]; show mI (stI μr 3 1 0) x y = _; rw [stI_ne _ _ _ (by omega)]
    · obtain ⟨q1, q2, q3⟩ := f5.fr g2
      refine ⟨q1, ?_, fun k hk i hi => ?_⟩
      · rw [st_get, if_neg (by decide)]; exact q2
      · rw [stI_ne _ _ _ (by decide)]; exact q3 k hk i hi
    · rw [hD 3 (by decide)]; show mI (stI μr 3 1 0) 3 1 = _; rw [st_get, if_pos ⟨rfl, rfl⟩]; rfl
    · rw [st_get, if_pos ⟨rfl, rfl⟩]; rfl
    · rw [stI_ne _ _ _ (by decide), g2.2.2.2, f3 21 (by decide) (by decide), hB 21 (by decide) (by decide), hA 21 (by decide)]; exact t31
    · rw [h222]; exact Nat.le_add_right _ _
    · rw [h222]
    · rw [hD 390 (by decide), hA 390 (by decide)]
    · show μr.2.2.1 = _
      rw [b2.1, a2]
    · exact hA 390 (by decide)
  · have tA : TxM n s (stI (exM μ) 12 16 0) := ⟨t1, by rw [st_get, if_neg (by decide)]; exact t3, fun i hi => by rw [stI_ne _ _ _ (by decide)]; exact ⟨(t4 i hi).2.1, (t4 i hi).2.2⟩⟩
    obtain ⟨μB, c1, c2, c3⟩ := m_read tA
    have hfa : d_Md_run (exM μ) = rI 0 (stI μB 12 16 1) := by
      rw [e_Md_run, c1, bI_r, c2.2.2.1 15 (by decide), tA.2.1]
      by_cases q : (prsL n s 61 0).1 = n
      · obtain ⟨d1, -⟩ := c3 q
        have hne : ¬ mI μB 12 12 = 20 := fun r => by
          rw [d1] at r
          have hb : (prsL n s 61 0).2.1 < 2147483648 := by
            have key : ∀ f st, (prsL n s f st).2.1 ≤ 20 := by
              intro f
              induction f with
              | zero => intro st; exact Nat.zero_le _
              | succ f ih =>
                intro st
                unfold prsL
                have h12 : ∀ k, k < 5 → ∀ i, i < lenK k → stN k i ≤ 20 := by decide
                by_cases u1 : n ≤ st
                · rw [if_pos u1]; exact Nat.zero_le _
                · rw [if_neg u1]
                  by_cases u2 : kdN (s st) = 5
                  · rw [if_pos u2]; exact Nat.zero_le _
                  · rw [if_neg u2]
                    by_cases u3 : mtc n s (kdN (s st)) st (lenK (kdN (s st))) 0 < lenK (kdN (s st))
                    · rw [if_pos u3]; exact h12 _ (by have := kd_le (c := s st); omega) _ u3
                    · rw [if_neg u3]
                      by_cases u4 : n ≤ st + lenK (kdN (s st))
                      · rw [if_pos u4]; exact Nat.le_refl _
                      · rw [if_neg u4]
                        by_cases u5 : s (st + lenK (kdN (s st))) = 59
                        · rw [if_pos u5]; exact ih _
                        · rw [if_neg u5]; exact Nat.le_refl _
            have := key 61 0
            omega
          rw [show (20 : Int32) = Int32.ofNat 20 from rfl, i3_eq hb (by decide)] at r
          exact hw ⟨q, r⟩
        rw [q, if_neg (lt_n (Nat.le_refl _) (by omega)), if_neg hne, e_Md_fails]
        rfl
      · rw [if_pos (lt_y (show (prsL n s 61 0).1 < n by omega) (by omega)), e_Md_fails]
        rfl
    refine ⟨1, 0, exM μ, stI μB 12 16 1, ?_, hfa, ?_, fun q => absurd q (by decide), (Jn.same ⟨fun x hx => ?_, ?_, ?_, ?_⟩ hJ0).mono (by omega), ?_, ?_, ?_, rfl, rfl⟩
    · rw [e_Lw_run, e_Oc_run, t_isWhole hC, bI_r, if_neg hw, if_neg (fun r => r rfl)]
      rfl
    · rw [st_get, if_pos ⟨rfl, rfl⟩]
    · rw [stI_ne _ _ _ (by omega), c2.2.1 x (by omega) (by omega), stI_ne _ _ _ (by omega)]; rfl
    · rw [st_get, if_neg (by decide), c2.2.2.1 14 (by decide), st_get, if_neg (by decide)]; rfl
    · rw [st_get, if_neg (by decide), c2.2.2.1 15 (by decide), st_get, if_neg (by decide)]; rfl
    · rw [stI_ne _ _ _ (by decide), c2.2.1 21 (by decide) (by decide), stI_ne _ _ _ (by decide)]; rfl
    · have : (stI μB 12 16 1).2.2 = (exM μ).2.2 := (congrArg Prod.snd c2.1).trans rfl
      rw [this]
      show μ.2.2.2 + 1 ≤ μ.2.2.2 + 3
      omega
    · have : (stI μB 12 16 1).2.2 = (exM μ).2.2 := (congrArg Prod.snd c2.1).trans rfl
      rw [this]
      rfl
    · rw [stI_ne _ _ _ (by decide), c2.2.1 390 (by decide) (by decide), stI_ne _ _ _ (by decide)]; rfl
end RUN2
