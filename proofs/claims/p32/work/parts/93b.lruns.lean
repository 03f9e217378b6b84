/-! THE LAW'S ORDERS: one order -/
section LRUNS
variable {z : Nat → Nat} {μ μ1 : PM} {x1 x2 : Int32} {cnt m N κ o t : Nat}
/-- an order by its kind -/
def ordK (κ o t : Nat) : Nat := if κ ≤ 3 then κ else 10 + 10 * o + t
theorem ordK_ok (ho : o < 4) (ht : t < 10) : okO (ordK κ o t) := by
  unfold okO ordK
  by_cases h : κ ≤ 3
  · rw [if_pos h]; exact Or.inl h
  · rw [if_neg h]; exact Or.inr (by omega)
theorem k_no {a b : Nat} (h : a ≠ b) (ha : a < 100) (hb : b < 100) : ¬ Int32.ofNat a = Int32.ofNat b := fun q => h (by rw [i3_eq (by omega) (by omega)] at q; exact q)
theorem l_runs85 {T : List Nat} {x10 x11 x12 : Int32} (hT : TxL T μ) (hn : T.length < 50) (hκ : κ < 7) (ho : o < 4) (ht : t < 10) : ∃ μ', Lw_runs_85 x1 x2 x10 x11 x12 (Int32.ofNat κ) (Int32.ofNat o) (Int32.ofNat t) μ = Lw_runs_200 x1 x2 x10 x11 x12 (Int32.ofNat κ) (Int32.ofNat o) (Int32.ofNat t) μ' ∧ XFr μ μ' ∧ TxL (T ++ sg (ordK κ o t)) μ' := by
  rw [Lw_runs_85_eq]
  by_cases h0 : κ = 0
  · subst h0
    obtain ⟨μ1, a1, a2, a3⟩ := l_letters (a := 108) (b := 111) (c := 116) (d := 115) hT (by omega) (by decide) (by decide) (by decide) (by decide)
    have a1' : d_Lw_letters 108 111 116 115 μ = rI 1 μ1 := a1
    rw [if_neg (show ¬ ¬ Int32.ofNat 0 = 0 by decide), a1', bI_r, if_pos (show ¬ (1 : Int32) = 0 by decide)]
    exact ⟨μ1, rfl, a2, a3⟩
  rw [if_pos (show ¬ Int32.ofNat κ = 0 from k_no (b := 0) h0 (by omega) (by decide))]
  by_cases h1 : κ = 1
  · subst h1
    obtain ⟨μ1, a1, a2, a3⟩ := l_letters (a := 119) (b := 101) (c := 116) (d := 0) hT (by omega) (by decide) (by decide) (by decide) (by decide)
    have a1' : d_Lw_letters 119 101 116 0 μ = rI 1 μ1 := a1
    rw [if_neg (show ¬ ¬ Int32.ofNat 1 = 1 by decide), a1', bI_r, if_pos (show ¬ (1 : Int32) = 0 by decide)]
    exact ⟨μ1, rfl, a2, a3⟩
  rw [if_pos (show ¬ Int32.ofNat κ = 1 from k_no (b := 1) h1 (by omega) (by decide))]
  by_cases h2 : κ = 2
  · subst h2
    obtain ⟨μ1, a1, a2, a3⟩ := l_letters (a := 100) (b := 114) (c := 121) (d := 0) hT (by omega) (by decide) (by decide) (by decide) (by decide)
    have a1' : d_Lw_letters 100 114 121 0 μ = rI 1 μ1 := a1
    rw [if_neg (show ¬ ¬ Int32.ofNat 2 = 2 by decide), a1', bI_r, if_pos (show ¬ (1 : Int32) = 0 by decide)]
    exact ⟨μ1, rfl, a2, a3⟩
  rw [if_pos (show ¬ Int32.ofNat κ = 2 from k_no (b := 2) h2 (by omega) (by decide))]
  by_cases h3 : κ = 3
  · subst h3
    obtain ⟨μ1, a1, a2, a3⟩ := l_letters (a := 110) (b := 101) (c := 120) (d := 116) hT (by omega) (by decide) (by decide) (by decide) (by decide)
    have a1' : d_Lw_letters 110 101 120 116 μ = rI 1 μ1 := a1
    rw [if_neg (show ¬ ¬ Int32.ofNat 3 = 3 by decide), a1', bI_r, if_pos (show ¬ (1 : Int32) = 0 by decide)]
    exact ⟨μ1, rfl, a2, a3⟩
  obtain ⟨μ1, a1, a2, a3⟩ := l_letters (a := 48 + o) (b := 58) (c := 97 + t) (d := 0) hT (by omega) (by omega) (by decide) (by omega) (by decide)
  have e48 : 48 + Int32.ofNat o = Int32.ofNat (48 + o) := i3_add 48 o
  have e97 : 97 + Int32.ofNat t = Int32.ofNat (97 + t) := i3_add 97 t
  have a1' : d_Lw_letters (Int32.ofNat (48 + o)) 58 (Int32.ofNat (97 + t)) 0 μ = rI 1 μ1 := a1
  rw [if_pos (show ¬ Int32.ofNat κ = 3 from k_no (b := 3) h3 (by omega) (by decide)), e48, e97, a1', bI_r, if_pos (show ¬ (1 : Int32) = 0 by decide)]
  refine ⟨μ1, rfl, a2, ?_⟩
  have es : sg (ordK κ o t) = [48 + o, 58, 97 + t] := by
    unfold sg ordK
    rw [if_neg (show ¬ κ ≤ 3 by omega), if_neg (by omega), if_neg (by omega), if_neg (by omega), if_neg (by omega), show (10 + 10 * o + t - 10) / 10 = o by omega, show (10 + 10 * o + t - 10) % 10 = t by omega]
  rw [es]
  exact a3
theorem l_runs312n {x10 x12 x14 x15 : Int32} : Lw_runs_312 x1 x2 x10 0 x12 (Int32.ofNat κ) x14 x15 μ = Lw_runs_14 x1 x2 x10 0 (x12 + 1) (.int (Int32.ofNat κ)) (.int x14) (.int x15) μ := by
  rw [Lw_runs_312_eq, if_neg (show ¬ ¬ (0 : Int32) = 0 by decide), Lw_runs_404_eq]
theorem l_runs264n {x10 x12 x14 x15 : Int32} : Lw_runs_264 x1 x2 x10 0 x12 (Int32.ofNat κ) x14 x15 μ = Lw_runs_14 x1 x2 x10 0 (x12 + 1) (.int (Int32.ofNat κ)) (.int x14) (.int x15) μ := by
  rw [Lw_runs_264_eq]
  by_cases h : Int32.ofNat κ ≤ 3
  · rw [if_pos h, l_runs312n]
  · rw [if_neg h, if_pos rfl, l_runs312n]
theorem l_runs232n {x10 x12 x14 x15 : Int32} : Lw_runs_232 x1 x2 x10 0 x12 (Int32.ofNat κ) x14 x15 μ = Lw_runs_14 x1 x2 x10 0 (x12 + 1) (.int (Int32.ofNat κ)) (.int x14) (.int x15) μ := by
  rw [Lw_runs_232_eq]
  by_cases h : Int32.ofNat κ = 1
  · rw [if_pos h, if_pos rfl, l_runs264n]
  · rw [if_neg h]
    by_cases h2 : Int32.ofNat κ = 2
    · rw [if_neg (fun q => q h2), if_pos rfl, l_runs264n]
    · rw [if_pos h2, l_runs264n]
theorem l_runs200n {x10 x12 x14 x15 : Int32} : Lw_runs_200 x1 x2 x10 0 x12 (Int32.ofNat κ) x14 x15 μ = Lw_runs_14 x1 x2 x10 0 (x12 + 1) (.int (Int32.ofNat κ)) (.int x14) (.int x15) μ := by
  rw [Lw_runs_200_eq]
  by_cases h : Int32.ofNat κ = 0
  · rw [if_neg (fun q => q h), if_pos rfl, l_runs232n]
  · rw [if_pos h, l_runs232n]
theorem l_runs200 (h : LT z μ) (hk : Okz N z) (hN : N ≤ 20000) (hκ : κ < 7) (ho : o < 4) (ht : t < 10) :
    (mayB z (ordK κ o t) ∧ ∃ μ', Lw_runs_200 x1 x2 (Int32.ofNat cnt) 1 (Int32.ofNat m) (Int32.ofNat κ) (Int32.ofNat o) (Int32.ofNat t) μ = Lw_runs_14 x1 x2 (Int32.ofNat (cnt + 1)) 1 (Int32.ofNat (m + 1)) (.int (Int32.ofNat κ)) (.int (Int32.ofNat o)) (.int (Int32.ofNat t)) μ' ∧ LFr μ μ' ∧ LT (doZ z (ordK κ o t)) μ') ∨
    (¬ mayB z (ordK κ o t) ∧ Lw_runs_200 x1 x2 (Int32.ofNat cnt) 1 (Int32.ofNat m) (Int32.ofNat κ) (Int32.ofNat o) (Int32.ofNat t) μ = Lw_runs_14 x1 x2 (Int32.ofNat cnt) 0 (Int32.ofNat (m + 1)) (.int (Int32.ofNat κ)) (.int (Int32.ofNat o)) (.int (Int32.ofNat t)) μ) := by
  have hb := hk.1
  have hn1 := h.1.2.1
  have h4 := hb.hr
  have n10 : ¬ (1 : Int32) = 0 := by decide
  have et : d_Lw_today μ = rI (Int32.ofNat (plyS z)) μ := by rw [ply30 hk hn1]; exact l_today h hb
  have hps := plyS_le (z := z)
  by_cases h0 : κ = 0
  · subst h0
    have eo : ordK 0 o t = 0 := rfl
    have em : mayB z 0 = (z 4 = 0 ∧ plyS z = 0) := if_pos rfl
    have ed : doZ z 0 = lotZ z := if_pos rfl
    rw [eo, em, ed, Lw_runs_200_eq, if_neg (show ¬ ¬ Int32.ofNat 0 = 0 by decide), if_neg n10, a_n4 h]
    by_cases q4 : z 4 = 0
    · rw [if_neg (show ¬ ¬ Int32.ofNat (z 4) = 0 from fun q => q (by rw [q4]; rfl)), et, bI_r]
      by_cases qp : plyS z = 0
      · obtain ⟨μ1, a1, a2, a3⟩ := l_drawn h hk qp
        rw [if_neg (show ¬ ¬ Int32.ofNat (plyS z) = 0 from fun q => q (by rw [qp]; rfl)), Lw_runs_232_eq, if_neg (show ¬ Int32.ofNat 0 = 1 by decide), if_pos (show ¬ Int32.ofNat 0 = 2 by decide), Lw_runs_264_eq, if_pos (show Int32.ofNat 0 ≤ 3 by decide), Lw_runs_312_eq, if_pos n10, Lw_runs_320_eq, if_neg (show ¬ ¬ Int32.ofNat 0 = 0 by decide), a1, bI_r, Lw_runs_336_eq, if_neg (show ¬ Int32.ofNat 0 = 1 by decide), if_pos (show ¬ Int32.ofNat 0 = 2 by decide), Lw_runs_356_eq, if_pos (show ¬ Int32.ofNat 0 = 3 by decide), Lw_runs_377_eq, if_pos (show Int32.ofNat 0 ≤ 3 by decide), Lw_runs_404_eq, i3_add1, i3_add1]
        exact Or.inl ⟨⟨q4, qp⟩, μ1, rfl, a2, a3⟩
      · rw [if_pos (show ¬ Int32.ofNat (plyS z) = 0 from fun q => qp (by rw [i3_n0 (by omega)] at q; exact q)), l_runs232n, i3_add1]
        exact Or.inr ⟨fun q => qp q.2, rfl⟩
    · rw [if_pos (show ¬ Int32.ofNat (z 4) = 0 from fun q => q4 (by rw [i3_n0 (by omega)] at q; exact q)), l_runs232n, i3_add1]
      exact Or.inr ⟨fun q => q4 q.1, rfl⟩
  rw [Lw_runs_200_eq, if_pos (show ¬ Int32.ofNat κ = 0 from k_no (b := 0) h0 (by omega) (by decide)), Lw_runs_232_eq]
  have hwet : ∀ b : Nat, LT (setN z 5 b) (stI μ 18 5 (Int32.ofNat b)) := fun b => h.s18 (by decide) (by decide)
  by_cases h1 : κ = 1
  · subst h1
    have eo : ordK 1 o t = 1 := rfl
    have em : mayB z 1 = (plyS z = 0) := rfl
    have ed : doZ z 1 = setN z 5 1 := rfl
    rw [eo, em, ed, if_pos (show Int32.ofNat 1 = 1 from rfl), if_neg n10, et, bI_r]
    by_cases qp : plyS z = 0
    · rw [if_neg (show ¬ ¬ Int32.ofNat (plyS z) = 0 from fun q => q (by rw [qp]; rfl)), Lw_runs_264_eq, if_pos (show Int32.ofNat 1 ≤ 3 by decide), Lw_runs_312_eq, if_pos n10, Lw_runs_320_eq, if_pos (show ¬ Int32.ofNat 1 = 0 by decide), Lw_runs_336_eq, if_pos (show Int32.ofNat 1 = 1 from rfl), Lw_runs_356_eq, if_pos (show ¬ Int32.ofNat 1 = 3 by decide), Lw_runs_377_eq, if_pos (show Int32.ofNat 1 ≤ 3 by decide), Lw_runs_404_eq, i3_add1, i3_add1, show (2 : Int32) - Int32.ofNat 1 = Int32.ofNat 1 by decide]
      exact Or.inl ⟨qp, _, rfl, LFr.rf.st (by decide), hwet 1⟩
    · rw [if_pos (show ¬ Int32.ofNat (plyS z) = 0 from fun q => qp (by rw [i3_n0 (by omega)] at q; exact q)), l_runs264n, i3_add1]
      exact Or.inr ⟨qp, rfl⟩
  rw [if_neg (show ¬ Int32.ofNat κ = 1 from k_no (b := 1) h1 (by omega) (by decide))]
  by_cases h2 : κ = 2
  · subst h2
    have eo : ordK 2 o t = 2 := rfl
    have em : mayB z 2 = (plyS z = 0) := rfl
    have ed : doZ z 2 = setN z 5 0 := rfl
    rw [eo, em, ed, if_neg (show ¬ ¬ Int32.ofNat 2 = 2 by decide), if_neg n10, et, bI_r]
    by_cases qp : plyS z = 0
    · rw [if_neg (show ¬ ¬ Int32.ofNat (plyS z) = 0 from fun q => q (by rw [qp]; rfl)), Lw_runs_264_eq, if_pos (show Int32.ofNat 2 ≤ 3 by decide), Lw_runs_312_eq, if_pos n10, Lw_runs_320_eq, if_pos (show ¬ Int32.ofNat 2 = 0 by decide), Lw_runs_336_eq, if_neg (show ¬ Int32.ofNat 2 = 1 by decide), if_neg (show ¬ ¬ Int32.ofNat 2 = 2 by decide), Lw_runs_356_eq, if_pos (show ¬ Int32.ofNat 2 = 3 by decide), Lw_runs_377_eq, if_pos (show Int32.ofNat 2 ≤ 3 by decide), Lw_runs_404_eq, i3_add1, i3_add1, show (2 : Int32) - Int32.ofNat 2 = Int32.ofNat 0 by decide]
      exact Or.inl ⟨qp, _, rfl, LFr.rf.st (by decide), hwet 0⟩
    · rw [if_pos (show ¬ Int32.ofNat (plyS z) = 0 from fun q => qp (by rw [i3_n0 (by omega)] at q; exact q)), l_runs264n, i3_add1]
      exact Or.inr ⟨qp, rfl⟩
  rw [if_pos (show ¬ Int32.ofNat κ = 2 from k_no (b := 2) h2 (by omega) (by decide)), Lw_runs_264_eq]
  by_cases h3 : κ = 3
  · subst h3
    have eo : ordK 3 o t = 3 := rfl
    have em : mayB z 3 = True := rfl
    have ed : doZ z 3 = nxtZ z := rfl
    obtain ⟨μ1, a1, a2, a3⟩ := l_next h hk (by omega)
    rw [eo, em, ed, if_pos (show Int32.ofNat 3 ≤ 3 by decide), Lw_runs_312_eq, if_pos n10, Lw_runs_320_eq, if_pos (show ¬ Int32.ofNat 3 = 0 by decide), Lw_runs_336_eq, if_neg (show ¬ Int32.ofNat 3 = 1 by decide), if_pos (show ¬ Int32.ofNat 3 = 2 by decide), Lw_runs_356_eq, if_neg (show ¬ ¬ Int32.ofNat 3 = 3 by decide), a1, bV_r, Lw_runs_377_eq, if_pos (show Int32.ofNat 3 ≤ 3 by decide), Lw_runs_404_eq, i3_add1, i3_add1]
    exact Or.inl ⟨trivial, μ1, rfl, a2, a3⟩
  have eo : ordK κ o t = 10 + 10 * o + t := if_neg (by omega)
  have e1 : (10 + 10 * o + t - 10) / 10 = o := by omega
  have e2 : (10 + 10 * o + t - 10) % 10 = t := by omega
  have em : mayB z (10 + 10 * o + t) = (o < z 1 ∧ reas z o t = 0) := by
    unfold mayB
    rw [if_neg (by omega), if_neg (by omega), if_neg (by omega), e1, e2]
  have ed : doZ z (10 + 10 * o + t) = plaZ z o t := by
    unfold doZ
    rw [if_neg (by omega), if_neg (by omega), if_neg (by omega), if_neg (by omega), e1, e2]
  have k3' : ¬ Int32.ofNat κ ≤ 3 := le_n (b := 3) (by omega) (by omega)
  rw [eo, em, ed, if_neg k3', if_neg n10, a_n1 h]
  by_cases q1 : o < z 1
  · have hre : reas z o t ≤ 6 := reas_le
    rw [if_neg (le_n q1 (by omega)), l_why h TA16 hb q1 ht, bI_r]
    by_cases q2 : reas z o t = 0
    · obtain ⟨μ1, a1, a2, a3⟩ := l_play h hk q1 ht q2
      rw [if_neg (show ¬ ¬ Int32.ofNat (reas z o t) = 0 from fun q => q (by rw [q2]; rfl)), Lw_runs_312_eq, if_pos n10, Lw_runs_320_eq, if_pos (show ¬ Int32.ofNat κ = 0 from k_no (b := 0) h0 (by omega) (by decide)), Lw_runs_336_eq, if_neg (show ¬ Int32.ofNat κ = 1 from k_no (b := 1) h1 (by omega) (by decide)), if_pos (show ¬ Int32.ofNat κ = 2 from k_no (b := 2) h2 (by omega) (by decide)), Lw_runs_356_eq, if_pos (show ¬ Int32.ofNat κ = 3 from k_no (b := 3) h3 (by omega) (by decide)), Lw_runs_377_eq, if_neg k3', a1, bI_r, Lw_runs_404_eq, i3_add1, i3_add1]
      exact Or.inl ⟨⟨q1, q2⟩, μ1, rfl, a2, a3⟩
    · rw [if_pos (show ¬ Int32.ofNat (reas z o t) = 0 from fun q => q2 (by rw [i3_n0 (by omega)] at q; exact q)), l_runs312n, i3_add1]
      exact Or.inr ⟨fun r => q2 r.2, rfl⟩
  · rw [if_pos (le_y (by omega) (by omega)), l_runs312n, i3_add1]
    exact Or.inr ⟨fun r => q1 r.1, rfl⟩
end LRUNS
