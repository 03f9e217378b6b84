/-! SEMANTICS: the law's loop (by wip/whole/genlaw.py) -/
section LAWL
variable {μ μ1 : PM} {N i n : Nat}
/-- behind one call: on to the next -/
def GoesL (N i : Nat) (μ : PM) (t : Option PO) : Prop := ∃ (w5 w6 w7 : Value) (μ' : PM), t = Lw_law_23 (Int32.ofNat i + 5) w5 w6 w7 μ' ∧ Jn (N + 20) μ' ∧ μ'.2.2.2 ≤ μ.2.2.2 + 3 ∧ μ'.2.2.1 = μ.2.2.1
noncomputable def lawT (x : Int32) (w7 : Value) (v7 v13 : Int32) (μ12 : PM) : Option PO := bI (d_Md_thrown μ12) (fun v15 μ14 => if v15 = v7 then if ¬ v7 = 0 then Lw_law_23 (x + 5) (.int v7) (.int v13) w7 μ14 else if (lg_cmp (mJ μ14 22 0) ((v13 : Int32).toInt64)) = 0 then Lw_law_23 (x + 5) (.int v7) (.int v13) w7 μ14 else some (.inl (some (.int 0)), μ14) else some (.inl (some (.int 0)), μ14))
theorem lg_self (x : Int64) : lg_cmp x x = 0 := by
  unfold lg_cmp
  rw [if_neg (by simp), if_pos rfl]
theorem goOp {cl md : PM → Option PO} {F : Int32 → PM → Option PO} {w7 : Value} (h : Op cl md) (hN : N ≤ 20000) (hJ : Jn N μ) (hF : ∀ k μ1, μ1.2.2.1 = μ.2.2.1 → mI μ1 390 = mI μ 390 → F k μ1 = bI (md μ1) (fun b μ2 => lawT (Int32.ofNat i) w7 k b μ2)) : GoesL N i μ (bI (cl μ) F) := by
  obtain ⟨k, b, μ1, μ2, h1, h2, h3, h4, h5, h6, h7, -, h9, h10⟩ := h N μ hN hJ
  refine ⟨.int k, .int b, w7, μ2, ?_, h5, h6, h7⟩
  rw [h1, bI_r, hF k μ1 h9 h10, h2, bI_r]
  unfold lawT
  rw [e_Md_thrown]
  show (if mI μ2 12 16 = k then _ else _) = _
  rw [if_pos h3]
  by_cases q : k = 0
  · rw [if_neg (fun r => r q), h4 q, lg_self, if_pos rfl]
  · rw [if_pos q]
theorem goOpN {cl md : PM → Option PO} {w5 w6 w7 : Value} (h : OpN cl md) (hN : N ≤ 20000) (hJ : Jn N μ) : GoesL N i μ (bI (cl μ) (fun v μ1 => bI (md μ1) (fun v' μ2 => if v = v' then Lw_law_23 (Int32.ofNat i + 5) w5 w6 w7 μ2 else some (.inl (some (.int 0)), μ2)))) := by
  obtain ⟨v, μ1, μ2, h1, h2, h3, h4, h5, -⟩ := h N μ hN hJ
  refine ⟨w5, w6, w7, μ2, ?_, h3, h4, h5⟩
  rw [h1, bI_r, h2, bI_r, if_pos rfl]
theorem go_share {w7 : Value} (hN : N ≤ 20000) (hJ : Jn N μ) : GoesL N i μ (bDb (d_Oc_playersShare μ) (fun v313 μ312 => bDb (d_Md_playersShare μ312) (fun v315 μ314 => if (Op.cmpValue (FP.dcmp v313 v315) .l) = 0 then Lw_law_23 (Int32.ofNat i + 5) (.double v313) (pU) (.double v315) μ314 else if (Op.cmpValue (FP.dcmp v313 v313) .l) = 0 then some (.inl (some (.int 0)), μ314) else if ¬ (Op.cmpValue (FP.dcmp v315 v315) .l) = 0 then Lw_law_23 (Int32.ofNat i + 5) (.double v313) (pU) (.double v315) μ314 else some (.inl (some (.int 0)), μ314)))) := by
  obtain ⟨v, μ2, h1, h2, h3, h4, h5, -⟩ := o_share hN hJ
  have e : μ2.2.2.2 ≤ μ.2.2.2 + 3 := by rw [h5]; exact Nat.le_add_right _ _
  refine ⟨.double v, pU, .double v, μ2, ?_, h4, e, congrArg Prod.fst h5⟩
  rw [h1, bDb_r, h2, bDb_r, if_pos h3]
theorem go_digest {w5 w6 w7 : Value} (hN : N ≤ 20000) (hJ : Jn N μ) : GoesL N i μ (bJ (d_Oc_digest μ) (fun v318 μ317 => bJ (d_Md_digest μ317) (fun v320 μ319 => if (lg_cmp v318 v320) = 0 then Lw_law_23 (Int32.ofNat i + 5) w5 w6 w7 μ319 else some (.inl (some (.int 0)), μ319)))) := by
  obtain ⟨v, μ1, μ2, h1, h2, h4, h5, -⟩ := o_digest hN hJ
  have e : μ2.2.2.2 ≤ μ.2.2.2 + 3 := by rw [h5]; exact Nat.le_add_right _ _
  refine ⟨w5, w6, w7, μ2, ?_, h4, e, congrArg Prod.fst h5⟩
  rw [h1, bJ_r, h2, bJ_r, lg_self, if_pos rfl]
theorem law_step {w5 w6 w7 : Value} (hN : N ≤ 20000) (hJ : Jn N μ) (hn : μ.2.2.1 ≤ 2560) (hi : i + 5 ≤ μ.2.2.1) : GoesL N i μ (Lw_law_23 (Int32.ofNat i) w5 w6 w7 μ) := by
  have hlt : ¬ (Int32.ofNat μ.2.2.1 - 5 < Int32.ofNat i) := by
    rw [show Int32.ofNat μ.2.2.1 - 5 = Int32.ofNat (μ.2.2.1 - 5) from i3_sub (b := 5) (by omega)]
    exact lt_n (by omega) (by omega)
  have b0 : inb (Int32.ofNat i) μ.2.2.1 = true := i3_inb (by omega) (by omega)
  have b1 : inb (Int32.ofNat i + 1) μ.2.2.1 = true := by
    rw [show Int32.ofNat i + 1 = Int32.ofNat (i + 1) from i3_add i 1]
    exact i3_inb (by omega) (by omega)
  have b2 : inb (Int32.ofNat i + 2) μ.2.2.1 = true := by
    rw [show Int32.ofNat i + 2 = Int32.ofNat (i + 2) from i3_add i 2]
    exact i3_inb (by omega) (by omega)
  have b3 : inb (Int32.ofNat i + 3) μ.2.2.1 = true := by
    rw [show Int32.ofNat i + 3 = Int32.ofNat (i + 3) from i3_add i 3]
    exact i3_inb (by omega) (by omega)
  have b4 : inb (Int32.ofNat i + 4) μ.2.2.1 = true := by
    rw [show Int32.ofNat i + 4 = Int32.ofNat (i + 4) from i3_add i 4]
    exact i3_inb (by omega) (by omega)
  rw [Lw_law_23_eq, if_neg hlt, chk_t b0]
  generalize (mI μ 390 (Int32.ofNat i).toNatClampNeg &&& 31) = c
  by_cases q0 : c = 0
  · rw [if_pos q0, chk_t b1, chk_t b2, chk_t b3, chk_t b4]
    refine goOp (w7 := w7) (o_addCorner _ _ _ _) hN hJ (fun k μ1 g1 g2 => ?_)
    rw [g1, g2, chk_t b1, chk_t b2, chk_t b3, chk_t b4]
    rfl
  rw [if_neg q0]
  by_cases q1 : c = 1
  · rw [if_pos q1, chk_t b1]
    refine goOp (w7 := w7) (o_addOrgan _) hN hJ (fun k μ1 g1 g2 => ?_)
    rw [g1, g2, chk_t b1]
    rfl
  rw [if_neg q1]
  by_cases q2 : c = 2
  · rw [if_pos q2]
    refine goOp (w7 := w7) (o_addPlayer) hN hJ (fun k μ1 g1 g2 => ?_)
    rfl
  rw [if_neg q2]
  by_cases q3 : c = 3
  · rw [if_pos q3, chk_t b1, chk_t b2]
    by_cases g : mI μ 390 ((Int32.ofNat i + 2).toNatClampNeg) = 0
    · rw [if_pos g]
      refine goOp (w7 := w7) (o_permit _ (b := 0) (by decide)) hN hJ (fun k μ1 g1 g2 => ?_)
      rw [g1, g2, chk_t b1, chk_t b2, if_pos g]
      rfl
    · rw [if_neg g]
      refine goOp (w7 := w7) (o_permit _ (b := 1) (by decide)) hN hJ (fun k μ1 g1 g2 => ?_)
      rw [g1, g2, chk_t b1, chk_t b2, if_neg g]
      rfl
  rw [if_neg q3]
  by_cases q4 : c = 4
  · rw [if_pos q4, chk_t b1, chk_t b2]
    refine goOp (w7 := w7) (o_barrel _ _) hN hJ (fun k μ1 g1 g2 => ?_)
    rw [g1, g2, chk_t b1, chk_t b2]
    rfl
  rw [if_neg q4]
  by_cases q5 : c = 5
  · rw [if_pos q5, chk_t b1, chk_t b2]
    refine goOp (w7 := w7) (o_assign _ _) hN hJ (fun k μ1 g1 g2 => ?_)
    rw [g1, g2, chk_t b1, chk_t b2]
    rfl
  rw [if_neg q5]
  by_cases q6 : c = 6
  · rw [if_pos q6, chk_t b1, chk_t b2]
    refine goOp (w7 := w7) (o_set _ _) hN hJ (fun k μ1 g1 g2 => ?_)
    rw [g1, g2, chk_t b1, chk_t b2]
    rfl
  rw [if_neg q6]
  by_cases q7 : c = 7
  · rw [if_pos q7]
    refine goOp (w7 := w7) (o_lots) hN hJ (fun k μ1 g1 g2 => ?_)
    rfl
  rw [if_neg q7]
  by_cases q8 : c = 8
  · rw [if_pos q8, chk_t b1]
    by_cases g : mI μ 390 ((Int32.ofNat i + 1).toNatClampNeg) = 0
    · rw [if_pos g]
      refine goOp (w7 := w7) (o_weather (b := 0) (by decide)) hN hJ (fun k μ1 g1 g2 => ?_)
      rw [g1, g2, chk_t b1, if_pos g]
      rfl
    · rw [if_neg g]
      refine goOp (w7 := w7) (o_weather (b := 1) (by decide)) hN hJ (fun k μ1 g1 g2 => ?_)
      rw [g1, g2, chk_t b1, if_neg g]
      rfl
  rw [if_neg q8]
  by_cases q9 : c = 9
  · rw [if_pos q9, chk_t b1, chk_t b2]
    refine goOp (w7 := w7) (o_play _ _) hN hJ (fun k μ1 g1 g2 => ?_)
    rw [g1, g2, chk_t b1, chk_t b2]
    rfl
  rw [if_neg q9]
  by_cases q10 : c = 10
  · rw [if_pos q10]
    exact goOpN o_next hN hJ
  rw [if_neg q10]
  by_cases q11 : c = 11
  · rw [if_pos q11, chk_t b1]
    refine goOp (w7 := w7) (o_append _) hN hJ (fun k μ1 g1 g2 => ?_)
    rw [g1, g2, chk_t b1]
    rfl
  rw [if_neg q11]
  by_cases q12 : c = 12
  · rw [if_pos q12]
    exact goOpN o_clearBuffer hN hJ
  rw [if_neg q12]
  by_cases q13 : c = 13
  · rw [if_pos q13]
    exact goOpN o_firstError hN hJ
  rw [if_neg q13]
  by_cases q14 : c = 14
  · rw [if_pos q14]
    refine goOp (w7 := w7) (o_run) hN hJ (fun k μ1 g1 g2 => ?_)
    rfl
  rw [if_neg q14]
  by_cases q15 : c = 15
  · rw [if_pos q15]
    refine goOp (w7 := w7) (o_undo) hN hJ (fun k μ1 g1 g2 => ?_)
    rfl
  rw [if_neg q15]
  by_cases q16 : c = 16
  · rw [if_pos q16, chk_t b1, chk_t b2]
    refine goOp (w7 := w7) (o_corner _ _) hN hJ (fun k μ1 g1 g2 => ?_)
    rw [g1, g2, chk_t b1, chk_t b2]
    rfl
  rw [if_neg q16]
  by_cases q17 : c = 17
  · rw [if_pos q17, chk_t b1, chk_t b2]
    refine goOp (w7 := w7) (o_organ _ _) hN hJ (fun k μ1 g1 g2 => ?_)
    rw [g1, g2, chk_t b1, chk_t b2]
    rfl
  rw [if_neg q17]
  by_cases q18 : c = 18
  · rw [if_pos q18, chk_t b1, chk_t b2]
    refine goOp (w7 := w7) (o_player _ _) hN hJ (fun k μ1 g1 g2 => ?_)
    rw [g1, g2, chk_t b1, chk_t b2]
    rfl
  rw [if_neg q18]
  by_cases q19 : c = 19
  · rw [if_pos q19, chk_t b1, chk_t b2]
    refine goOp (w7 := w7) (o_hours _ _) hN hJ (fun k μ1 g1 g2 => ?_)
    rw [g1, g2, chk_t b1, chk_t b2]
    rfl
  rw [if_neg q19]
  by_cases q20 : c = 20
  · rw [if_pos q20, chk_t b1]
    refine goOp (w7 := w7) (o_count _) hN hJ (fun k μ1 g1 g2 => ?_)
    rw [g1, g2, chk_t b1]
    rfl
  rw [if_neg q20]
  by_cases q21 : c = 21
  · rw [if_pos q21, chk_t b1]
    refine goOp (w7 := w7) (o_setting _) hN hJ (fun k μ1 g1 g2 => ?_)
    rw [g1, g2, chk_t b1]
    rfl
  rw [if_neg q21]
  by_cases q22 : c = 22
  · rw [if_pos q22, chk_t b1, chk_t b2]
    refine goOp (w7 := w7) (o_whyNot _ _) hN hJ (fun k μ1 g1 g2 => ?_)
    rw [g1, g2, chk_t b1, chk_t b2]
    rfl
  rw [if_neg q22]
  by_cases q23 : c = 23
  · rw [if_pos q23, chk_t b1]
    refine goOp (w7 := w7) (o_ifPlayed _) hN hJ (fun k μ1 g1 g2 => ?_)
    rw [g1, g2, chk_t b1]
    rfl
  rw [if_neg q23]
  by_cases q24 : c = 24
  · rw [if_pos q24, chk_t b1]
    refine goOp (w7 := w7) (o_kindestTune _) hN hJ (fun k μ1 g1 g2 => ?_)
    rw [g1, g2, chk_t b1]
    rfl
  rw [if_neg q24]
  by_cases q25 : c = 25
  · rw [if_pos q25, chk_t b1]
    refine goOp (w7 := w7) (o_most _) hN hJ (fun k μ1 g1 g2 => ?_)
    rw [g1, g2, chk_t b1]
    rfl
  rw [if_neg q25]
  by_cases q26 : c = 26
  · rw [if_pos q26, chk_t b1]
    refine goOp (w7 := w7) (o_ifEnded _) hN hJ (fun k μ1 g1 g2 => ?_)
    rw [g1, g2, chk_t b1]
    rfl
  rw [if_neg q26]
  by_cases q27 : c = 27
  · rw [if_pos q27]
    exact go_share (w7 := w7) hN hJ
  rw [if_neg q27]
  by_cases q28 : c = 28
  · rw [if_pos q28]
    exact go_digest hN hJ
  rw [if_neg q28]
  exact ⟨w5, w6, w7, μ, rfl, hJ.mono (by omega), by omega, rfl⟩
theorem law_loop : ∀ (d i N : Nat) (w5 w6 w7 : Value) (μ : PM), Jn N μ → μ.2.2.1 ≤ 2560 → μ.2.2.1 < i + 5 * d → i ≤ 2565 → N + 20 * d ≤ 20000 → ∃ μ', Lw_law_23 (Int32.ofNat i) w5 w6 w7 μ = rI 1 μ' ∧ μ'.2.2.2 ≤ μ.2.2.2 + 3 * d := by
  intro d
  induction d with
  | zero =>
    intro i N w5 w6 w7 μ hJ hn hd hi hN
    have hlt : Int32.ofNat μ.2.2.1 - 5 < Int32.ofNat i := by
      by_cases q : 5 ≤ μ.2.2.1
      · rw [show Int32.ofNat μ.2.2.1 - 5 = Int32.ofNat (μ.2.2.1 - 5) from i3_sub (b := 5) q]
        exact lt_y (by omega) (by omega)
      · have h4 : ∀ m, m < 5 → Int32.ofNat m - 5 < 0 := by decide
        exact Int32.lt_of_lt_of_le (h4 _ (by omega)) (show (0 : Int32) ≤ Int32.ofNat i from le_y (a := 0) (Nat.zero_le _) (by omega))
    exact ⟨μ, by rw [Lw_law_23_eq, if_pos hlt], by omega⟩
  | succ d ih =>
    intro i N w5 w6 w7 μ hJ hn hd hi hN
    by_cases q : i + 5 ≤ μ.2.2.1
    · obtain ⟨v5, v6, v7, μ1, h1, h2, h3, h4⟩ := law_step (i := i) (w5 := w5) (w6 := w6) (w7 := w7) (show N ≤ 20000 by omega) hJ hn q
      obtain ⟨μ2, g1, g2⟩ := ih (i + 5) (N + 20) v5 v6 v7 μ1 h2 (by omega) (by omega) (by omega) (by omega)
      refine ⟨μ2, ?_, by omega⟩
      rw [h1, show Int32.ofNat i + 5 = Int32.ofNat (i + 5) from i3_add i 5, g1]
    · have hlt : Int32.ofNat μ.2.2.1 - 5 < Int32.ofNat i := by
        by_cases q : 5 ≤ μ.2.2.1
        · rw [show Int32.ofNat μ.2.2.1 - 5 = Int32.ofNat (μ.2.2.1 - 5) from i3_sub (b := 5) q]
          exact lt_y (by omega) (by omega)
        · have h4 : ∀ m, m < 5 → Int32.ofNat m - 5 < 0 := by decide
          exact Int32.lt_of_lt_of_le (h4 _ (by omega)) (show (0 : Int32) ≤ Int32.ofNat i from le_y (a := 0) (Nat.zero_le _) (by omega))
      exact ⟨μ, by rw [Lw_law_23_eq, if_pos hlt], by omega⟩
/-- from a start where nothing is, to the end, with 1 -/
theorem law_from {μ : PM} (hJ : Jn 0 μ) (hn : μ.2.2.1 ≤ 2560) (h0 : μ.2.2.2 = 0) : ∃ f o, prun f 221 13 (23, [.ref 390, .ref 0, .ref 12, .ref 22, .int 0, pU, pU, pU, pU], [], μ) = some o ∧ o.1 = .inl (some (.int 1)) ∧ o.2.2.2.2 ≤ 20000 := by
  obtain ⟨μ', h1, h2⟩ := law_loop 514 0 0 pU pU pU μ hJ hn (by omega) (by decide) (by decide)
  obtain ⟨f, hf⟩ := Exec_iff.mp (show Exec 221 13 (23, [.ref 390, .ref 0, .ref 12, .ref 22, .int 0, pU, pU, pU, pU], [], μ) = some (.inl (some (.int 1)), μ') from h1)
  exact ⟨f, _, hf, rfl, show μ'.2.2.2 ≤ 20000 by omega⟩
end LAWL
