/-! SEMANTICS: the town's answers: takings, playable tunes -/
section REL4
variable {z : Nat → Nat} {μ : PM}
theorem tak_num : ∀ C, C < 91 → ∀ k, k < 20 → (if Int32.ofNat C * (10 - 2 * Int32.ofNat k) / 10 < 0 then 0 else Int32.ofNat C * (10 - 2 * Int32.ofNat k) / 10) = Int32.ofNat (C * (10 - 2 * k) / 10) := by decide +kernel
theorem t_takingsFor {o k : Nat} (hr : RT 23 z μ) (hb : Bd z) (ho : o < 5) (hat : z (56 + 7 * o + 3) ≠ 0) (hk : k < 20) : d_Twn_takingsFor (Int32.ofNat o) (Int32.ofNat k) μ = rI (Int32.ofNat (takN z o k)) μ := by
  obtain ⟨a1, a2, a3⟩ := at_lt hb ho hat
  have hc := (hb.cor _ a1).2.1
  have hw := hb.wt
  rw [e_Twn_takingsFor, t_cornerOf hr hb ho, if_neg hat]
  show chk (cls (28 + 2 * (z (56 + 7 * o + 3) - 1)) = 0) _ = _
  have e1 : mI μ (28 + 2 * (z (56 + 7 * o + 3) - 1)) 1 = Int32.ofNat (z (16 + 4 * (z (56 + 7 * o + 3) - 1) + 1)) := r_cor hr a1 (by decide)
  rw [chk_t (c_cor a1), r_f9 hr, e1, tak_num _ (by omega) k hk]
  unfold takN
  have hb1 : z (16 + 4 * (z (56 + 7 * o + 3) - 1) + 1) * (10 - 2 * k) ≤ 90 * 10 := Nat.mul_le_mul hc (by omega)
  rcases (show z 5 = 0 ∨ z 5 = 1 by omega) with h | h
  · rw [h, if_pos (show Int32.ofNat 0 = 0 from rfl), if_neg (by decide)]
  · rw [h, if_neg (by decide), if_pos rfl]
    have e5 : Int32.ofNat (z (16 + 4 * (z (56 + 7 * o + 3) - 1) + 1) * (10 - 2 * k) / 10) / 2 = Int32.ofNat (z (16 + 4 * (z (56 + 7 * o + 3) - 1) + 1) * (10 - 2 * k) / 10 / 2) := i3_div (b := 2) (by omega) (by decide)
    rw [e5]
theorem bits_lt {a t : Nat} (h : a < 1024) (ht : 10 ≤ t) : a.testBit t = false := by
  refine Nat.testBit_lt_two_pow (Nat.lt_of_lt_of_le h ?_)
  exact Nat.pow_le_pow_right (n := 2) (by decide) ht
theorem i3_andnot {b h : Nat} (hb : b < 1024) (hh : h < 1024) : Int32.ofNat b &&& (Int32.ofNat h ^^^ -1) = Int32.ofNat (b &&& (h ^^^ 1023)) := by
  refine Int32.toBitVec_inj.mp ?_
  rw [Int32.toBitVec_and, Int32.toBitVec_xor]
  show BitVec.ofNat 32 b &&& (BitVec.ofNat 32 h ^^^ (-1 : Int32).toBitVec) = BitVec.ofNat 32 (b &&& (h ^^^ 1023))
  refine BitVec.eq_of_getLsbD_eq fun i hi => ?_
  have e1 : (-1 : Int32).toBitVec.getLsbD i = true := (by decide : ∀ i, i < 32 → (-1 : Int32).toBitVec.getLsbD i = true) i hi
  rw [BitVec.getLsbD_and, BitVec.getLsbD_xor, e1, BitVec.getLsbD_ofNat, BitVec.getLsbD_ofNat, BitVec.getLsbD_ofNat, Nat.testBit_and, Nat.testBit_xor]
  by_cases h10 : i < 10
  · have e2 : (1023 : Nat).testBit i = true := (by decide : ∀ i, i < 10 → (1023 : Nat).testBit i = true) i h10
    rw [e2, decide_eq_true hi]
    simp
  · rw [bits_lt hb (by omega)]
    simp
theorem tunS_bit {o t : Nat} : (tunS z o).testBit t = true ↔ t < 10 ∧ reas z o t = 0 := by
  have e : tunS z o = up 10 (fun t b => if reas z o t = 0 then b ||| 1 <<< t else b) 0 := up_congr 10 (fun i _ x => by
    split
    · rfl
    · exact Nat.or_zero x)
  rw [e, up_or]
  constructor
  · rintro (h | ⟨i, h1, h2, h3⟩)
    · rw [Nat.zero_testBit] at h; cases h
    · rw [Nat.one_shiftLeft, Nat.testBit_two_pow] at h3
      have : i = t := by simpa using h3
      subst this
      exact ⟨h1, h2⟩
  · rintro ⟨h1, h2⟩
    refine Or.inr ⟨t, h1, h2, ?_⟩
    rw [Nat.one_shiftLeft, Nat.testBit_two_pow]
    simp
theorem tunS_lt {o : Nat} : tunS z o < 1024 := by
  refine Nat.lt_pow_two_of_testBit (n := 10) _ (fun i hi => ?_)
  cases h : (tunS z o).testBit i with
  | false => rfl
  | true => exact absurd (tunS_bit.mp h).1 (by omega)
theorem tunS_eq {o : Nat} (hb : Bd z) (ho : o < 5) : tunS z o = if reaA z o = 0 then z (56 + 7 * o + 2) &&& (heaS z (z (56 + 7 * o + 3) - 1) ^^^ 1023) else 0 := by
  have hbr := (hb.org o ho).2.2.1
  refine Nat.eq_of_testBit_eq fun t => ?_
  rw [Bool.eq_iff_iff, tunS_bit]
  by_cases h : reaA z o = 0
  · rw [if_pos h, Nat.testBit_and, Nat.testBit_xor]
    unfold reaA at h
    have h1 : ¬ z (56 + 7 * o + 3) = 0 := fun q => by rw [if_pos q] at h; cases h
    rw [if_neg h1] at h
    have h2 : ¬ crew z o = 0 := fun q => by rw [if_pos q] at h; cases h
    rw [if_neg h2] at h
    have h4 : ¬ z (163 + 10 * o + z 4) ≠ 0 := fun q => by rw [if_pos q] at h; cases h
    rw [if_neg h4] at h
    have h5 : ¬ isQ z (z (56 + 7 * o + 3) - 1) := fun q => by rw [if_pos q] at h; cases h
    by_cases ht : t < 10
    · have e2 : (1023 : Nat).testBit t = true := (by decide : ∀ i, i < 10 → (1023 : Nat).testBit i = true) t ht
      have eR : reas z o t = if (z (56 + 7 * o + 2)).testBit t = false then 3 else if (heaS z (z (56 + 7 * o + 3) - 1)).testBit t = true then 6 else 0 := by unfold reas; rw [if_neg h1, if_neg h2, if_neg h4, if_neg h5]
      rw [eR, e2]
      cases (z (56 + 7 * o + 2)).testBit t <;> cases (heaS z (z (56 + 7 * o + 3) - 1)).testBit t <;> simp [ht]
    · rw [bits_lt (show z (56 + 7 * o + 2) < 1024 by omega) (by omega)]
      simp
      intro q
      exact absurd q ht
  · rw [if_neg h, Nat.zero_testBit]
    refine ⟨fun ⟨_, q⟩ => ?_, fun q => by cases q⟩
    exfalso
    apply h
    unfold reas at q
    unfold reaA
    by_cases h1 : z (56 + 7 * o + 3) = 0
    · rw [if_pos h1] at q; cases q
    · rw [if_neg h1] at q ⊢
      by_cases h2 : crew z o = 0
      · rw [if_pos h2] at q; cases q
      · rw [if_neg h2] at q ⊢
        by_cases h3 : (z (56 + 7 * o + 2)).testBit t = false
        · rw [if_pos h3] at q; cases q
        · rw [if_neg h3] at q
          by_cases h4 : z (163 + 10 * o + z 4) ≠ 0
          · rw [if_pos h4] at q; cases q
          · rw [if_neg h4] at q ⊢
            by_cases h5 : isQ z (z (56 + 7 * o + 3) - 1)
            · rw [if_pos h5] at q; cases q
            · rw [if_neg h5]
theorem t_playableTunes {o : Nat} (hr : RT 23 z μ) (hb : Bd z) (ho : o < 5) : d_Twn_playableTunes (Int32.ofNat o) μ = rI (Int32.ofNat (tunS z o)) μ := by
  have hbr := (hb.org o ho).2.2.1
  have eb : mI μ (48 + o) 2 = Int32.ofNat (z (56 + 7 * o + 2)) := r_org hr ho (by decide) (by decide)
  rw [e_Twn_playableTunes, t_cornerOf hr hb ho, tunS_eq hb ho]
  by_cases h1 : z (56 + 7 * o + 3) = 0
  · have eA : reaA z o = 1 := by unfold reaA; rw [if_pos h1]
    rw [if_pos h1, eA]
    rfl
  · obtain ⟨a1, a2, a3⟩ := at_lt hb ho h1
    have hl := heaS_lt (c := z (56 + 7 * o + 3) - 1) hb
    rw [if_neg h1]
    show bI (d_Twn_reasonAgainstAll (Int32.ofNat o) μ) _ = _
    have hA : reaA z o ≤ 5 := by
      unfold reaA
      repeat' split
      all_goals omega
    rw [t_reasonAgainstAll hr hb ho, bI_r]
    by_cases h : reaA z o = 0
    · rw [if_pos h, h, if_pos (show Int32.ofNat 0 = 0 from rfl), chk_t (i3_inb ho (by decide)), i3_nat (by omega), eb, t_tunesHeardAt hr hb a1, bI_r, i3_andnot (by omega) hl]
    · rw [if_neg h, if_neg (fun q => h (by rw [show (0 : Int32) = Int32.ofNat 0 from rfl, i3_eq (by omega) (by decide)] at q; exact q))]
      rfl
end REL4
