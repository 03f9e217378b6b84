/-! SEMANTICS: the model's answers: reasons, tunes, what is shown -/
section MPURE3
variable {z : Nat → Nat} {μ : PM}
/-- why an organ cannot play, tunes aside -/
def reas (z : Nat → Nat) (o t : Nat) : Nat :=
  if z (56 + 7 * o + 3) = 0 then 1 else if crew z o = 0 then 2 else if (z (56 + 7 * o + 2)).testBit t = false then 3 else if z (163 + 10 * o + z 4) ≠ 0 then 4
  else if isQ z (z (56 + 7 * o + 3) - 1) then 5 else if (heaS z (z (56 + 7 * o + 3) - 1)).testBit t = true then 6 else 0
theorem sum_le {f : Nat → Nat} {b : Nat} : ∀ n, (∀ i, i < n → f i ≤ b) → sum n f ≤ b * n := by
  intro n
  induction n with
  | zero => intro _; exact Nat.zero_le _
  | succ n ih =>
    intro h
    have h1 := ih (fun i hi => h i (by omega))
    have h2 := h n (by omega)
    show sum n f + f n ≤ b * (n + 1)
    rw [Nat.mul_succ]
    omega
theorem crew_le {o : Nat} (hb : Bd z) : crew z o ≤ 8 := by
  have h := hb.np
  have := sum_le (f := fun p => if z (91 + 4 * p) = o + 1 then 1 else 0) (b := 1) (z 2) (fun i _ => by split <;> omega)
  unfold crew
  omega
theorem bitT_lt {t : Nat} (h : t ≤ 10) : bitT t < 1024 := (by decide : ∀ t, t < 11 → bitT t < 1024) t (by omega)
theorem or_lt {a b : Nat} (ha : a < 1024) (hb : b < 1024) : a ||| b < 1024 := Nat.or_lt_two_pow (n := 10) ha hb
theorem tunN_lt {o k n b : Nat} (hb : Bd z) (ho : o < 5) (hk : k + n ≤ 10) (h : b < 1024) : tunN z o k n b < 1024 :=
  up_inv (fun _ b => b < 1024) h n (fun i hi x hx => or_lt hx (bitT_lt (hb.tun o ho (k + i) (by omega))))
theorem heaS_lt {c : Nat} (hb : Bd z) : heaS z c < 1024 := by
  have h1 := hb.no
  have h2 := hb.hr
  refine up_inv (fun _ b => b < 1024) (by decide) (z 1) (fun i hi x hx => ?_)
  split
  · exact tunN_lt hb (by omega) (by omega) hx
  · exact hx
theorem m_reason {o t : Nat} (hz : mI μ 13 = zI z) (hb : Bd z) (ho : o < 5) (ht : t < 10) : d_Md_reason (Int32.ofNat o) (Int32.ofNat t) μ = rI (Int32.ofNat (reas z o t)) μ := by
  have hh := hb.hr
  have hbg := hb.big (56 + 7 * o + 3) (by omega)
  have hbr := (hb.org o ho).2.2.1
  have htn := hb.tun o ho (z 4) (by omega)
  have hcr := crew_le (o := o) hb
  rw [e_Md_reason, m_cornerOf hz ho, bI_r]
  unfold reas
  by_cases h1 : z (56 + 7 * o + 3) = 0
  · rw [if_pos h1, if_neg (fun q => q ((pm_none (by omega)).mpr h1))]
    rfl
  · obtain ⟨a1, a2, a3⟩ := at_lt hb ho h1
    rw [if_neg h1, if_pos (fun q => h1 ((pm_none (by omega)).mp q)), m_crewOf hz hb ho, bI_r]
    have e2 : Int32.ofNat (crew z o) = 0 ↔ crew z o = 0 := by rw [show (0 : Int32) = Int32.ofNat 0 from rfl, i3_eq (by omega) (by decide)]
    by_cases h2 : crew z o = 0
    · rw [if_pos h2, if_neg (fun q => q (e2.mpr h2))]
      rfl
    · rw [if_neg h2, if_pos (fun q => h2 (e2.mp q)), m_organ0_2 hz ho, bI_r, i3_hold (by omega) ht]
      by_cases h3 : (z (56 + 7 * o + 2)).testBit t = false
      · rw [if_pos h3, h3, if_neg (fun q => q rfl)]
        rfl
      · have h3' : (z (56 + 7 * o + 2)).testBit t = true := by simpa using h3
        rw [if_neg h3, h3', if_pos (by decide), m_h hz, m_tuneIn hz ho (by omega), bI_r]
        by_cases h4 : z (163 + 10 * o + z 4) = 0
        · rw [if_pos ((pm_none (by omega)).mpr h4), if_neg (fun q => q h4), a3, m_isQuiet hz hb a1, bI_r]
          by_cases h5 : isQ z (z (56 + 7 * o + 3) - 1)
          · rw [if_pos h5, if_pos h5, if_neg (by decide)]
            rfl
          · have hl := heaS_lt (c := z (56 + 7 * o + 3) - 1) hb
            rw [if_neg h5, if_neg h5, if_pos rfl, m_heardAt hz hb a1, bI_r, i3_hold (by omega) ht]
            by_cases h6 : (heaS z (z (56 + 7 * o + 3) - 1)).testBit t = true
            · rw [if_pos h6, if_neg (fun q => q rfl), if_pos h6]
              rfl
            · rw [if_neg h6, if_pos (by decide), if_neg h6]
              rfl
        · rw [if_neg (fun q => h4 ((pm_none (by omega)).mp q)), if_pos h4]
          rfl
theorem reas_le {o t : Nat} : reas z o t ≤ 6 := by
  unfold reas
  repeat' split
  all_goals omega
def tunS (z : Nat → Nat) (o : Nat) : Nat := up 10 (fun t b => b ||| (if reas z o t = 0 then 1 <<< t else 0)) 0
theorem m_tunesOf {o : Nat} (hz : mI μ 13 = zI z) (hb : Bd z) (ho : o < 5) : d_Md_tunesOf (Int32.ofNat o) μ = rI (Int32.ofNat (tunS z o)) μ := by
  rw [e_Md_tunesOf]
  refine (loopI (fun i (a : Nat) => Md_tunesOf_4 (Int32.ofNat o) (Int32.ofNat a) i μ) 10 (fun t b => b ||| (if reas z o t = 0 then 1 <<< t else 0)) (fun i hi a => ?_) (a := 0)).trans ?_
  · show Md_tunesOf_4 _ _ _ _ = Md_tunesOf_4 _ _ _ _
    have hr := reas_le (z := z) (o := o) (t := i)
    have e : Int32.ofNat (reas z o i) = 0 ↔ reas z o i = 0 := by rw [show (0 : Int32) = Int32.ofNat 0 from rfl, i3_eq (by omega) (by decide)]
    rw [Md_tunesOf_4_eq, if_neg (show ¬ (10 : Int32) ≤ Int32.ofNat i from le_n (a := 10) hi (by decide)), m_reason hz hb ho hi, bI_r, i3_add1, i3_bit i hi, i3_or, show (0 : Int32) = Int32.ofNat 0 from rfl, i3_or]
    by_cases h : reas z o i = 0
    · rw [if_neg (fun q => q (e.mpr h)), if_pos h]
    · rw [if_pos (show ¬ Int32.ofNat (reas z o i) = Int32.ofNat 0 from fun q => h (e.mp q)), if_neg h]
  · show Md_tunesOf_4 _ _ _ _ = _
    rw [Md_tunesOf_4_eq, if_pos (by decide)]
    rfl
theorem m_mayDraw (hz : mI μ 13 = zI z) (hb : Bd z) : d_Md_mayDraw μ = rI (if z 4 = 0 ∧ plyS z = 0 then 1 else 0) μ := by
  have hh := hb.hr
  have hp : plyS z ≤ 1 * 50 := sum_le 50 (fun i _ => by split <;> omega)
  have e1 : Int32.ofNat (z 4) = 0 ↔ z 4 = 0 := by rw [show (0 : Int32) = Int32.ofNat 0 from rfl, i3_eq (by omega) (by decide)]
  have e2 : Int32.ofNat (plyS z) = 0 ↔ plyS z = 0 := by rw [show (0 : Int32) = Int32.ofNat 0 from rfl, i3_eq (by omega) (by decide)]
  rw [e_Md_mayDraw, m_h hz, m_playedToday hz hb, bI_r]
  by_cases h1 : z 4 = 0
  · rw [if_neg (fun q => q (e1.mpr h1))]
    by_cases h2 : plyS z = 0
    · rw [if_neg (fun q => q (e2.mpr h2)), if_pos ⟨h1, h2⟩]
    · rw [if_pos (fun q => h2 (e2.mp q)), if_neg (fun q => h2 q.2)]
  · rw [if_pos (fun q => h1 (e1.mp q)), if_neg (fun q => h1 q.1)]
def plaS (z : Nat → Nat) (c : Nat) : Nat := if whoP z c (z 1) = 0 then 0 else tunN z (whoP z c (z 1) - 1) 0 10 0
theorem m_playedAt {c : Nat} (hz : mI μ 13 = zI z) (hb : Bd z) (hc : c < 10) : d_Md_playedAt (Int32.ofNat c) μ = rI (Int32.ofNat (plaS z c)) μ := by
  have hq := hb.no
  have hw := whoP_le (z := z) (c := c) (z 1)
  rw [e_Md_playedAt, m_whoHas hz hb hc, bI_r]
  unfold plaS
  by_cases h : whoP z c (z 1) = 0
  · rw [h, if_pos rfl, Md_playedAt_11_eq, if_neg (by decide), if_pos pm_zero]
    rfl
  · rw [if_neg h]
    have e : whoP z c (z 1) = (whoP z c (z 1) - 1) + 1 := by omega
    rw [e, pm_succ]
    have ho : whoP z c (z 1) - 1 < 5 := by omega
    rw [Nat.add_sub_cancel]
    generalize whoP z c (z 1) - 1 = o at ho ⊢
    unfold tunN
    refine (loopI (fun i (a : Nat) => Md_playedAt_11 (Int32.ofNat c) (Int32.ofNat a) (Int32.ofNat o) i μ) 10 (fun i b => b ||| bitT (z (163 + 10 * o + (0 + i)))) (fun i hi a => ?_) (a := 0)).trans ?_
    · show Md_playedAt_11 _ _ _ _ _ = Md_playedAt_11 _ _ _ _ _
      have ht := hb.tun o ho i hi
      have hne : ¬ Int32.ofNat o = -1 := by
        intro q
        have := (pm_none (a := o + 1) (by omega)).mp ((pm_succ o).trans q)
        omega
      rw [Md_playedAt_11_eq, if_neg (show ¬ (10 : Int32) ≤ Int32.ofNat i from le_n (a := 10) hi (by decide)), if_neg hne, m_tuneIn hz ho hi, bI_r, m_tuneIn hz ho hi, bI_r, i3_add1, Nat.zero_add]
      by_cases h2 : z (163 + 10 * o + i) = 0
      · rw [if_neg (fun q => q ((pm_none (by omega)).mpr h2)), h2, show (0 : Int32) = Int32.ofNat 0 from rfl, i3_or]
        first | done | rfl
      · rw [if_pos (fun q => h2 ((pm_none (by omega)).mp q)), i3_bitT ht h2, i3_or]
    · show Md_playedAt_11 _ _ _ _ _ = _
      rw [Md_playedAt_11_eq, if_pos (by decide)]
def sizS (b : Nat) : Nat := sum 10 (fun t => if b.testBit t then 1 else 0)
theorem m_size {b : Nat} (hb : b < 2147483648) : d_Md_size (Int32.ofNat b) μ = rI (Int32.ofNat (sizS b)) μ := by
  rw [e_Md_size]
  refine (loopS (fun i a (_ : Unit) => Md_size_4 (Int32.ofNat b) a i μ) 10 (fun t => if b.testBit t then 1 else 0) () (fun i hi a => ?_)).trans ?_
  · show Md_size_4 _ _ _ _ = Md_size_4 _ _ _ _
    rw [Md_size_4_eq, if_neg (show ¬ (10 : Int32) ≤ Int32.ofNat i from le_n (a := 10) hi (by decide)), i3_hold hb hi, i3_add1]
    by_cases h : b.testBit i = true
    · rw [if_pos h, if_pos h, i3_add1]
    · rw [if_neg h, if_neg h, i3_add0]
      rfl
  · show Md_size_4 _ _ _ _ = _
    rw [Md_size_4_eq, if_pos (by decide)]
    rfl
end MPURE3
