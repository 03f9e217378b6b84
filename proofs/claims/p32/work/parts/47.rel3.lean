/-! SEMANTICS: the town's answers: reasons, takings -/
section REL3
variable {z : Nat → Nat} {μ : PM}
/-- why an organ can play no tune -/
def reaA (z : Nat → Nat) (o : Nat) : Nat :=
  if z (56 + 7 * o + 3) = 0 then 1 else if crew z o = 0 then 2 else if z (163 + 10 * o + z 4) ≠ 0 then 4 else if isQ z (z (56 + 7 * o + 3) - 1) then 5 else 0
theorem t_reasonAgainstAll {o : Nat} (hr : RT 23 z μ) (hb : Bd z) (ho : o < 5) : d_Twn_reasonAgainstAll (Int32.ofNat o) μ = rI (Int32.ofNat (reaA z o)) μ := by
  have hh := hb.hr
  have htn := hb.tun o ho (z 4) (by omega)
  have hcr := crew_le (o := o) hb
  rw [e_Twn_reasonAgainstAll, t_cornerOf hr hb ho]
  unfold reaA
  by_cases h1 : z (56 + 7 * o + 3) = 0
  · rw [if_pos h1, if_pos h1]
    rfl
  · obtain ⟨a1, a2, a3⟩ := at_lt hb ho h1
    rw [if_neg h1, if_neg h1]
    show bI (d_Twn_crewSize (Int32.ofNat o) μ) _ = _
    rw [t_crewSize hr hb ho, bI_r]
    have e2 : Int32.ofNat (crew z o) = 0 ↔ crew z o = 0 := by rw [show (0 : Int32) = Int32.ofNat 0 from rfl, i3_eq (by omega) (by decide)]
    by_cases h2 : crew z o = 0
    · rw [if_pos h2, if_neg (fun q => q (e2.mpr h2))]
      rfl
    · rw [if_neg h2, if_pos (fun q => h2 (e2.mp q)), chk_t (i3_inb ho (by decide)), i3_nat (by omega), r_now hr ho]
      by_cases h4 : z (163 + 10 * o + z 4) = 0
      · rw [if_pos ((pm_none (by omega)).mpr h4), if_neg (fun q => q h4), chk_t (c_cor a1), r_f8 hr, t_isQuietAt hr hb a1, bI_r]
        by_cases h5 : isQ z (z (56 + 7 * o + 3) - 1)
        · rw [if_pos h5, if_pos h5, if_neg (by decide)]
          rfl
        · rw [if_neg h5, if_neg h5, if_pos rfl]
          rfl
      · rw [if_neg (fun q => h4 ((pm_none (by omega)).mp q)), if_pos h4]
        rfl
theorem t_reasonAgainst {o t : Nat} (hr : RT 23 z μ) (hb : Bd z) (ho : o < 5) (ht : t < 10) : d_Twn_reasonAgainst (Int32.ofNat o) (Int32.ofNat t) μ = rI (Int32.ofNat (reas z o t)) μ := by
  have hbr := (hb.org o ho).2.2.1
  have eb : mI μ (48 + o) 2 = Int32.ofNat (z (56 + 7 * o + 2)) := r_org hr ho (by decide) (by decide)
  rw [e_Twn_reasonAgainst, t_reasonAgainstAll hr hb ho, bI_r, chk_t (i3_inb ho (by decide)), i3_nat (by omega), eb, t_holds (by omega) ht, bI_r, t_cornerOf hr hb ho]
  by_cases h1 : z (56 + 7 * o + 3) = 0
  · have eA : reaA z o = 1 := by unfold reaA; rw [if_pos h1]
    have eR : reas z o t = 1 := by unfold reas; rw [if_pos h1]
    rw [eA, eR, if_pos h1]
    by_cases h3 : (z (56 + 7 * o + 2)).testBit t = true
    · rw [if_pos h3]
      rfl
    · rw [if_neg h3]
      rfl
  · obtain ⟨a1, a2, a3⟩ := at_lt hb ho h1
    have hl := heaS_lt (c := z (56 + 7 * o + 3) - 1) hb
    rw [if_neg h1]
    by_cases h2 : crew z o = 0
    · have eA : reaA z o = 2 := by unfold reaA; rw [if_neg h1, if_pos h2]
      have eR : reas z o t = 2 := by unfold reas; rw [if_neg h1, if_pos h2]
      rw [eA, eR]
      by_cases h3 : (z (56 + 7 * o + 2)).testBit t = true
      · rw [if_pos h3]
        rfl
      · rw [if_neg h3]
        rfl
    · by_cases h3 : (z (56 + 7 * o + 2)).testBit t = true
      · have h3' : ¬ (z (56 + 7 * o + 2)).testBit t = false := by rw [h3]; decide
        rw [if_pos h3]
        by_cases h4 : z (163 + 10 * o + z 4) = 0
        · by_cases h5 : isQ z (z (56 + 7 * o + 3) - 1)
          · have eA : reaA z o = 5 := by unfold reaA; rw [if_neg h1, if_neg h2, if_neg (fun q => q h4), if_pos h5]
            have eR : reas z o t = 5 := by unfold reas; rw [if_neg h1, if_neg h2, if_neg h3', if_neg (fun q => q h4), if_pos h5]
            rw [eA, eR]
            rfl
          · have eA : reaA z o = 0 := by unfold reaA; rw [if_neg h1, if_neg h2, if_neg (fun q => q h4), if_neg h5]
            have eR : reas z o t = if (heaS z (z (56 + 7 * o + 3) - 1)).testBit t = true then 6 else 0 := by unfold reas; rw [if_neg h1, if_neg h2, if_neg h3', if_neg (fun q => q h4), if_neg h5]
            rw [eA, eR]
            show (bI (d_Twn_tunesHeardAt (28 + 2 * (z (56 + 7 * o + 3) - 1)) μ) _ : Option PO) = _
            rw [t_tunesHeardAt hr hb a1, bI_r, t_holds (by omega) ht, bI_r]
            by_cases h6 : (heaS z (z (56 + 7 * o + 3) - 1)).testBit t = true
            · rw [if_pos h6, if_pos h6]
              rfl
            · rw [if_neg h6, if_neg h6]
              rfl
        · have eA : reaA z o = 4 := by unfold reaA; rw [if_neg h1, if_neg h2, if_pos h4]
          have eR : reas z o t = 4 := by unfold reas; rw [if_neg h1, if_neg h2, if_neg h3', if_pos h4]
          rw [eA, eR]
          rfl
      · have h3' : (z (56 + 7 * o + 2)).testBit t = false := by simpa using h3
        have eR : reas z o t = 3 := by unfold reas; rw [if_neg h1, if_neg h2, if_pos h3']
        rw [if_neg h3, eR]
        by_cases h4 : z (163 + 10 * o + z 4) = 0
        · by_cases h5 : isQ z (z (56 + 7 * o + 3) - 1)
          · have eA : reaA z o = 5 := by unfold reaA; rw [if_neg h1, if_neg h2, if_neg (fun q => q h4), if_pos h5]
            rw [eA]
            rfl
          · have eA : reaA z o = 0 := by unfold reaA; rw [if_neg h1, if_neg h2, if_neg (fun q => q h4), if_neg h5]
            rw [eA]
            rfl
        · have eA : reaA z o = 4 := by unfold reaA; rw [if_neg h1, if_neg h2, if_pos h4]
          rw [eA]
          rfl
theorem t_playedNear {o : Nat} (hr : RT 23 z μ) (hb : Bd z) (hpl : Pl z) (ho : o < 5) (hat : z (56 + 7 * o + 3) ≠ 0) : d_Twn_playedNear (Int32.ofNat o) μ = rI (Int32.ofNat (othN z o)) μ := by
  have hq := hb.no
  have hh := hb.hr
  rw [e_Twn_playedNear]
  refine (loopS (fun i a (_ : Unit) => Twn_playedNear_4 (Int32.ofNat o) a i μ) (z 1) (fun e => if e ≠ o ∧ z (163 + 10 * e + z 4) ≠ 0 ∧ near z (z (56 + 7 * o + 3) - 1) (z (56 + 7 * e + 3) - 1) then 1 else 0) () (fun i hi a => ?_)).trans ?_
  · show Twn_playedNear_4 _ _ _ _ = Twn_playedNear_4 _ _ _ _
    have ht := hb.tun i (by omega) (z 4) (by omega)
    have e1 : Int32.ofNat i = Int32.ofNat o ↔ i = o := by rw [i3_eq (by omega) (by omega)]
    have e2 : pm (z (163 + 10 * i + z 4)) = -1 ↔ z (163 + 10 * i + z 4) = 0 := pm_none (by omega)
    rw [Twn_playedNear_4_eq, r_f5 hr, if_neg (le_n hi (by omega)), chk_t (i3_inb (by omega) (by decide)), i3_nat (by omega), r_now hr (by omega), i3_add1, i3_add1]
    by_cases h1 : i = o
    · rw [if_pos (e1.mpr h1), if_neg (fun q => q.1 h1)]
      rfl
    · rw [if_neg (fun q => h1 (e1.mp q))]
      by_cases h2 : z (163 + 10 * i + z 4) = 0
      · rw [if_pos (e2.mpr h2), if_neg (fun q => q.2.1 h2)]
        rfl
      · have ha := hpl i (by omega) _ (by omega) h2
        obtain ⟨v, hv, hv2⟩ := t_areNear (o := o) (e := i) hr hb ho (by omega)
        rw [if_neg (fun q => h2 (e2.mp q)), hv, bI_r]
        rcases hv2 with ⟨rfl, h3⟩ | ⟨rfl, h3⟩
        · rw [if_neg (by decide), if_pos ⟨h1, h2, h3.2.2⟩]
        · rw [if_pos rfl, if_neg (fun q => h3 ⟨hat, ha, q.2.2⟩)]
          rfl
  · show Twn_playedNear_4 _ _ _ _ = _
    rw [Twn_playedNear_4_eq, r_f5 hr, if_pos (le_y (Nat.le_refl _) (by omega))]
    rfl
end REL3
