/-! SEMANTICS: more answers that only show -/
section ANS
variable {z : Nat → Nat} {μ : PM}
theorem othN_le {o : Nat} (hb : Bd z) : othN z o ≤ 5 := by
  have h := hb.no
  have := sum_le (f := fun e => if e ≠ o ∧ z (163 + 10 * e + z 4) ≠ 0 ∧ near z (z (56 + 7 * o + 3) - 1) (z (56 + 7 * e + 3) - 1) then 1 else 0) (b := 1) (z 1) (fun i _ => by split <;> omega)
  unfold othN
  omega
theorem a_hours {x y : Int32} (hr : RT 23 z μ) (hz : mI μ 13 = zI z) (hb : Bd z) : Ans (d_Oc_hours x y μ) (d_Md_hours x y) μ (fun k => if k = 3 then some 1 else none) := by
  have h1 := hb.np
  have h2 := hb.no
  rcases idx x (n := z 2) (by omega) with ⟨i, hi, rfl⟩ | h
  · rcases idx y (n := z 1) (by omega) with ⟨j, hj, rfl⟩ | h
    · refine Or.inl ⟨Int32.ofNat (z (123 + 5 * i + j)), ?_, fun μ' h13 _ => ?_⟩
      · have e : 53 + 2 * i + 1 = 54 + 2 * i := by omega
        rw [e_Oc_hours, r_f6 hr, reqI_y hi (by omega)]
        show bV (d_Oc_requireIndex _ (mI μ 23 5) μ) _ = _
        rw [r_f5 hr, reqI_y hj (by omega)]
        show chk _ (chk _ _) = _
        rw [chk_t (i3_inb (by omega) (by decide)), chk_t (i3_inb (by omega) (by decide)), i3_nat (by omega), i3_nat (by omega), e, r_tim hr (by omega) (by omega)]
      · have hz' : mI μ' 13 = zI z := h13.trans hz
        rw [e_Md_hours, m_isPlayer_y (hz_t hz') hb hi, bI_r, if_neg (by decide), m_isOrgan_y (hz_t hz') hb hj, bI_r, if_neg (by decide), m_timeAt (hz_t hz') (by omega) (by omega), bI_r]
    · refine Or.inr ⟨3, 1, rfl, by decide, ?_, fun μ' h13 _ => ?_⟩
      · rw [e_Oc_hours, r_f6 hr, reqI_y hi (by omega)]
        show bV (d_Oc_requireIndex _ (mI μ 23 5) μ) _ = _
        rw [r_f5 hr, reqI_n h]
        rfl
      · have hz' : mI μ' 13 = zI z := h13.trans hz
        rw [e_Md_hours, m_isPlayer_y (hz_t hz') hb hi, bI_r, if_neg (by decide), m_isOrgan_n (hz_t hz') hb h, bI_r, if_pos rfl, e_Md_fails]
        rfl
  · refine Or.inr ⟨3, 1, rfl, by decide, ?_, fun μ' h13 _ => ?_⟩
    · rw [e_Oc_hours, r_f6 hr, reqI_n h]
      rfl
    · have hz' : mI μ' 13 = zI z := h13.trans hz
      rw [e_Md_hours, m_isPlayer_n (hz_t hz') hb h, bI_r, if_pos rfl, e_Md_fails]
      rfl
theorem a_whyNot {x y : Int32} (hr : RT 23 z μ) (hz : mI μ 13 = zI z) (hb : Bd z) : Ans (d_Oc_whyNot x y μ) (d_Md_whyNot x y) μ (fun k => if k = 3 then some 1 else if k = 1 then some 2 else none) := by
  have h2 := hb.no
  rcases idx x (n := z 1) (by omega) with ⟨i, hi, rfl⟩ | h
  · rcases idx y (n := 10) (by decide) with ⟨j, hj, rfl⟩ | h
    · refine Or.inl ⟨Int32.ofNat (reas z i j), ?_, fun μ' h13 _ => ?_⟩
      · rw [e_Oc_whyNot, r_f5 hr, reqI_y hi (by omega)]
        show bV (d_Oc_requireInRange (Int32.ofNat j) (Int32.ofNat 0) (Int32.ofNat 9) μ) _ = _
        rw [reqR_y (Nat.zero_le _) hj (by decide)]
        show bI (d_Twn_reasonAgainst _ _ μ) _ = _
        rw [t_reasonAgainst hr hb (by omega) hj, bI_r]
      · have hz' : mI μ' 13 = zI z := h13.trans hz
        rw [e_Md_whyNot, m_isOrgan_y (hz_t hz') hb hi, bI_r, if_pos (by decide), show (0 : Int32) = Int32.ofNat 0 from rfl, show (9 : Int32) = Int32.ofNat 9 from rfl, with_y (Nat.zero_le _) hj (by decide), bI_r, if_neg (by decide)]
        have := m_reason (μ := stI μ' 12 16 (Int32.ofNat 0)) (o := i) (t := j) (hz_t hz') hb (by omega) hj
        rw [this, bI_r]
    · refine Or.inr ⟨1, 2, rfl, by decide, ?_, fun μ' h13 _ => ?_⟩
      · rw [e_Oc_whyNot, r_f5 hr, reqI_y hi (by omega)]
        show bV (d_Oc_requireInRange y 0 (Int32.ofNat 9) μ) _ = _
        rw [reqR_n (by decide) h]
        rfl
      · have hz' : mI μ' 13 = zI z := h13.trans hz
        rw [e_Md_whyNot, m_isOrgan_y (hz_t hz') hb hi, bI_r, if_pos (by decide), show (9 : Int32) = Int32.ofNat 9 from rfl, with_n (by decide) h, bI_r, if_pos rfl, e_Md_fails]
        rfl
  · refine Or.inr ⟨3, 1, rfl, by decide, ?_, fun μ' h13 _ => ?_⟩
    · rw [e_Oc_whyNot, r_f5 hr, reqI_n h]
      rfl
    · have hz' : mI μ' 13 = zI z := h13.trans hz
      rw [e_Md_whyNot, m_isOrgan_n (hz_t hz') hb h, bI_r, if_neg (fun q => q rfl), e_Md_fails]
      rfl
theorem tun_at {o : Nat} (h : tunS z o ≠ 0) : z (56 + 7 * o + 3) ≠ 0 := by
  intro q
  apply h
  refine Nat.eq_of_testBit_eq fun t => ?_
  rw [Nat.zero_testBit]
  cases e : (tunS z o).testBit t with
  | false => rfl
  | true =>
    have := (tunS_bit.mp e).2
    unfold reas at this
    rw [if_pos q] at this
    cases this
theorem a_ifPlayed {x : Int32} (hr : RT 23 z μ) (hz : mI μ 13 = zI z) (hb : Bd z) (hpl : Pl z) : Ans (d_Oc_ifPlayed x μ) (d_Md_ifPlayed x) μ (fun k => if k = 3 then some 1 else none) := by
  have h2 := hb.no
  rcases idx x (n := z 1) (by omega) with ⟨i, hi, rfl⟩ | h
  · have hl := tunS_lt (z := z) (o := i)
    have e0 : Int32.ofNat (tunS z i) = 0 ↔ tunS z i = 0 := by rw [show (0 : Int32) = Int32.ofNat 0 from rfl, i3_eq (by omega) (by decide)]
    have ho := othN_le (o := i) hb
    by_cases ht : tunS z i = 0
    · refine Or.inl ⟨-1, ?_, fun μ' h13 _ => ?_⟩
      · rw [e_Oc_ifPlayed, r_f5 hr, reqI_y hi (by omega)]
        show bI (d_Twn_playableTunes _ μ) _ = _
        rw [t_playableTunes hr hb (by omega), bI_r, if_neg (fun q => q (e0.mpr ht))]
      · have hz' : mI μ' 13 = zI z := h13.trans hz
        rw [e_Md_ifPlayed, m_isOrgan_y (hz_t hz') hb hi, bI_r, if_neg (by decide), e_Md_playedNow, m_tunesOf (hz_t hz') hb (by omega), bI_r, if_neg (fun q => q (e0.mpr ht))]
        rfl
    · have hat := tun_at ht
      refine Or.inl ⟨Int32.ofNat (takN z i (othN z i)), ?_, fun μ' h13 _ => ?_⟩
      · rw [e_Oc_ifPlayed, r_f5 hr, reqI_y hi (by omega)]
        show bI (d_Twn_playableTunes _ μ) _ = _
        rw [t_playableTunes hr hb (by omega), bI_r, if_pos (fun q => ht (e0.mp q)), t_playedNear hr hb hpl (by omega) hat, bI_r, t_takingsFor hr hb (by omega) hat (by omega), bI_r]
      · have hz' : mI μ' 13 = zI z := h13.trans hz
        rw [e_Md_ifPlayed, m_isOrgan_y (hz_t hz') hb hi, bI_r, if_neg (by decide), e_Md_playedNow, m_tunesOf (hz_t hz') hb (by omega), bI_r, if_pos (fun q => ht (e0.mp q)), m_othersNear (hz_t hz') hb hpl (by omega) hat, bI_r, m_takings (hz_t hz') hb (by omega) hat (by omega), bI_r]
        rfl
  · refine Or.inr ⟨3, 1, rfl, by decide, ?_, fun μ' h13 _ => ?_⟩
    · rw [e_Oc_ifPlayed, r_f5 hr, reqI_n h]
      rfl
    · have hz' : mI μ' 13 = zI z := h13.trans hz
      rw [e_Md_ifPlayed, m_isOrgan_n (hz_t hz') hb h, bI_r, if_pos rfl, e_Md_fails]
      rfl
end ANS
