/-! SEMANTICS: what corners, organs, players show; counts -/
section ANS2
variable {z : Nat → Nat} {μ : PM}
theorem whoP_none {c : Nat} : ∀ n, (∀ i, i < n → z (56 + 7 * i + 3) ≠ c + 1) → whoP z c n = 0 := by
  intro n
  induction n with
  | zero => intro _; rfl
  | succ n ih =>
    intro h
    have h1 := ih (fun i hi => h i (by omega))
    have h2 := h n (by omega)
    show (if whoP z c n ≠ 0 then whoP z c n else if z (56 + 7 * n + 3) = c + 1 then n + 1 else 0) = 0
    rw [if_neg (fun q => q h1), if_neg h2]
theorem whoP_first {c m : Nat} (hm : z (56 + 7 * m + 3) = c + 1) (hn : ∀ i, i < m → z (56 + 7 * i + 3) ≠ c + 1) : ∀ n, m < n → whoP z c n = m + 1 := by
  intro n
  induction n with
  | zero => intro h; omega
  | succ n ih =>
    intro h
    show (if whoP z c n ≠ 0 then whoP z c n else if z (56 + 7 * n + 3) = c + 1 then n + 1 else 0) = m + 1
    by_cases h1 : m < n
    · rw [ih h1, if_pos (by omega)]
    · have e : n = m := by omega
      subst e
      rw [if_neg (fun q => q (whoP_none n hn)), if_pos hm]
theorem whoP_some {c : Nat} : ∀ n, whoP z c n ≠ 0 → z (56 + 7 * (whoP z c n - 1) + 3) = c + 1 := by
  intro n
  induction n with
  | zero => intro h; exact absurd rfl h
  | succ n ih =>
    intro h
    have e : whoP z c (n + 1) = if whoP z c n ≠ 0 then whoP z c n else if z (56 + 7 * n + 3) = c + 1 then n + 1 else 0 := rfl
    by_cases h1 : whoP z c n = 0
    · rw [if_neg (fun q => q h1)] at e
      by_cases h2 : z (56 + 7 * n + 3) = c + 1
      · rw [if_pos h2] at e
        rw [e, Nat.add_sub_cancel]
        exact h2
      · rw [if_neg h2] at e
        exact absurd e h
    · rw [if_pos h1] at e
      rw [e]
      exact ih h1
theorem t_organAt {c : Nat} (hr : RT 23 z μ) (hb : Bd z) (hc : c < 10) : d_Twn_organAt (Int32.ofNat c) μ = rI (pm (whoP z c (z 1))) μ := by
  have hn := hb.no
  rw [e_Twn_organAt]
  have key : ∀ k m, m + k = z 1 → (∀ i, i < m → z (56 + 7 * i + 3) ≠ c + 1) → Twn_organAt_2 (Int32.ofNat c) (Int32.ofNat m) μ = rI (pm (whoP z c (z 1))) μ := by
    intro k
    induction k with
    | zero =>
      intro m hm hi
      rw [Twn_organAt_2_eq, r_f5 hr, if_pos (le_y (by omega) (by omega)), whoP_none _ (fun i h => hi i (by omega)), pm_zero]
    | succ k ih =>
      intro m hm hi
      have hbg := hb.big (56 + 7 * m + 3) (by omega)
      rw [Twn_organAt_2_eq, r_f5 hr, if_neg (le_n (by omega) (by omega)), chk_t (i3_inb (by omega) (by decide)), i3_nat (by omega), r_at hr (by omega), i3_add1]
      by_cases h : z (56 + 7 * m + 3) = c + 1
      · rw [if_neg (fun q => q ((pm_eq (by omega) (by omega)).mpr h)), whoP_first h hi _ (by omega), pm_succ]
      · rw [if_pos (fun q => h ((pm_eq (by omega) (by omega)).mp q))]
        refine ih (m + 1) (by omega) (fun i h9 => ?_)
        by_cases e : i = m
        · rw [e]; exact h
        · exact hi i (by omega)
  exact key (z 1) 0 (by omega) (fun i hi => absurd hi (Nat.not_lt_zero i))
/-- no two organs at one corner -/
def Dj (z : Nat → Nat) : Prop := ∀ o e, o < 5 → e < 5 → z (56 + 7 * o + 3) ≠ 0 → z (56 + 7 * o + 3) = z (56 + 7 * e + 3) → o = e
theorem plaS_eq {c : Nat} (hb : Bd z) (hd : Dj z) : plN z c 0 10 = plaS z c := by
  have hn := hb.no
  have hw := whoP_le (z := z) (c := c) (z 1)
  refine Nat.eq_of_testBit_eq fun t => ?_
  rw [Bool.eq_iff_iff, plN_bit]
  unfold plaS
  by_cases h : whoP z c (z 1) = 0
  · rw [if_pos h, Nat.zero_testBit]
    refine ⟨?_, fun q => by cases q⟩
    rintro ⟨i, _, h2⟩
    obtain ⟨o, h3, h4, -⟩ := noted_bit.mp h2
    exfalso
    have : ∀ m, m ≤ z 1 → (∀ i, i < m → z (56 + 7 * i + 3) ≠ c + 1) := by
      intro m
      induction m with
      | zero => intro _ i hi; omega
      | succ m ih =>
        intro hm i hi
        have h0 := ih (by omega)
        by_cases e : i = m
        · subst e
          intro q
          rw [whoP_first q h0 _ (by omega)] at h
          cases h
        · exact h0 i (by omega)
    exact this _ (Nat.le_refl _) o h3 h4
  · rw [if_neg h, tunN_bit]
    have ha := whoP_some (z := z) (c := c) (z 1) h
    constructor
    · rintro ⟨i, h1, h2⟩
      obtain ⟨o, h3, h4, h5⟩ := noted_bit.mp h2
      have : o = whoP z c (z 1) - 1 := hd o _ (by omega) (by omega) (by omega) (by rw [h4, ha])
      rw [← this]
      exact Or.inr ⟨i, h1, h5⟩
    · rintro (q | ⟨i, h1, h2⟩)
      · rw [Nat.zero_testBit] at q; cases q
      · exact ⟨i, h1, noted_bit.mpr ⟨_, by omega, ha, h2⟩⟩
theorem a_corner {x y : Int32} (hr : RT 23 z μ) (hz : mI μ 13 = zI z) (hb : Bd z) (hd : Dj z) : Ans (d_Oc_corner x y μ) (d_Md_corner x y) μ (fun k => if k = 3 then some 1 else if k = 1 then some 2 else none) := by
  have h2 := hb.nc
  have hno := hb.no
  rcases idx x (n := z 0) (by omega) with ⟨i, hi, rfl⟩ | h
  · rcases idx y (n := 6) (by decide) with ⟨j, hj, rfl⟩ | h
    · have hw := whoP_le (z := z) (c := i) (z 1)
      refine Or.inl ⟨match j with | 0 => Int32.ofNat (z (16 + 4 * i)) | 1 => Int32.ofNat (z (16 + 4 * i + 1)) | 2 => (if isQ z i then 1 else 0) | 3 => pm (whoP z i (z 1)) | 4 => Int32.ofNat (plaS z i) | _ => Int32.ofNat (heaS z i), ?_, fun μ' h13 _ => ?_⟩
      · rw [e_Oc_corner, r_f4 hr, reqI_y hi (by omega)]
        show bV (d_Oc_requireInRange (Int32.ofNat j) (Int32.ofNat 0) (Int32.ofNat 5) μ) _ = _
        rw [reqR_y (Nat.zero_le _) hj (by decide)]
        show chk _ _ = _
        rw [chk_t (i3_inb (by omega) (by decide)), i3_nat (by omega)]
        match j, hj with
        | 0, _ => exact congrArg (fun v => rI v μ) (r_cor hr (by omega) (by decide))
        | 1, _ => exact congrArg (fun v => rI v μ) (r_cor hr (by omega) (by decide))
        | 2, _ =>
          show bI (d_Cor_isQuietAt _ (mI μ 23 8) μ) _ = _
          rw [r_f8 hr, t_isQuietAt hr hb (by omega), bI_r, e_Oc_asNumber]
          by_cases q : isQ z i
          · rw [if_pos q]; rfl
          · rw [if_neg q]; rfl
        | 3, _ =>
          show bI (d_Twn_organAt _ μ) _ = _
          rw [t_organAt hr hb (by omega), bI_r]
          rfl
        | 4, _ =>
          show bI (d_Cor_tunesPlayed _ (Int32.ofNat 0) (Int32.ofNat 9) μ) _ = _
          have e : (if Int32.ofNat 0 < 0 then 0 else Int32.ofNat 0) = Int32.ofNat 0 := by decide
          rw [e_Cor_tunesPlayed _ _ _ _ (c_cor (by omega)), e, t_tunesPlayed hr (by omega) (Nat.zero_le _) (by decide), bI_r, plaS_eq hb hd]
          rfl
        | 5, _ =>
          show bI (d_Twn_tunesHeardAt _ μ) _ = _
          rw [t_tunesHeardAt hr hb (by omega), bI_r]
          rfl
      · have hz' : mI μ' 13 = zI z := h13.trans hz
        rw [e_Md_corner, m_isCorner_y (hz_t hz') hb hi, bI_r, if_pos (by decide)]
        show bI (d_Md_within (Int32.ofNat j) (Int32.ofNat 0) (Int32.ofNat 5) _) _ = _
        rw [with_y (Nat.zero_le _) hj (by decide), bI_r, if_neg (by decide), e_Md_cornerNow]
        match j, hj with
        | 0, _ =>
          show bI (bI (d_Md_corner0 (Int32.ofNat i) 0 _) _) _ = _
          rw [m_corner0_0 (hz_t hz') (by omega)]
          rfl
        | 1, _ =>
          show bI (bI (d_Md_corner0 (Int32.ofNat i) 1 _) _) _ = _
          rw [m_corner0_1 (hz_t hz') (by omega)]
          rfl
        | 2, _ =>
          show bI (bI (d_Md_isQuiet (Int32.ofNat i) _) _) _ = _
          rw [m_isQuiet (hz_t hz') hb (by omega)]
          by_cases q : isQ z i
          · rw [if_pos q]
            rfl
          · rw [if_neg q]
            rfl
        | 3, _ =>
          show bI (bI (d_Md_whoHas (Int32.ofNat i) _) _) _ = _
          rw [m_whoHas (hz_t hz') hb (by omega)]
          rfl
        | 4, _ =>
          show bI (bI (d_Md_playedAt (Int32.ofNat i) _) _) _ = _
          rw [m_playedAt (hz_t hz') hb (by omega)]
          rfl
        | 5, _ =>
          show bI (bI (d_Md_heardAt (Int32.ofNat i) _) _) _ = _
          rw [m_heardAt (hz_t hz') hb (by omega)]
          rfl
    · refine Or.inr ⟨1, 2, rfl, by decide, ?_, fun μ' h13 _ => ?_⟩
      · rw [e_Oc_corner, r_f4 hr, reqI_y hi (by omega)]
        show bV (d_Oc_requireInRange y 0 (Int32.ofNat 5) μ) _ = _
        rw [reqR_n (by decide) h]
        rfl
      · have hz' : mI μ' 13 = zI z := h13.trans hz
        rw [e_Md_corner, m_isCorner_y (hz_t hz') hb hi, bI_r, if_pos (by decide), show (5 : Int32) = Int32.ofNat 5 from rfl, with_n (by decide) h, bI_r, if_pos rfl, e_Md_fails]
        rfl
  · refine Or.inr ⟨3, 1, rfl, by decide, ?_, fun μ' h13 _ => ?_⟩
    · rw [e_Oc_corner, r_f4 hr, reqI_n h]
      rfl
    · have hz' : mI μ' 13 = zI z := h13.trans hz
      rw [e_Md_corner, m_isCorner_n (hz_t hz') hb h, bI_r, if_neg (fun q => q rfl), e_Md_fails]
      rfl
theorem a_organ {x y : Int32} (hr : RT 23 z μ) (hz : mI μ 13 = zI z) (hb : Bd z) : Ans (d_Oc_organ x y μ) (d_Md_organ x y) μ (fun k => if k = 3 then some 1 else if k = 1 then some 2 else none) := by
  have hno := hb.no
  have hh := hb.hr
  rcases idx x (n := z 1) (by omega) with ⟨i, hi, rfl⟩ | h
  · have hp := (hb.org i (by omega)).2.1
    rcases idx y (n := 9) (by decide) with ⟨j, hj, rfl⟩ | h
    · refine Or.inl ⟨match j with | 0 => Int32.ofNat (z (56 + 7 * i)) | 1 => Int32.ofNat (z (56 + 7 * i + 1)) | 2 => Int32.ofNat (z (56 + 7 * i + 2)) | 3 => pm (z (56 + 7 * i + 3)) | 4 => Int32.ofNat (crew z i) | 5 => Int32.ofNat (z (56 + 7 * i + 4)) | 6 => Int32.ofNat (z (56 + 7 * i + 5)) | 7 => Int32.ofNat (z (56 + 7 * i + 6)) | _ => pm (z (163 + 10 * i + z 4)), ?_, fun μ' h13 _ => ?_⟩
      · rw [e_Oc_organ, r_f5 hr, reqI_y hi (by omega)]
        show bV (d_Oc_requireInRange (Int32.ofNat j) (Int32.ofNat 0) (Int32.ofNat 8) μ) _ = _
        rw [reqR_y (Nat.zero_le _) hj (by decide)]
        show chk _ _ = _
        rw [chk_t (i3_inb (by omega) (by decide)), i3_nat (by omega)]
        match j, hj with
        | 0, _ => exact congrArg (fun v => rI v μ) (r_org hr (w := 0) (by omega) (by decide) (by decide))
        | 1, _ =>
          have e1 : mI μ (48 + i) 1 = Int32.ofNat (z (56 + 7 * i + 1)) := r_org hr (by omega) (by decide) (by decide)
          show bI (d_Oc_asNumber (mI μ (48 + i) 1) μ) _ = _
          rw [e_Oc_asNumber, e1]
          rcases (show z (56 + 7 * i + 1) = 0 ∨ z (56 + 7 * i + 1) = 1 by omega) with q | q
          · rw [q]; rfl
          · rw [q]; rfl
        | 2, _ => exact congrArg (fun v => rI v μ) (r_org hr (w := 2) (by omega) (by decide) (by decide))
        | 3, _ => exact congrArg (fun v => rI v μ) (r_at hr (by omega))
        | 4, _ =>
          show bI (d_Twn_crewSize _ μ) _ = _
          rw [t_crewSize hr hb (by omega), bI_r]
          rfl
        | 5, _ => exact congrArg (fun v => rI v μ) (r_org hr (w := 4) (by omega) (by decide) (by decide))
        | 6, _ => exact congrArg (fun v => rI v μ) (r_org hr (w := 5) (by omega) (by decide) (by decide))
        | 7, _ => exact congrArg (fun v => rI v μ) (r_org hr (w := 6) (by omega) (by decide) (by decide))
        | 8, _ => exact congrArg (fun v => rI v μ) (r_now hr (by omega))
      · have hz' : mI μ' 13 = zI z := h13.trans hz
        rw [e_Md_organ, m_isOrgan_y (hz_t hz') hb hi, bI_r, if_pos (by decide)]
        show bI (d_Md_within (Int32.ofNat j) (Int32.ofNat 0) (Int32.ofNat 8) _) _ = _
        rw [with_y (Nat.zero_le _) hj (by decide), bI_r, if_neg (by decide), e_Md_organNow]
        match j, hj with
        | 0, _ =>
          show bI (bI (d_Md_organ0 (Int32.ofNat i) 0 _) _) _ = _
          rw [m_organ0_0 (hz_t hz') (by omega)]
          rfl
        | 1, _ =>
          show bI (bI (d_Md_organ0 (Int32.ofNat i) 1 _) _) _ = _
          rw [m_organ0_1 (hz_t hz') (by omega)]
          rfl
        | 2, _ =>
          show bI (bI (d_Md_organ0 (Int32.ofNat i) 2 _) _) _ = _
          rw [m_organ0_2 (hz_t hz') (by omega)]
          rfl
        | 3, _ =>
          show bI (bI (d_Md_cornerOf (Int32.ofNat i) _) _) _ = _
          rw [m_cornerOf (hz_t hz') (by omega)]
          rfl
        | 4, _ =>
          show bI (bI (d_Md_crewOf (Int32.ofNat i) _) _) _ = _
          rw [m_crewOf (hz_t hz') hb (by omega)]
          rfl
        | 5, _ =>
          show bI (bI (d_Md_organ0 (Int32.ofNat i) 4 _) _) _ = _
          rw [m_organ0_4 (hz_t hz') (by omega)]
          rfl
        | 6, _ =>
          show bI (bI (d_Md_organ0 (Int32.ofNat i) 5 _) _) _ = _
          rw [m_organ0_5 (hz_t hz') (by omega)]
          rfl
        | 7, _ =>
          show bI (bI (d_Md_organ0 (Int32.ofNat i) 6 _) _) _ = _
          rw [m_organ0_6 (hz_t hz') (by omega)]
          rfl
        | 8, _ =>
          show bI (bI (d_Md_tuneIn (Int32.ofNat i) (mI (stI μ' 12 16 0) 13 4) _) _) _ = _
          rw [m_h (hz_t hz'), m_tuneIn (hz_t hz') (by omega) (by omega)]
          rfl
    · refine Or.inr ⟨1, 2, rfl, by decide, ?_, fun μ' h13 _ => ?_⟩
      · rw [e_Oc_organ, r_f5 hr, reqI_y hi (by omega)]
        show bV (d_Oc_requireInRange y 0 (Int32.ofNat 8) μ) _ = _
        rw [reqR_n (by decide) h]
        rfl
      · have hz' : mI μ' 13 = zI z := h13.trans hz
        rw [e_Md_organ, m_isOrgan_y (hz_t hz') hb hi, bI_r, if_pos (by decide), show (8 : Int32) = Int32.ofNat 8 from rfl, with_n (by decide) h, bI_r, if_pos rfl, e_Md_fails]
        rfl
  · refine Or.inr ⟨3, 1, rfl, by decide, ?_, fun μ' h13 _ => ?_⟩
    · rw [e_Oc_organ, r_f5 hr, reqI_n h]
      rfl
    · have hz' : mI μ' 13 = zI z := h13.trans hz
      rw [e_Md_organ, m_isOrgan_n (hz_t hz') hb h, bI_r, if_neg (fun q => q rfl), e_Md_fails]
      rfl
theorem a_player {x y : Int32} (hr : RT 23 z μ) (hz : mI μ 13 = zI z) (hb : Bd z) : Ans (d_Oc_player x y μ) (d_Md_player x y) μ (fun k => if k = 3 then some 1 else if k = 1 then some 2 else none) := by
  have hnp := hb.np
  rcases idx x (n := z 2) (by omega) with ⟨i, hi, rfl⟩ | h
  · rcases idx y (n := 5) (by decide) with ⟨j, hj, rfl⟩ | h
    · refine Or.inl ⟨match j with | 0 => pm (z (91 + 4 * i)) | 1 => Int32.ofNat (timS z i) | 2 => Int32.ofNat (z (91 + 4 * i + 1)) | 3 => Int32.ofNat (z (91 + 4 * i + 2)) | _ => Int32.ofNat (z (91 + 4 * i + 3)), ?_, fun μ' h13 _ => ?_⟩
      · rw [e_Oc_player, r_f6 hr, reqI_y hi (by omega)]
        show bV (d_Oc_requireInRange (Int32.ofNat j) (Int32.ofNat 0) (Int32.ofNat 4) μ) _ = _
        rw [reqR_y (Nat.zero_le _) hj (by decide)]
        show chk _ _ = _
        rw [chk_t (i3_inb (by omega) (by decide)), i3_nat (by omega)]
        match j, hj with
        | 0, _ => exact congrArg (fun v => rI v μ) (r_crw hr (by omega))
        | 1, _ =>
          show bI (d_Ply_hoursOfDay (53 + 2 * i) μ) _ = _
          rw [t_hoursOfDay hr (by omega)]
          rfl
        | 2, _ => exact congrArg (fun v => rI v μ) (r_ply hr (w := 1) (by omega) (by decide) (by decide))
        | 3, _ => exact congrArg (fun v => rI v μ) (r_ply hr (w := 2) (by omega) (by decide) (by decide))
        | 4, _ => exact congrArg (fun v => rI v μ) (r_ply hr (w := 3) (by omega) (by decide) (by decide))
      · have hz' : mI μ' 13 = zI z := h13.trans hz
        rw [e_Md_player, m_isPlayer_y (hz_t hz') hb hi, bI_r, if_pos (by decide)]
        show bI (d_Md_within (Int32.ofNat j) (Int32.ofNat 0) (Int32.ofNat 4) _) _ = _
        rw [with_y (Nat.zero_le _) hj (by decide), bI_r, if_neg (by decide), e_Md_playerNow]
        match j, hj with
        | 0, _ =>
          show bI (bI (d_Md_player0 (Int32.ofNat i) 0 _) _) _ = _
          rw [m_player0_0 (hz_t hz') (by omega)]
          rfl
        | 1, _ =>
          show bI (bI (d_Md_timeToday (Int32.ofNat i) _) _) _ = _
          rw [m_timeToday (hz_t hz') (by omega)]
          rfl
        | 2, _ =>
          show bI (bI (d_Md_player0 (Int32.ofNat i) 1 _) _) _ = _
          rw [m_player0_1 (hz_t hz') (by omega)]
          rfl
        | 3, _ =>
          show bI (bI (d_Md_player0 (Int32.ofNat i) 2 _) _) _ = _
          rw [m_player0_2 (hz_t hz') (by omega)]
          rfl
        | 4, _ =>
          show bI (bI (d_Md_player0 (Int32.ofNat i) 3 _) _) _ = _
          rw [m_player0_3 (hz_t hz') (by omega)]
          rfl
    · refine Or.inr ⟨1, 2, rfl, by decide, ?_, fun μ' h13 _ => ?_⟩
      · rw [e_Oc_player, r_f6 hr, reqI_y hi (by omega)]
        show bV (d_Oc_requireInRange y 0 (Int32.ofNat 4) μ) _ = _
        rw [reqR_n (by decide) h]
        rfl
      · have hz' : mI μ' 13 = zI z := h13.trans hz
        rw [e_Md_player, m_isPlayer_y (hz_t hz') hb hi, bI_r, if_pos (by decide), show (4 : Int32) = Int32.ofNat 4 from rfl, with_n (by decide) h, bI_r, if_pos rfl, e_Md_fails]
        rfl
  · refine Or.inr ⟨3, 1, rfl, by decide, ?_, fun μ' h13 _ => ?_⟩
    · rw [e_Oc_player, r_f6 hr, reqI_n h]
      rfl
    · have hz' : mI μ' 13 = zI z := h13.trans hz
      rw [e_Md_player, m_isPlayer_n (hz_t hz') hb h, bI_r, if_neg (fun q => q rfl), e_Md_fails]
      rfl
end ANS2
