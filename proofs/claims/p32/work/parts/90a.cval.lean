/-! SEMANTICS: the class's answers at valid indices (cut from whole's 89k by wip/p32/gencv.py) -/
section CVAL
variable {z : Nat → Nat} {μ : PM}
theorem c_corner {i j : Nat} (hr : RT 23 z μ) (hb : Bd z) (hd : Dj z) (hi : i < z 0) (hj : j < 6) : d_Oc_corner (Int32.ofNat i) (Int32.ofNat j) μ = rI (match j with | 0 => Int32.ofNat (z (16 + 4 * i)) | 1 => Int32.ofNat (z (16 + 4 * i + 1)) | 2 => (if isQ z i then 1 else 0) | 3 => pm (whoP z i (z 1)) | 4 => Int32.ofNat (plaS z i) | _ => Int32.ofNat (heaS z i)) μ := by
  have h2 := hb.nc
  have hno := hb.no
  have hw := whoP_le (z := z) (c := i) (z 1)
  rw [e_Oc_corner, r_f4 hr, reqI_y hi (by omega)]
  show bV (d_Oc_requireInRange (Int32.ofNat j) (Int32.ofNat 0) (Int32.ofNat 5) μ) _ = _
  rw [reqR_y (Nat.zero_le _) hj (by decide)]
  show chk _ _ = _
  rw [chk_t (i3_inb (by omega) (by decide)), i3_nat (by omega)]
  match j, hj with
  | 0, _ => exact congrArg (fun v => rI v μ) (r_cor hr (by omega) (by decide))
  | 1, _ => exact congrArg (fun v => rI v μ) (r_cor hr (by omega) (by decide))
  | 2, _ =>
    show bI (d_Cor_isQuietAt _ (mI μ 23 8) μ) _ = _
    rw [r_f8 hr, t_isQuietAt hr hb (by omega), bI_r, e_Oc_asNumber]
    by_cases q : isQ z i
    · rw [if_pos q]; rfl
    · rw [if_neg q]; rfl
  | 3, _ =>
    show bI (d_Twn_organAt _ μ) _ = _
    rw [t_organAt hr hb (by omega), bI_r]
    rfl
  | 4, _ =>
    show bI (d_Cor_tunesPlayed _ (Int32.ofNat 0) (Int32.ofNat 9) μ) _ = _
    have e : (if Int32.ofNat 0 < 0 then 0 else Int32.ofNat 0) = Int32.ofNat 0 := by decide
    rw [e_Cor_tunesPlayed _ _ _ _ (c_cor (by omega)), e, t_tunesPlayed hr (by omega) (Nat.zero_le _) (by decide), bI_r, plaS_eq hb hd]
    rfl
  | 5, _ =>
    show bI (d_Twn_tunesHeardAt _ μ) _ = _
    rw [t_tunesHeardAt hr hb (by omega), bI_r]
    rfl
theorem c_organ {i j : Nat} (hr : RT 23 z μ) (hb : Bd z) (hi : i < z 1) (hj : j < 9) : d_Oc_organ (Int32.ofNat i) (Int32.ofNat j) μ = rI (match j with | 0 => Int32.ofNat (z (56 + 7 * i)) | 1 => Int32.ofNat (z (56 + 7 * i + 1)) | 2 => Int32.ofNat (z (56 + 7 * i + 2)) | 3 => pm (z (56 + 7 * i + 3)) | 4 => Int32.ofNat (crew z i) | 5 => Int32.ofNat (z (56 + 7 * i + 4)) | 6 => Int32.ofNat (z (56 + 7 * i + 5)) | 7 => Int32.ofNat (z (56 + 7 * i + 6)) | _ => pm (z (163 + 10 * i + z 4))) μ := by
  have hno := hb.no
  have hh := hb.hr
  have hp := (hb.org i (by omega)).2.1
  rw [e_Oc_organ, r_f5 hr, reqI_y hi (by omega)]
  show bV (d_Oc_requireInRange (Int32.ofNat j) (Int32.ofNat 0) (Int32.ofNat 8) μ) _ = _
  rw [reqR_y (Nat.zero_le _) hj (by decide)]
  show chk _ _ = _
  rw [chk_t (i3_inb (by omega) (by decide)), i3_nat (by omega)]
  match j, hj with
  | 0, _ => exact congrArg (fun v => rI v μ) (r_org hr (w := 0) (by omega) (by decide) (by decide))
  | 1, _ =>
    have e1 : mI μ (48 + i) 1 = Int32.ofNat (z (56 + 7 * i + 1)) := r_org hr (by omega) (by decide) (by decide)
    show bI (d_Oc_asNumber (mI μ (48 + i) 1) μ) _ = _
    rw [e_Oc_asNumber, e1]
    rcases (show z (56 + 7 * i + 1) = 0 ∨ z (56 + 7 * i + 1) = 1 by omega) with q | q
    · rw [q]; rfl
    · rw [q]; rfl
  | 2, _ => exact congrArg (fun v => rI v μ) (r_org hr (w := 2) (by omega) (by decide) (by decide))
  | 3, _ => exact congrArg (fun v => rI v μ) (r_at hr (by omega))
  | 4, _ =>
    show bI (d_Twn_crewSize _ μ) _ = _
    rw [t_crewSize hr hb (by omega), bI_r]
    rfl
  | 5, _ => exact congrArg (fun v => rI v μ) (r_org hr (w := 4) (by omega) (by decide) (by decide))
  | 6, _ => exact congrArg (fun v => rI v μ) (r_org hr (w := 5) (by omega) (by decide) (by decide))
  | 7, _ => exact congrArg (fun v => rI v μ) (r_org hr (w := 6) (by omega) (by decide) (by decide))
  | 8, _ => exact congrArg (fun v => rI v μ) (r_now hr (by omega))
theorem c_player {i j : Nat} (hr : RT 23 z μ) (hb : Bd z) (hi : i < z 2) (hj : j < 5) : d_Oc_player (Int32.ofNat i) (Int32.ofNat j) μ = rI (match j with | 0 => pm (z (91 + 4 * i)) | 1 => Int32.ofNat (timS z i) | 2 => Int32.ofNat (z (91 + 4 * i + 1)) | 3 => Int32.ofNat (z (91 + 4 * i + 2)) | _ => Int32.ofNat (z (91 + 4 * i + 3))) μ := by
  have hnp := hb.np
  rw [e_Oc_player, r_f6 hr, reqI_y hi (by omega)]
  show bV (d_Oc_requireInRange (Int32.ofNat j) (Int32.ofNat 0) (Int32.ofNat 4) μ) _ = _
  rw [reqR_y (Nat.zero_le _) hj (by decide)]
  show chk _ _ = _
  rw [chk_t (i3_inb (by omega) (by decide)), i3_nat (by omega)]
  match j, hj with
  | 0, _ => exact congrArg (fun v => rI v μ) (r_crw hr (by omega))
  | 1, _ =>
    show bI (d_Ply_hoursOfDay (53 + 2 * i) μ) _ = _
    rw [t_hoursOfDay hr (by omega)]
    rfl
  | 2, _ => exact congrArg (fun v => rI v μ) (r_ply hr (w := 1) (by omega) (by decide) (by decide))
  | 3, _ => exact congrArg (fun v => rI v μ) (r_ply hr (w := 2) (by omega) (by decide) (by decide))
  | 4, _ => exact congrArg (fun v => rI v μ) (r_ply hr (w := 3) (by omega) (by decide) (by decide))
theorem c_whyNot {i j : Nat} (hr : RT 23 z μ) (hb : Bd z) (hi : i < z 1) (hj : j < 10) : d_Oc_whyNot (Int32.ofNat i) (Int32.ofNat j) μ = rI (Int32.ofNat (reas z i j)) μ := by
  have h2 := hb.no
  rw [e_Oc_whyNot, r_f5 hr, reqI_y hi (by omega)]
  show bV (d_Oc_requireInRange (Int32.ofNat j) (Int32.ofNat 0) (Int32.ofNat 9) μ) _ = _
  rw [reqR_y (Nat.zero_le _) hj (by decide)]
  show bI (d_Twn_reasonAgainst _ _ μ) _ = _
  rw [t_reasonAgainst hr hb (by omega) hj, bI_r]
theorem c_hours {i j : Nat} (hr : RT 23 z μ) (hb : Bd z) (hi : i < z 2) (hj : j < z 1) : d_Oc_hours (Int32.ofNat i) (Int32.ofNat j) μ = rI (Int32.ofNat (z (123 + 5 * i + j))) μ := by
  have h1 := hb.np
  have h2 := hb.no
  have e : 53 + 2 * i + 1 = 54 + 2 * i := by omega
  rw [e_Oc_hours, r_f6 hr, reqI_y hi (by omega)]
  show bV (d_Oc_requireIndex _ (mI μ 23 5) μ) _ = _
  rw [r_f5 hr, reqI_y hj (by omega)]
  show chk _ (chk _ _) = _
  rw [chk_t (i3_inb (by omega) (by decide)), chk_t (i3_inb (by omega) (by decide)), i3_nat (by omega), i3_nat (by omega), e, r_tim hr (by omega) (by omega)]
theorem c_ifPlayed {i : Nat} (hr : RT 23 z μ) (hb : Bd z) (hpl : Pl z) (hi : i < z 1) : d_Oc_ifPlayed (Int32.ofNat i) μ = rI (if tunS z i = 0 then -1 else Int32.ofNat (takN z i (othN z i))) μ := by
  have h2 := hb.no
  have hl := tunS_lt (z := z) (o := i)
  have e0 : Int32.ofNat (tunS z i) = 0 ↔ tunS z i = 0 := by rw [show (0 : Int32) = Int32.ofNat 0 from rfl, i3_eq (by omega) (by decide)]
  have ho := othN_le (o := i) hb
  by_cases ht : tunS z i = 0
  · rw [if_pos ht, e_Oc_ifPlayed, r_f5 hr, reqI_y hi (by omega)]
    show bI (d_Twn_playableTunes _ μ) _ = _
    rw [t_playableTunes hr hb (by omega), bI_r, if_neg (fun q => q (e0.mpr ht))]
  · have hat := tun_at ht
    rw [if_neg ht, e_Oc_ifPlayed, r_f5 hr, reqI_y hi (by omega)]
    show bI (d_Twn_playableTunes _ μ) _ = _
    rw [t_playableTunes hr hb (by omega), bI_r, if_pos (fun q => ht (e0.mp q)), t_playedNear hr hb hpl (by omega) hat, bI_r, t_takingsFor hr hb (by omega) hat (by omega), bI_r]
theorem c_setting {i : Nat} (hr : RT 23 z μ) (hi : i < 5) : d_Oc_setting (Int32.ofNat i) μ = rI (Int32.ofNat (z (11 + i))) μ := by
  have er : d_Oc_requireIndex (Int32.ofNat i) 5 μ = some (.inl none, μ) := reqI_y (n := 5) hi (by decide)
  rw [e_Oc_setting, er, bV_r, chk_t (i3_inb hi (by decide)), i3_nat (by omega), r_set hr hi]
end CVAL
