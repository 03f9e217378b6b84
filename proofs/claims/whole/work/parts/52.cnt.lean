/-! SEMANTICS: counts -/
section CNT
variable {z : Nat → Nat} {μ : PM}
def cntS (z : Nat → Nat) (sv j : Nat) : Nat := match j with
  | 7 => plyS z | 8 => z 7 | 9 => z 8 | 10 => z 9 | 11 => z 10 | 12 => orgS z 5 | 13 => orgS z 4 | 14 => gotS z | 15 => sv | j => z j
theorem t_count {sv j : Nat} (hr : RT 23 z μ) (hb : Bd z) (ht : z 8 = orgS z 6) (hs : mI μ 1 2 = Int32.ofNat sv) (hj : j < 16) : d_Oc_count (Int32.ofNat j) μ = rI (Int32.ofNat (cntS z sv j)) μ := by
  have hw := hb.wt
  rw [e_Oc_count]
  show bV (d_Oc_requireInRange (Int32.ofNat j) (Int32.ofNat 0) (Int32.ofNat 15) μ) _ = _
  rw [reqR_y (Nat.zero_le _) hj (by decide)]
  match j, hj with
  | 0, _ => exact congrArg (fun v => rI v μ) (r_f4 (z := z) hr)
  | 1, _ => exact congrArg (fun v => rI v μ) (r_f5 (z := z) hr)
  | 2, _ => exact congrArg (fun v => rI v μ) (r_f6 (z := z) hr)
  | 3, _ => exact congrArg (fun v => rI v μ) (r_f7 (z := z) hr)
  | 4, _ => exact congrArg (fun v => rI v μ) (r_f8 (z := z) hr)
  | 5, _ =>
    show bI (d_Oc_asNumber (mI μ 23 9) μ) _ = rI (Int32.ofNat (z 5)) μ
    rw [e_Oc_asNumber, r_f9 hr]
    rcases (show z 5 = 0 ∨ z 5 = 1 by omega) with q | q
    · rw [q]; rfl
    · rw [q]; rfl
  | 6, _ => exact congrArg (fun v => rI v μ) (r_f10 (z := z) hr)
  | 7, _ => exact congrArg (fun v => rI v μ) (r_f11 (z := z) hr)
  | 8, _ => exact congrArg (fun v => rI v μ) (r_f12 (z := z) hr)
  | 9, _ =>
    show bI (d_Twn_takingsSoFar μ) _ = rI (Int32.ofNat (z 8)) μ
    rw [t_takingsSoFar hr hb, bI_r, ht]
  | 10, _ => exact congrArg (fun v => rI v μ) (r_f13 (z := z) hr)
  | 11, _ => exact congrArg (fun v => rI v μ) (r_f14 (z := z) hr)
  | 12, _ =>
    show bI (d_Twn_ownersSoFar μ) _ = _
    rw [t_ownersSoFar hr hb, bI_r]
    rfl
  | 13, _ =>
    show bI (d_Twn_inAllPots μ) _ = _
    rw [t_inAllPots hr hb, bI_r]
    rfl
  | 14, _ =>
    show bI (d_Twn_playersSoFar μ) _ = _
    rw [t_playersSoFar hr hb, bI_r]
    rfl
  | 15, _ => exact congrArg (fun v => rI v μ) hs
  | j + 16, h => exact absurd h (by omega)
theorem m_counted {sv j : Nat} (hz : mI μ 13 = zI z) (hb : Bd z) (hs : mI μ 12 14 = Int32.ofNat sv) (hj : j < 16) : d_Md_counted (Int32.ofNat j) μ = rI (Int32.ofNat (cntS z sv j)) μ := by
  rw [e_Md_counted]
  have hk : ∀ k, k < 213 → chk (inb (Int32.ofNat k) 213 = true) (some (.inl (some (.int (mI μ 13 (Int32.ofNat k).toNatClampNeg))), μ)) = rI (Int32.ofNat (z k)) μ := by
    intro k hk
    rw [chk_t (i3_inb hk (by decide)), i3_nat (by omega), m_h hz]
  match j, hj with
  | 0, _ => exact hk 0 (by decide)
  | 1, _ => exact hk 1 (by decide)
  | 2, _ => exact hk 2 (by decide)
  | 3, _ => exact hk 3 (by decide)
  | 4, _ => exact hk 4 (by decide)
  | 5, _ => exact hk 5 (by decide)
  | 6, _ => exact hk 6 (by decide)
  | 7, _ =>
    show bI (d_Md_playedToday μ) _ = _
    rw [m_playedToday hz hb, bI_r]
    rfl
  | 8, _ => exact congrArg (fun v => rI v μ) (m_h hz 7)
  | 9, _ => exact congrArg (fun v => rI v μ) (m_h hz 8)
  | 10, _ => exact congrArg (fun v => rI v μ) (m_h hz 9)
  | 11, _ => exact congrArg (fun v => rI v μ) (m_h hz 10)
  | 12, _ =>
    show bI (d_Md_ofOrgans (Int32.ofNat 5) μ) _ = _
    rw [m_ofOrgans hz hb (by decide), bI_r]
    rfl
  | 13, _ =>
    show bI (d_Md_ofOrgans (Int32.ofNat 4) μ) _ = _
    rw [m_ofOrgans hz hb (by decide), bI_r]
    rfl
  | 14, _ =>
    show bI (d_Md_playersGot μ) _ = _
    rw [m_playersGot hz hb, bI_r]
    rfl
  | 15, _ => exact congrArg (fun v => rI v μ) hs
  | j + 16, h => exact absurd h (by omega)
theorem a_count {x : Int32} {sv : Nat} (hr : RT 23 z μ) (hz : mI μ 13 = zI z) (hb : Bd z) (ht : z 8 = orgS z 6) (hs : mI μ 1 2 = Int32.ofNat sv) (hs2 : mI μ 12 14 = Int32.ofNat sv) : Ans (d_Oc_count x μ) (d_Md_count x) μ (fun k => if k = 1 then some 1 else none) := by
  rcases idx x (n := 16) (by decide) with ⟨i, hi, rfl⟩ | h
  · refine Or.inl ⟨_, t_count hr hb ht hs hi, fun μ' h13 h14 => ?_⟩
    have hz' : mI μ' 13 = zI z := h13.trans hz
    have hs' : mI (stI μ' 12 16 (Int32.ofNat 0)) 12 14 = Int32.ofNat sv := by
      rw [stI_self]
      show (if (14 : Nat) = 16 then _ else _) = _
      rw [if_neg (by decide), h14, hs2]
    rw [e_Md_count, show (0 : Int32) = Int32.ofNat 0 from rfl, show (15 : Int32) = Int32.ofNat 15 from rfl, with_y (Nat.zero_le _) hi (by decide), bI_r, if_neg (by decide), m_counted (hz_t hz') hb hs' hi, bI_r]
  · refine Or.inr ⟨1, 1, rfl, by decide, ?_, fun μ' h13 _ => ?_⟩
    · rw [e_Oc_count]
      show bV (d_Oc_requireInRange x 0 (Int32.ofNat 15) μ) _ = _
      rw [reqR_n (by decide) h]
      rfl
    · rw [e_Md_count, show (15 : Int32) = Int32.ofNat 15 from rfl, with_n (by decide) h, bI_r, if_pos rfl, e_Md_fails]
      rfl
end CNT
