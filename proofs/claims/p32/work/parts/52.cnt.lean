/-! SEMANTICS: counts -/
section CNT
variable {z : Nat → Nat} {μ : PM}
def cntS (z : Nat → Nat) (sv j : Nat) : Nat := match j with
  | 7 => plyS z | 8 => z 7 | 9 => z 8 | 10 => z 9 | 11 => z 10 | 12 => orgS z 5 | 13 => orgS z 4 | 14 => gotS z | 15 => sv | j => z j
theorem t_count {sv j : Nat} (hr : RT 23 z μ) (hb : Bd z) (ht : z 8 = orgS z 6) (hs : mI μ 1 2 = Int32.ofNat sv) (hj : j < 16) : d_Oc_count (Int32.ofNat j) μ = rI (Int32.ofNat (cntS z sv j)) μ := by
  have hw := hb.wt
  rw [e_Oc_count]
  show bV (d_Oc_requireInRange (Int32.ofNat j) (Int32.ofNat 0) (Int32.ofNat 15) μ) _ = _
  rw [reqR_y (Nat.zero_le _) hj (by decide)]
  match j, hj with
  | 0, _ => exact congrArg (fun v => rI v μ) (r_f4 (z := z) hr)
  | 1, _ => exact congrArg (fun v => rI v μ) (r_f5 (z := z) hr)
  | 2, _ => exact congrArg (fun v => rI v μ) (r_f6 (z := z) hr)
  | 3, _ => exact congrArg (fun v => rI v μ) (r_f7 (z := z) hr)
  | 4, _ => exact congrArg (fun v => rI v μ) (r_f8 (z := z) hr)
  | 5, _ =>
    show bI (d_Oc_asNumber (mI μ 23 9) μ) _ = rI (Int32.ofNat (z 5)) μ
    rw [e_Oc_asNumber, r_f9 hr]
    rcases (show z 5 = 0 ∨ z 5 = 1 by omega) with q | q
    · rw [q]; rfl
    · rw [q]; rfl
  | 6, _ => exact congrArg (fun v => rI v μ) (r_f10 (z := z) hr)
  | 7, _ => exact congrArg (fun v => rI v μ) (r_f11 (z := z) hr)
  | 8, _ => exact congrArg (fun v => rI v μ) (r_f12 (z := z) hr)
  | 9, _ =>
    show bI (d_Twn_takingsSoFar μ) _ = rI (Int32.ofNat (z 8)) μ
    rw [t_takingsSoFar hr hb, bI_r, ht]
  | 10, _ => exact congrArg (fun v => rI v μ) (r_f13 (z := z) hr)
  | 11, _ => exact congrArg (fun v => rI v μ) (r_f14 (z := z) hr)
  | 12, _ =>
    show bI (d_Twn_ownersSoFar μ) _ = _
    rw [t_ownersSoFar hr hb, bI_r]
    rfl
  | 13, _ =>
    show bI (d_Twn_inAllPots μ) _ = _
    rw [t_inAllPots hr hb, bI_r]
    rfl
  | 14, _ =>
    show bI (d_Twn_playersSoFar μ) _ = _
    rw [t_playersSoFar hr hb, bI_r]
    rfl
  | 15, _ => exact congrArg (fun v => rI v μ) hs
  | j + 16, h => exact absurd h (by omega)
end CNT
