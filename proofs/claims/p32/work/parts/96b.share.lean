/-! SEMANTICS: the players' share: both, and its bits -/
section SHARE
variable {z : Nat → Nat} {μ : PM}
abbrev rD (x : UInt64) (μ : PM) : Option PO := some (.inl (some (.double x)), μ)
theorem bDb_r {x : UInt64} {f : UInt64 → PM → Option PO} : bDb (rD x μ) f = f x μ := rfl
noncomputable def shv (z : Nat → Nat) : UInt64 := if z 8 = 0 then FP.dconst0 else FP.ddiv (FP.i2d (Int32.ofNat (gotS z))) (FP.i2d (Int32.ofNat (z 8)))
theorem sh_i0 : FP.i2d (Int32.ofNat 0) = FP.dconst0 := by decide +kernel
theorem sh_zero {b : Nat} (hb0 : 0 < b) (hb : b < 2147483648) : FP.ddiv (FP.i2d (Int32.ofNat 0)) (FP.i2d (Int32.ofNat b)) = FP.dconst0 := by
  have w2 := FP.Core.i2d_int (Int32.ofNat b)
  rw [i3_negs hb] at w2
  unfold FP.Core.DInt at w2
  have e : FP.Core.val64 (FP.ddiv (FP.i2d (Int32.ofNat 0)) (FP.i2d (Int32.ofNat b))) = FP.Core.quotient FP.Core.b64 (FP.Core.val64 (FP.i2d (Int32.ofNat 0))) (FP.Core.val64 (FP.Core.i2d (Int32.ofNat b))) := FP.Core.val64_ddiv _ _
  rw [sh_i0, show FP.Core.val64 FP.dconst0 = .fin false 0 FP.Core.b64.qmin from FP.Core.val64_dconst0] at e
  have e2 : FP.Core.val64 (FP.ddiv FP.dconst0 (FP.i2d (Int32.ofNat b))) = FP.Core.val64 FP.dconst0 := by
    rw [e, show FP.Core.val64 FP.dconst0 = .fin false 0 FP.Core.b64.qmin from FP.Core.val64_dconst0]
    generalize FP.Core.val64 (FP.Core.i2d (Int32.ofNat b)) = y at w2
    match y, w2 with
    | .fin t d r, w2 =>
      have ht : t = false := (FP.Core.whole_sign w2 (by omega)).trans (decide_eq_false (by omega))
      have hd : d ≠ 0 := fun q0 => by
        have := (FP.Core.whole_zero w2).mp q0
        omega
      subst ht
      show (if d = 0 then _ else FP.Core.roundRatio FP.Core.b64 (false != false) 0 d _) = _
      rw [if_neg hd]
      unfold FP.Core.roundRatio
      rw [if_pos rfl]
      rfl
  rw [sh_i0]
  exact FP.Core.val64_inj (by rw [e2, show FP.Core.val64 FP.dconst0 = .fin false 0 FP.Core.b64.qmin from FP.Core.val64_dconst0]; intro q; cases q) e2
theorem sh_cases (hle : gotS z ≤ z 8) (h8 : z 8 < 2147483648) : shv z = FP.dconst0 ∨ (992 * 2 ^ 52 ≤ (shv z).toNat ∧ (shv z).toNat ≤ 1023 * 2 ^ 52) := by
  unfold shv
  by_cases q : z 8 = 0
  · rw [if_pos q]; exact Or.inl rfl
  · rw [if_neg q]
    by_cases q2 : gotS z = 0
    · rw [q2]; exact Or.inl (sh_zero (by omega) h8)
    · exact Or.inr (fl_bits (by omega) hle h8)
theorem sh_noNaN {x : UInt64} (h : x = FP.dconst0 ∨ (992 * 2 ^ 52 ≤ x.toNat ∧ x.toNat ≤ 1023 * 2 ^ 52)) : noNaN x = true := by
  rcases h with rfl | h
  · decide +kernel
  · exact fl_noNaN ((FP.Core.ne_nan x).mpr (by omega))
theorem t_share (hr : RT 23 z μ) (hb : Bd z) (ht : z 8 = orgS z 6) (hle : gotS z ≤ z 8) : d_Oc_playersShare μ = rD (shv z) μ := by
  have h8 := hb.big 8 (by decide)
  have hn := sh_noNaN (sh_cases hle h8)
  rw [e_Oc_playersShare, t_takingsSoFar hr hb, bI_r, ← ht]
  by_cases q : z 8 = 0
  · rw [if_neg (fun r => r ((i3_ne0 h8).mpr q))]
    unfold shv
    rw [if_pos q]
  · have e : shv z = FP.ddiv (FP.i2d (Int32.ofNat (gotS z))) (FP.i2d (Int32.ofNat (z 8))) := if_neg q
    rw [if_pos (fun r => q ((i3_ne0 h8).mp r)), t_playersSoFar hr hb, bI_r, ← e, chk_t hn]
theorem d0_nat : FP.dconst0.toNat = 0 := by decide +kernel
theorem sh_dcmp {x : UInt64} (h : x = FP.dconst0 ∨ (992 * 2 ^ 52 ≤ x.toNat ∧ x.toNat ≤ 1023 * 2 ^ 52)) : Op.cmpValue (FP.dcmp x x) .l = 0 := by
  have hle : x.toNat ≤ 1023 * 2 ^ 52 := by
    rcases h with rfl | h
    · rw [d0_nat]; exact Nat.zero_le _
    · exact h.2
  have h1 : FP.dcmp x x = some .eq := FP.Core.dcmp_self ((FP.Core.ne_nan x).mpr (by omega))
  rw [h1]
  rfl
theorem sh_one (a : Nat) : FP.dmul FP.dconst1 (FP.i2d (Int32.ofNat a)) = FP.i2d (Int32.ofNat a) ∧ noNaN (FP.i2d (Int32.ofNat a)) = true := by
  have w : FP.Core.Whole (Int32.ofNat a).toInt (FP.Core.val64 (FP.i2d (Int32.ofNat a))) := FP.Core.i2d_int (Int32.ofNat a)
  have hn : FP.Core.val64 (FP.i2d (Int32.ofNat a)) ≠ .nan := fun q => by
    rw [q] at w
    exact w
  exact ⟨(FP.Core.dmul_comm FP.dconst1 (FP.i2d (Int32.ofNat a))).trans (FP.Core.dmul_one hn), fl_noNaN hn⟩
theorem share_ok (z : Nat → Nat) (N : Nat) (hk : Okz N z) (hN : N ≤ 20000) : shareOK z := by
  intro μ hr h8
  have hb := hk.1
  have ht := hk.2.2.2.1
  have hcons := hk.2.2.2.2.2.2.2.2.2.2.1
  have hle : gotS z ≤ z 8 := by omega
  have h8lt := hb.big 8 (by decide)
  have hc := sh_cases hle h8lt
  have n0 : ∀ {x : Int32}, x = 0 → ¬ ¬ x = 0 := fun h q => q h
  rw [t_share hr hb ht hle, bDb_r, h8, (sh_one (gotS z)).1]
  by_cases q : z 8 = 0
  · have e : shv z = FP.dconst0 := if_pos q
    have hd : Op.cmpValue (FP.dcmp (shv z) FP.dconst0) .l = 0 := by
      rw [e]
      exact sh_dcmp (Or.inl rfl)
    rw [if_neg (show ¬ ¬ Int32.ofNat (z 8) = 0 from n0 (by rw [q]; rfl)), if_neg (n0 hd)]
  · have e : shv z = FP.ddiv (FP.i2d (Int32.ofNat (gotS z))) (FP.i2d (Int32.ofNat (z 8))) := if_neg q
    have hd : Op.cmpValue (FP.dcmp (shv z) (shv z)) .l = 0 := sh_dcmp hc
    rw [if_pos (show ¬ Int32.ofNat (z 8) = 0 from fun r => q (by rw [i3_n0 h8lt] at r; exact r)), chk_t (sh_one (gotS z)).2, ← e, chk_t (sh_noNaN hc), if_neg (n0 hd)]
end SHARE
