/-! SEMANTICS: the players' share: both, and its bits -/
section SHARE
variable {z : Nat → Nat} {μ : PM}
abbrev rD (x : UInt64) (μ : PM) : Option PO := some (.inl (some (.double x)), μ)
abbrev rJ (x : Int64) (μ : PM) : Option PO := some (.inl (some (.long x)), μ)
theorem bDb_r {x : UInt64} {f : UInt64 → PM → Option PO} : bDb (rD x μ) f = f x μ := rfl
theorem bJ_r {x : Int64} {f : Int64 → PM → Option PO} : bJ (rJ x μ) f = f x μ := rfl
noncomputable def shv (z : Nat → Nat) : UInt64 := if z 8 = 0 then FP.dconst0 else FP.ddiv (FP.i2d (Int32.ofNat (gotS z))) (FP.i2d (Int32.ofNat (z 8)))
theorem sh_i0 : FP.i2d (Int32.ofNat 0) = FP.dconst0 := by decide +kernel
theorem sh_zero {b : Nat} (hb0 : 0 < b) (hb : b < 2147483648) : FP.ddiv (FP.i2d (Int32.ofNat 0)) (FP.i2d (Int32.ofNat b)) = FP.dconst0 := by
  have w2 := FP.Core.i2d_int (Int32.ofNat b)
  rw [i3_negs hb] at w2
  unfold FP.Core.DInt at w2
  have e : FP.Core.val64 (FP.ddiv (FP.i2d (Int32.ofNat 0)) (FP.i2d (Int32.ofNat b))) = FP.Core.quotient FP.Core.b64 (FP.Core.val64 (FP.i2d (Int32.ofNat 0))) (FP.Core.val64 (FP.Core.i2d (Int32.ofNat b))) := FP.Core.val64_ddiv _ _
  rw [sh_i0, show FP.Core.val64 FP.dconst0 = .fin false 0 FP.Core.b64.qmin from FP.Core.val64_dconst0] at e
  have e2 : FP.Core.val64 (FP.ddiv FP.dconst0 (FP.i2d (Int32.ofNat b))) = FP.Core.val64 FP.dconst0 := by
    rw [e, show FP.Core.val64 FP.dconst0 = .fin false 0 FP.Core.b64.qmin from FP.Core.val64_dconst0]
    generalize FP.Core.val64 (FP.Core.i2d (Int32.ofNat b)) = y at w2
    match y, w2 with
    | .fin t d r, w2 =>
      have ht : t = false := (FP.Core.whole_sign w2 (by omega)).trans (decide_eq_false (by omega))
      have hd : d ≠ 0 := fun q0 => by
        have := (FP.Core.whole_zero w2).mp q0
        omega
      subst ht
      show (if d = 0 then _ else FP.Core.roundRatio FP.Core.b64 (false != false) 0 d _) = _
      rw [if_neg hd]
      unfold FP.Core.roundRatio
      rw [if_pos rfl]
      rfl
  rw [sh_i0]
  exact FP.Core.val64_inj (by rw [e2, show FP.Core.val64 FP.dconst0 = .fin false 0 FP.Core.b64.qmin from FP.Core.val64_dconst0]; intro q; cases q) e2
theorem sh_cases (hle : gotS z ≤ z 8) (h8 : z 8 < 2147483648) : shv z = FP.dconst0 ∨ (992 * 2 ^ 52 ≤ (shv z).toNat ∧ (shv z).toNat ≤ 1023 * 2 ^ 52) := by
  unfold shv
  by_cases q : z 8 = 0
  · rw [if_pos q]; exact Or.inl rfl
  · rw [if_neg q]
    by_cases q2 : gotS z = 0
    · rw [q2]; exact Or.inl (sh_zero (by omega) h8)
    · exact Or.inr (fl_bits (by omega) hle h8)
theorem sh_noNaN {x : UInt64} (h : x = FP.dconst0 ∨ (992 * 2 ^ 52 ≤ x.toNat ∧ x.toNat ≤ 1023 * 2 ^ 52)) : noNaN x = true := by
  rcases h with rfl | h
  · decide +kernel
  · exact fl_noNaN ((FP.Core.ne_nan x).mpr (by omega))
theorem t_share (hr : RT 23 z μ) (hb : Bd z) (ht : z 8 = orgS z 6) (hle : gotS z ≤ z 8) : d_Oc_playersShare μ = rD (shv z) μ := by
  have h8 := hb.big 8 (by decide)
  have hn := sh_noNaN (sh_cases hle h8)
  rw [e_Oc_playersShare, t_takingsSoFar hr hb, bI_r, ← ht]
  by_cases q : z 8 = 0
  · rw [if_neg (fun r => r ((i3_ne0 h8).mpr q))]
    unfold shv
    rw [if_pos q]
  · have e : shv z = FP.ddiv (FP.i2d (Int32.ofNat (gotS z))) (FP.i2d (Int32.ofNat (z 8))) := if_neg q
    rw [if_pos (fun r => q ((i3_ne0 h8).mp r)), t_playersSoFar hr hb, bI_r, ← e, chk_t hn]
theorem cmp_l {a b : Int} (h : a < b) : compare a b = .lt := by
  show (if a < b then Ordering.lt else if a = b then .eq else .gt) = _
  rw [if_pos h]
theorem cmp_g {a b : Int} (h : b < a) : compare a b = .gt := by
  show (if a < b then Ordering.lt else if a = b then .eq else .gt) = _
  rw [if_neg (by omega), if_neg (by omega)]
theorem cmp_ge {a b : Int} (h : b ≤ a) : ∃ o, compare a b = o ∧ o ≠ .lt := by
  refine ⟨_, rfl, ?_⟩
  show (if a < b then Ordering.lt else if a = b then .eq else .gt) ≠ _
  rw [if_neg (by omega)]
  by_cases q : a = b
  · rw [if_pos q]; intro r; cases r
  · rw [if_neg q]; intro r; cases r
theorem sh_dec : ∀ k, k < 1024 → Int64.ofNat (k + 1) - 1 = Int64.ofNat k := by decide +kernel
theorem sh_shl : ∀ E, E < 1024 → Int64.ofNat E <<< ((52 : Int32).toInt64 &&& 63) = Int64.ofNat (E * 2 ^ 52) := by decide +kernel
theorem sh_u {x : UInt64} : x.toInt64 = Int64.ofNat x.toNat := by
  apply Int64.toBitVec_inj.mp
  show x.toBitVec = BitVec.ofNat 64 x.toBitVec.toNat
  rw [BitVec.ofNat_toNat]
  exact (BitVec.setWidth_eq _).symm
theorem d1_nat : FP.dconst1.toNat = 1023 * 2 ^ 52 := by decide +kernel
theorem d0_nat : FP.dconst0.toNat = 0 := by decide +kernel
theorem t_bits0 {x0 : UInt64} {E T : Nat} (hT : T < 2 ^ 52) (hE : 992 ≤ E) (hE2 : E ≤ 1023) : ∀ d j (x : UInt64), d = 1023 - E - j → j + E ≤ 1023 → x.toNat = (E + j) * 2 ^ 52 + T → Oc_bitsOfShare_18 x0 x (Int64.ofNat (1023 - j)) (Int32.ofNat j) μ = rJ (Int64.ofNat (E * 2 ^ 52 + T)) μ := by
  intro d
  induction d with
  | zero =>
    intro j x hd hj hx
    have hj1 : E + j = 1023 := by omega
    rw [hj1] at hx
    obtain ⟨f1, f2, f3⟩ := fl_frac hx hT
    have e1 : (Int64.ofNat (1023 - j) <<< ((52 : Int32).toInt64 &&& 63)) + FP.d2l (FP.dmul (FP.dsub x FP.dconst1) 4841369599423283200) = Int64.ofNat (E * 2 ^ 52 + T) := by
      rw [f3, show 1023 - j = E by omega, sh_shl E (by omega), ← Int64.ofNat_add]
    have hge : 0 ≤ Op.cmpValue (FP.dcmp x FP.dconst1) .g := by
      rw [fl_cmp (by omega) (by rw [d1_nat]; decide), d1_nat]
      obtain ⟨o, h1, h2⟩ := cmp_ge (a := (x.toNat : Int)) (b := ((1023 * 2 ^ 52 : Nat) : Int)) (by omega)
      rw [h1]
      cases o with
      | lt => exact absurd rfl h2
      | eq => decide
      | gt => decide
    rw [Oc_bitsOfShare_18_eq, if_neg (show ¬ (64 : Int32) ≤ Int32.ofNat j from le_n (a := 64) (by omega) (by decide)), if_pos hge, chk_t f1, chk_t f2, e1]
  | succ d ih =>
    intro j x hd hj hx
    have hlt : ¬ 0 ≤ Op.cmpValue (FP.dcmp x FP.dconst1) .g := by
      rw [fl_cmp (by omega) (by rw [d1_nat]; decide), d1_nat, cmp_l (show (x.toNat : Int) < ((1023 * 2 ^ 52 : Nat) : Int) by omega)]
      decide
    have h2 := fl_twice hx hT (by omega) (by omega)
    have hn : noNaN (FP.dmul x 4611686018427387904) = true := fl_noNaN ((FP.Core.ne_nan _).mpr (by rw [h2]; omega))
    rw [Oc_bitsOfShare_18_eq, if_neg (show ¬ (64 : Int32) ≤ Int32.ofNat j from le_n (a := 64) (by omega) (by decide)), if_neg hlt, chk_t hn, i3_add1, show 1023 - j = (1023 - (j + 1)) + 1 by omega, sh_dec _ (by omega)]
    exact ih (j + 1) _ (by omega) (by omega) (by rw [h2, Nat.add_assoc])
theorem t_bits {x : UInt64} (h : x = FP.dconst0 ∨ (992 * 2 ^ 52 ≤ x.toNat ∧ x.toNat ≤ 1023 * 2 ^ 52)) : d_Oc_bitsOfShare x μ = rJ x.toInt64 μ := by
  rcases h with rfl | ⟨h1, h2⟩
  · have e : ¬ 0 < Op.cmpValue (FP.dcmp FP.dconst0 FP.dconst0) .g := by
      rw [fl_cmp (by rw [d0_nat]; decide) (by rw [d0_nat]; decide)]
      decide +kernel
    rw [e_Oc_bitsOfShare, if_neg e]
    rw [sh_u, d0_nat]
    rfl
  · have e : 0 < Op.cmpValue (FP.dcmp x FP.dconst0) .g := by
      rw [fl_cmp (by omega) (by rw [d0_nat]; decide), d0_nat, cmp_g (show ((0 : Nat) : Int) < (x.toNat : Int) by omega)]
      decide
    obtain ⟨E, T, hx, hT⟩ : ∃ E T : Nat, x.toNat = E * 4503599627370496 + T ∧ T < 4503599627370496 := ⟨x.toNat / 4503599627370496, x.toNat % 4503599627370496, by omega, by omega⟩
    have hE : 992 ≤ E := by omega
    have hE2 : E ≤ 1023 := by omega
    rw [e_Oc_bitsOfShare, if_pos e, sh_u, hx]
    exact t_bits0 (x0 := x) (E := E) (T := T) hT hE hE2 (1023 - E - 0) 0 x rfl (by omega) hx
theorem sh_dcmp {x : UInt64} (h : x = FP.dconst0 ∨ (992 * 2 ^ 52 ≤ x.toNat ∧ x.toNat ≤ 1023 * 2 ^ 52)) : Op.cmpValue (FP.dcmp x x) .l = 0 := by
  have hle : x.toNat ≤ 1023 * 2 ^ 52 := by
    rcases h with rfl | h
    · rw [d0_nat]; exact Nat.zero_le _
    · exact h.2
  have h1 : FP.dcmp x x = some .eq := FP.Core.dcmp_self ((FP.Core.ne_nan x).mpr (by omega))
  rw [h1]
  rfl
end SHARE
