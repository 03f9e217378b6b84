/-! SEMANTICS: the players' share, and its bits -/
section FLT
theorem fl_mod (x : UInt64) : (x &&& 0x7fffffffffffffff).toNat = x.toNat % 2 ^ 63 := by
  rw [UInt64.toNat_and]
  have e1 : (0x7fffffffffffffff : UInt64).toNat = 2 ^ 63 - 1 := by decide
  rw [e1, Nat.and_two_pow_sub_one_eq_mod]
theorem fl_noNaN {x : UInt64} (h : FP.Core.val64 x ≠ .nan) : noNaN x = true := by
  have h1 := (FP.Core.ne_nan x).mp h
  unfold noNaN
  refine decide_eq_true ?_
  rw [UInt64.le_iff_toNat_le, fl_mod]
  exact h1
theorem fl_fin {x : UInt64} {s : Bool} {c : Nat} {q : Int} (h : FP.Core.val64 x = .fin s c q) : noNaN x = true := fl_noNaN (by rw [h]; intro q; cases q)
/-- the quotient of two whole numbers -/
theorem fl_quot {a b : Nat} (ha0 : 0 < a) (ha : a < 2147483648) (hb0 : 0 < b) (hb : b < 2147483648) : FP.Core.val64 (FP.ddiv (FP.i2d (Int32.ofNat a)) (FP.i2d (Int32.ofNat b))) = FP.Core.roundRatio FP.Core.b64 false a b 0 := by
  have w1 := FP.Core.i2d_int (Int32.ofNat a)
  have w2 := FP.Core.i2d_int (Int32.ofNat b)
  rw [i3_negs ha] at w1
  rw [i3_negs hb] at w2
  unfold FP.Core.DInt at w1 w2
  have e : FP.Core.val64 (FP.ddiv (FP.i2d (Int32.ofNat a)) (FP.i2d (Int32.ofNat b))) = FP.Core.quotient FP.Core.b64 (FP.Core.val64 (FP.Core.i2d (Int32.ofNat a))) (FP.Core.val64 (FP.Core.i2d (Int32.ofNat b))) := FP.Core.val64_ddiv _ _
  rw [e]
  generalize FP.Core.val64 (FP.Core.i2d (Int32.ofNat a)) = x at w1
  generalize FP.Core.val64 (FP.Core.i2d (Int32.ofNat b)) = y at w2
  match x, y, w1, w2 with
  | .fin s c q, .fin t d r, w1, w2 =>
    have hs : s = false := (FP.Core.whole_sign w1 (by omega)).trans (decide_eq_false (by omega))
    have ht : t = false := (FP.Core.whole_sign w2 (by omega)).trans (decide_eq_false (by omega))
    have hd : d ≠ 0 := fun q0 => by
      have := (FP.Core.whole_zero w2).mp q0
      omega
    have n1 := FP.Core.whole_natAbs w1
    have n2 := FP.Core.whole_natAbs w2
    have n1' : c * 2 ^ q.toNat = a * 2 ^ (-q).toNat := n1
    have n2' : d * 2 ^ r.toNat = b * 2 ^ (-r).toNat := n2
    subst hs ht
    show (if d = 0 then _ else FP.Core.roundRatio FP.Core.b64 (false != false) c d (q - r)) = _
    rw [if_neg hd]
    refine FP.Core.roundRatio_congr (by omega) hb0 ?_
    have h1 : c * b * 2 ^ (q.toNat + (-r).toNat) = a * d * 2 ^ ((-q).toNat + r.toNat) := by
      rw [Nat.pow_add, Nat.pow_add]
      calc c * b * (2 ^ q.toNat * 2 ^ (-r).toNat) = (c * 2 ^ q.toNat) * (b * 2 ^ (-r).toNat) := by ac_rfl
        _ = (a * 2 ^ (-q).toNat) * (d * 2 ^ r.toNat) := by rw [n1', n2']
        _ = a * d * (2 ^ (-q).toNat * 2 ^ r.toNat) := by ac_rfl
    have hX : ∃ m, q.toNat + (-r).toNat = (q - r - 0).toNat + m ∧ (-q).toNat + r.toNat = (0 - (q - r)).toNat + m := ⟨q.toNat + (-r).toNat - (q - r - 0).toNat, by omega, by omega⟩
    obtain ⟨m, m1, m2⟩ := hX
    rw [m1, m2, Nat.pow_add, Nat.pow_add, ← Nat.mul_assoc, ← Nat.mul_assoc] at h1
    exact Nat.eq_of_mul_eq_mul_right (Nat.two_pow_pos m) h1
theorem fl_bits {a b : Nat} (ha0 : 0 < a) (hab : a ≤ b) (hb : b < 2147483648) : 992 * 2 ^ 52 ≤ (FP.ddiv (FP.i2d (Int32.ofNat a)) (FP.i2d (Int32.ofNat b))).toNat ∧ (FP.ddiv (FP.i2d (Int32.ofNat a)) (FP.i2d (Int32.ofNat b))).toNat ≤ 1023 * 2 ^ 52 := by
  have hv := fl_quot (a := a) (b := b) ha0 (by omega) (by omega) hb
  generalize FP.ddiv (FP.i2d (Int32.ofNat a)) (FP.i2d (Int32.ofNat b)) = v at hv
  have hv' : FP.Core.decode FP.Core.b64 v.toNat = FP.Core.roundRatio FP.Core.b64 false a b 0 := hv
  have hne : FP.Core.val64 v ≠ .nan := by rw [hv]; exact FP.Core.roundRatio_ne_nan _ _ _ _ _
  have hsg := FP.Core.sgn_bits hne
  rw [hv, FP.Core.sgn_roundRatio] at hsg
  have hlt : v.toNat < 2 ^ 63 := by
    have := of_decide_eq_false hsg.symm
    omega
  have hm : FP.Core.mag FP.Core.b64 v.toNat = v.toNat := by rw [FP.Core.mag_toNat64, Nat.mod_eq_of_lt hlt]
  have hq := FP.Core.qmin_b64
  have ht := FP.Core.tails_b64
  have hin : FP.Core.inUnits a 0 (-1074) = a * 2 ^ 1074 := rfl
  have hup := FP.Core.mag_le FP.Core.good_b64 (m := 1023 * 2 ^ 52) (e0 := -1074) hv' (show 0 < b by omega) (by rw [hq]; exact Int.le_refl _) (by decide) (by
    have e1 := FP.Core.unitsOf_start (f := FP.Core.b64) (K := 1023) (by decide)
    rw [ht] at e1
    rw [e1, hq, hin, show ((-1074 : Int) - -1074).toNat = 0 from rfl, Nat.pow_zero, Nat.mul_one, ← Nat.pow_add]
    show a * 2 ^ 1074 ≤ 2 ^ 1074 * b
    rw [Nat.mul_comm]
    exact Nat.mul_le_mul_left _ hab)
  have hdn := FP.Core.mag_ge FP.Core.good_b64 (m := 992 * 2 ^ 52) (e0 := -1074) hv' (show 0 < b by omega) (by rw [hq]; exact Int.le_refl _) (by decide) (by rw [FP.Core.infBits_b64]; decide) (by
    have e1 := FP.Core.unitsOf_start (f := FP.Core.b64) (K := 992) (by decide)
    rw [ht] at e1
    rw [e1, hq, hin, show ((-1074 : Int) - -1074).toNat = 0 from rfl, Nat.pow_zero, Nat.mul_one, ← Nat.pow_add]
    show 2 ^ 1043 * b ≤ a * 2 ^ 1074
    have e2 : 2 ^ 1074 = 2 ^ 31 * 2 ^ 1043 := (Nat.pow_add 2 31 1043)
    rw [e2, ← Nat.mul_assoc, Nat.mul_comm (2 ^ 1043) b]
    refine Nat.mul_le_mul_right _ ?_
    omega)
  rw [hm] at hup hdn
  exact ⟨hdn, hup⟩
end FLT
