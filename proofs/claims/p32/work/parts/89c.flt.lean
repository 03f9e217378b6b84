/-! SEMANTICS: the players' share, and its bits -/
section FLT
theorem fl_mod (x : UInt64) : (x &&& 0x7fffffffffffffff).toNat = x.toNat % 2 ^ 63 := by
  rw [UInt64.toNat_and]
  have e1 : (0x7fffffffffffffff : UInt64).toNat = 2 ^ 63 - 1 := by decide
  rw [e1, Nat.and_two_pow_sub_one_eq_mod]
theorem fl_noNaN {x : UInt64} (h : FP.Core.val64 x ≠ .nan) : noNaN x = true := by
  have h1 := (FP.Core.ne_nan x).mp h
  unfold noNaN
  refine decide_eq_true ?_
  rw [UInt64.le_iff_toNat_le, fl_mod]
  exact h1
theorem fl_fin {x : UInt64} {s : Bool} {c : Nat} {q : Int} (h : FP.Core.val64 x = .fin s c q) : noNaN x = true := fl_noNaN (by rw [h]; intro q; cases q)
/-- the quotient of two whole numbers -/
theorem fl_quot {a b : Nat} (ha0 : 0 < a) (ha : a < 2147483648) (hb0 : 0 < b) (hb : b < 2147483648) : FP.Core.val64 (FP.ddiv (FP.i2d (Int32.ofNat a)) (FP.i2d (Int32.ofNat b))) = FP.Core.roundRatio FP.Core.b64 false a b 0 := by
  have w1 := FP.Core.i2d_int (Int32.ofNat a)
  have w2 := FP.Core.i2d_int (Int32.ofNat b)
  rw [i3_negs ha] at w1
  rw [i3_negs hb] at w2
  unfold FP.Core.DInt at w1 w2
  have e : FP.Core.val64 (FP.ddiv (FP.i2d (Int32.ofNat a)) (FP.i2d (Int32.ofNat b))) = FP.Core.quotient FP.Core.b64 (FP.Core.val64 (FP.Core.i2d (Int32.ofNat a))) (FP.Core.val64 (FP.Core.i2d (Int32.ofNat b))) := FP.Core.val64_ddiv _ _
  rw [e]
  generalize FP.Core.val64 (FP.Core.i2d (Int32.ofNat a)) = x at w1
  generalize FP.Core.val64 (FP.Core.i2d (Int32.ofNat b)) = y at w2
  match x, y, w1, w2 with
  | .fin s c q, .fin t d r, w1, w2 =>
    have hs : s = false := (FP.Core.whole_sign w1 (by omega)).trans (decide_eq_false (by omega))
    have ht : t = false := (FP.Core.whole_sign w2 (by omega)).trans (decide_eq_false (by omega))
    have hd : d ≠ 0 := fun q0 => by
      have := (FP.Core.whole_zero w2).mp q0
      omega
    have n1 := FP.Core.whole_natAbs w1
    have n2 := FP.Core.whole_natAbs w2
    have n1' : c * 2 ^ q.toNat = a * 2 ^ (-q).toNat := n1
    have n2' : d * 2 ^ r.toNat = b * 2 ^ (-r).toNat := n2
    subst hs ht
    show (if d = 0 then _ else FP.Core.roundRatio FP.Core.b64 (false != false) c d (q - r)) = _
    rw [if_neg hd]
    refine FP.Core.roundRatio_congr (by omega) hb0 ?_
    have h1 : c * b * 2 ^ (q.toNat + (-r).toNat) = a * d * 2 ^ ((-q).toNat + r.toNat) := by
      rw [Nat.pow_add, Nat.pow_add]
      calc c * b * (2 ^ q.toNat * 2 ^ (-r).toNat) = (c * 2 ^ q.toNat) * (b * 2 ^ (-r).toNat) := by ac_rfl
        _ = (a * 2 ^ (-q).toNat) * (d * 2 ^ r.toNat) := by rw [n1', n2']
        _ = a * d * (2 ^ (-q).toNat * 2 ^ r.toNat) := by ac_rfl
    have hX : ∃ m, q.toNat + (-r).toNat = (q - r - 0).toNat + m ∧ (-q).toNat + r.toNat = (0 - (q - r)).toNat + m := ⟨q.toNat + (-r).toNat - (q - r - 0).toNat, by omega, by omega⟩
    obtain ⟨m, m1, m2⟩ := hX
    rw [m1, m2, Nat.pow_add, Nat.pow_add, ← Nat.mul_assoc, ← Nat.mul_assoc] at h1
    exact Nat.eq_of_mul_eq_mul_right (Nat.two_pow_pos m) h1
theorem fl_bits {a b : Nat} (ha0 : 0 < a) (hab : a ≤ b) (hb : b < 2147483648) : 992 * 2 ^ 52 ≤ (FP.ddiv (FP.i2d (Int32.ofNat a)) (FP.i2d (Int32.ofNat b))).toNat ∧ (FP.ddiv (FP.i2d (Int32.ofNat a)) (FP.i2d (Int32.ofNat b))).toNat ≤ 1023 * 2 ^ 52 := by
  have hv := fl_quot (a := a) (b := b) ha0 (by omega) (by omega) hb
  generalize FP.ddiv (FP.i2d (Int32.ofNat a)) (FP.i2d (Int32.ofNat b)) = v at hv
  have hv' : FP.Core.decode FP.Core.b64 v.toNat = FP.Core.roundRatio FP.Core.b64 false a b 0 := hv
  have hne : FP.Core.val64 v ≠ .nan := by rw [hv]; exact FP.Core.roundRatio_ne_nan _ _ _ _ _
  have hsg := FP.Core.sgn_bits hne
  rw [hv, FP.Core.sgn_roundRatio] at hsg
  have hlt : v.toNat < 2 ^ 63 := by
    have := of_decide_eq_false hsg.symm
    omega
  have hm : FP.Core.mag FP.Core.b64 v.toNat = v.toNat := by rw [FP.Core.mag_toNat64, Nat.mod_eq_of_lt hlt]
  have hq := FP.Core.qmin_b64
  have ht := FP.Core.tails_b64
  have hin : FP.Core.inUnits a 0 (-1074) = a * 2 ^ 1074 := rfl
  have hup := FP.Core.mag_le FP.Core.good_b64 (m := 1023 * 2 ^ 52) (e0 := -1074) hv' (show 0 < b by omega) (by rw [hq]; exact Int.le_refl _) (by decide) (by
    have e1 := FP.Core.unitsOf_start (f := FP.Core.b64) (K := 1023) (by decide)
    rw [ht] at e1
    rw [e1, hq, hin, show ((-1074 : Int) - -1074).toNat = 0 from rfl, Nat.pow_zero, Nat.mul_one, ← Nat.pow_add]
    show a * 2 ^ 1074 ≤ 2 ^ 1074 * b
    rw [Nat.mul_comm]
    exact Nat.mul_le_mul_left _ hab)
  have hdn := FP.Core.mag_ge FP.Core.good_b64 (m := 992 * 2 ^ 52) (e0 := -1074) hv' (show 0 < b by omega) (by rw [hq]; exact Int.le_refl _) (by decide) (by rw [FP.Core.infBits_b64]; decide) (by
    have e1 := FP.Core.unitsOf_start (f := FP.Core.b64) (K := 992) (by decide)
    rw [ht] at e1
    rw [e1, hq, hin, show ((-1074 : Int) - -1074).toNat = 0 from rfl, Nat.pow_zero, Nat.mul_one, ← Nat.pow_add]
    show 2 ^ 1043 * b ≤ a * 2 ^ 1074
    have e2 : 2 ^ 1074 = 2 ^ 31 * 2 ^ 1043 := (Nat.pow_add 2 31 1043)
    rw [e2, ← Nat.mul_assoc, Nat.mul_comm (2 ^ 1043) b]
    refine Nat.mul_le_mul_right _ ?_
    omega)
  rw [hm] at hup hdn
  exact ⟨hdn, hup⟩
/-- a number by its bits -/
theorem fl_val {x : UInt64} {E T : Nat} (hx : x.toNat = E * 2 ^ 52 + T) (hT : T < 2 ^ 52) (hE : 1 ≤ E) (hE2 : E < 2047) : FP.Core.val64 x = .fin false (2 ^ 52 + T) (-1074 + ((E : Int) - 1)) := by
  have h1 : FP.Core.fieldE FP.Core.b64 x.toNat = E := by
    show x.toNat / 4503599627370496 % 2048 = E
    omega
  have h2 : FP.Core.fieldT FP.Core.b64 x.toNat = T := by
    show x.toNat % 4503599627370496 = T
    omega
  have h3 : FP.Core.fieldS FP.Core.b64 x.toNat = false := by
    show (x.toNat / 4503599627370496 / 2048 % 2 == 1) = false
    have : x.toNat / 4503599627370496 / 2048 % 2 = 0 := by omega
    rw [this]
    rfl
  unfold FP.Core.val64 FP.Core.decode
  rw [h1, h2, h3, FP.Core.exps_b64, if_neg (by omega), if_neg (by omega), FP.Core.tails_b64, FP.Core.qmin_b64]
theorem fl_key {n : Nat} (h : n < 2 ^ 63) : FP.Core.key FP.Core.b64 n = (n : Int) := by
  unfold FP.Core.key
  rw [FP.Core.half_b64, decide_eq_false (by omega), FP.Core.mag_of_lt (by rw [FP.Core.half_b64]; exact h)]
  rfl
theorem fl_cmp {x y : UInt64} (hx : x.toNat < 2047 * 2 ^ 52) (hy : y.toNat < 2047 * 2 ^ 52) : FP.dcmp x y = some (compare (x.toNat : Int) (y.toNat : Int)) := by
  have nx : FP.Core.val64 x ≠ .nan := (FP.Core.ne_nan x).mpr (by omega)
  have ny : FP.Core.val64 y ≠ .nan := (FP.Core.ne_nan y).mpr (by omega)
  have h := FP.Core.cmp_key FP.Core.good_b64 (FP.Core.lt_full64 x) (FP.Core.lt_full64 y) nx ny
  rw [fl_key (by omega), fl_key (by omega)] at h
  exact h
/-- twice a number -/
theorem fl_twice {x : UInt64} {E T : Nat} (hx : x.toNat = E * 2 ^ 52 + T) (hT : T < 2 ^ 52) (hE : 1 ≤ E) (hE2 : E < 2046) : (FP.dmul x 4611686018427387904).toNat = (E + 1) * 2 ^ 52 + T := by
  have h1 := fl_val hx hT hE (by omega)
  have h2 : FP.Core.val64 4611686018427387904 = .fin false (2 ^ 52 + 0) (-1074 + (((1024 : Nat) : Int) - 1)) := fl_val (E := 1024) (T := 0) (by decide) (by decide) (by decide) (by decide)
  have h3 : FP.Core.val64 (FP.dmul x 4611686018427387904) = FP.Core.round FP.Core.b64 (FP.Core.exactProduct (FP.Core.val64 x) (FP.Core.val64 4611686018427387904)) := FP.Core.val64_dmul _ _
  have hy : (UInt64.ofNat ((E + 1) * 2 ^ 52 + T)).toNat = (E + 1) * 2 ^ 52 + T := UInt64.toNat_ofNat_of_lt' (by show _ < 2 ^ 64; omega)
  have h4 := fl_val hy hT (by omega) (by omega)
  have hfit := FP.Core.val64_fits (UInt64.ofNat ((E + 1) * 2 ^ 52 + T))
  rw [h4] at hfit
  have h5 : FP.Core.val64 (FP.dmul x 4611686018427387904) = FP.Core.val64 (UInt64.ofNat ((E + 1) * 2 ^ 52 + T)) := by
    rw [h3, h1, h2, h4]
    show FP.Core.roundRatio FP.Core.b64 (false != false) ((2 ^ 52 + T) * (2 ^ 52 + 0)) 1 _ = _
    refine FP.Core.roundRatio_exact FP.Core.good_b64 (by decide) hfit ?_
    have e1 : (-1074 + ((E : Int) - 1) + (-1074 + (((1024 : Nat) : Int) - 1)) - (-1074 + (((E + 1 : Nat) : Int) - 1))).toNat = 0 := by omega
    have e2 : (-1074 + (((E + 1 : Nat) : Int) - 1) - (-1074 + ((E : Int) - 1) + (-1074 + (((1024 : Nat) : Int) - 1)))).toNat = 52 := by omega
    rw [e1, e2, Nat.add_zero, Nat.pow_zero, Nat.mul_one, Nat.mul_one]
  rw [FP.Core.val64_inj (by rw [h5, h4]; intro q; cases q) h5, hy]
/-- the digits behind the leading one -/
theorem fl_frac {x : UInt64} {T : Nat} (hx : x.toNat = 1023 * 2 ^ 52 + T) (hT : T < 2 ^ 52) : noNaN (FP.dsub x FP.dconst1) = true ∧ noNaN (FP.dmul (FP.dsub x FP.dconst1) 4841369599423283200) = true ∧ FP.d2l (FP.dmul (FP.dsub x FP.dconst1) 4841369599423283200) = Int64.ofNat T := by
  have h1 : FP.Core.val64 x = .fin false (2 ^ 52 + T) (-52) := fl_val (E := 1023) hx hT (by decide) (by decide)
  have h2 : FP.Core.val64 FP.dconst1 = .fin false (2 ^ 52) (-52) := FP.Core.val64_dconst1
  have h3 : FP.Core.val64 (FP.dsub x FP.dconst1) = FP.Core.round FP.Core.b64 (FP.Core.exactSum (FP.Core.val64 x) (FP.Core.negate (FP.Core.val64 FP.dconst1))) := FP.Core.val64_dsub _ _
  have hsum : FP.Core.exactSum (.fin false (2 ^ 52 + T) (-52)) (FP.Core.negate (.fin false (2 ^ 52) (-52))) = .fin false T (-52) := by
    have hu : FP.Core.sumUnits false (2 ^ 52 + T) (-52) true (2 ^ 52) (-52) (min (-52) (-52)) = (T : Int) := by
      show (((2 ^ 52 + T) * 2 ^ 0 : Nat) : Int) + -(((2 ^ 52) * 2 ^ 0 : Nat) : Int) = T
      omega
    show FP.Core.Datum.fin (FP.Core.sumSign false true (FP.Core.sumUnits false (2 ^ 52 + T) (-52) true (2 ^ 52) (-52) (min (-52) (-52)))) (FP.Core.sumUnits false (2 ^ 52 + T) (-52) true (2 ^ 52) (-52) (min (-52) (-52))).natAbs (min (-52) (-52)) = _
    rw [hu]
    have hs : FP.Core.sumSign false true (T : Int) = false := by
      unfold FP.Core.sumSign
      by_cases q : (T : Int) = 0
      · rw [if_pos q]; rfl
      · rw [if_neg q]; exact decide_eq_false (by omega)
    rw [hs]
    rfl
  obtain ⟨c, q, r1, r2⟩ := FP.Core.round_exact FP.Core.good_b64 false (c := T) (q := -52) (show T < 2 ^ 53 by omega) (by decide) (by decide)
  have h4 : FP.Core.val64 (FP.dsub x FP.dconst1) = .fin false c q := by rw [h3, h1, h2, hsum, r1]
  have h5 : FP.Core.val64 4841369599423283200 = .fin false (2 ^ 52 + 0) (-1074 + (((1075 : Nat) : Int) - 1)) := fl_val (E := 1075) (T := 0) (by decide) (by decide) (by decide) (by decide)
  have h6 : FP.Core.val64 (FP.dmul (FP.dsub x FP.dconst1) 4841369599423283200) = FP.Core.round FP.Core.b64 (FP.Core.exactProduct (FP.Core.val64 (FP.dsub x FP.dconst1)) (FP.Core.val64 4841369599423283200)) := FP.Core.val64_dmul _ _
  have hfit := FP.Core.val64_fits (FP.dsub x FP.dconst1)
  rw [h4] at hfit
  have hqm : -1074 ≤ q := by
    have := hfit.2.1
    rw [FP.Core.qmin_b64] at this
    exact this
  have hw : FP.Core.Whole (T : Int) (.fin (false != false) (c * (2 ^ 52 + 0)) (q + (-1074 + (((1075 : Nat) : Int) - 1)))) := by
    rw [FP.Core.qmin_b64] at r2
    have r2' : c * 2 ^ (q - -1074).toNat = T * 2 ^ 1022 := r2
    have e0 : q + (-1074 + (((1075 : Nat) : Int) - 1)) = q := by omega
    rw [e0]
    show (((c * (2 ^ 52 + 0)) * 2 ^ q.toNat : Nat) : Int) = (T : Int) * ((2 ^ (-q).toNat : Nat) : Int)
    rw [← Int.natCast_mul]
    congr 1
    rw [Nat.add_zero]
    refine Nat.eq_of_mul_eq_mul_right (Nat.two_pow_pos 1022) ?_
    have e1 : ∃ m, (q - -1074).toNat = m ∧ 52 + q.toNat + 1022 = m + (-q).toNat := ⟨_, rfl, by omega⟩
    obtain ⟨m, m1, m2⟩ := e1
    rw [m1] at r2'
    calc c * 2 ^ 52 * 2 ^ q.toNat * 2 ^ 1022 = c * 2 ^ (52 + q.toNat + 1022) := by rw [Nat.pow_add, Nat.pow_add, ← Nat.mul_assoc, ← Nat.mul_assoc]
      _ = c * 2 ^ m * 2 ^ (-q).toNat := by rw [m2, Nat.pow_add, ← Nat.mul_assoc]
      _ = T * 2 ^ (-q).toNat * 2 ^ 1022 := by rw [r2', Nat.mul_assoc, Nat.mul_comm (2 ^ 1022), ← Nat.mul_assoc]
  have h7 : FP.Core.DInt (T : Int) (FP.dmul (FP.dsub x FP.dconst1) 4841369599423283200) := by
    unfold FP.Core.DInt
    rw [h6, h4, h5]
    exact FP.Core.whole_round FP.Core.good_b64 FP.Core.wide_b64 (show (T : Int).natAbs ≤ 2 ^ 53 by omega) hw
  refine ⟨fl_fin h4, fl_noNaN (fun hn => by unfold FP.Core.DInt at h7; rw [hn] at h7; exact h7), ?_⟩
  have e9 : (Int64.ofNat T).toInt = (T : Int) := l_toInt (by omega)
  exact FP.Core.d2l_int (by rw [e9]; exact h7)
end FLT
