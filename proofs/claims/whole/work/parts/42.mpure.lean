/-! SEMANTICS: the model's answers -/
section MPURE
theorem i3_sub {a b : Nat} (h : b ≤ a) : Int32.ofNat a - Int32.ofNat b = Int32.ofNat (a - b) := by
  have e : Int32.ofNat a = Int32.ofNat (a - b) + Int32.ofNat b := by rw [i3_add]; congr 1; omega
  rw [e, Int32.add_sub_cancel]
theorem i3_subn {a b : Nat} (h : a ≤ b) : Int32.ofNat a - Int32.ofNat b = -(Int32.ofNat (b - a)) := by
  rw [← i3_sub h, Int32.neg_sub]
theorem i3_negs {k : Nat} (h : k < 2147483648) : (Int32.ofNat k).toInt = k := Int32.toInt_ofNat_of_lt h
theorem i3_neg_lt {k : Nat} (h0 : 0 < k) (h : k < 2147483648) : ¬ (0 : Int32) ≤ -(Int32.ofNat k) := by
  rw [Int32.le_iff_toInt_le, Int32.toInt_neg, i3_negs h]
  have e0 : (0 : Int32).toInt = 0 := rfl
  rw [e0]
  have : (-(k : Int)).bmod (2 ^ 32) = -(k : Int) := by
    rw [Int.bmod_def]
    omega
  rw [this]
  omega
theorem i3_subadd {a b k : Nat} (h : b ≤ a + k) : Int32.ofNat a - Int32.ofNat b + Int32.ofNat k = Int32.ofNat (a + k - b) := by
  rw [Int32.sub_eq_add_neg, Int32.add_assoc, Int32.add_comm (-(Int32.ofNat b)), ← Int32.add_assoc, ← Int32.sub_eq_add_neg, i3_add, i3_sub h]
theorem i3_div {a b : Nat} (ha : a < 2147483648) (hb : b < 2147483648) : Int32.ofNat a / Int32.ofNat b = Int32.ofNat (a / b) := by
  have h1 : a / b ≤ a := Nat.div_le_self a b
  refine Int32.toInt_inj.mp ?_
  rw [Int32.toInt_div, i3_negs ha, i3_negs hb, i3_negs (by omega), ← Int.ofNat_tdiv, Int.bmod_def]
  generalize a / b = q at h1 ⊢
  have e : (q : Int) % ((2 ^ 32 : Nat) : Int) = (q : Int) := by omega
  rw [e, if_pos (by omega)]
theorem i3_rem {a b : Nat} (ha : a < 2147483648) (hb : b < 2147483648) : Int32.ofNat a - Int32.ofNat a / Int32.ofNat b * Int32.ofNat b = Int32.ofNat (a % b) := by
  rw [i3_div ha hb, i3_mul, i3_sub (Nat.div_mul_le_self a b)]
  congr 1
  have := Nat.div_add_mod a b
  rw [Nat.mul_comm] at this
  omega
variable {z : Nat → Nat} {μ : PM}
abbrev isQ (z : Nat → Nat) (c : Nat) : Prop := (z 4 + 10 - z (16 + 4 * c + 2)) % 10 < z (16 + 4 * c + 3)
abbrev near (z : Nat → Nat) (c d : Nat) : Prop := (z (16 + 4 * c) - z (16 + 4 * d)) + (z (16 + 4 * d) - z (16 + 4 * c)) ≤ z 11
theorem m_isQuiet {c : Nat} (hz : mI μ 13 = zI z) (hb : Bd z) (hc : c < 10) : d_Md_isQuiet (Int32.ofNat c) μ = rI (if isQ z c then 1 else 0) μ := by
  have h1 := hb.hr
  obtain ⟨-, -, h2, h3⟩ := hb.cor c hc
  rw [e_Md_isQuiet, m_corner0_2 hz hc, bI_r, m_corner0_3 hz hc, bI_r, m_h hz]
  have e : ∀ x : Int32, (Int32.ofNat (z 4) - Int32.ofNat (z (16 + 4 * c + 2)) + 10) = x → (x - x / 10 * 10 : Int32) = (Int32.ofNat ((z 4 + 10 - z (16 + 4 * c + 2)) % 10)) := by
    intro x hx
    have hx2 : x = Int32.ofNat (z 4 + 10 - z (16 + 4 * c + 2)) := by rw [← hx]; exact i3_subadd (k := 10) (by omega)
    rw [hx2]
    exact i3_rem (b := 10) (by omega) (by decide)
  rw [e _ rfl]
  by_cases h : (z 4 + 10 - z (16 + 4 * c + 2)) % 10 < z (16 + 4 * c + 3)
  · rw [if_neg (le_n h (by omega)), if_pos h]
  · rw [if_pos (le_y (by omega) (by omega)), if_neg h]
theorem m_areNear {c d : Nat} (hz : mI μ 13 = zI z) (hb : Bd z) (hc : c < 10) (hd : d < 10) : d_Md_areNear (Int32.ofNat c) (Int32.ofNat d) μ = rI (if near z c d then 1 else 0) μ := by
  have h1 := hb.s0
  have h2 := (hb.cor c hc).1
  have h3 := (hb.cor d hd).1
  rw [e_Md_areNear, m_corner0_0 hz hc, bI_r, m_corner0_0 hz hd, bI_r, m_h hz]
  by_cases h : z (16 + 4 * d) ≤ z (16 + 4 * c)
  · rw [i3_sub h, if_pos (show (0 : Int32) ≤ _ from le_y (a := 0) (Nat.zero_le _) (by omega))]
    by_cases hn : z (16 + 4 * c) - z (16 + 4 * d) + (z (16 + 4 * d) - z (16 + 4 * c)) ≤ z 11
    · rw [if_neg (lt_n (by omega) (by omega)), if_pos hn]
    · rw [if_pos (lt_y (by omega) (by omega)), if_neg hn]
  · rw [i3_subn (by omega), if_neg (i3_neg_lt (by omega) (by omega)), Int32.neg_neg]
    by_cases hn : z (16 + 4 * c) - z (16 + 4 * d) + (z (16 + 4 * d) - z (16 + 4 * c)) ≤ z 11
    · rw [if_neg (lt_n (by omega) (by omega)), if_pos hn]
    · rw [if_pos (lt_y (by omega) (by omega)), if_neg hn]
/-- the corner of an organ that has one -/
theorem at_lt {o : Nat} (hb : Bd z) (ho : o < 5) (h : z (56 + 7 * o + 3) ≠ 0) : z (56 + 7 * o + 3) - 1 < 10 ∧ z (56 + 7 * o + 3) - 1 < z 0 ∧ pm (z (56 + 7 * o + 3)) = Int32.ofNat (z (56 + 7 * o + 3) - 1) := by
  have h1 := (hb.org o ho).2.2.2
  have h2 := hb.nc
  refine ⟨by omega, by omega, ?_⟩
  have e : z (56 + 7 * o + 3) = (z (56 + 7 * o + 3) - 1) + 1 := by omega
  rw [e, pm_succ]
  rfl
/-- which organ has a corner, one greater; 0: none -/
def whoP (z : Nat → Nat) (c : Nat) : Nat → Nat
  | 0 => 0
  | n + 1 => let r := whoP z c n
    if r ≠ 0 then r else if z (56 + 7 * n + 3) = c + 1 then n + 1 else 0
theorem whoP_le {c : Nat} : ∀ n, whoP z c n ≤ n := by
  intro n
  induction n with
  | zero => exact Nat.le_refl _
  | succ n ih =>
    show (if whoP z c n ≠ 0 then whoP z c n else if z (56 + 7 * n + 3) = c + 1 then n + 1 else 0) ≤ n + 1
    split
    · omega
    · split <;> omega
theorem m_whoHas {c : Nat} (hz : mI μ 13 = zI z) (hb : Bd z) (hc : c < 10) : d_Md_whoHas (Int32.ofNat c) μ = rI (pm (whoP z c (z 1))) μ := by
  have hp := hb.no
  rw [e_Md_whoHas, m_h hz]
  have key : ∀ n, n ≤ 5 → ∀ x, Md_whoHas_11 (Int32.ofNat c) x (pm n) μ = rI (if whoP z c n = 0 then x else pm (whoP z c n)) μ := by
    intro n
    induction n with
    | zero =>
      intro _ x
      rw [Md_whoHas_11_eq, if_pos ((pm_lt (by decide)).mpr rfl)]
      rfl
    | succ n ih =>
      intro hn x
      have hbg := hb.big (56 + 7 * n + 3) (by omega)
      have hm : Int32.ofNat n + -1 = pm n := by rw [← Int32.sub_eq_add_neg]; rfl
      rw [Md_whoHas_11_eq, if_neg (fun q => absurd ((pm_lt (by omega)).mp q) (by omega)), pm_succ, m_cornerOf hz (by omega), bI_r, hm, ih (by omega), ih (by omega)]
      have e : pm (z (56 + 7 * n + 3)) = Int32.ofNat c ↔ z (56 + 7 * n + 3) = c + 1 := pm_eq (by omega) (by omega)
      show _ = rI (if (if whoP z c n ≠ 0 then whoP z c n else if z (56 + 7 * n + 3) = c + 1 then n + 1 else 0) = 0 then x else pm (if whoP z c n ≠ 0 then whoP z c n else if z (56 + 7 * n + 3) = c + 1 then n + 1 else 0)) μ
      by_cases h1 : z (56 + 7 * n + 3) = c + 1
      · have e1 := e.mpr h1
        by_cases h0 : whoP z c n = 0
        · simp [h0, h1, e1, pm_succ]
        · simp [h0, h1, e1]
      · have e1 : ¬ pm (z (56 + 7 * n + 3)) = Int32.ofNat c := fun q => h1 (e.mp q)
        by_cases h0 : whoP z c n = 0
        · simp [h0, h1, e1]
        · simp [h0, h1, e1]
  have := key (z 1) hp (-1)
  show Md_whoHas_11 _ _ (pm (z 1)) _ = _
  rw [this]
  by_cases h0 : whoP z c (z 1) = 0
  · rw [if_pos h0, h0, pm_zero]
  · rw [if_neg h0]
def freeS (z : Nat → Nat) (n : Nat) : Nat := sum n (fun c => if whoP z c (z 1) = 0 then 1 else 0)
theorem m_freeCorners (hz : mI μ 13 = zI z) (hb : Bd z) : d_Md_freeCorners μ = rI (Int32.ofNat (freeS z (z 0))) μ := by
  have hp := hb.nc
  have hq := hb.no
  rw [e_Md_freeCorners]
  refine (loopS (fun i a (_ : Unit) => Md_freeCorners_4 a i μ) (z 0) (fun c => if whoP z c (z 1) = 0 then 1 else 0) () (fun i hi a => ?_)).trans ?_
  · show Md_freeCorners_4 _ _ _ = Md_freeCorners_4 _ _ _
    have hw := whoP_le (z := z) (c := i) (z 1)
    rw [Md_freeCorners_4_eq, m_h hz, if_neg (le_n hi (by omega)), m_whoHas hz hb (by omega), bI_r, i3_add0, i3_add1, i3_add1]
    by_cases h : whoP z i (z 1) = 0
    · rw [if_neg (fun q => q ((pm_none (by omega)).mpr h)), if_pos h]
    · rw [if_pos (fun q => h ((pm_none (by omega)).mp q)), if_neg h]
      rfl
  · show Md_freeCorners_4 _ _ _ = _
    rw [Md_freeCorners_4_eq, m_h hz, if_pos (le_y (Nat.le_refl _) (by omega))]
    rfl
def withS (z : Nat → Nat) (n : Nat) : Nat := sum n (fun o => if z (56 + 7 * o + 3) = 0 then 0 else 1)
theorem m_withCorner (hz : mI μ 13 = zI z) (hb : Bd z) : d_Md_withCorner μ = rI (Int32.ofNat (withS z (z 1))) μ := by
  have hq := hb.no
  rw [e_Md_withCorner]
  refine (loopS (fun i a (_ : Unit) => Md_withCorner_4 a i μ) (z 1) (fun o => if z (56 + 7 * o + 3) = 0 then 0 else 1) () (fun i hi a => ?_)).trans ?_
  · show Md_withCorner_4 _ _ _ = Md_withCorner_4 _ _ _
    have hbg := hb.big (56 + 7 * i + 3) (by omega)
    rw [Md_withCorner_4_eq, m_h hz, if_neg (le_n hi (by omega)), m_cornerOf hz (by omega), bI_r, i3_add0, i3_add1, i3_add1]
    by_cases h : z (56 + 7 * i + 3) = 0
    · rw [if_neg (fun q => q ((pm_none (by omega)).mpr h)), if_pos h]
      rfl
    · rw [if_pos (fun q => h ((pm_none (by omega)).mp q)), if_neg h]
  · show Md_withCorner_4 _ _ _ = _
    rw [Md_withCorner_4_eq, m_h hz, if_pos (le_y (Nat.le_refl _) (by omega))]
    rfl
end MPURE
