/-! SEMANTICS: the model's answers, with bits -/
section MPURE2
theorem i3_or (a b : Nat) : Int32.ofNat a ||| Int32.ofNat b = Int32.ofNat (a ||| b) := by
  refine Int32.toBitVec_inj.mp ?_
  rw [Int32.toBitVec_or]
  show BitVec.ofNat 32 a ||| BitVec.ofNat 32 b = BitVec.ofNat 32 (a ||| b)
  exact (BitVec.ofNat_or).symm
theorem i3_and (a b : Nat) : Int32.ofNat a &&& Int32.ofNat b = Int32.ofNat (a &&& b) := by
  refine Int32.toBitVec_inj.mp ?_
  rw [Int32.toBitVec_and]
  show BitVec.ofNat 32 a &&& BitVec.ofNat 32 b = BitVec.ofNat 32 (a &&& b)
  exact (BitVec.ofNat_and).symm
theorem i3_bit : ∀ t, t < 10 → (1 : Int32) <<< (Int32.ofNat t &&& 31) = Int32.ofNat (1 <<< t) := by decide +kernel
def bitT (t : Nat) : Nat := if t = 0 then 0 else 1 <<< (t - 1)
/-- a loop with values that nobody reads -/
theorem loopW {β ω γ : Type} (L : Int32 → β → ω → γ) (n : Nat) (f : Nat → β → β) (P : Nat → β → Prop) (hP : ∀ i, i < n → ∀ x, P i x → P (i + 1) (f i x)) (hs : ∀ i, i < n → ∀ x w, P i x → ∃ w', L (Int32.ofNat i) x w = L (Int32.ofNat (i + 1)) (f i x) w') {a : β} (h0 : P 0 a) (w : ω) : ∃ w', L 0 a w = L (Int32.ofNat n) (up n f a) w' := by
  have key : ∀ m, m ≤ n → P m (up m f a) ∧ ∃ w', L 0 a w = L (Int32.ofNat m) (up m f a) w' := by
    intro m
    induction m with
    | zero => intro _; exact ⟨h0, w, rfl⟩
    | succ m ih =>
      intro hm
      obtain ⟨h1, w1, h2⟩ := ih (by omega)
      obtain ⟨w2, h3⟩ := hs m (by omega) _ w1 h1
      exact ⟨hP m (by omega) _ h1, w2, h2.trans h3⟩
  exact (key n (Nat.le_refl n)).2
variable {z : Nat → Nat} {μ : PM}
/-- an organ that has played today has a corner -/
def Pl (z : Nat → Nat) : Prop := ∀ o, o < 5 → ∀ h, h < 10 → z (163 + 10 * o + h) ≠ 0 → z (56 + 7 * o + 3) ≠ 0
def othN (z : Nat → Nat) (o : Nat) : Nat := sum (z 1) (fun e => if e ≠ o ∧ z (163 + 10 * e + z 4) ≠ 0 ∧ near z (z (56 + 7 * o + 3) - 1) (z (56 + 7 * e + 3) - 1) then 1 else 0)
theorem m_othersNear {o : Nat} (hz : mI μ 13 = zI z) (hb : Bd z) (hpl : Pl z) (ho : o < 5) (hat : z (56 + 7 * o + 3) ≠ 0) : d_Md_othersNear (Int32.ofNat o) μ = rI (Int32.ofNat (othN z o)) μ := by
  have hq := hb.no
  have hh := hb.hr
  obtain ⟨a1, a2, a3⟩ := at_lt hb ho hat
  rw [e_Md_othersNear]
  have key : ∀ i, i < z 1 → ∀ (a : Nat) (w : Value), True → ∃ w', Md_othersNear_4 (Int32.ofNat o) (Int32.ofNat a) (Int32.ofNat i) w μ = Md_othersNear_4 (Int32.ofNat o) (Int32.ofNat (a + if i ≠ o ∧ z (163 + 10 * i + z 4) ≠ 0 ∧ near z (z (56 + 7 * o + 3) - 1) (z (56 + 7 * i + 3) - 1) then 1 else 0)) (Int32.ofNat (i + 1)) w' μ := by
    intro i hi a w _
    have ht := hb.tun i (by omega) (z 4) (by omega)
    have e1 : Int32.ofNat i = Int32.ofNat o ↔ i = o := by rw [i3_eq (by omega) (by omega)]
    have e2 : pm (z (163 + 10 * i + z 4)) = -1 ↔ z (163 + 10 * i + z 4) = 0 := pm_none (by omega)
    rw [Md_othersNear_4_eq, m_h hz, m_h hz, if_neg (le_n hi (by omega)), m_tuneIn hz (by omega) (by omega), bI_r, i3_add0, i3_add1, i3_add1]
    by_cases h1 : i = o
    · rw [if_pos (e1.mpr h1), if_neg (fun q => q.1 h1)]
      exact ⟨_, rfl⟩
    · rw [if_neg (fun q => h1 (e1.mp q))]
      by_cases h2 : z (163 + 10 * i + z 4) = 0
      · rw [if_pos (e2.mpr h2), if_neg (fun q => q.2.1 h2)]
        exact ⟨_, rfl⟩
      · obtain ⟨b1, b2, b3⟩ := at_lt hb (show i < 5 by omega) (hpl i (by omega) _ (by omega) h2)
        rw [if_neg (fun q => h2 (e2.mp q)), m_cornerOf hz ho, bI_r, m_cornerOf hz (by omega), bI_r, a3, b3, m_areNear hz hb a1 b1, bI_r]
        by_cases h3 : near z (z (56 + 7 * o + 3) - 1) (z (56 + 7 * i + 3) - 1)
        · rw [if_pos h3, if_neg (by decide), if_pos ⟨h1, h2, h3⟩]
          exact ⟨_, rfl⟩
        · rw [if_neg h3, if_pos rfl, if_neg (fun q => h3 q.2.2)]
          exact ⟨_, rfl⟩
  obtain ⟨w', hw⟩ := loopW (fun i (a : Nat) w => Md_othersNear_4 (Int32.ofNat o) (Int32.ofNat a) i w μ) (z 1) (fun e a => a + if e ≠ o ∧ z (163 + 10 * e + z 4) ≠ 0 ∧ near z (z (56 + 7 * o + 3) - 1) (z (56 + 7 * e + 3) - 1) then 1 else 0) (fun _ _ => True) (fun _ _ _ _ => trivial) key (a := 0) trivial pU
  refine Eq.trans hw ?_
  show Md_othersNear_4 _ _ _ _ _ = _
  rw [Md_othersNear_4_eq, m_h hz, if_pos (le_y (Nat.le_refl _) (by omega))]
  rfl
def takN (z : Nat → Nat) (o others : Nat) : Nat :=
  let all := z (16 + 4 * (z (56 + 7 * o + 3) - 1) + 1) * (10 - 2 * others) / 10
  if z 5 = 1 then all / 2 else all
theorem m_takings {o k : Nat} (hz : mI μ 13 = zI z) (hb : Bd z) (ho : o < 5) (hat : z (56 + 7 * o + 3) ≠ 0) (hk : k < 20) : d_Md_takings (Int32.ofNat o) (Int32.ofNat k) μ = rI (Int32.ofNat (takN z o k)) μ := by
  obtain ⟨a1, a2, a3⟩ := at_lt hb ho hat
  have hc := (hb.cor _ a1).2.1
  have hw := hb.wt
  rw [e_Md_takings, m_cornerOf hz ho, bI_r, a3, m_corner0_1 hz a1, bI_r, m_h hz]
  have e2 : (2 : Int32) * Int32.ofNat k = Int32.ofNat (2 * k) := i3_mul 2 k
  have ew : Int32.ofNat (z 5) = 1 ↔ z 5 = 1 := by rw [show (1 : Int32) = Int32.ofNat 1 from rfl, i3_eq (by omega) (by decide)]
  rw [e2]
  unfold takN
  generalize hC : z (16 + 4 * (z (56 + 7 * o + 3) - 1) + 1) = C at hc ⊢
  have hb1 : C * (10 - 2 * k) ≤ 90 * 10 := Nat.mul_le_mul hc (by omega)
  have hb2 : C * (10 - 2 * k) / 10 ≤ 90 := by omega
  by_cases h : 2 * k ≤ 10
  · have e3 : (10 : Int32) - Int32.ofNat (2 * k) = Int32.ofNat (10 - 2 * k) := i3_sub (a := 10) h
    rw [e3, if_pos (show (0 : Int32) ≤ _ from le_y (a := 0) (Nat.zero_le _) (by omega)), i3_mul]
    have e4 : Int32.ofNat (C * (10 - 2 * k)) / 10 = Int32.ofNat (C * (10 - 2 * k) / 10) := i3_div (b := 10) (by omega) (by decide)
    have e5 : Int32.ofNat (C * (10 - 2 * k) / 10) / 2 = Int32.ofNat (C * (10 - 2 * k) / 10 / 2) := i3_div (b := 2) (by omega) (by decide)
    rw [e4, e5]
    by_cases h5 : z 5 = 1
    · rw [if_neg (fun q => q (ew.mpr h5)), if_pos h5]
    · rw [if_pos (fun q => h5 (ew.mp q)), if_neg h5]
  · have e3 : (10 : Int32) - Int32.ofNat (2 * k) = -(Int32.ofNat (2 * k - 10)) := i3_subn (a := 10) (by omega)
    rw [e3, if_neg (i3_neg_lt (by omega) (by omega))]
    have e0 : 10 - 2 * k = 0 := by omega
    have e4 : Int32.ofNat C * 0 / 10 = Int32.ofNat 0 := by rw [Int32.mul_zero]; rfl
    rw [e0, e4, Nat.mul_zero]
    by_cases h5 : z 5 = 1
    · rw [if_neg (fun q => q (ew.mpr h5)), if_pos h5]
      rfl
    · rw [if_pos (fun q => h5 (ew.mp q)), if_neg h5]
theorem i3_bitT {t : Nat} (h : t ≤ 10) (h0 : t ≠ 0) : (1 : Int32) <<< (pm t &&& 31) = Int32.ofNat (bitT t) := by
  have e : t = (t - 1) + 1 := by omega
  rw [e, pm_succ, i3_bit _ (by omega)]
  rfl
/-- the tunes that an organ played in n hours from k on -/
def tunN (z : Nat → Nat) (o k n b : Nat) : Nat := up n (fun i b => b ||| bitT (z (163 + 10 * o + (k + i)))) b
theorem tunN_succ {o k n b : Nat} : tunN z o k (n + 1) b = tunN z o (k + 1) n (b ||| bitT (z (163 + 10 * o + k))) := by
  unfold tunN
  induction n with
  | zero => rfl
  | succ n ih =>
    show up (n + 1) _ b ||| _ = up n _ _ ||| _
    rw [ih]
    have e : k + (n + 1) = k + 1 + n := by omega
    rw [e]
def heaS (z : Nat → Nat) (c : Nat) : Nat := up (z 1) (fun o b => if z (56 + 7 * o + 3) ≠ 0 ∧ near z c (z (56 + 7 * o + 3) - 1) then tunN z o (z 4 - z 12) (z 4 + 1 - (z 4 - z 12)) b else b) 0
theorem m_heard85 {x1 x3 : Int32} {o : Nat} (hz : mI μ 13 = zI z) (hb : Bd z) (ho : o < 5) : ∀ n k, k + n = z 4 + 1 → ∀ (b x5 : Nat), x5 ≤ 1 → Md_heardAt_85 x1 (Int32.ofNat b) x3 (Int32.ofNat o) (Int32.ofNat x5) (Int32.ofNat k) μ = Md_heardAt_40 x1 (Int32.ofNat (if x5 = 1 then tunN z o k n b else b)) x3 (Int32.ofNat (o + 1)) (.int (Int32.ofNat x5)) (.int (Int32.ofNat (z 4 + 1))) μ := by
  have hh := hb.hr
  intro n
  induction n with
  | zero =>
    intro k hk b x5 _
    have hk9 : k = z 4 + 1 := by omega
    subst hk9
    rw [Md_heardAt_85_eq, m_h hz, if_pos (lt_y (by omega) (by omega)), i3_add1]
    have e : (if x5 = 1 then tunN z o (z 4 + 1) 0 b else b) = b := by split <;> rfl
    rw [e]
  | succ n ih =>
    intro k hk b x5 h5
    have ht := hb.tun o ho k (by omega)
    rw [Md_heardAt_85_eq, m_h hz, if_neg (lt_n (by omega) (by omega)), i3_add1]
    have e0 : Int32.ofNat b ||| 0 = Int32.ofNat b := by
      rw [show (0 : Int32) = Int32.ofNat 0 from rfl, i3_or, Nat.or_zero]
    rw [e0]
    by_cases h : x5 = 1
    · subst h
      have e2 : pm (z (163 + 10 * o + k)) = -1 ↔ z (163 + 10 * o + k) = 0 := pm_none (by omega)
      rw [if_neg (by decide), m_tuneIn hz ho (by omega), bI_r, m_tuneIn hz ho (by omega), bI_r, if_pos rfl, tunN_succ]
      by_cases h2 : z (163 + 10 * o + k) = 0
      · have e3 : bitT (z (163 + 10 * o + k)) = 0 := by rw [h2]; rfl
        rw [if_pos (e2.mpr h2), ih (k + 1) (by omega) b 1 (Nat.le_refl _), if_pos rfl, e3, Nat.or_zero]
      · rw [if_neg (fun q => h2 (e2.mp q)), i3_bitT ht h2, i3_or, ih (k + 1) (by omega) _ 1 (Nat.le_refl _), if_pos rfl]
    · have h0 : x5 = 0 := by omega
      subst h0
      rw [if_pos (show Int32.ofNat 0 = 0 from rfl), ih (k + 1) (by omega) b 0 (Nat.zero_le _)]
      rfl
theorem m_heardAt {c : Nat} (hz : mI μ 13 = zI z) (hb : Bd z) (hc : c < 10) : d_Md_heardAt (Int32.ofNat c) μ = rI (Int32.ofNat (heaS z c)) μ := by
  have hh := hb.hr
  have h12 := hb.s1
  have hq := hb.no
  have hfrom : d_Md_heardAt (Int32.ofNat c) μ = Md_heardAt_40 (Int32.ofNat c) 0 (Int32.ofNat (z 4 - z 12)) 0 pU pU μ := by
    rw [e_Md_heardAt, m_h hz, m_h hz]
    by_cases h : z 4 ≤ z 12
    · rw [if_pos (le_y h (by omega))]
      have e : z 4 - z 12 = 0 := by omega
      rw [e]
      rfl
    · rw [if_neg (le_n (by omega) (by omega)), i3_sub (by omega)]
  rw [hfrom]
  have key : ∀ i, i < z 1 → ∀ (a : Nat) (w : Value × Value), True → ∃ w' : Value × Value, Md_heardAt_40 (Int32.ofNat c) (Int32.ofNat a) (Int32.ofNat (z 4 - z 12)) (Int32.ofNat i) w.1 w.2 μ = Md_heardAt_40 (Int32.ofNat c) (Int32.ofNat (if z (56 + 7 * i + 3) ≠ 0 ∧ near z c (z (56 + 7 * i + 3) - 1) then tunN z i (z 4 - z 12) (z 4 + 1 - (z 4 - z 12)) a else a)) (Int32.ofNat (z 4 - z 12)) (Int32.ofNat (i + 1)) w'.1 w'.2 μ := by
    intro i hi a w _
    have hbg := hb.big (56 + 7 * i + 3) (by omega)
    have e2 : pm (z (56 + 7 * i + 3)) = -1 ↔ z (56 + 7 * i + 3) = 0 := pm_none (by omega)
    have hin : ∀ x5, x5 ≤ 1 → _ := fun x5 h5 => m_heard85 (x1 := Int32.ofNat c) (x3 := Int32.ofNat (z 4 - z 12)) (o := i) hz hb (by omega) (z 4 + 1 - (z 4 - z 12)) (z 4 - z 12) (by omega) a x5 h5
    rw [Md_heardAt_40_eq, m_h hz, if_neg (le_n hi (by omega)), m_cornerOf hz (by omega), bI_r]
    by_cases h1 : z (56 + 7 * i + 3) = 0
    · rw [if_pos (e2.mpr h1), if_neg (fun q => q.1 h1)]
      exact ⟨(_, _), hin 0 (by decide)⟩
    · obtain ⟨a1, a2, a3⟩ := at_lt hb (show i < 5 by omega) h1
      rw [if_neg (fun q => h1 (e2.mp q)), m_cornerOf hz (by omega), bI_r, a3, m_areNear hz hb hc a1, bI_r]
      by_cases h3 : near z c (z (56 + 7 * i + 3) - 1)
      · rw [if_pos h3, if_neg (by decide), if_pos ⟨h1, h3⟩]
        exact ⟨(_, _), hin 1 (by decide)⟩
      · rw [if_neg h3, if_pos rfl, if_neg (fun q => h3 q.2)]
        exact ⟨(_, _), hin 0 (by decide)⟩
  obtain ⟨w', hw⟩ := loopW (fun i (a : Nat) (w : Value × Value) => Md_heardAt_40 (Int32.ofNat c) (Int32.ofNat a) (Int32.ofNat (z 4 - z 12)) i w.1 w.2 μ) (z 1) (fun i a => if z (56 + 7 * i + 3) ≠ 0 ∧ near z c (z (56 + 7 * i + 3) - 1) then tunN z i (z 4 - z 12) (z 4 + 1 - (z 4 - z 12)) a else a) (fun _ _ => True) (fun _ _ _ _ => trivial) key (a := 0) trivial (pU, pU)
  refine Eq.trans hw ?_
  show Md_heardAt_40 _ _ _ _ _ _ _ = _
  rw [Md_heardAt_40_eq, m_h hz, if_pos (le_y (Nat.le_refl _) (by omega))]
  rfl
theorem i3_shr {a : Nat} (ha : a < 2147483648) : ∀ t, t < 10 → Int32.ofNat a >>> (Int32.ofNat t &&& 31) = Int32.ofNat (a >>> t) := by
  intro t ht
  refine Int32.toBitVec_inj.mp ?_
  rw [Int32.toBitVec_shiftRight]
  have e : ∀ t, t < 10 → ((Int32.ofNat t &&& 31).toBitVec.smod 32).toNat = t := by decide +kernel
  show (BitVec.ofNat 32 a).sshiftRight ((Int32.ofNat t &&& 31).toBitVec.smod 32).toNat = BitVec.ofNat 32 (a >>> t)
  rw [e t ht, BitVec.sshiftRight_eq_of_msb_false]
  · refine BitVec.eq_of_toNat_eq ?_
    rw [BitVec.toNat_ushiftRight, BitVec.toNat_ofNat, BitVec.toNat_ofNat, Nat.mod_eq_of_lt (by omega)]
    have : a >>> t ≤ a := Nat.shiftRight_le a t
    rw [Nat.mod_eq_of_lt (by omega)]
  · rw [BitVec.msb_eq_decide, BitVec.toNat_ofNat]
    exact decide_eq_false (by omega)
theorem i3_hold {a t : Nat} (ha : a < 2147483648) (ht : t < 10) : (Int32.ofNat a >>> (Int32.ofNat t &&& 31)) &&& 1 = if a.testBit t then 1 else 0 := by
  rw [i3_shr ha t ht, show (1 : Int32) = Int32.ofNat 1 from rfl, i3_and, Nat.and_one_is_mod]
  have e : a.testBit t = decide ((a >>> t) % 2 = 1) := Nat.testBit_eq_decide_div_mod_eq.trans (by rw [Nat.shiftRight_eq_div_pow])
  rw [e]
  by_cases h : (a >>> t) % 2 = 1
  · rw [h]
    rfl
  · have h0 : (a >>> t) % 2 = 0 := by omega
    rw [h0]
    rfl
end MPURE2
