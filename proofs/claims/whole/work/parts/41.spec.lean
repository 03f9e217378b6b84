/-! SEMANTICS: the state as numbers, and what is read off it -/
section SPEC
def zI (z : Nat → Nat) : Nat → Int32 := fun k => Int32.ofNat (z k)
/-- a number kept one greater -/
def pm (a : Nat) : Int32 := Int32.ofNat a - 1
theorem pm_zero : pm 0 = -1 := by decide
theorem pm_succ (a : Nat) : pm (a + 1) = Int32.ofNat a := by
  unfold pm
  rw [← i3_add, show (Int32.ofNat 1) = 1 from rfl, Int32.add_sub_cancel]
theorem pm_lt {a : Nat} (h : a < 2147483648) : pm a < 0 ↔ a = 0 := by
  cases a with
  | zero => rw [pm_zero]; exact ⟨fun _ => rfl, fun _ => by decide⟩
  | succ a =>
    rw [pm_succ, show (0 : Int32) = Int32.ofNat 0 from rfl, i3_lt (by omega) (by decide)]
    omega
theorem pm_none {a : Nat} (h : a < 2147483648) : pm a = -1 ↔ a = 0 := by
  cases a with
  | zero => rw [pm_zero]; exact ⟨fun _ => rfl, fun _ => rfl⟩
  | succ a =>
    constructor
    · intro q
      have h1 := (pm_lt h).mpr
      rw [q] at h1
      have h2 := (pm_lt (a := a + 1) h).mp (by rw [q]; decide)
      exact h2
    · intro q; omega
theorem pm_eq {a o : Nat} (h : a < 2147483648) (ho : o < 2147483647) : pm a = Int32.ofNat o ↔ a = o + 1 := by
  cases a with
  | zero =>
    rw [pm_zero]
    constructor
    · intro q
      have h1 : Int32.ofNat o < 0 := by rw [← q]; decide
      rw [show (0 : Int32) = Int32.ofNat 0 from rfl, i3_lt (by omega) (by decide)] at h1
      omega
    · intro q; omega
  | succ a =>
    rw [pm_succ, i3_eq (by omega) (by omega)]
    omega
theorem pm_inj {a b : Nat} (h : a < 2147483648) (hb : b < 2147483648) : pm a = pm b ↔ a = b := by
  cases b with
  | zero => rw [pm_zero]; exact pm_none h
  | succ b => rw [pm_succ]; exact pm_eq h (by omega)
/-- what always holds of the state -/
def Bd (z : Nat → Nat) : Prop :=
  (z 0 ≤ 10) ∧
  (z 1 ≤ 5) ∧
  (z 2 ≤ 8) ∧
  (z 4 ≤ 9) ∧
  (z 5 ≤ 1) ∧
  (z 11 ≤ 99) ∧
  (z 12 ≤ 9) ∧
  (z 13 ≤ 50) ∧
  (z 14 ≤ 100) ∧
  (z 15 ≤ 50) ∧
  (∀ c, c < 10 → z (16 + 4 * c) ≤ 99 ∧ z (16 + 4 * c + 1) ≤ 90 ∧ z (16 + 4 * c + 2) ≤ 9 ∧ z (16 + 4 * c + 3) ≤ 9) ∧
  (∀ o, o < 5 → z (56 + 7 * o) ≤ 50 ∧ z (56 + 7 * o + 1) ≤ 1 ∧ z (56 + 7 * o + 2) ≤ 1023 ∧ z (56 + 7 * o + 3) ≤ z 0) ∧
  (∀ p, p < 8 → z (91 + 4 * p) ≤ z 1) ∧
  (∀ p, p < 8 → ∀ o, o < 5 → z (123 + 5 * p + o) ≤ 10) ∧
  (∀ o, o < 5 → ∀ h, h < 10 → z (163 + 10 * o + h) ≤ 10) ∧
  (∀ k, k < 213 → z k < 2147483648)
theorem Bd.nc {z : Nat → Nat} (h : Bd z) : z 0 ≤ 10 := h.1
theorem Bd.no {z : Nat → Nat} (h : Bd z) : z 1 ≤ 5 := h.2.1
theorem Bd.np {z : Nat → Nat} (h : Bd z) : z 2 ≤ 8 := h.2.2.1
theorem Bd.hr {z : Nat → Nat} (h : Bd z) : z 4 ≤ 9 := h.2.2.2.1
theorem Bd.wt {z : Nat → Nat} (h : Bd z) : z 5 ≤ 1 := h.2.2.2.2.1
theorem Bd.s0 {z : Nat → Nat} (h : Bd z) : z 11 ≤ 99 := h.2.2.2.2.2.1
theorem Bd.s1 {z : Nat → Nat} (h : Bd z) : z 12 ≤ 9 := h.2.2.2.2.2.2.1
theorem Bd.s2 {z : Nat → Nat} (h : Bd z) : z 13 ≤ 50 := h.2.2.2.2.2.2.2.1
theorem Bd.s3 {z : Nat → Nat} (h : Bd z) : z 14 ≤ 100 := h.2.2.2.2.2.2.2.2.1
theorem Bd.s4 {z : Nat → Nat} (h : Bd z) : z 15 ≤ 50 := h.2.2.2.2.2.2.2.2.2.1
theorem Bd.cor {z : Nat → Nat} (h : Bd z) : ∀ c, c < 10 → z (16 + 4 * c) ≤ 99 ∧ z (16 + 4 * c + 1) ≤ 90 ∧ z (16 + 4 * c + 2) ≤ 9 ∧ z (16 + 4 * c + 3) ≤ 9 := h.2.2.2.2.2.2.2.2.2.2.1
theorem Bd.org {z : Nat → Nat} (h : Bd z) : ∀ o, o < 5 → z (56 + 7 * o) ≤ 50 ∧ z (56 + 7 * o + 1) ≤ 1 ∧ z (56 + 7 * o + 2) ≤ 1023 ∧ z (56 + 7 * o + 3) ≤ z 0 := h.2.2.2.2.2.2.2.2.2.2.2.1
theorem Bd.crw {z : Nat → Nat} (h : Bd z) : ∀ p, p < 8 → z (91 + 4 * p) ≤ z 1 := h.2.2.2.2.2.2.2.2.2.2.2.2.1
theorem Bd.tim {z : Nat → Nat} (h : Bd z) : ∀ p, p < 8 → ∀ o, o < 5 → z (123 + 5 * p + o) ≤ 10 := h.2.2.2.2.2.2.2.2.2.2.2.2.2.1
theorem Bd.tun {z : Nat → Nat} (h : Bd z) : ∀ o, o < 5 → ∀ h, h < 10 → z (163 + 10 * o + h) ≤ 10 := h.2.2.2.2.2.2.2.2.2.2.2.2.2.2.1
theorem Bd.big {z : Nat → Nat} (h : Bd z) : ∀ k, k < 213 → z k < 2147483648 := h.2.2.2.2.2.2.2.2.2.2.2.2.2.2.2
variable {z : Nat → Nat} {μ : PM}
theorem m_corner0 {c w : Nat} (hz : mI μ 13 = zI z) (hc : c < 10) (hw : w < 4) : d_Md_corner0 (Int32.ofNat c) (Int32.ofNat w) μ = rI (Int32.ofNat (z (16 + 4 * c + w))) μ := by
  rw [e_Md_corner0]
  have e : (16 + 4 * Int32.ofNat c) + Int32.ofNat w = Int32.ofNat (16 + 4 * c + w) := by
    rw [show (16 : Int32) = Int32.ofNat 16 from rfl, show (4 : Int32) = Int32.ofNat 4 from rfl, i3_mul, i3_add, i3_add]
  rw [e, chk_t (i3_inb (by omega) (by decide)), i3_nat (by omega), hz]
  rfl
theorem m_organ0 {o w : Nat} (hz : mI μ 13 = zI z) (ho : o < 5) (hw : w < 7) : d_Md_organ0 (Int32.ofNat o) (Int32.ofNat w) μ = rI (Int32.ofNat (z (56 + 7 * o + w))) μ := by
  rw [e_Md_organ0]
  have e : (56 + 7 * Int32.ofNat o) + Int32.ofNat w = Int32.ofNat (56 + 7 * o + w) := by
    rw [show (56 : Int32) = Int32.ofNat 56 from rfl, show (7 : Int32) = Int32.ofNat 7 from rfl, i3_mul, i3_add, i3_add]
  rw [e, chk_t (i3_inb (by omega) (by decide)), i3_nat (by omega), hz]
  rfl
theorem m_player0 {p w : Nat} (hz : mI μ 13 = zI z) (hp : p < 8) (hw : w < 4) : d_Md_player0 (Int32.ofNat p) (Int32.ofNat w) μ = rI (Int32.ofNat (z (91 + 4 * p + w))) μ := by
  rw [e_Md_player0]
  have e : (91 + 4 * Int32.ofNat p) + Int32.ofNat w = Int32.ofNat (91 + 4 * p + w) := by
    rw [show (91 : Int32) = Int32.ofNat 91 from rfl, show (4 : Int32) = Int32.ofNat 4 from rfl, i3_mul, i3_add, i3_add]
  rw [e, chk_t (i3_inb (by omega) (by decide)), i3_nat (by omega), hz]
  rfl
theorem m_corner0_0 {k : Nat} (hz : mI μ 13 = zI z) (hk : k < 10) : d_Md_corner0 (Int32.ofNat k) 0 μ = rI (Int32.ofNat (z (16 + 4 * k))) μ := m_corner0 (w := 0) hz hk (by decide)
theorem m_corner0_1 {k : Nat} (hz : mI μ 13 = zI z) (hk : k < 10) : d_Md_corner0 (Int32.ofNat k) 1 μ = rI (Int32.ofNat (z (16 + 4 * k + 1))) μ := m_corner0 (w := 1) hz hk (by decide)
theorem m_corner0_2 {k : Nat} (hz : mI μ 13 = zI z) (hk : k < 10) : d_Md_corner0 (Int32.ofNat k) 2 μ = rI (Int32.ofNat (z (16 + 4 * k + 2))) μ := m_corner0 (w := 2) hz hk (by decide)
theorem m_corner0_3 {k : Nat} (hz : mI μ 13 = zI z) (hk : k < 10) : d_Md_corner0 (Int32.ofNat k) 3 μ = rI (Int32.ofNat (z (16 + 4 * k + 3))) μ := m_corner0 (w := 3) hz hk (by decide)
theorem m_organ0_0 {k : Nat} (hz : mI μ 13 = zI z) (hk : k < 5) : d_Md_organ0 (Int32.ofNat k) 0 μ = rI (Int32.ofNat (z (56 + 7 * k))) μ := m_organ0 (w := 0) hz hk (by decide)
theorem m_organ0_1 {k : Nat} (hz : mI μ 13 = zI z) (hk : k < 5) : d_Md_organ0 (Int32.ofNat k) 1 μ = rI (Int32.ofNat (z (56 + 7 * k + 1))) μ := m_organ0 (w := 1) hz hk (by decide)
theorem m_organ0_2 {k : Nat} (hz : mI μ 13 = zI z) (hk : k < 5) : d_Md_organ0 (Int32.ofNat k) 2 μ = rI (Int32.ofNat (z (56 + 7 * k + 2))) μ := m_organ0 (w := 2) hz hk (by decide)
theorem m_organ0_3 {k : Nat} (hz : mI μ 13 = zI z) (hk : k < 5) : d_Md_organ0 (Int32.ofNat k) 3 μ = rI (Int32.ofNat (z (56 + 7 * k + 3))) μ := m_organ0 (w := 3) hz hk (by decide)
theorem m_organ0_4 {k : Nat} (hz : mI μ 13 = zI z) (hk : k < 5) : d_Md_organ0 (Int32.ofNat k) 4 μ = rI (Int32.ofNat (z (56 + 7 * k + 4))) μ := m_organ0 (w := 4) hz hk (by decide)
theorem m_organ0_5 {k : Nat} (hz : mI μ 13 = zI z) (hk : k < 5) : d_Md_organ0 (Int32.ofNat k) 5 μ = rI (Int32.ofNat (z (56 + 7 * k + 5))) μ := m_organ0 (w := 5) hz hk (by decide)
theorem m_organ0_6 {k : Nat} (hz : mI μ 13 = zI z) (hk : k < 5) : d_Md_organ0 (Int32.ofNat k) 6 μ = rI (Int32.ofNat (z (56 + 7 * k + 6))) μ := m_organ0 (w := 6) hz hk (by decide)
theorem m_player0_0 {k : Nat} (hz : mI μ 13 = zI z) (hk : k < 8) : d_Md_player0 (Int32.ofNat k) 0 μ = rI (Int32.ofNat (z (91 + 4 * k))) μ := m_player0 (w := 0) hz hk (by decide)
theorem m_player0_1 {k : Nat} (hz : mI μ 13 = zI z) (hk : k < 8) : d_Md_player0 (Int32.ofNat k) 1 μ = rI (Int32.ofNat (z (91 + 4 * k + 1))) μ := m_player0 (w := 1) hz hk (by decide)
theorem m_player0_2 {k : Nat} (hz : mI μ 13 = zI z) (hk : k < 8) : d_Md_player0 (Int32.ofNat k) 2 μ = rI (Int32.ofNat (z (91 + 4 * k + 2))) μ := m_player0 (w := 2) hz hk (by decide)
theorem m_player0_3 {k : Nat} (hz : mI μ 13 = zI z) (hk : k < 8) : d_Md_player0 (Int32.ofNat k) 3 μ = rI (Int32.ofNat (z (91 + 4 * k + 3))) μ := m_player0 (w := 3) hz hk (by decide)
theorem m_timeAt {p o : Nat} (hz : mI μ 13 = zI z) (hp : p < 8) (ho : o < 5) : d_Md_timeAt (Int32.ofNat p) (Int32.ofNat o) μ = rI (Int32.ofNat (z (123 + 5 * p + o))) μ := by
  rw [e_Md_timeAt]
  have e : (123 + 5 * Int32.ofNat p) + Int32.ofNat o = Int32.ofNat (123 + 5 * p + o) := by
    rw [show (123 : Int32) = Int32.ofNat 123 from rfl, show (5 : Int32) = Int32.ofNat 5 from rfl, i3_mul, i3_add, i3_add]
  rw [e, chk_t (i3_inb (by omega) (by decide)), i3_nat (by omega), hz]
  rfl
theorem m_tuneIn {o h : Nat} (hz : mI μ 13 = zI z) (ho : o < 5) (hh : h < 10) : d_Md_tuneIn (Int32.ofNat o) (Int32.ofNat h) μ = rI (pm (z (163 + 10 * o + h))) μ := by
  rw [e_Md_tuneIn]
  have e : (163 + 10 * Int32.ofNat o) + Int32.ofNat h = Int32.ofNat (163 + 10 * o + h) := by
    rw [show (163 : Int32) = Int32.ofNat 163 from rfl, show (10 : Int32) = Int32.ofNat 10 from rfl, i3_mul, i3_add, i3_add]
  rw [e, chk_t (i3_inb (by omega) (by decide)), i3_nat (by omega), hz]
  rfl
theorem m_cornerOf {o : Nat} (hz : mI μ 13 = zI z) (ho : o < 5) : d_Md_cornerOf (Int32.ofNat o) μ = rI (pm (z (56 + 7 * o + 3))) μ := by
  rw [e_Md_cornerOf, m_organ0_3 hz ho, bI_r]
  rfl
def sum (n : Nat) (f : Nat → Nat) : Nat := up n (fun i a => a + f i) 0
/-- a loop that adds -/
theorem loopS {β : Type} (L : Int32 → Int32 → β → Option PO) (n : Nat) (f : Nat → Nat) (b : β) (hs : ∀ i, i < n → ∀ a : Nat, L (Int32.ofNat i) (Int32.ofNat a) b = L (Int32.ofNat (i + 1)) (Int32.ofNat (a + f i)) b) : L 0 0 b = L (Int32.ofNat n) (Int32.ofNat (sum n f)) b :=
  loopI (fun i (a : Nat) => L i (Int32.ofNat a) b) n (fun i a => a + f i) (fun i hi a => hs i hi a) (a := 0)
def crew (z : Nat → Nat) (o : Nat) : Nat := sum (z 2) (fun p => if z (91 + 4 * p) = o + 1 then 1 else 0)
theorem m_crewOf {o : Nat} (hz : mI μ 13 = zI z) (hb : Bd z) (ho : o < 5) : d_Md_crewOf (Int32.ofNat o) μ = rI (Int32.ofNat (crew z o)) μ := by
  have h2 : mI μ 13 2 = Int32.ofNat (z 2) := by rw [hz]; rfl
  have hp := hb.np
  rw [e_Md_crewOf]
  refine (loopS (fun i a (_ : Unit) => Md_crewOf_4 (Int32.ofNat o) a i μ) (z 2) (fun p => if z (91 + 4 * p) = o + 1 then 1 else 0) () (fun i hi a => ?_)).trans ?_
  · have hi8 : i < 8 := by omega
    have hc := hb.big (91 + 4 * i) (by omega)
    show Md_crewOf_4 _ _ _ _ = Md_crewOf_4 _ _ _ _
    rw [Md_crewOf_4_eq, h2, if_neg (le_n hi (by omega)), m_player0_0 hz hi8, bI_r, i3_add0, i3_add1, i3_add1]
    have e : (Int32.ofNat (z (91 + 4 * i)) - 1 = Int32.ofNat o) ↔ z (91 + 4 * i) = o + 1 := pm_eq (by omega) (by omega)
    by_cases h : z (91 + 4 * i) = o + 1
    · rw [if_neg (fun q => q (e.mpr h)), if_pos h]
    · rw [if_pos (fun q => h (e.mp q)), if_neg h]
      rfl
  · show Md_crewOf_4 _ _ _ _ = _
    rw [Md_crewOf_4_eq, h2, if_pos (le_y (Nat.le_refl _) (by omega))]
    rfl
theorem m_h (hz : mI μ 13 = zI z) (k : Nat) : mI μ 13 k = Int32.ofNat (z k) := by rw [hz]; rfl
def permS (z : Nat → Nat) : Nat := sum (z 1) (fun o => z (56 + 7 * o + 1))
theorem m_permits (hz : mI μ 13 = zI z) (hb : Bd z) : d_Md_permits μ = rI (Int32.ofNat (permS z)) μ := by
  have hp := hb.no
  rw [e_Md_permits]
  refine (loopS (fun i a (_ : Unit) => Md_permits_4 a i μ) (z 1) (fun o => z (56 + 7 * o + 1)) () (fun i hi a => ?_)).trans ?_
  · show Md_permits_4 _ _ _ = Md_permits_4 _ _ _
    rw [Md_permits_4_eq, m_h hz, if_neg (le_n hi (by omega)), m_organ0_1 hz (by omega), bI_r, i3_add, i3_add1]
  · show Md_permits_4 _ _ _ = _
    rw [Md_permits_4_eq, m_h hz, if_pos (le_y (Nat.le_refl _) (by omega))]
    rfl
def orgS (z : Nat → Nat) (w : Nat) : Nat := sum (z 1) (fun o => z (56 + 7 * o + w))
theorem m_ofOrgans {w : Nat} (hz : mI μ 13 = zI z) (hb : Bd z) (hw : w < 7) : d_Md_ofOrgans (Int32.ofNat w) μ = rI (Int32.ofNat (orgS z w)) μ := by
  have hp := hb.no
  rw [e_Md_ofOrgans]
  refine (loopS (fun i a (_ : Unit) => Md_ofOrgans_4 (Int32.ofNat w) a i μ) (z 1) (fun o => z (56 + 7 * o + w)) () (fun i hi a => ?_)).trans ?_
  · show Md_ofOrgans_4 _ _ _ _ = Md_ofOrgans_4 _ _ _ _
    rw [Md_ofOrgans_4_eq, m_h hz, if_neg (le_n hi (by omega)), m_organ0 hz (by omega) hw, bI_r, i3_add, i3_add1]
  · show Md_ofOrgans_4 _ _ _ _ = _
    rw [Md_ofOrgans_4_eq, m_h hz, if_pos (le_y (Nat.le_refl _) (by omega))]
    rfl
def gotS (z : Nat → Nat) : Nat := sum (z 2) (fun p => z (91 + 4 * p + 1))
theorem m_playersGot (hz : mI μ 13 = zI z) (hb : Bd z) : d_Md_playersGot μ = rI (Int32.ofNat (gotS z)) μ := by
  have hp := hb.np
  rw [e_Md_playersGot]
  refine (loopS (fun i a (_ : Unit) => Md_playersGot_4 a i μ) (z 2) (fun p => z (91 + 4 * p + 1)) () (fun i hi a => ?_)).trans ?_
  · show Md_playersGot_4 _ _ _ = Md_playersGot_4 _ _ _
    rw [Md_playersGot_4_eq, m_h hz, if_neg (le_n hi (by omega)), m_player0_1 hz (by omega), bI_r, i3_add, i3_add1]
  · show Md_playersGot_4 _ _ _ = _
    rw [Md_playersGot_4_eq, m_h hz, if_pos (le_y (Nat.le_refl _) (by omega))]
    rfl
def timS (z : Nat → Nat) (p : Nat) : Nat := sum 5 (fun o => z (123 + 5 * p + o))
theorem m_timeToday {p : Nat} (hz : mI μ 13 = zI z) (hp : p < 8) : d_Md_timeToday (Int32.ofNat p) μ = rI (Int32.ofNat (timS z p)) μ := by
  rw [e_Md_timeToday]
  refine (loopS (fun i a (_ : Unit) => Md_timeToday_4 (Int32.ofNat p) a i μ) 5 (fun o => z (123 + 5 * p + o)) () (fun i hi a => ?_)).trans ?_
  · show Md_timeToday_4 _ _ _ _ = Md_timeToday_4 _ _ _ _
    rw [Md_timeToday_4_eq, if_neg (show ¬ (5 : Int32) ≤ Int32.ofNat i from le_n (a := 5) hi (by decide)), m_timeAt hz hp hi, bI_r, i3_add, i3_add1]
  · show Md_timeToday_4 _ _ _ _ = _
    rw [Md_timeToday_4_eq, if_pos (show (5 : Int32) ≤ Int32.ofNat 5 from by decide)]
    rfl
def plyS (z : Nat → Nat) : Nat := sum 50 (fun k => if z (163 + k) = 0 then 0 else 1)
theorem m_playedToday (hz : mI μ 13 = zI z) (hb : Bd z) : d_Md_playedToday μ = rI (Int32.ofNat (plyS z)) μ := by
  rw [e_Md_playedToday]
  refine (loopS (fun i a (_ : Unit) => Md_playedToday_6 a (Int32.ofNat 163 + i) μ) 50 (fun k => if z (163 + k) = 0 then 0 else 1) () (fun i hi a => ?_)).trans ?_
  · show Md_playedToday_6 _ (Int32.ofNat 163 + Int32.ofNat i) _ = Md_playedToday_6 _ (Int32.ofNat 163 + Int32.ofNat (i + 1)) _
    have hbg := hb.big (163 + i) (by omega)
    rw [i3_add, i3_add, Md_playedToday_6_eq, if_neg (show ¬ (213 : Int32) ≤ Int32.ofNat (163 + i) from le_n (a := 213) (by omega) (by decide)), chk_t (i3_inb (by omega) (by decide)), i3_nat (by omega), m_h hz, i3_add1, i3_add1, i3_add0]
    have e : (Int32.ofNat (z (163 + i)) = 0) = (z (163 + i) = 0) := i3_eq (b := 0) (by omega) (by decide)
    by_cases h : z (163 + i) = 0
    · rw [if_neg (fun q => q (e ▸ h)), if_pos h]
      rfl
    · rw [if_pos (fun q => h (e ▸ q)), if_neg h]
      rfl
  · show Md_playedToday_6 _ (Int32.ofNat 163 + Int32.ofNat 50) _ = _
    rw [Md_playedToday_6_eq, if_pos (by decide)]
    rfl
theorem m_within {a b c : Int32} : d_Md_within a b c μ = rI (if a < b ∨ c < a then 0 else 1) μ := by
  rw [e_Md_within]
  by_cases h1 : a < b
  · rw [if_pos h1, if_pos (Or.inl h1)]
  · by_cases h2 : c < a
    · rw [if_neg h1, if_pos h2, if_pos (Or.inr h2)]
    · rw [if_neg h1, if_neg h2, if_neg (fun q => q.elim h1 h2)]
end SPEC
