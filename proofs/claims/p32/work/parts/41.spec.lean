/-! SEMANTICS: the state as numbers, and what is read off it -/
section SPEC
def zI (z : Nat → Nat) : Nat → Int32 := fun k => Int32.ofNat (z k)
/-- a number kept one greater -/
def pm (a : Nat) : Int32 := Int32.ofNat a - 1
theorem pm_zero : pm 0 = -1 := by decide
theorem pm_succ (a : Nat) : pm (a + 1) = Int32.ofNat a := by
  unfold pm
  rw [← i3_add, show (Int32.ofNat 1) = 1 from rfl, Int32.add_sub_cancel]
theorem pm_lt {a : Nat} (h : a < 2147483648) : pm a < 0 ↔ a = 0 := by
  cases a with
  | zero => rw [pm_zero]; exact ⟨fun _ => rfl, fun _ => by decide⟩
  | succ a =>
    rw [pm_succ, show (0 : Int32) = Int32.ofNat 0 from rfl, i3_lt (by omega) (by decide)]
    omega
theorem pm_none {a : Nat} (h : a < 2147483648) : pm a = -1 ↔ a = 0 := by
  cases a with
  | zero => rw [pm_zero]; exact ⟨fun _ => rfl, fun _ => rfl⟩
  | succ a =>
    constructor
    · intro q
      have h1 := (pm_lt h).mpr
      rw [q] at h1
      have h2 := (pm_lt (a := a + 1) h).mp (by rw [q]; decide)
      exact h2
    · intro q; omega
theorem pm_eq {a o : Nat} (h : a < 2147483648) (ho : o < 2147483647) : pm a = Int32.ofNat o ↔ a = o + 1 := by
  cases a with
  | zero =>
    rw [pm_zero]
    constructor
    · intro q
      have h1 : Int32.ofNat o < 0 := by rw [← q]; decide
      rw [show (0 : Int32) = Int32.ofNat 0 from rfl, i3_lt (by omega) (by decide)] at h1
      omega
    · intro q; omega
  | succ a =>
    rw [pm_succ, i3_eq (by omega) (by omega)]
    omega
theorem pm_inj {a b : Nat} (h : a < 2147483648) (hb : b < 2147483648) : pm a = pm b ↔ a = b := by
  cases b with
  | zero => rw [pm_zero]; exact pm_none h
  | succ b => rw [pm_succ]; exact pm_eq h (by omega)
/-- what always holds of the state -/
def Bd (z : Nat → Nat) : Prop :=
  (z 0 ≤ 10) ∧
  (z 1 ≤ 5) ∧
  (z 2 ≤ 8) ∧
  (z 4 ≤ 9) ∧
  (z 5 ≤ 1) ∧
  (z 11 ≤ 99) ∧
  (z 12 ≤ 9) ∧
  (z 13 ≤ 50) ∧
  (z 14 ≤ 100) ∧
  (z 15 ≤ 50) ∧
  (∀ c, c < 10 → z (16 + 4 * c) ≤ 99 ∧ z (16 + 4 * c + 1) ≤ 90 ∧ z (16 + 4 * c + 2) ≤ 9 ∧ z (16 + 4 * c + 3) ≤ 9) ∧
  (∀ o, o < 5 → z (56 + 7 * o) ≤ 50 ∧ z (56 + 7 * o + 1) ≤ 1 ∧ z (56 + 7 * o + 2) ≤ 1023 ∧ z (56 + 7 * o + 3) ≤ z 0) ∧
  (∀ p, p < 8 → z (91 + 4 * p) ≤ z 1) ∧
  (∀ p, p < 8 → ∀ o, o < 5 → z (123 + 5 * p + o) ≤ 10) ∧
  (∀ o, o < 5 → ∀ h, h < 10 → z (163 + 10 * o + h) ≤ 10) ∧
  (∀ k, k < 213 → z k < 2147483648)
theorem Bd.nc {z : Nat → Nat} (h : Bd z) : z 0 ≤ 10 := h.1
theorem Bd.no {z : Nat → Nat} (h : Bd z) : z 1 ≤ 5 := h.2.1
theorem Bd.np {z : Nat → Nat} (h : Bd z) : z 2 ≤ 8 := h.2.2.1
theorem Bd.hr {z : Nat → Nat} (h : Bd z) : z 4 ≤ 9 := h.2.2.2.1
theorem Bd.wt {z : Nat → Nat} (h : Bd z) : z 5 ≤ 1 := h.2.2.2.2.1
theorem Bd.s0 {z : Nat → Nat} (h : Bd z) : z 11 ≤ 99 := h.2.2.2.2.2.1
theorem Bd.s1 {z : Nat → Nat} (h : Bd z) : z 12 ≤ 9 := h.2.2.2.2.2.2.1
theorem Bd.s2 {z : Nat → Nat} (h : Bd z) : z 13 ≤ 50 := h.2.2.2.2.2.2.2.1
theorem Bd.s3 {z : Nat → Nat} (h : Bd z) : z 14 ≤ 100 := h.2.2.2.2.2.2.2.2.1
theorem Bd.s4 {z : Nat → Nat} (h : Bd z) : z 15 ≤ 50 := h.2.2.2.2.2.2.2.2.2.1
theorem Bd.cor {z : Nat → Nat} (h : Bd z) : ∀ c, c < 10 → z (16 + 4 * c) ≤ 99 ∧ z (16 + 4 * c + 1) ≤ 90 ∧ z (16 + 4 * c + 2) ≤ 9 ∧ z (16 + 4 * c + 3) ≤ 9 := h.2.2.2.2.2.2.2.2.2.2.1
theorem Bd.org {z : Nat → Nat} (h : Bd z) : ∀ o, o < 5 → z (56 + 7 * o) ≤ 50 ∧ z (56 + 7 * o + 1) ≤ 1 ∧ z (56 + 7 * o + 2) ≤ 1023 ∧ z (56 + 7 * o + 3) ≤ z 0 := h.2.2.2.2.2.2.2.2.2.2.2.1
theorem Bd.crw {z : Nat → Nat} (h : Bd z) : ∀ p, p < 8 → z (91 + 4 * p) ≤ z 1 := h.2.2.2.2.2.2.2.2.2.2.2.2.1
theorem Bd.tim {z : Nat → Nat} (h : Bd z) : ∀ p, p < 8 → ∀ o, o < 5 → z (123 + 5 * p + o) ≤ 10 := h.2.2.2.2.2.2.2.2.2.2.2.2.2.1
theorem Bd.tun {z : Nat → Nat} (h : Bd z) : ∀ o, o < 5 → ∀ h, h < 10 → z (163 + 10 * o + h) ≤ 10 := h.2.2.2.2.2.2.2.2.2.2.2.2.2.2.1
theorem Bd.big {z : Nat → Nat} (h : Bd z) : ∀ k, k < 213 → z k < 2147483648 := h.2.2.2.2.2.2.2.2.2.2.2.2.2.2.2
variable {z : Nat → Nat} {μ : PM}
def sum (n : Nat) (f : Nat → Nat) : Nat := up n (fun i a => a + f i) 0
/-- a loop that adds -/
theorem loopS {β : Type} (L : Int32 → Int32 → β → Option PO) (n : Nat) (f : Nat → Nat) (b : β) (hs : ∀ i, i < n → ∀ a : Nat, L (Int32.ofNat i) (Int32.ofNat a) b = L (Int32.ofNat (i + 1)) (Int32.ofNat (a + f i)) b) : L 0 0 b = L (Int32.ofNat n) (Int32.ofNat (sum n f)) b :=
  loopI (fun i (a : Nat) => L i (Int32.ofNat a) b) n (fun i a => a + f i) (fun i hi a => hs i hi a) (a := 0)
def crew (z : Nat → Nat) (o : Nat) : Nat := sum (z 2) (fun p => if z (91 + 4 * p) = o + 1 then 1 else 0)
theorem m_h (hz : mI μ 13 = zI z) (k : Nat) : mI μ 13 k = Int32.ofNat (z k) := by rw [hz]; rfl
def permS (z : Nat → Nat) : Nat := sum (z 1) (fun o => z (56 + 7 * o + 1))
def orgS (z : Nat → Nat) (w : Nat) : Nat := sum (z 1) (fun o => z (56 + 7 * o + w))
def gotS (z : Nat → Nat) : Nat := sum (z 2) (fun p => z (91 + 4 * p + 1))
def timS (z : Nat → Nat) (p : Nat) : Nat := sum 5 (fun o => z (123 + 5 * p + o))
def plyS (z : Nat → Nat) : Nat := sum 50 (fun k => if z (163 + k) = 0 then 0 else 1)
end SPEC
