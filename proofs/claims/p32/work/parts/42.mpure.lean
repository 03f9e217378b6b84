/-! SEMANTICS: the model's answers -/
section MPURE
theorem i3_sub {a b : Nat} (h : b ≤ a) : Int32.ofNat a - Int32.ofNat b = Int32.ofNat (a - b) := by
  have e : Int32.ofNat a = Int32.ofNat (a - b) + Int32.ofNat b := by rw [i3_add]; congr 1; omega
  rw [e, Int32.add_sub_cancel]
theorem i3_subn {a b : Nat} (h : a ≤ b) : Int32.ofNat a - Int32.ofNat b = -(Int32.ofNat (b - a)) := by
  rw [← i3_sub h, Int32.neg_sub]
theorem i3_negs {k : Nat} (h : k < 2147483648) : (Int32.ofNat k).toInt = k := Int32.toInt_ofNat_of_lt h
theorem i3_neg_lt {k : Nat} (h0 : 0 < k) (h : k < 2147483648) : ¬ (0 : Int32) ≤ -(Int32.ofNat k) := by
  rw [Int32.le_iff_toInt_le, Int32.toInt_neg, i3_negs h]
  have e0 : (0 : Int32).toInt = 0 := rfl
  rw [e0]
  have : (-(k : Int)).bmod (2 ^ 32) = -(k : Int) := by
    rw [Int.bmod_def]
    omega
  rw [this]
  omega
theorem i3_subadd {a b k : Nat} (h : b ≤ a + k) : Int32.ofNat a - Int32.ofNat b + Int32.ofNat k = Int32.ofNat (a + k - b) := by
  rw [Int32.sub_eq_add_neg, Int32.add_assoc, Int32.add_comm (-(Int32.ofNat b)), ← Int32.add_assoc, ← Int32.sub_eq_add_neg, i3_add, i3_sub h]
theorem i3_div {a b : Nat} (ha : a < 2147483648) (hb : b < 2147483648) : Int32.ofNat a / Int32.ofNat b = Int32.ofNat (a / b) := by
  have h1 : a / b ≤ a := Nat.div_le_self a b
  refine Int32.toInt_inj.mp ?_
  rw [Int32.toInt_div, i3_negs ha, i3_negs hb, i3_negs (by omega), ← Int.ofNat_tdiv, Int.bmod_def]
  generalize a / b = q at h1 ⊢
  have e : (q : Int) % ((2 ^ 32 : Nat) : Int) = (q : Int) := by omega
  rw [e, if_pos (by omega)]
theorem i3_rem {a b : Nat} (ha : a < 2147483648) (hb : b < 2147483648) : Int32.ofNat a - Int32.ofNat a / Int32.ofNat b * Int32.ofNat b = Int32.ofNat (a % b) := by
  rw [i3_div ha hb, i3_mul, i3_sub (Nat.div_mul_le_self a b)]
  congr 1
  have := Nat.div_add_mod a b
  rw [Nat.mul_comm] at this
  omega
variable {z : Nat → Nat} {μ : PM}
abbrev isQ (z : Nat → Nat) (c : Nat) : Prop := (z 4 + 10 - z (16 + 4 * c + 2)) % 10 < z (16 + 4 * c + 3)
abbrev near (z : Nat → Nat) (c d : Nat) : Prop := (z (16 + 4 * c) - z (16 + 4 * d)) + (z (16 + 4 * d) - z (16 + 4 * c)) ≤ z 11
/-- the corner of an organ that has one -/
theorem at_lt {o : Nat} (hb : Bd z) (ho : o < 5) (h : z (56 + 7 * o + 3) ≠ 0) : z (56 + 7 * o + 3) - 1 < 10 ∧ z (56 + 7 * o + 3) - 1 < z 0 ∧ pm (z (56 + 7 * o + 3)) = Int32.ofNat (z (56 + 7 * o + 3) - 1) := by
  have h1 := (hb.org o ho).2.2.2
  have h2 := hb.nc
  refine ⟨by omega, by omega, ?_⟩
  have e : z (56 + 7 * o + 3) = (z (56 + 7 * o + 3) - 1) + 1 := by omega
  rw [e, pm_succ]
  rfl
/-- which organ has a corner, one greater; 0: none -/
def whoP (z : Nat → Nat) (c : Nat) : Nat → Nat
  | 0 => 0
  | n + 1 => let r := whoP z c n
    if r ≠ 0 then r else if z (56 + 7 * n + 3) = c + 1 then n + 1 else 0
theorem whoP_le {c : Nat} : ∀ n, whoP z c n ≤ n := by
  intro n
  induction n with
  | zero => exact Nat.le_refl _
  | succ n ih =>
    show (if whoP z c n ≠ 0 then whoP z c n else if z (56 + 7 * n + 3) = c + 1 then n + 1 else 0) ≤ n + 1
    split
    · omega
    · split <;> omega
def freeS (z : Nat → Nat) (n : Nat) : Nat := sum n (fun c => if whoP z c (z 1) = 0 then 1 else 0)
def withS (z : Nat → Nat) (n : Nat) : Nat := sum n (fun o => if z (56 + 7 * o + 3) = 0 then 0 else 1)
end MPURE
