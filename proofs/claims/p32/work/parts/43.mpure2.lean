/-! SEMANTICS: the model's answers, with bits -/
section MPURE2
theorem i3_or (a b : Nat) : Int32.ofNat a ||| Int32.ofNat b = Int32.ofNat (a ||| b) := by
  refine Int32.toBitVec_inj.mp ?_
  rw [Int32.toBitVec_or]
  show BitVec.ofNat 32 a ||| BitVec.ofNat 32 b = BitVec.ofNat 32 (a ||| b)
  exact (BitVec.ofNat_or).symm
theorem i3_and (a b : Nat) : Int32.ofNat a &&& Int32.ofNat b = Int32.ofNat (a &&& b) := by
  refine Int32.toBitVec_inj.mp ?_
  rw [Int32.toBitVec_and]
  show BitVec.ofNat 32 a &&& BitVec.ofNat 32 b = BitVec.ofNat 32 (a &&& b)
  exact (BitVec.ofNat_and).symm
theorem i3_bit : ∀ t, t < 10 → (1 : Int32) <<< (Int32.ofNat t &&& 31) = Int32.ofNat (1 <<< t) := by decide +kernel
def bitT (t : Nat) : Nat := if t = 0 then 0 else 1 <<< (t - 1)
/-- a loop with values that nobody reads -/
theorem loopW {β ω γ : Type} (L : Int32 → β → ω → γ) (n : Nat) (f : Nat → β → β) (P : Nat → β → Prop) (hP : ∀ i, i < n → ∀ x, P i x → P (i + 1) (f i x)) (hs : ∀ i, i < n → ∀ x w, P i x → ∃ w', L (Int32.ofNat i) x w = L (Int32.ofNat (i + 1)) (f i x) w') {a : β} (h0 : P 0 a) (w : ω) : ∃ w', L 0 a w = L (Int32.ofNat n) (up n f a) w' := by
  have key : ∀ m, m ≤ n → P m (up m f a) ∧ ∃ w', L 0 a w = L (Int32.ofNat m) (up m f a) w' := by
    intro m
    induction m with
    | zero => intro _; exact ⟨h0, w, rfl⟩
    | succ m ih =>
      intro hm
      obtain ⟨h1, w1, h2⟩ := ih (by omega)
      obtain ⟨w2, h3⟩ := hs m (by omega) _ w1 h1
      exact ⟨hP m (by omega) _ h1, w2, h2.trans h3⟩
  exact (key n (Nat.le_refl n)).2
variable {z : Nat → Nat} {μ : PM}
/-- an organ that has played today has a corner -/
def Pl (z : Nat → Nat) : Prop := ∀ o, o < 5 → ∀ h, h < 10 → z (163 + 10 * o + h) ≠ 0 → z (56 + 7 * o + 3) ≠ 0
def othN (z : Nat → Nat) (o : Nat) : Nat := sum (z 1) (fun e => if e ≠ o ∧ z (163 + 10 * e + z 4) ≠ 0 ∧ near z (z (56 + 7 * o + 3) - 1) (z (56 + 7 * e + 3) - 1) then 1 else 0)
def takN (z : Nat → Nat) (o others : Nat) : Nat :=
  let all := z (16 + 4 * (z (56 + 7 * o + 3) - 1) + 1) * (10 - 2 * others) / 10
  if z 5 = 1 then all / 2 else all
theorem i3_bitT {t : Nat} (h : t ≤ 10) (h0 : t ≠ 0) : (1 : Int32) <<< (pm t &&& 31) = Int32.ofNat (bitT t) := by
  have e : t = (t - 1) + 1 := by omega
  rw [e, pm_succ, i3_bit _ (by omega)]
  rfl
/-- the tunes that an organ played in n hours from k on -/
def tunN (z : Nat → Nat) (o k n b : Nat) : Nat := up n (fun i b => b ||| bitT (z (163 + 10 * o + (k + i)))) b
theorem tunN_succ {o k n b : Nat} : tunN z o k (n + 1) b = tunN z o (k + 1) n (b ||| bitT (z (163 + 10 * o + k))) := by
  unfold tunN
  induction n with
  | zero => rfl
  | succ n ih =>
    show up (n + 1) _ b ||| _ = up n _ _ ||| _
    rw [ih]
    have e : k + (n + 1) = k + 1 + n := by omega
    rw [e]
def heaS (z : Nat → Nat) (c : Nat) : Nat := up (z 1) (fun o b => if z (56 + 7 * o + 3) ≠ 0 ∧ near z c (z (56 + 7 * o + 3) - 1) then tunN z o (z 4 - z 12) (z 4 + 1 - (z 4 - z 12)) b else b) 0
theorem i3_shr {a : Nat} (ha : a < 2147483648) : ∀ t, t < 10 → Int32.ofNat a >>> (Int32.ofNat t &&& 31) = Int32.ofNat (a >>> t) := by
  intro t ht
  refine Int32.toBitVec_inj.mp ?_
  rw [Int32.toBitVec_shiftRight]
  have e : ∀ t, t < 10 → ((Int32.ofNat t &&& 31).toBitVec.smod 32).toNat = t := by decide +kernel
  show (BitVec.ofNat 32 a).sshiftRight ((Int32.ofNat t &&& 31).toBitVec.smod 32).toNat = BitVec.ofNat 32 (a >>> t)
  rw [e t ht, BitVec.sshiftRight_eq_of_msb_false]
  · refine BitVec.eq_of_toNat_eq ?_
    rw [BitVec.toNat_ushiftRight, BitVec.toNat_ofNat, BitVec.toNat_ofNat, Nat.mod_eq_of_lt (by omega)]
    have : a >>> t ≤ a := Nat.shiftRight_le a t
    rw [Nat.mod_eq_of_lt (by omega)]
  · rw [BitVec.msb_eq_decide, BitVec.toNat_ofNat]
    exact decide_eq_false (by omega)
theorem i3_hold {a t : Nat} (ha : a < 2147483648) (ht : t < 10) : (Int32.ofNat a >>> (Int32.ofNat t &&& 31)) &&& 1 = if a.testBit t then 1 else 0 := by
  rw [i3_shr ha t ht, show (1 : Int32) = Int32.ofNat 1 from rfl, i3_and, Nat.and_one_is_mod]
  have e : a.testBit t = decide ((a >>> t) % 2 = 1) := Nat.testBit_eq_decide_div_mod_eq.trans (by rw [Nat.shiftRight_eq_div_pow])
  rw [e]
  by_cases h : (a >>> t) % 2 = 1
  · rw [h]
    rfl
  · have h0 : (a >>> t) % 2 = 0 := by omega
    rw [h0]
    rfl
end MPURE2
