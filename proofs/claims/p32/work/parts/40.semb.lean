/-! SEMANTICS: numbers and loops -/
section SEMB
theorem i3_nat {a : Nat} (h : a < 2147483648) : (Int32.ofNat a).toNatClampNeg = a := by
  unfold Int32.toNatClampNeg
  rw [Int32.toInt_ofNat_of_lt h]
  rfl
theorem i3_le {a b : Nat} (ha : a < 2147483648) (hb : b < 2147483648) : (Int32.ofNat a ≤ Int32.ofNat b) = (a ≤ b) := by
  rw [Int32.le_iff_toInt_le, Int32.toInt_ofNat_of_lt ha, Int32.toInt_ofNat_of_lt hb]
  exact propext Int.ofNat_le
theorem i3_lt {a b : Nat} (ha : a < 2147483648) (hb : b < 2147483648) : (Int32.ofNat a < Int32.ofNat b) = (a < b) := by
  rw [Int32.lt_iff_toInt_lt, Int32.toInt_ofNat_of_lt ha, Int32.toInt_ofNat_of_lt hb]
  exact propext Int.ofNat_lt
theorem le_y {a b : Nat} (h : a ≤ b) (hb : b < 2147483648) : Int32.ofNat a ≤ Int32.ofNat b := by rw [i3_le (by omega) hb]; exact h
theorem le_n {a b : Nat} (h : b < a) (ha : a < 2147483648) : ¬ (Int32.ofNat a ≤ Int32.ofNat b) := by rw [i3_le ha (by omega)]; omega
theorem lt_y {a b : Nat} (h : a < b) (hb : b < 2147483648) : Int32.ofNat a < Int32.ofNat b := by rw [i3_lt (by omega) hb]; exact h
theorem lt_n {a b : Nat} (h : b ≤ a) (ha : a < 2147483648) : ¬ (Int32.ofNat a < Int32.ofNat b) := by rw [i3_lt ha (by omega)]; omega
theorem i3_eq {a b : Nat} (ha : a < 2147483648) (hb : b < 2147483648) : (Int32.ofNat a = Int32.ofNat b) = (a = b) := by
  refine propext ⟨fun h => ?_, fun h => h ▸ rfl⟩
  have := congrArg Int32.toNatClampNeg h
  rwa [i3_nat ha, i3_nat hb] at this
theorem i3_add (a b : Nat) : Int32.ofNat a + Int32.ofNat b = Int32.ofNat (a + b) := (Int32.ofNat_add a b).symm
theorem i3_add1 (a : Nat) : Int32.ofNat a + 1 = Int32.ofNat (a + 1) := i3_add a 1
theorem i3_add0 (a : Nat) : Int32.ofNat a + 0 = Int32.ofNat a := i3_add a 0
theorem i3_mul (a b : Nat) : Int32.ofNat a * Int32.ofNat b = Int32.ofNat (a * b) := (Int32.ofNat_mul a b).symm
theorem i3_inb {a n : Nat} (h : a < n) (hn : n < 2147483648) : inb (Int32.ofNat a) n = true := by
  unfold inb
  rw [i3_nat (by omega)]
  have h1 : ¬ (Int32.ofNat a < 0) := by
    intro q
    have : Int32.ofNat a < Int32.ofNat 0 := q
    rw [i3_lt (by omega) (by decide)] at this
    omega
  have h2 : Nat.ble n a = false := by
    cases e : Nat.ble n a with
    | false => rfl
    | true => exact absurd (Nat.le_of_ble_eq_true e) (by omega)
  rw [h2, decide_eq_false h1]
  rfl
/-- one step after another, from 0 -/
def up {β : Type} (n : Nat) (f : Nat → β → β) (a : β) : β := match n with
  | 0 => a
  | n + 1 => f n (up n f a)
theorem up_congr {β : Type} {f g : Nat → β → β} {a : β} : ∀ n, (∀ i, i < n → ∀ x, f i x = g i x) → up n f a = up n g a := by
  intro n
  induction n with
  | zero => intro _; rfl
  | succ n ih =>
    intro h
    show f n (up n f a) = g n (up n g a)
    rw [ih (fun i hi => h i (by omega)), h n (by omega)]
theorem up_inv {β : Type} {f : Nat → β → β} {a : β} (P : Nat → β → Prop) (h0 : P 0 a) : ∀ n, (∀ i, i < n → ∀ x, P i x → P (i + 1) (f i x)) → P n (up n f a) := by
  intro n
  induction n with
  | zero => intro _; exact h0
  | succ n ih => intro h; exact h n (by omega) _ (ih (fun i hi => h i (by omega)))
/-- a loop over 0 .. n - 1, its state kept by P -/
theorem loopP {β γ : Type} (L : Int32 → β → γ) (n : Nat) (f : Nat → β → β) (P : Nat → β → Prop) (hP : ∀ i, i < n → ∀ x, P i x → P (i + 1) (f i x)) (hs : ∀ i, i < n → ∀ x, P i x → L (Int32.ofNat i) x = L (Int32.ofNat (i + 1)) (f i x)) {a : β} (h0 : P 0 a) : L 0 a = L (Int32.ofNat n) (up n f a) := by
  have key : ∀ m, m ≤ n → P m (up m f a) ∧ L 0 a = L (Int32.ofNat m) (up m f a) := by
    intro m
    induction m with
    | zero => intro _; exact ⟨h0, rfl⟩
    | succ m ih =>
      intro hm
      obtain ⟨h1, h2⟩ := ih (by omega)
      exact ⟨hP m (by omega) _ h1, h2.trans (hs m (by omega) _ h1)⟩
  exact (key n (Nat.le_refl n)).2
theorem loopI {β γ : Type} (L : Int32 → β → γ) (n : Nat) (f : Nat → β → β) (hs : ∀ i, i < n → ∀ x, L (Int32.ofNat i) x = L (Int32.ofNat (i + 1)) (f i x)) {a : β} : L 0 a = L (Int32.ofNat n) (up n f a) :=
  loopP L n f (fun _ _ => True) (fun _ _ _ _ => trivial) (fun i hi x _ => hs i hi x) trivial
theorem chk_t {c : Prop} [Decidable c] (h : c) {x : Option PO} : chk c x = x := by
  unfold chk
  rw [if_pos h]
/-- what a call gives that changes nothing -/
abbrev rI (v : Int32) (μ : PM) : Option PO := some (.inl (some (.int v)), μ)
theorem bI_r {v : Int32} {μ : PM} {f : Int32 → PM → Option PO} : bI (rI v μ) f = f v μ := rfl
end SEMB
