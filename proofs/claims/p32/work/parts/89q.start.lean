/-! SEMANTICS: the start, and the law from there -/
section STARTZ
def z00 : Nat → Nat := fun k => if k = 6 then 1 else if k = 11 then 20 else if k = 12 then 2 else if k = 13 then 20 else if k = 14 then 25 else if k = 15 then 5 else 0
theorem s_no : ∀ k, (h1 : 16 ≤ k) → z00 k = 0 := fun k h => by
  unfold z00
  rw [if_neg (by omega), if_neg (by omega), if_neg (by omega), if_neg (by omega), if_neg (by omega), if_neg (by omega)]
theorem s_bd : Bd z00 := by
  unfold Bd
  decide +kernel
theorem s_ok : Okz 0 z00 := by
  refine ⟨s_bd, fun o ho h hh q => absurd (s_no _ (by omega)) q, fun o e ho he q => absurd (s_no _ (by omega)) q, by decide +kernel, fun o ho h _ _ => s_no _ (by omega), fun o _ ho => ⟨fun w _ => s_no _ (by omega), fun h _ => s_no _ (by omega)⟩, fun p _ hp => ⟨fun w _ => s_no _ (by omega), fun o _ => s_no _ (by omega)⟩, fun p hp o ho => ?_, fun o ho => ?_, fun o ho q => absurd (s_no _ (by omega)) q, by decide +kernel, by decide +kernel, by decide +kernel, by decide +kernel, fun p hp => ?_, fun p hp => ?_⟩
  · rw [s_no _ (by omega)]; exact Nat.zero_le _
  · rw [s_no _ (by omega)]; exact Nat.zero_le _
  · rw [s_no _ (by omega)]; exact Nat.le_refl _
  · rw [s_no _ (by omega)]; exact Nat.zero_le _
theorem s_rt {xs : Nat → Int32} {n : Nat} : RT 23 z00 (mu0 xs n) := by
  have key : ∀ x y, x ≠ 390 → mI (mu0 xs n) x y = in0 x y := fun x y hx => by
    show (bif Nat.beq x 390 then xs y else in0 x y) = _
    rw [beqC hx]
    rfl
  refine ⟨⟨⟨?_, ?_, ?_, ?_, ?_, ?_⟩, ?_, ?_, ?_, ?_, ?_⟩, fun i hi => ?_, fun c hc => ⟨fun w hw => ?_, fun h hh => ?_⟩, fun o ho => ⟨fun w hw hw3 => ?_, ?_, ?_⟩, fun p hp => ⟨?_, fun w h1 h2 => ?_, fun o ho => ?_⟩⟩
  · rw [key _ _ (by decide)]; decide +kernel
  · rw [key _ _ (by decide)]; decide +kernel
  · rw [key _ _ (by decide)]; decide +kernel
  · rw [key _ _ (by decide)]; decide +kernel
  · rw [key _ _ (by decide)]; decide +kernel
  · rw [key _ _ (by decide)]; decide +kernel
  · rw [key _ _ (by decide)]; decide +kernel
  · rw [key _ _ (by decide)]; decide +kernel
  · rw [key _ _ (by decide)]; decide +kernel
  · rw [key _ _ (by decide)]; decide +kernel
  · rw [key _ _ (by decide)]; decide +kernel
  · have h : ∀ i, i < 5 → in0 (23 + 4) i = Int32.ofNat (z00 (11 + i)) := by decide +kernel
    rw [key _ _ (by decide)]; exact h i hi
  · have h : ∀ c, c < 10 → ∀ w, w < 4 → in0 (23 + 5 + 2 * c) w = Int32.ofNat (z00 (16 + 4 * c + w)) := by decide +kernel
    rw [key _ _ (by omega)]; exact h c hc w hw
  · have h2 : ∀ c, c < 10 → ∀ h, h < 10 → in0 (23 + 6 + 2 * c) h = Int32.ofNat (noted z00 c h) := by decide +kernel
    rw [key _ _ (by omega)]; exact h2 c hc h hh
  · have h : ∀ o, o < 5 → ∀ w, w < 7 → w ≠ 3 → in0 (23 + 25 + o) w = Int32.ofNat (z00 (56 + 7 * o + w)) := by decide +kernel
    rw [key _ _ (by omega)]; exact h o ho w hw hw3
  · have h : ∀ o, o < 5 → in0 (23 + 25 + o) 3 = pm (z00 (56 + 7 * o + 3)) := by decide +kernel
    rw [key _ _ (by omega)]; exact h o ho
  · have h : ∀ o, o < 5 → in0 (23 + 25 + o) 7 = pm (z00 (163 + 10 * o + z00 4)) := by decide +kernel
    rw [key _ _ (by omega)]; exact h o ho
  · have h : ∀ p, p < 8 → in0 (23 + 30 + 2 * p) 0 = pm (z00 (91 + 4 * p)) := by decide +kernel
    rw [key _ _ (by omega)]; exact h p hp
  · have h : ∀ p, p < 8 → ∀ w, w < 4 → 1 ≤ w → in0 (23 + 30 + 2 * p) w = Int32.ofNat (z00 (91 + 4 * p + w)) := by decide +kernel
    rw [key _ _ (by omega)]; exact h p hp w h2 h1
  · have h : ∀ p, p < 8 → ∀ o, o < 5 → in0 (23 + 31 + 2 * p) o = Int32.ofNat (z00 (123 + 5 * p + o)) := by decide +kernel
    rw [key _ _ (by omega)]; exact h p hp o ho
end STARTZ
