/-! SEMANTICS: the model's answers: reasons, tunes, what is shown -/
section MPURE3
variable {z : Nat → Nat} {μ : PM}
/-- why an organ cannot play, tunes aside -/
def reas (z : Nat → Nat) (o t : Nat) : Nat :=
  if z (56 + 7 * o + 3) = 0 then 1 else if crew z o = 0 then 2 else if (z (56 + 7 * o + 2)).testBit t = false then 3 else if z (163 + 10 * o + z 4) ≠ 0 then 4
  else if isQ z (z (56 + 7 * o + 3) - 1) then 5 else if (heaS z (z (56 + 7 * o + 3) - 1)).testBit t = true then 6 else 0
theorem sum_le {f : Nat → Nat} {b : Nat} : ∀ n, (∀ i, i < n → f i ≤ b) → sum n f ≤ b * n := by
  intro n
  induction n with
  | zero => intro _; exact Nat.zero_le _
  | succ n ih =>
    intro h
    have h1 := ih (fun i hi => h i (by omega))
    have h2 := h n (by omega)
    show sum n f + f n ≤ b * (n + 1)
    rw [Nat.mul_succ]
    omega
theorem crew_le {o : Nat} (hb : Bd z) : crew z o ≤ 8 := by
  have h := hb.np
  have := sum_le (f := fun p => if z (91 + 4 * p) = o + 1 then 1 else 0) (b := 1) (z 2) (fun i _ => by split <;> omega)
  unfold crew
  omega
theorem bitT_lt {t : Nat} (h : t ≤ 10) : bitT t < 1024 := (by decide : ∀ t, t < 11 → bitT t < 1024) t (by omega)
theorem or_lt {a b : Nat} (ha : a < 1024) (hb : b < 1024) : a ||| b < 1024 := Nat.or_lt_two_pow (n := 10) ha hb
theorem tunN_lt {o k n b : Nat} (hb : Bd z) (ho : o < 5) (hk : k + n ≤ 10) (h : b < 1024) : tunN z o k n b < 1024 :=
  up_inv (fun _ b => b < 1024) h n (fun i hi x hx => or_lt hx (bitT_lt (hb.tun o ho (k + i) (by omega))))
theorem heaS_lt {c : Nat} (hb : Bd z) : heaS z c < 1024 := by
  have h1 := hb.no
  have h2 := hb.hr
  refine up_inv (fun _ b => b < 1024) (by decide) (z 1) (fun i hi x hx => ?_)
  split
  · exact tunN_lt hb (by omega) (by omega) hx
  · exact hx
theorem reas_le {o t : Nat} : reas z o t ≤ 6 := by
  unfold reas
  repeat' split
  all_goals omega
def tunS (z : Nat → Nat) (o : Nat) : Nat := up 10 (fun t b => b ||| (if reas z o t = 0 then 1 <<< t else 0)) 0
def plaS (z : Nat → Nat) (c : Nat) : Nat := if whoP z c (z 1) = 0 then 0 else tunN z (whoP z c (z 1) - 1) 0 10 0
def sizS (b : Nat) : Nat := sum 10 (fun t => if b.testBit t then 1 else 0)
end MPURE3
