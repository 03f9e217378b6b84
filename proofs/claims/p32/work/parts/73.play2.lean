/-! SEMANTICS: play -/
section PLAY2
variable {z : Nat → Nat} {μ : PM}
/-- a tune noted: the last numbers that a play sets -/
def notZ (z : Nat → Nat) (o t v8 : Nat) : Nat → Nat := setN (setN (setN z 8 v8) 7 (z 7 + 1)) (163 + 10 * o + z 4) (t + 1)
theorem notZ_ne {o t v8 j : Nat} (h7 : j ≠ 7) (h8 : j ≠ 8) (h : j ≠ 163 + 10 * o + z 4) : notZ z o t v8 j = z j := by
  unfold notZ
  rw [setN_ne h, setN_ne h7, setN_ne h8]
theorem rt_play {o t v8 : Nat} (hr : RT 23 z μ) (hb : Bd z) (ho : o < z 1) (ht : t < 10) (hat : z (56 + 7 * o + 3) ≠ 0) (h0 : z (163 + 10 * o + z 4) = 0) :
    RT 23 (notZ z o t v8) (stI (stI (stI (stI μ (29 + 2 * (z (56 + 7 * o + 3) - 1)) (z 4) (Int32.ofNat (noted z (z (56 + 7 * o + 3) - 1) (z 4) ||| 1 <<< t))) (48 + o) 7 (Int32.ofNat t)) 23 11 (Int32.ofNat (plyS z + 1))) 23 12 (Int32.ofNat (z 7 + 1))) := by
  have no := hb.no
  have hh := hb.hr
  obtain ⟨a1, a2, a3⟩ := at_lt hb (show o < 5 by omega) hat
  have ne : ∀ j, j ≠ 7 → j ≠ 8 → j ≠ 163 + 10 * o + z 4 → notZ z o t v8 j = z j := fun j h7 h8 h => notZ_ne h7 h8 h
  have ev : notZ z o t v8 (163 + 10 * o + z 4) = t + 1 := setN_self
  have e7 : notZ z o t v8 7 = z 7 + 1 := by unfold notZ; rw [setN_ne (by omega), setN_self]
  have e1 : notZ z o t v8 1 = z 1 := ne 1 (by decide) (by decide) (by omega)
  have e4 : notZ z o t v8 4 = z 4 := ne 4 (by decide) (by decide) (by omega)
  have en0 : ∀ c h, h < 10 → (c ≠ z (56 + 7 * o + 3) - 1 ∨ h ≠ z 4) → noted (notZ z o t v8) c h = noted z c h := fun c h hh' hq => by
    unfold noted
    rw [e1]
    refine up_congr _ (fun i hi x => ?_)
    rw [ne (56 + 7 * i + 3) (by omega) (by omega) (by omega)]
    by_cases q : z (56 + 7 * i + 3) = c + 1
    · rw [if_pos q, if_pos q]
      by_cases e : i = o
      · subst e
        rw [ne _ (by omega) (by omega) (by omega)]
      · rw [ne _ (by omega) (by omega) (by omega)]
    · rw [if_neg q, if_neg q]
  have en1 : noted (notZ z o t v8) (z (56 + 7 * o + 3) - 1) (z 4) = noted z (z (56 + 7 * o + 3) - 1) (z 4) ||| 1 <<< t := by
    refine Nat.eq_of_testBit_eq fun b => ?_
    rw [Bool.eq_iff_iff, Nat.testBit_or, Bool.or_eq_true, noted_bit, noted_bit, e1]
    constructor
    · rintro ⟨i, h1, h2, h3⟩
      rw [ne _ (by omega) (by omega) (by omega)] at h2
      by_cases e : i = o
      · subst e
        rw [ev] at h3
        exact Or.inr h3
      · rw [ne _ (by omega) (by omega) (by omega)] at h3
        exact Or.inl ⟨i, h1, h2, h3⟩
    · rintro (⟨i, h1, h2, h3⟩ | h)
      · by_cases e : i = o
        · subst e
          rw [h0] at h3
          have h4 : (0 : Nat).testBit b = true := h3
          rw [Nat.zero_testBit] at h4
          cases h4
        · exact ⟨i, h1, by rw [ne _ (by omega) (by omega) (by omega)]; exact h2, by rw [ne _ (by omega) (by omega) (by omega)]; exact h3⟩
      · exact ⟨o, ho, by rw [ne _ (by omega) (by omega) (by omega)]; omega, by rw [ev]; exact h⟩
  have ep : plyS (notZ z o t v8) = plyS z + 1 := by
    have := sum_one (f := fun k => if z (163 + k) = 0 then 0 else 1) (f' := fun k => if notZ z o t v8 (163 + k) = 0 then 0 else 1) (m := 10 * o + z 4) 50 (by omega) (fun i hi hne => by rw [ne _ (by omega) (by omega) (by omega)])
    have this2 : plyS (notZ z o t v8) + (if z (163 + (10 * o + z 4)) = 0 then 0 else 1) = plyS z + (if notZ z o t v8 (163 + (10 * o + z 4)) = 0 then 0 else 1) := this
    rw [show 163 + (10 * o + z 4) = 163 + 10 * o + z 4 by omega, h0, ev, if_pos rfl, if_neg (by omega)] at this2
    exact this2
  have fr : ∀ X Y, ¬ (X = 29 + 2 * (z (56 + 7 * o + 3) - 1) ∧ Y = z 4) → ¬ (X = 48 + o ∧ Y = 7) → ¬ (X = 23 ∧ (Y = 11 ∨ Y = 12)) → mI (stI (stI (stI (stI μ (29 + 2 * (z (56 + 7 * o + 3) - 1)) (z 4) (Int32.ofNat (noted z (z (56 + 7 * o + 3) - 1) (z 4) ||| 1 <<< t))) (48 + o) 7 (Int32.ofNat t)) 23 11 (Int32.ofNat (plyS z + 1))) 23 12 (Int32.ofNat (z 7 + 1))) X Y = mI μ X Y := fun X Y h1 h2 h3 => by
    rw [st_get, if_neg (fun q => h3 ⟨q.1, Or.inr q.2⟩), st_get, if_neg (fun q => h3 ⟨q.1, Or.inl q.2⟩), st_get, if_neg h2, st_get, if_neg h1]
  obtain ⟨⟨⟨q4, q5, q6, q7, q8, q9⟩, q10, q11, q12, q13, q14⟩, qs, qc, qo, qp⟩ := hr
  refine ⟨⟨⟨?_, ?_, ?_, ?_, ?_, ?_⟩, ?_, ?_, ?_, ?_, ?_⟩, fun i hi => ?_, fun c hc => ⟨fun w hw => ?_, fun w hw => ?_⟩, fun o' ho' => ⟨fun w hw h3 => ?_, ?_, ?_⟩, fun p hp => ⟨?_, fun w h1 hw => ?_, fun o ho => ?_⟩⟩
  · rw [fr _ _ (by omega) (by omega) (by omega), ne _ (by omega) (by omega) (by omega)]; exact q4
  · rw [fr _ _ (by omega) (by omega) (by omega), ne _ (by omega) (by omega) (by omega)]; exact q5
  · rw [fr _ _ (by omega) (by omega) (by omega), ne _ (by omega) (by omega) (by omega)]; exact q6
  · rw [fr _ _ (by omega) (by omega) (by omega), ne _ (by omega) (by omega) (by omega)]; exact q7
  · rw [fr _ _ (by omega) (by omega) (by omega), ne _ (by omega) (by omega) (by omega)]; exact q8
  · rw [fr _ _ (by omega) (by omega) (by omega), ne _ (by omega) (by omega) (by omega)]; exact q9
  · rw [fr _ _ (by omega) (by omega) (by omega), ne _ (by omega) (by omega) (by omega)]; exact q10
  · rw [st_get, if_neg (by omega), st_get, if_pos ⟨rfl, rfl⟩, ep]
  · rw [st_get, if_pos ⟨rfl, rfl⟩, e7]
  · rw [fr _ _ (by omega) (by omega) (by omega), ne _ (by omega) (by omega) (by omega)]; exact q13
  · rw [fr _ _ (by omega) (by omega) (by omega), ne _ (by omega) (by omega) (by omega)]; exact q14
  · rw [fr _ _ (by omega) (by omega) (by omega), ne _ (by omega) (by omega) (by omega)]; exact qs i hi
  · rw [fr _ _ (by omega) (by omega) (by omega), ne _ (by omega) (by omega) (by omega)]; exact (qc c hc).1 w hw
  · by_cases e : c = z (56 + 7 * o + 3) - 1 ∧ w = z 4
    · obtain ⟨rfl, rfl⟩ := e
      rw [st_get, if_neg (by omega), st_get, if_neg (by omega), st_get, if_neg (by omega), st_get, if_pos ⟨by omega, rfl⟩, en1]
    · rw [fr _ _ (by omega) (by omega) (by omega), en0 c w hw (by omega)]; exact (qc c hc).2 w hw
  · rw [fr _ _ (by omega) (by omega) (by omega), ne _ (by omega) (by omega) (by omega)]; exact (qo o' ho').1 w hw h3
  · rw [fr _ _ (by omega) (by omega) (by omega), ne _ (by omega) (by omega) (by omega)]; exact (qo o' ho').2.1
  · rw [e4]
    by_cases e : o' = o
    · subst e
      rw [st_get, if_neg (by omega), st_get, if_neg (by omega), st_get, if_pos ⟨rfl, rfl⟩, ev, pm_succ]
    · rw [fr _ _ (by omega) (by omega) (by omega), ne _ (by omega) (by omega) (by omega)]; exact (qo o' ho').2.2
  · rw [fr _ _ (by omega) (by omega) (by omega), ne _ (by omega) (by omega) (by omega)]; exact (qp p hp).1
  · rw [fr _ _ (by omega) (by omega) (by omega), ne _ (by omega) (by omega) (by omega)]; exact (qp p hp).2.1 w h1 hw
  · rw [fr _ _ (by omega) (by omega) (by omega), ne _ (by omega) (by omega) (by omega)]; exact (qp p hp).2.2 o ho
/-- the state behind a play -/
def plaZ (z : Nat → Nat) (o t : Nat) : Nat → Nat := notZ (crewZ o (z 2) (divZ z o (takN z o (othN z o)))) o t (z 8 + takN z o (othN z o))
theorem tak_le {o k : Nat} (hb : Bd z) (ho : o < 5) (hat : z (56 + 7 * o + 3) ≠ 0) : takN z o k ≤ 90 := by
  obtain ⟨a1, a2, a3⟩ := at_lt hb ho hat
  have hc := (hb.cor _ a1).2.1
  have hm : z (16 + 4 * (z (56 + 7 * o + 3) - 1) + 1) * (10 - 2 * k) ≤ 90 * 10 := Nat.mul_le_mul hc (by omega)
  unfold takN
  simp only
  split <;> omega
theorem cnt_le {o : Nat} (hz0 : z (163 + 10 * o + z 4) = 0) (hh : z 4 < 10) : cntT z o ≤ 9 := by
  have h1 : sum 10 (fun h => if h = z 4 then 1 else 0) = 1 := by
    have : ∀ k, k < 10 → sum 10 (fun h => if h = k then 1 else 0) = 1 := by decide
    exact this _ hh
  have h2 : ∀ n, sum n (fun h => if z (163 + 10 * o + h) = 0 then 0 else 1) + sum n (fun h => if h = z 4 then 1 else 0) ≤ n := by
    intro n
    induction n with
    | zero => exact Nat.le_refl 0
    | succ n ih =>
      show sum n _ + (if z (163 + 10 * o + n) = 0 then 0 else 1) + (sum n _ + (if n = z 4 then 1 else 0)) ≤ n + 1
      by_cases e : n = z 4
      · rw [e, hz0, if_pos rfl, if_pos rfl]
        rw [e] at ih
        omega
      · rw [if_neg e]
        split <;> omega
  have := h2 10
  unfold cntT
  omega
/-- what each number is behind a play -/
theorem plaZ_get {o t : Nat} (hb : Bd z) (ho : o < 5) : ∀ j,
    (j = 163 + 10 * o + z 4 → plaZ z o t j = t + 1) ∧ (j = 7 → plaZ z o t j = z 7 + 1) ∧ (j = 8 → plaZ z o t j = z 8 + takN z o (othN z o)) ∧
    (j = 9 → plaZ z o t j = z 9 + (prtN z (takN z o (othN z o)) - fndN z (takN z o (othN z o)))) ∧ (j = 10 → plaZ z o t j = z 10 + fndN z (takN z o (othN z o))) ∧
    (j = 56 + 7 * o + 4 → plaZ z o t j = z j + ((takN z o (othN z o) - prtN z (takN z o (othN z o))) - ownN z o (takN z o (othN z o)))) ∧
    (j = 56 + 7 * o + 5 → plaZ z o t j = z j + ownN z o (takN z o (othN z o))) ∧ (j = 56 + 7 * o + 6 → plaZ z o t j = z j + takN z o (othN z o)) ∧
    (crwAt z o (z 2) j → plaZ z o t j = z j + 1) ∧
    (j ≠ 163 + 10 * o + z 4 → j ≠ 7 → j ≠ 8 → j ≠ 9 → j ≠ 10 → j ≠ 56 + 7 * o + 4 → j ≠ 56 + 7 * o + 5 → j ≠ 56 + 7 * o + 6 → ¬ crwAt z o (z 2) j → plaZ z o t j = z j) := by
  have hp := hb.np
  have hh := hb.hr
  generalize hall : takN z o (othN z o) = all
  have d4 : ∀ j, j ≠ 10 → j ≠ 9 → j ≠ 56 + 7 * o + 5 → j ≠ 56 + 7 * o + 4 → j ≠ 56 + 7 * o + 6 → divZ z o all j = z j := fun j h1 h2 h3 h4 h5 => by
    unfold divZ
    rw [setN_ne h5, setN_ne h4, setN_ne h3, setN_ne h2, setN_ne h1]
  have c4 : crewZ o (z 2) (divZ z o all) 4 = z 4 := by rw [crewZ_out ho hp (by omega), d4 4 (by decide) (by decide) (by omega) (by omega) (by omega)]
  have c7 : crewZ o (z 2) (divZ z o all) 7 = z 7 := by rw [crewZ_out ho hp (by omega), d4 7 (by decide) (by decide) (by omega) (by omega) (by omega)]
  have ex : ∀ j, plaZ z o t j = if j = 163 + 10 * o + z 4 then t + 1 else if j = 7 then z 7 + 1 else if j = 8 then z 8 + all else crewZ o (z 2) (divZ z o all) j := fun j => by
    unfold plaZ notZ
    rw [hall, c4, c7]
    rfl
  have hcw : ∀ j, crwAt (divZ z o all) o (z 2) j ↔ crwAt z o (z 2) j := fun j => by
    constructor
    · rintro ⟨p, q1, q2, q3⟩
      rw [d4 _ (by omega) (by omega) (by omega) (by omega) (by omega)] at q2
      exact ⟨p, q1, q2, q3⟩
    · rintro ⟨p, q1, q2, q3⟩
      exact ⟨p, q1, by rw [d4 _ (by omega) (by omega) (by omega) (by omega) (by omega)]; exact q2, q3⟩
  intro j
  refine ⟨fun e => ?_, fun e => ?_, fun e => ?_, fun e => ?_, fun e => ?_, fun e => ?_, fun e => ?_, fun e => ?_, fun e => ?_, fun h1 h2 h3 h4 h5 h6 h7 h8 h9 => ?_⟩
  · rw [ex, if_pos e]
  · rw [ex, if_neg (by omega), if_pos e]
  · rw [ex, if_neg (by omega), if_neg (by omega), if_pos e]
  · subst e
    rw [ex, if_neg (by omega), if_neg (by omega), if_neg (by omega), crewZ_out ho hp (by omega)]
    unfold divZ
    rw [setN_ne (by omega), setN_ne (by omega), setN_ne (by omega), setN_self]
  · subst e
    rw [ex, if_neg (by omega), if_neg (by omega), if_neg (by omega), crewZ_out ho hp (by omega)]
    unfold divZ
    rw [setN_ne (by omega), setN_ne (by omega), setN_ne (by omega), setN_ne (by omega), setN_self]
  · subst e
    rw [ex, if_neg (by omega), if_neg (by omega), if_neg (by omega), crewZ_out ho hp (by omega)]
    unfold divZ
    rw [setN_ne (by omega), setN_self]
  · subst e
    rw [ex, if_neg (by omega), if_neg (by omega), if_neg (by omega), crewZ_out ho hp (by omega)]
    unfold divZ
    rw [setN_ne (by omega), setN_ne (by omega), setN_self]
  · subst e
    rw [ex, if_neg (by omega), if_neg (by omega), if_neg (by omega), crewZ_out ho hp (by omega)]
    unfold divZ
    rw [setN_self]
  · have e2 := e
    obtain ⟨p, q1, q2, q3⟩ := e2
    rw [ex, if_neg (by omega), if_neg (by omega), if_neg (by omega)]
    rcases crewZ_get (z := divZ z o all) ho (z 2) hp j with ⟨_, q⟩ | ⟨q, _⟩
    · rw [q, d4 _ (by omega) (by omega) (by omega) (by omega) (by omega)]
    · exact absurd ((hcw j).mpr e) q
  · rw [ex, if_neg h1, if_neg h2, if_neg h3]
    rcases crewZ_get (z := divZ z o all) ho (z 2) hp j with ⟨q, _⟩ | ⟨_, q⟩
    · exact absurd ((hcw j).mp q) h9
    · rw [q, d4 _ h5 h4 h7 h6 h8]
end PLAY2
