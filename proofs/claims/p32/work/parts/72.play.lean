/-! SEMANTICS: play: the hours of a crew, the takings divided -/
section PLAY
variable {z : Nat → Nat} {μ : PM}
theorem sum_ge {f : Nat → Nat} : ∀ n i, i < n → f i ≤ sum n f := by
  intro n
  induction n with
  | zero => intro i h; exact absurd h (Nat.not_lt_zero i)
  | succ n ih =>
    intro i h
    show f i ≤ sum n f + f n
    by_cases e : i = n
    · subst e; omega
    · have := ih i (by omega); omega
def crwS (o p : Nat) (z : Nat → Nat) : Nat → Nat := if z (91 + 4 * p) = o + 1 then setN (setN z (123 + 5 * p + o) (z (123 + 5 * p + o) + 1)) (91 + 4 * p + 3) (z (91 + 4 * p + 3) + 1) else z
def crewZ (o n : Nat) (z : Nat → Nat) : Nat → Nat := up n (crwS o) z
theorem crewZ_s {o n : Nat} : crewZ o (n + 1) z = crwS o n (crewZ o n z) := rfl
/-- where the crew's hours lie -/
def crwAt (z : Nat → Nat) (o n j : Nat) : Prop := ∃ p, p < n ∧ z (91 + 4 * p) = o + 1 ∧ (j = 123 + 5 * p + o ∨ j = 91 + 4 * p + 3)
theorem crewZ_get {o : Nat} (ho : o < 5) : ∀ n, n ≤ 8 → ∀ j, (crwAt z o n j ∧ crewZ o n z j = z j + 1) ∨ (¬ crwAt z o n j ∧ crewZ o n z j = z j) := by
  intro n
  induction n with
  | zero => intro _ j; exact Or.inr ⟨fun ⟨p, h, _⟩ => absurd h (Nat.not_lt_zero p), rfl⟩
  | succ n ih =>
    intro hn j
    have ih' := ih (by omega)
    have keep : ∀ i, (i < 123 → (i < 91 ∨ (i - 91) % 4 ≠ 3)) → (123 ≤ i → (123 + 5 * n ≤ i)) → crewZ o n z i = z i := fun i h1 h2 => by
      rcases ih' i with ⟨⟨p, q1, q2, q3⟩, _⟩ | ⟨_, q⟩
      · exfalso; omega
      · exact q
    have e0 : crewZ o n z (91 + 4 * n) = z (91 + 4 * n) := keep _ (fun _ => by omega) (fun _ => by omega)
    have e1 : crewZ o n z (123 + 5 * n + o) = z (123 + 5 * n + o) := keep _ (fun _ => by omega) (fun _ => by omega)
    have e2 : crewZ o n z (91 + 4 * n + 3) = z (91 + 4 * n + 3) := by
      rcases ih' (91 + 4 * n + 3) with ⟨⟨p, q1, q2, q3⟩, _⟩ | ⟨_, q⟩
      · exfalso; omega
      · exact q
    rw [crewZ_s]
    unfold crwS
    by_cases hc : z (91 + 4 * n) = o + 1
    · rw [e0, if_pos hc, e1, e2]
      by_cases j1 : j = 91 + 4 * n + 3
      · subst j1
        rw [setN_self]
        exact Or.inl ⟨⟨n, by omega, hc, Or.inr rfl⟩, rfl⟩
      · rw [setN_ne j1]
        by_cases j2 : j = 123 + 5 * n + o
        · subst j2
          rw [setN_self]
          exact Or.inl ⟨⟨n, by omega, hc, Or.inl rfl⟩, rfl⟩
        · rw [setN_ne j2]
          rcases ih' j with ⟨⟨p, q1, q2⟩, q⟩ | ⟨q1, q⟩
          · exact Or.inl ⟨⟨p, by omega, q2⟩, q⟩
          · refine Or.inr ⟨fun ⟨p, a1, a2, a3⟩ => ?_, q⟩
            by_cases e : p = n
            · subst e; omega
            · exact q1 ⟨p, by omega, a2, a3⟩
    · rw [e0, if_neg hc]
      rcases ih' j with ⟨⟨p, q1, q2⟩, q⟩ | ⟨q1, q⟩
      · exact Or.inl ⟨⟨p, by omega, q2⟩, q⟩
      · refine Or.inr ⟨fun ⟨p, a1, a2, a3⟩ => ?_, q⟩
        by_cases e : p = n
        · subst e; exact hc a2
        · exact q1 ⟨p, by omega, a2, a3⟩
/-- numbers elsewhere -/
theorem crewZ_out {o n j : Nat} (ho : o < 5) (hn : n ≤ 8) (hj : j < 91 ∨ 163 ≤ j) : crewZ o n z j = z j := by
  rcases crewZ_get (z := z) ho n hn j with ⟨⟨p, q1, q2, q3⟩, _⟩ | ⟨_, q⟩
  · exfalso; omega
  · exact q
theorem crewZ_comm {o k v : Nat} (ho : o < 5) (hk : k < 91 ∨ 163 ≤ k) : ∀ n, n ≤ 8 → crewZ o n (setN z k v) = setN (crewZ o n z) k v := by
  intro n
  induction n with
  | zero => intro _; rfl
  | succ n ih =>
    intro hn
    rw [crewZ_s, crewZ_s, ih (by omega)]
    unfold crwS
    rw [setN_ne (by omega), setN_ne (by omega), setN_ne (by omega)]
    by_cases hc : crewZ o n z (91 + 4 * n) = o + 1
    · rw [if_pos hc, if_pos hc, setN_comm (k := k) (by omega), setN_comm (k := k) (by omega)]
    · rw [if_neg hc, if_neg hc]
theorem crewZ_bd {o : Nat} (hb : Bd z) (ho : o < 5) (h1 : ∀ p, p < 8 → z (123 + 5 * p + o) ≤ 9) (h2 : ∀ p, p < 8 → z (91 + 4 * p + 3) ≤ 2147483646) : ∀ n, n ≤ 8 → Bd (crewZ o n z) := by
  intro n
  induction n with
  | zero => intro _; exact hb
  | succ n ih =>
    intro hn
    have ih := ih (by omega)
    have e1 : crewZ o n z (123 + 5 * n + o) = z (123 + 5 * n + o) := by
      rcases crewZ_get (z := z) ho n (by omega) (123 + 5 * n + o) with ⟨⟨p, q1, q2, q3⟩, _⟩ | ⟨_, q⟩
      · exfalso; omega
      · exact q
    have e2 : crewZ o n z (91 + 4 * n + 3) = z (91 + 4 * n + 3) := by
      rcases crewZ_get (z := z) ho n (by omega) (91 + 4 * n + 3) with ⟨⟨p, q1, q2, q3⟩, _⟩ | ⟨_, q⟩
      · exfalso; omega
      · exact q
    have g1 := h1 n (by omega)
    have g2 := h2 n (by omega)
    rw [crewZ_s]
    unfold crwS
    by_cases hc : crewZ o n z (91 + 4 * n) = o + 1
    · rw [if_pos hc, e1, e2]
      exact (ih.set (by unfold okV; omega)).set (by unfold okV; omega)
    · rw [if_neg hc]
      exact ih
theorem t_addHour {o : Nat} (hr : RT 23 z μ) (hb : Bd z) (ho : o < 5) (h1 : ∀ p, p < 8 → z (123 + 5 * p + o) ≤ 9) (h2 : ∀ p, p < 8 → z (91 + 4 * p + 3) ≤ 2147483646) : ∃ μ', d_Twn_addHourOfCrew (Int32.ofNat o) μ = some (.inl none, μ') ∧ FrC μ μ' ∧ RT 23 (crewZ o (z 2) z) μ' := by
  have hp := hb.np
  have key : ∀ n, n ≤ z 2 → ∃ μ', Twn_addHourOfCrew_2 (Int32.ofNat o) 0 μ = Twn_addHourOfCrew_2 (Int32.ofNat o) (Int32.ofNat n) μ' ∧ FrC μ μ' ∧ RT 23 (crewZ o n z) μ' := by
    intro n
    induction n with
    | zero => intro _; exact ⟨μ, rfl, FrC.rf, hr⟩
    | succ n ih =>
      intro hn
      obtain ⟨μ1, a1, a2, a3⟩ := ih (by omega)
      have bn := crewZ_bd hb ho h1 h2 n (by omega)
      have e2 : crewZ o n z 2 = z 2 := crewZ_out ho (by omega) (by omega)
      have hc8 := bn.big (91 + 4 * n) (by omega)
      have ec : mI μ1 (53 + 2 * n) 0 = pm (crewZ o n z (91 + 4 * n)) := r_crw a3 (by omega)
      have e54 : 53 + 2 * n + 1 = 54 + 2 * n := by omega
      rw [a1, Twn_addHourOfCrew_2_eq, r_f6 a3, e2, if_neg (le_n (by omega) (by omega)), chk_t (i3_inb (by omega) (by decide)), i3_nat (by omega), ec, i3_add1, crewZ_s]
      unfold crwS
      by_cases hc : crewZ o n z (91 + 4 * n) = o + 1
      · have et : mI μ1 (54 + 2 * n) o = Int32.ofNat (crewZ o n z (123 + 5 * n + o)) := r_tim a3 (by omega) ho
        have eh : mI μ1 (53 + 2 * n) 3 = Int32.ofNat (crewZ o n z (91 + 4 * n + 3)) := r_ply a3 (by omega) (by decide) (by decide)
        rw [if_neg (fun q => q ((pm_eq (by omega) (by omega)).mpr hc)), chk_t (i3_inb ho (by decide)), i3_nat (by omega), e54, et, stI_ne _ _ _ (by omega), eh, i3_add1, i3_add1, if_pos hc]
        have b1 : Bd (setN (crewZ o n z) (123 + 5 * n + o) (crewZ o n z (123 + 5 * n + o) + 1)) := by
          have e1 : crewZ o n z (123 + 5 * n + o) = z (123 + 5 * n + o) := by
            rcases crewZ_get (z := z) ho n (by omega) (123 + 5 * n + o) with ⟨⟨p, q1, q2, q3⟩, _⟩ | ⟨_, q⟩
            · exfalso; omega
            · exact q
          have g1 := h1 n (by omega)
          exact bn.set (by unfold okV; omega)
        exact ⟨_, rfl, (a2.st (by omega)).st (by omega), rs_ply (rs_tim a3 bn (by omega) ho) b1 (by omega) (by decide) (by decide)⟩
      · rw [if_pos (fun q => hc ((pm_eq (by omega) (by omega)).mp q)), if_neg hc]
        exact ⟨μ1, rfl, a2, a3⟩
  obtain ⟨μ1, a1, a2, a3⟩ := key (z 2) (Nat.le_refl _)
  have e2 : crewZ o (z 2) z 2 = z 2 := crewZ_out ho hp (by omega)
  refine ⟨μ1, ?_, a2, a3⟩
  rw [e_Twn_addHourOfCrew, a1, Twn_addHourOfCrew_2_eq, r_f6 a3, e2, if_pos (le_y (Nat.le_refl _) (by omega))]
/-! the takings divided -/
def prtN (z : Nat → Nat) (all : Nat) : Nat := all * z 13 / 100
def fndN (z : Nat → Nat) (all : Nat) : Nat := prtN z all * z 14 / 100
def ownN (z : Nat → Nat) (o all : Nat) : Nat := (all - prtN z all) * z (56 + 7 * o) / 100
theorem prt_le {all : Nat} (hb : Bd z) : prtN z all ≤ all := by
  have h := hb.s2
  have h2 : all * z 13 ≤ all * 50 := Nat.mul_le_mul_left _ h
  unfold prtN
  omega
theorem fnd_le {all : Nat} (hb : Bd z) : fndN z all ≤ prtN z all := by
  have h := hb.s3
  have h2 : prtN z all * z 14 ≤ prtN z all * 100 := Nat.mul_le_mul_left _ h
  unfold fndN
  omega
theorem own_le {o all : Nat} (hb : Bd z) (ho : o < 5) : ownN z o all ≤ all - prtN z all := by
  have h := (hb.org o ho).1
  have h2 : (all - prtN z all) * z (56 + 7 * o) ≤ (all - prtN z all) * 50 := Nat.mul_le_mul_left _ h
  unfold ownN
  omega
theorem i3_prt {all : Nat} (hb : Bd z) (ha : all ≤ 90) : Int32.ofNat all * Int32.ofNat (z 13) / 100 = Int32.ofNat (prtN z all) := by
  have h2 : all * z 13 ≤ 90 * 50 := Nat.mul_le_mul ha hb.s2
  rw [i3_mul]
  exact i3_div (b := 100) (by omega) (by decide)
theorem i3_fnd {all : Nat} (hb : Bd z) (ha : all ≤ 90) : Int32.ofNat (prtN z all) * Int32.ofNat (z 14) / 100 = Int32.ofNat (fndN z all) := by
  have h1 := prt_le (all := all) hb
  have h2 : prtN z all * z 14 ≤ 90 * 100 := Nat.mul_le_mul (by omega) hb.s3
  rw [i3_mul]
  exact i3_div (b := 100) (by omega) (by decide)
theorem i3_own {o all : Nat} (hb : Bd z) (ho : o < 5) (ha : all ≤ 90) : Int32.ofNat (all - prtN z all) * Int32.ofNat (z (56 + 7 * o)) / 100 = Int32.ofNat (ownN z o all) := by
  have h2 : (all - prtN z all) * z (56 + 7 * o) ≤ 90 * 50 := Nat.mul_le_mul (by omega) (hb.org o ho).1
  rw [i3_mul]
  exact i3_div (b := 100) (by omega) (by decide)
/-- the state with the takings divided -/
def divZ (z : Nat → Nat) (o all : Nat) : Nat → Nat :=
  setN (setN (setN (setN (setN z 10 (z 10 + fndN z all)) 9 (z 9 + (prtN z all - fndN z all))) (56 + 7 * o + 5) (z (56 + 7 * o + 5) + ownN z o all)) (56 + 7 * o + 4) (z (56 + 7 * o + 4) + ((all - prtN z all) - ownN z o all))) (56 + 7 * o + 6) (z (56 + 7 * o + 6) + all)
theorem t_divide {o all : Nat} (hr : RT 23 z μ) (hb : Bd z) (ho : o < 5) (ha : all ≤ 90) (hbig : ∀ k, k < 91 → 7 ≤ k → z k ≤ 2000000000) : ∃ μ', d_Twn_divideTakings (48 + o) (Int32.ofNat all) μ = some (.inl none, μ') ∧ FrC μ μ' ∧ RT 23 (divZ z o all) μ' ∧ Bd (divZ z o all) := by
  have h1 := prt_le (all := all) hb
  have h2 := fnd_le (all := all) hb
  have h3 := own_le (o := o) (all := all) hb ho
  have e2 : mI μ 27 2 = Int32.ofNat (z 13) := r_set hr (by decide)
  have e3 : mI μ 27 3 = Int32.ofNat (z 14) := r_set hr (by decide)
  have e0 : mI μ (48 + o) 0 = Int32.ofNat (z (56 + 7 * o)) := r_org hr ho (by decide) (by decide)
  have e5 : mI μ (48 + o) 5 = Int32.ofNat (z (56 + 7 * o + 5)) := r_org hr ho (by decide) (by decide)
  have e4 : mI μ (48 + o) 4 = Int32.ofNat (z (56 + 7 * o + 4)) := r_org hr ho (by decide) (by decide)
  have e6 : mI μ (48 + o) 6 = Int32.ofNat (z (56 + 7 * o + 6)) := r_org hr ho (by decide) (by decide)
  have g10 := hbig 10 (by decide) (by decide)
  have g9 := hbig 9 (by decide) (by decide)
  have g5 := hbig (56 + 7 * o + 5) (by omega) (by omega)
  have g4 := hbig (56 + 7 * o + 4) (by omega) (by omega)
  have g6 := hbig (56 + 7 * o + 6) (by omega) (by omega)
  have b1 : Bd (setN z 10 (z 10 + fndN z all)) := hb.set (by unfold okV; omega)
  have b2 : Bd (setN (setN z 10 (z 10 + fndN z all)) 9 (z 9 + (prtN z all - fndN z all))) := b1.set (by unfold okV; omega)
  have b3 : Bd (setN (setN (setN z 10 (z 10 + fndN z all)) 9 (z 9 + (prtN z all - fndN z all))) (56 + 7 * o + 5) (z (56 + 7 * o + 5) + ownN z o all)) := b2.set (by unfold okV; omega)
  have b4 : Bd (setN (setN (setN (setN z 10 (z 10 + fndN z all)) 9 (z 9 + (prtN z all - fndN z all))) (56 + 7 * o + 5) (z (56 + 7 * o + 5) + ownN z o all)) (56 + 7 * o + 4) (z (56 + 7 * o + 4) + ((all - prtN z all) - ownN z o all))) := b3.set (by unfold okV; omega)
  have b5 : Bd (divZ z o all) := b4.set (by unfold okV; omega)
  refine ⟨stI (stI (stI (stI (stI μ 23 14 (Int32.ofNat (z 10 + fndN z all))) 23 13 (Int32.ofNat (z 9 + (prtN z all - fndN z all)))) (48 + o) 5 (Int32.ofNat (z (56 + 7 * o + 5) + ownN z o all))) (48 + o) 4 (Int32.ofNat (z (56 + 7 * o + 4) + ((all - prtN z all) - ownN z o all)))) (48 + o) 6 (Int32.ofNat (z (56 + 7 * o + 6) + all)), ?_, ((((FrC.rf.st (by omega)).st (by omega)).st (by omega)).st (by omega)).st (by omega), rs_org (rs_org (rs_org (rs_f13 (rs_f14 hr hb) b1) b2 ho (by decide) (by decide)) b3 ho (by decide) (by decide)) b4 ho (by decide) (by decide), b5⟩
  rw [e_Twn_divideTakings _ _ _ (show cls (48 + o) = 2 from (by decide : ∀ o, o < 5 → cls (48 + o) = 2) o ho), e2, e3, e0, i3_prt hb ha, i3_fnd hb ha, i3_sub h1, i3_own hb ho ha, i3_sub h2, i3_sub h3, r_f14 hr, r_f13 hr, lt_b, i3_add, i3_add, stI_ne _ _ _ (show 48 + o ≠ 23 by omega), stI_ne _ _ _ (show 48 + o ≠ 23 by omega), e5, i3_add, st_get, if_neg (by omega), stI_ne _ _ _ (show 48 + o ≠ 23 by omega), stI_ne _ _ _ (show 48 + o ≠ 23 by omega), e4, i3_add, st_get, if_neg (by omega), st_get, if_neg (by omega), stI_ne _ _ _ (show 48 + o ≠ 23 by omega), stI_ne _ _ _ (show 48 + o ≠ 23 by omega), e6, i3_add]
end PLAY
