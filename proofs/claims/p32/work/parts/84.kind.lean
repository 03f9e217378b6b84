/-! SEMANTICS: kindestTune -/
section KIND
variable {z : Nat → Nat} {μ : PM}
theorem near_sym {c d : Nat} : near z c d ↔ near z d c := by
  show (z (16 + 4 * c) - z (16 + 4 * d)) + (z (16 + 4 * d) - z (16 + 4 * c)) ≤ z 11 ↔ (z (16 + 4 * d) - z (16 + 4 * c)) + (z (16 + 4 * c) - z (16 + 4 * d)) ≤ z 11
  rw [Nat.add_comm]
/-- the state with a tune played ahead -/
def tryZ (z : Nat → Nat) (o t : Nat) : Nat → Nat := setN z (163 + 10 * o + z 4) (t + 1)
theorem tryZ_ne {o t j : Nat} (h : j ≠ 163 + 10 * o + z 4) : tryZ z o t j = z j := setN_ne h
theorem try_near {o t c d : Nat} (hc : c < 10) (hd : d < 10) : near (tryZ z o t) c d ↔ near z c d := by
  show (tryZ z o t (16 + 4 * c) - tryZ z o t (16 + 4 * d)) + (tryZ z o t (16 + 4 * d) - tryZ z o t (16 + 4 * c)) ≤ tryZ z o t 11 ↔ _
  rw [tryZ_ne (by omega), tryZ_ne (by omega), tryZ_ne (by omega)]
theorem try_heaS {o t c b : Nat} (hb : Bd z) (ho : o < z 1) (hat : z (56 + 7 * o + 3) ≠ 0) (h0 : z (163 + 10 * o + z 4) = 0) (hc : c < 10) : (heaS (tryZ z o t) c).testBit b = true ↔ (heaS z c).testBit b = true ∨ (near z c (z (56 + 7 * o + 3) - 1) ∧ (1 <<< t).testBit b = true) := by
  have hn := hb.no
  have hh := hb.hr
  have e1 : tryZ z o t 1 = z 1 := tryZ_ne (by omega)
  have e4 : tryZ z o t 4 = z 4 := tryZ_ne (by omega)
  have e12 : tryZ z o t 12 = z 12 := tryZ_ne (by omega)
  have ea : ∀ i, i < 5 → tryZ z o t (56 + 7 * i + 3) = z (56 + 7 * i + 3) := fun i hi => tryZ_ne (by omega)
  have ev : tryZ z o t (163 + 10 * o + z 4) = t + 1 := setN_self
  rw [heaS_bit, heaS_bit, e1, e4, e12]
  constructor
  · rintro ⟨i, h1, ⟨h2, h3⟩, j, h4, h5⟩
    rw [ea i (by omega)] at h2 h3
    obtain ⟨a1, a2, a3⟩ := at_lt hb (show i < 5 by omega) h2
    rw [try_near hc a1] at h3
    by_cases q : i = o ∧ z 4 - z 12 + j = z 4
    · obtain ⟨rfl, q2⟩ := q
      rw [q2, ev] at h5
      exact Or.inr ⟨h3, h5⟩
    · rw [tryZ_ne (by omega)] at h5
      exact Or.inl ⟨i, h1, ⟨h2, h3⟩, j, h4, h5⟩
  · rintro (⟨i, h1, ⟨h2, h3⟩, j, h4, h5⟩ | ⟨h3, h5⟩)
    · obtain ⟨a1, a2, a3⟩ := at_lt hb (show i < 5 by omega) h2
      refine ⟨i, h1, by rw [ea i (by omega)]; exact ⟨h2, (try_near hc a1).mpr h3⟩, j, h4, ?_⟩
      by_cases q : i = o ∧ z 4 - z 12 + j = z 4
      · obtain ⟨rfl, q2⟩ := q
        rw [q2, h0] at h5
        have h6 : (0 : Nat).testBit b = true := h5
        rw [Nat.zero_testBit] at h6
        cases h6
      · rw [tryZ_ne (by omega)]
        exact h5
    · obtain ⟨a1, a2, a3⟩ := at_lt hb (show o < 5 by omega) hat
      refine ⟨o, ho, by rw [ea o (by omega)]; exact ⟨hat, (try_near hc a1).mpr h3⟩, z 4 - (z 4 - z 12), by omega, ?_⟩
      have e : z 4 - z 12 + (z 4 - (z 4 - z 12)) = z 4 := by omega
      rw [e, ev]
      exact h5
theorem bit1 {t b : Nat} (ht : t < 10) (hb : b < 10) : (1 <<< t).testBit b = true ↔ b = t := by
  have : ∀ t, t < 10 → ∀ b, b < 10 → ((1 <<< t).testBit b = true ↔ b = t) := by decide
  exact this t ht b hb
theorem try_reas {o t e b : Nat} (hb : Bd z) (ho : o < z 1) (hat : z (56 + 7 * o + 3) ≠ 0) (h0 : z (163 + 10 * o + z 4) = 0) (he : e < 5) (hne : e ≠ o) (ht : t < 10) (hb10 : b < 10) : reas (tryZ z o t) e b = 0 ↔ reas z e b = 0 ∧ ¬ (b = t ∧ nearO z o e) := by
  have hn := hb.no
  have hh := hb.hr
  have hp := hb.np
  have e3 : tryZ z o t (56 + 7 * e + 3) = z (56 + 7 * e + 3) := tryZ_ne (by omega)
  have e2 : tryZ z o t (56 + 7 * e + 2) = z (56 + 7 * e + 2) := tryZ_ne (by omega)
  have e4 : tryZ z o t 4 = z 4 := tryZ_ne (by omega)
  have en : tryZ z o t (163 + 10 * e + tryZ z o t 4) = z (163 + 10 * e + z 4) := by rw [e4]; exact tryZ_ne (by omega)
  have ec : crew (tryZ z o t) e = crew z e := by
    unfold crew
    rw [tryZ_ne (show 2 ≠ 163 + 10 * o + z 4 by omega)]
    exact sum_congr _ (fun i hi => by rw [tryZ_ne (by omega)])
  unfold reas
  rw [e3, e2, en, ec]
  by_cases h1 : z (56 + 7 * e + 3) = 0
  · rw [if_pos h1, if_pos h1]
    exact ⟨fun q => absurd q (by decide), fun q => absurd q.1 (by decide)⟩
  · obtain ⟨a1, a2, a3⟩ := at_lt hb he h1
    have eq1 : isQ (tryZ z o t) (z (56 + 7 * e + 3) - 1) ↔ isQ z (z (56 + 7 * e + 3) - 1) := by
      show (tryZ z o t 4 + 10 - tryZ z o t (16 + 4 * (z (56 + 7 * e + 3) - 1) + 2)) % 10 < tryZ z o t (16 + 4 * (z (56 + 7 * e + 3) - 1) + 3) ↔ _
      rw [tryZ_ne (by omega), tryZ_ne (by omega), tryZ_ne (by omega)]
    have eh := try_heaS (t := t) (b := b) hb ho hat h0 a1
    rw [if_neg h1, if_neg h1]
    by_cases h2 : crew z e = 0
    · rw [if_pos h2, if_pos h2]
      exact ⟨fun q => absurd q (by decide), fun q => absurd q.1 (by decide)⟩
    · rw [if_neg h2, if_neg h2]
      by_cases h3 : (z (56 + 7 * e + 2)).testBit b = false
      · rw [if_pos h3, if_pos h3]
        exact ⟨fun q => absurd q (by decide), fun q => absurd q.1 (by decide)⟩
      · rw [if_neg h3, if_neg h3]
        by_cases h4 : z (163 + 10 * e + z 4) ≠ 0
        · rw [if_pos h4, if_pos h4]
          exact ⟨fun q => absurd q (by decide), fun q => absurd q.1 (by decide)⟩
        · rw [if_neg h4, if_neg h4]
          by_cases h5 : isQ z (z (56 + 7 * e + 3) - 1)
          · rw [if_pos (eq1.mpr h5), if_pos h5]
            exact ⟨fun q => absurd q (by decide), fun q => absurd q.1 (by decide)⟩
          · rw [if_neg (fun q => h5 (eq1.mp q)), if_neg h5]
            by_cases h6 : (heaS z (z (56 + 7 * e + 3) - 1)).testBit b = true
            · rw [if_pos (eh.mpr (Or.inl h6)), if_pos h6]
              exact ⟨fun q => absurd q (by decide), fun q => absurd q.1 (by decide)⟩
            · rw [if_neg h6]
              by_cases h7 : b = t ∧ nearO z o e
              · rw [if_pos (eh.mpr (Or.inr ⟨near_sym.mp h7.2.2.2, (bit1 ht hb10).mpr h7.1⟩))]
                exact ⟨fun q => absurd q (by decide), fun q => absurd h7 q.2⟩
              · rw [if_neg (fun q => (eh.mp q).elim h6 (fun q => h7 ⟨(bit1 ht hb10).mp q.2, hat, h1, near_sym.mp q.1⟩))]
                exact ⟨fun _ => ⟨rfl, h7⟩, fun _ => rfl⟩
/-- a tune that another one could no longer play -/
def hidN (z : Nat → Nat) (o t e : Nat) : Prop := (tunS z e).testBit t = true ∧ nearO z o e
theorem try_size {o t e : Nat} (hb : Bd z) (ho : o < z 1) (hat : z (56 + 7 * o + 3) ≠ 0) (h0 : z (163 + 10 * o + z 4) = 0) (he : e < 5) (hne : e ≠ o) (ht : t < 10) :
    (hidN z o t e ∧ sizS (tunS (tryZ z o t) e) + 1 = sizS (tunS z e)) ∨ (¬ hidN z o t e ∧ sizS (tunS (tryZ z o t) e) = sizS (tunS z e)) := by
  have hbit : ∀ b, b < 10 → ((tunS (tryZ z o t) e).testBit b = true ↔ (tunS z e).testBit b = true ∧ ¬ (b = t ∧ nearO z o e)) := fun b hb10 => by
    rw [tunS_bit, tunS_bit, try_reas hb ho hat h0 he hne ht hb10]
    exact ⟨fun ⟨q1, q2, q3⟩ => ⟨⟨q1, q2⟩, q3⟩, fun ⟨⟨q1, q2⟩, q3⟩ => ⟨q1, q2, q3⟩⟩
  by_cases h : hidN z o t e
  · refine Or.inl ⟨h, ?_⟩
    have := sum_one (f := fun b => if (tunS (tryZ z o t) e).testBit b then 1 else 0) (f' := fun b => if (tunS z e).testBit b then 1 else 0) (m := t) 10 ht (fun i hi hne => by
      by_cases q : (tunS z e).testBit i = true
      · rw [if_pos q, if_pos ((hbit i hi).mpr ⟨q, fun r => hne r.1⟩)]
      · rw [if_neg q, if_neg (fun r => q ((hbit i hi).mp r).1)])
    have this2 : sizS (tunS z e) + (if (tunS (tryZ z o t) e).testBit t then 1 else 0) = sizS (tunS (tryZ z o t) e) + (if (tunS z e).testBit t then 1 else 0) := this
    rw [if_pos h.1, if_neg (fun r => ((hbit t ht).mp r).2 ⟨rfl, h.2⟩)] at this2
    omega
  · refine Or.inr ⟨h, sum_congr 10 (fun i hi => ?_)⟩
    by_cases q : (tunS z e).testBit i = true
    · rw [if_pos q, if_pos ((hbit i hi).mpr ⟨q, fun r => h ⟨by rw [← r.1]; exact q, r.2⟩⟩)]
    · rw [if_neg q, if_neg (fun r => q ((hbit i hi).mp r).1)]
/-- pairs left behind a tune, and all pairs -/
def prB (z : Nat → Nat) (o t : Nat) : Nat := sum (z 1) (fun e => if e = o then 0 else sizS (tunS (tryZ z o t) e))
def prA (z : Nat → Nat) (o : Nat) : Nat := sum (z 1) (fun e => if e = o then 0 else sizS (tunS z e))
theorem sizS_le {b : Nat} : sizS b ≤ 10 := by
  have := sum_le (f := fun t => if b.testBit t then 1 else 0) (b := 1) 10 (fun i _ => by split <;> omega)
  unfold sizS
  omega
/-- the class's: how many others could no longer play a tune -/
noncomputable def hidC (z : Nat → Nat) (o t : Nat) : Nat → Nat
  | 0 => 0
  | n + 1 => hidC z o t n + @ite Nat (n ≠ o ∧ hidN z o t n) (Classical.propDecidable _) 1 0
theorem hidC_s {o t n : Nat} : (n ≠ o ∧ hidN z o t n → hidC z o t (n + 1) = hidC z o t n + 1) ∧ (¬ (n ≠ o ∧ hidN z o t n) → hidC z o t (n + 1) = hidC z o t n) := by
  constructor
  · intro h
    show hidC z o t n + @ite Nat _ (Classical.propDecidable _) 1 0 = _
    rw [if_pos h]
  · intro h
    show hidC z o t n + @ite Nat _ (Classical.propDecidable _) 1 0 = _
    rw [if_neg h]
    rfl
theorem pr_hid {o t : Nat} (hb : Bd z) (ho : o < z 1) (hat : z (56 + 7 * o + 3) ≠ 0) (h0 : z (163 + 10 * o + z 4) = 0) (ht : t < 10) : prB z o t + hidC z o t (z 1) = prA z o := by
  have hn := hb.no
  have key : ∀ n, n ≤ z 1 → sum n (fun e => if e = o then 0 else sizS (tunS (tryZ z o t) e)) + hidC z o t n = sum n (fun e => if e = o then 0 else sizS (tunS z e)) := by
    intro n
    induction n with
    | zero => intro _; rfl
    | succ n ih =>
      intro h
      have ih := ih (by omega)
      show sum n _ + (if n = o then 0 else sizS (tunS (tryZ z o t) n)) + hidC z o t (n + 1) = sum n _ + (if n = o then 0 else sizS (tunS z n))
      by_cases q : n = o
      · rw [if_pos q, if_pos q, hidC_s.2 (fun r => r.1 q)]
        omega
      · rw [if_neg q, if_neg q]
        rcases try_size (t := t) hb ho hat h0 (show n < 5 by omega) q ht with ⟨r1, r2⟩ | ⟨r1, r2⟩
        · rw [hidC_s.1 ⟨q, r1⟩]
          omega
        · rw [hidC_s.2 (fun r => r1 r.2)]
          omega
  exact key (z 1) (Nat.le_refl _)
theorem hid_le {o t : Nat} (ho : o < z 1) : hidC z o t (z 1) + 1 ≤ z 1 := by
  have key : ∀ n, hidC z o t n + (if o < n then 1 else 0) ≤ n := by
    intro n
    induction n with
    | zero => rw [if_neg (Nat.not_lt_zero o)]; exact Nat.le_refl _
    | succ n ih =>
      by_cases q : n = o
      · rw [hidC_s.2 (fun r => r.1 q), if_pos (by omega)]
        rw [if_neg (by omega)] at ih
        omega
      · have h1 : hidC z o t (n + 1) ≤ hidC z o t n + 1 := by
          by_cases r : n ≠ o ∧ hidN z o t n
          · rw [hidC_s.1 r]; exact Nat.le_refl _
          · rw [hidC_s.2 r]; omega
        by_cases r : o < n
        · rw [if_pos r] at ih
          rw [if_pos (by omega)]
          omega
        · rw [if_neg r] at ih
          rw [if_neg (by omega)]
          omega
  have := key (z 1)
  rw [if_pos ho] at this
  exact this
theorem t_lookAt (hr : RT 23 z μ) (hb : Bd z) : ∃ μ', d_Out_lookAt μ = some (.inl none, μ') ∧ ScC μ μ' ∧ ∀ e, e < z 1 → mI μ' 10 e = Int32.ofNat (tunS z e) := by
  have hn := hb.no
  have key : ∀ m, m ≤ z 1 → ∃ μ', Out_lookAt_2 0 μ = Out_lookAt_2 (Int32.ofNat m) μ' ∧ ScC μ μ' ∧ ∀ e, e < m → mI μ' 10 e = Int32.ofNat (tunS z e) := by
    intro m
    induction m with
    | zero => intro _; exact ⟨μ, rfl, ScC.rf, fun e he => absurd he (Nat.not_lt_zero e)⟩
    | succ m ih =>
      intro hm
      obtain ⟨μ1, a1, a2, a3⟩ := ih (by omega)
      have hr1 := a2.rt hr
      refine ⟨stI μ1 10 m (Int32.ofNat (tunS z m)), ?_, a2.st (by decide), fun e he => ?_⟩
      · rw [a1, Out_lookAt_2_eq, r_f5 hr1, if_neg (le_n (by omega) (by omega)), t_playableTunes hr1 hb (by omega), bI_r, chk_t (i3_inb (by omega) (by decide)), i3_nat (by omega), i3_add1]
      · rw [st_get]
        by_cases q : e = m
        · rw [if_pos ⟨rfl, q⟩, q]
        · rw [if_neg (fun r => q r.2)]; exact a3 e (by omega)
  obtain ⟨μ1, a1, a2, a3⟩ := key (z 1) (Nat.le_refl _)
  refine ⟨μ1, ?_, a2, a3⟩
  rw [e_Out_lookAt, a1, Out_lookAt_2_eq, r_f5 (a2.rt hr), if_pos (le_y (Nat.le_refl _) (by omega))]
theorem t_hindered {o t : Nat} (hr : RT 23 z μ) (hb : Bd z) (hL : ∀ e, e < z 1 → mI μ 10 e = Int32.ofNat (tunS z e)) (ho : o < z 1) (ht : t < 10) : d_Out_hinderedPairs (Int32.ofNat o) (Int32.ofNat t) μ = rI (Int32.ofNat (hidC z o t (z 1))) μ := by
  have hn := hb.no
  have key : ∀ m, m ≤ z 1 → Out_hinderedPairs_6 (Int32.ofNat o) (Int32.ofNat t) 0 0 μ = Out_hinderedPairs_6 (Int32.ofNat o) (Int32.ofNat t) (Int32.ofNat (hidC z o t m)) (Int32.ofNat m) μ := by
    intro m
    induction m with
    | zero => intro _; rfl
    | succ m ih =>
      intro hm
      have hl := tunS_lt (z := z) (o := m)
      rw [ih (by omega), Out_hinderedPairs_6_eq, r_f5 hr, if_neg (le_n (by omega) (by omega)), i3_add1]
      by_cases q : m = o
      · rw [if_pos (by rw [q]), hidC_s.2 (fun r => r.1 q)]
      · rw [if_neg (fun r => q (by rw [i3_eq (by omega) (by omega)] at r; exact r)), chk_t (i3_inb (by omega) (by decide)), i3_nat (by omega), hL m (by omega), t_holds (by omega) ht, bI_r]
        by_cases q2 : (tunS z m).testBit t = true
        · rw [if_pos q2, if_neg (by decide)]
          obtain ⟨v, h1, h2⟩ := t_areNear (o := o) (e := m) hr hb (by omega) (by omega)
          rw [h1, bI_r]
          rcases h2 with ⟨h3, h4⟩ | ⟨h3, h4⟩
          · rw [h3, if_neg (by decide), hidC_s.1 ⟨q, q2, h4⟩, i3_add1]
          · rw [h3, if_pos rfl, hidC_s.2 (fun r => h4 r.2.2)]
        · rw [if_neg q2, if_pos rfl, hidC_s.2 (fun r => q2 r.2.1)]
  rw [e_Out_hinderedPairs, key (z 1) (Nat.le_refl _), Out_hinderedPairs_6_eq, r_f5 hr, if_pos (le_y (Nat.le_refl _) (by omega))]
/-- the model's choice: the tune, one greater, and the most, one greater -/
def kst (z : Nat → Nat) (o : Nat) : Nat → Nat × Nat
  | 0 => (0, 0)
  | t + 1 => if (tunS z o).testBit t = true ∧ (kst z o t).2 ≤ prB z o t then (t + 1, prB z o t + 1) else kst z o t
theorem can_o {o t : Nat} (h : (tunS z o).testBit t = true) : z (56 + 7 * o + 3) ≠ 0 ∧ z (163 + 10 * o + z 4) = 0 := by
  have := reas_0 (tunS_bit.mp h).2
  exact ⟨this.1, this.2.2⟩
theorem kst_bd {o : Nat} (hb : Bd z) : ∀ t, t ≤ 10 → (kst z o t).1 ≤ t ∧ (kst z o t).2 ≤ 51 := by
  have hn := hb.no
  have hpr : ∀ t, prB z o t ≤ 50 := fun t => by
    have := sum_le (f := fun e => if e = o then 0 else sizS (tunS (tryZ z o t) e)) (b := 10) (z 1) (fun i _ => by
      have := sizS_le (b := tunS (tryZ z o t) i)
      split <;> omega)
    unfold prB
    omega
  intro t
  induction t with
  | zero => intro _; exact ⟨Nat.le_refl _, by show 0 ≤ 51; omega⟩
  | succ t ih =>
    intro h
    obtain ⟨h1, h2⟩ := ih (by omega)
    show (if _ then (t + 1, prB z o t + 1) else kst z o t).1 ≤ t + 1 ∧ (if _ then (t + 1, prB z o t + 1) else kst z o t).2 ≤ 51
    have := hpr t
    split
    · exact ⟨Nat.le_refl _, by show prB z o t + 1 ≤ 51; omega⟩
    · exact ⟨by omega, h2⟩
theorem pm_le {a m : Nat} (ha : a < 2147483647) (hm : m < 2147483648) : Int32.ofNat a ≤ pm m ↔ a + 1 ≤ m := by
  cases m with
  | zero =>
    rw [pm_zero]
    have h1 : ¬ Int32.ofNat a ≤ -1 := fun q => by
      have h2 : Int32.ofNat a < 0 := Int32.lt_of_le_of_lt q (by decide)
      exact absurd h2 (lt_n (b := 0) (Nat.zero_le _) (by omega))
    exact ⟨fun q => absurd q h1, fun q => absurd q (by omega)⟩
  | succ m =>
    rw [pm_succ, i3_le (by omega) (by omega)]
    omega
theorem pm_ge {m : Nat} (hm : m < 2147483648) : (-1 : Int32) ≤ pm m := by
  cases m with
  | zero => rw [pm_zero]; exact Int32.le_refl _
  | succ m => rw [pm_succ]; exact Int32.le_trans (show (-1 : Int32) ≤ 0 by decide) (show (0 : Int32) ≤ _ from le_y (a := 0) (Nat.zero_le _) (by omega))
/-- the class's choice is the model's -/
theorem t_least {o : Nat} (hr : RT 23 z μ) (hb : Bd z) (hL : ∀ e, e < z 1 → mI μ 10 e = Int32.ofNat (tunS z e)) (ho : o < z 1) : d_Out_leastHindering (Int32.ofNat o) μ = rI (pm (kst z o 10).1) μ := by
  have hn := hb.no
  have hl := tunS_lt (z := z) (o := o)
  have key : ∀ t, t ≤ 10 → ∃ w L, Out_leastHindering_8 (Int32.ofNat o) (-1) 5 0 pU μ = Out_leastHindering_8 (Int32.ofNat o) (pm (kst z o t).1) (Int32.ofNat L) (Int32.ofNat t) w μ ∧ L ≤ 5 ∧ (((kst z o t).2 = 0 ∧ L = 5) ∨ ((kst z o t).2 + L = prA z o + 1 ∧ L ≤ prA z o)) := by
    intro t
    induction t with
    | zero => intro _; exact ⟨pU, 5, rfl, Nat.le_refl _, Or.inl ⟨rfl, rfl⟩⟩
    | succ t ih =>
      intro h
      obtain ⟨w, L, a1, a2, a3⟩ := ih (by omega)
      rw [a1, Out_leastHindering_8_eq, if_neg (show ¬ (10 : Int32) ≤ Int32.ofNat t from le_n (a := 10) (by omega) (by decide)), chk_t (i3_inb (by omega) (by decide)), i3_nat (by omega), hL o ho, t_holds (by omega) (by omega), bI_r, i3_add1]
      by_cases q : (tunS z o).testBit t = true
      · obtain ⟨g1, g2⟩ := can_o q
        have hph := pr_hid (t := t) hb ho g1 g2 (by omega)
        have hhl := hid_le (z := z) (t := t) ho
        rw [if_pos q, if_neg (by decide), t_hindered hr hb hL ho (by omega), bI_r]
        by_cases q2 : (kst z o t).2 ≤ prB z o t
        · have e : kst z o (t + 1) = (t + 1, prB z o t + 1) := if_pos ⟨q, q2⟩
          rw [if_neg (le_n (show hidC z o t (z 1) < L by omega) (by omega)), e]
          exact ⟨_, hidC z o t (z 1), by rw [pm_succ], by omega, Or.inr ⟨by show prB z o t + 1 + _ = _; omega, by omega⟩⟩
        · have e : kst z o (t + 1) = kst z o t := if_neg (fun r => q2 r.2)
          rw [if_pos (le_y (show L ≤ hidC z o t (z 1) by omega) (by omega)), e]
          exact ⟨_, L, rfl, a2, a3⟩
      · have e : kst z o (t + 1) = kst z o t := if_neg (fun r => q r.1)
        rw [if_neg q, if_pos rfl, e]
        exact ⟨w, L, rfl, a2, a3⟩
  obtain ⟨w, L, a1, a2, a3⟩ := key 10 (Nat.le_refl _)
  rw [e_Out_leastHindering, a1, Out_leastHindering_8_eq, if_pos (by decide)]
theorem t_kindest {o : Nat} (hr : RT 23 z μ) (hb : Bd z) (ho : o < z 1) : ∃ μ', d_Oc_kindestTune (Int32.ofNat o) μ = rI (pm (kst z o 10).1) μ' ∧ ScC μ μ' := by
  have hn := hb.no
  obtain ⟨μ1, a1, a2, a3⟩ := t_lookAt hr hb
  refine ⟨μ1, ?_, a2⟩
  rw [e_Oc_kindestTune, r_f5 hr, reqI_y ho (by omega), bV_r, a1, bV_r, t_least (a2.rt hr) hb a3 ho, bI_r]
end KIND
