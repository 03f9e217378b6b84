/-! SEMANTICS: the most: the class's search -/
section MOST4
variable {z : Nat → Nat} {μ : PM}
theorem t_playedNear0 {o : Nat} (hr : RT 23 z μ) (hb : Bd z) (ho : o < 5) (hat : z (56 + 7 * o + 3) = 0) : d_Twn_playedNear (Int32.ofNat o) μ = rI 0 μ := by
  have hq := hb.no
  have hh := hb.hr
  rw [e_Twn_playedNear]
  have key : ∀ m, m ≤ z 1 → Twn_playedNear_4 (Int32.ofNat o) 0 0 μ = Twn_playedNear_4 (Int32.ofNat o) 0 (Int32.ofNat m) μ := by
    intro m
    induction m with
    | zero => intro _; rfl
    | succ m ih =>
      intro hm
      rw [ih (by omega), Twn_playedNear_4_eq, r_f5 hr, if_neg (le_n (by omega) (by omega)), chk_t (i3_inb (by omega) (by decide)), i3_nat (by omega), r_now hr (by omega), i3_add1]
      by_cases h1 : m = o
      · rw [if_pos (by rw [h1])]
      · rw [if_neg (fun q => h1 (by rw [i3_eq (by omega) (by omega)] at q; exact q))]
        by_cases h2 : z (163 + 10 * m + z 4) = 0
        · rw [if_pos ((pm_none (by have := hb.tun m (by omega) (z 4) (by omega); omega)).mpr h2)]
        · obtain ⟨v, hv, hv2⟩ := t_areNear (o := o) (e := m) hr hb ho (by omega)
          rw [if_neg (fun q => h2 ((pm_none (by have := hb.tun m (by omega) (z 4) (by omega); omega)).mp q)), hv, bI_r]
          rcases hv2 with ⟨_, h3⟩ | ⟨rfl, _⟩
          · exact absurd hat h3.1
          · rw [if_pos rfl]
  rw [key (z 1) (Nat.le_refl _), Twn_playedNear_4_eq, r_f5 hr, if_pos (le_y (Nat.le_refl _) (by omega))]
theorem t_takingsFor0 {o : Nat} {x : Int32} (hr : RT 23 z μ) (hb : Bd z) (ho : o < 5) (hat : z (56 + 7 * o + 3) = 0) : d_Twn_takingsFor (Int32.ofNat o) x μ = rI 0 μ := by
  rw [e_Twn_takingsFor, t_cornerOf hr hb ho, if_pos hat]
  rfl
theorem ahS_le {S o : Nat} : ahS z S o ≤ o := by
  have := sum_le (f := fun e => if S.testBit e = true ∧ z (56 + 7 * e + 3) ≠ 0 ∧ near z (z (56 + 7 * o + 3) - 1) (z (56 + 7 * e + 3) - 1) then 1 else 0) (b := 1) o (fun i _ => by split <;> omega)
  unfold ahS
  omega
theorem t_nearAhead {S o : Nat} (hr : RT 23 z μ) (hb : Bd z) (hS : S < 32) (ho : o < 5) : ∃ k, d_Out_nearAhead (Int32.ofNat S) (Int32.ofNat o) μ = rI (Int32.ofNat k) μ ∧ (z (56 + 7 * o + 3) ≠ 0 → k = ahS z S o) := by
  by_cases hat : z (56 + 7 * o + 3) = 0
  · refine ⟨0, ?_, fun q => absurd hat q⟩
    have key : ∀ m, m ≤ o → Out_nearAhead_5 (Int32.ofNat S) (Int32.ofNat o) 0 0 μ = Out_nearAhead_5 (Int32.ofNat S) (Int32.ofNat o) 0 (Int32.ofNat m) μ := by
      intro m
      induction m with
      | zero => intro _; rfl
      | succ m ih =>
        intro hm
        rw [ih (by omega), Out_nearAhead_5_eq, if_neg (le_n (by omega) (by omega)), t_holds (by omega) (by omega), bI_r, i3_add1]
        by_cases q : S.testBit m = true
        · obtain ⟨v, hv, hv2⟩ := t_areNear (o := o) (e := m) hr hb ho (by omega)
          rw [if_pos q, if_neg (by decide), hv, bI_r]
          rcases hv2 with ⟨_, h3⟩ | ⟨rfl, _⟩
          · exact absurd hat h3.1
          · rw [if_pos rfl]
        · rw [if_neg q, if_pos rfl]
    rw [e_Out_nearAhead, key o (Nat.le_refl _), Out_nearAhead_5_eq, if_pos (le_y (Nat.le_refl _) (by omega))]
    rfl
  · refine ⟨ahS z S o, ?_, fun _ => rfl⟩
    rw [e_Out_nearAhead]
    refine (loopS (fun i a (_ : Unit) => Out_nearAhead_5 (Int32.ofNat S) (Int32.ofNat o) a i μ) o (fun e => if S.testBit e = true ∧ z (56 + 7 * e + 3) ≠ 0 ∧ near z (z (56 + 7 * o + 3) - 1) (z (56 + 7 * e + 3) - 1) then 1 else 0) () (fun i hi a => ?_)).trans ?_
    · show Out_nearAhead_5 _ _ _ _ _ = Out_nearAhead_5 _ _ _ _ _
      rw [Out_nearAhead_5_eq, if_neg (le_n hi (by omega)), t_holds (by omega) (by omega), bI_r, i3_add1, i3_add1]
      by_cases q : S.testBit i = true
      · obtain ⟨v, hv, hv2⟩ := t_areNear (o := o) (e := i) hr hb ho (by omega)
        rw [if_pos q, if_neg (by decide), hv, bI_r]
        rcases hv2 with ⟨rfl, h3⟩ | ⟨rfl, h3⟩
        · rw [if_neg (by decide), if_pos ⟨q, h3.2⟩]
        · rw [if_pos rfl, if_neg (fun r => h3 ⟨hat, r.2⟩)]
          rfl
      · rw [if_neg q, if_pos rfl, if_neg (fun r => q r.1)]
        rfl
    · show Out_nearAhead_5 _ _ _ _ _ = _
      rw [Out_nearAhead_5_eq, if_pos (le_y (Nat.le_refl _) (by omega))]
      rfl
theorem t_takingsOf {S : Nat} (hr : RT 23 z μ) (hb : Bd z) (hpl : Pl z) (hS : S < 32) : d_Out_takingsOf (Int32.ofNat S) μ = rI (Int32.ofNat (tkS z S)) μ := by
  have hn := hb.no
  have key : ∀ m, m ≤ z 1 → ∃ w, Out_takingsOf_4 (Int32.ofNat S) 0 0 pU μ = Out_takingsOf_4 (Int32.ofNat S) (Int32.ofNat (sum m (fun o => if S.testBit o = true then (if z (56 + 7 * o + 3) = 0 then 0 else takN z o (othN z o + ahS z S o)) else 0))) (Int32.ofNat m) w μ := by
    intro m
    induction m with
    | zero => intro _; exact ⟨pU, rfl⟩
    | succ m ih =>
      intro hm
      obtain ⟨w, a1⟩ := ih (by omega)
      have hs : sum (m + 1) (fun o => if S.testBit o = true then (if z (56 + 7 * o + 3) = 0 then 0 else takN z o (othN z o + ahS z S o)) else 0) = sum m (fun o => if S.testBit o = true then (if z (56 + 7 * o + 3) = 0 then 0 else takN z o (othN z o + ahS z S o)) else 0) + (if S.testBit m = true then (if z (56 + 7 * m + 3) = 0 then 0 else takN z m (othN z m + ahS z S m)) else 0) := rfl
      rw [a1, Out_takingsOf_4_eq, r_f5 hr, if_neg (le_n (by omega) (by omega)), t_holds (by omega) (by omega), bI_r, i3_add1, hs]
      by_cases q : S.testBit m = true
      · obtain ⟨k, hk1, hk2⟩ := t_nearAhead (o := m) hr hb hS (by omega)
        rw [if_pos q, if_neg (by decide), if_pos q]
        by_cases hat : z (56 + 7 * m + 3) = 0
        · rw [t_playedNear0 hr hb (by omega) hat, bI_r, hk1, bI_r, t_takingsFor0 hr hb (by omega) hat, bI_r, if_pos hat, i3_add0]
          exact ⟨_, rfl⟩
        · have hol := othN_le (o := m) hb
          have hal := ahS_le (z := z) (S := S) (o := m)
          rw [t_playedNear hr hb hpl (by omega) hat, bI_r, hk1, bI_r, hk2 hat, i3_add, t_takingsFor hr hb (by omega) hat (by omega), bI_r, if_neg hat, i3_add]
          exact ⟨_, rfl⟩
      · rw [if_neg q, if_pos rfl, if_neg q]
        exact ⟨w, rfl⟩
  obtain ⟨w, a1⟩ := key (z 1) (Nat.le_refl _)
  rw [e_Out_takingsOf, a1, Out_takingsOf_4_eq, r_f5 hr, if_pos (le_y (Nat.le_refl _) (by omega))]
  rfl
/-- tunes can be chosen from an organ on -/
def FSs (z : Nat → Nat) (S : Nat) : Nat → Nat → (Nat → Nat) → Prop
  | 0, _, _ => True
  | k + 1, o, C => if S.testBit o = true then ∃ t, t < 10 ∧ (tunS z o).testBit t = true ∧ (∀ e, e < o → S.testBit e = true → C e = t → ¬ nearO z o e) ∧ FSs z S k (o + 1) (setN C o t) else FSs z S k (o + 1) C
theorem FSs_iff {S : Nat} : ∀ k o C, FSs z S k o C ↔ ∃ T : Nat → Nat, (∀ e, e < o → S.testBit e = true → T e = C e) ∧ ∀ e, o ≤ e → e < o + k → S.testBit e = true → (T e < 10 ∧ (tunS z e).testBit (T e) = true ∧ ∀ i, i < e → S.testBit i = true → T i = T e → ¬ nearO z e i) := by
  intro k
  induction k with
  | zero => intro o C; exact ⟨fun _ => ⟨C, fun _ _ _ => rfl, fun e h1 h2 => absurd h2 (by omega)⟩, fun _ => trivial⟩
  | succ k ih =>
    intro o C
    show (if S.testBit o = true then _ else _) ↔ _
    by_cases q : S.testBit o = true
    · rw [if_pos q]
      constructor
      · rintro ⟨t, t1, t2, t3, t4⟩
        obtain ⟨T, h1, h2⟩ := (ih (o + 1) (setN C o t)).mp t4
        have ho : T o = t := by rw [h1 o (by omega) q, setN_self]
        have hlo : ∀ e, e < o → S.testBit e = true → T e = C e := fun e he hs => by rw [h1 e (by omega) hs, setN_ne (by omega)]
        refine ⟨T, hlo, fun e h3 h4 h5 => ?_⟩
        by_cases r : e = o
        · subst r
          rw [ho]
          exact ⟨t1, t2, fun i hi hs hw => t3 i hi hs (by rw [← hlo i hi hs]; exact hw)⟩
        · exact h2 e (by omega) (by omega) h5
      · rintro ⟨T, h1, h2⟩
        obtain ⟨g1, g2, g3⟩ := h2 o (Nat.le_refl _) (by omega) q
        refine ⟨T o, g1, g2, fun e he hs hc => g3 e he hs (by rw [h1 e he hs]; exact hc), (ih (o + 1) _).mpr ⟨T, fun e he hs => ?_, fun e h3 h4 h5 => h2 e (by omega) (by omega) h5⟩⟩
        by_cases r : e = o
        · rw [r, setN_self]
        · rw [setN_ne r]; exact h1 e (by omega) hs
    · rw [if_neg q, ih (o + 1) C]
      constructor
      · rintro ⟨T, h1, h2⟩
        refine ⟨T, fun e he hs => h1 e (by omega) hs, fun e h3 h4 h5 => ?_⟩
        by_cases r : e = o
        · subst r; exact absurd h5 q
        · exact h2 e (by omega) (by omega) h5
      · rintro ⟨T, h1, h2⟩
        refine ⟨T, fun e he hs => ?_, fun e h3 h4 h5 => h2 e (by omega) (by omega) h5⟩
        by_cases r : e = o
        · subst r; exact absurd hs q
        · exact h1 e (by omega) hs
theorem feas_iff {S : Nat} (C : Nat → Nat) : feas z S ↔ FSs z S (z 1) 0 C := by
  rw [FSs_iff]
  constructor
  · rintro ⟨Q, g1, g2⟩
    refine ⟨fun e => Q e - 1, fun e he => absurd he (Nat.not_lt_zero e), fun e _ h2 h3 => ?_⟩
    have h0 := (g2 e (by omega)).mp h3
    rcases g1 e (by omega) with g | ⟨g3, g4, g5, g6⟩
    · exact absurd g h0
    · refine ⟨by show Q e - 1 < 10; omega, g5, fun i hi hs hw => g6 i hi ?_⟩
      have h1 := (g2 i (by omega)).mp hs
      have hw' : Q i - 1 = Q e - 1 := hw
      omega
  · rintro ⟨T, -, h2⟩
    refine ⟨fun e => if S.testBit e = true then T e + 1 else 0, fun e he => ?_, fun e he => ?_⟩
    · by_cases q : S.testBit e = true
      · obtain ⟨a1, a2, a3⟩ := h2 e (Nat.zero_le _) (by omega) q
        refine Or.inr ?_
        show (if S.testBit e = true then T e + 1 else 0) ≤ 10 ∧ 1 ≤ (if S.testBit e = true then T e + 1 else 0) ∧ cpk z e (if S.testBit e = true then T e + 1 else 0) _
        rw [if_pos q]
        refine ⟨by omega, by omega, a2, fun i hi hw => ?_⟩
        have hw' : (if S.testBit i = true then T i + 1 else 0) = T e + 1 := hw
        by_cases r : S.testBit i = true
        · rw [if_pos r] at hw'
          exact a3 i hi r (by omega)
        · rw [if_neg r] at hw'
          omega
      · exact Or.inl (if_neg q)
    · show S.testBit e = true ↔ (if S.testBit e = true then T e + 1 else 0) ≠ 0
      by_cases q : S.testBit e = true
      · rw [if_pos q]; exact ⟨fun _ => by omega, fun _ => q⟩
      · rw [if_neg q]; exact ⟨fun r => absurd r q, fun r => absurd rfl r⟩
/-- what the choice of tunes leaves alone from an organ on -/
def FL (o : Nat) (μ μ' : PM) : Prop := ScC μ μ' ∧ mI μ' 10 = mI μ 10 ∧ mI μ' 9 = mI μ 9 ∧ ∀ i, i < o → mI μ' 11 i = mI μ 11 i
theorem FL.rf {o : Nat} : FL o μ μ := ⟨ScC.rf, rfl, rfl, fun _ _ => rfl⟩
theorem FL.tr {o : Nat} {μ1 μ2 : PM} (h : FL o μ μ1) (h' : FL o μ1 μ2) : FL o μ μ2 := ⟨h.1.tr h'.1, h'.2.1.trans h.2.1, h'.2.2.1.trans h.2.2.1, fun i hi => (h'.2.2.2 i hi).trans (h.2.2.2 i hi)⟩
theorem FL.le {o o' : Nat} {μ1 : PM} (h : FL o' μ μ1) (ho : o ≤ o') : FL o μ μ1 := ⟨h.1, h.2.1, h.2.2.1, fun i hi => h.2.2.2 i (by omega)⟩
theorem FL.st {o j : Nat} {v : Int32} {μ1 : PM} (h : FL o μ μ1) (hj : o ≤ j) : FL o μ (stI μ1 11 j v) := ⟨h.1.st (by decide), by rw [stI_ne _ _ _ (by decide), h.2.1], by rw [stI_ne _ _ _ (by decide), h.2.2.1], fun i hi => by rw [st_get, if_neg (by omega), h.2.2.2 i hi]⟩
theorem t_isFree {S o t : Nat} {C : Nat → Nat} (hr : RT 23 z μ) (hb : Bd z) (hS : S < 32) (ho : o < 5) (ht : t < 10) (hC : ∀ e, e < o → S.testBit e = true → C e < 10 ∧ mI μ 11 e = Int32.ofNat (C e)) : ∃ v : Int32, d_Out_isFree (Int32.ofNat S) (Int32.ofNat o) (Int32.ofNat t) μ = rI v μ ∧ ((v = 1 ∧ ∀ e, e < o → S.testBit e = true → C e = t → ¬ nearO z o e) ∨ (v = 0 ∧ ¬ ∀ e, e < o → S.testBit e = true → C e = t → ¬ nearO z o e)) := by
  rw [e_Out_isFree]
  have key : ∀ k e, e + k = o → (∀ i, i < e → S.testBit i = true → C i = t → ¬ nearO z o i) → ∃ v : Int32, Out_isFree_3 (Int32.ofNat S) (Int32.ofNat o) (Int32.ofNat t) (Int32.ofNat e) μ = rI v μ ∧ ((v = 1 ∧ ∀ e, e < o → S.testBit e = true → C e = t → ¬ nearO z o e) ∨ (v = 0 ∧ ¬ ∀ e, e < o → S.testBit e = true → C e = t → ¬ nearO z o e)) := by
    intro k
    induction k with
    | zero =>
      intro e he hi
      have e2 : e = o := by omega
      subst e2
      exact ⟨1, by rw [Out_isFree_3_eq, if_pos (le_y (Nat.le_refl _) (by omega))], Or.inl ⟨rfl, hi⟩⟩
    | succ k ih =>
      intro e he hi
      rw [Out_isFree_3_eq, if_neg (le_n (by omega) (by omega)), t_holds (by omega) (by omega), bI_r, i3_add1]
      by_cases q : S.testBit e = true
      · obtain ⟨c1, c2⟩ := hC e (by omega) q
        rw [if_pos q, if_neg (by decide), chk_t (i3_inb (by omega) (by decide)), i3_nat (by omega), c2]
        by_cases q2 : C e = t
        · obtain ⟨v, hv, hv2⟩ := t_areNear (o := o) (e := e) hr hb ho (by omega)
          rw [if_neg (fun r => r (by rw [q2])), hv, bI_r]
          rcases hv2 with ⟨rfl, h3⟩ | ⟨rfl, h3⟩
          · rw [if_neg (by decide)]
            exact ⟨0, rfl, Or.inr ⟨rfl, fun r => r e (by omega) q q2 h3⟩⟩
          · rw [if_pos rfl]
            exact ih (e + 1) (by omega) (fun i h1 h2 h4 => by
              by_cases r : i = e
              · subst r; exact h3
              · exact hi i (by omega) h2 h4)
        · rw [if_pos (fun r => q2 (by rw [i3_eq (by omega) (by omega)] at r; exact r))]
          exact ih (e + 1) (by omega) (fun i h1 h2 h4 => by
            by_cases r : i = e
            · subst r; exact absurd h4 q2
            · exact hi i (by omega) h2 h4)
      · rw [if_neg q, if_pos rfl]
        exact ih (e + 1) (by omega) (fun i h1 h2 h4 => by
          by_cases r : i = e
          · subst r; exact absurd h2 q
          · exact hi i (by omega) h2 h4)
  exact key o 0 (by omega) (fun i hi => absurd hi (Nat.not_lt_zero i))
theorem t_find {S : Nat} (hb : Bd z) (hS : S < 32) : ∀ (k o : Nat) (C : Nat → Nat) (μ : PM), o + k = z 1 → RT 23 z μ → (∀ e, e < z 1 → mI μ 10 e = Int32.ofNat (tunS z e)) → (∀ e, e < o → S.testBit e = true → C e < 10 ∧ mI μ 11 e = Int32.ofNat (C e)) →
    ∃ (v : Int32) (μ' : PM), d_Out_findTunes (Int32.ofNat S) (Int32.ofNat o) μ = rI v μ' ∧ FL o μ μ' ∧ ((v = 1 ∧ FSs z S k o C) ∨ (v = 0 ∧ ¬ FSs z S k o C)) := by
  have hn := hb.no
  intro k
  induction k with
  | zero =>
    intro o C μ ho hr hL hC
    exact ⟨1, μ, by rw [e_Out_findTunes _ _ _ (show (0 : Int32) ≤ Int32.ofNat o from le_y (a := 0) (Nat.zero_le _) (by omega)), r_f5 hr, if_pos (le_y (by omega) (by omega))], FL.rf, Or.inl ⟨rfl, trivial⟩⟩
  | succ k ih =>
    intro o C μ ho hr hL hC
    have h0 : (0 : Int32) ≤ Int32.ofNat o := le_y (a := 0) (Nat.zero_le _) (by omega)
    rw [e_Out_findTunes _ _ _ h0, r_f5 hr, if_neg (le_n (by omega) (by omega)), if_pos (show Int32.ofNat o < 5 from lt_y (b := 5) (by omega) (by decide)), t_holds (by omega) (by omega), bI_r, i3_add1]
    show ∃ (v : Int32) (μ' : PM), _ ∧ _ ∧ ((v = 1 ∧ (if S.testBit o = true then _ else _)) ∨ (v = 0 ∧ ¬ (if S.testBit o = true then _ else _)))
    by_cases q : S.testBit o = true
    · rw [if_pos q, if_pos (by decide)]
      simp only [if_pos q]
      have hl := tunS_lt (z := z) (o := o)
      have h5 : ¬ (5 : Int32) ≤ Int32.ofNat o := le_n (a := 5) (by omega) (by decide)
      have inner : ∀ (j t : Nat) (ν : PM), t + j = 10 → FL o μ ν → (∀ t', t' < t → ¬ ((tunS z o).testBit t' = true ∧ (∀ e, e < o → S.testBit e = true → C e = t' → ¬ nearO z o e) ∧ FSs z S k (o + 1) (setN C o t'))) →
          ∃ (v : Int32) (μ' : PM), Out_findTunes_41 (Int32.ofNat S) (Int32.ofNat o) (Int32.ofNat t) ν = rI v μ' ∧ FL o μ μ' ∧ ((v = 1 ∧ ∃ t, t < 10 ∧ (tunS z o).testBit t = true ∧ (∀ e, e < o → S.testBit e = true → C e = t → ¬ nearO z o e) ∧ FSs z S k (o + 1) (setN C o t)) ∨ (v = 0 ∧ ¬ ∃ t, t < 10 ∧ (tunS z o).testBit t = true ∧ (∀ e, e < o → S.testBit e = true → C e = t → ¬ nearO z o e) ∧ FSs z S k (o + 1) (setN C o t))) := by
        intro j
        induction j with
        | zero =>
          intro t ν ht hF hno
          have e : t = 10 := by omega
          subst e
          exact ⟨0, ν, by rw [Out_findTunes_41_eq _ _ _ _ h0 h5, if_pos (by decide)], hF, Or.inr ⟨rfl, fun ⟨t, a, b⟩ => hno t a b⟩⟩
        | succ j ihj =>
          intro t ν ht hF hno
          have hr' := hF.1.rt hr
          have hgo : ∀ ν', FL o μ ν' → ¬ ((tunS z o).testBit t = true ∧ (∀ e, e < o → S.testBit e = true → C e = t → ¬ nearO z o e) ∧ FSs z S k (o + 1) (setN C o t)) → _ := fun ν' g1 g2 => ihj (t + 1) ν' (by omega) g1 (fun t' h1 => by
            by_cases r : t' = t
            · subst r; exact g2
            · exact hno t' (by omega))
          rw [Out_findTunes_41_eq _ _ _ _ h0 h5, if_neg (show ¬ (10 : Int32) ≤ Int32.ofNat t from le_n (a := 10) (by omega) (by decide)), chk_t (i3_inb (by omega) (by decide)), i3_nat (by omega), hF.2.1, hL o (by omega), t_holds (by omega) (by omega), bI_r, i3_add1, i3_add1]
          by_cases c1 : (tunS z o).testBit t = true
          · obtain ⟨v, f1, f2⟩ := t_isFree (t := t) hr' hb hS (show o < 5 by omega) (by omega) (fun e he hs => by rw [hF.2.2.2 e he]; exact hC e he hs)
            rw [if_pos c1, if_neg (by decide), f1, bI_r]
            rcases f2 with ⟨rfl, f2⟩ | ⟨rfl, f2⟩
            · have hF2 : FL o μ (stI ν 11 o (Int32.ofNat t)) := hF.st (Nat.le_refl _)
              obtain ⟨v8, μ8, g1, g2, g3⟩ := ih (o + 1) (setN C o t) (stI ν 11 o (Int32.ofNat t)) (by omega) (hF2.1.rt hr) (fun e he => by rw [hF2.2.1]; exact hL e he) (fun e he hs => by
                by_cases r : e = o
                · rw [r, setN_self, st_get, if_pos ⟨rfl, rfl⟩]; exact ⟨by omega, rfl⟩
                · rw [setN_ne r, hF2.2.2.2 e (by omega)]; exact hC e (by omega) hs)
              have hF8 : FL o μ μ8 := hF2.tr (g2.le (by omega))
              rw [if_neg (by decide), g1, bI_r]
              rcases g3 with ⟨rfl, g3⟩ | ⟨rfl, g3⟩
              · rw [if_neg (by decide)]
                exact ⟨1, μ8, rfl, hF8, Or.inl ⟨rfl, t, by omega, c1, f2, g3⟩⟩
              · rw [if_pos rfl]
                exact hgo μ8 hF8 (fun r => g3 r.2.2)
            · rw [if_pos rfl]
              exact hgo ν hF (fun r => f2 r.2.1)
          · rw [if_neg c1, if_pos rfl]
            exact hgo ν hF (fun r => c1 r.1)
      exact inner 10 0 μ (by omega) FL.rf (fun t' h => absurd h (Nat.not_lt_zero t'))
    · rw [if_neg q, if_neg (fun r => r rfl)]
      simp only [if_neg q]
      obtain ⟨v, μ1, g1, g2, g3⟩ := ih (o + 1) C μ (by omega) hr hL (fun e he hs => by
        by_cases r : e = o
        · subst r; exact absurd hs q
        · exact hC e (by omega) hs)
      have hv : v = 0 ∨ v = 1 := g3.elim (fun r => Or.inr r.1) (fun r => Or.inl r.1)
      rw [g1, bI_r, chk_t hv]
      exact ⟨v, μ1, rfl, g2.le (by omega), g3⟩
end MOST4
