/-! SEMANTICS: the most: the model's search -/
section MOST2
variable {z : Nat → Nat} {μ : PM}
/-- a prefix of picks that stands -/
def VP (z : Nat → Nat) (d : Nat) (P : Nat → Nat) : Prop := ∀ e, e < d → P e ≤ 10 ∧ (P e ≠ 0 → (tunS z e).testBit (P e - 1) = true)
/-- what the search leaves alone at depth d -/
def FS (d : Nat) (μ μ' : PM) : Prop := FrM μ μ' ∧ mI μ' 13 = mI μ 13 ∧ mI μ' 19 = mI μ 19 ∧ (∀ i, i < d → mI μ' 20 i = mI μ 20 i) ∧ ∀ i, i ≤ d → mI μ' 21 i = mI μ 21 i
theorem FS.rf {d : Nat} : FS d μ μ := ⟨FrM.rf, rfl, rfl, fun _ _ => rfl, fun _ _ => rfl⟩
theorem FS.tr {d : Nat} {μ1 μ2 : PM} (h : FS d μ μ1) (h' : FS d μ1 μ2) : FS d μ μ2 := ⟨h.1.tr h'.1, h'.2.1.trans h.2.1, h'.2.2.1.trans h.2.2.1, fun i hi => (h'.2.2.2.1 i hi).trans (h.2.2.2.1 i hi), fun i hi => (h'.2.2.2.2 i hi).trans (h.2.2.2.2 i hi)⟩
theorem FS.le {d d' : Nat} {μ1 : PM} (h : FS d' μ μ1) (hd : d ≤ d') : FS d μ μ1 := ⟨h.1, h.2.1, h.2.2.1, fun i hi => h.2.2.2.1 i (by omega), fun i hi => h.2.2.2.2 i (by omega)⟩
theorem FS.s20 {d j : Nat} {v : Int32} {μ1 : PM} (h : FS d μ μ1) (hj : d ≤ j) : FS d μ (stI μ1 20 j v) := ⟨h.1.st (by decide) ⟨fun q => absurd q (by decide), fun q => absurd q (by decide)⟩, by rw [stI_ne _ _ _ (by decide), h.2.1], by rw [stI_ne _ _ _ (by decide), h.2.2.1], fun i hi => by rw [st_get, if_neg (by omega), h.2.2.2.1 i hi], fun i hi => by rw [stI_ne _ _ _ (by decide), h.2.2.2.2 i hi]⟩
theorem FS.s21 {d j : Nat} {v : Int32} {μ1 : PM} (h : FS d μ μ1) (hj : d < j) : FS d μ (stI μ1 21 j v) := ⟨h.1.st (by decide) ⟨fun q => absurd q (by decide), fun _ => by omega⟩, by rw [stI_ne _ _ _ (by decide), h.2.1], by rw [stI_ne _ _ _ (by decide), h.2.2.1], fun i hi => by rw [stI_ne _ _ _ (by decide), h.2.2.2.1 i hi], fun i hi => by rw [st_get, if_neg (by omega), h.2.2.2.2 i hi]⟩
theorem FS.s12 {d j : Nat} {v : Int32} {μ1 : PM} (h : FS d μ μ1) (hj : j < 11) : FS d μ (stI μ1 12 j v) := ⟨h.1.st (by decide) ⟨fun _ => Or.inl hj, fun q => absurd q (by decide)⟩, by rw [stI_ne _ _ _ (by decide), h.2.1], by rw [stI_ne _ _ _ (by decide), h.2.2.1], fun i hi => by rw [stI_ne _ _ _ (by decide), h.2.2.2.1 i hi], fun i hi => by rw [stI_ne _ _ _ (by decide), h.2.2.2.2 i hi]⟩
theorem VP_at {d e : Nat} {P : Nat → Nat} (h : VP z d P) (he : e < d) (h0 : P e ≠ 0) : z (56 + 7 * e + 3) ≠ 0 := (can_o ((h e he).2 h0)).1
theorem near_nearO {o e : Nat} (h1 : z (56 + 7 * o + 3) ≠ 0) (h2 : z (56 + 7 * e + 3) ≠ 0) : nearO z o e ↔ near z (z (56 + 7 * o + 3) - 1) (z (56 + 7 * e + 3) - 1) := ⟨fun q => q.2.2, fun q => ⟨h1, h2, q⟩⟩
theorem m_canPick {d v : Nat} {P : Nat → Nat} (hz : mI μ 13 = zI z) (hb : Bd z) (hd : d < z 1) (hv : 1 ≤ v) (hv2 : v ≤ 10) (hP : VP z d P) (h19 : mI μ 19 d = Int32.ofNat (tunS z d)) (h20 : ∀ e, e < d → mI μ 20 e = pm (P e)) (h20d : mI μ 20 d = pm v) :
    ∃ r : Int32, d_Md_canPick (Int32.ofNat d) μ = rI r μ ∧ ((r = 1 ∧ cpk z d v P) ∨ (r = 0 ∧ ¬ cpk z d v P)) := by
  have hn := hb.no
  have hl := tunS_lt (z := z) (o := d)
  obtain ⟨u, rfl⟩ : ∃ u, v = u + 1 := ⟨v - 1, by omega⟩
  rw [e_Md_canPick, chk_t (i3_inb (by omega) (by decide)), chk_t (i3_inb (by omega) (by decide)), i3_nat (by omega), h19, h20d, pm_succ, i3_hold (by omega) (by omega)]
  by_cases q : (tunS z d).testBit u = true
  · have hat := (can_o q).1
    obtain ⟨a1, a2, a3⟩ := at_lt hb (show d < 5 by omega) hat
    have key : ∀ k e, e + k = d → (∀ i, i < e → P i = u + 1 → ¬ nearO z d i) → ∃ r : Int32, Md_canPick_27 (Int32.ofNat d) 1 (Int32.ofNat e) μ = rI r μ ∧ ((r = 1 ∧ cpk z d (u + 1) P) ∨ (r = 0 ∧ ¬ cpk z d (u + 1) P)) := by
      intro k
      induction k with
      | zero =>
        intro e he hi
        refine ⟨1, ?_, Or.inl ⟨rfl, q, fun i h1 => hi i (by omega)⟩⟩
        rw [Md_canPick_27_eq, if_pos (le_y (by omega) (by omega)), chk_t (Or.inr rfl)]
      | succ k ih =>
        intro e he hi
        have hpe := hP e (by omega)
        rw [Md_canPick_27_eq, if_neg (le_n (by omega) (by omega)), if_neg (by decide), chk_t (i3_inb (by omega) (by decide)), chk_t (i3_inb (by omega) (by decide)), i3_nat (by omega), i3_nat (by omega), h20 e (by omega), h20d, i3_add1]
        by_cases q2 : P e = u + 1
        · have hae := VP_at hP (show e < d by omega) (by omega)
          obtain ⟨b1, b2, b3⟩ := at_lt hb (show e < 5 by omega) hae
          rw [if_neg (fun r => r (by rw [q2])), m_cornerOf hz (by omega), bI_r, m_cornerOf hz (by omega), bI_r, a3, b3, m_areNear hz hb a1 b1, bI_r]
          by_cases q3 : near z (z (56 + 7 * d + 3) - 1) (z (56 + 7 * e + 3) - 1)
          · rw [if_pos q3, if_pos (by decide)]
            refine ⟨0, ?_, Or.inr ⟨rfl, fun r => r.2 e (by omega) q2 ((near_nearO hat hae).mpr q3)⟩⟩
            rw [Md_canPick_27_eq]
            by_cases q4 : Int32.ofNat d ≤ Int32.ofNat (e + 1)
            · rw [if_pos q4, chk_t (Or.inl rfl)]
            · rw [if_neg q4, if_pos rfl, chk_t (Or.inl rfl)]
          · rw [if_neg q3, if_neg (fun r => r rfl)]
            exact ih (e + 1) (by omega) (fun i h1 h2 => by
              by_cases r : i = e
              · subst r; exact fun w => q3 ((near_nearO hat hae).mp w)
              · exact hi i (by omega) h2)
        · rw [if_pos (fun r => q2 ((pm_inj (by omega) (by omega)).mp r))]
          exact ih (e + 1) (by omega) (fun i h1 h2 => by
            by_cases r : i = e
            · subst r; exact absurd h2 q2
            · exact hi i (by omega) h2)
    rw [if_pos q, if_neg (fun r => r rfl)]
    exact key d 0 (by omega) (fun i hi => absurd hi (Nat.not_lt_zero i))
  · rw [if_neg q, if_pos (show ¬ (0 : Int32) = 1 by decide)]
    refine ⟨0, ?_, Or.inr ⟨rfl, fun r => q r.1⟩⟩
    rw [Md_canPick_27_eq]
    by_cases q4 : Int32.ofNat d ≤ 0
    · rw [if_pos q4, chk_t (Or.inl rfl)]
    · rw [if_neg q4, if_pos rfl, chk_t (Or.inl rfl)]
theorem ahd_le {d : Nat} {P : Nat → Nat} : ahd z P d ≤ d := by
  have := sum_le (f := fun e => if P e ≠ 0 ∧ near z (z (56 + 7 * d + 3) - 1) (z (56 + 7 * e + 3) - 1) then 1 else 0) (b := 1) d (fun i _ => by split <;> omega)
  unfold ahd
  omega
theorem m_pickTakings {d : Nat} {P : Nat → Nat} (hz : mI μ 13 = zI z) (hb : Bd z) (hpl : Pl z) (hd : d < z 1) (hat : z (56 + 7 * d + 3) ≠ 0) (hP : VP z d P) (h20 : ∀ e, e < d → mI μ 20 e = pm (P e)) : d_Md_pickTakings (Int32.ofNat d) μ = rI (Int32.ofNat (ptk z d P)) μ := by
  have hn := hb.no
  have hol := othN_le (o := d) hb
  have hal := ahd_le (z := z) (d := d) (P := P)
  obtain ⟨a1, a2, a3⟩ := at_lt hb (show d < 5 by omega) hat
  have key : ∀ m, m ≤ d → Md_pickTakings_8 (Int32.ofNat d) (Int32.ofNat (othN z d)) 0 μ = Md_pickTakings_8 (Int32.ofNat d) (Int32.ofNat (othN z d + sum m (fun e => if P e ≠ 0 ∧ near z (z (56 + 7 * d + 3) - 1) (z (56 + 7 * e + 3) - 1) then 1 else 0))) (Int32.ofNat m) μ := by
    intro m
    induction m with
    | zero => intro _; rfl
    | succ m ih =>
      intro hm
      have hpe := hP m (by omega)
      have hs : sum (m + 1) (fun e => if P e ≠ 0 ∧ near z (z (56 + 7 * d + 3) - 1) (z (56 + 7 * e + 3) - 1) then 1 else 0) = sum m (fun e => if P e ≠ 0 ∧ near z (z (56 + 7 * d + 3) - 1) (z (56 + 7 * e + 3) - 1) then 1 else 0) + (if P m ≠ 0 ∧ near z (z (56 + 7 * d + 3) - 1) (z (56 + 7 * m + 3) - 1) then 1 else 0) := rfl
      rw [ih (by omega), Md_pickTakings_8_eq, if_neg (le_n (by omega) (by omega)), chk_t (i3_inb (by omega) (by decide)), i3_nat (by omega), h20 m (by omega), i3_add1, i3_add1, i3_add0, hs]
      by_cases q : P m = 0
      · rw [if_pos ((pm_none (by omega)).mpr q), if_neg (fun r => r.1 q)]
        rfl
      · have hae := VP_at hP (show m < d by omega) q
        obtain ⟨b1, b2, b3⟩ := at_lt hb (show m < 5 by omega) hae
        rw [if_neg (fun r => q ((pm_none (by omega)).mp r)), m_cornerOf hz (by omega), bI_r, m_cornerOf hz (by omega), bI_r, a3, b3, m_areNear hz hb a1 b1, bI_r]
        by_cases q3 : near z (z (56 + 7 * d + 3) - 1) (z (56 + 7 * m + 3) - 1)
        · rw [if_pos q3, if_neg (by decide), if_pos ⟨q, q3⟩]
          rfl
        · rw [if_neg q3, if_pos rfl, if_neg (fun r => q3 r.2)]
          rfl
  rw [e_Md_pickTakings, m_othersNear hz hb hpl (by omega) hat, bI_r, key d (Nat.le_refl _), Md_pickTakings_8_eq, if_pos (le_y (Nat.le_refl _) (by omega)), m_takings hz hb (by omega) hat (show othN z d + _ < 20 by unfold ahd at hal; omega), bI_r]
  rfl
theorem m_keepPicks {P : Nat → Nat} {s : Nat} {b : Nat × Nat} (hz : mI μ 13 = zI z) (hb : Bd z) (hP : VP z (z 1) P) (h20 : ∀ e, e < z 1 → mI μ 20 e = pm (P e)) (h21 : mI μ 21 (z 1) = Int32.ofNat s) (hb1 : mI μ 12 9 = Int32.ofNat b.1) (hb2 : mI μ 12 10 = Int32.ofNat b.2) (hs : s < 2147483648) (l1 : b.1 < 2147483648) (l2 : b.2 < 2147483648) :
    ∃ μ', d_Md_keepPicks μ = some (.inl none, μ') ∧ FS (z 1) μ μ' ∧ mI μ' 12 9 = Int32.ofNat (kp b s (msk P (z 1))).1 ∧ mI μ' 12 10 = Int32.ofNat (kp b s (msk P (z 1))).2 := by
  have hn := hb.no
  have hm : msk P (z 1) < 32 := Nat.lt_of_lt_of_le (msk_lt (z 1) hn) (show 2 ^ z 1 ≤ 2 ^ 5 from Nat.pow_le_pow_right (by decide) hn)
  have key : ∀ m, m ≤ z 1 → Md_keepPicks_4 0 0 μ = Md_keepPicks_4 (Int32.ofNat (msk P m)) (Int32.ofNat m) μ := by
    intro m
    induction m with
    | zero => intro _; rfl
    | succ m ih =>
      intro h
      have hpe := hP m (by omega)
      have e : msk P (m + 1) = msk P m ||| (if P m = 0 then 0 else 1 <<< m) := rfl
      rw [ih (by omega), Md_keepPicks_4_eq, m_h hz, if_neg (le_n (by omega) (by omega)), chk_t (i3_inb (by omega) (by decide)), i3_nat (by omega), h20 m (by omega), i3_add1, i3_bit m (by omega), i3_or, show (0 : Int32) = Int32.ofNat 0 from rfl, i3_or, e]
      by_cases q : P m = 0
      · rw [if_neg (fun r => r ((pm_none (by omega)).mpr q)), if_pos q]
      · rw [if_pos (fun r => q ((pm_none (by omega)).mp r)), if_neg q]
  rw [e_Md_keepPicks, key (z 1) (Nat.le_refl _), Md_keepPicks_4_eq, m_h hz, if_pos (le_y (Nat.le_refl _) (by omega)), chk_t (i3_inb (by omega) (by decide)), i3_nat (by omega), h21, hb1, hb2]
  have hset : ∃ μ', (some (.inl none, stI (stI μ 12 9 (Int32.ofNat s)) 12 10 (Int32.ofNat (msk P (z 1)))) : Option PO) = some (.inl none, μ') ∧ FS (z 1) μ μ' ∧ mI μ' 12 9 = Int32.ofNat s ∧ mI μ' 12 10 = Int32.ofNat (msk P (z 1)) :=
    ⟨_, rfl, (FS.rf.s12 (by decide)).s12 (by decide), by rw [st_get, if_neg (by decide), st_get, if_pos ⟨rfl, rfl⟩], by rw [st_get, if_pos ⟨rfl, rfl⟩]⟩
  unfold kp
  by_cases c1 : b.1 < s
  · rw [if_pos (lt_y c1 hs), if_pos (Or.inl c1)]
    exact hset
  · rw [if_neg (lt_n (by omega) l1)]
    by_cases c2 : s = b.1
    · rw [if_neg (fun r => r (by rw [c2]))]
      by_cases c3 : b.2 ≤ msk P (z 1)
      · rw [if_pos (le_y c3 (by omega)), if_neg (by omega)]
        exact ⟨μ, rfl, FS.rf, hb1, hb2⟩
      · rw [if_neg (le_n (by omega) l2), if_pos (Or.inr ⟨c2, by omega⟩)]
        exact hset
    · rw [if_pos (fun r => c2 (by rw [i3_eq hs l1] at r; exact r)), if_neg (by omega)]
      exact ⟨μ, rfl, FS.rf, hb1, hb2⟩
end MOST2
