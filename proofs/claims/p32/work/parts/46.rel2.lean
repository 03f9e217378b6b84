/-! SEMANTICS: the town's answers that want bits and neighbours -/
section REL2
variable {z : Nat → Nat} {μ : PM}
theorem up_or {P : Nat → Prop} [DecidablePred P] {g : Nat → Nat} {b0 t : Nat} : ∀ n, (up n (fun i b => if P i then b ||| g i else b) b0).testBit t = true ↔ b0.testBit t = true ∨ ∃ i, i < n ∧ P i ∧ (g i).testBit t = true := by
  intro n
  induction n with
  | zero => exact ⟨Or.inl, fun h => h.elim id (fun ⟨i, hi, _⟩ => absurd hi (Nat.not_lt_zero i))⟩
  | succ n ih =>
    show (if P n then up n _ b0 ||| g n else up n _ b0).testBit t = true ↔ _
    constructor
    · intro h
      by_cases hp : P n
      · rw [if_pos hp, Nat.testBit_or, Bool.or_eq_true] at h
        rcases h with h | h
        · rcases ih.mp h with h | ⟨i, h1, h2, h3⟩
          · exact Or.inl h
          · exact Or.inr ⟨i, by omega, h2, h3⟩
        · exact Or.inr ⟨n, by omega, hp, h⟩
      · rw [if_neg hp] at h
        rcases ih.mp h with h | ⟨i, h1, h2, h3⟩
        · exact Or.inl h
        · exact Or.inr ⟨i, by omega, h2, h3⟩
    · intro h
      by_cases hp : P n
      · rw [if_pos hp, Nat.testBit_or, Bool.or_eq_true]
        rcases h with h | ⟨i, h1, h2, h3⟩
        · exact Or.inl (ih.mpr (Or.inl h))
        · by_cases hi : i = n
          · subst hi; exact Or.inr h3
          · exact Or.inl (ih.mpr (Or.inr ⟨i, by omega, h2, h3⟩))
      · rw [if_neg hp]
        rcases h with h | ⟨i, h1, h2, h3⟩
        · exact ih.mpr (Or.inl h)
        · by_cases hi : i = n
          · subst hi; exact absurd h2 hp
          · exact ih.mpr (Or.inr ⟨i, by omega, h2, h3⟩)
theorem tunN_bit {o k n b t : Nat} : (tunN z o k n b).testBit t = true ↔ b.testBit t = true ∨ ∃ i, i < n ∧ (bitT (z (163 + 10 * o + (k + i)))).testBit t = true := by
  have := up_or (P := fun _ => True) (g := fun i => bitT (z (163 + 10 * o + (k + i)))) (b0 := b) (t := t) n
  have e : tunN z o k n b = up n (fun i b => if True then b ||| bitT (z (163 + 10 * o + (k + i))) else b) b := up_congr n (fun i _ x => (if_pos trivial).symm)
  rw [e]
  exact this.trans ⟨fun h => h.imp id (fun ⟨i, a, _, c⟩ => ⟨i, a, c⟩), fun h => h.imp id (fun ⟨i, a, c⟩ => ⟨i, a, trivial, c⟩)⟩
theorem tunN_or {o k n b : Nat} : tunN z o k n b = b ||| tunN z o k n 0 := by
  refine Nat.eq_of_testBit_eq fun t => ?_
  rw [Bool.eq_iff_iff, Nat.testBit_or, Bool.or_eq_true, tunN_bit, tunN_bit]
  constructor
  · rintro (h | h)
    · exact Or.inl h
    · exact Or.inr (Or.inr h)
  · rintro (h | h | h)
    · exact Or.inl h
    · rw [Nat.zero_testBit] at h; cases h
    · exact Or.inr h
theorem heaS_bit {c t : Nat} : (heaS z c).testBit t = true ↔ ∃ o, o < z 1 ∧ (z (56 + 7 * o + 3) ≠ 0 ∧ near z c (z (56 + 7 * o + 3) - 1)) ∧ ∃ i, i < z 4 + 1 - (z 4 - z 12) ∧ (bitT (z (163 + 10 * o + ((z 4 - z 12) + i)))).testBit t = true := by
  have e : heaS z c = up (z 1) (fun o b => if z (56 + 7 * o + 3) ≠ 0 ∧ near z c (z (56 + 7 * o + 3) - 1) then b ||| tunN z o (z 4 - z 12) (z 4 + 1 - (z 4 - z 12)) 0 else b) 0 := up_congr _ (fun i _ x => by rw [tunN_or])
  rw [e, up_or]
  constructor
  · rintro (h | ⟨o, h1, h2, h3⟩)
    · rw [Nat.zero_testBit] at h; cases h
    · refine ⟨o, h1, h2, ?_⟩
      rcases tunN_bit.mp h3 with h | h
      · rw [Nat.zero_testBit] at h; cases h
      · exact h
  · rintro ⟨o, h1, h2, h3⟩
    exact Or.inr ⟨o, h1, h2, tunN_bit.mpr (Or.inr h3)⟩
theorem noted_bit {c h t : Nat} : (noted z c h).testBit t = true ↔ ∃ o, o < z 1 ∧ z (56 + 7 * o + 3) = c + 1 ∧ (bitT (z (163 + 10 * o + h))).testBit t = true := by
  unfold noted
  rw [up_or]
  constructor
  · rintro (h | h)
    · rw [Nat.zero_testBit] at h; cases h
    · exact h
  · exact Or.inr
theorem noted_lt {c h : Nat} (hb : Bd z) (hh : h < 10) : noted z c h < 1024 := by
  have h1 := hb.no
  refine up_inv (fun _ b => b < 1024) (by decide) (z 1) (fun i hi x hx => ?_)
  split
  · exact or_lt hx (bitT_lt (hb.tun i (by omega) h hh))
  · exact hx
/-- the tunes noted at a corner in n hours from k on -/
def plN (z : Nat → Nat) (c k n : Nat) : Nat := up n (fun i b => b ||| noted z c (k + i)) 0
theorem plN_bit {c k n t : Nat} : (plN z c k n).testBit t = true ↔ ∃ i, i < n ∧ (noted z c (k + i)).testBit t = true := by
  have := up_or (P := fun _ => True) (g := fun i => noted z c (k + i)) (b0 := 0) (t := t) n
  have e : plN z c k n = up n (fun i b => if True then b ||| noted z c (k + i) else b) 0 := up_congr n (fun i _ x => (if_pos trivial).symm)
  rw [e]
  refine this.trans ⟨fun h => ?_, fun ⟨i, a, c⟩ => Or.inr ⟨i, a, trivial, c⟩⟩
  rcases h with h | ⟨i, a, _, c⟩
  · rw [Nat.zero_testBit] at h; cases h
  · exact ⟨i, a, c⟩
theorem t_tunesPlayed {c k m : Nat} {x1 : Int32} (hr : RT 23 z μ) (hc : c < 10) (hk : k ≤ m) (hm : m < 10) : Cor_tunesPlayed_9 (28 + 2 * c) x1 (Int32.ofNat m) 0 (Int32.ofNat k) μ = rI (Int32.ofNat (plN z c k (m + 1 - k))) μ := by
  have hcl := c_cor hc
  have key : ∀ n, n ≤ m + 1 - k → Cor_tunesPlayed_9 (28 + 2 * c) x1 (Int32.ofNat m) 0 (Int32.ofNat k) μ = Cor_tunesPlayed_9 (28 + 2 * c) x1 (Int32.ofNat m) (Int32.ofNat (plN z c k n)) (Int32.ofNat (k + n)) μ := by
    intro n
    induction n with
    | zero => intro _; rfl
    | succ n ih =>
      intro hn
      have e : 28 + 2 * c + 1 = 29 + 2 * c := by omega
      rw [ih (by omega), Cor_tunesPlayed_9_eq _ _ _ _ _ _ hcl, if_neg (lt_n (by omega) (by omega)), if_neg (show ¬ (10 : Int32) ≤ Int32.ofNat (k + n) from le_n (a := 10) (by omega) (by decide)), chk_t (i3_inb (by omega) (by decide)), i3_nat (by omega), e, r_tun hr hc (by omega), i3_or, i3_add1]
      rfl
  rw [key _ (Nat.le_refl _), Cor_tunesPlayed_9_eq _ _ _ _ _ _ hcl, if_pos (lt_y (by omega) (by omega))]
abbrev dist (z : Nat → Nat) (c d : Nat) : Nat := (z (16 + 4 * c) - z (16 + 4 * d)) + (z (16 + 4 * d) - z (16 + 4 * c))
theorem t_dist {c d : Nat} (hr : RT 23 z μ) (hb : Bd z) (hc : c < 10) (hd : d < 10) : d_Cor_distanceTo (28 + 2 * c) (28 + 2 * d) μ = rI (Int32.ofNat (dist z c d)) μ := by
  have h2 := (hb.cor c hc).1
  have h3 := (hb.cor d hd).1
  have e1 : mI μ (28 + 2 * c) 0 = Int32.ofNat (z (16 + 4 * c)) := r_cor hr hc (by decide)
  have e2 : mI μ (28 + 2 * d) 0 = Int32.ofNat (z (16 + 4 * d)) := r_cor hr hd (by decide)
  rw [e_Cor_distanceTo _ _ _ (c_cor hc) (c_cor hd), e1, e2]
  by_cases h : z (16 + 4 * d) ≤ z (16 + 4 * c)
  · have e : dist z c d = z (16 + 4 * c) - z (16 + 4 * d) := by show _ + _ = _; omega
    rw [i3_sub h, if_pos (show (0 : Int32) ≤ _ from le_y (a := 0) (Nat.zero_le _) (by omega)), e]
  · have e : dist z c d = z (16 + 4 * d) - z (16 + 4 * c) := by show _ + _ = _; omega
    rw [i3_subn (by omega), if_neg (i3_neg_lt (by omega) (by omega)), Int32.zero_sub, Int32.neg_neg, e]
theorem cHea_eq {c : Nat} (hb : Bd z) : up (z 0) (fun d b => if near z c d then b ||| plN z d (z 4 - z 12) (z 4 + 1 - (z 4 - z 12)) else b) 0 = heaS z c := by
  have hq := hb.no
  refine Nat.eq_of_testBit_eq fun t => ?_
  rw [Bool.eq_iff_iff, up_or, heaS_bit]
  constructor
  · rintro (h | ⟨d, h1, h2, h3⟩)
    · rw [Nat.zero_testBit] at h; cases h
    · obtain ⟨i, h4, h5⟩ := plN_bit.mp h3
      obtain ⟨o, h6, h7, h8⟩ := noted_bit.mp h5
      have e : z (56 + 7 * o + 3) - 1 = d := by omega
      exact ⟨o, h6, ⟨by omega, by rw [e]; exact h2⟩, i, h4, h8⟩
  · rintro ⟨o, h1, ⟨h2, h3⟩, i, h4, h5⟩
    have h6 := (hb.org o (by omega)).2.2.2
    exact Or.inr ⟨z (56 + 7 * o + 3) - 1, by omega, h3, plN_bit.mpr ⟨i, h4, noted_bit.mpr ⟨o, h1, by omega, h5⟩⟩⟩
theorem t_tunesHeardAt {c : Nat} (hr : RT 23 z μ) (hb : Bd z) (hc : c < 10) : d_Twn_tunesHeardAt (28 + 2 * c) μ = rI (Int32.ofNat (heaS z c)) μ := by
  have hn := hb.nc
  have hh := hb.hr
  have h12 := hb.s1
  have h11 := hb.s0
  have hcl := c_cor hc
  rw [e_Twn_tunesHeardAt _ _ hcl, ← cHea_eq hb]
  have key : ∀ i, i < z 0 → ∀ (a : Nat) (w : Value), True → ∃ w', Twn_tunesHeardAt_4 (28 + 2 * c) (Int32.ofNat a) (Int32.ofNat i) w μ = Twn_tunesHeardAt_4 (28 + 2 * c) (Int32.ofNat (if near z c i then a ||| plN z i (z 4 - z 12) (z 4 + 1 - (z 4 - z 12)) else a)) (Int32.ofNat (i + 1)) w' μ := by
    intro i hi a w _
    have h3 := (hb.cor c hc).1
    have h4 := (hb.cor i (by omega)).1
    rw [Twn_tunesHeardAt_4_eq _ _ _ _ _ hcl, r_f4 hr, if_neg (le_n hi (by omega)), chk_t (i3_inb (by omega) (by decide)), i3_nat (by omega), t_dist hr hb hc (by omega), bI_r, r_set hr (by decide), r_set hr (by decide), r_f8 hr, i3_add1]
    by_cases h : near z c i
    · have hp : d_Cor_tunesPlayed (28 + 2 * i) (Int32.ofNat (z 4) - Int32.ofNat (z (11 + 1))) (Int32.ofNat (z 4)) μ = rI (Int32.ofNat (plN z i (z 4 - z 12) (z 4 + 1 - (z 4 - z 12)))) μ := by
        rw [e_Cor_tunesPlayed _ _ _ _ (c_cor (by omega))]
        have e : (if Int32.ofNat (z 4) - Int32.ofNat (z (11 + 1)) < 0 then 0 else Int32.ofNat (z 4) - Int32.ofNat (z (11 + 1))) = Int32.ofNat (z 4 - z 12) := by
          by_cases q : z 12 ≤ z 4
          · have e1 : Int32.ofNat (z 4) - Int32.ofNat (z (11 + 1)) = Int32.ofNat (z 4 - z 12) := i3_sub q
            rw [e1, if_neg (show ¬ _ < (0 : Int32) from lt_n (b := 0) (Nat.zero_le _) (by omega))]
          · have e1 : Int32.ofNat (z 4) - Int32.ofNat (z (11 + 1)) = -(Int32.ofNat (z 12 - z 4)) := i3_subn (Nat.le_of_lt (Nat.lt_of_not_le q))
            have e2 : z 4 - z 12 = 0 := by omega
            rw [e1, if_pos (Int32.not_le.mp (i3_neg_lt (by omega) (by omega))), e2]
            rfl
        rw [e]
        exact t_tunesPlayed hr (by omega) (by omega) (by omega)
      rw [if_neg (lt_n h (by omega)), hp, bI_r, i3_or, if_pos h]
      exact ⟨_, rfl⟩
    · rw [if_pos (lt_y (Nat.lt_of_not_le h) (by show dist z c i < _; unfold dist; omega)), if_neg h]
      exact ⟨_, rfl⟩
  obtain ⟨w', hw⟩ := loopW (fun i (a : Nat) w => Twn_tunesHeardAt_4 (28 + 2 * c) (Int32.ofNat a) i w μ) (z 0) (fun d b => if near z c d then b ||| plN z d (z 4 - z 12) (z 4 + 1 - (z 4 - z 12)) else b) (fun _ _ => True) (fun _ _ _ _ => trivial) key (a := 0) trivial pU
  refine Eq.trans hw ?_
  show Twn_tunesHeardAt_4 _ _ _ _ _ = _
  rw [Twn_tunesHeardAt_4_eq _ _ _ _ _ hcl, r_f4 hr, if_pos (le_y (Nat.le_refl _) (by omega))]
theorem t_isQuietAt {c : Nat} (hr : RT 23 z μ) (hb : Bd z) (hc : c < 10) : d_Cor_isQuietAt (28 + 2 * c) (Int32.ofNat (z 4)) μ = rI (if isQ z c then 1 else 0) μ := by
  have h1 := hb.hr
  obtain ⟨-, -, h2, h3⟩ := hb.cor c hc
  rw [e_Cor_isQuietAt _ _ _ (c_cor hc), r_cor hr hc (by decide), r_cor hr hc (by decide)]
  have e : ∀ x : Int32, (Int32.ofNat (z 4) - Int32.ofNat (z (16 + 4 * c + 2)) + 10) = x → (x - x / 10 * 10 : Int32) = (Int32.ofNat ((z 4 + 10 - z (16 + 4 * c + 2)) % 10)) := by
    intro x hx
    have hx2 : x = Int32.ofNat (z 4 + 10 - z (16 + 4 * c + 2)) := by rw [← hx]; exact i3_subadd (k := 10) (by omega)
    rw [hx2]
    exact i3_rem (b := 10) (by omega) (by decide)
  rw [e _ rfl]
  by_cases h : (z 4 + 10 - z (16 + 4 * c + 2)) % 10 < z (16 + 4 * c + 3)
  · rw [if_neg (le_n h (by omega)), if_pos h]
  · rw [if_pos (le_y (by omega) (by omega)), if_neg h]
/-- two organs with corners near one another -/
def nearO (z : Nat → Nat) (o e : Nat) : Prop := z (56 + 7 * o + 3) ≠ 0 ∧ z (56 + 7 * e + 3) ≠ 0 ∧ near z (z (56 + 7 * o + 3) - 1) (z (56 + 7 * e + 3) - 1)
theorem t_areNear {o e : Nat} (hr : RT 23 z μ) (hb : Bd z) (ho : o < 5) (he : e < 5) : ∃ v, d_Twn_areNear (Int32.ofNat o) (Int32.ofNat e) μ = rI v μ ∧ ((v = 1 ∧ nearO z o e) ∨ (v = 0 ∧ ¬ nearO z o e)) := by
  have h11 := hb.s0
  rw [e_Twn_areNear, t_cornerOf hr hb ho]
  by_cases h1 : z (56 + 7 * o + 3) = 0
  · rw [if_pos h1]
    show ∃ v, bR (d_Twn_cornerOf (Int32.ofNat e) μ) _ _ = _ ∧ _
    rw [t_cornerOf hr hb he]
    refine ⟨0, ?_, Or.inr ⟨rfl, fun q => q.1 h1⟩⟩
    split <;> rfl
  · rw [if_neg h1]
    show ∃ v, bR (d_Twn_cornerOf (Int32.ofNat e) μ) _ _ = _ ∧ _
    rw [t_cornerOf hr hb he]
    obtain ⟨a1, a2, a3⟩ := at_lt hb ho h1
    by_cases h2 : z (56 + 7 * e + 3) = 0
    · rw [if_pos h2]
      exact ⟨0, rfl, Or.inr ⟨rfl, fun q => q.2.1 h2⟩⟩
    · rw [if_neg h2]
      obtain ⟨b1, b2, b3⟩ := at_lt hb he h2
      have h3 := (hb.cor _ a1).1
      have h4 := (hb.cor _ b1).1
      show ∃ v, chk (cls (28 + 2 * (z (56 + 7 * o + 3) - 1)) = 0) (bI (d_Cor_distanceTo (28 + 2 * (z (56 + 7 * o + 3) - 1)) (28 + 2 * (z (56 + 7 * e + 3) - 1)) μ) _) = _ ∧ _
      rw [chk_t (c_cor a1), t_dist hr hb a1 b1, bI_r, r_set hr (by decide)]
      by_cases h : near z (z (56 + 7 * o + 3) - 1) (z (56 + 7 * e + 3) - 1)
      · rw [if_neg (lt_n h (by omega))]
        exact ⟨1, rfl, Or.inl ⟨rfl, h1, h2, h⟩⟩
      · rw [if_pos (lt_y (Nat.lt_of_not_le h) (by show dist z _ _ < _; unfold dist; omega))]
        exact ⟨0, rfl, Or.inr ⟨rfl, fun q => h q.2.2⟩⟩
end REL2
