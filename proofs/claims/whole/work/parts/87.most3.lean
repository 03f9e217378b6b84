/-! SEMANTICS: the most: the model's search as a whole -/
section MOST3
variable {z : Nat → Nat} {μ : PM}
def Bb (b : Nat × Nat) : Prop := b.1 ≤ 1000 ∧ b.2 < 32
noncomputable def layF (z : Nat → Nat) (k d : Nat) (P : Nat → Nat) (s : Nat) : Nat → Nat × Nat → Nat × Nat := fun v b => if v = 0 then lay z k (d + 1) (setN P d 0) s b else @ite _ (cpk z d v P) (Classical.propDecidable _) (lay z k (d + 1) (setN P d v) (s + ptk z d P) b) b
theorem lay_s {k d : Nat} {P : Nat → Nat} {s : Nat} {b : Nat × Nat} : lay z (k + 1) d P s b = flM (layF z k d P s) 11 0 b := rfl
theorem fl_bd {f : Nat → Nat × Nat → Nat × Nat} (hf : ∀ v b, Bb b → Bb (f v b)) : ∀ j v b, Bb b → Bb (flM f j v b) := by
  intro j
  induction j with
  | zero => intro v b h; exact h
  | succ j ih => intro v b h; exact ih (v + 1) (f v b) (hf v b h)
theorem lay_bd (hb : Bd z) : ∀ (k d : Nat) (P : Nat → Nat) (s : Nat) (b : Nat × Nat), d + k ≤ 5 → s ≤ 90 * d → Bb b → Bb (lay z k d P s b) := by
  intro k
  induction k with
  | zero =>
    intro d P s b h1 h2 h3
    rcases (kp_le (b := b) (s := s) (m := msk P d)).2.2 with q | q
    · show Bb (kp b s (msk P d))
      rw [q]; exact h3
    · show Bb (kp b s (msk P d))
      rw [q]
      exact ⟨by show s ≤ 1000; omega, Nat.lt_of_lt_of_le (msk_lt d (by omega)) (show 2 ^ d ≤ 2 ^ 5 from Nat.pow_le_pow_right (by decide) (by omega))⟩
  | succ k ih =>
    intro d P s b h1 h2 h3
    rw [lay_s]
    refine fl_bd (fun v b h => ?_) 11 0 b h3
    unfold layF
    by_cases q : v = 0
    · rw [if_pos q]; exact ih _ _ _ _ (by omega) (by omega) h
    · rw [if_neg q]
      by_cases q2 : cpk z d v P
      · have := tak_le (k := othN z d + ahd z P d) hb (show d < 5 by omega) (can_o q2.1).1
        rw [if_pos q2]
        exact ih _ _ _ _ (by omega) (by unfold ptk; omega) h
      · rw [if_neg q2]; exact h
theorem pmx : ∀ v, v < 11 → ¬ pm v - 1 = 9 := by decide
theorem pm_back {v : Nat} : pm v - 1 + 1 = pm v := Int32.sub_add_cancel _ _
theorem pm_fwd {v : Nat} : pm v = pm (v + 1) - 1 := by
  rw [pm_succ]
  rfl
theorem m_search (hb : Bd z) (hpl : Pl z) : ∀ (k d : Nat) (P : Nat → Nat) (s : Nat) (b : Nat × Nat) (μ : PM), d + k = z 1 → mI μ 13 = zI z → (∀ e, e < z 1 → mI μ 19 e = Int32.ofNat (tunS z e)) → VP z d P → (∀ e, e < d → mI μ 20 e = pm (P e)) → mI μ 20 d = pm 0 - 1 → mI μ 21 d = Int32.ofNat s →
    mI μ 12 9 = Int32.ofNat b.1 → mI μ 12 10 = Int32.ofNat b.2 → s ≤ 90 * d → Bb b → ∃ μ', Md_layMost_49 (Int32.ofNat d) μ = Md_layMost_49 (pm d) μ' ∧ FS d μ μ' ∧ mI μ' 12 9 = Int32.ofNat (lay z k d P s b).1 ∧ mI μ' 12 10 = Int32.ofNat (lay z k d P s b).2 := by
  have hn := hb.no
  intro k
  induction k with
  | zero =>
    intro d P s b μ hd hz h19 hP h20 h20d h21 hb1 hb2 hs hB
    have e : d = z 1 := by omega
    subst e
    obtain ⟨μ1, a1, a2, a3, a4⟩ := m_keepPicks hz hb hP h20 h21 hb1 hb2 (by omega) (by have := hB.1; omega) (by have := hB.2; omega)
    refine ⟨μ1, ?_, a2, a3, a4⟩
    rw [Md_layMost_49_eq, if_neg (show ¬ Int32.ofNat (z 1) < 0 from lt_n (b := 0) (Nat.zero_le _) (by omega)), m_h hz, if_neg (fun r => r rfl), a1, bV_r, ← Int32.sub_eq_add_neg]
    rfl
  | succ k ih =>
    intro d P s b μ hd hz h19 hP h20 h20d h21 hb1 hb2 hs hB
    have hdn : d < z 1 := by omega
    have inner : ∀ (j v : Nat) (b : Nat × Nat) (μ : PM), v + j = 11 → mI μ 13 = zI z → (∀ e, e < z 1 → mI μ 19 e = Int32.ofNat (tunS z e)) → (∀ e, e < d → mI μ 20 e = pm (P e)) → mI μ 20 d = pm v - 1 → mI μ 21 d = Int32.ofNat s → mI μ 12 9 = Int32.ofNat b.1 → mI μ 12 10 = Int32.ofNat b.2 → Bb b →
        ∃ μ', Md_layMost_49 (Int32.ofNat d) μ = Md_layMost_49 (pm d) μ' ∧ FS d μ μ' ∧ mI μ' 12 9 = Int32.ofNat (flM (layF z k d P s) j v b).1 ∧ mI μ' 12 10 = Int32.ofNat (flM (layF z k d P s) j v b).2 := by
      intro j
      induction j with
      | zero =>
        intro v b μ hv hz h19 h20 h20d h21 hb1 hb2 hB
        have e : v = 11 := by omega
        subst e
        refine ⟨μ, ?_, FS.rf, hb1, hb2⟩
        rw [Md_layMost_49_eq, if_neg (show ¬ Int32.ofNat d < 0 from lt_n (b := 0) (Nat.zero_le _) (by omega)), m_h hz, if_pos (fun r => by rw [i3_eq (by omega) (by omega)] at r; omega), chk_t (i3_inb (by omega) (by decide)), i3_nat (by omega), h20d, if_neg (show ¬ ¬ pm 11 - 1 = 9 from fun r => r (by decide)), ← Int32.sub_eq_add_neg]
        rfl
      | succ j ihj =>
        intro v b μ hv hz h19 h20 h20d h21 hb1 hb2 hB
        have hgo : ∀ (μ1 : PM) (b' : Nat × Nat), FS d μ μ1 → mI μ1 20 d = pm v → mI μ1 12 9 = Int32.ofNat b'.1 → mI μ1 12 10 = Int32.ofNat b'.2 → Bb b' → layF z k d P s v b = b' →
            ∃ μ', Md_layMost_49 (Int32.ofNat d) μ1 = Md_layMost_49 (pm d) μ' ∧ FS d μ μ' ∧ mI μ' 12 9 = Int32.ofNat (flM (layF z k d P s) (j + 1) v b).1 ∧ mI μ' 12 10 = Int32.ofNat (flM (layF z k d P s) (j + 1) v b).2 := fun μ1 b' g1 g2 g3 g4 g5 g6 => by
          obtain ⟨μ', q1, q2, q3, q4⟩ := ihj (v + 1) b' μ1 (by omega) (by rw [g1.2.1, hz]) (fun e he => by rw [g1.2.2.1]; exact h19 e he) (fun e he => by rw [g1.2.2.2.1 e he]; exact h20 e he) (by rw [g2, pm_fwd]) (by rw [g1.2.2.2.2 d (Nat.le_refl _)]; exact h21) g3 g4 g5
          refine ⟨μ', q1, g1.tr q2, ?_, ?_⟩
          · rw [q3, ← g6]; rfl
          · rw [q4, ← g6]; rfl
        have hdeep : ∀ (μ1 : PM) (v' s' : Nat), FS d μ μ1 → v' ≤ 10 → (v' ≠ 0 → (tunS z d).testBit (v' - 1) = true) → mI μ1 20 d = pm v' → mI μ1 12 9 = Int32.ofNat b.1 → mI μ1 12 10 = Int32.ofNat b.2 → s' ≤ 90 * (d + 1) →
            ∃ μ', Md_layMost_49 (Int32.ofNat (d + 1)) (stI (stI μ1 21 (d + 1) (Int32.ofNat s')) 20 (d + 1) (-2)) = Md_layMost_49 (Int32.ofNat d) μ' ∧ FS d μ μ' ∧ mI μ' 20 d = pm v' ∧ mI μ' 12 9 = Int32.ofNat (lay z k (d + 1) (setN P d v') s' b).1 ∧ mI μ' 12 10 = Int32.ofNat (lay z k (d + 1) (setN P d v') s' b).2 := fun μ1 v' s' g1 g2 g3 g4 g5 g6 g7 => by
          have hvp : VP z (d + 1) (setN P d v') := fun e he => by
            by_cases q : e = d
            · rw [q, setN_self]; exact ⟨g2, g3⟩
            · rw [setN_ne q]; exact hP e (by omega)
          obtain ⟨μ', q1, q2, q3, q4⟩ := ih (d + 1) (setN P d v') s' b (stI (stI μ1 21 (d + 1) (Int32.ofNat s')) 20 (d + 1) (-2)) (by omega) (by rw [stI_ne _ _ _ (by decide), stI_ne _ _ _ (by decide), g1.2.1, hz]) (fun e he => by rw [stI_ne _ _ _ (by decide), stI_ne _ _ _ (by decide), g1.2.2.1]; exact h19 e he) hvp
            (fun e he => by
              rw [st_get, if_neg (by omega), stI_ne _ _ _ (by decide)]
              by_cases q : e = d
              · rw [q, setN_self]; exact g4
              · rw [setN_ne q, g1.2.2.2.1 e (by omega)]; exact h20 e (by omega))
            (by rw [st_get, if_pos ⟨rfl, rfl⟩]; rfl) (by rw [stI_ne _ _ _ (by decide), st_get, if_pos ⟨rfl, rfl⟩]) (by rw [stI_ne _ _ _ (by decide), stI_ne _ _ _ (by decide)]; exact g5) (by rw [stI_ne _ _ _ (by decide), stI_ne _ _ _ (by decide)]; exact g6) g7 hB
          have g8 : FS d μ (stI (stI μ1 21 (d + 1) (Int32.ofNat s')) 20 (d + 1) (-2)) := (g1.s21 (by omega)).s20 (by omega)
          refine ⟨μ', ?_, g8.tr (q2.le (by omega)), ?_, q3, q4⟩
          · rw [q1, pm_succ]
          · rw [q2.2.2.2.1 d (by omega), st_get, if_neg (by omega), stI_ne _ _ _ (by decide)]
            exact g4
        have g0 : FS d μ (stI μ 20 d (pm v)) := FS.rf.s20 (Nat.le_refl _)
        have r13 : mI (stI μ 20 d (pm v)) 13 = zI z := by rw [stI_ne _ _ _ (by decide)]; exact hz
        have r19 : mI (stI μ 20 d (pm v)) 19 d = Int32.ofNat (tunS z d) := by rw [stI_ne _ _ _ (by decide)]; exact h19 d hdn
        have r20 : ∀ e, e < d → mI (stI μ 20 d (pm v)) 20 e = pm (P e) := fun e he => by rw [st_get, if_neg (by omega)]; exact h20 e he
        have r20d : mI (stI μ 20 d (pm v)) 20 d = pm v := by rw [st_get, if_pos ⟨rfl, rfl⟩]
        have r9 : mI (stI μ 20 d (pm v)) 12 9 = Int32.ofNat b.1 := by rw [stI_ne _ _ _ (by decide)]; exact hb1
        have r10 : mI (stI μ 20 d (pm v)) 12 10 = Int32.ofNat b.2 := by rw [stI_ne _ _ _ (by decide)]; exact hb2
        have r21 : mI (stI μ 20 d (pm v)) 21 d = Int32.ofNat s := by rw [stI_ne _ _ _ (by decide)]; exact h21
        rw [Md_layMost_49_eq, if_neg (show ¬ Int32.ofNat d < 0 from lt_n (b := 0) (Nat.zero_le _) (by omega)), m_h hz, if_pos (fun r => by rw [i3_eq (by omega) (by omega)] at r; omega), chk_t (i3_inb (by omega) (by decide)), i3_nat (by omega), h20d, if_pos (pmx v (by omega)), pm_back, r20d, i3_add1]
        by_cases hv0 : v = 0
        · subst hv0
          rw [if_pos pm_zero, if_neg (fun r => r pm_zero), chk_t (i3_inb (by omega) (by decide)), i3_nat (by omega), lt_b, h21, i3_add0]
          obtain ⟨μ2, q1, q2, q3, q4, q5⟩ := hdeep (stI μ 20 d (pm 0)) 0 s g0 (by decide) (fun q => absurd rfl q) r20d r9 r10 (by omega)
          rw [q1]
          have hl : layF z k d P s 0 b = lay z k (d + 1) (setN P d 0) s b := if_pos rfl
          exact hgo μ2 _ q2 q3 q4 q5 (lay_bd hb k (d + 1) _ s b (by omega) (by omega) hB) hl
        · have hvn : ¬ pm v = -1 := fun r => hv0 ((pm_none (by omega)).mp r)
          obtain ⟨r, c1, c2⟩ := m_canPick (μ := stI μ 20 d (pm v)) r13 hb hdn (show 1 ≤ v by omega) (by omega) hP r19 r20 r20d
          rw [if_neg hvn, c1, bI_r]
          rcases c2 with ⟨rfl, c2⟩ | ⟨rfl, c2⟩
          · have hat := (can_o c2.1).1
            have htk := tak_le (k := othN z d + ahd z P d) hb (show d < 5 by omega) hat
            rw [if_neg (by decide), r20d, if_pos hvn, m_pickTakings r13 hb hpl hdn hat hP r20, bI_r, chk_t (i3_inb (by omega) (by decide)), i3_nat (by omega), r21, i3_add]
            obtain ⟨μ2, q1, q2, q3, q4, q5⟩ := hdeep (stI μ 20 d (pm v)) v (s + ptk z d P) g0 (by omega) (fun _ => c2.1) r20d r9 r10 (by unfold ptk; omega)
            rw [q1]
            have hl : layF z k d P s v b = lay z k (d + 1) (setN P d v) (s + ptk z d P) b := by
              unfold layF
              rw [if_neg hv0, if_pos c2]
            exact hgo μ2 _ q2 q3 q4 q5 (lay_bd hb k (d + 1) _ _ b (by omega) (by unfold ptk; omega) hB) hl
          · have hl : layF z k d P s v b = b := by
              unfold layF
              rw [if_neg hv0, if_neg c2]
            rw [if_pos rfl]
            exact hgo _ b g0 r20d r9 r10 hB hl
    rw [lay_s]
    exact inner 11 0 b μ (by omega) hz h19 h20 h20d h21 hb1 hb2 hB
theorem m_layMost (hz : mI μ 13 = zI z) (hb : Bd z) (hpl : Pl z) (h21 : mI μ 21 0 = 0) : ∃ (μ' : PM) (r : Nat × Nat), d_Md_layMost μ = some (.inl none, μ') ∧ FrM μ μ' ∧ mI μ' 13 = zI z ∧ isBest z r ∧ mI μ' 12 9 = Int32.ofNat r.1 ∧ mI μ' 12 10 = Int32.ofNat r.2 := by
  have hn := hb.no
  have key : ∀ m, m ≤ z 1 → ∃ μ', Md_layMost_2 0 μ = Md_layMost_2 (Int32.ofNat m) μ' ∧ FrM μ μ' ∧ mI μ' 13 = zI z ∧ (∀ e, e < m → mI μ' 19 e = Int32.ofNat (tunS z e)) := by
    intro m
    induction m with
    | zero => intro _; exact ⟨μ, rfl, FrM.rf, hz, fun e he => absurd he (Nat.not_lt_zero e)⟩
    | succ m ih =>
      intro h
      obtain ⟨μ1, a1, a2, a3, a4⟩ := ih (by omega)
      refine ⟨stI μ1 19 m (Int32.ofNat (tunS z m)), ?_, a2.st (by decide) ⟨fun q => absurd q (by decide), fun q => absurd q (by decide)⟩, by rw [stI_ne _ _ _ (by decide), a3], fun e he => ?_⟩
      · rw [a1, Md_layMost_2_eq, m_h a3, if_neg (le_n (by omega) (by omega)), m_tunesOf a3 hb (by omega), bI_r, chk_t (i3_inb (by omega) (by decide)), i3_nat (by omega), i3_add1]
      · rw [st_get]
        by_cases q : e = m
        · rw [if_pos ⟨rfl, q⟩, q]
        · rw [if_neg (fun r => q r.2)]; exact a4 e (by omega)
  obtain ⟨μ1, a1, a2, a3, a4⟩ := key (z 1) (Nat.le_refl _)
  have g1 : FrM μ (stI (stI (stI μ1 12 9 0) 12 10 0) 20 0 (-2)) := ((a2.st (by decide) ⟨fun _ => by decide, fun q => absurd q (by decide)⟩).st (by decide) ⟨fun _ => by decide, fun q => absurd q (by decide)⟩).st (by decide) ⟨fun q => absurd q (by decide), fun q => absurd q (by decide)⟩
  obtain ⟨μ2, b1, b2, b3, b4⟩ := m_search hb hpl (z 1) 0 (fun _ => 0) 0 (0, 0) (stI (stI (stI μ1 12 9 0) 12 10 0) 20 0 (-2)) (by omega) (by rw [stI_ne _ _ _ (by decide), stI_ne _ _ _ (by decide), stI_ne _ _ _ (by decide), a3]) (fun e he => by rw [stI_ne _ _ _ (by decide), stI_ne _ _ _ (by decide), stI_ne _ _ _ (by decide)]; exact a4 e he) (fun e he => absurd he (Nat.not_lt_zero e)) (fun e he => absurd he (Nat.not_lt_zero e)) (by rw [st_get, if_pos ⟨rfl, rfl⟩]; rfl) (by rw [g1.2.2.2]; exact h21) (by rw [stI_ne _ _ _ (by decide), st_get, if_neg (by decide), st_get, if_pos ⟨rfl, rfl⟩]; rfl) (by rw [stI_ne _ _ _ (by decide), st_get, if_pos ⟨rfl, rfl⟩]; rfl) (Nat.le_refl _) ⟨by decide, by decide⟩
  refine ⟨μ2, _, ?_, g1.tr b2.1, ?_, lay_best hn (fun _ => 0), b3, b4⟩
  · have b1' : Md_layMost_49 0 (stI (stI (stI μ1 12 9 0) 12 10 0) 20 0 (-2)) = Md_layMost_49 (pm 0) μ2 := b1
    rw [e_Md_layMost, a1, Md_layMost_2_eq, m_h a3, if_pos (le_y (Nat.le_refl _) (by omega)), b1', Md_layMost_49_eq, if_pos (show pm 0 < 0 by decide)]
  · rw [b2.2.1, stI_ne _ _ _ (by decide), stI_ne _ _ _ (by decide), stI_ne _ _ _ (by decide), a3]
end MOST3
