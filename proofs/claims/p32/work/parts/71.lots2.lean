/-! SEMANTICS: lots -/
section LOTS2
variable {z : Nat → Nat} {μ : PM}
/-- one organ's lot -/
def stepL (o : Nat) (z : Nat → Nat) : Nat → Nat :=
  if z (56 + 7 * o + 1) = 1 ∧ 0 < freeS z (z 0) then setN (setN z 6 (sd (z 6))) (56 + 7 * o + 3) (fA (setN z 6 (sd (z 6))) (z 0) 0 (sd (z 6) / 65536 % freeS z (z 0)) + 1) else z
def lotF : Nat → Nat → (Nat → Nat) → Nat → Nat
  | 0, _, z => z
  | k + 1, o, z => lotF k (o + 1) (stepL o z)
/-- what holds as the organs' lots are drawn -/
def LI (N o : Nat) (z : Nat → Nat) : Prop := Okz N z ∧ t0 z ∧ (∀ e, o ≤ e → e < 5 → z (56 + 7 * e + 3) = 0) ∧ freeS z (z 0) + withS z (z 1) = z 0
theorem freeS_le (n : Nat) : freeS z n ≤ n := by
  have := sum_le (f := fun c => if whoP z c (z 1) = 0 then 1 else 0) (b := 1) n (fun i _ => by split <;> omega)
  unfold freeS
  omega
theorem seed_who {c n s : Nat} : whoP (setN z 6 s) c n = whoP z c n := whoP_ext n (fun i _ => setN_ne (by omega))
theorem seed_free {n s : Nat} : freeS (setN z 6 s) n = freeS z n := sum_congr n (fun i _ => by rw [seed_who, setN_ne (by decide)])
/-- the corner that a draw finds -/
theorem find_ok {m : Nat} (hf : m < freeS z (z 0)) : fA (setN z 6 (sd (z 6))) (z 0) 0 m < z 0 ∧ whoP z (fA (setN z 6 (sd (z 6))) (z 0) 0 m) (z 1) = 0 := by
  obtain ⟨a, b⟩ := fA_spec (z := setN z 6 (sd (z 6))) (z 0) 0 m (by rw [frF_free, seed_free]; exact hf)
  rw [seed_who, setN_ne (by decide)] at b
  exact ⟨by omega, b⟩
theorem LI_step {N o : Nat} (h : LI N o z) (ho : o < z 1) : LI N (o + 1) (stepL o z) ∧ stepL o z 0 = z 0 ∧ stepL o z 1 = z 1 ∧ (¬ (z (56 + 7 * o + 1) = 1 ∧ 0 < freeS z (z 0)) → stepL o z = z) ∧ ((z (56 + 7 * o + 1) = 1 ∧ 0 < freeS z (z 0)) → withS (stepL o z) (z 1) = withS z (z 1) + 1) := by
  obtain ⟨hk, ht, hat, hfw⟩ := h
  have hb := hk.1
  have hn := hb.no
  by_cases hc : z (56 + 7 * o + 1) = 1 ∧ 0 < freeS z (z 0)
  · have hm : sd (z 6) / 65536 % freeS z (z 0) < freeS z (z 0) := Nat.mod_lt _ hc.2
    obtain ⟨hc1, hc2⟩ := find_ok hm
    have es : stepL o z = setN (setN z 6 (sd (z 6))) (56 + 7 * o + 3) (fA (setN z 6 (sd (z 6))) (z 0) 0 (sd (z 6) / 65536 % freeS z (z 0)) + 1) := if_pos hc
    rw [es]
    generalize fA (setN z 6 (sd (z 6))) (z 0) 0 (sd (z 6) / 65536 % freeS z (z 0)) = c at hc1 hc2
    have hat0 := hat o (Nat.le_refl _) (by omega)
    have hnc := hb.nc
    have hsd := sd_lt (a := z 6)
    have b1 : Bd (setN z 6 (sd (z 6))) := hb.set (by unfold okV; omega)
    have e60 : setN z 6 (sd (z 6)) 0 = z 0 := setN_ne (by decide)
    have b2 : Bd (setN (setN z 6 (sd (z 6))) (56 + 7 * o + 3) (c + 1)) := b1.set (by unfold okV; rw [e60]; omega)
    have ne : ∀ j, j ≠ 6 → j ≠ 56 + 7 * o + 3 → setN (setN z 6 (sd (z 6))) (56 + 7 * o + 3) (c + 1) j = z j := fun j h1 h2 => by rw [setN_ne h2, setN_ne h1]
    have ea : setN (setN z 6 (sd (z 6))) (56 + 7 * o + 3) (c + 1) (56 + 7 * o + 3) = c + 1 := setN_self
    have hwS : withS (setN (setN z 6 (sd (z 6))) (56 + 7 * o + 3) (c + 1)) (z 1) = withS z (z 1) + 1 := by
      have := sum_one (f := fun o => if z (56 + 7 * o + 3) = 0 then 0 else 1) (f' := fun e => if setN (setN z 6 (sd (z 6))) (56 + 7 * o + 3) (c + 1) (56 + 7 * e + 3) = 0 then 0 else 1) (m := o) (z 1) ho (fun i hi hne => by rw [ne _ (by omega) (by omega)])
      have this2 : withS (setN (setN z 6 (sd (z 6))) (56 + 7 * o + 3) (c + 1)) (z 1) + (if z (56 + 7 * o + 3) = 0 then 0 else 1) = withS z (z 1) + (if setN (setN z 6 (sd (z 6))) (56 + 7 * o + 3) (c + 1) (56 + 7 * o + 3) = 0 then 0 else 1) := this
      rw [ea, hat0, if_pos rfl, if_neg (by omega)] at this2
      omega
    have hfr : freeS (setN (setN z 6 (sd (z 6))) (56 + 7 * o + 3) (c + 1)) (z 0) + 1 = freeS z (z 0) := by
      have ee1 : setN (setN z 6 (sd (z 6))) (56 + 7 * o + 3) (c + 1) 1 = z 1 := ne 1 (by decide) (by omega)
      have w1 : ∀ d, d ≠ c → whoP (setN (setN z 6 (sd (z 6))) (56 + 7 * o + 3) (c + 1)) d (z 1) = whoP z d (z 1) := fun d hd => by
        rw [whoP_set (by rw [setN_ne (by omega)]; exact hat0) hd, seed_who]
      have w2 : whoP (setN (setN z 6 (sd (z 6))) (56 + 7 * o + 3) (c + 1)) c (z 1) ≠ 0 := whoP_has ea (z 1) ho
      have := sum_one (f := fun d => if whoP z d (z 1) = 0 then 1 else 0) (f' := fun d => if whoP (setN (setN z 6 (sd (z 6))) (56 + 7 * o + 3) (c + 1)) d (setN (setN z 6 (sd (z 6))) (56 + 7 * o + 3) (c + 1) 1) = 0 then 1 else 0) (m := c) (z 0) hc1 (fun i hi hne => by rw [ee1, w1 i hne])
      have this2 : freeS (setN (setN z 6 (sd (z 6))) (56 + 7 * o + 3) (c + 1)) (z 0) + (if whoP z c (z 1) = 0 then 1 else 0) = freeS z (z 0) + (if whoP (setN (setN z 6 (sd (z 6))) (56 + 7 * o + 3) (c + 1)) c (setN (setN z 6 (sd (z 6))) (56 + 7 * o + 3) (c + 1) 1) = 0 then 1 else 0) := this
      rw [ee1, if_pos hc2, if_neg w2] at this2
      exact this2
    have e0 : setN (setN z 6 (sd (z 6))) (56 + 7 * o + 3) (c + 1) 0 = z 0 := ne 0 (by decide) (by omega)
    have e1 : setN (setN z 6 (sd (z 6))) (56 + 7 * o + 3) (c + 1) 1 = z 1 := ne 1 (by decide) (by omega)
    have ht' : t0 (setN (setN z 6 (sd (z 6))) (56 + 7 * o + 3) (c + 1)) := fun o' h1 h h2 => by rw [ne _ (by omega) (by omega)]; exact ht o' h1 h h2
    have hdis : ∀ e, e < 5 → e ≠ o → z (56 + 7 * e + 3) ≠ c + 1 := fun e he hne q => by
      by_cases h1 : e < z 1
      · exact whoP_has q (z 1) h1 hc2
      · rw [(hk.2.2.2.2.2.1 e (by omega) he).1 3 (by decide)] at q
        omega
    refine ⟨⟨hk.setA b2 (fun o' h1 h h2 q => absurd (ht' o' h1 h h2) q) (fun x y h1 h2 q r => ?_) (fun j hj => ne j (by omega) (by omega)) (fun e h1 h2 w hw => ?_) (fun p h1 h2 => ?_), ht', fun e h1 h2 => ?_, ?_⟩, e0, e1, fun q => absurd hc q, fun _ => hwS⟩
    · by_cases hx : x = o
      · subst hx
        by_cases hy : y = x
        · exact hy.symm
        · rw [ea, ne _ (by omega) (by omega)] at r
          exact absurd r.symm (hdis y h2 hy)
      · by_cases hy : y = o
        · subst hy
          rw [ea, ne _ (by omega) (by omega)] at r
          exact absurd r (hdis x h1 hx)
        · rw [ne _ (by omega) (by omega)] at q r
          rw [ne _ (by omega) (by omega)] at r
          exact hk.2.2.1 x y h1 h2 q r
    · rw [ne _ (by omega) (by omega)]
      exact (hk.2.2.2.2.2.1 e h1 h2).1 w (by omega)
    · rw [ne _ (by omega) (by omega)]
      exact (hk.2.2.2.2.2.2.1 p h1 h2).1 0 (by decide)
    · rw [ne _ (by omega) (by omega)]
      exact hat e (by omega) h2
    · rw [e0, e1, hwS]
      omega
  · have es : stepL o z = z := if_neg hc
    rw [es]
    exact ⟨⟨hk, ht, fun e h1 h2 => hat e (by omega) h2, hfw⟩, rfl, rfl, fun _ => rfl, fun q => absurd q hc⟩
theorem lotF_ok {N : Nat} : ∀ (k o : Nat) (z : Nat → Nat), LI N o z → o + k = z 1 → Okz N (lotF k o z) ∧ lotF k o z 1 = z 1 := by
  intro k
  induction k with
  | zero => intro o z h _; exact ⟨h.1, rfl⟩
  | succ k ih =>
    intro o z h hok
    obtain ⟨g1, g2, g3, -⟩ := LI_step h (show o < z 1 by omega)
    obtain ⟨a, b⟩ := ih (o + 1) (stepL o z) g1 (by rw [g3]; omega)
    exact ⟨a, b.trans g3⟩
theorem t_drawLots8 {N : Nat} : ∀ (k o : Nat) (z : Nat → Nat) (μ : PM) (w : Value), LI N o z → RT 23 z μ → o + k = z 1 → ∃ μ', Twn_drawLots_8 (Int32.ofNat (withS z (z 1))) (Int32.ofNat o) w μ = rI (Int32.ofNat (withS (lotF k o z) (z 1))) μ' ∧ FrC μ μ' ∧ RT 23 (lotF k o z) μ' := by
  intro k
  induction k with
  | zero =>
    intro o z μ w h hr hok
    have hn := h.1.1.no
    exact ⟨μ, by rw [Twn_drawLots_8_eq, r_f5 hr, if_pos (le_y (by omega) (by omega))]; rfl, FrC.rf, hr⟩
  | succ k ih =>
    intro o z μ w h hr hok
    have hb := h.1.1
    have hn := hb.no
    have hnc := hb.nc
    have ho : o < z 1 := by omega
    have hfl := freeS_le (z := z) (z 0)
    have hfw := h.2.2.2
    obtain ⟨g1, g2, g3, g4, g5⟩ := LI_step h ho
    have ep : mI μ (48 + o) 1 = Int32.ofNat (z (56 + 7 * o + 1)) := r_org hr (by omega) (by decide) (by decide)
    have hp01 := (hb.org o (by omega)).2.1
    have ed : Int32.ofNat (z 0) - Int32.ofNat (withS z (z 1)) = Int32.ofNat (freeS z (z 0)) := by
      rw [i3_sub (by omega)]
      congr 1
      omega
    show ∃ μ', _ = rI (Int32.ofNat (withS (lotF k (o + 1) (stepL o z)) (z 1))) μ' ∧ FrC μ μ' ∧ RT 23 (lotF k (o + 1) (stepL o z)) μ'
    have hgo : ∀ ν w', FrC μ ν → RT 23 (stepL o z) ν → ∃ μ', Twn_drawLots_8 (Int32.ofNat (withS (stepL o z) (z 1))) (Int32.ofNat (o + 1)) w' ν = rI (Int32.ofNat (withS (lotF k (o + 1) (stepL o z)) (z 1))) μ' ∧ FrC μ μ' ∧ RT 23 (lotF k (o + 1) (stepL o z)) μ' := fun ν w' h1 h2 => by
      obtain ⟨μ', q1, q2, q3⟩ := ih (o + 1) (stepL o z) ν w' g1 h2 (by rw [g3]; omega)
      rw [g3] at q1
      exact ⟨μ', q1, h1.tr q2, q3⟩
    rw [Twn_drawLots_8_eq, r_f5 hr, if_neg (le_n (by omega) (by omega)), chk_t (i3_inb (by omega) (by decide)), i3_nat (by omega), ep, r_f4 hr, ed, i3_add1, i3_add1]
    by_cases h1 : z (56 + 7 * o + 1) = 1
    · rw [h1, if_neg (show ¬ Int32.ofNat 1 = 0 by decide)]
      by_cases h2 : 0 < freeS z (z 0)
      · have hm : sd (z 6) / 65536 % freeS z (z 0) < freeS z (z 0) := Nat.mod_lt _ h2
        have es : stepL o z = setN (setN z 6 (sd (z 6))) (56 + 7 * o + 3) (fA (setN z 6 (sd (z 6))) (z 0) 0 (sd (z 6) / 65536 % freeS z (z 0)) + 1) := if_pos ⟨h1, h2⟩
        have b1 : Bd (setN z 6 (sd (z 6))) := hb.set (by have := sd_lt (a := z 6); unfold okV; omega)
        have r1 : RT 23 (setN z 6 (sd (z 6))) (stI μ 23 10 (Int32.ofNat (sd (z 6)))) := rs_f10 hr hb
        have e60 : setN z 6 (sd (z 6)) 0 = z 0 := setN_ne (by decide)
        have ef := t_freeCorner4 (x1 := Int32.ofNat (sd (z 6) / 65536 % freeS z (z 0))) r1 b1 (z 0) 0 (sd (z 6) / 65536 % freeS z (z 0)) (by rw [e60]; omega) (by rw [frF_free, seed_free]; exact hm) (by omega)
        have ef2 : d_Twn_freeCorner (Int32.ofNat (sd (z 6) / 65536 % freeS z (z 0))) (stI μ 23 10 (Int32.ofNat (sd (z 6)))) = rI (Int32.ofNat (fA (setN z 6 (sd (z 6))) (z 0) 0 (sd (z 6) / 65536 % freeS z (z 0)))) (stI μ 23 10 (Int32.ofNat (sd (z 6)))) := by
          rw [e_Twn_freeCorner]
          exact ef
        rw [if_neg (show ¬ Int32.ofNat (freeS z (z 0)) ≤ 0 from le_n (b := 0) h2 (by omega)), t_draw hr hb h2 (by omega), bI_r, ef2, bI_r, ← g5 ⟨h1, h2⟩]
        refine hgo _ _ ((FrC.rf.st (by omega)).st (by omega)) ?_
        rw [es]
        have r2 := rs_at (v := fA (setN z 6 (sd (z 6))) (z 0) 0 (sd (z 6) / 65536 % freeS z (z 0)) + 1) (o0 := o) r1 b1 (fun o' q1 hh q2 => by rw [setN_ne (by omega)]; exact h.2.1 o' q1 hh q2) (by omega)
        rw [pm_succ] at r2
        exact r2
      · have es := g4 (fun q => h2 q.2)
        rw [if_pos (show Int32.ofNat (freeS z (z 0)) ≤ 0 from le_y (b := 0) (by omega) (by omega))]
        have := hgo μ (.int (Int32.ofNat (freeS z (z 0)))) FrC.rf (by rw [es]; exact hr)
        rw [es] at this ⊢
        exact this
    · have es := g4 (fun q => h1 q.1)
      have h0 : z (56 + 7 * o + 1) = 0 := by omega
      rw [h0, if_pos (show Int32.ofNat 0 = 0 from rfl)]
      have := hgo μ (.int (Int32.ofNat (freeS z (z 0)))) FrC.rf (by rw [es]; exact hr)
      rw [es] at this ⊢
      exact this
/-- the state behind the lots -/
def lotZ (z : Nat → Nat) : Nat → Nat := lotF (z 1) 0 (clrC (z 1) z)
theorem t0_of (h : plyS z = 0) : t0 z := fun o ho h' hh => by
  have := sum_zero 50 h (10 * o + h') (by omega)
  have e : 163 + (10 * o + h') = 163 + 10 * o + h' := by omega
  rw [e] at this
  by_cases q : z (163 + 10 * o + h') = 0
  · exact q
  · rw [if_neg q] at this; omega
theorem LI_0 {N : Nat} (hk : Okz N z) (ht : t0 z) : LI N 0 (clrC (z 1) z) ∧ clrC (z 1) z 1 = z 1 ∧ withS (clrC (z 1) z) (z 1) = 0 := by
  have hb := hk.1
  have hn := hb.no
  have ne : ∀ j, (∀ o, o < z 1 → j ≠ 56 + 7 * o + 3) → clrC (z 1) z j = z j := fun j h => clrC_ne h
  have e0 : clrC (z 1) z 0 = z 0 := ne 0 (fun o _ => by omega)
  have e1 : clrC (z 1) z 1 = z 1 := ne 1 (fun o _ => by omega)
  have hat : ∀ e, e < 5 → clrC (z 1) z (56 + 7 * e + 3) = 0 := fun e he => by
    by_cases h : e < z 1
    · exact clrC_at h
    · rw [ne _ (fun o _ => by omega)]
      exact (hk.2.2.2.2.2.1 e (by omega) he).1 3 (by decide)
  have ht' : t0 (clrC (z 1) z) := fun o ho h hh => by rw [ne _ (fun o' _ => by omega)]; exact ht o ho h hh
  have hw : withS (clrC (z 1) z) (z 1) = 0 := by
    have : withS (clrC (z 1) z) (z 1) = sum (z 1) (fun _ => 0) := sum_congr _ (fun i hi => by rw [hat i (by omega), if_pos rfl])
    rw [this]
    have := sum_le (f := fun _ => 0) (b := 0) (z 1) (fun i _ => Nat.le_refl _)
    omega
  have hf : freeS (clrC (z 1) z) (z 0) = z 0 := by
    have e9 : ∀ n, sum n (fun c => if whoP (clrC (z 1) z) c (clrC (z 1) z 1) = 0 then 1 else 0) = n := by
      intro n
      induction n with
      | zero => rfl
      | succ n ih =>
        show sum n _ + (if _ then 1 else 0) = n + 1
        rw [ih, if_pos (whoP_none _ (fun i hi => by rw [e1] at hi; rw [hat i (by omega)]; omega))]
    exact e9 (z 0)
  have hbd : Bd (clrC (z 1) z) := by
    have : ∀ m, m ≤ z 1 → Bd (clrC m z) := by
      intro m
      induction m with
      | zero => intro _; exact hb
      | succ m ih => intro h; exact (ih (by omega)).set (by unfold okV; omega)
    exact this _ (Nat.le_refl _)
  refine ⟨⟨hk.setA hbd (fun o ho h hh q => absurd (ht' o ho h hh) q) (fun o x ho hx q r => absurd (hat o ho) q) (fun j hj => ne j (fun o _ => by omega)) (fun o h1 h2 w hw => ?_) (fun p h1 h2 => ?_), ht', fun e _ he => hat e he, ?_⟩, e1, hw⟩
  · by_cases w3 : w = 3
    · subst w3; exact hat o h2
    · rw [ne _ (fun o' _ => by omega)]
      exact (hk.2.2.2.2.2.1 o h1 h2).1 w (by omega)
  · rw [ne _ (fun o' _ => by omega)]
    exact (hk.2.2.2.2.2.2.1 p h1 h2).1 0 (by decide)
  · rw [e0, e1, hf, hw]
    rfl
theorem x_lots {N : Nat} (hk : Okz N z) (hp : plyS z = 0) : Okz N (lotZ z) ∧ lotZ z 1 = z 1 ∧ (∀ μ, RT 23 z μ → ∃ μ', d_Twn_drawLots μ = rI (Int32.ofNat (withS (lotZ z) (z 1))) μ' ∧ FrC μ μ' ∧ RT 23 (lotZ z) μ') ∧ True := by
  have ht := t0_of hp
  obtain ⟨g1, g2, g3⟩ := LI_0 hk ht
  have hn := hk.1.no
  obtain ⟨g4, g5⟩ := lotF_ok (z 1) 0 _ g1 (by rw [g2]; omega)
  refine ⟨g4, g5.trans g2, fun μ hr => ?_, trivial⟩
  obtain ⟨μ1, a1, a2, a3⟩ := t_noCorners (r_f5 hr) hn
  have r1 := rt_clr hr hk.1 ht a3
  obtain ⟨μ2, b1, b2, b3⟩ := t_drawLots8 (z 1) 0 _ μ1 pU g1 r1 (by rw [g2]; omega)
  rw [g2, g3] at b1
  refine ⟨μ2, ?_, a2.tr b2, b3⟩
  rw [e_Twn_drawLots, a1, bV_r]
  exact b1
theorem t_mayDraw (hr : RT 23 z μ) (hb : Bd z) : d_Twn_lotsMayBeDrawn μ = rI (if z 4 = 0 ∧ plyS z = 0 then 1 else 0) μ := by
  have h4 := hb.hr
  have hps := plyS_le (z := z)
  have e4 : Int32.ofNat (z 4) = 0 ↔ z 4 = 0 := by rw [show (0 : Int32) = Int32.ofNat 0 from rfl, i3_eq (by omega) (by decide)]
  have e0 : Int32.ofNat (plyS z) = 0 ↔ plyS z = 0 := by rw [show (0 : Int32) = Int32.ofNat 0 from rfl, i3_eq (by omega) (by decide)]
  rw [e_Twn_lotsMayBeDrawn, r_f8 hr, r_f11 hr]
  by_cases h1 : z 4 = 0
  · rw [if_neg (fun q => q (e4.mpr h1))]
    by_cases h2 : plyS z = 0
    · rw [if_neg (fun q => q (e0.mpr h2)), if_pos ⟨h1, h2⟩]
    · rw [if_pos (fun q => h2 (e0.mp q)), if_neg (fun q => h2 q.2)]
  · rw [if_pos (fun q => h1 (e4.mp q)), if_neg (fun q => h1 q.1)]
end LOTS2
