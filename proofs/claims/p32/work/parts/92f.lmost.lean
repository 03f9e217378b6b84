/-! THE LAW LOOKS AHEAD: the most -/
section LMOST
variable {z P : Nat → Nat} {μ μ1 ν : PM} {k8 N i : Nat}
theorem l_fail {x9 x10 x11 x12 x13 x14 x16 : Int32} {w17 : Value} (hT : AR k8) : Lw_ahead_255 k8 x9 x10 x11 x12 x13 x14 0 x16 w17 ν = Lw_ahead_224 k8 x9 x10 (x11 + 1) (.int x12) (.int x13) (.int x14) (.int 0) (.int x16) w17 ν := by
  rw [Lw_ahead_255_eq _ _ _ _ _ _ _ _ _ _ _ hT]
  by_cases h : 3 ≤ x16
  · rw [if_pos h, if_pos rfl]
  · rw [if_neg h, if_pos rfl, if_pos rfl]
theorem GD_s {d : Nat} : GD z P (d + 1) ↔ GD z P d ∧ (P d = 0 ∨ (d < z 1 ∧ P d ≤ 10 ∧ 1 ≤ P d ∧ cpk z d (P d) P)) :=
  ⟨fun h => ⟨h.lt (by omega), h d (by omega)⟩, fun h e he => by
    by_cases q : e = d
    · rw [q]; exact h.2
    · exact h.1 e (by omega)⟩
theorem l_255 {b : Nat × Nat} (hb : Bd z) (hpl : Pl z) (h430 : 430 ≤ k8) (hn : z 1 ≤ 3) (hi : i < 1331) (hB : Bb b) : ∀ (k e : Nat) (ν : PM) (w17 : Value), e + k = 3 → LTr k8 (yP z (dg i) e) ν → TA k8 ν → GD z (dg i) e →
    ∃ ν' b' w12 w13 w14 w15 w16 u17, Lw_ahead_255 k8 (Int32.ofNat b.1) (Int32.ofNat b.2) (Int32.ofNat i) (Int32.ofNat (rc i e)) (Int32.ofNat (tl z (dg i) 0 e)) (Int32.ofNat (msk (dg i) e)) 1 (Int32.ofNat e) w17 ν = Lw_ahead_224 k8 (Int32.ofNat b'.1) (Int32.ofNat b'.2) (Int32.ofNat (i + 1)) w12 w13 w14 w15 w16 u17 ν' ∧ HF k8 ν ν' ∧ (GD z (dg i) 3 → b' = kp b (tl z (dg i) 0 3) (msk (dg i) 3)) ∧ (¬ GD z (dg i) 3 → b' = b) := by
  have h4 := hb.hr
  have hB1 := hB.1
  have hB2 := hB.2
  intro k
  induction k with
  | zero =>
    intro e ν w17 he hl hT hG
    have : e = 3 := by omega
    subst this
    have hs := tl_le hb hn (Nat.le_refl _) hG
    have hm : msk (dg i) 3 < 8 := msk_lt (Q := dg i) 3 (by decide)
    rw [Lw_ahead_255_eq _ _ _ _ _ _ _ _ _ _ _ hT.1, if_pos (show (3 : Int32) ≤ Int32.ofNat 3 by decide), if_neg (show ¬ (1 : Int32) = 0 by decide), i3_add1]
    generalize tl z (dg i) 0 3 = s at hs
    generalize msk (dg i) 3 = m at hm
    unfold kp
    by_cases c1 : s < b.1
    · rw [if_pos (lt_y c1 (by omega)), if_neg (show ¬ (b.1 < s ∨ (s = b.1 ∧ m < b.2)) by omega)]
      exact ⟨ν, b, _, _, _, _, _, _, rfl, HF.rf, fun _ => rfl, fun _ => rfl⟩
    · rw [if_neg (lt_n (by omega) (by omega))]
      by_cases c2 : s = b.1
      · rw [if_neg (show ¬ ¬ Int32.ofNat s = Int32.ofNat b.1 from fun q => q (by rw [c2]))]
        by_cases c3 : m < b.2
        · rw [if_pos (lt_y c3 (by omega)), if_pos (Or.inr ⟨c2, c3⟩)]
          exact ⟨ν, (s, m), _, _, _, _, _, _, rfl, HF.rf, fun _ => rfl, fun q => absurd hG q⟩
        · rw [if_neg (lt_n (by omega) (by omega)), if_neg (show ¬ (b.1 < s ∨ (s = b.1 ∧ m < b.2)) by omega)]
          exact ⟨ν, b, _, _, _, _, _, _, rfl, HF.rf, fun _ => rfl, fun _ => rfl⟩
      · rw [if_pos (fun q => c2 (by rw [i3_eq (by omega) (by omega)] at q; exact q)), if_pos (Or.inl (show b.1 < s by omega))]
        exact ⟨ν, (s, m), _, _, _, _, _, _, rfl, HF.rf, fun _ => rfl, fun q => absurd hG q⟩
  | succ k ih =>
    intro e ν w17 he hl hT hG
    have hrc := rc_le (i := i) e
    have hd11 : rc i e % 11 < 11 := Nat.mod_lt _ (by decide)
    have er : Int32.ofNat (rc i e) - Int32.ofNat (rc i e) / 11 * 11 = Int32.ofNat (rc i e % 11) := i3_rem (b := 11) (by omega) (by decide)
    have ed : Int32.ofNat (rc i e) / 11 = Int32.ofNat (rc i (e + 1)) := i3_div (b := 11) (by omega) (by decide)
    have ep : Int32.ofNat (rc i e % 11) - 1 = pm (dg i e) := rfl
    have y1 : yP z (dg i) e 1 = z 1 := yP_lo (by decide)
    have y4 : yP z (dg i) e 4 = z 4 := yP_lo (by decide)
    have hse := tl_le hb hn (by omega) hG
    have hdge : dg i e = rc i e % 11 := rfl
    have c0 : (0 : Int32) ≤ pm (dg i e) ↔ dg i e ≠ 0 := by rw [pm_le0 (by omega)]
    have es : tl z (dg i) 0 (e + 1) = tl z (dg i) 0 e + tkq z (dg i) e := by
      show tl z (dg i) 0 e + tkq z (dg i) (0 + e) = _
      rw [Nat.zero_add]
    have em : msk (dg i) (e + 1) = msk (dg i) e ||| (if dg i e = 0 then 0 else 1 <<< e) := rfl
    have hno : ¬ (e < z 1 ∧ dg i e ≤ 10 ∧ 1 ≤ dg i e ∧ cpk z e (dg i e) (dg i)) → dg i e ≠ 0 → ¬ GD z (dg i) 3 := fun q1 q2 q => by
      rcases q e (by omega) with w | w
      · exact q2 w
      · exact q1 w
    have hfail : ∀ x12 x13 x14 x16 u17, ¬ GD z (dg i) 3 → ∃ ν' b' w12 w13 w14 w15 w16 v17, Lw_ahead_255 k8 (Int32.ofNat b.1) (Int32.ofNat b.2) (Int32.ofNat i) x12 x13 x14 0 x16 u17 ν = Lw_ahead_224 k8 (Int32.ofNat b'.1) (Int32.ofNat b'.2) (Int32.ofNat (i + 1)) w12 w13 w14 w15 w16 v17 ν' ∧ HF k8 ν ν' ∧ (GD z (dg i) 3 → b' = kp b (tl z (dg i) 0 3) (msk (dg i) 3)) ∧ (¬ GD z (dg i) 3 → b' = b) := fun x12 x13 x14 x16 u17 hng => by
      rw [l_fail hT.1, i3_add1]
      exact ⟨ν, b, _, _, _, _, _, _, rfl, HF.rf, fun q => absurd q hng, fun _ => rfl⟩
    rw [Lw_ahead_255_eq _ _ _ _ _ _ _ _ _ _ _ hT.1, if_neg (show ¬ (3 : Int32) ≤ Int32.ofNat e from le_n (a := 3) (by omega) (by decide)), if_neg (show ¬ (1 : Int32) = 0 by decide), er, ep, ed]
    by_cases q0 : dg i e = 0
    · rw [if_neg (fun r => c0.mp r q0), i3_add1]
      have e1 : tl z (dg i) 0 (e + 1) = tl z (dg i) 0 e := by rw [es]; exact congrArg (_ + ·) (if_pos q0)
      have e2 : msk (dg i) (e + 1) = msk (dg i) e := by rw [em, if_pos q0, Nat.or_zero]
      have := ih (e + 1) ν (.int (pm (dg i e))) (by omega) (by rw [yP_s h4, if_pos q0]; exact hl) hT (GD_s.mpr ⟨hG, Or.inl q0⟩)
      rw [e1, e2] at this
      exact this
    · rw [if_pos (c0.mpr q0), a_n1 hl, y1]
      by_cases q1 : e < z 1
      · have hy := yP_all hb hpl e (by omega) hG
        have hre : reas (yP z (dg i) e) e (dg i e - 1) ≤ 6 := reas_le
        have hcan := yP_can (b := dg i e - 1) hb hpl (by omega) q1 (by omega) hG
        rw [show dg i e - 1 + 1 = dg i e by omega] at hcan
        rw [if_neg (le_n q1 (by omega)), pm_at q0, l_why hl hT hy.1 (by rw [y1]; exact q1) (by omega), bI_r]
        by_cases q2 : reas (yP z (dg i) e) e (dg i e - 1) = 0
        · have hc := hcan.mp q2
          have hat := (reas_0 q2).1
          have hpt : ptk z e (dg i) ≤ 90 := by
            rw [← yP_tak hb hpl (by omega) q1 hG]
            exact tak_le hy.1 (by omega) hat
          have e1 : tl z (dg i) 0 (e + 1) = tl z (dg i) 0 e + ptk z e (dg i) := by rw [es]; exact congrArg (_ + ·) (if_neg q0)
          have e2 : msk (dg i) (e + 1) = msk (dg i) e ||| 1 <<< e := by rw [em, if_neg q0]
          rw [if_neg (fun r => r (by rw [q2]; rfl)), l_takes hl hT hy.1 hy.2.1 (by rw [y1]; exact q1) hat, bI_r, yP_tak hb hpl (by omega) q1 hG, a_n4 hl, y4, k10, i3_add, chk_t (hT.ix (by omega)), i3_nat (by omega), i3_add, i3_bit e (by omega), i3_or, i3_add1]
          have hl' : LTr k8 (yP z (dg i) (e + 1)) (stI ν k8 (10 * e + z 4) (Int32.ofNat (dg i e - 1))) := by
            rw [yP_s h4, if_neg q0]
            have := try_lt (t := dg i e - 1) hl h430 hy.1 (show e < 3 by omega)
            rw [y4] at this
            exact this
          have := ih (e + 1) _ (.int (Int32.ofNat (dg i e - 1))) (by omega) hl' (hT.fr rfl) (GD_s.mpr ⟨hG, Or.inr ⟨q1, by omega, by omega, hc⟩⟩)
          rw [e1, e2] at this
          obtain ⟨ν', b', w12, w13, w14, w15, w16, v17, a1, a2, a3⟩ := this
          exact ⟨ν', b', w12, w13, w14, w15, w16, v17, a1, (HF.rf.st).tr a2, a3⟩
        · rw [if_pos (fun r => q2 (by rw [i3_n0 (by omega)] at r; exact r))]
          exact hfail _ _ _ _ _ (hno (fun r => q2 (hcan.mpr r.2.2.2)) q0)
      · rw [if_pos (le_y (by omega) (by omega))]
        exact hfail _ _ _ _ _ (hno (fun r => q1 r.1) q0)
theorem l_224 {w12 w13 w14 : Value} (hl : LT z μ) (hT : TA k8 μ) (h430 : 430 ≤ k8) (hk : Okz N z) : ∃ (ν : PM) (b : Nat × Nat) (u12 u13 u14 u15 u16 u17 : Value), Lw_ahead_224 k8 0 0 0 w12 w13 w14 pU pU pU μ = Lw_ahead_224 k8 (Int32.ofNat b.1) (Int32.ofNat b.2) (Int32.ofNat 1331) u12 u13 u14 u15 u16 u17 ν ∧ HF k8 μ ν ∧ isBest z b := by
  have hb := hk.1
  have hpl := hk.2.1
  have hn := hl.1.2.1
  have key : ∀ m, m ≤ 1331 → ∃ (ν : PM) (b : Nat × Nat) (u12 u13 u14 u15 u16 u17 : Value), Lw_ahead_224 k8 0 0 0 w12 w13 w14 pU pU pU μ = Lw_ahead_224 k8 (Int32.ofNat b.1) (Int32.ofNat b.2) (Int32.ofNat m) u12 u13 u14 u15 u16 u17 ν ∧ HF k8 μ ν ∧ Bb b ∧ (∃ S, S < 2 ^ z 1 ∧ feas z S ∧ b = (tkS z S, S)) ∧ ∀ j, j < m → GD z (dg j) 3 → leB (tl z (dg j) 0 3, msk (dg j) 3) b := by
    intro m
    induction m with
    | zero => intro _; exact ⟨μ, (0, 0), _, _, _, _, _, _, rfl, HF.rf, ⟨by show 0 ≤ 1000; omega, by show 0 < 32; omega⟩, ⟨0, Nat.two_pow_pos _, feas_0, by rw [tkS_0]⟩, fun j hj => absurd hj (Nat.not_lt_zero _)⟩
    | succ m ih =>
      intro hm
      obtain ⟨ν, b, u12, u13, u14, u15, u16, u17, a1, a2, a3, a4, a5⟩ := ih (by omega)
      have hT1 := hT.fr a2.1
      have hl1 := a2.lt h430 hl
      obtain ⟨ν1, b1, b2, b3⟩ := HF.sm (n := 30) hT1.aa TA16.aa (by decide) (by omega)
      obtain ⟨ν2, b', w12, w13, w14, w15, w16, v17, c1, c2, c3, c4⟩ := l_255 (i := m) hb hpl h430 hn (by omega) a3 3 0 ν1 u17 (by omega) (by rw [yP_0]; exact LTr.cp b2 h430 hl1 b3) (hT1.fr b2.1) (fun e he => absurd he (Nat.not_lt_zero _))
      have c1' : Lw_ahead_255 k8 (Int32.ofNat b.1) (Int32.ofNat b.2) (Int32.ofNat m) (Int32.ofNat m) 0 0 1 0 u17 ν1 = _ := c1
      refine ⟨ν2, b', w12, w13, w14, w15, w16, v17, ?_, (a2.tr b2).tr c2, ?_⟩
      · rw [a1, Lw_ahead_224_eq _ _ _ _ _ _ _ _ _ _ _ hT.1, if_neg (show ¬ (1331 : Int32) ≤ Int32.ofNat m from le_n (a := 1331) (by omega) (by decide)), b1, bV_r, c1']
      · by_cases q : GD z (dg m) 3
        · obtain ⟨s1, s2, s3⟩ := GD_set hn q
          have hkp := kp_le (b := b) (s := tl z (dg m) 0 3) (m := msk (dg m) 3)
          have hs := tl_le hb hn (Nat.le_refl _) q
          have hm8 : msk (dg m) 3 < 8 := msk_lt (Q := dg m) 3 (by decide)
          rw [c3 q]
          refine ⟨?_, ?_, fun j hj hG => ?_⟩
          · rcases hkp.2.2 with w | w
            · rw [w]; exact a3
            · rw [w]; exact ⟨by show tl z (dg m) 0 3 ≤ 1000; omega, by show msk (dg m) 3 < 32; omega⟩
          · rcases hkp.2.2 with w | w
            · rw [w]; exact a4
            · rw [w]; exact ⟨_, s1, s2, by rw [s3]⟩
          · by_cases e : j = m
            · rw [e]; exact hkp.2.1
            · exact (a5 j (by omega) hG).tr hkp.1
        · rw [c4 q]
          exact ⟨a3, a4, fun j hj hG => a5 j (by
            have : j ≠ m := fun e => q (by rw [← e]; exact hG)
            omega) hG⟩
  obtain ⟨ν, b, u12, u13, u14, u15, u16, u17, a1, a2, a3, a4, a5⟩ := key 1331 (Nat.le_refl _)
  refine ⟨ν, b, u12, u13, u14, u15, u16, u17, a1, a2, a4, fun S hS hf => ?_⟩
  obtain ⟨i, h1, h2, h3, h5⟩ := dg_all hn hS hf
  have := a5 i h1 h2
  rw [h3, h5] at this
  exact this
end LMOST
