/-! SEMANTICS: most, as the law makes it -/
section MOST5
variable {z : Nat → Nat} {μ : PM}
theorem tkS_le {S : Nat} (hb : Bd z) : tkS z S ≤ 450 := by
  have hn := hb.no
  have := sum_le (f := fun o => if S.testBit o = true then (if z (56 + 7 * o + 3) = 0 then 0 else takN z o (othN z o + ahS z S o)) else 0) (b := 90) (z 1) (fun o ho => by
    by_cases q : S.testBit o = true
    · rw [if_pos q]
      by_cases hat : z (56 + 7 * o + 3) = 0
      · rw [if_pos hat]; exact Nat.zero_le _
      · rw [if_neg hat]; exact tak_le hb (by omega) hat
    · rw [if_neg q]; exact Nat.zero_le _)
  unfold tkS
  omega
theorem t_findMost (hr : RT 23 z μ) (hb : Bd z) (hpl : Pl z) (hL : ∀ e, e < z 1 → mI μ 10 e = Int32.ofNat (tunS z e)) : ∃ (μ' : PM) (r : Nat × Nat), d_Out_findMost μ = some (.inl none, μ') ∧ ScC μ μ' ∧ isBest z r ∧ mI μ' 9 2 = Int32.ofNat r.1 ∧ mI μ' 9 3 = Int32.ofNat r.2 := by
  have hn := hb.no
  have h32 : 2 ^ z 1 ≤ 32 := show 2 ^ z 1 ≤ 2 ^ 5 from Nat.pow_le_pow_right (by decide) hn
  have hpos : 1 ≤ 2 ^ z 1 := Nat.two_pow_pos _
  have key : ∀ (j s : Nat) (b : Nat × Nat) (ν : PM) (w : Value), s + j = 2 ^ z 1 → 1 ≤ s → ScC μ ν → mI ν 10 = mI μ 10 → mI ν 9 2 = Int32.ofNat b.1 → mI ν 9 3 = Int32.ofNat b.2 → (∃ S, S < s ∧ feas z S ∧ b = (tkS z S, S)) → (∀ S, S < s → feas z S → leB (tkS z S, S) b) →
      ∃ (μ' : PM) (r : Nat × Nat), Out_findMost_12 (Int32.ofNat s) w ν = some (.inl none, μ') ∧ ScC μ μ' ∧ isBest z r ∧ mI μ' 9 2 = Int32.ofNat r.1 ∧ mI μ' 9 3 = Int32.ofNat r.2 := by
    intro j
    induction j with
    | zero =>
      intro s b ν w hs h1 hF h10 h2 h3 hA hC
      have e : s = 2 ^ z 1 := by omega
      subst e
      refine ⟨ν, b, ?_, hF, ⟨hA, hC⟩, h2, h3⟩
      rw [Out_findMost_12_eq, r_f5 (hF.rt hr), i3_bit _ (by omega), Nat.shiftLeft_eq, Nat.one_mul, if_pos (le_y (Nat.le_refl _) (by omega))]
    | succ j ih =>
      intro s b ν w hs h1 hF h10 h2 h3 hA hC
      have hr' := hF.rt hr
      have htk := tkS_le (S := s) hb
      have hAb : b.1 ≤ 450 ∧ b.2 < s := by
        obtain ⟨S, a1, a2, a3⟩ := hA
        rw [a3]
        exact ⟨tkS_le hb, a1⟩
      have hgo : ∀ (ν' : PM) (b' : Nat × Nat) (w' : Value), ScC μ ν' → mI ν' 10 = mI μ 10 → mI ν' 9 2 = Int32.ofNat b'.1 → mI ν' 9 3 = Int32.ofNat b'.2 → (∃ S, S < s + 1 ∧ feas z S ∧ b' = (tkS z S, S)) → leB b b' → (feas z s → leB (tkS z s, s) b') → _ := fun ν' b' w' g1 g2 g3 g4 g5 g6 g7 => ih (s + 1) b' ν' w' (by omega) (by omega) g1 g2 g3 g4 g5 (fun S q1 q2 => by
        by_cases r : S = s
        · subst r; exact g7 q2
        · exact (hC S (by omega) q2).tr g6)
      have hA' : ∃ S, S < s + 1 ∧ feas z S ∧ b = (tkS z S, S) := by
        obtain ⟨S, a1, a2, a3⟩ := hA
        exact ⟨S, by omega, a2, a3⟩
      rw [Out_findMost_12_eq, r_f5 hr', i3_bit _ (by omega), Nat.shiftLeft_eq, Nat.one_mul, if_neg (le_n (by omega) (by omega)), t_takingsOf hr' hb hpl (by omega), bI_r, h2, i3_add1]
      by_cases q : tkS z s ≤ b.1
      · rw [if_pos (le_y q (by omega))]
        exact hgo ν b _ hF h10 h2 h3 hA' leB.rf (fun _ => by
          by_cases q2 : tkS z s < b.1
          · exact Or.inl q2
          · exact Or.inr ⟨by show tkS z s = b.1; omega, by show b.2 ≤ s; omega⟩)
      · rw [if_neg (le_n (by omega) (by omega))]
        obtain ⟨v, ν2, f1, f2, f3⟩ := t_find (S := s) hb (by omega) (z 1) 0 (fun _ => 0) ν (by omega) hr' (fun e he => by rw [h10]; exact hL e he) (fun e he => absurd he (Nat.not_lt_zero e))
        have f1' : d_Out_findTunes (Int32.ofNat s) 0 ν = rI v ν2 := f1
        have hF2 := hF.tr f2.1
        rw [f1', bI_r]
        rcases f3 with ⟨rfl, f3⟩ | ⟨rfl, f3⟩
        · have hfe : feas z s := (feas_iff (fun _ => 0)).mpr f3
          rw [if_neg (by decide)]
          exact hgo (stI (stI ν2 9 2 (Int32.ofNat (tkS z s))) 9 3 (Int32.ofNat s)) (tkS z s, s) _ ((hF2.st (by decide)).st (by decide)) (by rw [stI_ne _ _ _ (by decide), stI_ne _ _ _ (by decide), f2.2.1, h10]) (by rw [st_get, if_neg (by decide), st_get, if_pos ⟨rfl, rfl⟩]) (by rw [st_get, if_pos ⟨rfl, rfl⟩]) ⟨s, by omega, hfe, rfl⟩ (Or.inl (by show b.1 < tkS z s; omega)) (fun _ => leB.rf)
        · rw [if_pos rfl]
          exact hgo ν2 b _ hF2 (by rw [f2.2.1, h10]) (by rw [f2.2.2.1, h2]) (by rw [f2.2.2.1, h3]) hA' leB.rf (fun q2 => absurd ((feas_iff (fun _ => 0)).mp q2) f3)
  rw [e_Out_findMost]
  exact key (2 ^ z 1 - 1) 1 (0, 0) (stI (stI μ 9 2 0) 9 3 0) pU (by omega) (Nat.le_refl _) ((ScC.rf.st (by decide)).st (by decide)) (by rw [stI_ne _ _ _ (by decide), stI_ne _ _ _ (by decide)]) (by rw [st_get, if_neg (by decide), st_get, if_pos ⟨rfl, rfl⟩]; rfl) (by rw [st_get, if_pos ⟨rfl, rfl⟩]; rfl) ⟨0, by decide, feas_0, by rw [tkS_0]⟩ (fun S q1 _ => by
    have : S = 0 := by omega
    subst this
    rw [tkS_0]
    exact leB.rf)
/-- both look for the same -/
theorem x_most (hb : Bd z) (hpl : Pl z) : ∃ r : Nat × Nat, (∀ μ, RT 23 z μ → ∃ μ1 μ2, d_Out_lookAt μ = some (.inl none, μ1) ∧ d_Out_findMost μ1 = some (.inl none, μ2) ∧ ScC μ μ2 ∧ mI μ2 9 2 = Int32.ofNat r.1 ∧ mI μ2 9 3 = Int32.ofNat r.2) ∧
    ∀ μ, mI μ 13 = zI z → mI μ 21 0 = 0 → ∃ μ', d_Md_layMost μ = some (.inl none, μ') ∧ FrM μ μ' ∧ mI μ' 13 = zI z ∧ mI μ' 12 9 = Int32.ofNat r.1 ∧ mI μ' 12 10 = Int32.ofNat r.2 := by
  refine ⟨lay z (z 1) 0 (fun _ => 0) 0 (0, 0), fun μ hr => ?_, fun μ hz h21 => ?_⟩
  · obtain ⟨μ1, a1, a2, a3⟩ := t_lookAt hr hb
    obtain ⟨μ2, r, b1, b2, b3, b4, b5⟩ := t_findMost (a2.rt hr) hb hpl a3
    have e := isBest.uni b3 (lay_best hb.no (fun _ => 0))
    rw [e] at b4 b5
    exact ⟨μ1, μ2, a1, b1, a2.tr b2, b4, b5⟩
  · obtain ⟨μ1, r, a1, a2, a3, a4, a5, a6⟩ := m_layMost hz hb hpl h21
    have e := isBest.uni a4 (lay_best hb.no (fun _ => 0))
    rw [e] at a5 a6
    exact ⟨μ1, a1, a2, a3, a5, a6⟩
theorem o_most (x : Int32) : Op (d_Lw_most x) (d_Md_most x) := by
  refine Op.ofAnsS (c := d_Oc_most x) (code := fun k => if k = 1 then some 1 else none) (fun N μ hN hJ => ?_) (fun μ => ⟨_, e_Lw_most x μ, fun _ _ _ h => code1 h⟩)
  obtain ⟨z, sv, hz, hr, hk, h21, -, -, -⟩ := jn_z hJ
  have hb := hk.1
  rcases rng x (a := 0) (n := 1) (by decide) (by decide) with ⟨i, i0, i1, rfl⟩ | h
  · have er : ∀ ν : PM, d_Oc_requireInRange (Int32.ofNat i) 0 1 ν = some (.inl none, ν) := fun ν => reqR_y (a := 0) (n := 1) i0 (by omega) (by decide)
    have ew : ∀ ν : PM, d_Md_within (Int32.ofNat i) 0 1 ν = rI 1 ν := fun ν => with_y (a := 0) (n := 1) i0 (by omega) (by decide)
    obtain ⟨r, g1, g2⟩ := x_most hb hk.2.1
    obtain ⟨μ1, μ2, a1, a2, a3, a4, a5⟩ := g1 μ hr
    refine Or.inl ⟨Int32.ofNat (if i = 0 then r.1 else r.2), μ2, ?_, a3, fun μ' h1 h2 h3 => ?_⟩
    · rw [e_Oc_most, er, bV_r, a1, bV_r, a2, bV_r, a4, a5]
      rcases (show i = 0 ∨ i = 1 by omega) with rfl | rfl
      · rw [if_neg (show ¬ ¬ Int32.ofNat 0 = 0 from fun q => q rfl), if_pos rfl]
      · rw [if_pos (show ¬ Int32.ofNat 1 = 0 by decide), if_neg (by decide)]
    · have hz' := h1.trans hz
      obtain ⟨μ3, b1, b2, b3, b4, b5⟩ := g2 (stI μ' 12 16 0) (hz_t hz') (by rw [stI_ne _ _ _ (by decide), h3, h21])
      refine ⟨μ3, ?_, b2, b3.trans hz'.symm⟩
      rw [e_Md_most, ew, bI_r, if_pos (by decide), b1, bV_r, b4, b5]
      rcases (show i = 0 ∨ i = 1 by omega) with rfl | rfl
      · rw [if_neg (show ¬ ¬ Int32.ofNat 0 = 0 from fun q => q rfl), if_pos rfl]
      · rw [if_pos (show ¬ Int32.ofNat 1 = 0 by decide), if_neg (by decide)]
  · refine Or.inr ⟨1, 1, rfl, by decide, ?_, fun μ' g1 _ => ?_⟩
    · have er : d_Oc_requireInRange x 0 1 μ = some (.inr 1, exM μ) := reqR_o h
      rw [e_Oc_most, er]
      rfl
    · have ew : ∀ ν : PM, d_Md_within x 0 1 ν = rI 0 ν := fun ν => with_o h
      rw [e_Md_most, ew, bI_r, if_neg (fun q => q rfl), e_Md_fails]
      rfl
end MOST5
