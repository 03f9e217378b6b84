/-! SEMANTICS: most, as the law makes it -/
section MOST5
variable {z : Nat → Nat} {μ : PM}
theorem tkS_le {S : Nat} (hb : Bd z) : tkS z S ≤ 450 := by
  have hn := hb.no
  have := sum_le (f := fun o => if S.testBit o = true then (if z (56 + 7 * o + 3) = 0 then 0 else takN z o (othN z o + ahS z S o)) else 0) (b := 90) (z 1) (fun o ho => by
    by_cases q : S.testBit o = true
    · rw [if_pos q]
      by_cases hat : z (56 + 7 * o + 3) = 0
      · rw [if_pos hat]; exact Nat.zero_le _
      · rw [if_neg hat]; exact tak_le hb (by omega) hat
    · rw [if_neg q]; exact Nat.zero_le _)
  unfold tkS
  omega
theorem t_findMost (hr : RT 23 z μ) (hb : Bd z) (hpl : Pl z) (hL : ∀ e, e < z 1 → mI μ 10 e = Int32.ofNat (tunS z e)) : ∃ (μ' : PM) (r : Nat × Nat), d_Out_findMost μ = some (.inl none, μ') ∧ ScC μ μ' ∧ isBest z r ∧ mI μ' 9 2 = Int32.ofNat r.1 ∧ mI μ' 9 3 = Int32.ofNat r.2 := by
  have hn := hb.no
  have h32 : 2 ^ z 1 ≤ 32 := show 2 ^ z 1 ≤ 2 ^ 5 from Nat.pow_le_pow_right (by decide) hn
  have hpos : 1 ≤ 2 ^ z 1 := Nat.two_pow_pos _
  have key : ∀ (j s : Nat) (b : Nat × Nat) (ν : PM) (w : Value), s + j = 2 ^ z 1 → 1 ≤ s → ScC μ ν → mI ν 10 = mI μ 10 → mI ν 9 2 = Int32.ofNat b.1 → mI ν 9 3 = Int32.ofNat b.2 → (∃ S, S < s ∧ feas z S ∧ b = (tkS z S, S)) → (∀ S, S < s → feas z S → leB (tkS z S, S) b) →
      ∃ (μ' : PM) (r : Nat × Nat), Out_findMost_12 (Int32.ofNat s) w ν = some (.inl none, μ') ∧ ScC μ μ' ∧ isBest z r ∧ mI μ' 9 2 = Int32.ofNat r.1 ∧ mI μ' 9 3 = Int32.ofNat r.2 := by
    intro j
    induction j with
    | zero =>
      intro s b ν w hs h1 hF h10 h2 h3 hA hC
      have e : s = 2 ^ z 1 := by omega
      subst e
      refine ⟨ν, b, ?_, hF, ⟨hA, hC⟩, h2, h3⟩
      rw [Out_findMost_12_eq, r_f5 (hF.rt hr), i3_bit _ (by omega), Nat.shiftLeft_eq, Nat.one_mul, if_pos (le_y (Nat.le_refl _) (by omega))]
    | succ j ih =>
      intro s b ν w hs h1 hF h10 h2 h3 hA hC
      have hr' := hF.rt hr
      have htk := tkS_le (S := s) hb
      have hAb : b.1 ≤ 450 ∧ b.2 < s := by
        obtain ⟨S, a1, a2, a3⟩ := hA
        rw [a3]
        exact ⟨tkS_le hb, a1⟩
      have hgo : ∀ (ν' : PM) (b' : Nat × Nat) (w' : Value), ScC μ ν' → mI ν' 10 = mI μ 10 → mI ν' 9 2 = Int32.ofNat b'.1 → mI ν' 9 3 = Int32.ofNat b'.2 → (∃ S, S < s + 1 ∧ feas z S ∧ b' = (tkS z S, S)) → leB b b' → (feas z s → leB (tkS z s, s) b') → _ := fun ν' b' w' g1 g2 g3 g4 g5 g6 g7 => ih (s + 1) b' ν' w' (by omega) (by omega) g1 g2 g3 g4 g5 (fun S q1 q2 => by
        by_cases r : S = s
        · subst r; exact g7 q2
        · exact (hC S (by omega) q2).tr g6)
      have hA' : ∃ S, S < s + 1 ∧ feas z S ∧ b = (tkS z S, S) := by
        obtain ⟨S, a1, a2, a3⟩ := hA
        exact ⟨S, by omega, a2, a3⟩
      rw [Out_findMost_12_eq, r_f5 hr', i3_bit _ (by omega), Nat.shiftLeft_eq, Nat.one_mul, if_neg (le_n (by omega) (by omega)), t_takingsOf hr' hb hpl (by omega), bI_r, h2, i3_add1]
      by_cases q : tkS z s ≤ b.1
      · rw [if_pos (le_y q (by omega))]
        exact hgo ν b _ hF h10 h2 h3 hA' leB.rf (fun _ => by
          by_cases q2 : tkS z s < b.1
          · exact Or.inl q2
          · exact Or.inr ⟨by show tkS z s = b.1; omega, by show b.2 ≤ s; omega⟩)
      · rw [if_neg (le_n (by omega) (by omega))]
        obtain ⟨v, ν2, f1, f2, f3⟩ := t_find (S := s) hb (by omega) (z 1) 0 (fun _ => 0) ν (by omega) hr' (fun e he => by rw [h10]; exact hL e he) (fun e he => absurd he (Nat.not_lt_zero e))
        have f1' : d_Out_findTunes (Int32.ofNat s) 0 ν = rI v ν2 := f1
        have hF2 := hF.tr f2.1
        rw [f1', bI_r]
        rcases f3 with ⟨rfl, f3⟩ | ⟨rfl, f3⟩
        · have hfe : feas z s := (feas_iff (fun _ => 0)).mpr f3
          rw [if_neg (by decide)]
          exact hgo (stI (stI ν2 9 2 (Int32.ofNat (tkS z s))) 9 3 (Int32.ofNat s)) (tkS z s, s) _ ((hF2.st (by decide)).st (by decide)) (by rw [stI_ne _ _ _ (by decide), stI_ne _ _ _ (by decide), f2.2.1, h10]) (by rw [st_get, if_neg (by decide), st_get, if_pos ⟨rfl, rfl⟩]) (by rw [st_get, if_pos ⟨rfl, rfl⟩]) ⟨s, by omega, hfe, rfl⟩ (Or.inl (by show b.1 < tkS z s; omega)) (fun _ => leB.rf)
        · rw [if_pos rfl]
          exact hgo ν2 b _ hF2 (by rw [f2.2.1, h10]) (by rw [f2.2.2.1, h2]) (by rw [f2.2.2.1, h3]) hA' leB.rf (fun q2 => absurd ((feas_iff (fun _ => 0)).mp q2) f3)
  rw [e_Out_findMost]
  exact key (2 ^ z 1 - 1) 1 (0, 0) (stI (stI μ 9 2 0) 9 3 0) pU (by omega) (Nat.le_refl _) ((ScC.rf.st (by decide)).st (by decide)) (by rw [stI_ne _ _ _ (by decide), stI_ne _ _ _ (by decide)]) (by rw [st_get, if_neg (by decide), st_get, if_pos ⟨rfl, rfl⟩]; rfl) (by rw [st_get, if_pos ⟨rfl, rfl⟩]; rfl) ⟨0, by decide, feas_0, by rw [tkS_0]⟩ (fun S q1 _ => by
    have : S = 0 := by omega
    subst this
    rw [tkS_0]
    exact leB.rf)
theorem x_most (hb : Bd z) (hpl : Pl z) : ∃ r : Nat × Nat, isBest z r ∧ ∀ μ, RT 23 z μ → ∃ μ1 μ2, d_Out_lookAt μ = some (.inl none, μ1) ∧ d_Out_findMost μ1 = some (.inl none, μ2) ∧ ScC μ μ2 ∧ mI μ2 9 2 = Int32.ofNat r.1 ∧ mI μ2 9 3 = Int32.ofNat r.2 := by
  refine ⟨lay z (z 1) 0 (fun _ => 0) 0 (0, 0), lay_best hb.no (fun _ => 0), fun μ hr => ?_⟩
  obtain ⟨μ1, a1, a2, a3⟩ := t_lookAt hr hb
  obtain ⟨μ2, r, b1, b2, b3, b4, b5⟩ := t_findMost (a2.rt hr) hb hpl a3
  have e := isBest.uni b3 (lay_best hb.no (fun _ => 0))
  rw [e] at b4 b5
  exact ⟨μ1, μ2, a1, b1, a2.tr b2, b4, b5⟩
end MOST5
