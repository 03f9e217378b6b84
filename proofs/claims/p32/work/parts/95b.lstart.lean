/-! THE LAW: from its beginning -/
section LSTART
variable {xs : Nat → Int32} {n : Nat}
theorem s_in {x y : Nat} (hx : x ≠ 390) : mI (mu0 xs n) x y = in0 x y := by
  show (bif Nat.beq x 390 then xs y else in0 x y) = _
  rw [beqC hx]
  rfl
theorem l_law50 (hS : ∀ (z : Nat → Nat) (N : Nat), Okz N z → N ≤ 20000 → shareOK z) (hn : n ≤ 260) : ∃ μ', Lw_law_50 0 (mu0 xs n) = rI 1 μ' ∧ μ'.2.2.2 ≤ 1000 := by
  obtain ⟨μ1, a1, a2, a3, a4⟩ := upC (k := 16) (v := -1) (f := fun i => i) 30 (mu0 xs n)
  obtain ⟨μ2, b1, b2, b3, b4⟩ := upC (k := 13) (v := -1) (f := fun i => 7 * i + 3) 3 μ1
  have e1 : Lw_law_50 0 (mu0 xs n) = Lw_law_50 (Int32.ofNat 30) μ1 := by
    rw [← a1]
    exact loopI (fun i ν => Lw_law_50 i ν) 30 (fun i ν => stI ν 16 i (-1)) (fun i hi ν => by
      show Lw_law_50 _ _ = Lw_law_50 _ _
      rw [Lw_law_50_eq, if_neg (show ¬ (30 : Int32) ≤ Int32.ofNat i from le_n (a := 30) hi (by decide)), chk_t (i3_inb hi (by decide)), i3_nat (by omega), i3_add1])
  have e2 : Lw_law_72 0 μ1 = Lw_law_72 (Int32.ofNat 3) μ2 := by
    rw [← b1]
    exact loopI (fun i ν => Lw_law_72 i ν) 3 (fun i ν => stI ν 13 (7 * i + 3) (-1)) (fun i hi ν => by
      show Lw_law_72 _ _ = Lw_law_72 _ _
      rw [Lw_law_72_eq, if_neg (show ¬ (3 : Int32) ≤ Int32.ofNat i from le_n (a := 3) hi (by decide)), k7, ka3, chk_t (i3_inb (by omega) (by decide)), i3_nat (by omega), i3_add1])
  rw [e1, Lw_law_50_eq, if_pos (show (30 : Int32) ≤ Int32.ofNat 30 by decide), e2, Lw_law_72_eq, if_pos (show (3 : Int32) ≤ Int32.ofNat 3 by decide), lt_b, lt_b]
  have xo : ∀ x, x ≠ 13 → x ≠ 16 → x ≠ 17 → x ≠ 18 → mI (stI (stI (stI (stI (stI (stI μ2 18 6 1) 17 0 20) 17 1 2) 17 2 20) 17 3 25) 17 4 5) x = mI (mu0 xs n) x := fun x h1 h2 h3 h4 => by
    rw [stI_ne _ _ _ h3, stI_ne _ _ _ h3, stI_ne _ _ _ h3, stI_ne _ _ _ h3, stI_ne _ _ _ h3, stI_ne _ _ _ h4, b3 x h1, a3 x h2]
  have s2 : (stI (stI (stI (stI (stI (stI μ2 18 6 1) 17 0 20) 17 1 2) 17 2 20) 17 3 25) 17 4 5).2 = (mu0 xs n).2 := b2.trans a2
  have x13 : ∀ j, j < 21 → mI (stI (stI (stI (stI (stI (stI μ2 18 6 1) 17 0 20) 17 1 2) 17 2 20) 17 3 25) 17 4 5) 13 j = eo j 0 := fun j hj => by
    rw [stI_ne _ _ _ (by decide), stI_ne _ _ _ (by decide), stI_ne _ _ _ (by decide), stI_ne _ _ _ (by decide), stI_ne _ _ _ (by decide), stI_ne _ _ _ (by decide)]
    unfold eo
    by_cases e : j % 7 = 3
    · rw [if_pos e, pm_zero]
      exact (b4 j).1 ⟨j / 7, by omega, by omega⟩
    · rw [if_neg e, (b4 j).2 (fun ⟨i, hi, he⟩ => e (by omega)), a3 13 (by decide), s_in (by decide)]
      exact (by decide +kernel : ∀ j, j < 21 → in0 13 j = Int32.ofNat 0) j hj
  have x16 : ∀ j, j < 30 → mI (stI (stI (stI (stI (stI (stI μ2 18 6 1) 17 0 20) 17 1 2) 17 2 20) 17 3 25) 17 4 5) 16 j = pm 0 := fun j hj => by
    rw [stI_ne _ _ _ (by decide), stI_ne _ _ _ (by decide), stI_ne _ _ _ (by decide), stI_ne _ _ _ (by decide), stI_ne _ _ _ (by decide), stI_ne _ _ _ (by decide), b3 16 (by decide), pm_zero]
    exact (a4 j).1 ⟨j, hj, rfl⟩
  have x17 : ∀ j, j < 5 → mI (stI (stI (stI (stI (stI (stI μ2 18 6 1) 17 0 20) 17 1 2) 17 2 20) 17 3 25) 17 4 5) 17 j = Int32.ofNat (z00 (11 + j)) := fun j hj => by
    rcases (show j = 0 ∨ j = 1 ∨ j = 2 ∨ j = 3 ∨ j = 4 by omega) with rfl | rfl | rfl | rfl | rfl
    · rw [st_get, if_neg (by decide), st_get, if_neg (by decide), st_get, if_neg (by decide), st_get, if_neg (by decide), st_at]; rfl
    · rw [st_get, if_neg (by decide), st_get, if_neg (by decide), st_get, if_neg (by decide), st_at]; rfl
    · rw [st_get, if_neg (by decide), st_get, if_neg (by decide), st_at]; rfl
    · rw [st_get, if_neg (by decide), st_at]; rfl
    · rw [st_at]; rfl
  have x18 : ∀ j, j < 11 → mI (stI (stI (stI (stI (stI (stI μ2 18 6 1) 17 0 20) 17 1 2) 17 2 20) 17 3 25) 17 4 5) 18 j = Int32.ofNat (z00 j) := fun j hj => by
    rw [stI_ne _ _ _ (by decide), stI_ne _ _ _ (by decide), stI_ne _ _ _ (by decide), stI_ne _ _ _ (by decide), stI_ne _ _ _ (by decide), st_get]
    by_cases e : j = 6
    · rw [if_pos ⟨rfl, e⟩, e]; rfl
    · rw [if_neg (fun w => e w.2), b3 18 (by decide), a3 18 (by decide), s_in (by decide)]
      exact (by decide +kernel : ∀ j, j < 11 → j ≠ 6 → in0 18 j = Int32.ofNat (z00 j)) j hj e
  generalize stI (stI (stI (stI (stI (stI μ2 18 6 1) 17 0 20) 17 1 2) 17 2 20) 17 3 25) 17 4 5 = μ3 at xo s2 x13 x16 x17 x18
  have hl : LT z00 μ3 := by
    refine ⟨⟨by decide, by decide, by decide⟩, fun j hj => ?_, fun j hj => ?_, fun j hj w => ?_, fun p hp o ho => ?_, fun j hj => ?_, x17, x18⟩
    · rw [xo 12 (by decide) (by decide) (by decide) (by decide), s_in (by decide), s_no _ (by omega)]
      exact (by decide +kernel : ∀ j, j < 24 → in0 12 j = Int32.ofNat 0) j hj
    · rw [s_no _ (by omega)]
      exact x13 j hj
    · rw [xo 14 (by decide) (by decide) (by decide) (by decide), s_in (by decide), s_no _ (by omega)]
      unfold ep
      have h2 : z00 2 = 0 := by decide
      rw [h2] at w
      rw [if_neg (fun r => absurd (w r) (Nat.not_lt_zero _))]
      exact (by decide +kernel : ∀ j, j < 16 → in0 14 j = Int32.ofNat 0) j hj
    · rw [xo 15 (by decide) (by decide) (by decide) (by decide), s_in (by decide), s_no _ (by omega)]
      exact (by decide +kernel : ∀ j, j < 12 → in0 15 j = Int32.ofNat 0) (3 * p + o) (by omega)
    · rw [s_no _ (by omega)]
      exact x16 j hj
  have hr : RT 23 z00 μ3 := RT_fr (fun x y hx hx2 => by rw [xo x (by omega) (by omega) (by omega) (by omega)]) (s_rt (xs := xs) (n := n))
  have hJ : JL 0 0 0 n z00 μ3 := by
    refine ⟨hr, hl, s_ok, ⟨0, fun _ => z00, by decide, by decide, ?_, ?_, fun k hk => absurd hk (Nat.not_lt_zero _)⟩, by rw [s2]; rfl, by rw [s2]; rfl⟩
    · rw [xo 1 (by decide) (by decide) (by decide) (by decide), s_in (by decide)]
      decide +kernel
    · rw [xo 1 (by decide) (by decide) (by decide) (by decide), s_in (by decide)]
      decide +kernel
  have ht := hJ.told (hS z00 0 s_ok (by decide))
  obtain ⟨μ4, c1, c2⟩ := hJ.ahead (by decide)
  obtain ⟨μ5, d1, d2⟩ := l_loop hS hn 40 0 0 0 1 z00 μ4 pU pU pU rfl c2 (Nat.le_refl _) (Nat.le_refl _) (fun _ => rfl) (fun w => absurd w (Nat.lt_irrefl _))
  have d1' : Lw_law_171 0 pU pU pU μ4 = rI 1 μ5 := d1
  refine ⟨μ5, ?_, d2⟩
  rw [ht, bI_r, if_neg (show ¬ (1 : Int32) = 0 by decide), c1, bI_r, if_pos (show ¬ (1 : Int32) = 0 by decide), d1']
theorem law_sem0 (hS : ∀ (z : Nat → Nat) (N : Nat), Okz N z → N ≤ 20000 → shareOK z) (hn : n ≤ 260) : ∃ f o, prun f 115 13 (50, [.ref 390, .ref 0, .ref 12, .ref 13, .ref 14, .ref 15, .ref 16, .ref 17, .ref 18, .int 0, pU, pU, pU], [], mu0 xs n) = some o ∧ o.1 = .inl (some (.int 1)) ∧ o.2.2.2.2 ≤ 1000 := by
  obtain ⟨μ1, a1, a2⟩ := l_law50 (xs := xs) hS hn
  obtain ⟨f, hf⟩ := Exec_iff.mp (show Exec 115 13 (50, [.ref 390, .ref 0, .ref 12, .ref 13, .ref 14, .ref 15, .ref 16, .ref 17, .ref 18, .int 0, pU, pU, pU], [], mu0 xs n) = some (.inl (some (.int 1)), μ1) from a1)
  exact ⟨f, _, hf, rfl, a2⟩
end LSTART
