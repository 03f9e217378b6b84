/-! THE LAW'S TURNS: the others -/
section LACT3
variable {z z' : Nat → Nat} {μ μ1 μ2 : PM} {N old sv a b κ : Nat} {zs : Nat → Nat → Nat}
theorem st_st {k i : Nat} {v w : Int32} : stI (stI μ k i v) k i w = stI μ k i w := by
  refine Prod.ext ?_ rfl
  funext x y
  show mI (stI (stI μ k i v) k i w) x y = mI (stI μ k i w) x y
  rw [st_get, st_get, st_get]
  by_cases c : x = k ∧ y = i
  · rw [if_pos c, if_pos c]
  · rw [if_neg c, if_neg c, if_neg c]
theorem z_ne0 {n : Nat} (h : n ≠ 0) (hn : n < 100) : ¬ Int32.ofNat n = 0 := k_no (b := 0) h hn (by decide)
theorem l_act_asg (hr : RT 23 z μ) (hl : LT z μ) (hk : Okz N z) (hg : RingC old sv zs μ) (ha : a < 2147483648) (hb : b < 2147483648) (h1 : z 1 ≠ 0) (h2 : z 2 ≠ 0) (hκ : κ = 5 ∨ κ = 6) : ∃ sv', Rs N sv' (d_Lw_act (Int32.ofNat κ) (Int32.ofNat a) (Int32.ofNat b) μ) μ ∧ (sv' = sv ∨ sv' = nxt sv) := by
  have hn1 := hl.1.2.1
  have hn2 := hl.1.2.2
  obtain ⟨o, ho, e3⟩ := act_head hl (κ := κ) (by omega) (by omega) ha h1
  have t1 : d_Lw_at (Int32.ofNat b) (Int32.ofNat (z 2)) μ = rI (Int32.ofNat (b / 2 % z 2)) μ := l_at hb (by omega) (by omega)
  have s5 : Int32.ofNat a >>> ((5 : Int32) &&& 31) = Int32.ofNat (a >>> 5) := i3_shr5 ha 5 (by decide)
  have s9 : Int32.ofNat a >>> ((9 : Int32) &&& 31) = Int32.ofNat (a >>> 9) := i3_shr5 ha 9 (by decide)
  have t2 : d_Lw_at (Int32.ofNat (a >>> 5)) (Int32.ofNat (z 1 + 1)) μ = rI (Int32.ofNat (a >>> 5 / 2 % (z 1 + 1))) μ := sh_at ha (by omega) (by omega) μ
  have t3 : d_Lw_at (Int32.ofNat (a >>> 9)) 4 μ = rI (Int32.ofNat (a >>> 9 / 2 % 4)) μ := sh_at (n := 4) ha (by decide) (by decide) μ
  have m1 : b / 2 % z 2 < z 2 := Nat.mod_lt _ (by omega)
  have m2 : a >>> 5 / 2 % (z 1 + 1) < z 1 + 1 := Nat.mod_lt _ (by omega)
  have m3 : a >>> 9 / 2 % 4 < 4 := Nat.mod_lt _ (by decide)
  generalize b / 2 % z 2 = p at t1 m1
  generalize a >>> 5 / 2 % (z 1 + 1) = w at t2 m2
  generalize a >>> 9 / 2 % 4 = f at t3 m3
  have fin : ∀ c : Nat, c ≤ z 1 → ∃ μ2, d_Oc_assign (Int32.ofNat p) (pm c) (stI μ 14 (4 * p) (pm c)) = rI (pm (z (91 + 4 * p))) μ2 ∧ Rs N (nxt sv) (rI 1 μ2) μ := fun c hc => by
    have l1 := hl.w14 (p := p) (v := c) (by omega)
    have hF : LFr μ (stI μ 14 (4 * p) (pm c)) := LFr.rf.st (by decide)
    obtain ⟨μ2, g1, g2, g3⟩ := Rs.lc hF l1 (c_assign (hF.rt hr) hk (hF.rg hg) m1 hc)
    exact ⟨μ2, g1, g3 _ rfl⟩
  have ew0 : Int32.ofNat w - 0 = Int32.ofNat w := i3_sub (b := 0) (Nat.zero_le _)
  have ew1 : Int32.ofNat w - 1 = pm w := rfl
  refine ⟨nxt sv, ?_, Or.inr rfl⟩
  rw [e_Lw_act, if_pos (z_ne0 (by omega) (by omega)), if_neg (show ¬ Int32.ofNat κ = 1 from k_no (b := 1) (by omega) (by omega) (by decide)), a_n1 hl, if_pos (z_ne0 h1 (by omega)), e3, bI_r, if_neg (show ¬ Int32.ofNat κ = 2 from k_no (b := 2) (by omega) (by omega) (by decide)), a_n2 hl, if_pos (z_ne0 h2 (by omega)), if_pos (show ¬ Int32.ofNat κ = 3 from k_no (b := 3) (by omega) (by omega) (by decide)), if_pos (show ¬ Int32.ofNat κ = 4 from k_no (b := 4) (by omega) (by omega) (by decide)), if_neg (show ¬ (7 : Int32) ≤ Int32.ofNat κ from le_n (a := 7) (by omega) (by decide)), t1, bI_r, k4, chk_t (i3_inb (by omega) (by decide)), a_n1 hl, i3_add1, s5, t2, bI_r, s9, t3, bI_r, i3_nat (by omega), a_n1 hl, a_w hl m1, ew0, ew1]
  by_cases q : f = 0
  · obtain ⟨μ2, g1, g2⟩ := fin w (by omega)
    rw [if_neg (show ¬ ¬ Int32.ofNat f = 0 from fun r => r (by rw [q]; rfl)), st_at, st_at, if_pos (show ¬ pm w = Int32.ofNat (z 1) from fun r => by
      have := (pm_eq (by omega) (by omega)).mp r
      omega), g1, bI_r, if_neg ne_0]
    exact g2
  · rw [if_pos (z_ne0 q (by omega)), st_at, st_at]
    by_cases q2 : w = z 1
    · obtain ⟨μ2, g1, g2⟩ := fin 1 (by omega)
      have g1' : d_Oc_assign (Int32.ofNat p) 0 (stI μ 14 (4 * p) 0) = rI (pm (z (91 + 4 * p))) μ2 := g1
      rw [if_neg (show ¬ ¬ Int32.ofNat w = Int32.ofNat (z 1) from fun r => r (by rw [q2])), st_st, g1', bI_r, if_neg ne_0]
      exact g2
    · obtain ⟨μ2, g1, g2⟩ := fin (w + 1) (by omega)
      rw [pm_succ] at g1
      rw [if_pos (show ¬ Int32.ofNat w = Int32.ofNat (z 1) from k_no q2 (by omega) (by omega)), g1, bI_r, if_neg ne_0]
      exact g2
theorem l_act_set (hr : RT 23 z μ) (hl : LT z μ) (hk : Okz N z) (hg : RingC old sv zs μ) (ha : a < 2147483648) (hb : b < 2147483648) (h1 : z 1 ≠ 0) (h2 : z 2 ≠ 0) : ∃ sv', Rs N sv' (d_Lw_act (Int32.ofNat 7) (Int32.ofNat a) (Int32.ofNat b) μ) μ ∧ (sv' = sv ∨ sv' = nxt sv) := by
  have hn1 := hl.1.2.1
  have hn2 := hl.1.2.2
  obtain ⟨o, ho, e3⟩ := act_head hl (κ := 7) (by decide) (by decide) ha h1
  have t0 : d_Lw_at (Int32.ofNat a) 5 μ = rI (Int32.ofNat (a / 2 % 5)) μ := l_at (n := 5) ha (by decide) (by decide)
  have t51 : d_Lw_at (Int32.ofNat b) 51 μ = rI (Int32.ofNat (b / 2 % 51)) μ := l_at (n := 51) hb (by decide) (by decide)
  have t101 : d_Lw_at (Int32.ofNat b) 101 μ = rI (Int32.ofNat (b / 2 % 101)) μ := l_at (n := 101) hb (by decide) (by decide)
  have t10 : d_Lw_at (Int32.ofNat b) 10 μ = rI (Int32.ofNat (b / 2 % 10)) μ := l_at (n := 10) hb (by decide) (by decide)
  have t100 : d_Lw_at (Int32.ofNat b) 100 μ = rI (Int32.ofNat (b / 2 % 100)) μ := l_at (n := 100) hb (by decide) (by decide)
  have m0 : a / 2 % 5 < 5 := Nat.mod_lt _ (by decide)
  have m51 : b / 2 % 51 < 51 := Nat.mod_lt _ (by decide)
  have m101 : b / 2 % 101 < 101 := Nat.mod_lt _ (by decide)
  have m10 : b / 2 % 10 < 10 := Nat.mod_lt _ (by decide)
  have m100 : b / 2 % 100 < 100 := Nat.mod_lt _ (by decide)
  generalize a / 2 % 5 = i at t0 m0
  have fin : ∀ c : Nat, c ≤ gSet i → ∃ μ2, d_Oc_set (Int32.ofNat i) (Int32.ofNat c) (stI μ 17 i (Int32.ofNat c)) = rI (Int32.ofNat (z (11 + i))) μ2 ∧ Rs N (nxt sv) (rI 1 μ2) μ := fun c hc => by
    have l1 := hl.s17 (i := i) (v := c) m0
    have hF : LFr μ (stI μ 17 i (Int32.ofNat c)) := LFr.rf.st (by decide)
    obtain ⟨μ2, g1, g2, g3⟩ := Rs.lc hF l1 (c_set (hF.rt hr) hk (hF.rg hg) m0 hc)
    exact ⟨μ2, g1, g3 _ rfl⟩
  refine ⟨nxt sv, ?_, Or.inr rfl⟩
  rw [e_Lw_act, if_pos (show ¬ Int32.ofNat 7 = 0 by decide), if_neg (show ¬ Int32.ofNat 7 = 1 by decide), a_n1 hl, if_pos (z_ne0 h1 (by omega)), e3, bI_r, if_neg (show ¬ Int32.ofNat 7 = 2 by decide), a_n2 hl, if_pos (z_ne0 h2 (by omega)), if_pos (show ¬ Int32.ofNat 7 = 3 by decide), if_pos (show ¬ Int32.ofNat 7 = 4 by decide), if_pos (show (7 : Int32) ≤ Int32.ofNat 7 by decide), if_neg (show ¬ ¬ Int32.ofNat 7 = 7 by decide), t0, bI_r, chk_t (i3_inb m0 (by decide)), t51, t101, t10, t100, bI_r, bI_r, bI_r, bI_r, i3_nat (by omega), st_at, st_at, st_at, st_at, a_s hl m0]
  rcases (show i = 0 ∨ i = 1 ∨ i = 2 ∨ i = 3 ∨ i = 4 by omega) with rfl | rfl | rfl | rfl | rfl
  · obtain ⟨μ2, g1, g2⟩ := fin (b / 2 % 100) (by show _ ≤ 99; omega)
    rw [if_neg (show ¬ ¬ Int32.ofNat 0 = 0 by decide), g1, bI_r, if_neg ne_0]
    exact g2
  · obtain ⟨μ2, g1, g2⟩ := fin (b / 2 % 10) (by show _ ≤ 9; omega)
    rw [if_pos (show ¬ Int32.ofNat 1 = 0 by decide), if_neg (show ¬ ¬ Int32.ofNat 1 = 1 by decide), g1, bI_r, if_neg ne_0]
    exact g2
  · obtain ⟨μ2, g1, g2⟩ := fin (b / 2 % 51) (by show _ ≤ 50; omega)
    rw [if_pos (show ¬ Int32.ofNat 2 = 0 by decide), if_pos (show ¬ Int32.ofNat 2 = 1 by decide), if_pos (show ¬ Int32.ofNat 2 = 3 by decide), g1, bI_r, if_neg ne_0]
    exact g2
  · obtain ⟨μ2, g1, g2⟩ := fin (b / 2 % 101) (by show _ ≤ 100; omega)
    rw [if_pos (show ¬ Int32.ofNat 3 = 0 by decide), if_pos (show ¬ Int32.ofNat 3 = 1 by decide), if_neg (show ¬ ¬ Int32.ofNat 3 = 3 by decide), g1, bI_r, if_neg ne_0]
    exact g2
  · obtain ⟨μ2, g1, g2⟩ := fin (b / 2 % 51) (by show _ ≤ 50; omega)
    rw [if_pos (show ¬ Int32.ofNat 4 = 0 by decide), if_pos (show ¬ Int32.ofNat 4 = 1 by decide), if_pos (show ¬ Int32.ofNat 4 = 3 by decide), g1, bI_r, if_neg ne_0]
    exact g2
theorem l_act_hi (hr : RT 23 z μ) (hl : LT z μ) (hk : Okz N z) (hN : N ≤ 19900) (hg : RingC old sv zs μ) (ha : a < 2147483648) (hb : b < 2147483648) (h1 : z 1 ≠ 0) (h2 : z 2 ≠ 0) (h8 : 8 ≤ κ) (hκ : κ < 23) : ∃ sv', Rs N sv' (d_Lw_act (Int32.ofNat κ) (Int32.ofNat a) (Int32.ofNat b) μ) μ ∧ (sv' = sv ∨ sv' = nxt sv) := by
  have hbd := hk.1
  have hn1 := hl.1.2.1
  have hn2 := hl.1.2.2
  have hh := hbd.hr
  have hps := plyS_le (z := z)
  obtain ⟨o, ho, e3⟩ := act_head hl (κ := κ) (by omega) (by omega) ha h1
  have et : d_Lw_today μ = rI (Int32.ofNat (plyS z)) μ := by rw [ply30 hk hn1]; exact l_today hl hbd
  have t2 : d_Lw_at (Int32.ofNat b) 2 μ = rI (Int32.ofNat (b / 2 % 2)) μ := l_at (n := 2) hb (by decide) (by decide)
  have t10 : d_Lw_at (Int32.ofNat b) 10 μ = rI (Int32.ofNat (b / 2 % 10)) μ := l_at (n := 10) hb (by decide) (by decide)
  have m2 : b / 2 % 2 < 2 := Nat.mod_lt _ (by decide)
  have m10 : b / 2 % 10 < 10 := Nat.mod_lt _ (by decide)
  rw [e_Lw_act, if_pos (z_ne0 (by omega) (by omega)), if_neg (show ¬ Int32.ofNat κ = 1 from k_no (b := 1) (by omega) (by omega) (by decide)), a_n1 hl, if_pos (z_ne0 h1 (by omega)), e3, bI_r, if_neg (show ¬ Int32.ofNat κ = 2 from k_no (b := 2) (by omega) (by omega) (by decide)), a_n2 hl, if_pos (z_ne0 h2 (by omega)), if_pos (show ¬ Int32.ofNat κ = 3 from k_no (b := 3) (by omega) (by omega) (by decide)), if_pos (show ¬ Int32.ofNat κ = 4 from k_no (b := 4) (by omega) (by omega) (by decide)), if_pos (show (7 : Int32) ≤ Int32.ofNat κ from le_y (a := 7) (by omega) (by omega)), if_pos (show ¬ Int32.ofNat κ = 7 from k_no (b := 7) (by omega) (by omega) (by decide))]
  by_cases c1 : κ < 10
  · rw [if_neg (show ¬ (10 : Int32) ≤ Int32.ofNat κ from le_n (a := 10) c1 (by decide)), a_n4 hl]
    by_cases q4 : z 4 = 0
    · rw [if_neg (show ¬ (0 : Int32) < Int32.ofNat (z 4) from lt_n (a := 0) (by omega) (by omega)), et, bI_r]
      by_cases qp : plyS z = 0
      · obtain ⟨μ2, g1, g2, g3⟩ := Rs.cl hl (c_lots hr hk hg ⟨q4, qp⟩)
        obtain ⟨μ3, d1, d2, d3⟩ := l_drawn g2 hk qp
        rw [if_neg (show ¬ (0 : Int32) < Int32.ofNat (plyS z) from lt_n (a := 0) (by omega) (by omega)), g1, bI_r, d1, bI_r, if_neg ne_0]
        exact ⟨nxt sv, g3 _ μ3 rfl d2 d3, Or.inr rfl⟩
      · rw [if_pos (show (0 : Int32) < Int32.ofNat (plyS z) from lt_y (a := 0) (by omega) (by omega))]
        exact ⟨sv, Rs.stay hr hl hk hg rfl, Or.inl rfl⟩
    · rw [if_pos (show (0 : Int32) < Int32.ofNat (z 4) from lt_y (a := 0) (by omega) (by omega))]
      exact ⟨sv, Rs.stay hr hl hk hg rfl, Or.inl rfl⟩
  rw [if_pos (show (10 : Int32) ≤ Int32.ofNat κ from le_y (a := 10) (by omega) (by omega))]
  by_cases c2 : κ = 10
  · subst c2
    rw [if_neg (show ¬ ¬ Int32.ofNat 10 = 10 by decide), et, bI_r]
    by_cases qp : plyS z = 0
    · have fin : ∀ c : Nat, c ≤ 1 → ∃ μ2, d_Oc_weather (Int32.ofNat c) (stI μ 18 5 (Int32.ofNat c)) = rI (Int32.ofNat (z 5)) μ2 ∧ Rs N (nxt sv) (rI 1 μ2) μ := fun c hc => by
        have l1 : LT (setN z 5 c) (stI μ 18 5 (Int32.ofNat c)) := hl.s18 (by decide) (by decide)
        have hF : LFr μ (stI μ 18 5 (Int32.ofNat c)) := LFr.rf.st (by decide)
        obtain ⟨μ2, g1, g2, g3⟩ := Rs.lc hF l1 (c_weather (hF.rt hr) hk (hF.rg hg) qp hc)
        exact ⟨μ2, g1, g3 _ rfl⟩
      rw [if_pos (show Int32.ofNat (plyS z) ≤ 0 from le_y (b := 0) (by omega) (by omega)), t2, bI_r, a_n5 hl]
      refine ⟨nxt sv, ?_, Or.inr rfl⟩
      rcases (show b / 2 % 2 = 0 ∨ b / 2 % 2 = 1 by omega) with q | q
      · obtain ⟨μ2, g1, g2⟩ := fin 0 (by decide)
        have g1' : d_Oc_weather 0 (stI μ 18 5 (Int32.ofNat 0)) = rI (Int32.ofNat (z 5)) μ2 := g1
        rw [q, if_pos (show ¬ Int32.ofNat 0 = 1 by decide), g1', bI_r, if_neg ne_0]
        exact g2
      · obtain ⟨μ2, g1, g2⟩ := fin 1 (by decide)
        have g1' : d_Oc_weather 1 (stI μ 18 5 (Int32.ofNat 1)) = rI (Int32.ofNat (z 5)) μ2 := g1
        rw [q, if_neg (show ¬ ¬ Int32.ofNat 1 = 1 by decide), g1', bI_r, if_neg ne_0]
        exact g2
    · rw [if_neg (show ¬ Int32.ofNat (plyS z) ≤ 0 from le_n (b := 0) (by omega) (by omega))]
      exact ⟨sv, Rs.stay hr hl hk hg rfl, Or.inl rfl⟩
  rw [if_pos (show ¬ Int32.ofNat κ = 10 from k_no (b := 10) c2 (by omega) (by decide))]
  by_cases c3 : κ < 17
  · have hre : reas z o (b / 2 % 10) ≤ 6 := reas_le
    rw [if_neg (show ¬ (17 : Int32) ≤ Int32.ofNat κ from le_n (a := 17) c3 (by decide)), t10, bI_r, l_why hl TA16 hbd ho m10, bI_r]
    by_cases q : reas z o (b / 2 % 10) = 0
    · obtain ⟨μ2, g1, g2, g3⟩ := Rs.cl hl (c_play hr hk (by omega) hg ho m10 q)
      obtain ⟨μ3, d1, d2, d3⟩ := l_play g2 hk ho m10 q
      rw [if_pos (show Int32.ofNat (reas z o (b / 2 % 10)) ≤ 0 from le_y (b := 0) (by omega) (by omega)), g1, bI_r, d1, bI_r, if_neg ne_0]
      exact ⟨nxt sv, g3 _ μ3 rfl d2 d3, Or.inr rfl⟩
    · rw [if_neg (show ¬ Int32.ofNat (reas z o (b / 2 % 10)) ≤ 0 from le_n (b := 0) (by omega) (by omega))]
      exact ⟨sv, Rs.stay hr hl hk hg rfl, Or.inl rfl⟩
  rw [if_pos (show (17 : Int32) ≤ Int32.ofNat κ from le_y (a := 17) (by omega) (by omega))]
  by_cases c4 : κ < 21
  · obtain ⟨μ1, d1, d2, d3⟩ := l_next hl hk (by omega)
    obtain ⟨μ2, g1, g2, g3⟩ := Rs.lc d2 d3 (c_next (d2.rt hr) hk (by omega) (d2.rg hg))
    rw [if_neg (show ¬ (21 : Int32) ≤ Int32.ofNat κ from le_n (a := 21) c4 (by decide)), d1, bV_r, g1, bI_r, a_n4 g2, if_neg ne_0]
    exact ⟨nxt sv, g3 _ rfl, Or.inr rfl⟩
  · obtain ⟨μ2, old', zs', z', g1, g2, g3, g4, g5, g6⟩ := l_runs hr hl hk hg hN ha hb
    rw [if_pos (show (21 : Int32) ≤ Int32.ofNat κ from le_y (a := 21) (by omega) (by omega)), g1, bI_r, chk_t (Or.inr rfl)]
    exact ⟨nxt sv, ⟨μ2, old', zs', z', rfl, g2, g3, g4, g5, g6⟩, Or.inr rfl⟩
theorem l_act (hr : RT 23 z μ) (hl : LT z μ) (hk : Okz N z) (hN : N ≤ 19900) (hg : RingC old sv zs μ) (ha : a < 2147483648) (hb : b < 2147483648) (hκ : κ < 23) : ∃ sv', Rs N sv' (d_Lw_act (Int32.ofNat κ) (Int32.ofNat a) (Int32.ofNat b) μ) μ ∧ (sv' = sv ∨ sv' = nxt sv) ∧ (κ = 0 → z 0 = 0 → sv' = nxt sv) := by
  by_cases k0 : κ = 0
  · subst k0
    have t100 : d_Lw_at (Int32.ofNat a) 100 μ = rI (Int32.ofNat (a / 2 % 100)) μ := l_at (n := 100) ha (by decide) (by decide)
    have h := l_act15 (x1 := Int32.ofNat 0) (x2 := Int32.ofNat a) (p := a / 2 % 100) hr hl hk hg hb (Nat.mod_lt _ (by decide)) (z 0) 0 (by omega) (fun ⟨c, c1, _⟩ => absurd c1 (Nat.not_lt_zero _))
    have h' : ∃ sv', Rs N sv' (Lw_act_15 (Int32.ofNat 0) (Int32.ofNat a) (Int32.ofNat b) (Int32.ofNat (a / 2 % 100)) 0 μ) μ ∧ (sv' = sv ∨ sv' = nxt sv) ∧ (z 0 = 0 → sv' = nxt sv) := h
    rw [e_Lw_act, if_neg (show ¬ ¬ Int32.ofNat 0 = 0 by decide), t100, bI_r]
    obtain ⟨sv', r1, r2, r3⟩ := h'
    exact ⟨sv', r1, r2, fun _ => r3⟩
  · have wrap : (∃ sv', Rs N sv' (d_Lw_act (Int32.ofNat κ) (Int32.ofNat a) (Int32.ofNat b) μ) μ ∧ (sv' = sv ∨ sv' = nxt sv)) → ∃ sv', Rs N sv' (d_Lw_act (Int32.ofNat κ) (Int32.ofNat a) (Int32.ofNat b) μ) μ ∧ (sv' = sv ∨ sv' = nxt sv) ∧ (κ = 0 → z 0 = 0 → sv' = nxt sv) := fun ⟨sv', r1, r2⟩ => ⟨sv', r1, r2, fun q => absurd q k0⟩
    refine wrap ?_
    by_cases k1 : κ = 1
    · subst k1
      exact l_act_org hr hl hk hg hb
    by_cases h1 : z 1 = 0
    · rw [act_as1 hl k0 hκ h1]
      exact l_act_org hr hl hk hg hb
    by_cases k2 : κ = 2
    · subst k2
      exact l_act_ply hr hl hk hg ha h1
    by_cases h2 : z 2 = 0
    · rw [act_as2 hl hk (by omega) hκ ha h1 h2]
      exact l_act_ply hr hl hk hg ha h1
    by_cases k3 : κ = 3
    · subst k3
      exact l_act_per hr hl hk hg ha hb h1 h2
    by_cases k4 : κ = 4
    · subst k4
      exact l_act_bar hr hl hk hg ha hb h1 h2
    by_cases k5 : κ < 7
    · exact l_act_asg hr hl hk hg ha hb h1 h2 (by omega)
    by_cases k7 : κ = 7
    · subst k7
      exact l_act_set hr hl hk hg ha hb h1 h2
    exact l_act_hi hr hl hk hN hg ha hb h1 h2 (by omega) hκ
end LACT3
