/-! THE LAW'S TURNS: organs, players, permits, barrels -/
section LACT2
variable {z z' : Nat → Nat} {μ μ1 μ2 : PM} {N old sv a b κ : Nat} {zs : Nat → Nat → Nat}
theorem setN_same {k v : Nat} (h : z k = v) : setN z k v = z := funext fun j => by
  by_cases e : j = k
  · rw [e, setN_self, h]
  · rw [setN_ne e]
theorem st_at {k j : Nat} {v : Int32} : mI (stI μ k j v) k j = v := by rw [st_get, if_pos ⟨rfl, rfl⟩]
theorem act_as1 (hl : LT z μ) (h0 : κ ≠ 0) (hκ : κ < 23) (h1 : z 1 = 0) : d_Lw_act (Int32.ofNat κ) (Int32.ofNat a) (Int32.ofNat b) μ = d_Lw_act (Int32.ofNat 1) (Int32.ofNat a) (Int32.ofNat b) μ := by
  have e1 : mI μ 18 1 = 0 := by rw [a_n1 hl, h1]; rfl
  rw [e_Lw_act, e_Lw_act, if_pos (show ¬ Int32.ofNat κ = 0 from k_no (b := 0) h0 (by omega) (by decide)), if_pos (show ¬ Int32.ofNat 1 = 0 by decide), if_pos (show Int32.ofNat 1 = 1 from rfl)]
  by_cases q : Int32.ofNat κ = 1
  · rw [if_pos q]
  · rw [if_neg q, if_neg (show ¬ ¬ mI μ 18 1 = 0 from fun r => r e1)]
theorem act_as2 (hl : LT z μ) (hk : Okz N z) (h0 : 2 ≤ κ) (hκ : κ < 23) (ha : a < 2147483648) (h1 : z 1 ≠ 0) (h2 : z 2 = 0) : d_Lw_act (Int32.ofNat κ) (Int32.ofNat a) (Int32.ofNat b) μ = d_Lw_act (Int32.ofNat 2) (Int32.ofNat a) (Int32.ofNat b) μ := by
  have hn1 := hl.1.2.1
  have e2 : mI μ 18 2 = 0 := by rw [a_n2 hl, h2]; rfl
  have s3 : Int32.ofNat a >>> ((3 : Int32) &&& 31) = Int32.ofNat (a >>> 3) := i3_shr5 ha 3 (by decide)
  have ne1 : ¬ Int32.ofNat (z 1) = 0 := fun q => h1 (by rw [i3_n0 (by omega)] at q; exact q)
  rw [e_Lw_act, e_Lw_act, if_pos (show ¬ Int32.ofNat κ = 0 from k_no (b := 0) (by omega) (by omega) (by decide)), if_neg (show ¬ Int32.ofNat κ = 1 from k_no (b := 1) (by omega) (by omega) (by decide)), if_pos (show ¬ Int32.ofNat 2 = 0 by decide), if_neg (show ¬ Int32.ofNat 2 = 1 by decide), a_n1 hl, if_pos ne1, if_pos ne1, s3, sh_at ha (by omega) (by omega), bI_r, bI_r, if_pos (show Int32.ofNat 2 = 2 from rfl)]
  by_cases q : Int32.ofNat κ = 2
  · rw [if_pos q]
  · rw [if_neg q, if_neg (show ¬ ¬ mI μ 18 2 = 0 from fun r => r e2)]
theorem l_act_org (hr : RT 23 z μ) (hl : LT z μ) (hk : Okz N z) (hg : RingC old sv zs μ) (hb : b < 2147483648) : ∃ sv', Rs N sv' (d_Lw_act (Int32.ofNat 1) (Int32.ofNat a) (Int32.ofNat b) μ) μ ∧ (sv' = sv ∨ sv' = nxt sv) := by
  have hn1 := hl.1.2.1
  rw [e_Lw_act, if_pos (show ¬ Int32.ofNat 1 = 0 by decide), if_pos (show Int32.ofNat 1 = 1 from rfl), a_n1 hl]
  by_cases q : z 1 = 3
  · rw [if_neg (show ¬ ¬ Int32.ofNat (z 1) = 3 from fun r => r (by rw [q]; rfl))]
    exact ⟨sv, Rs.stay hr hl hk hg rfl, Or.inl rfl⟩
  · have t51 : d_Lw_at (Int32.ofNat b) 51 μ = rI (Int32.ofNat (b / 2 % 51)) μ := l_at (n := 51) hb (by decide) (by decide)
    have m51 : b / 2 % 51 < 51 := Nat.mod_lt _ (by decide)
    generalize b / 2 % 51 = p at t51 m51
    have h0 := (hk.2.2.2.2.2.1 (z 1) (Nat.le_refl _) (by omega)).1 3 (by decide)
    have l1 : LT (setN z (56 + 7 * z 1) p) (stI μ 13 (7 * z 1) (Int32.ofNat p)) := hl.o13 (w := 0) (by omega) (by decide) (by decide)
    have l2 := l1.at13 (o := z 1) (v := 0) (by omega)
    have l3 := l2.n1 (v := z 1 + 1) (by omega)
    have ez : setN (setN (setN z (56 + 7 * z 1) p) (56 + 7 * z 1 + 3) 0) 1 (z 1 + 1) = setN (setN z 1 (z 1 + 1)) (56 + 7 * z 1) p := by
      rw [setN_same (show setN z (56 + 7 * z 1) p (56 + 7 * z 1 + 3) = 0 by rw [setN_ne (by omega)]; exact h0), setN_comm (by omega)]
    rw [ez, pm_zero] at l3
    have hF : LFr μ (stI (stI (stI μ 13 (7 * z 1) (Int32.ofNat p)) 13 (7 * z 1 + 3) (-1)) 18 1 (Int32.ofNat (z 1 + 1))) := ((LFr.rf.st (by decide)).st (by decide)).st (by decide)
    obtain ⟨μ2, g1, g2, g3⟩ := Rs.lc hF l3 (c_addOrgan (hF.rt hr) hk (hF.rg hg) (show p ≤ 50 by omega) (by omega))
    have e18 : mI μ2 18 1 - 1 = Int32.ofNat (z 1) := by
      rw [a_n1 g2, setN_ne (by omega), setN_self]
      exact i3_sub (b := 1) (by omega)
    have ep : mI (stI (stI (stI μ 13 (7 * z 1) (Int32.ofNat p)) 13 (7 * z 1 + 3) (-1)) 18 1 (Int32.ofNat (z 1 + 1))) 13 (7 * z 1) = Int32.ofNat p := by
      rw [stI_ne _ _ _ (by decide), st_get, if_neg (by omega), st_get, if_pos ⟨rfl, rfl⟩]
    have e7 : Int32.ofNat (7 * (z 1 + 1)) - 7 = Int32.ofNat (7 * z 1) := by
      have := i3_sub (a := 7 * (z 1 + 1)) (b := 7) (by omega)
      rw [show 7 * (z 1 + 1) - 7 = 7 * z 1 by omega] at this
      exact this
    have en : mI (stI (stI (stI μ 13 (7 * z 1) (Int32.ofNat p)) 13 (7 * z 1 + 3) (-1)) 18 1 (Int32.ofNat (z 1 + 1))) 18 1 = Int32.ofNat (z 1 + 1) := by rw [st_get, if_pos ⟨rfl, rfl⟩]
    rw [pm_succ] at g1
    rw [if_pos (show ¬ Int32.ofNat (z 1) = 3 from k_no (b := 3) q (by omega) (by decide)), t51, bI_r, a_n1 hl, k7, ka3, chk_t (i3_inb (by omega) (by decide)), chk_t (i3_inb (by omega) (by decide)), i3_nat (by omega), i3_nat (by omega), i3_add1, lt_b, en, k7, e7, chk_t (i3_inb (by omega) (by decide)), i3_nat (by omega), ep, g1, bI_r, e18, if_neg ne_0]
    exact ⟨nxt sv, g3 _ rfl, Or.inr rfl⟩
theorem act_head (hl : LT z μ) (h0 : 2 ≤ κ) (hκ : κ < 23) (ha : a < 2147483648) (h1 : z 1 ≠ 0) : ∃ o, o < z 1 ∧ ∀ ν : PM, d_Lw_at (Int32.ofNat a >>> ((3 : Int32) &&& 31)) (Int32.ofNat (z 1)) ν = rI (Int32.ofNat o) ν := by
  have hn1 := hl.1.2.1
  have s3 : Int32.ofNat a >>> ((3 : Int32) &&& 31) = Int32.ofNat (a >>> 3) := i3_shr5 ha 3 (by decide)
  refine ⟨a >>> 3 / 2 % z 1, Nat.mod_lt _ (by omega), fun ν => ?_⟩
  rw [s3, sh_at ha (by omega) (by omega)]
theorem l_act_ply (hr : RT 23 z μ) (hl : LT z μ) (hk : Okz N z) (hg : RingC old sv zs μ) (ha : a < 2147483648) (h1 : z 1 ≠ 0) : ∃ sv', Rs N sv' (d_Lw_act (Int32.ofNat 2) (Int32.ofNat a) (Int32.ofNat b) μ) μ ∧ (sv' = sv ∨ sv' = nxt sv) := by
  have hn1 := hl.1.2.1
  have hn2 := hl.1.2.2
  obtain ⟨o, ho, e3⟩ := act_head hl (κ := 2) (by decide) (by decide) ha h1
  have ne1 : ¬ Int32.ofNat (z 1) = 0 := fun q => h1 (by rw [i3_n0 (by omega)] at q; exact q)
  rw [e_Lw_act, if_pos (show ¬ Int32.ofNat 2 = 0 by decide), if_neg (show ¬ Int32.ofNat 2 = 1 by decide), a_n1 hl, if_pos ne1, e3, bI_r, if_pos (show Int32.ofNat 2 = 2 from rfl), a_n2 hl]
  by_cases q : z 2 = 4
  · rw [if_neg (show ¬ ¬ Int32.ofNat (z 2) = 4 from fun r => r (by rw [q]; rfl))]
    exact ⟨sv, Rs.stay hr hl hk hg rfl, Or.inl rfl⟩
  · have h0 := (hk.2.2.2.2.2.2.1 (z 2) (Nat.le_refl _) (by omega)).1 0 (by decide)
    have l1 := hl.n2 (by omega) h0
    have hF : LFr μ (stI (stI μ 14 (4 * z 2) (-1)) 18 2 (Int32.ofNat (z 2 + 1))) := (LFr.rf.st (by decide)).st (by decide)
    obtain ⟨μ2, g1, g2, g3⟩ := Rs.lc hF l1 (c_addPlayer (hF.rt hr) hk (hF.rg hg) (by omega))
    have e18 : mI μ2 18 2 - 1 = Int32.ofNat (z 2) := by
      rw [a_n2 g2, setN_self]
      exact i3_sub (b := 1) (by omega)
    rw [pm_succ] at g1
    rw [if_pos (show ¬ Int32.ofNat (z 2) = 4 from k_no (b := 4) q (by omega) (by decide)), k4, chk_t (i3_inb (by omega) (by decide)), i3_nat (by omega), i3_add1, g1, bI_r, e18, if_neg ne_0]
    exact ⟨nxt sv, g3 _ rfl, Or.inr rfl⟩
theorem perm3 (hk : Okz N z) (hn1 : z 1 ≤ 3) : permS z = z 57 + z 64 + z 71 := by
  have : sum (z 1 + (3 - z 1)) (fun o => z (56 + 7 * o + 1)) = permS z := sum_tail (3 - z 1) (fun i h1 h2 => (hk.2.2.2.2.2.1 i h1 (by omega)).1 1 (by decide))
  rw [← this, show z 1 + (3 - z 1) = 3 by omega]
  show 0 + z 57 + z 64 + z 71 = _
  rw [Nat.zero_add]
theorem l_act_per (hr : RT 23 z μ) (hl : LT z μ) (hk : Okz N z) (hg : RingC old sv zs μ) (ha : a < 2147483648) (hb : b < 2147483648) (h1 : z 1 ≠ 0) (h2 : z 2 ≠ 0) : ∃ sv', Rs N sv' (d_Lw_act (Int32.ofNat 3) (Int32.ofNat a) (Int32.ofNat b) μ) μ ∧ (sv' = sv ∨ sv' = nxt sv) := by
  have hn1 := hl.1.2.1
  have hn2 := hl.1.2.2
  obtain ⟨o, ho, e3⟩ := act_head hl (κ := 3) (by decide) (by decide) ha h1
  have ne1 : ¬ Int32.ofNat (z 1) = 0 := fun q => h1 (by rw [i3_n0 (by omega)] at q; exact q)
  have ne2 : ¬ Int32.ofNat (z 2) = 0 := fun q => h2 (by rw [i3_n0 (by omega)] at q; exact q)
  have t4 : d_Lw_at (Int32.ofNat b) 4 μ = rI (Int32.ofNat (b / 2 % 4)) μ := l_at (n := 4) hb (by decide) (by decide)
  have m4 : b / 2 % 4 < 4 := Nat.mod_lt _ (by decide)
  generalize b / 2 % 4 = v at t4 m4
  have fin : ∀ p : Nat, p ≤ 1 → ∃ μ2, d_Oc_permit (Int32.ofNat o) (Int32.ofNat p) (stI μ 13 (7 * o + 1) (Int32.ofNat p)) = rI (mI μ2 13 1 + mI μ2 13 8 + mI μ2 13 15) μ2 ∧ Rs N (nxt sv) (rI 1 μ2) μ := fun p hp => by
    have l1 := hl.o13 (o := o) (w := 1) (v := p) (by omega) (by decide) (by decide)
    have hF : LFr μ (stI μ 13 (7 * o + 1) (Int32.ofNat p)) := LFr.rf.st (by decide)
    have hc := c_permit (hF.rt hr) hk (hF.rg hg) ho hp
    have hk' : Okz (N + 20) (setN z (56 + 7 * o + 1) p) := by
      obtain ⟨_, _, _, _, _, _, _, h⟩ := hc
      exact h
    obtain ⟨μ2, g1, g2, g3⟩ := Rs.lc hF l1 hc
    have e1 : mI μ2 13 1 = Int32.ofNat (setN z (56 + 7 * o + 1) p 57) := a_o g2 (o := 0) (w := 1) (by decide) (by decide) (by decide)
    have e8 : mI μ2 13 8 = Int32.ofNat (setN z (56 + 7 * o + 1) p 64) := a_o g2 (o := 1) (w := 1) (by decide) (by decide) (by decide)
    have e15 : mI μ2 13 15 = Int32.ofNat (setN z (56 + 7 * o + 1) p 71) := a_o g2 (o := 2) (w := 1) (by decide) (by decide) (by decide)
    refine ⟨μ2, ?_, g3 _ rfl⟩
    rw [g1, e1, e8, e15, i3_add, i3_add, perm3 hk' (by rw [setN_ne (by omega)]; exact hn1)]
  refine ⟨nxt sv, ?_, Or.inr rfl⟩
  rw [e_Lw_act, if_pos (show ¬ Int32.ofNat 3 = 0 by decide), if_neg (show ¬ Int32.ofNat 3 = 1 by decide), a_n1 hl, if_pos ne1, e3, bI_r, if_neg (show ¬ Int32.ofNat 3 = 2 by decide), a_n2 hl, if_pos ne2, if_neg (show ¬ ¬ Int32.ofNat 3 = 3 by decide), t4, bI_r, k7, ka1]
  by_cases q : v = 0
  · obtain ⟨μ2, g1, g2⟩ := fin 0 (by decide)
    have g1' : d_Oc_permit (Int32.ofNat o) 0 (stI μ 13 (7 * o + 1) 0) = rI (mI μ2 13 1 + mI μ2 13 8 + mI μ2 13 15) μ2 := g1
    rw [if_pos (show Int32.ofNat v ≤ 0 from le_y (b := 0) (by omega) (by omega)), chk_t (i3_inb (by omega) (by decide)), i3_nat (by omega), st_at, if_pos (show ¬ (0 : Int32) = 1 by decide), g1', bI_r, if_neg ne_0]
    exact g2
  · obtain ⟨μ2, g1, g2⟩ := fin 1 (by decide)
    have g1' : d_Oc_permit (Int32.ofNat o) 1 (stI μ 13 (7 * o + 1) 1) = rI (mI μ2 13 1 + mI μ2 13 8 + mI μ2 13 15) μ2 := g1
    rw [if_neg (show ¬ Int32.ofNat v ≤ 0 from le_n (b := 0) (by omega) (by omega)), chk_t (i3_inb (by omega) (by decide)), i3_nat (by omega), st_at, if_neg ne_0, g1', bI_r, if_neg ne_0]
    exact g2
theorem l_act_bar (hr : RT 23 z μ) (hl : LT z μ) (hk : Okz N z) (hg : RingC old sv zs μ) (ha : a < 2147483648) (hb : b < 2147483648) (h1 : z 1 ≠ 0) (h2 : z 2 ≠ 0) : ∃ sv', Rs N sv' (d_Lw_act (Int32.ofNat 4) (Int32.ofNat a) (Int32.ofNat b) μ) μ ∧ (sv' = sv ∨ sv' = nxt sv) := by
  have hn1 := hl.1.2.1
  have hn2 := hl.1.2.2
  obtain ⟨o, ho, e3⟩ := act_head hl (κ := 4) (by decide) (by decide) ha h1
  have ne1 : ¬ Int32.ofNat (z 1) = 0 := fun q => h1 (by rw [i3_n0 (by omega)] at q; exact q)
  have ne2 : ¬ Int32.ofNat (z 2) = 0 := fun q => h2 (by rw [i3_n0 (by omega)] at q; exact q)
  have t : d_Lw_at (Int32.ofNat b) 1024 μ = rI (Int32.ofNat (b / 2 % 1024)) μ := l_at (n := 1024) hb (by decide) (by decide)
  have m4 : b / 2 % 1024 < 1024 := Nat.mod_lt _ (by decide)
  generalize b / 2 % 1024 = v at t m4
  have l1 := hl.o13 (o := o) (w := 2) (v := v) (by omega) (by decide) (by decide)
  have hF : LFr μ (stI μ 13 (7 * o + 2) (Int32.ofNat v)) := LFr.rf.st (by decide)
  obtain ⟨μ2, g1, g2, g3⟩ := Rs.lc hF l1 (c_barrel (hF.rt hr) hk (hF.rg hg) ho m4)
  refine ⟨nxt sv, ?_, Or.inr rfl⟩
  rw [e_Lw_act, if_pos (show ¬ Int32.ofNat 4 = 0 by decide), if_neg (show ¬ Int32.ofNat 4 = 1 by decide), a_n1 hl, if_pos ne1, e3, bI_r, if_neg (show ¬ Int32.ofNat 4 = 2 by decide), a_n2 hl, if_pos ne2, if_pos (show ¬ Int32.ofNat 4 = 3 by decide), if_neg (show ¬ ¬ Int32.ofNat 4 = 4 by decide), k7, ka2, chk_t (i3_inb (by omega) (by decide)), t, bI_r, i3_nat (by omega), st_at, g1, bI_r, a_o hl (by omega) (by decide) (by decide), if_neg ne_0]
  exact g3 _ rfl
end LACT2
