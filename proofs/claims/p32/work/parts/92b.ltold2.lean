/-! THE LAW: what the class tells is what the law's town holds, corners and organs -/
section LTOLD2
variable {z : Nat → Nat} {μ : PM} {N sv : Nat}
theorem l_told250 {x8 x9 x10 : Int32} {r : Option PO} {i : Nat} {w14 : Value} (hr : RT 23 z μ) (h : LT z μ) (hk : Okz N z) (hi : i < z 1) (hF : ∀ w12 w13, Lw_told_209 x8 x9 x10 (Int32.ofNat (i + 1)) w12 w13 w14 μ = r) : Lw_told_250 x8 x9 x10 (Int32.ofNat i) (Int32.ofNat (7 * i)) 0 w14 μ = r := by
  have hb := hk.1
  have hn1 := h.1.2.1
  have h4 := hb.hr
  have e0 : d_Oc_organ (Int32.ofNat i) (Int32.ofNat 0) μ = rI (Int32.ofNat (z (56 + 7 * i))) μ := c_organ (j := 0) hr hb hi (by decide)
  have e1 : d_Oc_organ (Int32.ofNat i) (Int32.ofNat 1) μ = rI (Int32.ofNat (z (56 + 7 * i + 1))) μ := c_organ (j := 1) hr hb hi (by decide)
  have e2 : d_Oc_organ (Int32.ofNat i) (Int32.ofNat 2) μ = rI (Int32.ofNat (z (56 + 7 * i + 2))) μ := c_organ (j := 2) hr hb hi (by decide)
  have e3 : d_Oc_organ (Int32.ofNat i) (Int32.ofNat 3) μ = rI (pm (z (56 + 7 * i + 3))) μ := c_organ (j := 3) hr hb hi (by decide)
  have e4 : d_Oc_organ (Int32.ofNat i) 4 μ = rI (Int32.ofNat (crew z i)) μ := c_organ (j := 4) hr hb hi (by decide)
  have e5 : d_Oc_organ (Int32.ofNat i) 5 μ = rI (Int32.ofNat (z (56 + 7 * i + 4))) μ := c_organ (j := 5) hr hb hi (by decide)
  have e6 : d_Oc_organ (Int32.ofNat i) 6 μ = rI (Int32.ofNat (z (56 + 7 * i + 5))) μ := c_organ (j := 6) hr hb hi (by decide)
  have e7 : d_Oc_organ (Int32.ofNat i) 7 μ = rI (Int32.ofNat (z (56 + 7 * i + 6))) μ := c_organ (j := 7) hr hb hi (by decide)
  have e8 : d_Oc_organ (Int32.ofNat i) 8 μ = rI (pm (z (163 + 10 * i + z 4))) μ := c_organ (j := 8) hr hb hi (by decide)
  have ej : ∀ j, j < 4 → d_Oc_organ (Int32.ofNat i) (Int32.ofNat j) μ = rI (mI μ 13 (7 * i + j)) μ := fun j hj => by
    rcases (show j = 0 ∨ j = 1 ∨ j = 2 ∨ j = 3 by omega) with rfl | rfl | rfl | rfl
    · rw [e0, Nat.add_zero, a_o0 h (by omega)]
    · rw [e1, a_o h (by omega) (by decide) (by decide)]
    · rw [e2, a_o h (by omega) (by decide) (by decide)]
    · rw [e3, a_at h (by omega)]
  have e : Lw_told_250 x8 x9 x10 (Int32.ofNat i) (Int32.ofNat (7 * i)) 0 w14 μ = Lw_told_250 x8 x9 x10 (Int32.ofNat i) (Int32.ofNat (7 * i)) (Int32.ofNat 4) w14 μ :=
    loopI (fun j (_ : Unit) => Lw_told_250 x8 x9 x10 (Int32.ofNat i) (Int32.ofNat (7 * i)) j w14 μ) 4 (fun _ u => u) (fun j hj _ => by
      show Lw_told_250 _ _ _ _ _ _ _ _ = Lw_told_250 _ _ _ _ _ _ _ _
      rw [Lw_told_250_eq, if_neg (show ¬ (4 : Int32) ≤ Int32.ofNat j from le_n (a := 4) hj (by decide)), ej j hj, bI_r, i3_add, chk_t (i3_inb (by omega) (by decide)), i3_nat (by omega), if_pos rfl, i3_add1]) (a := ())
  rw [e, Lw_told_250_eq, if_pos (show (4 : Int32) ≤ Int32.ofNat 4 by decide), e4, bI_r, l_crew h hb (by omega), bI_r, if_neg ne_0, e5, bI_r, ka4, chk_t (i3_inb (by omega) (by decide)), i3_nat (by omega), a_o h (by omega) (by decide) (by decide), if_neg ne_0, e6, bI_r, ka5, chk_t (i3_inb (by omega) (by decide)), i3_nat (by omega), a_o h (by omega) (by decide) (by decide), if_neg ne_0, e7, bI_r, ka6, chk_t (i3_inb (by omega) (by decide)), i3_nat (by omega), a_o h (by omega) (by decide) (by decide), if_neg ne_0, e8, bI_r, a_n4 h, k10, i3_add, chk_t (i3_inb (by omega) (by decide)), i3_nat (by omega), a_u h (by omega) (by omega), if_pos rfl, i3_add1]
  exact hF _ _
theorem l_told209 {x10 : Int32} {r : Option PO} (hr : RT 23 z μ) (h : LT z μ) (hk : Okz N z) (hF : ∀ w12 w13 w14, Lw_told_386 (Int32.ofNat (orgS z 5)) (Int32.ofNat (orgS z 4)) x10 0 w12 w13 w14 μ = r) : ∀ k i w12 w13 w14, i + k = z 1 → Lw_told_209 (Int32.ofNat (sum i (fun o => z (56 + 7 * o + 5)))) (Int32.ofNat (sum i (fun o => z (56 + 7 * o + 4)))) x10 (Int32.ofNat i) w12 w13 w14 μ = r := by
  have hb := hk.1
  have hn1 := h.1.2.1
  intro k
  induction k with
  | zero =>
    intro i w12 w13 w14 hi
    have : i = z 1 := by omega
    subst this
    rw [Lw_told_209_eq, a_n1 h, if_pos (le_y (Nat.le_refl _) (by omega))]
    exact hF _ _ _
  | succ k ih =>
    intro i w12 w13 w14 hi
    rw [Lw_told_209_eq, a_n1 h, if_neg (le_n (by omega) (by omega)), k7, ka5, ka4, chk_t (i3_inb (by omega) (by decide)), chk_t (i3_inb (by omega) (by decide)), i3_nat (by omega), i3_nat (by omega), a_o h (by omega) (by decide) (by decide), a_o h (by omega) (by decide) (by decide), i3_add, i3_add]
    exact l_told250 hr h hk (by omega) (fun w12 w13 => ih (i + 1) _ _ _ (by omega))
theorem l_told37 {x8 x9 x10 x12 x13 x14 : Int32} {r : Option PO} {i : Nat} (hr : RT 23 z μ) (h : LT z μ) (hk : Okz N z) (hi : i < z 0) (hF : ∀ w12 w13 w14, Lw_told_12 x8 x9 x10 (Int32.ofNat (i + 1)) w12 w13 w14 μ = r) (hw : x12 = pm (whoP z i (z 1))) (hp : x13 = Int32.ofNat (plaS z i)) (c : 10 ≤ x14 ∨ (¬ 10 ≤ x14 ∧ x12 < 0)) : Lw_told_37 x8 x9 x10 (Int32.ofNat i) x12 x13 x14 μ = r := by
  have hb := hk.1
  have hd := hk.2.2.1
  have hn0 := h.1.1
  have e0 : d_Oc_corner (Int32.ofNat i) 0 μ = rI (Int32.ofNat (z (16 + 4 * i))) μ := c_corner (j := 0) hr hb hd hi (by decide)
  have e1 : d_Oc_corner (Int32.ofNat i) 1 μ = rI (Int32.ofNat (z (16 + 4 * i + 1))) μ := c_corner (j := 1) hr hb hd hi (by decide)
  have e2 : d_Oc_corner (Int32.ofNat i) 2 μ = rI (if isQ z i then 1 else 0) μ := c_corner (j := 2) hr hb hd hi (by decide)
  have e3 : d_Oc_corner (Int32.ofNat i) 3 μ = rI (pm (whoP z i (z 1))) μ := c_corner (j := 3) hr hb hd hi (by decide)
  have e4 : d_Oc_corner (Int32.ofNat i) 4 μ = rI (Int32.ofNat (plaS z i)) μ := c_corner (j := 4) hr hb hd hi (by decide)
  have e5 : d_Oc_corner (Int32.ofNat i) 5 μ = rI (Int32.ofNat (heaS z i)) μ := c_corner (j := 5) hr hb hd hi (by decide)
  have ek : d_Lw_heard (Int32.ofNat i) 16 μ = rI (Int32.ofNat (heaS z i)) μ := l_heard h TA16 hb (by omega)
  rw [Lw_told_37_eq]
  rcases c with c | ⟨c1, c2⟩
  · rw [if_pos c, e0, bI_r, k4, chk_t (i3_inb (by omega) (by decide)), i3_nat (by omega), a_c0 h (by omega), if_neg ne_0, e1, bI_r, ka1, chk_t (i3_inb (by omega) (by decide)), i3_nat (by omega), a_c h (by omega) (by decide), if_neg ne_0, e2, bI_r, l_quiet h hb (by omega), bI_r]
    by_cases q : isQ z i
    · rw [if_pos q, if_neg (show ¬ (1 : Int32) = 0 by decide), if_neg ne_0, e3, bI_r, hw, if_neg ne_0, e4, bI_r, hp, if_neg ne_0, e5, bI_r, ek, bI_r, if_pos rfl, i3_add1]
      exact hF _ _ _
    · rw [if_neg q, if_pos rfl, if_neg ne_0, e3, bI_r, hw, if_neg ne_0, e4, bI_r, hp, if_neg ne_0, e5, bI_r, ek, bI_r, if_pos rfl, i3_add1]
      exact hF _ _ _
  · rw [if_neg c1, if_pos c2, e0, bI_r, k4, chk_t (i3_inb (by omega) (by decide)), i3_nat (by omega), a_c0 h (by omega), if_neg ne_0, e1, bI_r, ka1, chk_t (i3_inb (by omega) (by decide)), i3_nat (by omega), a_c h (by omega) (by decide), if_neg ne_0, e2, bI_r, l_quiet h hb (by omega), bI_r]
    by_cases q : isQ z i
    · rw [if_pos q, if_neg (show ¬ (1 : Int32) = 0 by decide), if_neg ne_0, e3, bI_r, hw, if_neg ne_0, e4, bI_r, hp, if_neg ne_0, e5, bI_r, ek, bI_r, if_pos rfl, i3_add1]
      exact hF _ _ _
    · rw [if_neg q, if_pos rfl, if_neg ne_0, e3, bI_r, hw, if_neg ne_0, e4, bI_r, hp, if_neg ne_0, e5, bI_r, ek, bI_r, if_pos rfl, i3_add1]
      exact hF _ _ _
theorem l_told12 {x8 x9 x10 : Int32} {r : Option PO} (hr : RT 23 z μ) (h : LT z μ) (hk : Okz N z) (hF : ∀ w12 w13 w14, Lw_told_209 x8 x9 x10 0 w12 w13 w14 μ = r) : ∀ k i w12 w13 w14, i + k = z 0 → Lw_told_12 x8 x9 x10 (Int32.ofNat i) w12 w13 w14 μ = r := by
  have hb := hk.1
  have hn0 := h.1.1
  have hn1 := h.1.2.1
  intro k
  induction k with
  | zero =>
    intro i w12 w13 w14 hi
    have : i = z 0 := by omega
    subst this
    rw [Lw_told_12_eq, a_n0 h, if_pos (le_y (Nat.le_refl _) (by omega))]
    exact hF _ _ _
  | succ k ih =>
    intro i w12 w13 w14 hi
    have hw := whoP_le (z := z) (c := i) (z 1)
    rw [Lw_told_12_eq, a_n0 h, if_neg (le_n (by omega) (by omega)), l_holder h hb (by omega), bI_r]
    by_cases q : whoP z i (z 1) = 0
    · have ep : plaS z i = 0 := if_pos q
      exact l_told37 hr h hk (by omega) (fun _ _ _ => ih (i + 1) _ _ _ (by omega)) rfl (by rw [ep]; rfl) (Or.inr ⟨by decide, by rw [q, pm_zero]; decide⟩)
    · have ep : plaS z i = tunN z (whoP z i (z 1) - 1) 0 10 0 := if_neg q
      have ew := pm_at q
      have e : Lw_told_37 x8 x9 x10 (Int32.ofNat i) (Int32.ofNat (whoP z i (z 1) - 1)) (Int32.ofNat 0) 0 μ = Lw_told_37 x8 x9 x10 (Int32.ofNat i) (Int32.ofNat (whoP z i (z 1) - 1)) (Int32.ofNat (tunN z (whoP z i (z 1) - 1) 0 10 0)) (Int32.ofNat 10) μ :=
        loopI (fun j (b : Nat) => Lw_told_37 x8 x9 x10 (Int32.ofNat i) (Int32.ofNat (whoP z i (z 1) - 1)) (Int32.ofNat b) j μ) 10 (fun j b => b ||| bitT (z (163 + 10 * (whoP z i (z 1) - 1) + (0 + j)))) (fun j hj b => by
          have hc := hb.tun (whoP z i (z 1) - 1) (by omega) j hj
          show Lw_told_37 _ _ _ _ _ _ _ _ = Lw_told_37 _ _ _ _ _ _ _ _
          rw [Lw_told_37_eq, if_neg (show ¬ (10 : Int32) ≤ Int32.ofNat j from le_n (a := 10) hj (by decide)), if_neg (show ¬ Int32.ofNat (whoP z i (z 1) - 1) < 0 from lt_n (b := 0) (Nat.zero_le _) (by omega)), k10, i3_add, chk_t (i3_inb (by omega) (by decide)), i3_nat (by omega), a_u h (by omega) (by omega), i3_add1, Nat.zero_add]
          have e : (0 : Int32) ≤ pm (z (163 + 10 * (whoP z i (z 1) - 1) + j)) ↔ z (163 + 10 * (whoP z i (z 1) - 1) + j) ≠ 0 := by rw [pm_le0 (by omega)]
          by_cases q2 : z (163 + 10 * (whoP z i (z 1) - 1) + j) = 0
          · rw [if_neg (fun r => e.mp r q2), q2]
            exact congrArg (fun v => Lw_told_37 _ _ _ _ _ v _ _) (i3_or b 0)
          · rw [if_pos (e.mpr q2), i3_bitT (by omega) q2, i3_or]) (a := 0)
      rw [ew]
      refine e.trans ?_
      rw [← ew]
      exact l_told37 hr h hk (by omega) (fun _ _ _ => ih (i + 1) _ _ _ (by omega)) rfl (by rw [ep]) (Or.inl (by decide))
theorem l_told (hr : RT 23 z μ) (h : LT z μ) (hk : Okz N z) (hs : mI μ 1 2 = Int32.ofNat sv) (hsh : shareOK z) : d_Lw_told μ = rI 1 μ := by
  have h0 : ∀ w12 w13 w14, Lw_told_567 (Int32.ofNat (orgS z 5)) (Int32.ofNat (orgS z 4)) (Int32.ofNat (gotS z)) 0 w12 w13 w14 μ = rI 1 μ := fun _ _ _ => l_told567 hr h hk hs hsh
  have h1 : ∀ w12 w13 w14, Lw_told_386 (Int32.ofNat (orgS z 5)) (Int32.ofNat (orgS z 4)) 0 0 w12 w13 w14 μ = rI 1 μ := fun w12 w13 w14 => l_told386 hr h hk h0 (z 2) 0 w12 w13 w14 (by omega)
  have h2 : ∀ w12 w13 w14, Lw_told_209 0 0 0 0 w12 w13 w14 μ = rI 1 μ := fun w12 w13 w14 => l_told209 hr h hk h1 (z 1) 0 w12 w13 w14 (by omega)
  rw [e_Lw_told]
  exact l_told12 hr h hk h2 (z 0) 0 pU pU pU (by omega)
end LTOLD2
