/-! THE LAW: what the class tells is what the law's town holds -/
section LTOLD
variable {z : Nat → Nat} {μ : PM}
theorem sum_tail {f : Nat → Nat} {n : Nat} : ∀ k, (∀ i, n ≤ i → i < n + k → f i = 0) → sum (n + k) f = sum n f := by
  intro k
  induction k with
  | zero => intro _; rfl
  | succ k ih =>
    intro h
    show sum (n + k) f + f (n + k) = sum n f
    rw [ih (fun i h1 h2 => h i h1 (by omega)), h (n + k) (by omega) (by omega)]
    rfl
theorem hi_tun {N o i : Nat} (hk : Okz N z) (ho : z 1 ≤ o) (ho5 : o < 5) (hi : i < 10) : z (163 + 10 * o + i) = 0 := (hk.2.2.2.2.2.1 o ho ho5).2 i hi
theorem ply30 {N : Nat} (hk : Okz N z) (h1 : z 1 ≤ 3) : plyS z = sum 30 (fun k => if z (163 + k) = 0 then 0 else 1) :=
  sum_tail (n := 30) 20 (fun i h2 h3 => if_pos (by
    have := hi_tun hk (o := i / 10) (i := i % 10) (by omega) (by omega) (by omega)
    rw [show 163 + i = 163 + 10 * (i / 10) + i % 10 by omega]
    exact this))
theorem tim3 {N p : Nat} (hk : Okz N z) (h1 : z 1 ≤ 3) (hp : p < 8) : timS z p = sum 3 (fun o => z (123 + 5 * p + o)) :=
  sum_tail (n := 3) 2 (fun i h2 h3 => hi_tim hk hp (by omega) (by omega))
/-- the share that the class tells is the law's -/
def shareOK (z : Nat → Nat) : Prop := ∀ μ : PM, RT 23 z μ → mI μ 18 8 = Int32.ofNat (z 8) → bDb (d_Oc_playersShare μ) (fun v24 μ23 => if ¬ (mI μ23 18 8) = 0 then chk (noNaN (FP.dmul FP.dconst1 (FP.i2d (Int32.ofNat (gotS z)))) = true) (chk (noNaN (FP.ddiv (FP.dmul FP.dconst1 (FP.i2d (Int32.ofNat (gotS z)))) (FP.i2d (mI μ23 18 8))) = true) (if ¬ (Op.cmpValue (FP.dcmp v24 (FP.ddiv (FP.dmul FP.dconst1 (FP.i2d (Int32.ofNat (gotS z)))) (FP.i2d (mI μ23 18 8)))) .l) = 0 then some (.inl (some (.int 0)), μ23) else some (.inl (some (.int 1)), μ23))) else if ¬ (Op.cmpValue (FP.dcmp v24 FP.dconst0) .l) = 0 then some (.inl (some (.int 0)), μ23) else some (.inl (some (.int 1)), μ23)) = rI 1 μ
theorem ne_0 {α : Type} {v : α} : ¬ ¬ v = v := fun q => q rfl
variable {N sv : Nat}
theorem l_told599 {w12 w13 w14 : Value} (hr : RT 23 z μ) (h : LT z μ) (hk : Okz N z) (hs : mI μ 1 2 = Int32.ofNat sv) (hsh : shareOK z) : Lw_told_599 (Int32.ofNat (orgS z 5)) (Int32.ofNat (orgS z 4)) (Int32.ofNat (gotS z)) 0 w12 w13 w14 μ = rI 1 μ := by
  have hb := hk.1
  have ht := hk.2.2.2.1
  have h1 := h.1.2.1
  have e : Lw_told_599 (Int32.ofNat (orgS z 5)) (Int32.ofNat (orgS z 4)) (Int32.ofNat (gotS z)) 0 w12 w13 w14 μ = Lw_told_599 (Int32.ofNat (orgS z 5)) (Int32.ofNat (orgS z 4)) (Int32.ofNat (gotS z)) (Int32.ofNat 5) w12 w13 w14 μ :=
    loopI (fun i (_ : Unit) => Lw_told_599 (Int32.ofNat (orgS z 5)) (Int32.ofNat (orgS z 4)) (Int32.ofNat (gotS z)) i w12 w13 w14 μ) 5 (fun _ u => u) (fun i hi _ => by
      show Lw_told_599 _ _ _ _ _ _ _ _ = Lw_told_599 _ _ _ _ _ _ _ _
      rw [Lw_told_599_eq, if_neg (show ¬ (5 : Int32) ≤ Int32.ofNat i from le_n (a := 5) hi (by decide)), c_setting hr hi, bI_r, chk_t (i3_inb hi (by decide)), i3_nat (by omega), a_s h hi, if_pos rfl, i3_add1]) (a := ())
  have e7 : d_Oc_count 7 μ = rI (Int32.ofNat (plyS z)) μ := t_count (j := 7) (sv := sv) hr hb ht hs (by decide)
  have e8 : d_Oc_count 8 μ = rI (Int32.ofNat (z 7)) μ := t_count (j := 8) (sv := sv) hr hb ht hs (by decide)
  have e9 : d_Oc_count 9 μ = rI (Int32.ofNat (z 8)) μ := t_count (j := 9) (sv := sv) hr hb ht hs (by decide)
  have e10 : d_Oc_count 10 μ = rI (Int32.ofNat (z 9)) μ := t_count (j := 10) (sv := sv) hr hb ht hs (by decide)
  have e11 : d_Oc_count 11 μ = rI (Int32.ofNat (z 10)) μ := t_count (j := 11) (sv := sv) hr hb ht hs (by decide)
  have e12 : d_Oc_count 12 μ = rI (Int32.ofNat (orgS z 5)) μ := t_count (j := 12) (sv := sv) hr hb ht hs (by decide)
  have e13 : d_Oc_count 13 μ = rI (Int32.ofNat (orgS z 4)) μ := t_count (j := 13) (sv := sv) hr hb ht hs (by decide)
  have e14 : d_Oc_count 14 μ = rI (Int32.ofNat (gotS z)) μ := t_count (j := 14) (sv := sv) hr hb ht hs (by decide)
  have n7 : mI μ 18 7 = Int32.ofNat (z 7) := a_n h (by decide)
  have n8 : mI μ 18 8 = Int32.ofNat (z 8) := a_n h (by decide)
  have n9 : mI μ 18 9 = Int32.ofNat (z 9) := a_n h (by decide)
  have n10 : mI μ 18 10 = Int32.ofNat (z 10) := a_n h (by decide)
  rw [e, Lw_told_599_eq, if_pos (show (5 : Int32) ≤ Int32.ofNat 5 by decide), e7, bI_r, l_today h hb, bI_r, ← ply30 hk h1, if_neg ne_0, e8, bI_r, n7, if_neg ne_0, e9, bI_r, n8, if_neg ne_0, e10, bI_r, n9, if_neg ne_0, e11, bI_r, n10, if_neg ne_0, e12, bI_r, if_neg ne_0, e13, bI_r, if_neg ne_0, e14, bI_r, if_pos rfl]
  exact hsh μ hr n8
theorem l_told567 {w12 w13 w14 : Value} (hr : RT 23 z μ) (h : LT z μ) (hk : Okz N z) (hs : mI μ 1 2 = Int32.ofNat sv) (hsh : shareOK z) : Lw_told_567 (Int32.ofNat (orgS z 5)) (Int32.ofNat (orgS z 4)) (Int32.ofNat (gotS z)) 0 w12 w13 w14 μ = rI 1 μ := by
  have hb := hk.1
  have ht := hk.2.2.2.1
  have e : Lw_told_567 (Int32.ofNat (orgS z 5)) (Int32.ofNat (orgS z 4)) (Int32.ofNat (gotS z)) 0 w12 w13 w14 μ = Lw_told_567 (Int32.ofNat (orgS z 5)) (Int32.ofNat (orgS z 4)) (Int32.ofNat (gotS z)) (Int32.ofNat 7) w12 w13 w14 μ :=
    loopI (fun i (_ : Unit) => Lw_told_567 (Int32.ofNat (orgS z 5)) (Int32.ofNat (orgS z 4)) (Int32.ofNat (gotS z)) i w12 w13 w14 μ) 7 (fun _ u => u) (fun i hi _ => by
      show Lw_told_567 _ _ _ _ _ _ _ _ = Lw_told_567 _ _ _ _ _ _ _ _
      have ec : cntS z sv i = z i := by
        rcases (show i = 0 ∨ i = 1 ∨ i = 2 ∨ i = 3 ∨ i = 4 ∨ i = 5 ∨ i = 6 by omega) with rfl | rfl | rfl | rfl | rfl | rfl | rfl
        all_goals rfl
      rw [Lw_told_567_eq, if_neg (show ¬ (7 : Int32) ≤ Int32.ofNat i from le_n (a := 7) hi (by decide)), t_count (sv := sv) hr hb ht hs (by omega), bI_r, chk_t (i3_inb (by omega) (by decide)), i3_nat (by omega), a_n h (by omega), ec, if_pos rfl, i3_add1]) (a := ())
  rw [e, Lw_told_567_eq, if_pos (show (7 : Int32) ≤ Int32.ofNat 7 by decide)]
  exact l_told599 hr h hk hs hsh
theorem l_told386 {x8 x9 : Int32} {r : Option PO} (hr : RT 23 z μ) (h : LT z μ) (hk : Okz N z) (hF : ∀ w12 w13 w14, Lw_told_567 x8 x9 (Int32.ofNat (gotS z)) 0 w12 w13 w14 μ = r) : ∀ k i w12 w13 w14, i + k = z 2 → Lw_told_386 x8 x9 (Int32.ofNat (sum i (fun p => z (91 + 4 * p + 1)))) (Int32.ofNat i) w12 w13 w14 μ = r := by
  have hb := hk.1
  have hn1 := h.1.2.1
  have hn2 := h.1.2.2
  intro k
  induction k with
  | zero =>
    intro i w12 w13 w14 hi
    have : i = z 2 := by omega
    subst this
    rw [Lw_told_386_eq, a_n2 h, if_pos (le_y (Nat.le_refl _) (by omega))]
    exact hF _ _ _
  | succ k ih =>
    intro i w12 w13 w14 hi
    have hp : i < z 2 := by omega
    have e0 : d_Oc_player (Int32.ofNat i) 0 μ = rI (pm (z (91 + 4 * i))) μ := c_player (j := 0) hr hb hp (by decide)
    have e1 : d_Oc_player (Int32.ofNat i) 1 μ = rI (Int32.ofNat (timS z i)) μ := c_player (j := 1) hr hb hp (by decide)
    have e2 : d_Oc_player (Int32.ofNat i) 2 μ = rI (Int32.ofNat (z (91 + 4 * i + 1))) μ := c_player (j := 2) hr hb hp (by decide)
    have e3 : d_Oc_player (Int32.ofNat i) 3 μ = rI (Int32.ofNat (z (91 + 4 * i + 2))) μ := c_player (j := 3) hr hb hp (by decide)
    have e4 : d_Oc_player (Int32.ofNat i) 4 μ = rI (Int32.ofNat (z (91 + 4 * i + 3))) μ := c_player (j := 4) hr hb hp (by decide)
    have et : Int32.ofNat (z (123 + 5 * i + 0)) + Int32.ofNat (z (123 + 5 * i + 1)) + Int32.ofNat (z (123 + 5 * i + 2)) = Int32.ofNat (timS z i) := by
      rw [tim3 hk hn1 (by omega), i3_add, i3_add]
      exact congrArg Int32.ofNat (by
        show _ = 0 + z (123 + 5 * i + 0) + z (123 + 5 * i + 1) + z (123 + 5 * i + 2)
        rw [Nat.zero_add])
    have t0 : mI μ 15 (3 * i) = Int32.ofNat (z (123 + 5 * i + 0)) := a_i (o := 0) h (by omega) (by decide)
    have hL : ∀ k2 j w, j + k2 = z 1 → Lw_told_520 x8 x9 (Int32.ofNat (sum i (fun p => z (91 + 4 * p + 1)) + z (91 + 4 * i + 1))) (Int32.ofNat i) (Int32.ofNat j) w13 w μ = r := by
      intro k2
      induction k2 with
      | zero =>
        intro j w hj
        have : j = z 1 := by omega
        subst this
        rw [Lw_told_520_eq, a_n1 h, if_pos (le_y (Nat.le_refl _) (by omega)), i3_add1]
        exact ih (i + 1) _ _ _ (by omega)
      | succ k2 ih2 =>
        intro j w hj
        rw [Lw_told_520_eq, a_n1 h, if_neg (le_n (by omega) (by omega)), c_hours hr hb hp (by omega), bI_r, k3, i3_add, chk_t (i3_inb (by omega) (by decide)), i3_nat (by omega), a_i h (by omega) (by omega), if_pos rfl, i3_add1]
        exact ih2 (j + 1) _ (by omega)
    rw [Lw_told_386_eq, a_n2 h, if_neg (le_n (by omega) (by omega)), k4, ka1, chk_t (i3_inb (by omega) (by decide)), e0, bI_r, chk_t (i3_inb (by omega) (by decide)), i3_nat (by omega), a_w h hp, if_neg ne_0, e1, bI_r, k3, ka1, ka2, chk_t (i3_inb (by omega) (by decide)), chk_t (i3_inb (by omega) (by decide)), chk_t (i3_inb (by omega) (by decide)), i3_nat (by omega), i3_nat (by omega), i3_nat (by omega), t0, a_i h (by omega) (by decide), a_i h (by omega) (by decide), et, if_neg ne_0, e2, bI_r, i3_nat (by omega), a_p h (by omega) (by decide) (by decide), if_neg ne_0, e3, bI_r, ka2, chk_t (i3_inb (by omega) (by decide)), i3_nat (by omega), a_p h (by omega) (by decide) (by decide), if_neg ne_0, e4, bI_r, ka3, chk_t (i3_inb (by omega) (by decide)), i3_nat (by omega), a_p h (by omega) (by decide) (by decide), if_pos rfl, i3_add]
    exact hL (z 1) 0 w14 (by omega)
end LTOLD
