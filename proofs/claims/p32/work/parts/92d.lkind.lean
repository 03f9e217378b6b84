/-! THE LAW LOOKS AHEAD: reasons, the kindest tune, what would be taken -/
section LKIND
variable {z y : Nat → Nat} {μ μ1 μ2 : PM} {kt N : Nat}
/-- what the law's scratch array and the class's scratch leave alone -/
def HF (k : Nat) (μ μ' : PM) : Prop := μ'.2 = μ.2 ∧ ∀ x, (x < 5 ∨ 12 ≤ x) → x ≠ k → mI μ' x = mI μ x
theorem HF.rf : HF kt μ μ := ⟨rfl, fun _ _ _ => rfl⟩
theorem HF.tr (h : HF kt μ μ1) (h' : HF kt μ1 μ2) : HF kt μ μ2 := ⟨h'.1.trans h.1, fun x a b => (h'.2 x a b).trans (h.2 x a b)⟩
theorem HF.sc (h : ScC μ μ1) : HF kt μ μ1 := ⟨h.1, fun x a _ => h.2 x a⟩
theorem HF.st {j : Nat} {v : Int32} (h : HF kt μ μ1) : HF kt μ (stI μ1 kt j v) := ⟨h.1, fun x a b => by rw [stI_ne _ _ _ b, h.2 x a b]⟩
theorem HF.lt (h : HF kt μ μ1) (h430 : 430 ≤ kt) (hl : LT z μ) : LT z μ1 := hl.fr (fun x hx => h.2 x (by omega) (by omega))
theorem HF.rt (h : HF kt μ μ1) (h430 : 430 ≤ kt) (hr : RT 23 z μ) : RT 23 z μ1 := RT_fr (fun x y hx hx2 => by rw [h.2 x (by omega) (by omega)]) hr
theorem HF.sm {n : Nat} (h1 : AA kt n μ) (h2 : AA 16 n μ) (hn : n < 100) (hne : kt ≠ 16) : ∃ μ', d_Lw_same kt 16 μ = some (.inl none, μ') ∧ HF kt μ μ' ∧ ∀ j, j < n → mI μ' kt j = mI μ 16 j := by
  obtain ⟨μ1, a1, a2, a3, a4⟩ := l_same h1 h2 hn hne
  exact ⟨μ1, a1, ⟨a2, fun x _ b => a3 x b⟩, a4⟩
theorem LTr.cp (h : HF kt μ μ1) (h430 : 430 ≤ kt) (hl : LT z μ) (hc : ∀ j, j < 30 → mI μ1 kt j = mI μ 16 j) : LTr kt z μ1 := by
  obtain ⟨hb, hc', ho, hp, hi, hu, hs, hn⟩ := h.lt h430 hl
  refine ⟨hb, hc', ho, hp, hi, fun j hj => ?_, hs, hn⟩
  rw [hc j hj]
  exact hl.2.2.2.2.2.1 j hj
theorem TA.aa (h : TA kt μ) : AA kt 30 μ := h
theorem try_bd {o t : Nat} (hb : Bd z) (ho : o < 5) (ht : t < 10) : Bd (tryZ z o t) := by
  have := hb.hr
  exact hb.set (by unfold okV; omega)
theorem try_lt {o t : Nat} (h : LTr kt z μ) (hkt : 430 ≤ kt) (hb : Bd z) (ho : o < 3) : LTr kt (tryZ z o t) (stI μ kt (10 * o + z 4) (Int32.ofNat t)) := by
  have h4 := hb.hr
  have := h.su (i := 10 * o + z 4) (v := t + 1) (w := Int32.ofNat t) (by omega) (by omega) (pm_succ t).symm
  rw [show 163 + (10 * o + z 4) = 163 + 10 * o + z 4 by omega] at this
  exact this
theorem l_kind34 {k8 o : Nat} {w13 w14 : Value} (hr : RT 23 z μ) (hl : LT z μ) (h : LTr k8 z μ) (hT : TA k8 μ) (h430 : 430 ≤ k8) (hk : Okz N z) (ho : o < z 1) : ∃ μ' u10 u11 u12 u13 u14, Lw_ahead_34 k8 (Int32.ofNat o) (-1) (-1) 0 w13 w14 μ = Lw_ahead_9 k8 (Int32.ofNat (o + 1)) u10 u11 u12 u13 u14 μ' ∧ HF k8 μ μ' := by
  have hb := hk.1
  have hpl := hk.2.1
  have h4 := hb.hr
  have hn1 := h.1.2.1
  have key : ∀ t, t ≤ 10 → ∃ u13 u14, Lw_ahead_34 k8 (Int32.ofNat o) (-1) (-1) 0 w13 w14 μ = Lw_ahead_34 k8 (Int32.ofNat o) (pm (kst z o t).1) (pm (kst z o t).2) (Int32.ofNat t) u13 u14 μ := by
    intro t
    induction t with
    | zero => intro _; exact ⟨w13, w14, rfl⟩
    | succ t ih =>
      intro ht
      obtain ⟨u13, u14, a⟩ := ih (by omega)
      have hre : reas z o t ≤ 6 := reas_le
      have hkb := kst_bd (o := o) hb t (by omega)
      rw [a, Lw_ahead_34_eq _ _ _ _ _ _ _ _ hT.1, if_neg (show ¬ (10 : Int32) ≤ Int32.ofNat t from le_n (a := 10) (by omega) (by decide)), l_why hl TA16 hb ho (by omega), bI_r, c_whyNot hr hb ho (by omega), bI_r, if_pos rfl]
      by_cases q : reas z o t = 0
      · have hbit : (tunS z o).testBit t = true := tunS_bit.mpr ⟨by omega, q⟩
        obtain ⟨g1, g2⟩ := can_o hbit
        have hm1 : mI μ k8 (10 * o + z 4) = -1 := by rw [a_u h (by omega) (by omega), g2, pm_zero]
        have ht' := try_lt (t := t) h h430 hb (show o < 3 by omega)
        have hpr : d_Lw_pairs (Int32.ofNat o) k8 (stI μ k8 (10 * o + z 4) (Int32.ofNat t)) = rI (Int32.ofNat (prB z o t)) (stI μ k8 (10 * o + z 4) (Int32.ofNat t)) := by
          have := l_pairs (o := o) ht' (hT.fr rfl) (try_bd hb (by omega) (by omega)) (by omega)
          rw [show tryZ z o t 1 = z 1 from tryZ_ne (by omega)] at this
          exact this
        have e4 : mI (stI μ k8 (10 * o + z 4) (Int32.ofNat t)) 18 4 = Int32.ofNat (z 4) := by rw [stI_ne _ _ _ (by omega), a_n4 hl]
        have hprb : prB z o t ≤ 50 := by
          have := sum_le (f := fun e => if e = o then 0 else sizS (tunS (tryZ z o t) e)) (b := 10) (z 1) (fun i _ => by
            have := sizS_le (b := tunS (tryZ z o t) i)
            split <;> omega)
          unfold prB
          omega
        rw [if_pos (show Int32.ofNat (reas z o t) ≤ 0 from le_y (b := 0) (by omega) (by omega)), a_n4 hl, k10, i3_add, chk_t (hT.ix (by omega)), i3_nat (by omega), hpr, bI_r, e4, i3_add, chk_t (show okA (stI μ k8 (10 * o + z 4) (Int32.ofNat t)) k8 = true ∧ _ from hT.ix (by omega)), i3_nat (by omega), stI_back hm1, i3_add1]
        have ek : kst z o (t + 1) = if (tunS z o).testBit t = true ∧ (kst z o t).2 ≤ prB z o t then (t + 1, prB z o t + 1) else kst z o t := rfl
        have hc : Int32.ofNat (prB z o t) ≤ pm (kst z o t).2 ↔ prB z o t + 1 ≤ (kst z o t).2 := pm_le (by omega) (by omega)
        by_cases c : (kst z o t).2 ≤ prB z o t
        · rw [if_neg (fun r => by have := hc.mp r; omega), if_neg (fun r => by have := hc.mp r; omega), ek, if_pos ⟨hbit, c⟩]
          show ∃ u13 u14, Lw_ahead_34 _ _ _ _ _ _ _ _ = Lw_ahead_34 _ _ (pm (t + 1)) (pm (prB z o t + 1)) _ _ _ _
          rw [pm_succ, pm_succ]
          exact ⟨_, _, rfl⟩
        · rw [if_pos (hc.mpr (by omega)), if_pos (hc.mpr (by omega)), ek, if_neg (fun r => c r.2)]
          exact ⟨_, _, rfl⟩
      · have ek : kst z o (t + 1) = kst z o t := if_neg (fun r => q (tunS_bit.mp r.1).2)
        rw [if_neg (show ¬ Int32.ofNat (reas z o t) ≤ 0 from le_n (b := 0) (by omega) (by omega)), i3_add1, ek]
        exact ⟨_, _, rfl⟩
  obtain ⟨u13, u14, a⟩ := key 10 (Nat.le_refl _)
  obtain ⟨μ1, b1, b2⟩ := t_kindest hr hb ho
  have hl1 : LT z μ1 := (HF.sc (kt := k8) b2).lt h430 hl
  have hkb := kst_bd (o := o) hb 10 (Nat.le_refl _)
  have hkl : (0 : Int32) ≤ pm (kst z o 10).1 ↔ tunS z o ≠ 0 := by
    rw [pm_le0 (by omega)]
    exact not_congr kst_10
  rw [a, Lw_ahead_34_eq _ _ _ _ _ _ _ _ hT.1, if_pos (by decide), b1, bI_r, if_neg ne_0, c_ifPlayed (b2.rt hr) hb hpl ho, bI_r]
  by_cases q : tunS z o = 0
  · rw [if_neg (fun r => hkl.mp r q), if_pos q, if_pos rfl, i3_add1]
    exact ⟨μ1, _, _, _, _, _, rfl, HF.sc b2⟩
  · rw [if_pos (hkl.mpr q), if_neg q, l_takes hl1 TA16 hb hpl ho (tun_at q), bI_r, if_pos rfl, i3_add1]
    exact ⟨μ1, _, _, _, _, _, rfl, HF.sc b2⟩
theorem l_kind9 {k8 : Nat} (hr : RT 23 z μ) (hl : LT z μ) (hT : TA k8 μ) (h430 : 430 ≤ k8) (hk : Okz N z) : ∃ μ' u12 u13 u14, Lw_ahead_9 k8 0 pU pU pU pU pU μ = Lw_ahead_224 k8 0 0 0 u12 u13 u14 pU pU pU μ' ∧ HF k8 μ μ' := by
  have hn1 := hl.1.2.1
  have key : ∀ m, m ≤ z 1 → ∃ μ' u10 u11 u12 u13 u14, Lw_ahead_9 k8 0 pU pU pU pU pU μ = Lw_ahead_9 k8 (Int32.ofNat m) u10 u11 u12 u13 u14 μ' ∧ HF k8 μ μ' := by
    intro m
    induction m with
    | zero => intro _; exact ⟨μ, _, _, _, _, _, rfl, HF.rf⟩
    | succ m ih =>
      intro hm
      obtain ⟨μ1, u10, u11, u12, u13, u14, a1, a2⟩ := ih (by omega)
      have hT1 := hT.fr a2.1
      have hl1 := a2.lt h430 hl
      obtain ⟨μ2, b1, b2, b3⟩ := HF.sm (n := 30) hT1.aa TA16.aa (by decide) (by omega)
      obtain ⟨μ3, v10, v11, v12, v13, v14, c1, c2⟩ := l_kind34 (w13 := u13) (w14 := u14) ((a2.tr b2).rt h430 hr) (b2.lt h430 hl1) (LTr.cp b2 h430 hl1 b3) (hT1.fr b2.1) h430 hk (show m < z 1 by omega)
      refine ⟨μ3, v10, v11, v12, v13, v14, ?_, (a2.tr b2).tr c2⟩
      rw [a1, Lw_ahead_9_eq _ _ _ _ _ _ _ _ hT.1, a_n1 hl1, if_neg (le_n (by omega) (by omega)), b1, bV_r, c1]
  obtain ⟨μ1, u10, u11, u12, u13, u14, a1, a2⟩ := key (z 1) (Nat.le_refl _)
  refine ⟨μ1, u12, u13, u14, ?_, a2⟩
  rw [a1, Lw_ahead_9_eq _ _ _ _ _ _ _ _ hT.1, a_n1 (a2.lt h430 hl), if_pos (le_y (Nat.le_refl _) (by omega))]
end LKIND
