/-! THE LAW LOOKS AHEAD: copies of arrays, pairs -/
section LSAME
variable {z y : Nat → Nat} {μ μ1 μ2 : PM} {kt : Nat}
theorem l_same {k1 k2 n : Nat} (h1 : AA k1 n μ) (h2 : AA k2 n μ) (hn : n < 100) (hne : k1 ≠ k2) : ∃ μ', d_Lw_same k1 k2 μ = some (.inl none, μ') ∧ μ'.2 = μ.2 ∧ (∀ x, x ≠ k1 → mI μ' x = mI μ x) ∧ ∀ j, j < n → mI μ' k1 j = mI μ k2 j := by
  have key : ∀ m, m ≤ n → ∃ μ', Lw_same_2 k1 k2 0 μ = Lw_same_2 k1 k2 (Int32.ofNat m) μ' ∧ μ'.2 = μ.2 ∧ (∀ x, x ≠ k1 → mI μ' x = mI μ x) ∧ ∀ j, j < m → mI μ' k1 j = mI μ k2 j := by
    intro m
    induction m with
    | zero => intro _; exact ⟨μ, rfl, rfl, fun _ _ => rfl, fun j hj => absurd hj (Nat.not_lt_zero _)⟩
    | succ m ih =>
      intro hm
      obtain ⟨μ1, a1, a2, a3, a4⟩ := ih (by omega)
      have g1 := h1.fr a2
      have g2 := h2.fr a2
      refine ⟨stI μ1 k1 m (mI μ1 k2 m), ?_, a2, fun x hx => by rw [stI_ne _ _ _ hx, a3 x hx], fun j hj => ?_⟩
      · rw [a1, Lw_same_2_eq _ _ _ _ h1.1 h2.1, chk_t g2.2.1, g2.2.2, if_neg (le_n (by omega) (by omega)), chk_t (show okA μ1 k2 = true ∧ inb (Int32.ofNat m) n = true from ⟨g2.2.1, i3_inb (by omega) (by omega)⟩), chk_t (g1.ix (by omega) hn), i3_nat (by omega), i3_add1]
      · rw [st_get]
        by_cases e : j = m
        · rw [if_pos ⟨rfl, e⟩, e, a3 k2 (Ne.symm hne)]
        · rw [if_neg (fun q => e q.2)]
          exact a4 j (by omega)
  obtain ⟨μ1, a1, a2, a3, a4⟩ := key n (Nat.le_refl _)
  refine ⟨μ1, ?_, a2, a3, a4⟩
  have g2 := h2.fr a2
  rw [e_Lw_same _ _ _ h1.1 h2.1, a1, Lw_same_2_eq _ _ _ _ h1.1 h2.1, chk_t g2.2.1, g2.2.2, if_pos (le_y (Nat.le_refl _) (by omega))]
/-- one tune set -/
theorem LTr.su {i v : Nat} {w : Int32} (h : LTr kt z μ) (hkt : kt ≠ 12 ∧ kt ≠ 13 ∧ kt ≠ 14 ∧ kt ≠ 15 ∧ kt ≠ 17 ∧ kt ≠ 18) (hi : i < 30) (hw : w = pm v) : LTr kt (setN z (163 + i) v) (stI μ kt (i) w) := by
  obtain ⟨⟨b0, b1, b2⟩, gc, go, gp, gi, gu, gs, gn⟩ := h
  obtain ⟨n12, n13, n14, n15, n17, n18⟩ := hkt
  have hz : ∀ j, j < 3 → setN z (163 + i) v j = z j := fun j hj => setN_ne (by omega)
  refine ⟨⟨by rw [hz 0 (by decide)]; exact b0, by rw [hz 1 (by decide)]; exact b1, by rw [hz 2 (by decide)]; exact b2⟩, fun j hj => ?_, fun j hj => ?_, fun j hj q => ?_, fun p9 hp9 o9 ho9 => ?_, fun j hj => ?_, fun j hj => ?_, fun j hj => ?_⟩
  · rw [setN_ne (by omega), stI_ne _ _ _ (Ne.symm n12)]; exact gc j hj
  · rw [setN_ne (by omega), stI_ne _ _ _ (Ne.symm n13)]; exact go j hj
  · rw [hz 2 (by decide)] at q
    rw [setN_ne (by omega), stI_ne _ _ _ (Ne.symm n14)]; exact gp j hj q
  · rw [setN_ne (by omega), stI_ne _ _ _ (Ne.symm n15)]; exact gi p9 hp9 o9 ho9
  · rw [st_get]
    by_cases e : j = i
    · rw [if_pos ⟨rfl, e⟩, e, setN_self]; exact hw
    · rw [if_neg (fun q => e q.2), setN_ne (by omega)]
      exact gu j hj
  · rw [setN_ne (by omega), stI_ne _ _ _ (Ne.symm n17)]; exact gs j hj
  · rw [setN_ne (by omega), stI_ne _ _ _ (Ne.symm n18)]; exact gn j hj
theorem stI_back {k i : Nat} {a b : Int32} (h : mI μ k i = b) : stI (stI μ k i a) k i b = μ := by
  refine Prod.ext ?_ rfl
  funext x y
  show mI (stI (stI μ k i a) k i b) x y = mI μ x y
  rw [st_get, st_get]
  by_cases c : x = k ∧ y = i
  · rw [if_pos c, c.1, c.2, h]
  · rw [if_neg c, if_neg c]
theorem TA.fr (h : TA kt μ) (e : μ1.2 = μ.2) : TA kt μ1 := ⟨h.1, by
  have := h.2.1
  unfold okA at this ⊢
  rw [e]
  exact this, h.2.2⟩
theorem sizS_tun {o : Nat} : sizS (tunS z o) = sum 10 (fun t => if reas z o t = 0 then 1 else 0) := by
  refine sum_congr 10 (fun t ht => ?_)
  by_cases h : reas z o t = 0
  · rw [if_pos h, if_pos (tunS_bit.mpr ⟨ht, h⟩)]
  · rw [if_neg h, if_neg (fun q => h (tunS_bit.mp q).2)]
theorem l_pairs18 {o e x7 : Nat} (h : LTr kt y μ) (hT : TA kt μ) (hb : Bd y) (he : e < y 1) (hne : e ≠ o) (ho : o < 10) : Lw_pairs_18 (Int32.ofNat o) kt (Int32.ofNat x7) (Int32.ofNat e) 0 μ = Lw_pairs_6 (Int32.ofNat o) kt (Int32.ofNat (x7 + sizS (tunS y e))) (Int32.ofNat (e + 1)) (.int (Int32.ofNat 10)) μ := by
  have h1 := h.1.2.1
  have key : ∀ m, m ≤ 10 → Lw_pairs_18 (Int32.ofNat o) kt (Int32.ofNat x7) (Int32.ofNat e) 0 μ = Lw_pairs_18 (Int32.ofNat o) kt (Int32.ofNat (x7 + sum m (fun t => if reas y e t = 0 then 1 else 0))) (Int32.ofNat e) (Int32.ofNat m) μ := by
    intro m
    induction m with
    | zero => intro _; rfl
    | succ m ih =>
      intro hm
      have hr : reas y e m ≤ 6 := reas_le
      rw [ih (by omega), Lw_pairs_18_eq _ _ _ _ _ _ hT.1, if_neg (show ¬ (10 : Int32) ≤ Int32.ofNat m from le_n (a := 10) hm (by decide)), if_neg (fun q => hne (by rw [i3_eq (by omega) (by omega)] at q; exact q)), l_why h hT hb he (by omega), bI_r, i3_add1, i3_add0, i3_add1]
      by_cases q : reas y e m = 0
      · rw [if_neg (fun r => r (by rw [i3_n0 (by omega)]; exact q))]
        have e1 : sum (m + 1) (fun t => if reas y e t = 0 then 1 else 0) = sum m (fun t => if reas y e t = 0 then 1 else 0) + 1 := congrArg (_ + ·) (if_pos q)
        rw [e1, ← Nat.add_assoc]
      · rw [if_pos (fun r => by rw [i3_n0 (by omega)] at r; exact q r)]
        have e1 : sum (m + 1) (fun t => if reas y e t = 0 then 1 else 0) = sum m (fun t => if reas y e t = 0 then 1 else 0) := congrArg (_ + ·) (if_neg q)
        rw [e1]
  rw [key 10 (Nat.le_refl _), Lw_pairs_18_eq _ _ _ _ _ _ hT.1, if_pos (by decide), sizS_tun, i3_add1]
theorem l_pairs {o : Nat} (h : LTr kt y μ) (hT : TA kt μ) (hb : Bd y) (ho : o < 10) : d_Lw_pairs (Int32.ofNat o) kt μ = rI (Int32.ofNat (sum (y 1) (fun e => if e = o then 0 else sizS (tunS y e)))) μ := by
  have h1 := h.1.2.1
  have key : ∀ m, m ≤ y 1 → ∃ w, Lw_pairs_6 (Int32.ofNat o) kt 0 0 pU μ = Lw_pairs_6 (Int32.ofNat o) kt (Int32.ofNat (sum m (fun e => if e = o then 0 else sizS (tunS y e)))) (Int32.ofNat m) w μ := by
    intro m
    induction m with
    | zero => intro _; exact ⟨pU, rfl⟩
    | succ m ih =>
      intro hm
      obtain ⟨w, a⟩ := ih (by omega)
      rw [a, Lw_pairs_6_eq _ _ _ _ _ _ hT.1, a_n1 h, if_neg (le_n (by omega) (by omega))]
      by_cases q : m = o
      · have e1 : sum (m + 1) (fun e => if e = o then 0 else sizS (tunS y e)) = sum m (fun e => if e = o then 0 else sizS (tunS y e)) + 0 := congrArg (_ + ·) (if_pos q)
        rw [Lw_pairs_18_eq _ _ _ _ _ _ hT.1, if_neg (by decide), if_pos (by rw [q]), i3_add1, e1, Nat.add_zero]
        exact ⟨_, rfl⟩
      · have e1 : sum (m + 1) (fun e => if e = o then 0 else sizS (tunS y e)) = sum m (fun e => if e = o then 0 else sizS (tunS y e)) + sizS (tunS y m) := congrArg (_ + ·) (if_neg q)
        rw [l_pairs18 h hT hb (by omega) q ho, e1]
        exact ⟨_, rfl⟩
  obtain ⟨w, a⟩ := key (y 1) (Nat.le_refl _)
  rw [e_Lw_pairs _ _ _ hT.1, a, Lw_pairs_6_eq _ _ _ _ _ _ hT.1, a_n1 h, if_pos (le_y (Nat.le_refl _) (by omega))]
theorem kst_0 {o : Nat} : ∀ t, ((kst z o t).1 = 0 → (kst z o t).2 = 0 ∧ ∀ b, b < t → (tunS z o).testBit b = false) ∧ (tunS z o = 0 → (kst z o t).1 = 0) := by
  intro t
  induction t with
  | zero => exact ⟨fun _ => ⟨rfl, fun b hb => absurd hb (Nat.not_lt_zero _)⟩, fun _ => rfl⟩
  | succ t ih =>
    have e : kst z o (t + 1) = if (tunS z o).testBit t = true ∧ (kst z o t).2 ≤ prB z o t then (t + 1, prB z o t + 1) else kst z o t := rfl
    rw [e]
    by_cases c : (tunS z o).testBit t = true ∧ (kst z o t).2 ≤ prB z o t
    · rw [if_pos c]
      refine ⟨fun q => absurd q (Nat.succ_ne_zero _), fun q => ?_⟩
      have := c.1
      rw [q, Nat.zero_testBit] at this
      cases this
    · rw [if_neg c]
      refine ⟨fun q => ?_, ih.2⟩
      obtain ⟨h1, h2⟩ := ih.1 q
      refine ⟨h1, fun b hb => ?_⟩
      by_cases hbt : b = t
      · subst hbt
        cases hx : (tunS z o).testBit b with
        | false => rfl
        | true => exact absurd ⟨hx, by rw [h1]; exact Nat.zero_le _⟩ c
      · exact h2 b (by omega)
theorem kst_10 {o : Nat} : (kst z o 10).1 = 0 ↔ tunS z o = 0 := by
  refine ⟨fun q => ?_, (kst_0 10).2⟩
  have := ((kst_0 10).1 q).2
  refine Nat.eq_of_testBit_eq (fun b => ?_)
  rw [Nat.zero_testBit]
  by_cases hb : b < 10
  · exact this b hb
  · cases hx : (tunS z o).testBit b with
    | false => rfl
    | true => exact absurd (tunS_bit.mp hx).1 hb
end LSAME
