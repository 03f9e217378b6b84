/-! THE LAW'S OWN TOWN: the day's end, the next hour -/
section LNEXT
variable {z y y' : Nat → Nat} {μ μ1 μ2 : PM} {ko kp kc : Nat}
theorem LTn.set {i : Nat} {v : Int32} (h : LTn kc y μ) (hy : ∀ j, j ≠ i → y' j = y j) (hv : v = Int32.ofNat (y' i)) : LTn kc y' (stI μ kc i v) := by
  intro j hj
  rw [st_get]
  by_cases e : j = i
  · rw [if_pos ⟨rfl, e⟩, e]; exact hv
  · rw [if_neg (fun w => e w.2), hy _ e]
    exact h j hj
theorem l_ends3 (hA : EA ko kp kc μ) (hT : TI z μ) (hE : Ed z) (hn1 : z 1 ≤ 3) (hn2 : z 2 ≤ 4) (hn : En ko kp kc z μ) : ∀ m, m ≤ z 1 → ∃ μ' w6 w7 w8 w9 w10 w11 w12,
    Lw_ends_3 ko kp kc 0 pU pU pU pU pU pU pU μ = Lw_ends_3 ko kp kc (Int32.ofNat m) w6 w7 w8 w9 w10 w11 w12 μ' ∧ EFr ko kp kc μ μ' ∧ En ko kp kc (stZ m z) μ' := by
  intro m
  induction m with
  | zero =>
    intro _
    have e : stZ 0 z = z := funext fun j => by
      unfold stZ
      rw [if_neg (by omega)]
      split
      · rfl
      · rfl
    exact ⟨μ, pU, pU, pU, pU, pU, pU, pU, rfl, EFr.rf, by rw [e]; exact hn⟩
  | succ m ih =>
    intro hm
    obtain ⟨μ1, w6, w7, w8, w9, w10, w11, w12, a1, a2, a3⟩ := ih (by omega)
    have hA1 := hA.fr a2.1
    have hT1 := hT.fr hA a2
    have s1 : stZ m z 1 = z 1 := stZ_ne (Or.inl (by decide)) (by omega) (by omega)
    have s2 : stZ m z 2 = z 2 := stZ_ne (Or.inl (by decide)) (by omega) (by omega)
    have e1 : mI μ1 kc 1 = Int32.ofNat (z 1) := by rw [a3.2.2 1 (by decide), s1]
    have e2 : mI μ1 kc 2 = Int32.ofNat (z 2) := by rw [a3.2.2 2 (by decide), s2]
    have sp : stZ m z (56 + 7 * m + 4) = z (56 + 7 * m + 4) := stZ_ne (Or.inr (Or.inl ⟨by omega, by omega⟩)) (by omega) (by omega)
    have ep : mI μ1 ko (7 * m + 4) = Int32.ofNat (z (56 + 7 * m + 4)) := by rw [o_w a3.1 (by omega) (by decide) (by decide), sp]
    have hpt := (hE.2.2.2.2.2.1 m (by omega)).1
    have hal3 := allH_le hE (show m < 5 by omega)
    have head : Lw_ends_3 ko kp kc 0 pU pU pU pU pU pU pU μ = Lw_ends_29 ko kp kc (Int32.ofNat m) (Int32.ofNat (z (56 + 7 * m + 4))) (Int32.ofNat (allH z m)) (Int32.ofNat (z 2)) w9 w10 w11 w12 μ1 := by
      rw [a1, Lw_ends_3_eq _ _ _ _ _ _ _ _ _ _ _ _ hA.1.1.1 hA.1.2.1.1 hA.1.2.2.1, chk_t (show okA μ1 kc = true ∧ inb 1 (len kc) = true from hA1.1.2.2.ix (a := 1) (by decide) (by decide)), e1, if_neg (le_n (by omega) (by omega)), k7, ka4, chk_t (hA1.1.1.ix (by omega) (by decide)), i3_nat (by omega), ep]
      exact l_ends29 hA1 hT1 e2 hn2 (by omega)
    by_cases h0 : z (56 + 7 * m + 4) = 0
    · refine ⟨μ1, .int (Int32.ofNat (z (56 + 7 * m + 4))), .int (Int32.ofNat (allH z m)), .int (Int32.ofNat (z 2)), w9, w10, w11, w12, ?_, a2, ?_⟩
      · rw [head, Lw_ends_29_eq _ _ _ _ _ _ _ _ _ _ _ _ hA.1.1.1 hA.1.2.1.1 hA.1.2.2.1, chk_t (show okA μ1 kc = true ∧ inb 2 (len kc) = true from hA1.1.2.2.ix (a := 2) (by decide) (by decide)), e2, if_pos (le_y (Nat.le_refl _) (by omega)), if_pos ((i3_ne0 (by omega)).mpr h0), i3_add1]
      · have e : ∀ j, stZ (m + 1) z j = stZ m z j := fun j => by
          rw [stZ_s]
          by_cases q : j = 56 + 7 * m + 4
          · rw [if_pos q, q, sp, h0]
          · rw [if_neg q]
            split
            · have : shr z m ((j - 91) / 4) = 0 := if_pos h0
              rw [this, Nat.add_zero]
            · rfl
        exact ⟨a3.1.ext rfl (fun j _ _ => e j), a3.2.1.ext rfl (fun j _ _ => e j) (e 2), a3.2.2.ext rfl (fun j _ => e j)⟩
    · have hal := (hE.2.2.2.2.2.1 m (by omega)).2 h0
      obtain ⟨μ2, u10, u11, u12, b1, b2, b3⟩ := l_ends116 (o := m) (w10 := w10) (w11 := w11) (w12 := w12) hA1 hT1 hE hn2 (by omega) h0 a3 (z 2) (Nat.le_refl _)
      have hA2 := hA1.fr b2.1
      have g2 : gvZ z m (z 2) 2 = z 2 := (if_neg (by omega)).trans s2
      have f2 : mI μ2 kc 2 = Int32.ofNat (z 2) := by rw [b3.2.2 2 (by decide), g2]
      have ey : ∀ j, j ≠ 56 + (7 * m + 4) → stZ (m + 1) z j = gvZ z m (z 2) j := fun j hj => by
        rw [stZ_s, if_neg (by omega)]
        unfold gvZ
        by_cases q : 91 ≤ j ∧ j < 91 + 4 * z 2 ∧ (j - 91) % 4 = 1
        · rw [if_pos ⟨q.1, q.2.1, q.2.2, by omega⟩, if_pos q]
        · rw [if_neg (fun w => q ⟨w.1, w.2.1, w.2.2.1⟩), if_neg q]
      refine ⟨stI μ2 ko (7 * m + 4) 0, .int (Int32.ofNat (z (56 + 7 * m + 4))), .int (Int32.ofNat (allH z m)), .int (Int32.ofNat (lft z m)), .int (Int32.ofNat (z 2)), u10, u11, u12, ?_, (a2.tr b2).st (Or.inl rfl), ?_, ?_, ?_⟩
      · have c0 := l_ends78 (o := m) (w10 := w10) (w11 := w11) (w12 := w12) hA1 hT1 hE e2 hn2 (by omega) hal (z 2) 0 (by omega)
        have c1 : Lw_ends_78 ko kp kc (Int32.ofNat m) (Int32.ofNat (z (56 + 7 * m + 4))) (Int32.ofNat (allH z m)) (Int32.ofNat (z (56 + 7 * m + 4))) 0 w10 w11 w12 μ1 = Lw_ends_116 ko kp kc (Int32.ofNat m) (Int32.ofNat (z (56 + 7 * m + 4))) (Int32.ofNat (allH z m)) (Int32.ofNat (lft z m)) 0 w10 w11 w12 μ1 := c0
        rw [head, Lw_ends_29_eq _ _ _ _ _ _ _ _ _ _ _ _ hA.1.1.1 hA.1.2.1.1 hA.1.2.2.1, chk_t (show okA μ1 kc = true ∧ inb 2 (len kc) = true from hA1.1.2.2.ix (a := 2) (by decide) (by decide)), e2, if_pos (le_y (Nat.le_refl _) (by omega)), if_neg (fun q => h0 ((i3_ne0 (by omega)).mp q)), if_pos (fun q => hal ((i3_ne0 (by omega)).mp q)), c1, b1, Lw_ends_116_eq _ _ _ _ _ _ _ _ _ _ _ _ hA.1.1.1 hA.1.2.1.1 hA.1.2.2.1, chk_t (show okA μ2 kc = true ∧ inb 2 (len kc) = true from hA2.1.2.2.ix (a := 2) (by decide) (by decide)), f2, if_pos (le_y (Nat.le_refl _) (by omega)), k7, ka4, chk_t (hA2.1.1.ix (by omega) (by decide)), i3_nat (by omega), i3_add1]
      · refine b3.1.set ey ?_
        rw [stZ_s, if_pos (by omega)]
        unfold eo
        rw [if_neg (by omega)]
        rfl
      · exact b3.2.1.ext (by rw [stI_ne _ _ _ (Ne.symm hA.2.1.1)]) (fun j _ _ => ey j (by omega)) (ey 2 (by omega))
      · exact b3.2.2.ext (by rw [stI_ne _ _ _ (Ne.symm hA.2.1.2.1)]) (fun j _ => ey j (by omega))
theorem aZ_s {m j : Nat} : aZ y (m + 1) j = setN (setN (setN (aZ y m) (91 + 4 * m + 1) (y (91 + 4 * m + 1) + getA y m)) (91 + 4 * m + 2) (y (91 + 4 * m + 2) + getA y m)) 10 (fndA y m - getA y m) j := by
  by_cases h10 : j = 10
  · rw [h10, setN_self]; rfl
  rw [setN_ne h10]
  by_cases h2 : j = 91 + 4 * m + 2
  · rw [h2, setN_self]
    unfold aZ
    rw [if_neg (by omega), if_neg (by omega), if_pos (by omega), show (91 + 4 * m + 2 - 91) / 4 = m by omega]
  rw [setN_ne h2]
  by_cases h1 : j = 91 + 4 * m + 1
  · rw [h1, setN_self]
    unfold aZ
    rw [if_neg (by omega), if_pos (by omega), show (91 + 4 * m + 1 - 91) / 4 = m by omega]
  rw [setN_ne h1]
  unfold aZ
  rw [if_neg h10, if_neg h10]
  by_cases c1 : 91 ≤ j ∧ j < 91 + 4 * m ∧ (j - 91) % 4 = 1
  · rw [if_pos c1, if_pos (by omega)]
  rw [if_neg c1, if_neg (show ¬ (91 ≤ j ∧ j < 91 + 4 * (m + 1) ∧ (j - 91) % 4 = 1) by omega)]
  by_cases c2 : 91 ≤ j ∧ j < 91 + 4 * m ∧ (j - 91) % 4 = 2
  · rw [if_pos c2, if_pos (by omega)]
  · rw [if_neg c2, if_neg (by omega)]
theorem timS_3 {p : Nat} (h3 : z (123 + 5 * p + 3) = 0) (h4 : z (123 + 5 * p + 4) = 0) : timS z p = z (123 + 5 * p) + z (123 + 5 * p + 1) + z (123 + 5 * p + 2) := by
  show ((((0 + z (123 + 5 * p + 0)) + z (123 + 5 * p + 1)) + z (123 + 5 * p + 2)) + z (123 + 5 * p + 3)) + z (123 + 5 * p + 4) = _
  rw [h3, h4]
  show ((((0 + z (123 + 5 * p)) + z (123 + 5 * p + 1)) + z (123 + 5 * p + 2)) + 0) + 0 = _
  omega
theorem l_ends270 {w6 w7 w8 w9 w10 w11 w12 : Value} (hA : EA ko kp kc μ) (hT : TI z μ) (hE : Ed z) (hn2 : z 2 ≤ 4) (h34 : ∀ p, p < 4 → z (123 + 5 * p + 3) = 0 ∧ z (123 + 5 * p + 4) = 0) (y2 : y 2 = z 2) (y5 : y 5 = 1) (y15 : y 15 = z 15) (y10 : y 10 ≤ 2000000000) (yt : ∀ p, timS y p = timS z p) (hn : En ko kp kc y μ) : ∀ m, m ≤ z 2 → ∃ μ' u6,
    Lw_ends_270 ko kp kc 0 w6 w7 w8 w9 w10 w11 w12 μ = Lw_ends_270 ko kp kc (Int32.ofNat m) u6 w7 w8 w9 w10 w11 w12 μ' ∧ EFr ko kp kc μ μ' ∧ En ko kp kc (aZ y m) μ' := by
  intro m
  induction m with
  | zero =>
    intro _
    have e : aZ y 0 = y := funext fun j => by
      unfold aZ
      by_cases q : j = 10
      · rw [if_pos q, q]; rfl
      · rw [if_neg q, if_neg (by omega), if_neg (by omega)]
    exact ⟨μ, w6, rfl, EFr.rf, by rw [e]; exact hn⟩
  | succ m ih =>
    intro hm
    obtain ⟨μ1, u6, a1, a2, a3⟩ := ih (by omega)
    have hA1 := hA.fr a2.1
    have hT1 := hT.fr hA a2
    have av : ∀ j, j ≠ 10 → j < 91 → aZ y m j = y j := fun j h1 h2 => by
      unfold aZ
      rw [if_neg h1, if_neg (by omega), if_neg (by omega)]
    have e2 : mI μ1 kc 2 = Int32.ofNat (z 2) := by rw [a3.2.2 2 (by decide), av 2 (by decide) (by decide), y2]
    have e5 : mI μ1 kc 5 = Int32.ofNat 1 := by rw [a3.2.2 5 (by decide), av 5 (by decide) (by decide), y5]
    have e10 : mI μ1 kc 10 = Int32.ofNat (fndA y m) := a3.2.2 10 (by decide)
    have hf := fndA_le (z := y) m
    have g1 : aZ y m (91 + 4 * m + 1) = y (91 + 4 * m + 1) := by
      unfold aZ
      rw [if_neg (by omega), if_neg (by omega), if_neg (by omega)]
    have g2 : aZ y m (91 + 4 * m + 2) = y (91 + 4 * m + 2) := by
      unfold aZ
      rw [if_neg (by omega), if_neg (by omega), if_neg (by omega)]
    have ep1 : mI μ1 kp (4 * m + 1) = Int32.ofNat (y (91 + 4 * m + 1)) := by rw [p_w a3.2.1 (by omega) (by decide) (by decide), g1]
    have ep2 : mI μ1 kp (4 * m + 2) = Int32.ofNat (y (91 + 4 * m + 2)) := by rw [p_w a3.2.1 (by omega) (by decide) (by decide), g2]
    have t0 : mI μ1 15 (3 * m) = Int32.ofNat (z (123 + 5 * m)) := hT1.1 m (by omega) 0 (by decide)
    have t1 : mI μ1 15 (3 * m + 1) = Int32.ofNat (z (123 + 5 * m + 1)) := hT1.1 m (by omega) 1 (by decide)
    have t2 : mI μ1 15 (3 * m + 2) = Int32.ofNat (z (123 + 5 * m + 2)) := hT1.1 m (by omega) 2 (by decide)
    have htm := timS_3 (h34 m (by omega)).1 (h34 m (by omega)).2
    have hb0 : z (123 + 5 * m) ≤ 10 := hE.2.2.2.2.1 m (by omega) 0 (by decide)
    have hb1 := hE.2.2.2.2.1 m (by omega) 1 (by decide)
    have hb2 := hE.2.2.2.2.1 m (by omega) 2 (by decide)
    have hz15 := hE.2.2.2.1
    have head : Lw_ends_270 ko kp kc 0 w6 w7 w8 w9 w10 w11 w12 μ = Lw_ends_270 ko kp kc (Int32.ofNat m) u6 w7 w8 w9 w10 w11 w12 μ1 := a1
    rw [Lw_ends_270_eq _ _ _ (Int32.ofNat m) _ _ _ _ _ _ _ μ1 hA.1.1.1 hA.1.2.1.1 hA.1.2.2.1, chk_t (show okA μ1 kc = true ∧ inb 2 (len kc) = true from hA1.1.2.2.ix (a := 2) (by decide) (by decide)), e2, if_neg (le_n (by omega) (by omega)), chk_t (show okA μ1 kc = true ∧ inb 5 (len kc) = true from hA1.1.2.2.ix (a := 5) (by decide) (by decide)), e5, if_neg (by decide), k3, ka1, ka2, chk_t (i3_inb (by omega) (by decide)), chk_t (i3_inb (by omega) (by decide)), chk_t (i3_inb (by omega) (by decide)), i3_nat (by omega), i3_nat (by omega), i3_nat (by omega), t0, t1, t2, i3_add, i3_add, ← htm] at a1
    by_cases q : timS z m < 3
    · have hg : getA y m = min (z 15) (fndA y m) := by
        unfold getA
        rw [yt, if_pos q, y15]
      have key : ∀ v : Int32, v = Int32.ofNat (getA y m) → Lw_ends_270 ko kp kc 0 w6 w7 w8 w9 w10 w11 w12 μ = chk (okA μ1 kp = true ∧ inb ((4 * Int32.ofNat m) + 1) (len kp) = true) (chk (okA (stI μ1 kp (((4 * Int32.ofNat m) + 1).toNatClampNeg) ((mI μ1 kp (((4 * Int32.ofNat m) + 1).toNatClampNeg)) + v)) kp = true ∧ inb ((4 * Int32.ofNat m) + 2) (len kp) = true) (chk (okA (stI (stI μ1 kp (((4 * Int32.ofNat m) + 1).toNatClampNeg) ((mI μ1 kp (((4 * Int32.ofNat m) + 1).toNatClampNeg)) + v)) kp (((4 * Int32.ofNat m) + 2).toNatClampNeg) ((mI (stI μ1 kp (((4 * Int32.ofNat m) + 1).toNatClampNeg) ((mI μ1 kp (((4 * Int32.ofNat m) + 1).toNatClampNeg)) + v)) kp (((4 * Int32.ofNat m) + 2).toNatClampNeg)) + v)) kc = true ∧ inb 10 (len kc) = true) (lt (stI (stI (stI μ1 kp (((4 * Int32.ofNat m) + 1).toNatClampNeg) ((mI μ1 kp (((4 * Int32.ofNat m) + 1).toNatClampNeg)) + v)) kp (((4 * Int32.ofNat m) + 2).toNatClampNeg) ((mI (stI μ1 kp (((4 * Int32.ofNat m) + 1).toNatClampNeg) ((mI μ1 kp (((4 * Int32.ofNat m) + 1).toNatClampNeg)) + v)) kp (((4 * Int32.ofNat m) + 2).toNatClampNeg)) + v)) kc 10 ((mI (stI (stI μ1 kp (((4 * Int32.ofNat m) + 1).toNatClampNeg) ((mI μ1 kp (((4 * Int32.ofNat m) + 1).toNatClampNeg)) + v)) kp (((4 * Int32.ofNat m) + 2).toNatClampNeg) ((mI (stI μ1 kp (((4 * Int32.ofNat m) + 1).toNatClampNeg) ((mI μ1 kp (((4 * Int32.ofNat m) + 1).toNatClampNeg)) + v)) kp (((4 * Int32.ofNat m) + 2).toNatClampNeg)) + v)) kc 10) - v)) (fun μ15 => Lw_ends_270 ko kp kc (Int32.ofNat m + 1) (.int v) w7 w8 w9 w10 w11 w12 μ15)))) →
          ∃ μ' u6, Lw_ends_270 ko kp kc 0 w6 w7 w8 w9 w10 w11 w12 μ = Lw_ends_270 ko kp kc (Int32.ofNat (m + 1)) u6 w7 w8 w9 w10 w11 w12 μ' ∧ EFr ko kp kc μ μ' ∧ En ko kp kc (aZ y (m + 1)) μ' := by
        intro v hv hE9
        have hga : getA y m ≤ fndA y m := getA_le
        rw [hv, k4, ka1, ka2, chk_t (hA1.1.2.1.ix (by omega) (by decide)), i3_nat (by omega), i3_nat (by omega), ep1, i3_add] at hE9
        rw [chk_t (show okA (stI μ1 kp (4 * m + 1) (Int32.ofNat (y (91 + 4 * m + 1) + getA y m))) kp = true ∧ inb (Int32.ofNat (4 * m + 2)) (len kp) = true from hA1.1.2.1.ix (by omega) (by decide)), st_get, if_neg (by omega), ep2, i3_add] at hE9
        rw [chk_t (show okA (stI (stI μ1 kp (4 * m + 1) (Int32.ofNat (y (91 + 4 * m + 1) + getA y m))) kp (4 * m + 2) (Int32.ofNat (y (91 + 4 * m + 2) + getA y m))) kc = true ∧ inb 10 (len kc) = true from hA1.1.2.2.ix (a := 10) (by decide) (by decide)), stI_ne _ _ _ (Ne.symm hA.2.1.2.2), stI_ne _ _ _ (Ne.symm hA.2.1.2.2), e10, i3_sub hga, lt_b, i3_add1] at hE9
        refine ⟨_, _, hE9, ((a2.st (Or.inr (Or.inl rfl))).st (Or.inr (Or.inl rfl))).st (Or.inr (Or.inr rfl)), ?_, ?_, ?_⟩
        · exact a3.1.ext (by rw [stI_ne _ _ _ hA.2.1.2.1, stI_ne _ _ _ hA.2.1.1, stI_ne _ _ _ hA.2.1.1]) (fun j h1 h2 => by rw [aZ_s, setN_ne (by omega), setN_ne (by omega), setN_ne (by omega)])
        · have r1 : LTp kp (setN (aZ y m) (91 + 4 * m + 1) (y (91 + 4 * m + 1) + getA y m)) (stI μ1 kp (4 * m + 1) (Int32.ofNat (y (91 + 4 * m + 1) + getA y m))) :=
            a3.2.1.set (fun j hj => setN_ne (by omega)) (by
              rw [show 91 + (4 * m + 1) = 91 + 4 * m + 1 by omega, setN_self]
              unfold ep
              rw [if_neg (by omega)])
          have r2 : LTp kp (setN (setN (aZ y m) (91 + 4 * m + 1) (y (91 + 4 * m + 1) + getA y m)) (91 + 4 * m + 2) (y (91 + 4 * m + 2) + getA y m)) (stI (stI μ1 kp (4 * m + 1) (Int32.ofNat (y (91 + 4 * m + 1) + getA y m))) kp (4 * m + 2) (Int32.ofNat (y (91 + 4 * m + 2) + getA y m))) :=
            r1.set (fun j hj => setN_ne (by omega)) (by
              rw [show 91 + (4 * m + 2) = 91 + 4 * m + 2 by omega, setN_self]
              unfold ep
              rw [if_neg (by omega)])
          exact r2.ext (by rw [stI_ne _ _ _ hA.2.1.2.2]) (fun j h1 h2 => by rw [aZ_s, setN_ne (by omega)]) (by rw [aZ_s, setN_ne (by omega)])
        · have r0 : LTn kc (setN (setN (aZ y m) (91 + 4 * m + 1) (y (91 + 4 * m + 1) + getA y m)) (91 + 4 * m + 2) (y (91 + 4 * m + 2) + getA y m)) (stI (stI μ1 kp (4 * m + 1) (Int32.ofNat (y (91 + 4 * m + 1) + getA y m))) kp (4 * m + 2) (Int32.ofNat (y (91 + 4 * m + 2) + getA y m))) :=
            a3.2.2.ext (by rw [stI_ne _ _ _ (Ne.symm hA.2.1.2.2), stI_ne _ _ _ (Ne.symm hA.2.1.2.2)]) (fun j h1 => by rw [setN_ne (by omega), setN_ne (by omega)])
          exact r0.set (fun j hj => by rw [aZ_s, setN_ne hj]) (by rw [aZ_s, setN_self])
      rw [if_pos (show Int32.ofNat (timS z m) ≤ 2 from le_y (b := 2) (by omega) (by decide)), chk_t (show okA μ1 kc = true ∧ inb 10 (len kc) = true from hA1.1.2.2.ix (a := 10) (by decide) (by decide)), e10, hT1.2] at a1
      by_cases q2 : fndA y m ≤ z 15
      · rw [if_pos (le_y q2 (by omega))] at a1
        exact key _ (by rw [hg, Nat.min_eq_right q2]) a1
      · rw [if_neg (le_n (by omega) (by omega))] at a1
        exact key _ (by rw [hg, Nat.min_eq_left (by omega)]) a1
    · rw [if_neg (show ¬ Int32.ofNat (timS z m) ≤ 2 from le_n (b := 2) (by omega) (by omega)), i3_add1] at a1
      have hg : getA y m = 0 := by
        unfold getA
        rw [yt, if_neg q]
      have e : ∀ j, aZ y (m + 1) j = aZ y m j := fun j => by
        rw [aZ_s, hg]
        by_cases h10 : j = 10
        · rw [h10, setN_self]; rfl
        rw [setN_ne h10]
        by_cases h2 : j = 91 + 4 * m + 2
        · rw [h2, setN_self, g2]; rfl
        rw [setN_ne h2]
        by_cases h1 : j = 91 + 4 * m + 1
        · rw [h1, setN_self, g1]; rfl
        rw [setN_ne h1]
      exact ⟨μ1, u6, a1, a2, a3.1.ext rfl (fun j _ _ => e j), a3.2.1.ext rfl (fun j _ _ => e j) (e 2), a3.2.2.ext rfl (fun j _ => e j)⟩
theorem l_ends (hA : EA ko kp kc μ) (hT : TI z μ) (hE : Ed z) (hn1 : z 1 ≤ 3) (hn2 : z 2 ≤ 4) (h34 : ∀ p, p < 4 → z (123 + 5 * p + 3) = 0 ∧ z (123 + 5 * p + 4) = 0) (hn : En ko kp kc z μ) :
    ∃ μ', d_Lw_ends ko kp kc μ = some (.inl none, μ') ∧ EFr ko kp kc μ μ' ∧ En ko kp kc (endZ z) μ' := by
  obtain ⟨μ1, w6, w7, w8, w9, w10, w11, w12, a1, a2, a3⟩ := l_ends3 hA hT hE hn1 hn2 hn (z 1) (Nat.le_refl _)
  have hA1 := hA.fr a2.1
  have hT1 := hT.fr hA a2
  have sz : ∀ j, (j < 56 ∨ 123 ≤ j) → stZ (z 1) z j = z j := fun j hj => stZ_ne (by omega) (by omega) (by omega)
  have e1 : mI μ1 kc 1 = Int32.ofNat (z 1) := by rw [a3.2.2 1 (by decide), sz 1 (by omega)]
  have e2 : mI μ1 kc 2 = Int32.ofNat (z 2) := by rw [a3.2.2 2 (by decide), sz 2 (by omega)]
  have e5 : mI μ1 kc 5 = Int32.ofNat (z 5) := by rw [a3.2.2 5 (by decide), sz 5 (by omega)]
  have h5 := hE.2.2.1
  have ht : ∀ p, timS (stZ (z 1) z) p = timS z p := fun p => timS_ext (fun o _ => sz _ (by omega))
  have head : d_Lw_ends ko kp kc μ = Lw_ends_270 ko kp kc 0 w6 w7 w8 w9 w10 w11 w12 μ1 := by
    rw [e_Lw_ends _ _ _ _ hA.1.1.1 hA.1.2.1.1 hA.1.2.2.1, a1, Lw_ends_3_eq _ _ _ _ _ _ _ _ _ _ _ _ hA.1.1.1 hA.1.2.1.1 hA.1.2.2.1, chk_t (show okA μ1 kc = true ∧ inb 1 (len kc) = true from hA1.1.2.2.ix (a := 1) (by decide) (by decide)), e1, if_pos (le_y (Nat.le_refl _) (by omega))]
  have eP : ∀ j, 91 ≤ j → j < 91 + 4 * z 2 → (j - 91) % 4 = 1 → stZ (z 1) z j = z j + shrS z ((j - 91) / 4) := fun j h1 h2 h3 => by
    unfold stZ
    rw [if_neg (by omega), if_pos ⟨h1, h2, h3⟩]
    rfl
  by_cases q : z 5 = 1
  · obtain ⟨μ2, u6, b1, b2, b3⟩ := l_ends270 (y := stZ (z 1) z) (w6 := w6) (w7 := w7) (w8 := w8) (w9 := w9) (w10 := w10) (w11 := w11) (w12 := w12) hA1 hT1 hE hn2 h34 (sz 2 (by omega)) (by rw [sz 5 (by omega), q]) (sz 15 (by omega)) (by rw [sz 10 (by omega)]; exact hE.2.2.2.2.2.2) ht a3 (z 2) (Nat.le_refl _)
    have hA2 := hA1.fr b2.1
    have f2 : mI μ2 kc 2 = Int32.ofNat (z 2) := by
      rw [b3.2.2 2 (by decide)]
      show Int32.ofNat (aZ _ _ 2) = _
      unfold aZ
      rw [if_neg (by decide), if_neg (by omega), if_neg (by omega), sz 2 (by omega)]
    have hfa : ∀ p, fndA (stZ (z 1) z) p = fndA z p := fndA_ext (sz 10 (by omega)) (sz 15 (by omega)) ht
    have hga : ∀ p, getA (stZ (z 1) z) p = getA z p := fun p => getA_ext (sz 10 (by omega)) (sz 15 (by omega)) ht p
    have hw : ∀ p, getW z p = getA z p := fun p => if_pos q
    have e : ∀ j, endZ z j = aZ (stZ (z 1) z) (z 2) j := fun j => by
      unfold endZ aZ
      by_cases c0 : j = 10
      · rw [if_pos c0, if_pos c0, hfa]
        exact if_pos q
      rw [if_neg c0, if_neg c0]
      by_cases c1 : 56 ≤ j ∧ j < 56 + 7 * z 1 ∧ (j - 56) % 7 = 4
      · rw [if_pos c1, if_neg (by omega), if_neg (by omega)]
        unfold stZ
        rw [if_pos c1]
      rw [if_neg c1]
      by_cases c2 : 91 ≤ j ∧ j < 91 + 4 * z 2 ∧ (j - 91) % 4 = 1
      · rw [if_pos c2, if_pos c2, eP j c2.1 c2.2.1 c2.2.2, hga, hw]
      rw [if_neg c2, if_neg c2]
      have es : stZ (z 1) z j = z j := by
        unfold stZ
        rw [if_neg c1, if_neg c2]
      by_cases c3 : 91 ≤ j ∧ j < 91 + 4 * z 2 ∧ (j - 91) % 4 = 2
      · rw [if_pos c3, if_pos c3, es, hga, hw]
      · rw [if_neg c3, if_neg c3, es]
    refine ⟨μ2, ?_, a2.tr b2, b3.1.ext rfl (fun j _ _ => e j), b3.2.1.ext rfl (fun j _ _ => e j) (e 2), b3.2.2.ext rfl (fun j _ => e j)⟩
    rw [head, b1, Lw_ends_270_eq _ _ _ _ _ _ _ _ _ _ _ _ hA.1.1.1 hA.1.2.1.1 hA.1.2.2.1, chk_t (show okA μ2 kc = true ∧ inb 2 (len kc) = true from hA2.1.2.2.ix (a := 2) (by decide) (by decide)), f2, if_pos (le_y (Nat.le_refl _) (by omega))]
  · have hw : ∀ p, getW z p = 0 := fun p => if_neg q
    have e : ∀ j, endZ z j = stZ (z 1) z j := fun j => by
      unfold endZ
      by_cases c0 : j = 10
      · rw [if_pos c0, c0, sz 10 (by omega)]
        exact if_neg q
      rw [if_neg c0]
      by_cases c1 : 56 ≤ j ∧ j < 56 + 7 * z 1 ∧ (j - 56) % 7 = 4
      · rw [if_pos c1]
        unfold stZ
        rw [if_pos c1]
      rw [if_neg c1]
      by_cases c2 : 91 ≤ j ∧ j < 91 + 4 * z 2 ∧ (j - 91) % 4 = 1
      · rw [if_pos c2, eP j c2.1 c2.2.1 c2.2.2, hw]; rfl
      rw [if_neg c2]
      have es : stZ (z 1) z j = z j := by
        unfold stZ
        rw [if_neg c1, if_neg c2]
      rw [es, hw]
      split
      · rfl
      · rfl
    refine ⟨μ1, ?_, a2, a3.1.ext rfl (fun j _ _ => e j), a3.2.1.ext rfl (fun j _ _ => e j) (e 2), a3.2.2.ext rfl (fun j _ => e j)⟩
    rw [head, Lw_ends_270_eq _ _ _ _ _ _ _ _ _ _ _ _ hA.1.1.1 hA.1.2.1.1 hA.1.2.2.1, chk_t (show okA μ1 kc = true ∧ inb 2 (len kc) = true from hA1.1.2.2.ix (a := 2) (by decide) (by decide)), e2]
    by_cases q2 : z 2 = 0
    · rw [if_pos (show Int32.ofNat (z 2) ≤ 0 from le_y (b := 0) (by omega) (by decide))]
    · rw [if_neg (show ¬ Int32.ofNat (z 2) ≤ 0 from le_n (b := 0) (by omega) (by omega)), chk_t (show okA μ1 kc = true ∧ inb 5 (len kc) = true from hA1.1.2.2.ix (a := 5) (by decide) (by decide)), e5, if_pos (show Int32.ofNat (z 5) ≤ 0 from le_y (b := 0) (by omega) (by decide))]
end LNEXT
