/-! THE LAW'S OWN TOWN: the day's end -/
section LENDS
variable {z y y' : Nat → Nat} {μ μ1 μ2 : PM} {ko kp kc : Nat}
def AA (k n : Nat) (μ : PM) : Prop := AR k ∧ okA μ k = true ∧ len k = n
theorem AA.ix {k n a : Nat} (h : AA k n μ) (ha : a < n) (hn : n < 100) : okA μ k = true ∧ inb (Int32.ofNat a) (len k) = true := ⟨h.2.1, by rw [h.2.2]; exact i3_inb ha (by omega)⟩
theorem AA.fr {k n : Nat} (h : AA k n μ) (e : μ1.2 = μ.2) : AA k n μ1 := ⟨h.1, by
  have := h.2.1
  unfold okA at this ⊢
  rw [e]
  exact this, h.2.2⟩
def En (ko kp kc : Nat) (y : Nat → Nat) (μ : PM) : Prop := LTo ko y μ ∧ LTp kp y μ ∧ LTn kc y μ
def TI (z : Nat → Nat) (μ : PM) : Prop := (∀ p, p < 4 → ∀ o, o < 3 → mI μ 15 (3 * p + o) = Int32.ofNat (z (123 + 5 * p + o))) ∧ mI μ 17 4 = Int32.ofNat (z 15)
def EA (ko kp kc : Nat) (μ : PM) : Prop := (AA ko 21 μ ∧ AA kp 16 μ ∧ AA kc 11 μ) ∧ (ko ≠ kp ∧ ko ≠ kc ∧ kp ≠ kc) ∧ (ko ≠ 15 ∧ kp ≠ 15 ∧ kc ≠ 15) ∧ (ko ≠ 17 ∧ kp ≠ 17 ∧ kc ≠ 17)
def EFr (ko kp kc : Nat) (μ μ' : PM) : Prop := μ'.2 = μ.2 ∧ ∀ x, x ≠ ko → x ≠ kp → x ≠ kc → mI μ' x = mI μ x
theorem EFr.rf : EFr ko kp kc μ μ := ⟨rfl, fun _ _ _ _ => rfl⟩
theorem EFr.tr (h : EFr ko kp kc μ μ1) (h' : EFr ko kp kc μ1 μ2) : EFr ko kp kc μ μ2 := ⟨h'.1.trans h.1, fun x a b c => (h'.2 x a b c).trans (h.2 x a b c)⟩
theorem EFr.st {k j : Nat} {v : Int32} (h : EFr ko kp kc μ μ1) (hk : k = ko ∨ k = kp ∨ k = kc) : EFr ko kp kc μ (stI μ1 k j v) := ⟨h.1, fun x a b c => by
  rw [stI_ne _ _ _ (by rcases hk with e | e | e <;> rw [e] <;> assumption)]
  exact h.2 x a b c⟩
theorem EA.fr (h : EA ko kp kc μ) (e : μ1.2 = μ.2) : EA ko kp kc μ1 := ⟨⟨h.1.1.fr e, h.1.2.1.fr e, h.1.2.2.fr e⟩, h.2⟩
theorem TI.fr (h : TI z μ) (hA : EA ko kp kc μ) (e : EFr ko kp kc μ μ1) : TI z μ1 := by
  have e15 := e.2 15 (Ne.symm hA.2.2.1.1) (Ne.symm hA.2.2.1.2.1) (Ne.symm hA.2.2.1.2.2)
  have e17 := e.2 17 (Ne.symm hA.2.2.2.1) (Ne.symm hA.2.2.2.2.1) (Ne.symm hA.2.2.2.2.2)
  exact ⟨fun p hp o ho => by rw [e15]; exact h.1 p hp o ho, by rw [e17]; exact h.2⟩
theorem LTp.set {i : Nat} {v : Int32} (h : LTp kp y μ) (hy : ∀ j, j ≠ 91 + i → y' j = y j) (hv : v = ep i (y' (91 + i))) : LTp kp y' (stI μ kp i v) := by
  intro j hj q
  rw [st_get]
  by_cases e : j = i
  · rw [if_pos ⟨rfl, e⟩, e]; exact hv
  · rw [if_neg (fun w => e w.2), hy _ (by omega)]
    exact h j hj (fun w => by rw [← hy 2 (by omega)]; exact q w)
theorem LTo.set {i : Nat} {v : Int32} (h : LTo ko y μ) (hy : ∀ j, j ≠ 56 + i → y' j = y j) (hv : v = eo i (y' (56 + i))) : LTo ko y' (stI μ ko i v) := by
  intro j hj
  rw [st_get]
  by_cases e : j = i
  · rw [if_pos ⟨rfl, e⟩, e]; exact hv
  · rw [if_neg (fun w => e w.2), hy _ (by omega)]
    exact h j hj
theorem LTo.ext (h : LTo ko y μ) (e : mI μ1 ko = mI μ ko) (hy : ∀ j, 56 ≤ j → j < 77 → y' j = y j) : LTo ko y' μ1 := fun j hj => by rw [e, hy _ (by omega) (by omega)]; exact h j hj
theorem LTp.ext (h : LTp kp y μ) (e : mI μ1 kp = mI μ kp) (hy : ∀ j, 91 ≤ j → j < 107 → y' j = y j) (h2 : y' 2 = y 2) : LTp kp y' μ1 := fun j hj q => by rw [e, hy _ (by omega) (by omega)]; exact h j hj (fun w => by rw [← h2]; exact q w)
theorem LTn.ext (h : LTn kc y μ) (e : mI μ1 kc = mI μ kc) (hy : ∀ j, j < 11 → y' j = y j) : LTn kc y' μ1 := fun j hj => by rw [e, hy _ hj]; exact h j hj
/-! one organ's pot -/
theorem i3_sub0 {a b : Nat} (ha : a < 1000000) (hb : b < 1000000) : ((0 : Int32) < Int32.ofNat a - Int32.ofNat b ↔ b < a) ∧ (Int32.ofNat a - Int32.ofNat b = 0 ↔ a = b) := by
  by_cases h : b ≤ a
  · rw [i3_sub h]
    refine ⟨?_, ?_⟩
    · rw [show ((0 : Int32) < Int32.ofNat (a - b)) = (0 < a - b) from i3_lt (a := 0) (by decide) (by omega)]
      omega
    · rw [i3_ne0 (by omega)]
      omega
  · rw [i3_subn (by omega)]
    have hn := i3_neg_lt (k := b - a) (by omega) (by omega)
    refine ⟨⟨fun q => absurd (Int32.le_of_lt q) hn, fun q => by omega⟩, ⟨fun q => absurd (by rw [q]; exact Int32.le_refl _) hn, fun q => by omega⟩⟩
theorem l_ends29 {o : Nat} {w9 w10 w11 w12 : Value} {x6 : Int32} (hA : EA ko kp kc μ) (hT : TI z μ) (h2 : mI μ kc 2 = Int32.ofNat (z 2)) (hn2 : z 2 ≤ 4) (ho : o < 3) :
    Lw_ends_29 ko kp kc (Int32.ofNat o) x6 0 0 w9 w10 w11 w12 μ = Lw_ends_29 ko kp kc (Int32.ofNat o) x6 (Int32.ofNat (allH z o)) (Int32.ofNat (z 2)) w9 w10 w11 w12 μ :=
  loopS (fun i a (_ : Unit) => Lw_ends_29 ko kp kc (Int32.ofNat o) x6 a i w9 w10 w11 w12 μ) (z 2) (fun p => z (123 + 5 * p + o)) () (fun i hi a => by
    show Lw_ends_29 _ _ _ _ _ _ _ _ _ _ _ _ = Lw_ends_29 _ _ _ _ _ _ _ _ _ _ _ _
    rw [Lw_ends_29_eq _ _ _ _ _ _ _ _ _ _ _ _ hA.1.1.1 hA.1.2.1.1 hA.1.2.2.1, chk_t (show okA μ kc = true ∧ inb 2 (len kc) = true from hA.1.2.2.ix (a := 2) (by decide) (by decide)), h2, if_neg (le_n hi (by omega)), k3, i3_add, chk_t (i3_inb (by omega) (by decide)), i3_nat (by omega), hT.1 i (by omega) o ho, i3_add, i3_add1])
theorem l_quo {o p : Nat} (hE : Ed z) (ho : o < 5) (hp : p < 8) : Int32.ofNat (z (56 + 7 * o + 4)) * Int32.ofNat (z (123 + 5 * p + o)) / Int32.ofNat (allH z o) = Int32.ofNat (quo z o p) := by
  have h1 := (hE.2.2.2.2.2.1 o ho).1
  have h2 := hE.2.2.2.2.1 p hp o ho
  have h3 := allH_le hE ho
  have h4 : z (56 + 7 * o + 4) * z (123 + 5 * p + o) ≤ 900 * 10 := Nat.mul_le_mul h1 h2
  rw [i3_mul, i3_div (by omega) (by omega)]
  rfl
theorem l_rst {o p : Nat} (hE : Ed z) (ho : o < 5) (hp : p < 8) : Int32.ofNat (z (56 + 7 * o + 4)) * Int32.ofNat (z (123 + 5 * p + o)) - Int32.ofNat (z (56 + 7 * o + 4)) * Int32.ofNat (z (123 + 5 * p + o)) / Int32.ofNat (allH z o) * Int32.ofNat (allH z o) = Int32.ofNat (rst z o p) := by
  have h1 := (hE.2.2.2.2.2.1 o ho).1
  have h2 := hE.2.2.2.2.1 p hp o ho
  have h3 := allH_le hE ho
  have h4 : z (56 + 7 * o + 4) * z (123 + 5 * p + o) ≤ 900 * 10 := Nat.mul_le_mul h1 h2
  rw [i3_mul, i3_rem (by omega) (by omega)]
  rfl
theorem l_ends78 {o : Nat} {w10 w11 w12 : Value} (hA : EA ko kp kc μ) (hT : TI z μ) (hE : Ed z) (h2 : mI μ kc 2 = Int32.ofNat (z 2)) (hn2 : z 2 ≤ 4) (ho : o < 3) (hal : allH z o ≠ 0) : ∀ k i, i + k = z 2 →
    Lw_ends_78 ko kp kc (Int32.ofNat o) (Int32.ofNat (z (56 + 7 * o + 4))) (Int32.ofNat (allH z o)) (Int32.ofNat (z (56 + 7 * o + 4) - sum i (quo z o))) (Int32.ofNat i) w10 w11 w12 μ = Lw_ends_116 ko kp kc (Int32.ofNat o) (Int32.ofNat (z (56 + 7 * o + 4))) (Int32.ofNat (allH z o)) (Int32.ofNat (lft z o)) 0 w10 w11 w12 μ := by
  have h3 := allH_le hE (show o < 5 by omega)
  intro k
  induction k with
  | zero =>
    intro i hi
    have : i = z 2 := by omega
    subst this
    rw [Lw_ends_78_eq _ _ _ _ _ _ _ _ _ _ _ _ hA.1.1.1 hA.1.2.1.1 hA.1.2.2.1, chk_t (show okA μ kc = true ∧ inb 2 (len kc) = true from hA.1.2.2.ix (a := 2) (by decide) (by decide)), h2, if_pos (le_y (Nat.le_refl _) (by omega))]
    rfl
  | succ k ih =>
    intro i hi
    have hs : sum (i + 1) (quo z o) ≤ z (56 + 7 * o + 4) := Nat.le_trans (sum_le_n _ (by omega)) (quo_le hal)
    have hs' : sum i (quo z o) + quo z o i ≤ z (56 + 7 * o + 4) := hs
    rw [Lw_ends_78_eq _ _ _ _ _ _ _ _ _ _ _ _ hA.1.1.1 hA.1.2.1.1 hA.1.2.2.1, chk_t (show okA μ kc = true ∧ inb 2 (len kc) = true from hA.1.2.2.ix (a := 2) (by decide) (by decide)), h2, if_neg (le_n (by omega) (by omega)), k3, i3_add, chk_t (i3_inb (by omega) (by decide)), chk_t (show ¬ Int32.ofNat (allH z o) = 0 from fun q => hal ((i3_ne0 (by omega)).mp q)), i3_nat (by omega), hT.1 i (by omega) o ho, l_quo hE (by omega) (by omega), i3_sub (by omega), i3_add1]
    have := ih (i + 1) (by omega)
    rw [show z (56 + 7 * o + 4) - sum (i + 1) (quo z o) = z (56 + 7 * o + 4) - sum i (quo z o) - quo z o i from by show _ - (sum i (quo z o) + quo z o i) = _; omega] at this
    exact this
theorem l_ends131 {o p : Nat} {x8 : Int32} {w12 : Value} (hA : EA ko kp kc μ) (hT : TI z μ) (hE : Ed z) (h2 : mI μ kc 2 = Int32.ofNat (z 2)) (hn2 : z 2 ≤ 4) (ho : o < 3) (hp : p < z 2) (hal : allH z o ≠ 0) :
    ∃ w', Lw_ends_131 ko kp kc (Int32.ofNat o) (Int32.ofNat (z (56 + 7 * o + 4))) (Int32.ofNat (allH z o)) x8 (Int32.ofNat p) 0 0 w12 μ = Lw_ends_131 ko kp kc (Int32.ofNat o) (Int32.ofNat (z (56 + 7 * o + 4))) (Int32.ofNat (allH z o)) x8 (Int32.ofNat p) (Int32.ofNat (ah (rst z o) (z 2) p)) (Int32.ofNat (z 2)) w' μ := by
  have h3 := allH_le hE (show o < 5 by omega)
  have hrs : ∀ q, rst z o q < 1000000 := fun q => by
    have : rst z o q < allH z o := Nat.mod_lt _ (by omega)
    omega
  refine loopW (fun i (a : Nat) w => Lw_ends_131 ko kp kc (Int32.ofNat o) (Int32.ofNat (z (56 + 7 * o + 4))) (Int32.ofNat (allH z o)) x8 (Int32.ofNat p) (Int32.ofNat a) i w μ) (z 2) (fun q a => a + if rst z o p < rst z o q ∨ (rst z o q = rst z o p ∧ q < p) then 1 else 0) (fun _ _ => True) (fun _ _ _ _ => trivial) (fun q hq a w _ => ?_) (a := 0) trivial w12
  refine ⟨.int (Int32.ofNat (rst z o q) - Int32.ofNat (rst z o p)), ?_⟩
  show Lw_ends_131 _ _ _ _ _ _ _ _ _ _ _ _ = Lw_ends_131 _ _ _ _ _ _ _ _ _ _ _ _
  obtain ⟨c1, c2⟩ := i3_sub0 (hrs q) (hrs p)
  rw [Lw_ends_131_eq _ _ _ _ _ _ _ _ _ _ _ _ hA.1.1.1 hA.1.2.1.1 hA.1.2.2.1, chk_t (show okA μ kc = true ∧ inb 2 (len kc) = true from hA.1.2.2.ix (a := 2) (by decide) (by decide)), h2, if_neg (le_n hq (by omega)), k3, i3_add, chk_t (i3_inb (by omega) (by decide)), chk_t (show ¬ Int32.ofNat (allH z o) = 0 from fun q => hal ((i3_ne0 (by omega)).mp q)), k3, i3_add, chk_t (i3_inb (by omega) (by decide)), i3_nat (by omega), i3_nat (by omega), hT.1 q (by omega) o ho, hT.1 p (by omega) o ho, l_rst hE (by omega) (by omega), l_rst hE (by omega) (by omega), i3_add1, i3_add0, i3_add1]
  by_cases q1 : rst z o p < rst z o q
  · rw [if_pos (c1.mpr q1), if_pos (Or.inl q1)]
  rw [if_neg (fun w => q1 (c1.mp w))]
  by_cases q2 : rst z o q = rst z o p
  · rw [if_neg (fun w => w (c2.mpr q2))]
    by_cases q3 : p ≤ q
    · rw [if_pos (le_y q3 (by omega)), if_neg (by omega)]
      rfl
    · rw [if_neg (le_n (by omega) (by omega)), if_pos (Or.inr ⟨q2, by omega⟩)]
  · rw [if_pos (fun w => q2 (c2.mp w)), if_neg (by omega)]
    rfl
/-- players up to m have got their share of organ o's pot -/
def gvZ (z : Nat → Nat) (o m : Nat) : Nat → Nat := fun j => if 91 ≤ j ∧ j < 91 + 4 * m ∧ (j - 91) % 4 = 1 then stZ o z j + shr z o ((j - 91) / 4) else stZ o z j
theorem l_ends116 {o : Nat} {w10 w11 w12 : Value} (hA : EA ko kp kc μ) (hT : TI z μ) (hE : Ed z) (hn2 : z 2 ≤ 4) (ho : o < 3) (h0 : z (56 + 7 * o + 4) ≠ 0) (hn : En ko kp kc (stZ o z) μ) : ∀ m, m ≤ z 2 → ∃ μ' u10 u11 u12, 
    Lw_ends_116 ko kp kc (Int32.ofNat o) (Int32.ofNat (z (56 + 7 * o + 4))) (Int32.ofNat (allH z o)) (Int32.ofNat (lft z o)) 0 w10 w11 w12 μ = Lw_ends_116 ko kp kc (Int32.ofNat o) (Int32.ofNat (z (56 + 7 * o + 4))) (Int32.ofNat (allH z o)) (Int32.ofNat (lft z o)) (Int32.ofNat m) u10 u11 u12 μ' ∧ EFr ko kp kc μ μ' ∧ En ko kp kc (gvZ z o m) μ' := by
  have hal := (hE.2.2.2.2.2.1 o (by omega)).2 h0
  have hpt := (hE.2.2.2.2.2.1 o (by omega)).1
  have h3 := allH_le hE (show o < 5 by omega)
  have s2 : stZ o z 2 = z 2 := stZ_ne (Or.inl (by decide)) (by omega) (by omega)
  have hle : lft z o ≤ 900 := by unfold lft; omega
  intro m
  induction m with
  | zero =>
    intro _
    have e : gvZ z o 0 = stZ o z := funext fun j => if_neg (by omega)
    exact ⟨μ, w10, w11, w12, rfl, EFr.rf, by rw [e]; exact hn⟩
  | succ m ih =>
    intro hm
    obtain ⟨μ1, u10, u11, u12, a1, a2, a3⟩ := ih (by omega)
    have hA1 := hA.fr a2.1
    have hT1 := hT.fr hA a2
    have g2 : gvZ z o m 2 = z 2 := (if_neg (by omega)).trans s2
    have e2 : mI μ1 kc 2 = Int32.ofNat (z 2) := by rw [a3.2.2 2 (by decide), g2]
    obtain ⟨w', b1⟩ := l_ends131 (o := o) (p := m) (x8 := Int32.ofNat (lft z o)) (w12 := u12) hA1 hT1 hE e2 hn2 ho (by omega) hal
    have eg : gvZ z o m (91 + 4 * m + 1) = stZ o z (91 + 4 * m + 1) := if_neg (by omega)
    have ep1 : mI μ1 kp (4 * m + 1) = Int32.ofNat (stZ o z (91 + 4 * m + 1)) := by rw [p_w a3.2.1 (by omega) (by decide) (by decide), eg]
    have hah : ah (rst z o) (z 2) m ≤ 4 := by
      have := sum_le (f := fun q => if rst z o m < rst z o q ∨ (rst z o q = rst z o m ∧ q < m) then 1 else 0) (b := 1) (z 2) (fun i _ => by split <;> omega)
      unfold ah
      omega
    refine ⟨stI μ1 kp (4 * m + 1) (Int32.ofNat (stZ o z (91 + 4 * m + 1) + shr z o m)), .int (Int32.ofNat (ah (rst z o) (z 2) m)), .int (Int32.ofNat (z 2)), w', ?_, a2.st (Or.inr (Or.inl rfl)), ⟨?_, ?_, ?_⟩⟩
    · rw [a1, Lw_ends_116_eq _ _ _ _ _ _ _ _ _ _ _ _ hA.1.1.1 hA.1.2.1.1 hA.1.2.2.1, chk_t (show okA μ1 kc = true ∧ inb 2 (len kc) = true from hA1.1.2.2.ix (a := 2) (by decide) (by decide)), e2, if_neg (le_n (by omega) (by omega)), b1, Lw_ends_131_eq _ _ _ _ _ _ _ _ _ _ _ _ hA.1.1.1 hA.1.2.1.1 hA.1.2.2.1, chk_t (show okA μ1 kc = true ∧ inb 2 (len kc) = true from hA1.1.2.2.ix (a := 2) (by decide) (by decide)), e2, if_pos (le_y (Nat.le_refl _) (by omega)), k4, ka1, chk_t (hA1.1.2.1.ix (by omega) (by decide)), k3, i3_add, chk_t (i3_inb (by omega) (by decide)), chk_t (show ¬ Int32.ofNat (allH z o) = 0 from fun q => hal ((i3_ne0 (by omega)).mp q)), i3_nat (by omega), i3_nat (by omega), hT1.1 m (by omega) o ho, l_quo hE (by omega) (by omega), ep1, i3_add1, i3_add0, i3_add1, i3_add, i3_add, shr_ah hE (by omega) h0 (by omega)]
      by_cases q : ah (rst z o) (z 2) m < lft z o
      · rw [if_neg (le_n q (by omega)), if_pos q]
      · rw [if_pos (le_y (by omega) (by omega)), if_neg q]
        rfl
    · exact a3.1.ext (by rw [stI_ne _ _ _ hA.2.1.1]) (fun j h1 h2 => by
        unfold gvZ
        rw [if_neg (by omega), if_neg (by omega)])
    · refine a3.2.1.set (fun j hj => ?_) ?_
      · unfold gvZ
        by_cases c : 91 ≤ j ∧ j < 91 + 4 * m ∧ (j - 91) % 4 = 1
        · rw [if_pos c, if_pos (by omega)]
        · rw [if_neg c, if_neg (by omega)]
      · have e : gvZ z o (m + 1) (91 + (4 * m + 1)) = stZ o z (91 + 4 * m + 1) + shr z o m := by
          unfold gvZ
          rw [if_pos (by omega), show 91 + (4 * m + 1) - 91 = 4 * m + 1 by omega, show (4 * m + 1) / 4 = m by omega, show 91 + (4 * m + 1) = 91 + 4 * m + 1 by omega]
        rw [e]
        unfold ep
        rw [if_neg (by omega)]
    · exact a3.2.2.ext (by rw [stI_ne _ _ _ (Ne.symm hA.2.1.2.2)]) (fun j h1 => by
        unfold gvZ
        rw [if_neg (by omega), if_neg (by omega)])
theorem stZ_s {o j : Nat} : stZ (o + 1) z j = if j = 56 + 7 * o + 4 then 0 else if 91 ≤ j ∧ j < 91 + 4 * z 2 ∧ (j - 91) % 4 = 1 ∧ ¬ (56 ≤ j ∧ j < 56 + 7 * (o + 1) ∧ (j - 56) % 7 = 4) then stZ o z j + shr z o ((j - 91) / 4) else stZ o z j := by
  by_cases h0 : j = 56 + 7 * o + 4
  · rw [if_pos h0]
    unfold stZ
    rw [if_pos (by omega)]
  · rw [if_neg h0]
    unfold stZ
    by_cases h1 : 56 ≤ j ∧ j < 56 + 7 * (o + 1) ∧ (j - 56) % 7 = 4
    · rw [if_pos h1, if_neg (fun q => q.2.2.2 h1), if_pos (by omega)]
    · rw [if_neg h1]
      have h1' : ¬ (56 ≤ j ∧ j < 56 + 7 * o ∧ (j - 56) % 7 = 4) := by omega
      by_cases h2 : 91 ≤ j ∧ j < 91 + 4 * z 2 ∧ (j - 91) % 4 = 1
      · rw [if_pos h2, if_pos ⟨h2.1, h2.2.1, h2.2.2, h1⟩, if_neg h1', if_pos h2]
        show z j + (sum o _ + shr z o ((j - 91) / 4)) = _
        rw [Nat.add_assoc]
      · rw [if_neg h2, if_neg (fun q => h2 ⟨q.1, q.2.1, q.2.2.1⟩), if_neg h1', if_neg h2]
end LENDS
