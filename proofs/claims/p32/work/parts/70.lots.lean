/-! SEMANTICS: the lots, apart from the save -/
section LOTS
variable {z : Nat → Nat} {μ : PM}
def sd (a : Nat) : Nat := (1103515245 * a + 12345) % 2147483648
theorem sd_lt {a : Nat} : sd a < 2147483648 := Nat.mod_lt _ (by decide)
theorem l_toInt {a : Nat} (h : a < 9223372036854775808) : (Int64.ofNat a).toInt = a := Int64.toInt_ofNat_of_lt h
theorem l_sub {a b : Nat} (h : b ≤ a) : Int64.ofNat a - Int64.ofNat b = Int64.ofNat (a - b) := by
  have e : Int64.ofNat a = Int64.ofNat (a - b) + Int64.ofNat b := by rw [← Int64.ofNat_add]; congr 1; omega
  rw [e, Int64.add_sub_cancel]
theorem l_div {a b : Nat} (ha : a < 9223372036854775808) (hb : b < 9223372036854775808) : Int64.ofNat a / Int64.ofNat b = Int64.ofNat (a / b) := by
  have h1 : a / b ≤ a := Nat.div_le_self a b
  refine Int64.toInt_inj.mp ?_
  rw [Int64.toInt_div, l_toInt ha, l_toInt hb, l_toInt (by omega), ← Int.ofNat_tdiv, Int.bmod_def]
  generalize a / b = q at h1 ⊢
  have e : (q : Int) % ((2 ^ 64 : Nat) : Int) = (q : Int) := by omega
  rw [e, if_pos (by omega)]
theorem l_rem {a b : Nat} (ha : a < 9223372036854775808) (hb : b < 9223372036854775808) : Int64.ofNat a - Int64.ofNat a / Int64.ofNat b * Int64.ofNat b = Int64.ofNat (a % b) := by
  rw [l_div ha hb, ← Int64.ofNat_mul, l_sub (Nat.div_mul_le_self a b)]
  congr 1
  have := Nat.div_add_mod a b
  rw [Nat.mul_comm] at this
  omega
theorem i3_64 {a : Nat} (h : a < 2147483648) : (Int32.ofNat a).toInt64 = Int64.ofNat a := by
  refine Int64.toInt_inj.mp ?_
  rw [Int32.toInt_toInt64, i3_negs h, l_toInt (by omega)]
theorem i3_sd {a : Nat} (h : a < 2147483648) : (((1103515245 * ((Int32.ofNat a).toInt64)) + 12345) - ((1103515245 * ((Int32.ofNat a).toInt64)) + 12345) / 2147483648 * 2147483648 : Int64).toInt32 = Int32.ofNat (sd a) := by
  have e : (1103515245 * ((Int32.ofNat a).toInt64)) + 12345 = Int64.ofNat (1103515245 * a + 12345) := by
    rw [i3_64 h, Int64.ofNat_add, Int64.ofNat_mul]
    rfl
  have e2 : (2147483648 : Int64) = Int64.ofNat 2147483648 := rfl
  have hm : 1103515245 * a ≤ 1103515245 * 2147483648 := Nat.mul_le_mul_left _ (by omega)
  rw [e, e2, l_rem (by omega) (by decide), Int64.toInt32_ofNat']
  rfl
/-- the drawn number -/
theorem i3_draw {a m : Nat} (hm : m < 2147483648) : Int32.ofNat (sd a) / 65536 - Int32.ofNat (sd a) / 65536 / Int32.ofNat m * Int32.ofNat m = Int32.ofNat (sd a / 65536 % m) := by
  have h1 := sd_lt (a := a)
  have e : Int32.ofNat (sd a) / 65536 = Int32.ofNat (sd a / 65536) := i3_div (b := 65536) h1 (by decide)
  rw [e, i3_rem (by omega) hm]
theorem t_draw {m : Nat} (hr : RT 23 z μ) (hb : Bd z) (h0 : 0 < m) (hm : m < 2147483648) : d_Twn_draw (Int32.ofNat m) μ = rI (Int32.ofNat (sd (z 6) / 65536 % m)) (stI μ 23 10 (Int32.ofNat (sd (z 6)))) := by
  have h6 := hb.big 6 (by decide)
  rw [e_Twn_draw, r_f10 hr, i3_sd h6, if_neg (show ¬ Int32.ofNat m ≤ 0 from le_n (b := 0) h0 hm), chk_t (show ¬ Int32.ofNat m = 0 from fun q => by rw [show (0 : Int32) = Int32.ofNat 0 from rfl, i3_eq hm (by decide)] at q; omega), i3_draw hm]
/-! corners that are free -/
theorem whoP_ext {z' : Nat → Nat} {c : Nat} : ∀ n, (∀ i, i < n → z' (56 + 7 * i + 3) = z (56 + 7 * i + 3)) → whoP z' c n = whoP z c n := by
  intro n
  induction n with
  | zero => intro _; rfl
  | succ n ih =>
    intro h
    show (if whoP z' c n ≠ 0 then whoP z' c n else if z' (56 + 7 * n + 3) = c + 1 then n + 1 else 0) = (if whoP z c n ≠ 0 then whoP z c n else if z (56 + 7 * n + 3) = c + 1 then n + 1 else 0)
    rw [ih (fun i hi => h i (by omega)), h n (by omega)]
theorem whoP_has {c o : Nat} (ho : z (56 + 7 * o + 3) = c + 1) : ∀ n, o < n → whoP z c n ≠ 0 := by
  intro n
  induction n with
  | zero => intro h; exact absurd h (Nat.not_lt_zero o)
  | succ n ih =>
    intro h
    show (if whoP z c n ≠ 0 then whoP z c n else if z (56 + 7 * n + 3) = c + 1 then n + 1 else 0) ≠ 0
    by_cases e : whoP z c n = 0
    · rw [if_neg (fun q => q e)]
      by_cases e2 : o = n
      · subst e2
        rw [if_pos ho]
        omega
      · exact absurd e (ih (by omega))
    · rw [if_pos e]
      exact e
theorem whoP_set {c d o : Nat} (h0 : z (56 + 7 * o + 3) = 0) (hne : d ≠ c) : ∀ n, whoP (setN z (56 + 7 * o + 3) (c + 1)) d n = whoP z d n := by
  intro n
  induction n with
  | zero => rfl
  | succ n ih =>
    show (if whoP (setN z (56 + 7 * o + 3) (c + 1)) d n ≠ 0 then whoP (setN z (56 + 7 * o + 3) (c + 1)) d n else if setN z (56 + 7 * o + 3) (c + 1) (56 + 7 * n + 3) = d + 1 then n + 1 else 0) = (if whoP z d n ≠ 0 then whoP z d n else if z (56 + 7 * n + 3) = d + 1 then n + 1 else 0)
    rw [ih]
    by_cases e : n = o
    · subst e
      rw [setN_self, h0, if_neg (show ¬ c + 1 = d + 1 by omega), if_neg (show ¬ 0 = d + 1 by omega)]
    · rw [setN_ne (by omega)]
def frF (z : Nat → Nat) : Nat → Nat → Nat
  | _, 0 => 0
  | c, n + 1 => (if whoP z c (z 1) = 0 then 1 else 0) + frF z (c + 1) n
theorem frF_sum : ∀ n c, frF z c n = sum n (fun i => if whoP z (c + i) (z 1) = 0 then 1 else 0) := by
  intro n
  induction n with
  | zero => intro c; rfl
  | succ n ih =>
    intro c
    rw [sum_front]
    show (if whoP z c (z 1) = 0 then 1 else 0) + frF z (c + 1) n = _
    rw [ih]
    congr 1
    exact sum_congr _ (fun i _ => by rw [show c + 1 + i = c + (i + 1) by omega])
theorem frF_free (n : Nat) : frF z 0 n = freeS z n := by
  rw [frF_sum]
  exact sum_congr _ (fun i _ => by rw [Nat.zero_add])
def fA (z : Nat → Nat) : Nat → Nat → Nat → Nat
  | 0, c, _ => c
  | n + 1, c, left => if whoP z c (z 1) = 0 then (if left = 0 then c else fA z n (c + 1) (left - 1)) else fA z n (c + 1) left
theorem fA_spec : ∀ n c left, left < frF z c n → fA z n c left < c + n ∧ whoP z (fA z n c left) (z 1) = 0 := by
  intro n
  induction n with
  | zero => intro c left h; exact absurd h (Nat.not_lt_zero _)
  | succ n ih =>
    intro c left h
    have h' : left < (if whoP z c (z 1) = 0 then 1 else 0) + frF z (c + 1) n := h
    show (if whoP z c (z 1) = 0 then (if left = 0 then c else fA z n (c + 1) (left - 1)) else fA z n (c + 1) left) < c + (n + 1) ∧ whoP z (if whoP z c (z 1) = 0 then (if left = 0 then c else fA z n (c + 1) (left - 1)) else fA z n (c + 1) left) (z 1) = 0
    by_cases e : whoP z c (z 1) = 0
    · rw [if_pos e] at h' ⊢
      by_cases e2 : left = 0
      · rw [if_pos e2]
        exact ⟨by omega, e⟩
      · rw [if_neg e2]
        obtain ⟨a, b⟩ := ih (c + 1) (left - 1) (by omega)
        exact ⟨by omega, b⟩
    · rw [if_neg e] at h' ⊢
      obtain ⟨a, b⟩ := ih (c + 1) left (by omega)
      exact ⟨by omega, b⟩
theorem t_freeCorner4 {x1 : Int32} (hr : RT 23 z μ) (hb : Bd z) : ∀ n c left, c + n = z 0 → left < frF z c n → left < 2147483648 → Twn_freeCorner_4 x1 (Int32.ofNat left) (Int32.ofNat c) μ = rI (Int32.ofNat (fA z n c left)) μ := by
  have hn := hb.nc
  have hno := hb.no
  intro n
  induction n with
  | zero => intro c left _ h _; exact absurd h (Nat.not_lt_zero _)
  | succ n ih =>
    intro c left hc h hl
    have h' : left < (if whoP z c (z 1) = 0 then 1 else 0) + frF z (c + 1) n := h
    have hw := whoP_le (z := z) (c := c) (z 1)
    show _ = rI (Int32.ofNat (if whoP z c (z 1) = 0 then (if left = 0 then c else fA z n (c + 1) (left - 1)) else fA z n (c + 1) left)) μ
    rw [Twn_freeCorner_4_eq, r_f4 hr, if_neg (le_n (by omega) (by omega)), t_organAt hr hb (by omega), bI_r, i3_add1]
    by_cases e : whoP z c (z 1) = 0
    · rw [if_pos e] at h' ⊢
      rw [if_neg (fun q => q ((pm_none (by omega)).mpr e))]
      by_cases e2 : left = 0
      · subst e2
        rw [if_neg (fun q => q rfl), if_pos rfl]
      · have e3 : Int32.ofNat left + (-1) = Int32.ofNat (left - 1) := by
          rw [← Int32.sub_eq_add_neg]
          exact i3_sub (b := 1) (by omega)
        rw [if_pos (fun q => by rw [show (0 : Int32) = Int32.ofNat 0 from rfl, i3_eq hl (by decide)] at q; omega), e3, ih (c + 1) (left - 1) (by omega) (by omega) (by omega), if_neg e2]
    · rw [if_neg e] at h' ⊢
      rw [if_pos (fun q => e ((pm_none (by omega)).mp q)), ih (c + 1) left (by omega) (by omega) hl]
/-! no organ has a corner -/
def clrC (n : Nat) (z : Nat → Nat) : Nat → Nat := up n (fun o z => setN z (56 + 7 * o + 3) 0) z
theorem clrC_ne {n j : Nat} (h : ∀ o, o < n → j ≠ 56 + 7 * o + 3) : clrC n z j = z j := by
  induction n with
  | zero => rfl
  | succ n ih =>
    show setN (clrC n z) (56 + 7 * n + 3) 0 j = z j
    rw [setN_ne (h n (by omega)), ih (fun o ho => h o (by omega))]
theorem clrC_at {n o : Nat} (h : o < n) : clrC n z (56 + 7 * o + 3) = 0 := by
  induction n with
  | zero => exact absurd h (Nat.not_lt_zero o)
  | succ n ih =>
    show setN (clrC n z) (56 + 7 * n + 3) 0 (56 + 7 * o + 3) = 0
    by_cases e : o = n
    · subst e; exact setN_self
    · rw [setN_ne (by omega)]; exact ih (by omega)
theorem t_noCorners {n : Nat} (h5 : mI μ 23 5 = Int32.ofNat n) (hn : n ≤ 5) : ∃ μ', d_Twn_takeCornersBack μ = some (.inl none, μ') ∧ FrC μ μ' ∧ ∀ x y, mI μ' x y = if y = 3 ∧ 48 ≤ x ∧ x < 48 + n then pm 0 else mI μ x y := by
  have key : ∀ m, m ≤ n → ∃ μ', Twn_takeCornersBack_2 0 μ = Twn_takeCornersBack_2 (Int32.ofNat m) μ' ∧ FrC μ μ' ∧ ∀ x y, mI μ' x y = if y = 3 ∧ 48 ≤ x ∧ x < 48 + m then pm 0 else mI μ x y := by
    intro m
    induction m with
    | zero => intro _; exact ⟨μ, rfl, FrC.rf, fun x y => by rw [if_neg (by omega)]⟩
    | succ m ih =>
      intro h
      obtain ⟨μ1, a1, a2, a3⟩ := ih (by omega)
      refine ⟨stI μ1 (48 + m) 3 (pm 0), ?_, a2.st (by omega), fun x y => ?_⟩
      · have e5 : mI μ1 23 5 = Int32.ofNat n := by rw [a3, if_neg (by omega), h5]
        rw [a1, Twn_takeCornersBack_2_eq, e5, if_neg (le_n (by omega) (by omega)), chk_t (i3_inb (by omega) (by decide)), i3_nat (by omega), i3_add1]
        rfl
      · rw [st_get, a3]
        by_cases e : x = 48 + m ∧ y = 3
        · rw [if_pos e, if_pos (by omega)]
        · rw [if_neg e]
          by_cases e2 : y = 3 ∧ 48 ≤ x ∧ x < 48 + m
          · rw [if_pos e2, if_pos (by omega)]
          · rw [if_neg e2, if_neg (by omega)]
  obtain ⟨μ1, a1, a2, a3⟩ := key n (Nat.le_refl _)
  refine ⟨μ1, ?_, a2, a3⟩
  have e5 : mI μ1 23 5 = Int32.ofNat n := by rw [a3, if_neg (by omega), h5]
  rw [e_Twn_takeCornersBack, a1, Twn_takeCornersBack_2_eq, e5, if_pos (le_y (Nat.le_refl _) (by omega))]
/-- the corners taken back, nothing played -/
theorem rt_clr {μ' : PM} (hr : RT 23 z μ) (hb : Bd z) (ht : t0 z) (he : ∀ x y, mI μ' x y = if y = 3 ∧ 48 ≤ x ∧ x < 48 + z 1 then pm 0 else mI μ x y) : RT 23 (clrC (z 1) z) μ' := by
  have hn := hb.no
  have key : ∀ m, m ≤ z 1 → ∃ ν, RT 23 (clrC m z) ν ∧ Bd (clrC m z) ∧ t0 (clrC m z) ∧ ∀ x y, mI ν x y = if y = 3 ∧ 48 ≤ x ∧ x < 48 + m then pm 0 else mI μ x y := by
    intro m
    induction m with
    | zero => intro _; exact ⟨μ, hr, hb, ht, fun x y => by rw [if_neg (by omega)]⟩
    | succ m ih =>
      intro h
      obtain ⟨ν, a1, a2, a3, a4⟩ := ih (by omega)
      refine ⟨stI ν (48 + m) 3 (pm 0), rs_at a1 a2 a3 (by omega), a2.set (by unfold okV; omega), fun o ho h hh => ?_, fun x y => ?_⟩
      · show setN (clrC m z) (56 + 7 * m + 3) 0 (163 + 10 * o + h) = 0
        rw [setN_ne (by omega)]
        exact a3 o ho h hh
      · rw [st_get, a4]
        by_cases e : x = 48 + m ∧ y = 3
        · rw [if_pos e, if_pos (by omega)]
        · rw [if_neg e]
          by_cases e2 : y = 3 ∧ 48 ≤ x ∧ x < 48 + m
          · rw [if_pos e2, if_pos (by omega)]
          · rw [if_neg e2, if_neg (by omega)]
  obtain ⟨ν, a1, a2, a3, a4⟩ := key (z 1) (Nat.le_refl _)
  exact RT_fr (fun x y _ _ => by rw [he, a4]) a1
end LOTS
