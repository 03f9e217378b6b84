/-! THE LAW'S ORDERS: nine, then run -/
section LRUNS2
variable {z : Nat → Nat} {μ μ1 : PM} {cnt m N κ o t a b : Nat}
theorem i3_shr5 {a : Nat} (ha : a < 2147483648) : ∀ t, t < 32 → Int32.ofNat a >>> (Int32.ofNat t &&& 31) = Int32.ofNat (a >>> t) := by
  intro t ht
  refine Int32.toBitVec_inj.mp ?_
  rw [Int32.toBitVec_shiftRight]
  have e : ∀ t, t < 32 → ((Int32.ofNat t &&& 31).toBitVec.smod 32).toNat = t := by decide +kernel
  show (BitVec.ofNat 32 a).sshiftRight ((Int32.ofNat t &&& 31).toBitVec.smod 32).toNat = BitVec.ofNat 32 (a >>> t)
  rw [e t ht, BitVec.sshiftRight_eq_of_msb_false]
  · refine BitVec.eq_of_toNat_eq ?_
    rw [BitVec.toNat_ushiftRight, BitVec.toNat_ofNat, BitVec.toNat_ofNat, Nat.mod_eq_of_lt (by omega)]
    have : a >>> t ≤ a := Nat.shiftRight_le a t
    rw [Nat.mod_eq_of_lt (by omega)]
  · rw [BitVec.msb_eq_decide, BitVec.toNat_ofNat]
    exact decide_eq_false (by omega)
theorem shr_lt {a : Nat} (ha : a < 2147483648) (t : Nat) (h : t ≠ 0) : a >>> t < 1073741824 := by
  rw [Nat.shiftRight_eq_div_pow]
  have h2 : 2 ^ 1 ≤ 2 ^ t := Nat.pow_le_pow_right (by decide) (by omega)
  have h3 : a / 2 ^ t ≤ a / 2 ^ 1 := Nat.div_le_div_left h2 (by decide)
  have : a / 2 ^ 1 < 1073741824 := by
    show a / 2 < _
    omega
  omega
theorem shr_0 : a >>> 0 = a := rfl
def kdL (a i : Nat) : Nat := (a >>> (2 * i) + i) / 2 % 7
def ogL (b i : Nat) : Nat := (b >>> i + i) / 2 % 4
def tuL (b i : Nat) : Nat := (b >>> (2 * i) + 3 * i) / 2 % 10
def odL (a b i : Nat) : Nat := ordK (kdL a i) (ogL b i) (tuL b i)
def sfL (a b : Nat) : Nat → Nat → List Nat
  | 0, _ => []
  | k + 1, i => odL a b i :: sfL a b k (i + 1)
def TT (a b : Nat) : Nat → List Nat
  | 0 => []
  | i + 1 => TT a b i ++ ((if i = 0 then [] else [59]) ++ sg (odL a b i))
theorem sg_le {o : Nat} (h : okO o) : (sg o).length ≤ 4 := by
  obtain ⟨k, hk, hl, -⟩ := sg_ok h
  have := len_pos k hk
  omega
theorem od_ok (i : Nat) : okO (odL a b i) := ordK_ok (Nat.mod_lt _ (by decide)) (Nat.mod_lt _ (by decide))
theorem TT_len : ∀ i, (TT a b i).length ≤ 5 * i := by
  intro i
  induction i with
  | zero => exact Nat.le_refl _
  | succ i ih =>
    have h1 := sg_le (od_ok (a := a) (b := b) i)
    have h2 : (if i = 0 then ([] : List Nat) else [59]).length ≤ 1 := by split <;> simp
    show (TT a b i ++ ((if i = 0 then [] else [59]) ++ sg (odL a b i))).length ≤ 5 * (i + 1)
    rw [List.length_append, List.length_append]
    omega
theorem TT_9 : TT a b 9 = sg (odL a b 0) ++ txT (sfL a b 8 1) := by
  simp [TT, txT, sfL, List.append_assoc]
theorem sf_9 : sfL a b 9 0 = odL a b 0 :: sfL a b 8 1 := rfl
theorem sf_ok : ∀ k i q, q ∈ sfL a b k i → okO q := by
  intro k
  induction k with
  | zero => intro i q h; exact absurd h List.not_mem_nil
  | succ k ih =>
    intro i q h
    rcases List.mem_cons.mp h with h | h
    · rw [h]; exact od_ok i
    · exact ih (i + 1) q h
theorem sf_len : ∀ k i, (sfL a b k i).length = k := by
  intro k
  induction k with
  | zero => intro i; rfl
  | succ k ih => intro i; show (sfL a b k (i + 1)).length + 1 = k + 1; rw [ih]
/-- the law's own loop keeps this of the class -/
def NFr (μ μ' : PM) : Prop := μ'.2 = μ.2 ∧ ∀ x, x ≠ 3 → x ≠ 4 → (x < 12 ∨ 19 ≤ x) → mI μ' x = mI μ x
theorem NFr.rf : NFr μ μ := ⟨rfl, fun _ _ _ _ => rfl⟩
theorem NFr.tr {μ2 : PM} (h : NFr μ μ1) (h' : NFr μ1 μ2) : NFr μ μ2 := ⟨h'.1.trans h.1, fun x p q r => (h'.2 x p q r).trans (h.2 x p q r)⟩
theorem NFr.x (h : XFr μ μ1) : NFr μ μ1 := ⟨h.1, fun x p q _ => h.2 x p q⟩
theorem NFr.l (h : LFr μ μ1) : NFr μ μ1 := ⟨h.1, fun x _ _ r => h.2 x r⟩
theorem XFr.lt (h : XFr μ μ1) (hl : LT z μ) : LT z μ1 := hl.fr (fun x hx => h.2 x (by omega) (by omega))
theorem LFr.tx {T : List Nat} (h : LFr μ μ1) (hT : TxL T μ) : TxL T μ1 := ⟨hT.1, by rw [h.2 3 (by decide)]; exact hT.2.1, fun i hi => by rw [h.2 4 (by decide)]; exact hT.2.2 i hi⟩
/-- one order's text and what it is -/
theorem l_runs14 {x10 x11 : Int32} {w13 w14 w15 : Value} (ha : a < 2147483648) (hb : b < 2147483648) (hm : m < 9) (hT : TxL (TT a b m) μ) : ∃ μ', Lw_runs_14 (Int32.ofNat a) (Int32.ofNat b) x10 x11 (Int32.ofNat m) w13 w14 w15 μ = Lw_runs_200 (Int32.ofNat a) (Int32.ofNat b) x10 x11 (Int32.ofNat m) (Int32.ofNat (kdL a m)) (Int32.ofNat (ogL b m)) (Int32.ofNat (tuL b m)) μ' ∧ XFr μ μ' ∧ TxL (TT a b (m + 1)) μ' := by
  have hk : kdL a m < 7 := Nat.mod_lt _ (by decide)
  have ho : ogL b m < 4 := Nat.mod_lt _ (by decide)
  have ht : tuL b m < 10 := Nat.mod_lt _ (by decide)
  have hl := TT_len (a := a) (b := b) m
  have e2 : (2 : Int32) * Int32.ofNat m = Int32.ofNat (2 * m) := i3_mul 2 m
  have s1 := i3_shr5 ha (2 * m) (by omega)
  have s2 := i3_shr5 hb m (by omega)
  have s3 := i3_shr5 hb (2 * m) (by omega)
  have bound : ∀ c : Nat, c < 2147483648 → ∀ t k, (t = 0 → k = 0) → k < 100 → c >>> t + k < 2147483648 := fun c hc t k h0 h1 => by
    by_cases q : t = 0
    · rw [q, h0 q, shr_0]; exact hc
    · have := shr_lt hc t q
      omega
  have k1 : d_Lw_at (Int32.ofNat (a >>> (2 * m) + m)) 7 μ = rI (Int32.ofNat (kdL a m)) μ := l_at (n := 7) (bound a ha (2 * m) m (fun q => by omega) (by omega)) (by decide) (by decide)
  have k2 : d_Lw_at (Int32.ofNat (b >>> m + m)) 4 μ = rI (Int32.ofNat (ogL b m)) μ := l_at (n := 4) (bound b hb m m (fun q => q) (by omega)) (by decide) (by decide)
  have k3' : d_Lw_at (Int32.ofNat (b >>> (2 * m) + 3 * m)) 10 μ = rI (Int32.ofNat (tuL b m)) μ := l_at (n := 10) (bound b hb (2 * m) (3 * m) (fun q => by omega) (by omega)) (by decide) (by decide)
  rw [Lw_runs_14_eq, if_neg (show ¬ (9 : Int32) ≤ Int32.ofNat m from le_n (a := 9) hm (by decide)), e2, s1, i3_add, k1, bI_r, s2, i3_add, k2, bI_r, s3, k3, i3_add, k3', bI_r]
  by_cases q : m = 0
  · obtain ⟨μ1, a1, a2, a3⟩ := l_runs85 (x1 := Int32.ofNat a) (x2 := Int32.ofNat b) (x10 := x10) (x11 := x11) (x12 := Int32.ofNat m) hT (by omega) hk ho ht
    have e : TT a b (m + 1) = TT a b m ++ sg (ordK (kdL a m) (ogL b m) (tuL b m)) := by
      show TT a b m ++ ((if m = 0 then [] else [59]) ++ sg (odL a b m)) = _
      rw [if_pos q]
      rfl
    rw [if_pos (show Int32.ofNat m ≤ 0 from le_y (b := 0) (by omega) (by omega)), a1, e]
    exact ⟨μ1, rfl, a2, a3⟩
  · obtain ⟨μ0, b1, b2, b3⟩ := c_append (i := 59) hT (by omega) (by decide) (by decide)
    have b1' : d_Oc_append 59 μ = rI (Int32.ofNat ((TT a b m).length + 1)) μ0 := b1
    have hl2 : (TT a b m ++ [59]).length = (TT a b m).length + 1 := List.length_append
    obtain ⟨μ1, a1, a2, a3⟩ := l_runs85 (x1 := Int32.ofNat a) (x2 := Int32.ofNat b) (x10 := x10) (x11 := x11) (x12 := Int32.ofNat m) b3 (by omega) hk ho ht
    have e : TT a b (m + 1) = TT a b m ++ [59] ++ sg (ordK (kdL a m) (ogL b m) (tuL b m)) := by
      show TT a b m ++ ((if m = 0 then [] else [59]) ++ sg (odL a b m)) = _
      rw [if_neg q, List.append_assoc]
      rfl
    rw [if_neg (show ¬ Int32.ofNat m ≤ 0 from le_n (b := 0) (by omega) (by omega)), b1', bI_r, if_pos (show (1 : Int32) ≤ Int32.ofNat ((TT a b m).length + 1) from le_y (a := 1) (by omega) (by omega)), a1, e]
    exact ⟨μ1, rfl, b2.tr a2, a3⟩
theorem l_runsL {w13 w14 w15 : Value} {z0 : Nat → Nat} (ha : a < 2147483648) (hb : b < 2147483648) : ∀ (k m cnt : Nat) (g : Bool) (z : Nat → Nat) (μ : PM) (w13 w14 w15 : Value), m + k = 9 → TxL (TT a b m) μ → LT z μ → Okz (N + m) z → N ≤ 19900 →
    (g = true → runZ (sfL a b 9 0) z0 = (cnt + (runZ (sfL a b k m) z).1, (runZ (sfL a b k m) z).2)) → (g = false → runZ (sfL a b 9 0) z0 = (cnt, z)) →
    ∃ (μ' : PM) (x11 : Int32) (u13 u14 u15 : Value), Lw_runs_14 (Int32.ofNat a) (Int32.ofNat b) (Int32.ofNat cnt) (if g then 1 else 0) (Int32.ofNat m) w13 w14 w15 μ = Lw_runs_14 (Int32.ofNat a) (Int32.ofNat b) (Int32.ofNat (runZ (sfL a b 9 0) z0).1) x11 (Int32.ofNat 9) u13 u14 u15 μ' ∧ NFr μ μ' ∧ TxL (TT a b 9) μ' ∧ LT (runZ (sfL a b 9 0) z0).2 μ' := by
  intro k
  induction k with
  | zero =>
    intro m cnt g z μ w13 w14 w15 hm hT hl hk hN hg1 hg2
    have : m = 9 := by omega
    subst this
    cases g with
    | true =>
      have e : runZ (sfL a b 9 0) z0 = (cnt, z) := hg1 rfl
      rw [e]
      exact ⟨μ, _, _, _, _, rfl, NFr.rf, hT, hl⟩
    | false =>
      have e := hg2 rfl
      rw [e]
      exact ⟨μ, _, _, _, _, rfl, NFr.rf, hT, hl⟩
  | succ k ih =>
    intro m cnt g z μ w13 w14 w15 hm hT hl hk hN hg1 hg2
    have hkk : kdL a m < 7 := Nat.mod_lt _ (by decide)
    have ho : ogL b m < 4 := Nat.mod_lt _ (by decide)
    have ht : tuL b m < 10 := Nat.mod_lt _ (by decide)
    obtain ⟨μ1, a1, a2, a3⟩ := l_runs14 (x10 := Int32.ofNat cnt) (x11 := if g then 1 else 0) (w13 := w13) (w14 := w14) (w15 := w15) ha hb (show m < 9 by omega) hT
    have hl1 := a2.lt hl
    cases g with
    | true =>
      have es : runZ (sfL a b 9 0) z0 = (cnt + (runZ (odL a b m :: sfL a b k (m + 1)) z).1, (runZ (odL a b m :: sfL a b k (m + 1)) z).2) := hg1 rfl
      have a1' : Lw_runs_14 (Int32.ofNat a) (Int32.ofNat b) (Int32.ofNat cnt) (if true = true then 1 else 0) (Int32.ofNat m) w13 w14 w15 μ = Lw_runs_200 (Int32.ofNat a) (Int32.ofNat b) (Int32.ofNat cnt) 1 (Int32.ofNat m) (Int32.ofNat (kdL a m)) (Int32.ofNat (ogL b m)) (Int32.ofNat (tuL b m)) μ1 := a1
      rcases l_runs200 (x1 := Int32.ofNat a) (x2 := Int32.ofNat b) (cnt := cnt) (m := m) hl1 hk (by omega) hkk ho ht with ⟨c0, μ2, c1, c2, c3⟩ | ⟨c0, c1⟩
      · have c0' : mayB z (odL a b m) := c0
        rw [runZ_y c0'] at es
        obtain ⟨μ3, x11, u13, u14, u15, d1, d2, d3, d4⟩ := ih (m + 1) (cnt + 1) true (doZ z (odL a b m)) μ2 _ _ _ (by omega) (c2.tx a3) c3 (by
          have := ok_do hk (by omega) (od_ok m) c0
          exact this) hN (fun _ => by rw [es]; show (cnt + ((runZ (sfL a b k (m + 1)) (doZ z (odL a b m))).1 + 1), _) = _; rw [show ∀ x : Nat, cnt + (x + 1) = cnt + 1 + x from fun x => by omega]) (fun q => by cases q)
        refine ⟨μ3, x11, u13, u14, u15, ?_, (NFr.x a2).tr ((NFr.l c2).tr d2), d3, d4⟩
        rw [a1', c1]
        exact d1
      · have c0' : ¬ mayB z (odL a b m) := c0
        rw [runZ_n c0'] at es
        obtain ⟨μ3, x11, u13, u14, u15, d1, d2, d3, d4⟩ := ih (m + 1) cnt false z μ1 _ _ _ (by omega) a3 hl1 (hk.mono (by omega)) hN (fun q => by cases q) (fun _ => es)
        refine ⟨μ3, x11, u13, u14, u15, ?_, (NFr.x a2).tr d2, d3, d4⟩
        rw [a1', c1]
        exact d1
    | false =>
      have es := hg2 rfl
      have a1' : Lw_runs_14 (Int32.ofNat a) (Int32.ofNat b) (Int32.ofNat cnt) (if false = true then 1 else 0) (Int32.ofNat m) w13 w14 w15 μ = Lw_runs_200 (Int32.ofNat a) (Int32.ofNat b) (Int32.ofNat cnt) 0 (Int32.ofNat m) (Int32.ofNat (kdL a m)) (Int32.ofNat (ogL b m)) (Int32.ofNat (tuL b m)) μ1 := a1
      obtain ⟨μ3, x11, u13, u14, u15, d1, d2, d3, d4⟩ := ih (m + 1) cnt false z μ1 (.int (Int32.ofNat (kdL a m))) (.int (Int32.ofNat (ogL b m))) (.int (Int32.ofNat (tuL b m))) (by omega) a3 hl1 (hk.mono (by omega)) hN (fun q => by cases q) (fun _ => es)
      refine ⟨μ3, x11, u13, u14, u15, ?_, (NFr.x a2).tr d2, d3, d4⟩
      rw [a1', l_runs200n, i3_add1]
      exact d1
/-- what a turn of the law leaves alone -/
def GFr (μ μ' : PM) : Prop := μ'.2 = μ.2 ∧ ∀ x, 345 ≤ x → mI μ' x = mI μ x
theorem GFr.rf : GFr μ μ := ⟨rfl, fun _ _ => rfl⟩
theorem GFr.tr {μ2 : PM} (h : GFr μ μ1) (h' : GFr μ1 μ2) : GFr μ μ2 := ⟨h'.1.trans h.1, fun x p => (h'.2 x p).trans (h.2 x p)⟩
theorem RingC.gf {old sv : Nat} {zs : Nat → Nat → Nat} (hg : RingC old sv zs μ) (h : ∀ x, (x = 1 ∨ (69 ≤ x ∧ x < 345)) → ∀ y, mI μ1 x y = mI μ x y) : RingC old sv zs μ1 := by
  obtain ⟨h1, h2, h3, h4, h5⟩ := hg
  refine ⟨h1, h2, by rw [h 1 (Or.inl rfl), h3], by rw [h 1 (Or.inl rfl), h4], fun k hk => RT_fr (fun x y hx hx2 => h x ?_ y) (h5 k hk)⟩
  have := Nat.mod_lt (old + k) (show 6 > 0 by decide)
  omega
theorem l_runs {old sv : Nat} {zs : Nat → Nat → Nat} (hr : RT 23 z μ) (hl : LT z μ) (hk : Okz N z) (hg : RingC old sv zs μ) (hN : N ≤ 19900) (ha : a < 2147483648) (hb : b < 2147483648) :
    ∃ (μ' : PM) (old' : Nat) (zs' : Nat → Nat → Nat) (z' : Nat → Nat), d_Lw_runs (Int32.ofNat a) (Int32.ofNat b) μ = rI 1 μ' ∧ GFr μ μ' ∧ RT 23 z' μ' ∧ LT z' μ' ∧ RingC old' (nxt sv) zs' μ' ∧ Okz (N + 20) z' := by
  obtain ⟨c1, c2, c3⟩ := c_clear (μ := μ)
  obtain ⟨μ2, x11, u13, u14, u15, d1, d2, d3, d4⟩ := l_runsL (N := N) (z0 := z) (w13 := pU) (w14 := pU) (w15 := pU) ha hb 9 0 0 true z (stI μ 3 1 0) pU pU pU rfl c3 (c2.lt hl) hk hN (fun _ => by rw [Nat.zero_add]) (fun q => by cases q)
  have d1' : Lw_runs_14 (Int32.ofNat a) (Int32.ofNat b) 0 1 0 pU pU pU (stI μ 3 1 0) = Lw_runs_14 (Int32.ofNat a) (Int32.ofNat b) (Int32.ofNat (runZ (sfL a b 9 0) z).1) x11 (Int32.ofNat 9) u13 u14 u15 μ2 := d1
  have f2 := (NFr.x c2).tr d2
  have hr2 : RT 23 z μ2 := RT_fr (fun x y hx hx2 => by rw [f2.2 x (by omega) (by omega) (by omega)]) hr
  have hg2 : RingC old sv zs μ2 := hg.gf (fun x hx y => by rw [f2.2 x (by omega) (by omega) (by omega)])
  obtain ⟨μ3, old', e1, e2, e3, e4, e5⟩ := t_save hr2 hk.1 hg2
  have hlen := TT_len (a := a) (b := b) 9
  have hpos : 0 < (TT a b 9).length := by
    obtain ⟨k, hk5, hl5, -⟩ := sg_ok (od_ok (a := a) (b := b) 0)
    have := len_pos k hk5
    rw [TT_9, List.length_append]
    omega
  have hp : prsL (TT a b 9).length (nth (TT a b 9)) 61 0 = ((TT a b 9).length, 20, sfL a b 9 0) := by
    have := prs_tx (n := (TT a b 9).length) (s := nth (TT a b 9)) (sfL a b 8 1) (odL a b 0) 61 0 (fun q hq => by rw [← sf_9] at hq; exact sf_ok 9 0 q hq) (by rw [TT_9, Nat.zero_add]) (fun i hi => by rw [TT_9, Nat.zero_add]) (by omega)
    rw [sf_9]
    exact this
  have hT3 : TxC (TT a b 9).length (nth (TT a b 9)) μ3 := ⟨d3.1, by rw [e3 3 (by decide) (by decide)]; exact d3.2.1, fun i hi => by rw [e3 4 (by decide) (by decide)]; exact d3.2.2 i hi⟩
  have hr3 : RT 23 z μ3 := RT_fr (fun x y hx hx2 => e3 x (by omega) (by omega) y) hr2
  have hs9 := sf_len (a := a) (b := b) 9 0
  obtain ⟨μ4, g1, g2, g3⟩ := t_run35 61 0 0 N z μ3 pU hT3 hpos (by omega) (by rw [hp]) (by rw [hp]) hr3 hk (by rw [hp]; show N + (sfL a b 9 0).length ≤ 20020; omega) (by rw [hp]; show 0 + (sfL a b 9 0).length ≤ 1000; omega)
  rw [hp] at g1 g3
  have g1' : Oc_run_35 0 0 pU μ3 = rI (Int32.ofNat (runZ (sfL a b 9 0) z).1) (stI μ4 3 1 0) := by
    have : Oc_run_35 (Int32.ofNat 0) (Int32.ofNat 0) pU μ3 = rI (Int32.ofNat (0 + (runZ (sfL a b 9 0) z).1)) (stI μ4 3 1 0) := g1
    rw [Nat.zero_add] at this
    exact this
  have hok : Okz (N + 20) (runZ (sfL a b 9 0) z).2 := (ok_run (sfL a b 9 0) N z hk (by omega) (sf_ok 9 0)).mono (by omega)
  have hrun : d_Oc_run μ2 = rI (Int32.ofNat (runZ (sfL a b 9 0) z).1) (stI μ4 3 1 0) := by
    have hw := t_isWhole (μ := μ2) d3
    rw [hp, if_pos ⟨rfl, rfl⟩] at hw
    rw [e_Oc_run, hw, bI_r, if_pos (show ¬ (1 : Int32) = 0 by decide), e1, bV_r, g1']
  refine ⟨stI μ4 3 1 0, old', pushZ zs sv z, (runZ (sfL a b 9 0) z).2, ?_, ⟨?_, fun x hx => ?_⟩, ?_, ?_, ?_, hok⟩
  · rw [e_Lw_runs, c1, bI_r, d1', Lw_runs_14_eq, if_pos (show (9 : Int32) ≤ Int32.ofNat 9 by decide), hrun, bI_r, if_neg ne_0]
  · show μ4.2 = μ.2
    rw [g2.1, e2, f2.1]
  · rw [stI_ne _ _ _ (by omega), g2.2 x (by omega)]
    funext y
    rw [e3 x (by omega) (by omega), f2.2 x (by omega) (by omega) (by omega)]
  · exact RT_fr (fun x y hx hx2 => by rw [stI_ne _ _ _ (by omega)]) g3
  · refine d4.fr (fun x hx => ?_)
    rw [stI_ne _ _ _ (by omega), g2.2 x (by omega)]
    funext y
    exact e3 x (by omega) (by omega) y
  · exact (e5.fr g2).gf (fun x hx y => by rw [stI_ne _ _ _ (by omega)])
end LRUNS2
