/-! THE LAW'S OWN TOWN: what its arrays hold of the state -/
section LREL
variable {z : Nat → Nat} {μ : PM} {kt : Nat}
def eo (j v : Nat) : Int32 := if j % 7 = 3 then pm v else Int32.ofNat v
def ep (j v : Nat) : Int32 := if j % 4 = 0 then pm v else Int32.ofNat v
def LTo (ko : Nat) (z : Nat → Nat) (μ : PM) : Prop := ∀ j, j < 21 → mI μ ko j = eo j (z (56 + j))
def LTp (kp : Nat) (z : Nat → Nat) (μ : PM) : Prop := ∀ j, j < 16 → (j % 4 = 0 → j / 4 < z 2) → mI μ kp j = ep j (z (91 + j))
def LTn (kc : Nat) (z : Nat → Nat) (μ : PM) : Prop := ∀ j, j < 11 → mI μ kc j = Int32.ofNat (z j)
/-- the tunes at kt -/
def LTr (kt : Nat) (z : Nat → Nat) (μ : PM) : Prop := (z 0 ≤ 6 ∧ z 1 ≤ 3 ∧ z 2 ≤ 4) ∧ (∀ j, j < 24 → mI μ 12 j = Int32.ofNat (z (16 + j))) ∧ LTo 13 z μ ∧ LTp 14 z μ ∧ (∀ p, p < 4 → ∀ o, o < 3 → mI μ 15 (3 * p + o) = Int32.ofNat (z (123 + 5 * p + o))) ∧
  (∀ j, j < 30 → mI μ kt j = pm (z (163 + j))) ∧ (∀ j, j < 5 → mI μ 17 j = Int32.ofNat (z (11 + j))) ∧ LTn 18 z μ
def LT (z : Nat → Nat) (μ : PM) : Prop := LTr 16 z μ
/-- an array of tunes that is there -/
def TA (kt : Nat) (μ : PM) : Prop := AR kt ∧ okA μ kt = true ∧ len kt = 30
theorem TA16 : TA 16 μ := ⟨Or.inl rfl, okA_20 rfl, rfl⟩
theorem TA.ix {a : Nat} (h : TA kt μ) (ha : a < 30) : okA μ kt = true ∧ inb (Int32.ofNat a) (len kt) = true := ⟨h.2.1, by rw [h.2.2]; exact i3_inb ha (by decide)⟩
theorem a_n {i : Nat} (h : LTr kt z μ) (hi : i < 11) : mI μ 18 i = Int32.ofNat (z i) := h.2.2.2.2.2.2.2 i hi
theorem a_n0 (h : LTr kt z μ) : mI μ 18 0 = Int32.ofNat (z 0) := a_n h (by decide)
theorem a_n1 (h : LTr kt z μ) : mI μ 18 1 = Int32.ofNat (z 1) := a_n h (by decide)
theorem a_n2 (h : LTr kt z μ) : mI μ 18 2 = Int32.ofNat (z 2) := a_n h (by decide)
theorem a_n4 (h : LTr kt z μ) : mI μ 18 4 = Int32.ofNat (z 4) := a_n h (by decide)
theorem a_n5 (h : LTr kt z μ) : mI μ 18 5 = Int32.ofNat (z 5) := a_n h (by decide)
theorem a_c {c w : Nat} (h : LTr kt z μ) (hc : c < 6) (hw : w < 4) : mI μ 12 (4 * c + w) = Int32.ofNat (z (16 + 4 * c + w)) := by
  rw [h.2.1 _ (by omega), show 16 + (4 * c + w) = 16 + 4 * c + w by omega]
theorem a_c0 {c : Nat} (h : LTr kt z μ) (hc : c < 6) : mI μ 12 (4 * c) = Int32.ofNat (z (16 + 4 * c)) := a_c (w := 0) h hc (by decide)
theorem o_w {ko o w : Nat} (h : LTo ko z μ) (ho : o < 3) (hw : w < 7) (h3 : w ≠ 3) : mI μ ko (7 * o + w) = Int32.ofNat (z (56 + 7 * o + w)) := by
  rw [h _ (by omega), show 56 + (7 * o + w) = 56 + 7 * o + w by omega]
  unfold eo
  rw [if_neg (by omega)]
theorem o_at {ko o : Nat} (h : LTo ko z μ) (ho : o < 3) : mI μ ko (7 * o + 3) = pm (z (56 + 7 * o + 3)) := by
  rw [h _ (by omega), show 56 + (7 * o + 3) = 56 + 7 * o + 3 by omega]
  unfold eo
  rw [if_pos (by omega)]
theorem a_o {o w : Nat} (h : LTr kt z μ) (ho : o < 3) (hw : w < 7) (h3 : w ≠ 3) : mI μ 13 (7 * o + w) = Int32.ofNat (z (56 + 7 * o + w)) := o_w h.2.2.1 ho hw h3
theorem a_o0 {o : Nat} (h : LTr kt z μ) (ho : o < 3) : mI μ 13 (7 * o) = Int32.ofNat (z (56 + 7 * o)) := a_o (w := 0) h ho (by decide) (by decide)
theorem a_at {o : Nat} (h : LTr kt z μ) (ho : o < 3) : mI μ 13 (7 * o + 3) = pm (z (56 + 7 * o + 3)) := o_at h.2.2.1 ho
theorem p_w {kp p w : Nat} (h : LTp kp z μ) (hp : p < 4) (h1 : 1 ≤ w) (hw : w < 4) : mI μ kp (4 * p + w) = Int32.ofNat (z (91 + 4 * p + w)) := by
  rw [h _ (by omega) (fun q => by omega), show 91 + (4 * p + w) = 91 + 4 * p + w by omega]
  unfold ep
  rw [if_neg (by omega)]
theorem a_p {p w : Nat} (h : LTr kt z μ) (hp : p < 4) (h1 : 1 ≤ w) (hw : w < 4) : mI μ 14 (4 * p + w) = Int32.ofNat (z (91 + 4 * p + w)) := p_w h.2.2.2.1 hp h1 hw
theorem a_w {p : Nat} (h : LTr kt z μ) (hp : p < z 2) : mI μ 14 (4 * p) = pm (z (91 + 4 * p)) := by
  have h2 := h.1.2.2
  rw [h.2.2.2.1 _ (by omega) (fun q => by omega)]
  unfold ep
  rw [if_pos (by omega)]
theorem a_i {p o : Nat} (h : LTr kt z μ) (hp : p < 4) (ho : o < 3) : mI μ 15 (3 * p + o) = Int32.ofNat (z (123 + 5 * p + o)) := h.2.2.2.2.1 p hp o ho
theorem a_u {o i : Nat} (h : LTr kt z μ) (ho : o < 3) (hi : i < 10) : mI μ kt (10 * o + i) = pm (z (163 + 10 * o + i)) := by
  rw [h.2.2.2.2.2.1 _ (by omega), show 163 + (10 * o + i) = 163 + 10 * o + i by omega]
theorem a_s {i : Nat} (h : LTr kt z μ) (hi : i < 5) : mI μ 17 i = Int32.ofNat (z (11 + i)) := h.2.2.2.2.2.2.1 i hi
/-! indices -/
theorem k7 (o : Nat) : 7 * Int32.ofNat o = Int32.ofNat (7 * o) := i3_mul 7 o
theorem k4 (o : Nat) : 4 * Int32.ofNat o = Int32.ofNat (4 * o) := i3_mul 4 o
theorem k3 (o : Nat) : 3 * Int32.ofNat o = Int32.ofNat (3 * o) := i3_mul 3 o
theorem k10 (o : Nat) : 10 * Int32.ofNat o = Int32.ofNat (10 * o) := i3_mul 10 o
theorem ka1 (a : Nat) : Int32.ofNat a + 1 = Int32.ofNat (a + 1) := i3_add a 1
theorem ka2 (a : Nat) : Int32.ofNat a + 2 = Int32.ofNat (a + 2) := i3_add a 2
theorem ka3 (a : Nat) : Int32.ofNat a + 3 = Int32.ofNat (a + 3) := i3_add a 3
theorem ka4 (a : Nat) : Int32.ofNat a + 4 = Int32.ofNat (a + 4) := i3_add a 4
theorem ka5 (a : Nat) : Int32.ofNat a + 5 = Int32.ofNat (a + 5) := i3_add a 5
theorem ka6 (a : Nat) : Int32.ofNat a + 6 = Int32.ofNat (a + 6) := i3_add a 6
theorem i3_n0 {a : Nat} (h : a < 2147483648) : (Int32.ofNat a = 0) = (a = 0) := by rw [show (0 : Int32) = Int32.ofNat 0 from rfl, i3_eq h (by decide)]
theorem pm_neg {a : Nat} (h : a < 2147483648) : (pm a < 0) = (a = 0) := propext (pm_lt h)
theorem pm_le0 {a : Nat} (h : a < 2147483648) : ((0 : Int32) ≤ pm a) = (a ≠ 0) := by
  refine propext ⟨fun q q0 => ?_, fun q => ?_⟩
  · rw [q0, pm_zero] at q
    exact absurd q (by decide)
  · obtain ⟨b, rfl⟩ : ∃ b, a = b + 1 := ⟨a - 1, by omega⟩
    rw [pm_succ]
    exact le_y (a := 0) (Nat.zero_le _) (by omega)
theorem pm_at {a : Nat} (h : a ≠ 0) : pm a = Int32.ofNat (a - 1) := by
  obtain ⟨b, rfl⟩ : ∃ b, a = b + 1 := ⟨a - 1, by omega⟩
  rw [pm_succ, Nat.add_sub_cancel]
/-! small methods -/
theorem l_at {x : Nat} {n : Nat} (hx : x < 2147483648) (hn : n < 2147483648) (h0 : 0 < n) : d_Lw_at (Int32.ofNat x) (Int32.ofNat n) μ = rI (Int32.ofNat (x / 2 % n)) μ := by
  have e1 : ((Int32.ofNat x).toUInt32 >>> ((1 : Int32).toUInt32 &&& Int32.toUInt32 31)).toInt32 = Int32.ofNat (x / 2) := by
    apply Int32.toBitVec_inj.mp
    apply BitVec.eq_of_toNat_eq
    rw [pk_ushr (Int32.ofNat x) 1 1 (by decide)]
    have e0 : (Int32.ofNat x).toBitVec.toNat = x := by
      show (BitVec.ofNat 32 x).toNat = x
      rw [BitVec.toNat_ofNat]
      exact Nat.mod_eq_of_lt (by omega)
    have e3 : (Int32.ofNat (x / 2)).toBitVec.toNat = x / 2 := by
      show (BitVec.ofNat 32 (x / 2)).toNat = x / 2
      rw [BitVec.toNat_ofNat]
      exact Nat.mod_eq_of_lt (by omega)
    rw [e0, e3]
  rw [e_Lw_at, e1, chk_t (show ¬ Int32.ofNat n = 0 from fun q => by rw [i3_n0 hn] at q; omega), i3_rem (by omega) hn]
theorem l_crew {o : Nat} (h : LTr kt z μ) (hb : Bd z) (ho : o < 3) : d_Lw_crew (Int32.ofNat o) μ = rI (Int32.ofNat (crew z o)) μ := by
  have h2 := h.1.2.2
  rw [e_Lw_crew]
  refine (loopS (fun i a (_ : Unit) => Lw_crew_5 (Int32.ofNat o) a i μ) (z 2) (fun p => if z (91 + 4 * p) = o + 1 then 1 else 0) () (fun i hi a => ?_)).trans ?_
  · show Lw_crew_5 _ _ _ _ = Lw_crew_5 _ _ _ _
    have hc := hb.big (91 + 4 * i) (by omega)
    rw [Lw_crew_5_eq, a_n2 h, if_neg (le_n hi (by omega)), k4, chk_t (i3_inb (by omega) (by decide)), i3_nat (by omega), a_w h hi, i3_add1, i3_add0, i3_add1]
    by_cases q : z (91 + 4 * i) = o + 1
    · rw [if_neg (fun r => r ((pm_eq (by omega) (by omega)).mpr q)), if_pos q]
    · rw [if_pos (fun r => q ((pm_eq (by omega) (by omega)).mp r)), if_neg q]
      rfl
  · show Lw_crew_5 _ _ _ _ = _
    rw [Lw_crew_5_eq, a_n2 h, if_pos (le_y (Nat.le_refl _) (by omega))]
    rfl
theorem l_abs {a b : Nat} (ha : a < 1000000) (hb : b < 1000000) : d_Lw_abs (Int32.ofNat a - Int32.ofNat b) μ = rI (Int32.ofNat ((a - b) + (b - a))) μ := by
  rw [e_Lw_abs]
  by_cases h : b ≤ a
  · rw [i3_sub h, if_pos (show (0 : Int32) ≤ _ from le_y (a := 0) (Nat.zero_le _) (by omega)), show (a - b) + (b - a) = a - b by omega]
  · rw [i3_subn (by omega), if_neg (i3_neg_lt (by omega) (by omega)), Int32.neg_neg, show (a - b) + (b - a) = b - a by omega]
theorem l_near {c d : Nat} (h : LTr kt z μ) (hb : Bd z) (hc : c < 6) (hd : d < 6) : d_Lw_near (Int32.ofNat c) (Int32.ofNat d) μ = rI (if near z c d then 1 else 0) μ := by
  have h2 := (hb.cor c (by omega)).1
  have h3 := (hb.cor d (by omega)).1
  have h4 := hb.s0
  have e0 : mI μ 17 0 = Int32.ofNat (z 11) := a_s h (by decide)
  rw [e_Lw_near, k4, k4, chk_t (i3_inb (by omega) (by decide)), chk_t (i3_inb (by omega) (by decide)), i3_nat (by omega), i3_nat (by omega), a_c0 h hc, a_c0 h hd, l_abs (by omega) (by omega), bI_r, e0]
  by_cases q : near z c d
  · have q' : (z (16 + 4 * c) - z (16 + 4 * d)) + (z (16 + 4 * d) - z (16 + 4 * c)) ≤ z 11 := q
    rw [if_neg (lt_n q' (by omega)), if_pos q]
  · have q' : ¬ (z (16 + 4 * c) - z (16 + 4 * d)) + (z (16 + 4 * d) - z (16 + 4 * c)) ≤ z 11 := q
    rw [if_pos (lt_y (by omega) (by omega)), if_neg q]
theorem l_quiet {c : Nat} (h : LTr kt z μ) (hb : Bd z) (hc : c < 6) : d_Lw_quiet (Int32.ofNat c) μ = rI (if isQ z c then 1 else 0) μ := by
  have h1 := hb.hr
  obtain ⟨-, -, h2, h3⟩ := hb.cor c (by omega)
  have eq3 : mI μ 12 (4 * c + 3) = Int32.ofNat (z (16 + 4 * c + 3)) := a_c h hc (by decide)
  have eq2 : mI μ 12 (4 * c + 2) = Int32.ofNat (z (16 + 4 * c + 2)) := a_c h hc (by decide)
  have key : ∀ k i, i + k = z (16 + 4 * c + 3) → (∀ j, j < i → (z (16 + 4 * c + 2) + j) % 10 ≠ z 4) → Lw_quiet_2 (Int32.ofNat c) (Int32.ofNat i) μ = rI (if isQ z c then 1 else 0) μ := by
    intro k
    induction k with
    | zero =>
      intro i hi hj
      have hn : ¬ isQ z c := fun q => by
        have q' : (z 4 + 10 - z (16 + 4 * c + 2)) % 10 < z (16 + 4 * c + 3) := q
        have := hj ((z 4 + 10 - z (16 + 4 * c + 2)) % 10) (by omega)
        omega
      rw [Lw_quiet_2_eq, k4, ka3, chk_t (i3_inb (by omega) (by decide)), i3_nat (by omega), eq3, if_pos (le_y (by omega) (by omega)), if_neg hn]
    | succ k ih =>
      intro i hi hj
      have er : (Int32.ofNat (z (16 + 4 * c + 2) + i)) - (Int32.ofNat (z (16 + 4 * c + 2) + i)) / 10 * 10 = Int32.ofNat ((z (16 + 4 * c + 2) + i) % 10) := i3_rem (b := 10) (by omega) (by decide)
      rw [Lw_quiet_2_eq, k4, ka3, chk_t (i3_inb (by omega) (by decide)), i3_nat (by omega), eq3, if_neg (le_n (by omega) (by omega)), ka2, chk_t (i3_inb (by omega) (by decide)), i3_nat (by omega), eq2, i3_add, er, a_n4 h]
      by_cases q : (z (16 + 4 * c + 2) + i) % 10 = z 4
      · have hy : isQ z c := by
          show (z 4 + 10 - z (16 + 4 * c + 2)) % 10 < z (16 + 4 * c + 3)
          omega
        rw [if_neg (fun r => r (by rw [q])), if_pos hy]
      · rw [if_pos (fun r => q (by rw [i3_eq (by omega) (by omega)] at r; exact r)), i3_add1, ih (i + 1) (by omega) (fun j hj2 => by
          by_cases e : j = i
          · rw [e]; exact q
          · exact hj j (by omega))]
  rw [e_Lw_quiet]
  exact key (z (16 + 4 * c + 3)) 0 (by omega) (fun j hj => absurd hj (Nat.not_lt_zero _))
theorem l_holder {c : Nat} (h : LTr kt z μ) (hb : Bd z) (hc : c < 10) : d_Lw_holder (Int32.ofNat c) μ = rI (pm (whoP z c (z 1))) μ := by
  have h1 := h.1.2.1
  have key : ∀ k i, i + k = z 1 → whoP z c i = 0 → Lw_holder_2 (Int32.ofNat c) (Int32.ofNat i) μ = rI (pm (whoP z c (z 1))) μ := by
    intro k
    induction k with
    | zero =>
      intro i hi h0
      have : i = z 1 := by omega
      subst this
      rw [Lw_holder_2_eq, a_n1 h, if_pos (le_y (Nat.le_refl _) (by omega)), h0, pm_zero]
    | succ k ih =>
      intro i hi h0
      have hbg := hb.big (56 + 7 * i + 3) (by omega)
      rw [Lw_holder_2_eq, a_n1 h, if_neg (le_n (by omega) (by omega)), k7, ka3, chk_t (i3_inb (by omega) (by decide)), i3_nat (by omega), a_at h (by omega), i3_add1]
      have e : pm (z (56 + 7 * i + 3)) = Int32.ofNat c ↔ z (56 + 7 * i + 3) = c + 1 := pm_eq (by omega) (by omega)
      have hs : whoP z c (i + 1) = if z (56 + 7 * i + 3) = c + 1 then i + 1 else 0 := by
        show (if whoP z c i ≠ 0 then whoP z c i else _) = _
        rw [if_neg (fun q => q h0)]
      by_cases q : z (56 + 7 * i + 3) = c + 1
      · rw [if_neg (fun r => r (e.mpr q))]
        rw [if_pos q] at hs
        have hst : ∀ m, whoP z c (i + 1 + m) = i + 1 := by
          intro m
          induction m with
          | zero => exact hs
          | succ m im =>
            show (if whoP z c (i + 1 + m) ≠ 0 then whoP z c (i + 1 + m) else _) = _
            rw [im, if_pos (by omega)]
        have e : z 1 = i + 1 + (z 1 - (i + 1)) := by omega
        rw [e, hst, pm_succ]
      · rw [if_pos (fun r => q (e.mp r))]
        rw [if_neg q] at hs
        exact ih (i + 1) (by omega) hs
  rw [e_Lw_holder]
  exact key (z 1) 0 (by omega) rfl
theorem l_today (h : LTr 16 z μ) (hb : Bd z) : d_Lw_today μ = rI (Int32.ofNat (sum 30 (fun k => if z (163 + k) = 0 then 0 else 1))) μ := by
  rw [e_Lw_today]
  refine (loopS (fun i a (_ : Unit) => Lw_today_4 a i μ) 30 (fun k => if z (163 + k) = 0 then 0 else 1) () (fun i hi a => ?_)).trans ?_
  · show Lw_today_4 _ _ _ = Lw_today_4 _ _ _
    have hc := hb.big (163 + i) (by omega)
    have e : (0 : Int32) ≤ pm (z (163 + i)) ↔ z (163 + i) ≠ 0 := by rw [pm_le0 (by omega)]
    rw [Lw_today_4_eq, if_neg (show ¬ (30 : Int32) ≤ Int32.ofNat i from le_n (a := 30) hi (by decide)), chk_t (i3_inb hi (by decide)), i3_nat (by omega), h.2.2.2.2.2.1 i hi, i3_add1, i3_add0, i3_add1]
    by_cases q : z (163 + i) = 0
    · rw [if_neg (fun r => e.mp r q), if_pos q]
      rfl
    · rw [if_pos (e.mpr q), if_neg q]
  · show Lw_today_4 _ _ _ = _
    rw [Lw_today_4_eq, if_pos (by decide)]
end LREL
