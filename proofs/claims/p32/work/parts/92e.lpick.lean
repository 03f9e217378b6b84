/-! THE LAW LOOKS AHEAD: picks, numbers alone -/
section LPICK
variable {z y P Q : Nat → Nat}
/-- the state with the picks of the organs before d played -/
def yP (z P : Nat → Nat) (d : Nat) : Nat → Nat := fun j => if 163 ≤ j ∧ j < 163 + 10 * d ∧ (j - 163) % 10 = z 4 ∧ P ((j - 163) / 10) ≠ 0 then P ((j - 163) / 10) else z j
theorem yP_lo {d j : Nat} (h : j < 163) : yP z P d j = z j := if_neg (by omega)
theorem yP_0 : yP z P 0 = z := funext fun j => if_neg (by omega)
theorem yP_s {d : Nat} (h4 : z 4 ≤ 9) : yP z P (d + 1) = if P d = 0 then yP z P d else tryZ (yP z P d) d (P d - 1) := by
  by_cases q : P d = 0
  · rw [if_pos q]
    funext j
    unfold yP
    by_cases c : 163 ≤ j ∧ j < 163 + 10 * d ∧ (j - 163) % 10 = z 4 ∧ P ((j - 163) / 10) ≠ 0
    · rw [if_pos c, if_pos ⟨c.1, by omega, c.2.2⟩]
    · rw [if_neg c, if_neg (fun r => c ⟨r.1, by
        have : (j - 163) / 10 ≠ d := fun w => r.2.2.2 (by rw [w, q])
        omega, r.2.2⟩)]
  · rw [if_neg q]
    funext j
    have e4 : yP z P d 4 = z 4 := yP_lo (by decide)
    by_cases c0 : j = 163 + 10 * d + z 4
    · have e1 : tryZ (yP z P d) d (P d - 1) j = P d - 1 + 1 := by
        rw [c0, ← e4]
        exact setN_self
      have e2 : (j - 163) / 10 = d := by omega
      rw [e1]
      unfold yP
      rw [e2, if_pos ⟨by omega, by omega, by omega, q⟩]
      omega
    · rw [tryZ_ne (by rw [e4]; exact c0)]
      unfold yP
      by_cases c : 163 ≤ j ∧ j < 163 + 10 * d ∧ (j - 163) % 10 = z 4 ∧ P ((j - 163) / 10) ≠ 0
      · rw [if_pos c, if_pos ⟨c.1, by omega, c.2.2⟩]
      · rw [if_neg c, if_neg (fun r => c ⟨r.1, by omega, r.2.2⟩)]
theorem yP_hi {d e : Nat} (h4 : z 4 ≤ 9) (he : d ≤ e) (i : Nat) (hi : i < 10) : yP z P d (163 + 10 * e + i) = z (163 + 10 * e + i) := if_neg (by omega)
/-- picks that are good -/
def GD (z P : Nat → Nat) (d : Nat) : Prop := ∀ e, e < d → P e = 0 ∨ (e < z 1 ∧ P e ≤ 10 ∧ 1 ≤ P e ∧ cpk z e (P e) P)
theorem GD.lt {d d' : Nat} (h : GD z P d) (hd : d' ≤ d) : GD z P d' := fun e he => h e (by omega)
theorem nearO_sym {o e : Nat} : nearO z o e ↔ nearO z e o := ⟨fun q => ⟨q.2.1, q.1, near_sym.mp q.2.2⟩, fun q => ⟨q.2.1, q.1, near_sym.mp q.2.2⟩⟩
theorem oth_try {i t e : Nat} (hb : Bd z) (hi : i < z 1) (hne : i ≠ e) (he : e < 5) (h0 : z (163 + 10 * i + z 4) = 0) : othN (tryZ z i t) e = othN z e + if near z (z (56 + 7 * e + 3) - 1) (z (56 + 7 * i + 3) - 1) then 1 else 0 := by
  have hn := hb.no
  have hc := hb.nc
  have h4 := hb.hr
  have e1 : tryZ z i t 1 = z 1 := tryZ_ne (by omega)
  have e4 : tryZ z i t 4 = z 4 := tryZ_ne (by omega)
  have ev : tryZ z i t (163 + 10 * i + z 4) = t + 1 := setN_self
  have hat : ∀ o, o < 5 → tryZ z i t (56 + 7 * o + 3) = z (56 + 7 * o + 3) := fun o ho => tryZ_ne (by omega)
  have hnear : ∀ o, o < 5 → (near (tryZ z i t) (z (56 + 7 * e + 3) - 1) (z (56 + 7 * o + 3) - 1) ↔ near z (z (56 + 7 * e + 3) - 1) (z (56 + 7 * o + 3) - 1)) := fun o ho => by
    have a1 := (hb.org e he).2.2.2
    have a2 := (hb.org o ho).2.2.2
    exact try_near (by omega) (by omega)
  have hs := sum_one (f := fun o => if o ≠ e ∧ z (163 + 10 * o + z 4) ≠ 0 ∧ near z (z (56 + 7 * e + 3) - 1) (z (56 + 7 * o + 3) - 1) then 1 else 0) (f' := fun o => if o ≠ e ∧ tryZ z i t (163 + 10 * o + z 4) ≠ 0 ∧ near (tryZ z i t) (z (56 + 7 * e + 3) - 1) (z (56 + 7 * o + 3) - 1) then 1 else 0) (m := i) (z 1) hi (fun o ho hoi => by
    have e2 : tryZ z i t (163 + 10 * o + z 4) = z (163 + 10 * o + z 4) := tryZ_ne (by omega)
    show (if _ then 1 else 0) = (if _ then 1 else 0)
    rw [e2]
    by_cases c : o ≠ e ∧ z (163 + 10 * o + z 4) ≠ 0 ∧ near z (z (56 + 7 * e + 3) - 1) (z (56 + 7 * o + 3) - 1)
    · rw [if_pos c, if_pos ⟨c.1, c.2.1, (hnear o (by omega)).mpr c.2.2⟩]
    · rw [if_neg c, if_neg (fun r => c ⟨r.1, r.2.1, (hnear o (by omega)).mp r.2.2⟩)])
  have el : othN (tryZ z i t) e = sum (z 1) (fun o => if o ≠ e ∧ tryZ z i t (163 + 10 * o + z 4) ≠ 0 ∧ near (tryZ z i t) (z (56 + 7 * e + 3) - 1) (z (56 + 7 * o + 3) - 1) then 1 else 0) := by
    unfold othN
    rw [e1, e4]
    exact sum_congr _ (fun o ho => by rw [hat e he, hat o (by omega)])
  have hs2 : othN (tryZ z i t) e + (if i ≠ e ∧ z (163 + 10 * i + z 4) ≠ 0 ∧ near z (z (56 + 7 * e + 3) - 1) (z (56 + 7 * i + 3) - 1) then 1 else 0) = othN z e + (if i ≠ e ∧ tryZ z i t (163 + 10 * i + z 4) ≠ 0 ∧ near (tryZ z i t) (z (56 + 7 * e + 3) - 1) (z (56 + 7 * i + 3) - 1) then 1 else 0) := by
    rw [el]; exact hs
  rw [if_neg (fun r => r.2.1 h0), Nat.add_zero] at hs2
  rw [hs2]
  by_cases c : near z (z (56 + 7 * e + 3) - 1) (z (56 + 7 * i + 3) - 1)
  · rw [if_pos c, if_pos ⟨hne, by rw [ev]; exact Nat.succ_ne_zero t, (hnear i (by omega)).mpr c⟩]
  · rw [if_neg c, if_neg (fun r => c ((hnear i (by omega)).mp r.2.2))]
def ahE (z P : Nat → Nat) (d e : Nat) : Nat := sum d (fun i => if P i ≠ 0 ∧ near z (z (56 + 7 * e + 3) - 1) (z (56 + 7 * i + 3) - 1) then 1 else 0)
theorem yP_all (hb : Bd z) (hpl : Pl z) : ∀ d, d ≤ 3 → GD z P d → Bd (yP z P d) ∧ Pl (yP z P d) ∧ ∀ e, d ≤ e → e < z 1 → (∀ b, b < 10 → (reas (yP z P d) e b = 0 ↔ reas z e b = 0 ∧ ∀ i, i < d → P i = b + 1 → ¬ nearO z i e)) ∧ othN (yP z P d) e = othN z e + ahE z P d e := by
  have h4 := hb.hr
  have hn := hb.no
  have hc := hb.nc
  intro d
  induction d with
  | zero =>
    intro _ _
    rw [yP_0]
    exact ⟨hb, hpl, fun e _ _ => ⟨fun b _ => ⟨fun q => ⟨q, fun i hi => absurd hi (Nat.not_lt_zero _)⟩, fun q => q.1⟩, rfl⟩⟩
  | succ d ih =>
    intro hd hG
    obtain ⟨b1, b2, b3⟩ := ih (by omega) (hG.lt (by omega))
    rw [yP_s h4]
    by_cases q : P d = 0
    · rw [if_pos q]
      refine ⟨b1, b2, fun e he1 he2 => ⟨fun b hb10 => ?_, ?_⟩⟩
      · rw [(b3 e (by omega) he2).1 b hb10]
        refine ⟨fun r => ⟨r.1, fun i hi w => ?_⟩, fun r => ⟨r.1, fun i hi w => r.2 i (by omega) w⟩⟩
        by_cases hid : i = d
        · rw [hid, q] at w
          exact absurd w (Nat.succ_ne_zero b).symm
        · exact r.2 i (by omega) w
      · rw [(b3 e (by omega) he2).2]
        have : ahE z P (d + 1) e = ahE z P d e := congrArg (_ + ·) (if_neg (fun r => r.1 q))
        rw [this]
    · rw [if_neg q]
      have hg := hG d (Nat.lt_succ_self d)
      rcases hg with hg | ⟨g1, g2, g3, g4⟩
      · exact absurd hg q
      obtain ⟨c1, c2⟩ := can_o g4.1
      have y1 : yP z P d 1 = z 1 := yP_lo (by decide)
      have y4 : yP z P d 4 = z 4 := yP_lo (by decide)
      have yat : ∀ o, o < 5 → yP z P d (56 + 7 * o + 3) = z (56 + 7 * o + 3) := fun o ho => yP_lo (by omega)
      have ycell : yP z P d (163 + 10 * d + yP z P d 4) = 0 := by rw [y4, yP_hi h4 (Nat.le_refl _) _ (by omega)]; exact c2
      have ynear : ∀ a b, a < 10 → b < 10 → (near (yP z P d) a b ↔ near z a b) := fun a b ha hb' => by
        show (yP z P d (16 + 4 * a) - yP z P d (16 + 4 * b)) + (yP z P d (16 + 4 * b) - yP z P d (16 + 4 * a)) ≤ yP z P d 11 ↔ _
        rw [yP_lo (by omega), yP_lo (by omega), yP_lo (by omega)]
      have ynearO : ∀ o e, o < 5 → e < 5 → (nearO (yP z P d) o e ↔ nearO z o e) := fun o e ho he => by
        unfold nearO
        have a1 := (hb.org o ho).2.2.2
        have a2 := (hb.org e he).2.2.2
        rw [yat o ho, yat e he, ynear _ _ (by omega) (by omega)]
      refine ⟨try_bd b1 (by omega) (by omega), fun o ho i hi w => ?_, fun e he1 he2 => ⟨fun b hb10 => ?_, ?_⟩⟩
      · rw [tryZ_ne (by omega)]
        by_cases c : 163 + 10 * o + i = 163 + 10 * d + yP z P d 4
        · have : o = d := by omega
          rw [this, yat d (by omega)]
          exact c1
        · rw [tryZ_ne c] at w
          exact b2 o ho i hi w
      · rw [try_reas b1 (by rw [y1]; exact g1) (by rw [yat d (by omega)]; exact c1) ycell (by omega) (by omega) (by omega) hb10, (b3 e (by omega) he2).1 b hb10, ynearO d e (by omega) (by omega)]
        refine ⟨fun r => ⟨r.1.1, fun i hi w => ?_⟩, fun r => ⟨⟨r.1, fun i hi w => r.2 i (by omega) w⟩, fun w => r.2 d (by omega) (by omega) w.2⟩⟩
        by_cases hid : i = d
        · rw [hid]
          rw [hid] at w
          exact fun ww => r.2 ⟨by omega, ww⟩
        · exact r.1.2 i (by omega) w
      · rw [oth_try b1 (by rw [y1]; exact g1) (by omega) (by omega) ycell, (b3 e (by omega) he2).2, yat e (by omega), yat d (by omega), Nat.add_assoc]
        have a1 := (hb.org e (by omega)).2.2.2
        have a2 := (hb.org d (by omega)).2.2.2
        have en := ynear (z (56 + 7 * e + 3) - 1) (z (56 + 7 * d + 3) - 1) (by omega) (by omega)
        have : ahE z P (d + 1) e = ahE z P d e + if P d ≠ 0 ∧ near z (z (56 + 7 * e + 3) - 1) (z (56 + 7 * d + 3) - 1) then 1 else 0 := rfl
        rw [this]
        by_cases c : near z (z (56 + 7 * e + 3) - 1) (z (56 + 7 * d + 3) - 1)
        · rw [if_pos (en.mpr c), if_pos ⟨q, c⟩]
        · rw [if_neg (fun r => c (en.mp r)), if_neg (fun r => c r.2)]
theorem yP_can {d b : Nat} (hb : Bd z) (hpl : Pl z) (hd : d < 3) (hd1 : d < z 1) (hb10 : b < 10) (hG : GD z P d) : reas (yP z P d) d b = 0 ↔ cpk z d (b + 1) P := by
  rw [((yP_all hb hpl d (by omega) hG).2.2 d (Nat.le_refl _) hd1).1 b hb10]
  unfold cpk
  rw [Nat.add_sub_cancel, tunS_bit]
  exact ⟨fun r => ⟨⟨hb10, r.1⟩, fun e he w q => r.2 e he w (nearO_sym.mp q)⟩, fun r => ⟨r.1.2, fun e he w q => r.2 e he w (nearO_sym.mp q)⟩⟩
theorem yP_tak {d : Nat} (hb : Bd z) (hpl : Pl z) (hd : d < 3) (hd1 : d < z 1) (hG : GD z P d) : takN (yP z P d) d (othN (yP z P d) d) = ptk z d P := by
  have hc := hb.nc
  have a1 := (hb.org d (by omega)).2.2.2
  rw [((yP_all hb hpl d (by omega) hG).2.2 d (Nat.le_refl _) hd1).2]
  unfold takN ptk ahd ahE
  rw [yP_lo (show 56 + 7 * d + 3 < 163 by omega), yP_lo (show 5 < 163 by omega), yP_lo (by omega)]
  rfl
theorem msk_tail {n : Nat} : ∀ k, (∀ e, n ≤ e → e < n + k → P e = 0) → msk P (n + k) = msk P n := by
  intro k
  induction k with
  | zero => intro _; rfl
  | succ k ih =>
    intro h
    show msk P (n + k) ||| (if P (n + k) = 0 then 0 else 1 <<< (n + k)) = msk P n
    rw [ih (fun e h1 h2 => h e h1 (by omega)), if_pos (h (n + k) (by omega) (by omega)), Nat.or_zero]
theorem GD_hi {e : Nat} (h : GD z P 3) (h1 : z 1 ≤ e) (h2 : e < 3) : P e = 0 := by
  rcases h e h2 with q | q
  · exact q
  · omega
theorem GD_set (hn : z 1 ≤ 3) (h : GD z P 3) : msk P 3 < 2 ^ z 1 ∧ feas z (msk P 3) ∧ tl z P 0 3 = tkS z (msk P 3) := by
  have e1 : msk P 3 = msk P (z 1) := by
    have := msk_tail (P := P) (n := z 1) (3 - z 1) (fun e h1 h2 => GD_hi h h1 (by omega))
    rw [show z 1 + (3 - z 1) = 3 by omega] at this
    exact this
  have e2 : tl z P 0 3 = tl z P 0 (z 1) := by
    have := sum_tail (f := fun i => tkq z P (0 + i)) (n := z 1) (3 - z 1) (fun e h1 h2 => if_pos (by rw [Nat.zero_add]; exact GD_hi h h1 (by omega)))
    rw [show z 1 + (3 - z 1) = 3 by omega] at this
    exact this
  have hS : ∀ e, e < z 1 → ((msk P (z 1)).testBit e = true ↔ P e ≠ 0) := fun e he => (msk_bit (z 1) (by omega) (by omega)).trans ⟨fun r => r.2, fun r => ⟨he, r⟩⟩
  have hg : ∀ e, e < z 1 → good z P e := fun e he => by
    rcases h e (by omega) with q | q
    · exact Or.inl q
    · exact Or.inr q.2
  rw [e1, e2]
  exact ⟨msk_lt _ (by omega), ⟨P, hg, hS⟩, tl_tkS (by omega) hg hS⟩
/-! picks as one number -/
def rc (i : Nat) : Nat → Nat
  | 0 => i
  | e + 1 => rc i e / 11
def dg (i e : Nat) : Nat := rc i e % 11
theorem rc_le {i : Nat} : ∀ e, rc i e ≤ i := by
  intro e
  induction e with
  | zero => exact Nat.le_refl _
  | succ e ih => exact Nat.le_trans (Nat.div_le_self _ _) ih
theorem dg_all (hn : z 1 ≤ 3) {S : Nat} (hS : S < 2 ^ z 1) (hf : feas z S) : ∃ i, i < 1331 ∧ GD z (dg i) 3 ∧ msk (dg i) 3 = S ∧ tl z (dg i) 0 3 = tkS z S := by
  obtain ⟨Q, g1, g2⟩ := hf
  obtain ⟨q, hq, hq10⟩ : ∃ q : Nat → Nat, (∀ e, (e < z 1 → q e = Q e) ∧ (z 1 ≤ e → q e = 0)) ∧ ∀ e, q e ≤ 10 := by
    refine ⟨fun e => if e < z 1 then Q e else 0, fun e => ⟨fun h => if_pos h, fun h => if_neg (by omega)⟩, fun e => ?_⟩
    show (if e < z 1 then Q e else 0) ≤ 10
    by_cases h : e < z 1
    · rw [if_pos h]
      rcases g1 e h with w | w
      · omega
      · exact w.1
    · rw [if_neg h]; omega
  have b0 := hq10 0
  have b1 := hq10 1
  have b2 := hq10 2
  have hdg : ∀ e, e < 3 → dg (q 0 + 11 * q 1 + 121 * q 2) e = q e := fun e he => by
    rcases (show e = 0 ∨ e = 1 ∨ e = 2 by omega) with rfl | rfl | rfl
    · show (q 0 + 11 * q 1 + 121 * q 2) % 11 = q 0
      omega
    · show (q 0 + 11 * q 1 + 121 * q 2) / 11 % 11 = q 1
      omega
    · show (q 0 + 11 * q 1 + 121 * q 2) / 11 / 11 % 11 = q 2
      omega
  have hdq : ∀ e, e < z 1 → dg (q 0 + 11 * q 1 + 121 * q 2) e = Q e := fun e he => by rw [hdg e (by omega), (hq e).1 he]
  generalize hi : q 0 + 11 * q 1 + 121 * q 2 = i at hdg hdq
  have hG : GD z (dg i) 3 := fun e he => by
    by_cases h1 : e < z 1
    · rw [hdq e h1]
      rcases g1 e h1 with w | w
      · exact Or.inl w
      · exact Or.inr ⟨h1, w.1, w.2.1, (cpk_ext (fun e' he' => hdq e' (by omega))).mpr w.2.2⟩
    · rw [hdg e he]
      exact Or.inl ((hq e).2 (by omega))
  obtain ⟨s1, s2, s3⟩ := GD_set hn hG
  have e1 : msk (dg i) 3 = msk (dg i) (z 1) := by
    have := msk_tail (P := dg i) (n := z 1) (3 - z 1) (fun e h1 h2 => GD_hi hG h1 (by omega))
    rw [show z 1 + (3 - z 1) = 3 by omega] at this
    exact this
  have eS : msk (dg i) 3 = S := by
    rw [e1]
    refine Nat.eq_of_testBit_eq fun j => ?_
    rw [Bool.eq_iff_iff]
    by_cases hj : j < z 1
    · rw [msk_bit (z 1) (by omega) (by omega), g2 j hj, hdq j hj]
      exact ⟨fun r => r.2, fun r => ⟨hj, r⟩⟩
    · have e1 := Nat.testBit_lt_two_pow (Nat.lt_of_lt_of_le (msk_lt (Q := dg i) (z 1) (by omega)) (Nat.pow_le_pow_right (show 0 < 2 by decide) (show z 1 ≤ j by omega)))
      have e2 := Nat.testBit_lt_two_pow (Nat.lt_of_lt_of_le hS (Nat.pow_le_pow_right (show 0 < 2 by decide) (show z 1 ≤ j by omega)))
      rw [e1, e2]
  exact ⟨i, by omega, hG, eS, by rw [s3, eS]⟩
theorem tl_le {d : Nat} (hb : Bd z) (hn : z 1 ≤ 3) (hd : d ≤ 3) (hG : GD z P d) : tl z P 0 d ≤ 90 * d := by
  refine sum_le d (fun i hi => ?_)
  rw [Nat.zero_add]
  unfold tkq
  by_cases q : P i = 0
  · rw [if_pos q]; omega
  · rw [if_neg q]
    have h1 : ∀ c, c < 10 → z (16 + 4 * c + 1) ≤ 90 := fun c hc => (hb.cor c hc).2.1
    have a1 := (hb.org i (by omega)).2.2.2
    have hc := hb.nc
    have hw := h1 (z (56 + 7 * i + 3) - 1) (by omega)
    unfold ptk takN
    have hm : z (16 + 4 * (z (56 + 7 * i + 3) - 1) + 1) * (10 - 2 * (othN z i + ahd z P i)) ≤ 90 * 10 := Nat.mul_le_mul hw (by omega)
    show (if z 5 = 1 then z (16 + 4 * (z (56 + 7 * i + 3) - 1) + 1) * (10 - 2 * (othN z i + ahd z P i)) / 10 / 2 else z (16 + 4 * (z (56 + 7 * i + 3) - 1) + 1) * (10 - 2 * (othN z i + ahd z P i)) / 10) ≤ 90
    split <;> omega
end LPICK
