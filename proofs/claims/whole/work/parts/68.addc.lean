/-! SEMANTICS: addCorner, addOrgan -/
section ADDC
variable {z : Nat → Nat} {μ : PM}
/-- a number in a range, or not -/
theorem rng (x : Int32) {a n : Nat} (ha : a ≤ n) (hn : n < 2147483647) : (∃ i, a ≤ i ∧ i ≤ n ∧ x = Int32.ofNat i) ∨ (x < Int32.ofNat a ∨ (¬ x < Int32.ofNat a ∧ Int32.ofNat n < x)) := by
  by_cases h0 : x < Int32.ofNat a
  · exact Or.inr (Or.inl h0)
  · have h1 : Int32.ofNat a ≤ x := Int32.not_lt.mp h0
    have h2 : (0 : Int32) ≤ x := Int32.le_trans (show (0 : Int32) ≤ Int32.ofNat a from le_y (a := 0) (Nat.zero_le _) (by omega)) h1
    obtain ⟨h3, h4⟩ := i3_toNat h2
    by_cases h5 : x.toNatClampNeg ≤ n
    · refine Or.inl ⟨_, ?_, h5, h3⟩
      rw [h3, i3_le (by omega) h4] at h1
      exact h1
    · refine Or.inr (Or.inr ⟨h0, ?_⟩)
      rw [h3]
      exact lt_y (by omega) h4
theorem reqR_o {x a n : Int32} (h : x < a ∨ (¬ x < a ∧ n < x)) : d_Oc_requireInRange x a n μ = some (.inr 1, exM μ) := by
  rw [e_Oc_requireInRange]
  rcases h with h | ⟨h1, h2⟩
  · rw [if_pos h]
  · rw [if_neg h1, if_neg (Int32.not_le.mpr h2)]
theorem with_o {x a n : Int32} (h : x < a ∨ (¬ x < a ∧ n < x)) : d_Md_within x a n μ = rI 0 μ := by
  rw [e_Md_within]
  rcases h with h | ⟨h1, h2⟩
  · rw [if_pos h]
  · rw [if_neg h1, if_pos h2]
/-- a place that is taken -/
def tak (z : Nat → Nat) (p m : Nat) : Prop := ∃ c, c < m ∧ z (16 + 4 * c) = p
theorem tak_s {p m : Nat} : tak z p (m + 1) ↔ tak z p m ∨ z (16 + 4 * m) = p := by
  constructor
  · rintro ⟨c, h1, h2⟩
    by_cases e : c = m
    · subst e; exact Or.inr h2
    · exact Or.inl ⟨c, by omega, h2⟩
  · rintro (⟨c, h1, h2⟩ | h)
    · exact ⟨c, by omega, h2⟩
    · exact ⟨m, by omega, h⟩
theorem t_hasCornerAt {p : Nat} (hr : RT 23 z μ) (hb : Bd z) (hp : p < 100) : ∃ v : Int32, d_Twn_hasCornerAt (Int32.ofNat p) μ = rI v μ ∧ ((v = 1 ∧ tak z p (z 0)) ∨ (v = 0 ∧ ¬ tak z p (z 0))) := by
  have hn := hb.nc
  rw [e_Twn_hasCornerAt]
  have key : ∀ k m, m + k = z 0 → ¬ tak z p m → ∃ v : Int32, Twn_hasCornerAt_2 (Int32.ofNat p) (Int32.ofNat m) μ = rI v μ ∧ ((v = 1 ∧ tak z p (z 0)) ∨ (v = 0 ∧ ¬ tak z p (z 0))) := by
    intro k
    induction k with
    | zero =>
      intro m hm hi
      have e : m = z 0 := by omega
      subst e
      exact ⟨0, by rw [Twn_hasCornerAt_2_eq, r_f4 hr, if_pos (le_y (by omega) (by omega))], Or.inr ⟨rfl, hi⟩⟩
    | succ k ih =>
      intro m hm hi
      have hc := (hb.cor m (by omega)).1
      have e0 : mI μ (28 + 2 * m) 0 = Int32.ofNat (z (16 + 4 * m)) := r_cor hr (by omega) (by decide)
      rw [Twn_hasCornerAt_2_eq, r_f4 hr, if_neg (le_n (by omega) (by omega)), chk_t (i3_inb (by omega) (by decide)), i3_nat (by omega), e0, i3_add1]
      by_cases h : z (16 + 4 * m) = p
      · rw [if_neg (fun q => q (by rw [h]))]
        exact ⟨1, rfl, Or.inl ⟨rfl, m, by omega, h⟩⟩
      · rw [if_pos (fun q => by rw [i3_eq (by omega) (by omega)] at q; exact h q)]
        exact ih (m + 1) (by omega) (fun q => (tak_s.mp q).elim hi h)
  exact key (z 0) 0 (by omega) (fun ⟨c, h, _⟩ => absurd h (Nat.not_lt_zero c))
theorem m_addCorner58 {p : Nat} {x2 x3 x4 : Int32} (hz : mI μ 13 = zI z) (hb : Bd z) (hp : p < 100) : ∃ v : Int32, Md_addCorner_58 (Int32.ofNat p) x2 x3 x4 0 0 μ = Md_addCorner_58 (Int32.ofNat p) x2 x3 x4 v (Int32.ofNat (z 0)) μ ∧ ((v = 1 ∧ tak z p (z 0)) ∨ (v = 0 ∧ ¬ tak z p (z 0))) := by
  have hn := hb.nc
  have key : ∀ m, m ≤ z 0 → ∃ v : Int32, Md_addCorner_58 (Int32.ofNat p) x2 x3 x4 0 0 μ = Md_addCorner_58 (Int32.ofNat p) x2 x3 x4 v (Int32.ofNat m) μ ∧ ((v = 1 ∧ tak z p m) ∨ (v = 0 ∧ ¬ tak z p m)) := by
    intro m
    induction m with
    | zero => intro _; exact ⟨0, rfl, Or.inr ⟨rfl, fun ⟨c, h, _⟩ => absurd h (Nat.not_lt_zero c)⟩⟩
    | succ m ih =>
      intro hm
      obtain ⟨v, h1, h2⟩ := ih (by omega)
      have hc := (hb.cor m (by omega)).1
      rw [h1, Md_addCorner_58_eq, m_h hz, if_neg (le_n (by omega) (by omega)), i3_add1]
      rcases h2 with ⟨rfl, h2⟩ | ⟨rfl, h2⟩
      · rw [if_pos (by decide)]
        exact ⟨1, rfl, Or.inl ⟨rfl, tak_s.mpr (Or.inl h2)⟩⟩
      · rw [if_neg (fun q => q rfl), m_corner0_0 hz (by omega), bI_r]
        by_cases h : z (16 + 4 * m) = p
        · rw [if_neg (fun q => q (by rw [h]))]
          exact ⟨1, rfl, Or.inl ⟨rfl, tak_s.mpr (Or.inr h)⟩⟩
        · rw [if_pos (fun q => by rw [i3_eq (by omega) (by omega)] at q; exact h q)]
          exact ⟨0, rfl, Or.inr ⟨rfl, fun q => (tak_s.mp q).elim h2 h⟩⟩
  exact key (z 0) (Nat.le_refl _)
/-- the state with one more corner -/
def zAddc (z : Nat → Nat) (p c f q : Nat) : Nat → Nat := setN (setN (setN (setN (setN z (16 + 4 * z 0) p) (16 + 4 * z 0 + 1) c) (16 + 4 * z 0 + 2) f) (16 + 4 * z 0 + 3) q) 0 (z 0 + 1)
theorem o_addCorner (x1 x2 x3 x4 : Int32) : Op (d_Lw_addCorner x1 x2 x3 x4) (d_Md_addCorner x1 x2 x3 x4) := by
  refine Op.ofMut (c := d_Oc_addCorner x1 x2 x3 x4) (code := fun k => if k = 1 then some 1 else if k = 2 then some 2 else none) (fun N μ z old sv zs _ hz hr hk hg => ?_) (fun μ => ⟨_, e_Lw_addCorner x1 x2 x3 x4 μ, fun _ _ _ h => code12 h⟩)
  have hb := hk.1
  have hn := hb.nc
  rcases rng x1 (a := 0) (n := 99) (by decide) (by decide) with ⟨p, p0, p1, rfl⟩ | h
  rotate_left
  · refine Or.inl ⟨1, 1, rfl, by decide, ?_, fun μ' g1 _ => ?_⟩
    · have er : d_Oc_requireInRange x1 0 99 μ = some (.inr 1, exM μ) := reqR_o h
      rw [e_Oc_addCorner, er]
      rfl
    · have ew : ∀ ν : PM, d_Md_within x1 0 99 ν = rI 0 ν := fun ν => with_o h
      rw [e_Md_addCorner, ew, bI_r, if_pos rfl, e_Md_fails]
      rfl
  have r1 : ∀ ν : PM, d_Oc_requireInRange (Int32.ofNat p) 0 99 ν = some (.inl none, ν) := fun ν => reqR_y (a := 0) (n := 99) p0 (by omega) (by decide)
  have w1 : ∀ ν : PM, d_Md_within (Int32.ofNat p) 0 99 ν = rI 1 ν := fun ν => with_y (a := 0) (n := 99) p0 (by omega) (by decide)
  rcases rng x2 (a := 1) (n := 90) (by decide) (by decide) with ⟨c, c0, c1, rfl⟩ | h
  rotate_left
  · refine Or.inl ⟨1, 1, rfl, by decide, ?_, fun μ' g1 _ => ?_⟩
    · have er : d_Oc_requireInRange x2 1 90 μ = some (.inr 1, exM μ) := reqR_o h
      rw [e_Oc_addCorner, r1, bV_r, er]
      rfl
    · have ew : ∀ ν : PM, d_Md_within x2 1 90 ν = rI 0 ν := fun ν => with_o h
      rw [e_Md_addCorner, w1, bI_r, if_neg (by decide), ew, bI_r, if_pos rfl, e_Md_fails]
      rfl
  have r2 : ∀ ν : PM, d_Oc_requireInRange (Int32.ofNat c) 1 90 ν = some (.inl none, ν) := fun ν => reqR_y (a := 1) (n := 90) c0 (by omega) (by decide)
  have w2 : ∀ ν : PM, d_Md_within (Int32.ofNat c) 1 90 ν = rI 1 ν := fun ν => with_y (a := 1) (n := 90) c0 (by omega) (by decide)
  rcases rng x3 (a := 0) (n := 9) (by decide) (by decide) with ⟨f, f0, f1, rfl⟩ | h
  rotate_left
  · refine Or.inl ⟨1, 1, rfl, by decide, ?_, fun μ' g1 _ => ?_⟩
    · have er : d_Oc_requireInRange x3 0 9 μ = some (.inr 1, exM μ) := reqR_o h
      rw [e_Oc_addCorner, r1, bV_r, r2, bV_r, er]
      rfl
    · have ew : ∀ ν : PM, d_Md_within x3 0 9 ν = rI 0 ν := fun ν => with_o h
      rw [e_Md_addCorner, w1, bI_r, if_neg (by decide), w2, bI_r, if_neg (by decide), ew, bI_r, if_pos rfl, e_Md_fails]
      rfl
  have r3 : ∀ ν : PM, d_Oc_requireInRange (Int32.ofNat f) 0 9 ν = some (.inl none, ν) := fun ν => reqR_y (a := 0) (n := 9) f0 (by omega) (by decide)
  have w3 : ∀ ν : PM, d_Md_within (Int32.ofNat f) 0 9 ν = rI 1 ν := fun ν => with_y (a := 0) (n := 9) f0 (by omega) (by decide)
  rcases rng x4 (a := 0) (n := 9) (by decide) (by decide) with ⟨q, q0, q1, rfl⟩ | h
  rotate_left
  · refine Or.inl ⟨1, 1, rfl, by decide, ?_, fun μ' g1 _ => ?_⟩
    · have er : d_Oc_requireInRange x4 0 9 μ = some (.inr 1, exM μ) := reqR_o h
      rw [e_Oc_addCorner, r1, bV_r, r2, bV_r, r3, bV_r, er]
      rfl
    · have ew : ∀ ν : PM, d_Md_within x4 0 9 ν = rI 0 ν := fun ν => with_o h
      rw [e_Md_addCorner, w1, bI_r, if_neg (by decide), w2, bI_r, if_neg (by decide), w3, bI_r, if_neg (by decide), ew, bI_r, if_neg (fun q => q rfl), e_Md_fails]
      rfl
  have r4 : ∀ ν : PM, d_Oc_requireInRange (Int32.ofNat q) 0 9 ν = some (.inl none, ν) := fun ν => reqR_y (a := 0) (n := 9) q0 (by omega) (by decide)
  have w4 : ∀ ν : PM, d_Md_within (Int32.ofNat q) 0 9 ν = rI 1 ν := fun ν => with_y (a := 0) (n := 9) q0 (by omega) (by decide)
  obtain ⟨v, hv1, hv2⟩ := t_hasCornerAt hr hb (show p < 100 by omega)
  by_cases hfit : z 0 < 10 ∧ ¬ tak z p (z 0)
  · obtain ⟨hf1, hf2⟩ := hfit
    have hv : v = 0 := hv2.elim (fun q => absurd q.2 hf2) (fun q => q.1)
    have b1 : Bd (setN z (16 + 4 * z 0) p) := hb.set (by unfold okV; omega)
    have b2 : Bd (setN (setN z (16 + 4 * z 0) p) (16 + 4 * z 0 + 1) c) := b1.set (by unfold okV; omega)
    have b3 : Bd (setN (setN (setN z (16 + 4 * z 0) p) (16 + 4 * z 0 + 1) c) (16 + 4 * z 0 + 2) f) := b2.set (by unfold okV; omega)
    have b4 : Bd (setN (setN (setN (setN z (16 + 4 * z 0) p) (16 + 4 * z 0 + 1) c) (16 + 4 * z 0 + 2) f) (16 + 4 * z 0 + 3) q) := b3.set (by unfold okV; omega)
    have e00 : setN (setN (setN (setN z (16 + 4 * z 0) p) (16 + 4 * z 0 + 1) c) (16 + 4 * z 0 + 2) f) (16 + 4 * z 0 + 3) q 0 = z 0 := by rw [setN_ne (by omega), setN_ne (by omega), setN_ne (by omega), setN_ne (by omega)]
    have b5 : Bd (zAddc z p c f q) := b4.set (by unfold okV; rw [e00]; omega)
    have hne : ∀ j, j ≠ 0 → (j < 16 + 4 * z 0 ∨ 16 + 4 * z 0 + 3 < j) → zAddc z p c f q j = z j := fun j h0 h1 => by
      unfold zAddc
      rw [setN_ne h0, setN_ne (by omega), setN_ne (by omega), setN_ne (by omega), setN_ne (by omega)]
    have e := e_Oc_addCorner (Int32.ofNat p) (Int32.ofNat c) (Int32.ofNat f) (Int32.ofNat q) μ
    rw [r1, bV_r, r2, bV_r, r3, bV_r, r4, bV_r, r_f4 hr, if_neg (show ¬ (10 : Int32) ≤ Int32.ofNat (z 0) from le_n (a := 10) hf1 (by decide)), hv1, bI_r, hv, if_neg (fun q => q rfl), reqS_y (by decide), bV_r] at e
    refine Or.inr (Mut.of (z' := zAddc z p c f q) (pm (z 0 + 1)) hr hk hg ?_ _ e (fun μ1 h1 => ⟨stI (stI (stI (stI (stI μ1 (28 + 2 * z 0) 0 (Int32.ofNat p)) (28 + 2 * z 0) 1 (Int32.ofNat c)) (28 + 2 * z 0) 2 (Int32.ofNat f)) (28 + 2 * z 0) 3 (Int32.ofNat q)) 23 4 (Int32.ofNat (z 0 + 1)), ?_, ((((FrC.rf.st (by omega)).st (by omega)).st (by omega)).st (by omega)).st (by omega), rs_f4 (rs_cor (w0 := 3) (rs_cor (w0 := 2) (rs_cor (w0 := 1) (rs_cor (w0 := 0) h1 hb hf1 (by decide)) b1 hf1 (by decide)) b2 hf1 (by decide)) b3 hf1 (by decide)) b4⟩) (fun μ' g1 => ?_))
    · exact (hk.setB b5 (fun j hj => hne j (by omega) (by omega)) (fun o h1 h2 w hw => by rw [hne _ (by omega) (by omega)]; exact (hk.2.2.2.2.2.1 o h1 h2).1 w (by omega)) (fun p h1 h2 => by rw [hne _ (by omega) (by omega)]; exact (hk.2.2.2.2.2.2.1 p h1 h2).1 0 (by decide))).mono (by omega)
    · show chk _ (lt _ _) = _
      rw [r_f4 h1, chk_t (i3_inb hf1 (by decide)), i3_nat (by omega), lt_b]
      have e4 : mI (stI (stI (stI (stI μ1 (28 + 2 * z 0) 0 (Int32.ofNat p)) (28 + 2 * z 0) 1 (Int32.ofNat c)) (28 + 2 * z 0) 2 (Int32.ofNat f)) (28 + 2 * z 0) 3 (Int32.ofNat q)) 23 4 = Int32.ofNat (z 0) := by
        rw [stI_ne _ _ _ (by omega), stI_ne _ _ _ (by omega), stI_ne _ _ _ (by omega), stI_ne _ _ _ (by omega), r_f4 h1]
      rw [e4, i3_add1]
      rfl
    · have e := e_Md_addCorner (Int32.ofNat p) (Int32.ofNat c) (Int32.ofNat f) (Int32.ofNat q) μ'
      obtain ⟨v', hw1, hw2⟩ := m_addCorner58 (μ := stI μ' 12 16 0) (x2 := Int32.ofNat c) (x3 := Int32.ofNat f) (x4 := Int32.ofNat q) (hz_t g1) hb (show p < 100 by omega)
      have hv' : v' = 0 := hw2.elim (fun q => absurd q.2 hf2) (fun q => q.1)
      rw [w1, bI_r, if_neg (by decide), w2, bI_r, if_neg (by decide), w3, bI_r, if_neg (by decide), w4, bI_r, if_pos (by decide), hw1, hv', Md_addCorner_58_eq, m_h (hz_t g1), if_pos (le_y (Nat.le_refl _) (by omega)), if_neg (show ¬ Int32.ofNat (z 0) = 10 from fun q => by rw [show (10 : Int32) = Int32.ofNat 10 from rfl, i3_eq (by omega) (by decide)] at q; omega), if_pos rfl] at e
      refine ⟨_, e, fun μ1 h1 => ⟨stI (stI (stI (stI (stI μ1 13 (16 + 4 * z 0) (Int32.ofNat p)) 13 (16 + 4 * z 0 + 1) (Int32.ofNat c)) 13 (16 + 4 * z 0 + 2) (Int32.ofNat f)) 13 (16 + 4 * z 0 + 3) (Int32.ofNat q)) 13 0 (Int32.ofNat (z 0 + 1)), ?_, FrM.rf.s13.s13.s13.s13.s13, zI_set (zI_set (zI_set (zI_set (zI_set h1))))⟩⟩
      show chk _ (chk _ (chk _ (lt _ _))) = _
      have e7 : 16 + 4 * Int32.ofNat (z 0) = Int32.ofNat (16 + 4 * z 0) := by
        rw [show (16 : Int32) = Int32.ofNat 16 from rfl, show (4 : Int32) = Int32.ofNat 4 from rfl, i3_mul, i3_add]
      have e8 : Int32.ofNat (16 + 4 * z 0) + 2 = Int32.ofNat (16 + 4 * z 0 + 2) := i3_add _ 2
      have e9 : Int32.ofNat (16 + 4 * z 0) + 3 = Int32.ofNat (16 + 4 * z 0 + 3) := i3_add _ 3
      rw [m_h h1, e7, i3_add1, e8, e9, chk_t (i3_inb (by omega) (by decide)), chk_t (i3_inb (by omega) (by decide)), chk_t (i3_inb (by omega) (by decide)), i3_nat (by omega), i3_nat (by omega), i3_nat (by omega), i3_nat (by omega), lt_b, chk_t (i3_inb (by omega) (by decide))]
      have e4 : mI (stI (stI (stI (stI μ1 13 (16 + 4 * z 0) (Int32.ofNat p)) 13 (16 + 4 * z 0 + 1) (Int32.ofNat c)) 13 (16 + 4 * z 0 + 2) (Int32.ofNat f)) 13 (16 + 4 * z 0 + 3) (Int32.ofNat q)) 13 0 = Int32.ofNat (z 0) := by
        rw [st_get, if_neg (by omega), st_get, if_neg (by omega), st_get, if_neg (by omega), st_get, if_neg (by omega), m_h h1]
      rw [e4, i3_add1]
      rfl
  · refine Or.inl ⟨2, 2, rfl, by decide, ?_, fun μ' g1 _ => ?_⟩
    · rw [e_Oc_addCorner, r1, bV_r, r2, bV_r, r3, bV_r, r4, bV_r, r_f4 hr]
      by_cases h10 : z 0 < 10
      · have hv : v = 1 := hv2.elim (fun q => q.1) (fun q => absurd ⟨h10, q.2⟩ hfit)
        rw [if_neg (show ¬ (10 : Int32) ≤ Int32.ofNat (z 0) from le_n (a := 10) h10 (by decide)), hv1, bI_r, hv, if_pos (by decide), reqS_n]
        rfl
      · rw [if_pos (show (10 : Int32) ≤ Int32.ofNat (z 0) from le_y (a := 10) (by omega) (by omega)), reqS_n]
        rfl
    · have hz' := g1.trans hz
      obtain ⟨v', hw1, hw2⟩ := m_addCorner58 (μ := stI μ' 12 16 0) (x2 := Int32.ofNat c) (x3 := Int32.ofNat f) (x4 := Int32.ofNat q) (hz_t hz') hb (show p < 100 by omega)
      rw [e_Md_addCorner, w1, bI_r, if_neg (by decide), w2, bI_r, if_neg (by decide), w3, bI_r, if_neg (by decide), w4, bI_r, if_pos (by decide), hw1, Md_addCorner_58_eq, m_h (hz_t hz'), if_pos (le_y (Nat.le_refl _) (by omega))]
      by_cases h10 : z 0 < 10
      · have hv' : v' = 1 := hw2.elim (fun q => q.1) (fun q => absurd ⟨h10, q.2⟩ hfit)
        rw [hv', if_neg (show ¬ Int32.ofNat (z 0) = 10 from fun q => by rw [show (10 : Int32) = Int32.ofNat 10 from rfl, i3_eq (by omega) (by decide)] at q; omega), if_neg (by decide), e_Md_fails]
        rfl
      · have e10 : z 0 = 10 := by omega
        rw [e10, if_pos (show Int32.ofNat 10 = 10 from rfl), e_Md_fails]
        rfl
end ADDC
