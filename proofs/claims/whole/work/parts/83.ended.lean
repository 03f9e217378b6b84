/-! SEMANTICS: calls that only show, with scratch; ifEnded -/
section ENDED
variable {z : Nat → Nat} {μ μ1 : PM}
/-- scratch of the class alone -/
def ScC (μ μ' : PM) : Prop := μ'.2 = μ.2 ∧ ∀ x, (x < 5 ∨ 12 ≤ x) → mI μ' x = mI μ x
theorem ScC.rf : ScC μ μ := ⟨rfl, fun _ _ => rfl⟩
theorem ScC.tr {μ2 : PM} (h : ScC μ μ1) (h' : ScC μ1 μ2) : ScC μ μ2 := ⟨h'.1.trans h.1, fun x hx => (h'.2 x hx).trans (h.2 x hx)⟩
theorem ScC.st {k j : Nat} {v : Int32} (h : ScC μ μ1) (hk : 5 ≤ k ∧ k < 12) : ScC μ (stI μ1 k j v) := ⟨h.1, fun x hx => by rw [stI_ne _ _ _ (by omega)]; exact h.2 x hx⟩
theorem ScC.rt (h : ScC μ μ1) (hr : RT 23 z μ) : RT 23 z μ1 := RT_fr (fun x y hx hx2 => by rw [h.2 x (by omega)]) hr
theorem FrP.sc (h : FrP μ μ1) : ScC μ μ1 := ⟨h.1, fun x hx => h.2 x (by omega) (by omega) (by omega)⟩
def AnsS (c : Option PO) (m : PM → Option PO) (μ : PM) (code : Nat → Option Int32) : Prop :=
  (∃ (v : Int32) (μ1 : PM), c = rI v μ1 ∧ ScC μ μ1 ∧ ∀ μ', mI μ' 13 = mI μ 13 → mI μ' 12 14 = mI μ 12 14 → mI μ' 21 0 = mI μ 21 0 → ∃ μ2, m μ' = rI v μ2 ∧ FrM (stI μ' 12 16 0) μ2 ∧ mI μ2 13 = mI μ' 13) ∨ Exc c m μ code
theorem Op.ofAnsS {cl md : PM → Option PO} {c : PM → Option PO} {code : Nat → Option Int32}
    (hA : ∀ N μ, N ≤ 20000 → Jn N μ → AnsS (c μ) md μ code) (hcl : ∀ μ, ∃ g : Nat → PM → Option PO, cl μ = bH (c μ) (fun v μ1 => some (.inl (some (.int 0)), stJ μ1 22 0 v.toInt64)) g ∧ ∀ k w μ1, code k = some w → g k μ1 = rI w μ1) : Op cl md := by
  intro N μ hN hJ
  obtain ⟨g, hg, hgk⟩ := hcl μ
  rcases hA N μ hN hJ with ⟨v, μ1, h1, h2, h3⟩ | ⟨k, w, k1, k3, e1, e2⟩
  · obtain ⟨μ2, a1, a2, a3⟩ := h3 (stJ μ1 22 0 v.toInt64) (h2.2 13 (by decide)) (congrFun (h2.2 12 (by decide)) 14) (congrFun (h2.2 21 (by decide)) 0)
    have e22 : μ2.2.2 = μ.2.2 := by
      have e9 : μ2.2.2 = (stJ μ1 22 0 v.toInt64).2.2 := congrArg Prod.snd a2.1
      rw [e9]
      show μ1.2.2 = _
      rw [h2.1]
    refine ⟨0, v, stJ μ1 22 0 v.toInt64, μ2, ?_, a1, ?_, fun _ => ?_, (Jn.same ⟨fun x hx => ?_, ?_, ?_, ?_⟩ hJ).mono (by omega), ?_, ?_, ?_, ?_, ?_⟩
    · rw [hg, h1]; rfl
    · rw [a2.2.2.1 16 (by decide) (by decide), st_get, if_pos ⟨rfl, rfl⟩]
    · have e9 : mJ μ2 = mJ (stJ μ1 22 0 v.toInt64) := congrArg Prod.fst a2.1
      rw [e9]
      rfl
    · by_cases q : x = 13
      · rw [q, a3]
        exact h2.2 13 (by decide)
      · rw [a2.2.1 x (by omega), stI_ne _ _ _ (by omega)]
        exact h2.2 x (by omega)
    · rw [a2.2.2.1 14 (by decide) (by decide), st_get, if_neg (by decide)]
      exact congrFun (h2.2 12 (by decide)) 14
    · rw [a2.2.2.1 15 (by decide) (by decide), st_get, if_neg (by decide)]
      exact congrFun (h2.2 12 (by decide)) 15
    · rw [a2.2.2.2, stI_ne _ _ _ (by decide)]
      exact congrFun (h2.2 21 (by decide)) 0
    · rw [e22]; exact Nat.le_add_right _ _
    · rw [e22]
    · rw [a2.2.1 390 (by decide), stI_ne _ _ _ (by decide)]
      exact h2.2 390 (by decide)
    · show μ1.2.2.1 = _
      rw [h2.1]
    · exact h2.2 390 (by decide)
  · refine ⟨w, 0, exM μ, _, ?_, e2 _ rfl rfl, ?_, fun q => absurd q k3, (Jn.same (Sm.ex.trans (Sm.thr.trans Sm.thr)) hJ).mono (by omega), ?_, rfl, ?_, rfl, rfl⟩
    · rw [hg, e1]; exact hgk k w _ k1
    · rw [st_get, if_pos ⟨rfl, rfl⟩]
    · show μ.2.2.2 + 1 ≤ μ.2.2.2 + 3
      omega
    · rw [stI_ne _ _ _ (by decide), stI_ne _ _ _ (by decide)]; rfl
theorem FrM.s14 {j : Nat} {v : Int32} (h : FrM μ μ1) : FrM μ (stI μ1 14 j v) := h.st (by decide) ⟨fun q => absurd q (by decide), fun q => absurd q (by decide)⟩
theorem m_keep : ∃ μ', d_Md_keep μ = some (.inl none, μ') ∧ FrM μ μ' ∧ mI μ' 13 = mI μ 13 ∧ ∀ k, k < 213 → mI μ' 14 k = mI μ 13 k := by
  have key : ∀ m, m ≤ 213 → ∃ μ', Md_keep_2 0 μ = Md_keep_2 (Int32.ofNat m) μ' ∧ FrM μ μ' ∧ mI μ' 13 = mI μ 13 ∧ ∀ k, k < m → mI μ' 14 k = mI μ 13 k := by
    intro m
    induction m with
    | zero => intro _; exact ⟨μ, rfl, FrM.rf, rfl, fun k hk => absurd hk (Nat.not_lt_zero k)⟩
    | succ m ih =>
      intro hm
      obtain ⟨μ1, a1, a2, a3, a4⟩ := ih (by omega)
      refine ⟨stI μ1 14 m (mI μ 13 m), ?_, a2.s14, by rw [stI_ne _ _ _ (by decide), a3], fun k hk => ?_⟩
      · rw [a1, Md_keep_2_eq, if_neg (show ¬ (213 : Int32) ≤ Int32.ofNat m from le_n (a := 213) (by omega) (by decide)), chk_t (i3_inb (by omega) (by decide)), i3_nat (by omega), a3, i3_add1]
      · rw [st_get]
        by_cases q : k = m
        · rw [if_pos ⟨rfl, q⟩, q]
        · rw [if_neg (fun r => q r.2)]; exact a4 k (by omega)
  obtain ⟨μ1, a1, a2, a3, a4⟩ := key 213 (Nat.le_refl _)
  exact ⟨μ1, by rw [e_Md_keep, a1, Md_keep_2_eq, if_pos (by decide)], a2, a3, a4⟩
theorem m_bring : ∃ μ', d_Md_bring μ = some (.inl none, μ') ∧ FrM μ μ' ∧ ∀ k, mI μ' 13 k = if k < 213 then mI μ 14 k else mI μ 13 k := by
  have key : ∀ m, m ≤ 213 → ∃ μ', Md_bring_2 0 μ = Md_bring_2 (Int32.ofNat m) μ' ∧ FrM μ μ' ∧ mI μ' 14 = mI μ 14 ∧ ∀ k, mI μ' 13 k = if k < m then mI μ 14 k else mI μ 13 k := by
    intro m
    induction m with
    | zero => intro _; exact ⟨μ, rfl, FrM.rf, rfl, fun k => by rw [if_neg (Nat.not_lt_zero k)]⟩
    | succ m ih =>
      intro hm
      obtain ⟨μ1, a1, a2, a3, a4⟩ := ih (by omega)
      refine ⟨stI μ1 13 m (mI μ 14 m), ?_, a2.s13, by rw [stI_ne _ _ _ (by decide), a3], fun k => ?_⟩
      · rw [a1, Md_bring_2_eq, if_neg (show ¬ (213 : Int32) ≤ Int32.ofNat m from le_n (a := 213) (by omega) (by decide)), chk_t (i3_inb (by omega) (by decide)), i3_nat (by omega), a3, i3_add1]
      · rw [st_get]
        by_cases q : k = m
        · rw [if_pos ⟨rfl, q⟩, if_pos (by omega), q]
        · rw [if_neg (fun r => q r.2), a4]
          by_cases q2 : k < m
          · rw [if_pos q2, if_pos (by omega)]
          · rw [if_neg q2, if_neg (by omega)]
  obtain ⟨μ1, a1, a2, a3, a4⟩ := key 213 (Nat.le_refl _)
  exact ⟨μ1, by rw [e_Md_bring, a1, Md_bring_2_eq, if_pos (by decide)], a2, a4⟩
theorem m_endedNow {p : Nat} (hz : mI μ 13 = zI z) (hE : Ed z) (hp : p < z 2) : ∃ μ', d_Md_endedNow (Int32.ofNat p) μ = rI (Int32.ofNat (shrS z p + getW z p)) μ' ∧ FrM μ μ' ∧ mI μ' 13 = zI z := by
  have n1 := hE.1
  have n2 := hE.2.1
  obtain ⟨μ1, a1, a2, a3, a4⟩ := m_keep (μ := μ)
  obtain ⟨μ2, b1, b2, b3⟩ := m_endDay (a3.trans hz) hE
  obtain ⟨μ3, c1, c2, c3⟩ := m_bring (μ := μ2)
  have e : endZ z (91 + 4 * p + 1) = z (91 + 4 * p + 1) + shrS z p + getW z p := by
    have q9 : (91 + 4 * p + 1 - 91) / 4 = p := by omega
    unfold endZ
    rw [if_neg (by omega), if_neg (by omega), if_pos (by omega), q9]
  have e2 : endZ z 2 = z 2 := endZ_ne (by decide) (by omega) (by omega) n1 n2
  refine ⟨μ3, ?_, (a2.tr b2.1).tr c2, ?_⟩
  · rw [e_Md_endedNow, m_player0_1 hz (by omega), bI_r, a1, bV_r, b1, bV_r, m_player0_1 b3 (by omega), bI_r, c1, bV_r, e, i3_sub (by omega), show z (91 + 4 * p + 1) + shrS z p + getW z p - z (91 + 4 * p + 1) = shrS z p + getW z p by omega]
  · funext k
    rw [c3]
    by_cases q : k < 213
    · rw [if_pos q, b2.2, a4 k q, hz]
    · rw [if_neg q, m_h b3, endZ_ne (by omega) (by omega) (by omega) n1 n2]
      rfl
theorem jn_z {N : Nat} (hJ : Jn N μ) : ∃ (z : Nat → Nat) (sv : Nat), mI μ 13 = zI z ∧ RT 23 z μ ∧ Okz N z ∧ mI μ 21 0 = 0 ∧ mI μ 1 2 = Int32.ofNat sv ∧ mI μ 12 14 = Int32.ofNat sv ∧ sv ≤ 6 := by
  obtain ⟨z, old, sv, zs, n, s, h1, h2, h3, h4, h5, h6, h7⟩ := hJ
  exact ⟨z, sv, h1, h2, h3, h7.2.2.1.2, h4.2.2.2.1, h5.2.1, h5.1⟩
theorem PT_of (hr : RT 23 z μ) : PT z μ := ⟨r_f5 hr, r_f6 hr, r_f9 hr, r_f14 hr, r_set hr (by decide), fun o ho => r_org hr ho (by decide) (by decide), fun p hp o ho => r_tim hr hp ho⟩
theorem o_ifEnded (x : Int32) : Op (d_Lw_ifEnded x) (d_Md_ifEnded x) := by
  refine Op.ofAnsS (c := d_Oc_ifEnded x) (code := fun k => if k = 3 then some 1 else none) (fun N μ hN hJ => ?_) (fun μ => ⟨_, e_Lw_ifEnded x μ, fun _ _ _ h => code3 h⟩)
  obtain ⟨z, sv, hz, hr, hk, h21, -, -, -⟩ := jn_z hJ
  have hb := hk.1
  have hp := hb.np
  have hE := hk.ed (by omega)
  rcases idx x (n := z 2) (by omega) with ⟨i, hi, rfl⟩ | h
  · obtain ⟨μ1, a1, a2, a3⟩ := t_reckon (PT_of hr) hE
    refine Or.inl ⟨Int32.ofNat (shrS z i + getW z i), μ1, ?_, a2.sc, fun μ' g1 g2 g3 => ?_⟩
    · rw [e_Oc_ifEnded, r_f6 hr, reqI_y hi (by omega), bV_r, a1, bV_r, chk_t (i3_inb (by omega) (by decide)), i3_nat (by omega), (a3 i hi).1, (a3 i hi).2, i3_add]
    · have hz' := g1.trans hz
      obtain ⟨μ2, b1, b2, b3⟩ := m_endedNow (p := i) (hz_t (v := 0) hz') hE hi
      refine ⟨μ2, ?_, b2, b3.trans hz'.symm⟩
      rw [e_Md_ifEnded, m_isPlayer_y (hz_t hz') hb hi, bI_r, if_neg (by decide), b1, bI_r]
  · refine Or.inr ⟨3, 1, rfl, by decide, ?_, fun μ' g1 _ => ?_⟩
    · rw [e_Oc_ifEnded, r_f6 hr, reqI_n h]
      rfl
    · rw [e_Md_ifEnded, m_isPlayer_n (hz_t (g1.trans hz)) hb h, bI_r, if_pos rfl, e_Md_fails]
      rfl
end ENDED
