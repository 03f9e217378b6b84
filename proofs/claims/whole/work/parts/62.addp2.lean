/-! SEMANTICS: addPlayer, as the law makes it -/
section ADDP2
theorem RingC.st {old sv : Nat} {zs : Nat → Nat → Nat} {μ : PM} {k j : Nat} {v : Int32} (hk : 23 ≤ k ∧ k < 69) (hg : RingC old sv zs μ) : RingC old sv zs (stI μ k j v) := by
  obtain ⟨q1, q2, q3, q4, q5⟩ := hg
  refine ⟨q1, q2, by rw [stI_ne _ _ _ (by omega)]; exact q3, by rw [stI_ne _ _ _ (by omega)]; exact q4, fun i hi => RT_fr (fun x y hx hx2 => by rw [stI_ne _ _ _ (by omega)]) (q5 i hi)⟩
theorem RingM.st {sv : Nat} {zs : Nat → Nat → Nat} {μ : PM} {k j : Nat} {v : Int32} (hk : k ≠ 15) (hk2 : k = 12 → j ≠ 14) (hg : RingM sv zs μ) : RingM sv zs (stI μ k j v) := by
  obtain ⟨q1, q2, q3⟩ := hg
  refine ⟨q1, by rw [st_get, if_neg (fun q => hk2 q.1.symm q.2.symm)]; exact q2, fun i hi m hm => by rw [stI_ne _ _ _ (fun q => hk q.symm)]; exact q3 i hi m hm⟩
theorem code2 {k : Nat} {w : Int32} {μ : PM} (h : (if k = 2 then some (1 : Int32) else none) = some w) : (if k = 2 then some (.inl (some (.int 1)), μ) else some (.inr k, μ) : Option PO) = rI w μ := by
  by_cases q : k = 2
  · rw [if_pos q] at h ⊢
    cases h
    rfl
  · rw [if_neg q] at h
    cases h
theorem o_addPlayer : Op d_Lw_addPlayer d_Md_addPlayer := by
  refine Op.ofMut (c := d_Oc_addPlayer) (code := fun k => if k = 2 then some 1 else none) (fun N μ z old sv zs _ hz hr hk hg => ?_) (fun μ => ⟨_, e_Lw_addPlayer μ, fun _ _ _ h => code2 h⟩)
  have hb := hk.1
  have hp := hb.np
  by_cases h : z 2 < 8
  · refine Or.inr ?_
    obtain ⟨μ1, old', a1, a2, a3, a4, a5⟩ := t_save hr hb hg
    have hr1 : RT 23 z μ1 := RT_fr (fun x y hx hx2 => a3 x (by omega) (by omega) y) hr
    refine ⟨pm (z 2 + 1), setN z 2 (z 2 + 1), old', stI μ1 23 6 (Int32.ofNat (z 2 + 1)), ?_, a2, rt_addp hr1, a5.st (by decide), ok_addp hk h, fun x hx => ?_, fun μ' g1 g2 => ?_⟩
    · rw [e_Oc_addPlayer, r_f6 hr, if_neg (show ¬ (8 : Int32) ≤ Int32.ofNat (z 2) from le_n (a := 8) h (by decide)), reqS_y (by decide), bV_r, a1, bV_r, r_f6 hr1, i3_add1]
      rfl
    · rw [stI_ne _ _ _ (by omega)]
      funext y
      exact a3 x (by omega) (by omega) y
    · obtain ⟨μ2, b1, b2, b3, b4, b5⟩ := m_saveR (hz_t (v := 0) g1) (g2.st (k := 12) (j := 16) (v := 0) (by decide) (fun _ => by decide))
      have hz2 : mI μ2 13 = zI z := by rw [b3 13 (by decide) (by decide)]; exact hz_t g1
      refine ⟨stI μ2 13 2 (Int32.ofNat (z 2 + 1)), ?_, b2, zI_set hz2, b5.st (by decide) (fun q => absurd q (by decide)), fun x hx => ?_, ⟨?_, ?_⟩, ?_⟩
      · rw [e_Md_addPlayer, m_h g1, if_pos (fun q => by rw [show (8 : Int32) = Int32.ofNat 8 from rfl, i3_eq (by omega) (by decide)] at q; omega), b1, bV_r, m_h hz2, i3_add1]
        rfl
      · rw [stI_ne _ _ _ (by omega), b3 x (by omega) (by omega), stI_ne _ _ _ (by omega)]
      · rw [stI_ne _ _ _ (by decide), b4 15 (by decide), st_get, if_neg (by decide)]
      · rw [stI_ne _ _ _ (by decide), b3 21 (by decide) (by decide), stI_ne _ _ _ (by decide)]
      · rw [stI_ne _ _ _ (by decide), b4 16 (by decide), st_get, if_pos ⟨rfl, rfl⟩]
  · have e8 : z 2 = 8 := by omega
    refine Or.inl ⟨2, 1, rfl, by decide, ?_, fun μ' g1 _ => ?_⟩
    · rw [e_Oc_addPlayer, r_f6 hr, e8, if_pos (by decide), reqS_n]
      rfl
    · rw [e_Md_addPlayer, g1, hz]
      show (if ¬ Int32.ofNat (z 2) = 8 then _ else _) = _
      rw [e8, if_neg (fun q => q rfl), e_Md_fails]
      rfl
end ADDP2
