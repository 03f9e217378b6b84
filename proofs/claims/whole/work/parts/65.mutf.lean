/-! SEMANTICS: a call that saves and then changes -/
section MUTF
variable {z z' : Nat → Nat} {μ μ1 μ2 : PM}
/-- what the class's part of a change leaves alone -/
def FrC (μ μ' : PM) : Prop := μ'.2 = μ.2 ∧ ∀ x, (x < 5 ∨ (12 ≤ x ∧ x < 23) ∨ 69 ≤ x) → mI μ' x = mI μ x
/-- what the model's part of a change leaves alone -/
def FrM (μ μ' : PM) : Prop := μ'.2 = μ.2 ∧ (∀ x, (x < 12 ∨ x = 15 ∨ x = 16 ∨ x = 17 ∨ 23 ≤ x) → mI μ' x = mI μ x) ∧ (∀ j, 11 ≤ j → j ≤ 16 → mI μ' 12 j = mI μ 12 j) ∧ mI μ' 21 0 = mI μ 21 0
theorem lt_b {ν : PM} {f : PM → Option PO} : lt ν f = f ν := rfl
theorem FrC.rf : FrC μ μ := ⟨rfl, fun _ _ => rfl⟩
theorem FrC.tr (h : FrC μ μ1) (h' : FrC μ1 μ2) : FrC μ μ2 := ⟨h'.1.trans h.1, fun x hx => (h'.2 x hx).trans (h.2 x hx)⟩
theorem FrC.st {k j : Nat} {v : Int32} (h : FrC μ μ1) (hk : (5 ≤ k ∧ k < 12) ∨ (23 ≤ k ∧ k < 69)) : FrC μ (stI μ1 k j v) := ⟨h.1, fun x hx => by rw [stI_ne _ _ _ (by omega)]; exact h.2 x hx⟩
theorem FrM.rf : FrM μ μ := ⟨rfl, fun _ _ => rfl, fun _ _ _ => rfl, rfl⟩
theorem FrM.tr (h : FrM μ μ1) (h' : FrM μ1 μ2) : FrM μ μ2 := ⟨h'.1.trans h.1, fun x hx => (h'.2.1 x hx).trans (h.2.1 x hx), fun j h1 h2 => (h'.2.2.1 j h1 h2).trans (h.2.2.1 j h1 h2), h'.2.2.2.trans h.2.2.2⟩
theorem FrM.st {k j : Nat} {v : Int32} (h : FrM μ μ1) (hk : 12 ≤ k ∧ k < 23 ∧ k ≠ 15 ∧ k ≠ 16 ∧ k ≠ 17) (hj : (k = 12 → j < 11 ∨ 16 < j) ∧ (k = 21 → j ≠ 0)) : FrM μ (stI μ1 k j v) := ⟨h.1, fun x hx => by rw [stI_ne _ _ _ (by omega)]; exact h.2.1 x hx, fun i h1 h2 => by
  rw [st_get, if_neg (fun q => by have := hj.1 q.1.symm; omega)]
  exact h.2.2.1 i h1 h2, by
  rw [st_get, if_neg (fun q => hj.2 q.1.symm q.2.symm)]
  exact h.2.2.2⟩
theorem FrM.s13 {j : Nat} {v : Int32} (h : FrM μ μ1) : FrM μ (stI μ1 13 j v) := h.st (by decide) ⟨fun q => absurd q (by decide), fun q => absurd q (by decide)⟩
theorem RingC.fr {old sv : Nat} {zs : Nat → Nat → Nat} (hg : RingC old sv zs μ) (h : FrC μ μ1) : RingC old sv zs μ1 := by
  obtain ⟨q1, q2, q3, q4, q5⟩ := hg
  refine ⟨q1, q2, by rw [h.2 1 (by decide)]; exact q3, by rw [h.2 1 (by decide)]; exact q4, fun i hi => RT_fr (fun x y hx hx2 => by rw [h.2 x (by omega)]) (q5 i hi)⟩
theorem RingM.fr {sv : Nat} {zs : Nat → Nat → Nat} (hg : RingM sv zs μ) (h : FrM μ μ1) : RingM sv zs μ1 := by
  obtain ⟨q1, q2, q3⟩ := hg
  exact ⟨q1, by rw [h.2.2.1 14 (by decide) (by decide)]; exact q2, fun i hi m hm => by rw [h.2.1 15 (by decide)]; exact q3 i hi m hm⟩
theorem Mut.of {N old sv : Nat} {zs : Nat → Nat → Nat} {c : Option PO} {m : PM → Option PO} (v : Int32) (hr : RT 23 z μ) (hk : Okz N z) (hg : RingC old sv zs μ) (ok : Okz (N + 20) z')
    (f : PM → Option PO) (hc : c = bV (d_Sav_save μ) f) (hf : ∀ μ1, RT 23 z μ1 → ∃ μ2, f μ1 = rI v μ2 ∧ FrC μ1 μ2 ∧ RT 23 z' μ2)
    (hm : ∀ μ', mI μ' 13 = zI z → ∃ g : PM → Option PO, m μ' = bV (d_Md_save (stI μ' 12 16 0)) g ∧ ∀ μ1, mI μ1 13 = zI z → ∃ μ2, g μ1 = rI v μ2 ∧ FrM μ1 μ2 ∧ mI μ2 13 = zI z') : Mut N z sv zs c m μ := by
  obtain ⟨μ1, old', a1, a2, a3, a4, a5⟩ := t_save hr hk.1 hg
  have hr1 : RT 23 z μ1 := RT_fr (fun x y hx hx2 => a3 x (by omega) (by omega) y) hr
  obtain ⟨μ2, b1, b2, b3⟩ := hf μ1 hr1
  refine ⟨v, z', old', μ2, ?_, b2.1.trans a2, b3, a5.fr b2, ok, fun x hx => ?_, fun μ' g1 g2 => ?_⟩
  · rw [hc, a1, bV_r, b1]
  · rw [b2.2 x (by omega)]
    funext y
    exact a3 x (by omega) (by omega) y
  · obtain ⟨μ3, c1, c2, c3, c4, c5⟩ := m_saveR (hz_t (v := 0) g1) (g2.st (k := 12) (j := 16) (v := 0) (by decide) (fun _ => by decide))
    have hz2 : mI μ3 13 = zI z := by rw [c3 13 (by decide) (by decide)]; exact hz_t g1
    obtain ⟨g, e1, hgm⟩ := hm μ' g1
    obtain ⟨μ4, d1, d2, d3⟩ := hgm μ3 hz2
    refine ⟨μ4, ?_, d2.1.trans c2, d3, c5.fr d2, fun x hx => ?_, ⟨?_, ?_⟩, ?_⟩
    · rw [e1, c1, bV_r, d1]
    · rw [d2.2.1 x (by omega), c3 x (by omega) (by omega), stI_ne _ _ _ (by omega)]
    · rw [d2.2.2.1 15 (by decide) (by decide), c4 15 (by decide), st_get, if_neg (by decide)]
    · rw [d2.2.2.2, c3 21 (by decide) (by decide), stI_ne _ _ _ (by decide)]
    · rw [d2.2.2.1 16 (by decide) (by decide), c4 16 (by decide), st_get, if_pos ⟨rfl, rfl⟩]
end MUTF
