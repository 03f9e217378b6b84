/-! SEMANTICS: what holds between two calls -/
section INV
variable {μ μ' : PM}
def cntT (z : Nat → Nat) (o : Nat) : Nat := sum 10 (fun h => if z (163 + 10 * o + h) = 0 then 0 else 1)
/-- what holds of a state behind at most N orders -/
def Okz (N : Nat) (z : Nat → Nat) : Prop :=
  Bd z ∧ Pl z ∧ Dj z ∧ z 8 = orgS z 6 ∧
  (∀ o, o < 5 → ∀ h, z 4 < h → h < 10 → z (163 + 10 * o + h) = 0) ∧
  (∀ o, z 1 ≤ o → o < 5 → (∀ w, w < 7 → z (56 + 7 * o + w) = 0) ∧ ∀ h, h < 10 → z (163 + 10 * o + h) = 0) ∧
  (∀ p, z 2 ≤ p → p < 8 → (∀ w, w < 4 → z (91 + 4 * p + w) = 0) ∧ ∀ o, o < 5 → z (123 + 5 * p + o) = 0) ∧
  (∀ p, p < 8 → ∀ o, o < 5 → z (123 + 5 * p + o) ≤ cntT z o) ∧
  (∀ o, o < 5 → z (56 + 7 * o + 4) ≤ 90 * cntT z o) ∧
  (∀ o, o < 5 → z (56 + 7 * o + 4) ≠ 0 → ∃ p, p < 8 ∧ z (123 + 5 * p + o) ≠ 0) ∧
  gotS z + orgS z 4 + orgS z 5 + z 9 + z 10 = z 8 ∧
  (z 8 ≤ 90 * N ∧ z 7 ≤ N ∧ z 3 ≤ N ∧ (∀ p, p < 8 → z (91 + 4 * p + 3) ≤ N) ∧ ∀ p, p < 8 → z (91 + 4 * p + 2) ≤ z (91 + 4 * p + 1))
theorem Okz.mono {N N' : Nat} {z : Nat → Nat} (h : Okz N z) (hn : N ≤ N') : Okz N' z := by
  obtain ⟨h1, h2, h3, h4, h5, h6, h7, h8, h9, h10, h11, a, b, c, d, e⟩ := h
  exact ⟨h1, h2, h3, h4, h5, h6, h7, h8, h9, h10, h11, by omega, by omega, by omega, fun p hp => Nat.le_trans (d p hp) hn, e⟩
def Txt (n : Nat) (s : Nat → Nat) (μ : PM) : Prop := n ≤ 60 ∧ mI μ 3 1 = Int32.ofNat n ∧ (mI μ 12 15 = Int32.ofNat n ∧ mI μ 21 0 = 0) ∧ ∀ i, i < n → mI μ 4 i = Int32.ofNat (s i) ∧ mI μ 16 i = Int32.ofNat (s i) ∧ 33 ≤ s i ∧ s i ≤ 126
def Jn (N : Nat) (μ : PM) : Prop := ∃ (z : Nat → Nat) (old sv : Nat) (zs : Nat → Nat → Nat) (n : Nat) (s : Nat → Nat), mI μ 13 = zI z ∧ RT 23 z μ ∧ Okz N z ∧ RingC old sv zs μ ∧ RingM sv zs μ ∧ (∀ k, k < sv → Okz N (zs k)) ∧ Txt n s μ
/-- what Jn reads -/
def Sm (μ μ' : PM) : Prop := (∀ x, (x = 1 ∨ x = 3 ∨ x = 4 ∨ x = 13 ∨ x = 15 ∨ x = 16 ∨ (23 ≤ x ∧ x < 345)) → mI μ' x = mI μ x) ∧ mI μ' 12 14 = mI μ 12 14 ∧ (mI μ' 12 15 = mI μ 12 15 ∧ mI μ' 21 0 = mI μ 21 0)
theorem Sm.rf : Sm μ μ := ⟨fun _ _ => rfl, rfl, rfl, rfl⟩
theorem Sm.trans {μ'' : PM} (h : Sm μ μ') (h' : Sm μ' μ'') : Sm μ μ'' := ⟨fun x hx => (h'.1 x hx).trans (h.1 x hx), h'.2.1.trans h.2.1, h'.2.2.1.trans h.2.2.1, h'.2.2.2.trans h.2.2.2⟩
theorem RT.same {t : Nat} {z : Nat → Nat} (h : Sm μ μ') (ht : 23 ≤ t ∧ t + 46 ≤ 345) (hr : RT t z μ) : RT t z μ' := RT_fr (fun x y hx hx2 => by rw [h.1 x (by omega)]) hr
theorem RingC.same {old sv : Nat} {zs : Nat → Nat → Nat} (h : Sm μ μ') (hg : RingC old sv zs μ) : RingC old sv zs μ' := by
  obtain ⟨h1, h2, h3, h4, h5⟩ := hg
  refine ⟨h1, h2, by rw [h.1 1 (Or.inl rfl), h3], by rw [h.1 1 (Or.inl rfl), h4], fun k hk => (h5 k hk).same h ?_⟩
  have := Nat.mod_lt (old + k) (show 6 > 0 by decide)
  omega
theorem RingM.same {sv : Nat} {zs : Nat → Nat → Nat} (h : Sm μ μ') (hg : RingM sv zs μ) : RingM sv zs μ' := by
  obtain ⟨h1, h2, h3⟩ := hg
  refine ⟨h1, by rw [h.2.1, h2], fun k hk i hi => ?_⟩
  rw [h.1 15 (by decide)]
  exact h3 k hk i hi
theorem Txt.same {n : Nat} {s : Nat → Nat} (h : Sm μ μ') (ht : Txt n s μ) : Txt n s μ' := by
  obtain ⟨h1, h2, h3, h4⟩ := ht
  refine ⟨h1, by rw [h.1 3 (by decide), h2], ⟨by rw [h.2.2.1, h3.1], by rw [h.2.2.2, h3.2]⟩, fun i hi => ?_⟩
  rw [h.1 4 (by decide), h.1 16 (by decide)]
  exact h4 i hi
theorem Jn.same {N : Nat} (h : Sm μ μ') (hJ : Jn N μ) : Jn N μ' := by
  obtain ⟨z, old, sv, zs, n, s, h1, h2, h3, h4, h5, h6, h7⟩ := hJ
  exact ⟨z, old, sv, zs, n, s, by rw [h.1 13 (by decide), h1], h2.same h (by decide), h3, h4.same h, h5.same h, h6, h7.same h⟩
theorem Jn.mono {N N' : Nat} (hJ : Jn N μ) (hn : N ≤ N') : Jn N' μ := by
  obtain ⟨z, old, sv, zs, n, s, h1, h2, h3, h4, h5, h6, h7⟩ := hJ
  exact ⟨z, old, sv, zs, n, s, h1, h2, h3.mono hn, h4, h5, fun k hk => (h6 k hk).mono hn, h7⟩
theorem Sm.ex : Sm μ (exM μ) := ⟨fun _ _ => rfl, rfl, rfl, rfl⟩
theorem Sm.out {v : Int64} : Sm μ (stJ μ 22 0 v) := ⟨fun _ _ => rfl, rfl, rfl, rfl⟩
theorem Sm.thr {v : Int32} : Sm μ (stI μ 12 16 v) := ⟨fun x hx => stI_ne _ _ _ (by omega), by rw [st_get, if_neg (by decide)], by rw [st_get, if_neg (by decide)], by rw [stI_ne _ _ _ (by decide)]⟩
end INV
