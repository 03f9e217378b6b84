/-! SEMANTICS: the text buffer -/
section TEXT
variable {μ μ' : PM}
theorem Jn.txt {N n' : Nat} {s' : Nat → Nat} (hJ : Jn N μ) (h : ∀ x, (x = 1 ∨ x = 13 ∨ x = 15 ∨ (23 ≤ x ∧ x < 345)) → mI μ' x = mI μ x) (h14 : mI μ' 12 14 = mI μ 12 14) (ht : Txt n' s' μ') : Jn N μ' := by
  obtain ⟨z, old, sv, zs, n, s, h1, h2, h3, ⟨q1, q2, q3, q4, q5⟩, ⟨r1, r2, r3⟩, h6, h7⟩ := hJ
  refine ⟨z, old, sv, zs, n', s', by rw [h 13 (by decide), h1], RT_fr (fun x y hx hx2 => by rw [h x (by omega)]) h2, h3, ⟨q1, q2, by rw [h 1 (Or.inl rfl), q3], by rw [h 1 (Or.inl rfl), q4], fun k hk => RT_fr (fun x y hx hx2 => ?_) (q5 k hk)⟩, ⟨r1, by rw [h14, r2], fun k hk i hi => by rw [h 15 (by decide)]; exact r3 k hk i hi⟩, h6, ht⟩
  have := Nat.mod_lt (old + k) (show 6 > 0 by decide)
  rw [h x (by omega)]
/-- a call without a wrapper of the law -/
def OpN (cl md : PM → Option PO) : Prop := ∀ (N : Nat) (μ : PM), N ≤ 20000 → Jn N μ → ∃ (v : Int32) (μ1 μ2 : PM), cl μ = rI v μ1 ∧ md μ1 = rI v μ2 ∧ Jn (N + 20) μ2 ∧ μ2.2.2.2 ≤ μ.2.2.2 + 3 ∧ μ2.2.2.1 = μ.2.2.1 ∧ mI μ2 390 = mI μ 390
theorem o_clearBuffer : OpN d_Oc_clearBuffer d_Md_clearBuffer := by
  intro N μ _ hJ
  have hJ0 := hJ
  obtain ⟨z, old, sv, zs, n, s, h1, h2, h3, h4, h5, h6, t1, t2, t3, t4⟩ := hJ
  have e : mI (stI μ 3 1 0) 12 15 = mI μ 3 1 := by rw [stI_ne _ _ _ (by decide), t3.1, t2]
  refine ⟨mI μ 3 1, stI μ 3 1 0, stI (stI (stI μ 3 1 0) 12 16 0) 12 15 0, e_Oc_clearBuffer μ, ?_, (hJ0.txt (n' := 0) (s' := s) (fun x hx => ?_) ?_ ⟨by decide, ?_, ⟨?_, ?_⟩, fun i hi => absurd hi (Nat.not_lt_zero i)⟩).mono (by omega), Nat.le_add_right _ _, rfl, ?_⟩
  · rw [e_Md_clearBuffer, e]
  · rw [stI_ne _ _ _ (by omega), stI_ne _ _ _ (by omega), stI_ne _ _ _ (by omega)]
  · rw [st_get, if_neg (by decide), st_get, if_neg (by decide), stI_ne _ _ _ (by decide)]
  · rw [stI_ne _ _ _ (by decide), stI_ne _ _ _ (by decide), st_get, if_pos ⟨rfl, rfl⟩]
    rfl
  · rw [st_get, if_pos ⟨rfl, rfl⟩]
    rfl
  · rw [stI_ne _ _ _ (by decide), stI_ne _ _ _ (by decide), stI_ne _ _ _ (by decide)]
    exact t3.2
  · rw [stI_ne _ _ _ (by decide), stI_ne _ _ _ (by decide), stI_ne _ _ _ (by decide)]
end TEXT
