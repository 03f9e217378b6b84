/-! SEMANTICS: the most: the model's search -/
section MOST2
variable {z : Nat → Nat} {μ : PM}
/-- a prefix of picks that stands -/
def VP (z : Nat → Nat) (d : Nat) (P : Nat → Nat) : Prop := ∀ e, e < d → P e ≤ 10 ∧ (P e ≠ 0 → (tunS z e).testBit (P e - 1) = true)
/-- what the search leaves alone at depth d -/
def FS (d : Nat) (μ μ' : PM) : Prop := FrM μ μ' ∧ mI μ' 13 = mI μ 13 ∧ mI μ' 19 = mI μ 19 ∧ (∀ i, i < d → mI μ' 20 i = mI μ 20 i) ∧ ∀ i, i ≤ d → mI μ' 21 i = mI μ 21 i
theorem FS.rf {d : Nat} : FS d μ μ := ⟨FrM.rf, rfl, rfl, fun _ _ => rfl, fun _ _ => rfl⟩
theorem FS.tr {d : Nat} {μ1 μ2 : PM} (h : FS d μ μ1) (h' : FS d μ1 μ2) : FS d μ μ2 := ⟨h.1.tr h'.1, h'.2.1.trans h.2.1, h'.2.2.1.trans h.2.2.1, fun i hi => (h'.2.2.2.1 i hi).trans (h.2.2.2.1 i hi), fun i hi => (h'.2.2.2.2 i hi).trans (h.2.2.2.2 i hi)⟩
theorem FS.le {d d' : Nat} {μ1 : PM} (h : FS d' μ μ1) (hd : d ≤ d') : FS d μ μ1 := ⟨h.1, h.2.1, h.2.2.1, fun i hi => h.2.2.2.1 i (by omega), fun i hi => h.2.2.2.2 i (by omega)⟩
theorem FS.s20 {d j : Nat} {v : Int32} {μ1 : PM} (h : FS d μ μ1) (hj : d ≤ j) : FS d μ (stI μ1 20 j v) := ⟨h.1.st (by decide) ⟨fun q => absurd q (by decide), fun q => absurd q (by decide)⟩, by rw [stI_ne _ _ _ (by decide), h.2.1], by rw [stI_ne _ _ _ (by decide), h.2.2.1], fun i hi => by rw [st_get, if_neg (by omega), h.2.2.2.1 i hi], fun i hi => by rw [stI_ne _ _ _ (by decide), h.2.2.2.2 i hi]⟩
theorem FS.s21 {d j : Nat} {v : Int32} {μ1 : PM} (h : FS d μ μ1) (hj : d < j) : FS d μ (stI μ1 21 j v) := ⟨h.1.st (by decide) ⟨fun q => absurd q (by decide), fun _ => by omega⟩, by rw [stI_ne _ _ _ (by decide), h.2.1], by rw [stI_ne _ _ _ (by decide), h.2.2.1], fun i hi => by rw [stI_ne _ _ _ (by decide), h.2.2.2.1 i hi], fun i hi => by rw [st_get, if_neg (by omega), h.2.2.2.2 i hi]⟩
theorem FS.s12 {d j : Nat} {v : Int32} {μ1 : PM} (h : FS d μ μ1) (hj : j < 11) : FS d μ (stI μ1 12 j v) := ⟨h.1.st (by decide) ⟨fun _ => Or.inl hj, fun q => absurd q (by decide)⟩, by rw [stI_ne _ _ _ (by decide), h.2.1], by rw [stI_ne _ _ _ (by decide), h.2.2.1], fun i hi => by rw [stI_ne _ _ _ (by decide), h.2.2.2.1 i hi], fun i hi => by rw [stI_ne _ _ _ (by decide), h.2.2.2.2 i hi]⟩
theorem VP_at {d e : Nat} {P : Nat → Nat} (h : VP z d P) (he : e < d) (h0 : P e ≠ 0) : z (56 + 7 * e + 3) ≠ 0 := (can_o ((h e he).2 h0)).1
theorem near_nearO {o e : Nat} (h1 : z (56 + 7 * o + 3) ≠ 0) (h2 : z (56 + 7 * e + 3) ≠ 0) : nearO z o e ↔ near z (z (56 + 7 * o + 3) - 1) (z (56 + 7 * e + 3) - 1) := ⟨fun q => q.2.2, fun q => ⟨h1, h2, q⟩⟩
theorem ahd_le {d : Nat} {P : Nat → Nat} : ahd z P d ≤ d := by
  have := sum_le (f := fun e => if P e ≠ 0 ∧ near z (z (56 + 7 * d + 3) - 1) (z (56 + 7 * e + 3) - 1) then 1 else 0) (b := 1) d (fun i _ => by split <;> omega)
  unfold ahd
  omega
end MOST2
