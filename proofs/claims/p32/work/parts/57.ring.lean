/-! SEMANTICS: the saved towns and the saved rows -/
section RING
variable {z : Nat → Nat} {μ μ' : PM}
theorem RT_fr {t : Nat} (e : ∀ x y, t ≤ x → x < t + 46 → mI μ' x y = mI μ x y) (h : RT t z μ) : RT t z μ' := by
  obtain ⟨⟨⟨q4, q5, q6, q7, q8, q9⟩, q10, q11, q12, q13, q14⟩, qs, qc, qo, qp⟩ := h
  refine ⟨⟨⟨?_, ?_, ?_, ?_, ?_, ?_⟩, ?_, ?_, ?_, ?_, ?_⟩, fun i hi => ?_, fun c hc => ⟨fun w hw => ?_, fun w hw => ?_⟩, fun o ho => ⟨fun w hw h3 => ?_, ?_, ?_⟩, fun p hp => ⟨?_, fun w h1 hw => ?_, fun o ho => ?_⟩⟩
  · rw [e _ _ (by omega) (by omega), q4]
  · rw [e _ _ (by omega) (by omega), q5]
  · rw [e _ _ (by omega) (by omega), q6]
  · rw [e _ _ (by omega) (by omega), q7]
  · rw [e _ _ (by omega) (by omega), q8]
  · rw [e _ _ (by omega) (by omega), q9]
  · rw [e _ _ (by omega) (by omega), q10]
  · rw [e _ _ (by omega) (by omega), q11]
  · rw [e _ _ (by omega) (by omega), q12]
  · rw [e _ _ (by omega) (by omega), q13]
  · rw [e _ _ (by omega) (by omega), q14]
  · rw [e _ _ (by omega) (by omega), qs i hi]
  · rw [e _ _ (by omega) (by omega), (qc c hc).1 w hw]
  · rw [e _ _ (by omega) (by omega), (qc c hc).2 w hw]
  · rw [e _ _ (by omega) (by omega), (qo o ho).1 w hw h3]
  · rw [e _ _ (by omega) (by omega), (qo o ho).2.1]
  · rw [e _ _ (by omega) (by omega), (qo o ho).2.2]
  · rw [e _ _ (by omega) (by omega), (qp p hp).1]
  · rw [e _ _ (by omega) (by omega), (qp p hp).2.1 w h1 hw]
  · rw [e _ _ (by omega) (by omega), (qp p hp).2.2 o ho]
theorem bV_r {f : PM → Option PO} : bV (some (.inl none, μ)) f = f μ := rfl
/-- the states saved, oldest first, and one more -/
def pushZ (zs : Nat → Nat → Nat) (sv : Nat) (z : Nat → Nat) : Nat → Nat → Nat := if sv = 6 then fun k => if k = 5 then z else zs (k + 1) else fun k => if k = sv then z else zs k
def nxt (sv : Nat) : Nat := if sv = 6 then 6 else sv + 1
def RingC (old sv : Nat) (zs : Nat → Nat → Nat) (μ : PM) : Prop := old < 6 ∧ sv ≤ 6 ∧ mI μ 1 1 = Int32.ofNat old ∧ mI μ 1 2 = Int32.ofNat sv ∧ ∀ k, k < sv → RT (69 + 46 * ((old + k) % 6)) (zs k) μ
def RingM (sv : Nat) (zs : Nat → Nat → Nat) (μ : PM) : Prop := sv ≤ 6 ∧ mI μ 12 14 = Int32.ofNat sv ∧ ∀ k, k < sv → ∀ i, i < 213 → mI μ 15 (213 * k + i) = Int32.ofNat (zs k i)
theorem isT_r {k : Nat} (h : k < 6) : isT (69 + 46 * k) := ⟨k + 1, by omega, by omega⟩
theorem isT_23 : isT 23 := ⟨0, by decide, rfl⟩
theorem t_save {old sv : Nat} {zs : Nat → Nat → Nat} (hr : RT 23 z μ) (hb : Bd z) (hg : RingC old sv zs μ) : ∃ μ' old', d_Sav_save μ = some (.inl none, μ') ∧ μ'.2 = μ.2 ∧ (∀ x, x ≠ 1 → (x < 69 ∨ 345 ≤ x) → ∀ y, mI μ' x y = mI μ x y) ∧ (∀ j, j ≠ 1 → j ≠ 2 → mI μ' 1 j = mI μ 1 j) ∧ RingC old' (nxt sv) (pushZ zs sv z) μ' := by
  obtain ⟨h1, h2, h3, h4, h5⟩ := hg
  have hm : (old + sv) % 6 < 6 := Nat.mod_lt _ (by decide)
  have e1 : (Int32.ofNat old + Int32.ofNat sv) - (Int32.ofNat old + Int32.ofNat sv) / 6 * 6 = Int32.ofNat ((old + sv) % 6) := by
    rw [i3_add]
    exact i3_rem (b := 6) (by omega) (by decide)
  obtain ⟨μ1, a1, a2, a3, a4⟩ := y_town (isT_r hm) isT_23 (by omega) hr hb
  have g1 : mI μ1 1 1 = Int32.ofNat old := by rw [a3 _ _ (by omega), h3]
  have g2 : mI μ1 1 2 = Int32.ofNat sv := by rw [a3 _ _ (by omega), h4]
  have other : ∀ k, k < 6 → k ≠ (old + sv) % 6 → ∀ zz, RT (69 + 46 * k) zz μ → RT (69 + 46 * k) zz μ1 := fun k hk hne zz hz => RT_fr (fun x y hx hx2 => a3 x y (by omega)) hz
  rw [e_Sav_save, h3, h4, e1, chk_t (i3_inb hm (by decide)), i3_nat (by omega), a1, bV_r, g1, g2]
  by_cases h : sv = 6
  · subst h
    have e2 : (Int32.ofNat old + 1) - (Int32.ofNat old + 1) / 6 * 6 = Int32.ofNat ((old + 1) % 6) := by
      rw [i3_add1]
      exact i3_rem (b := 6) (by omega) (by decide)
    rw [if_pos (by decide), e2]
    refine ⟨_, (old + 1) % 6, rfl, a2, fun x hx hx2 y => ?_, fun j hj hj2 => ?_, Nat.mod_lt _ (by decide), by decide, ?_, ?_, fun k hk => ?_⟩
    · rw [stI_ne _ _ _ hx, a3 _ _ (by omega)]
    · rw [st_get, if_neg (fun q => hj q.2), a3 _ _ (by omega)]
    · rw [st_get, if_pos ⟨rfl, rfl⟩]
    · rw [st_get, if_neg (fun q => by omega), g2]; rfl
    · have hk6 : k < 6 := hk
      have hst : ∀ kk zz, kk < 6 → RT (69 + 46 * kk) zz μ1 → RT (69 + 46 * kk) zz (stI μ1 1 1 (Int32.ofNat ((old + 1) % 6))) := fun kk zz hkk hz => RT_fr (fun x y hx hx2 => by rw [stI_ne _ _ _ (by omega)]) hz
      refine hst _ _ (Nat.mod_lt _ (by decide)) ?_
      unfold pushZ
      rw [if_pos rfl]
      by_cases e : k = 5
      · subst e
        have e3 : ((old + 1) % 6 + 5) % 6 = (old + 6) % 6 := by omega
        rw [if_pos rfl, e3]
        exact a4
      · have e3 : ((old + 1) % 6 + k) % 6 = (old + (k + 1)) % 6 := by omega
        rw [if_neg e, e3]
        exact other _ (Nat.mod_lt _ (by decide)) (by omega) _ (h5 (k + 1) (by omega))
  · rw [if_neg (show ¬ (6 : Int32) ≤ Int32.ofNat sv from le_n (a := 6) (by omega) (by decide)), i3_add1]
    refine ⟨_, old, rfl, a2, fun x hx hx2 y => ?_, fun j hj hj2 => ?_, h1, by unfold nxt; rw [if_neg h]; omega, ?_, ?_, fun k hk => ?_⟩
    · rw [stI_ne _ _ _ hx, a3 _ _ (by omega)]
    · rw [st_get, if_neg (fun q => hj2 q.2), a3 _ _ (by omega)]
    · rw [st_get, if_neg (fun q => by omega), g1]
    · rw [st_get, if_pos ⟨rfl, rfl⟩]; unfold nxt; rw [if_neg h]
    · unfold nxt at hk
      rw [if_neg h] at hk
      have hst : ∀ kk zz, kk < 6 → RT (69 + 46 * kk) zz μ1 → RT (69 + 46 * kk) zz (stI μ1 1 2 (Int32.ofNat (sv + 1))) := fun kk zz hkk hz => RT_fr (fun x y hx hx2 => by rw [stI_ne _ _ _ (by omega)]) hz
      refine hst _ _ (Nat.mod_lt _ (by decide)) ?_
      unfold pushZ
      rw [if_neg h]
      by_cases e : k = sv
      · subst e
        rw [if_pos rfl]
        exact a4
      · rw [if_neg e]
        exact other _ (Nat.mod_lt _ (by decide)) (by omega) _ (h5 k (by omega))
end RING
