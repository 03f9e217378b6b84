/-! SEMANTICS: calls that change the state -/
section MUT
def Mut (N : Nat) (z : Nat → Nat) (sv : Nat) (zs : Nat → Nat → Nat) (c : Option PO) (m : PM → Option PO) (μ : PM) : Prop :=
  ∃ (v : Int32) (z' : Nat → Nat) (old' : Nat) (μ1 : PM), c = rI v μ1 ∧ μ1.2 = μ.2 ∧ RT 23 z' μ1 ∧ RingC old' (nxt sv) (pushZ zs sv z) μ1 ∧ Okz (N + 20) z' ∧ (∀ x, (x = 3 ∨ x = 4 ∨ x = 12 ∨ x = 13 ∨ x = 15 ∨ x = 16 ∨ x = 390 ∨ x = 21) → mI μ1 x = mI μ x) ∧
    ∀ μ' : PM, mI μ' 13 = zI z → RingM sv zs μ' → ∃ μ2, m μ' = rI v μ2 ∧ μ2.2 = μ'.2 ∧ mI μ2 13 = zI z' ∧ RingM (nxt sv) (pushZ zs sv z) μ2 ∧ (∀ x, (x = 1 ∨ x = 3 ∨ x = 4 ∨ x = 16 ∨ (23 ≤ x ∧ x < 345) ∨ x = 390) → mI μ2 x = mI μ' x) ∧ (mI μ2 12 15 = mI μ' 12 15 ∧ mI μ2 21 0 = mI μ' 21 0) ∧ mI μ2 12 16 = 0
/-- .. or an exception on both sides -/
def Exc (c : Option PO) (m : PM → Option PO) (μ : PM) (code : Nat → Option Int32) : Prop :=
  ∃ (k : Nat) (w : Int32), code k = some w ∧ w ≠ 0 ∧ c = some (.inr k, exM μ) ∧ ∀ μ', mI μ' 13 = mI μ 13 → mI μ' 12 14 = mI μ 12 14 → m μ' = rI 0 (stI (stI μ' 12 16 0) 12 16 w)
theorem pushZ_ok {N N' : Nat} {sv : Nat} {zs : Nat → Nat → Nat} {z : Nat → Nat} (h6 : sv ≤ 6) (hz : Okz N z) (hs : ∀ k, k < sv → Okz N (zs k)) (hn : N ≤ N') : ∀ k, k < nxt sv → Okz N' (pushZ zs sv z k) := by
  intro k hk
  unfold nxt at hk
  unfold pushZ
  by_cases h : sv = 6
  · rw [if_pos h] at hk ⊢
    by_cases e : k = 5
    · show Okz N' (if k = 5 then z else zs (k + 1))
      rw [if_pos e]
      exact hz.mono hn
    · show Okz N' (if k = 5 then z else zs (k + 1))
      rw [if_neg e]
      exact (hs (k + 1) (by omega)).mono hn
  · rw [if_neg h] at hk ⊢
    by_cases e : k = sv
    · show Okz N' (if k = sv then z else zs k)
      rw [if_pos e]
      exact hz.mono hn
    · show Okz N' (if k = sv then z else zs k)
      rw [if_neg e]
      exact (hs k (by omega)).mono hn
theorem Op.ofMut {cl md : PM → Option PO} {c : PM → Option PO} {code : Nat → Option Int32}
    (hA : ∀ (N : Nat) (μ : PM) (z : Nat → Nat) (old sv : Nat) (zs : Nat → Nat → Nat), N ≤ 20000 → mI μ 13 = zI z → RT 23 z μ → Okz N z → RingC old sv zs μ → Exc (c μ) md μ code ∨ Mut N z sv zs (c μ) md μ)
    (hcl : ∀ μ, ∃ g : Nat → PM → Option PO, cl μ = bH (c μ) (fun v μ1 => some (.inl (some (.int 0)), stJ μ1 22 0 v.toInt64)) g ∧ ∀ k w μ1, code k = some w → g k μ1 = rI w μ1) : Op cl md := by
  intro N μ hN hJ
  have hJ0 := hJ
  obtain ⟨z, old, sv, zs, n, s, h1, h2, h3, h4, h5, h6, h7⟩ := hJ
  obtain ⟨g, hg, hgk⟩ := hcl μ
  rcases hA N μ z old sv zs hN h1 h2 h3 h4 with ⟨k, w, k1, k3, e1, e2⟩ | ⟨v, z', old', μ1, a1, a2, a3, a4, a5, a6, a7⟩
  · refine ⟨w, 0, exM μ, _, ?_, e2 _ rfl rfl, ?_, fun q => absurd q k3, (Jn.same (Sm.ex.trans (Sm.thr.trans Sm.thr)) hJ0).mono (by omega), ?_, rfl, ?_, rfl, rfl⟩
    · rw [hg, e1]; exact hgk k w _ k1
    · rw [st_get, if_pos ⟨rfl, rfl⟩]
    · show μ.2.2.2 + 1 ≤ μ.2.2.2 + 3
      omega
    · rw [stI_ne _ _ _ (by decide), stI_ne _ _ _ (by decide)]; rfl
  · have hM : RingM sv zs (stJ μ1 22 0 v.toInt64) := by
      obtain ⟨q1, q2, q3⟩ := h5
      refine ⟨q1, ?_, fun k hk i hi => ?_⟩
      · show mI μ1 12 14 = _
        rw [a6 12 (by decide), q2]
      · show mI μ1 15 _ = _
        rw [a6 15 (by decide), q3 k hk i hi]
    obtain ⟨μ2, b1, b2, b3, b4, b5, b6, b7⟩ := a7 (stJ μ1 22 0 v.toInt64) (by show mI μ1 13 = _; rw [a6 13 (by decide), h1]) hM
    have b2' : μ2.2.2 = μ.2.2 := by
      have e1 : μ2.2.2 = (stJ μ1 22 0 v.toInt64).2.2 := congrArg Prod.snd b2
      rw [e1]
      show μ1.2.2 = _
      rw [a2]
    refine ⟨0, v, stJ μ1 22 0 v.toInt64, μ2, ?_, b1, b7, fun _ => ?_, ⟨z', old', nxt sv, pushZ zs sv z, n, s, b3, ?_, a5, ?_, b4, pushZ_ok h5.1 h3 h6 (by omega), ?_⟩, ?_, ?_, ?_, ?_, ?_⟩
    · rw [hg, a1]; rfl
    · show mJ μ2 22 0 = _
      have e1 : mJ μ2 = mJ (stJ μ1 22 0 v.toInt64) := congrArg Prod.fst b2
      rw [e1]
      rfl
    · exact RT_fr (fun x y hx hx2 => by rw [b5 x (by omega)]; rfl) a3
    · obtain ⟨q1, q2, q3, q4, q5⟩ := a4
      refine ⟨q1, q2, by rw [b5 1 (Or.inl rfl)]; exact q3, by rw [b5 1 (Or.inl rfl)]; exact q4, fun k hk => RT_fr (fun x y hx hx2 => ?_) (q5 k hk)⟩
      have := Nat.mod_lt (old' + k) (show 6 > 0 by decide)
      rw [b5 x (by omega)]
      rfl
    · obtain ⟨q1, q2, q3, q4⟩ := h7
      refine ⟨q1, ?_, ⟨?_, ?_⟩, fun i hi => ?_⟩
      · rw [b5 3 (by decide)]
        show mI μ1 3 1 = _
        rw [a6 3 (by decide), q2]
      · rw [b6.1]
        show mI μ1 12 15 = _
        rw [a6 12 (by decide), q3.1]
      · rw [b6.2]
        show mI μ1 21 0 = _
        rw [a6 21 (by decide), q3.2]
      · rw [b5 4 (by decide), b5 16 (by decide)]
        show mI μ1 4 i = _ ∧ mI μ1 16 i = _ ∧ _
        rw [a6 4 (by decide), a6 16 (by decide)]
        exact q4 i hi
    · rw [b2']
      exact Nat.le_add_right _ _
    · rw [b2']
    · rw [b5 390 (by decide)]
      show mI μ1 390 = _
      rw [a6 390 (by decide)]
    · show μ1.2.2.1 = _
      rw [a2]
    · show mI μ1 390 = _
      rw [a6 390 (by decide)]
end MUT
