/-! A RUN OF THE PURE INTERPRETER IS A RUN OF THE MACHINE -/
section SIMR
variable {p : Program} {l : Launch} {e : Env} {R : Room} {s : State} {m : MethodId} {args : Array Value} {below : List Frame} {meth : Method} {c : Code} {H H0 : Heap} {locs : List Loc} {cells slots : Nat} {Q : State → Prop} {nL : Nat}
variable {N0 : Nat} {L : Nat → Nat} {D : va_G} {cA : Nat → ClassId} {pc pc' : Nat} {ls : Array Slot} {pl pl' st st' as : List Value} {μ μ' μ0 : PM} {n d lvd ix : Nat} {M Md : MI} {o : PO}
/-- what an outcome says: the script stays, things are only made, a throw is dear -/
def Ok (μ : PM) (o : PO) : Prop := Sc μ o.2 ∧ μ.2.2.2 ≤ o.2.2.2.2 ∧ ∀ k, o.1 = .inr k → 1000000 ≤ o.2.2.2.2
theorem art_mu {rt : Nat} (h : art rt st μ = some (.inr (.inr o))) : ∃ v, o = (.inl v, μ) := by
  unfold art at h
  split at h
  · cases h; exact ⟨_, rfl⟩
  · cases h; exact ⟨_, rfl⟩
  · cases h
theorem drt_mu {rt : Nat} (h : drt rt st μ = some (.inr (.inr o))) : ∃ v, o = (.inl v, μ) := by
  unfold drt at h
  split at h
  · cases h; exact ⟨_, rfl⟩
  · cases h
theorem jrt_mu {rt : Nat} (h : jrt rt st μ = some (.inr (.inr o))) : ∃ v, o = (.inl v, μ) := by
  unfold jrt at h
  split at h
  · cases h; exact ⟨_, rfl⟩
  · cases h
theorem vrt_mu {rt : Nat} (h : vrt rt st μ = some (.inr (.inr o))) : ∃ v, o = (.inl v, μ) := by
  unfold vrt at h
  split at h
  · cases h; exact ⟨_, rfl⟩
  · cases h
theorem irt_mu {rt : Nat} (h : irt rt st μ = some (.inr (.inr o))) : ∃ v, o = (.inl v, μ) := by
  unfold irt at h
  split at h
  · split at h
    · cases h; exact ⟨_, rfl⟩
    · split at h
      · cases h; exact ⟨_, rfl⟩
      · cases h
    · cases h
  · cases h
theorem thr_inv {cs : Chunks} {pool : Nat → Ent} {x : PCl ⊕ PO} (h : thr cs pool pc ix st μ = some (.inr x)) : ∃ k z, pool ix = (7, k, z) ∧ st = [] ∧ x = .inr (.inr k, exM μ) := by
  unfold thr at h
  split at h
  · rename_i k a b he
    have key : (bif st.isEmpty then some (.inr (.inr (.inr k, (μ.1, μ.2.1, μ.2.2.1, μ.2.2.2 + 1000000)))) else none : Option SR) = some (.inr x) → st = [] ∧ x = .inr (.inr k, exM μ) := by
      intro h
      cases hq : st.isEmpty
      · rw [hq] at h; cases h
      · rw [hq] at h
        cases h
        exact ⟨List.isEmpty_iff.mp hq, rfl⟩
    split at h
    · split at h
      · split at h
        · exact ⟨k, (a, b), he, key h⟩
        · cases h
      · split at h
        · exact ⟨k, (a, b), he, key h⟩
        · cases h
      · cases h
    · cases h
  · cases h
theorem aft_mu {ls st : List Value} {o1 : PO} {s' : PS} (h : aft M pc ls st o1 = some (.inl s')) : s'.2.2.2 = o1.2 := by
  unfold aft at h
  split at h
  · cases h; rfl
  · cases h; rfl
  · split at h
    · cases h
    · split at h
      · rename_i n _ _
        unfold st1 at h
        cases hq : Nat.blt n ls.length && okS ls n <;> rw [hq] at h
        · cases h
        · cases h; rfl
      · rename_i n _ _
        unfold st1 at h
        cases hq : Nat.blt (n : Nat) ls.length && okS ls n <;> rw [hq] at h
        · cases h
        · cases h; rfl
      · cases h
theorem aft_end {ls st : List Value} {o1 o2 : PO} (h : aft M pc ls st o1 = some (.inr (.inr o2))) : ∃ k, o1.1 = .inr k ∧ o2 = (.inr k, o1.2) ∧ hfind M.2.2.2.2 pc k = none := by
  unfold aft at h
  split at h
  · cases h
  · cases h
  · split at h
    · rename_i hn
      cases h; exact ⟨_, rfl, rfl, hn⟩
    · split at h
      · exact (st1_no h).elim
      · exact (st1_no h).elim
      · cases h
theorem call_mu {i : Instr} {ln : Nat} {ls2 st2 as2 : List Value} {μ2 : PM} (h : pex M i ln pc pl st μ = some (.inr (.inl (d, as2, pc', ls2, st2, μ2)))) : μ2 = μ := by
  rcases pex_inr h with ⟨ix, -, h⟩ | ⟨ix, -, h⟩ | ⟨ix, -, h⟩ | ⟨-, h⟩ | ⟨-, h⟩ | ⟨-, h⟩ | ⟨-, h⟩ | ⟨-, h⟩
  · obtain ⟨_, _, _, _, _, _, _, _, _, _, _, q⟩ := ivV_call h; exact q.symm
  · obtain ⟨_, _, _, _, _, _, _, _, _, _, _, q⟩ := ivS_call h; exact q.symm
  · obtain ⟨_, _, _, _, q⟩ := thr_inv h; cases q
  · unfold art at h; split at h <;> cases h
  · unfold drt at h; split at h <;> cases h
  · unfold irt at h
    split at h
    · split at h
      · cases h
      · split at h <;> cases h
      · cases h
    · cases h
  · unfold jrt at h; split at h <;> cases h
  · unfold vrt at h; split at h <;> cases h
theorem end_ok {i : Instr} {ln : Nat} (hM : mtab n = some M) (h : pex M i ln pc pl st μ = some (.inr (.inr o))) : Ok μ o := by
  have key : (∃ v, o = (.inl v, μ)) → Ok μ o := by
    rintro ⟨v, rfl⟩
    exact ⟨Sc.rf, Nat.le_refl _, fun k hk => by cases hk⟩
  rcases pex_inr h with ⟨ix, -, h⟩ | ⟨ix, -, h⟩ | ⟨ix, -, h⟩ | ⟨-, h⟩ | ⟨-, h⟩ | ⟨-, h⟩ | ⟨-, h⟩ | ⟨-, h⟩
  · exact (ivV_ret h).elim
  · exact (ivS_ret h).elim
  · obtain ⟨k, z, he, -, hx⟩ := thr_inv h
    cases hx
    exact ⟨⟨rfl, rfl⟩, Nat.le_add_right _ _, fun j hj => Nat.le_add_left _ _⟩
  · exact key (art_mu h)
  · exact key (drt_mu h)
  · exact key (irt_mu h)
  · exact key (jrt_mu h)
  · exact key (vrt_mu h)
theorem prun_ok : ∀ (f n lv : Nat) (ps : PS) (o : PO), prun f n lv ps = some o → Ok ps.2.2.2 o := by
  intro f
  induction f with
  | zero => intro n lv ps o h; cases h
  | succ f ih =>
    intro n lv ps o h
    rw [prun] at h
    cases hM : mtab n with
    | none => rw [hM] at h; cases h
    | some M =>
      rw [hM] at h
      obtain ⟨pc, pl, st, μ⟩ := ps
      simp only at h
      have hstep : ∀ r, pstep M (pc, pl, st, μ) = some r → ∃ i ln, lk2 M.1 pc = some (i, ln) ∧ pex M i ln pc pl st μ = some r := by
        intro r hr
        unfold pstep at hr
        simp only at hr
        split at hr
        · cases hr
        · rename_i i ln hl
          exact ⟨i, ln, hl, hr⟩
      split at h
      · cases h
      · rename_i s' hs
        obtain ⟨h1, h2, h3⟩ := ih _ _ _ _ h
        obtain ⟨k1, k2⟩ := pstep_sc hs
        exact ⟨k1.tr h1, Nat.le_trans k2 h2, h3⟩
      · rename_i o1 hs
        cases h
        obtain ⟨i, ln, -, hp⟩ := hstep _ hs
        exact end_ok hM hp
      · rename_i d as pc1 ls1 st1 μ1 hs
        obtain ⟨i, ln, -, hp⟩ := hstep _ hs
        have hμ := call_mu hp
        subst hμ
        split at h
        · split at h
          · cases h
          · rename_i o1 ho
            obtain ⟨a1, a2, a3⟩ := ih _ _ _ _ ho
            split at h
            · rename_i s' ha
              obtain ⟨h1, h2, h3⟩ := ih _ _ _ _ h
              rw [aft_mu ha] at h1 h2
              exact ⟨a1.tr h1, Nat.le_trans a2 h2, h3⟩
            · rename_i o2 ha
              cases h
              obtain ⟨k, hk, rfl, -⟩ := aft_end ha
              exact ⟨a1, a2, fun j hj => a3 j (by rw [hk]; exact hj)⟩
            · cases h
        · cases h
/-! the entry -/
theorem lay_len : ∀ as : List Value, (lg_sl (as.map (lf L))).length = (layA as).length := by
  intro as
  induction as with
  | nil => rfl
  | cons v r ih =>
    unfold lg_sl at ih ⊢
    rw [List.map_cons, List.flatMap_cons, List.length_append, ih]
    cases v <;> simp [layA, cat1, lf, Value.category] <;> omega
theorem lay_get : ∀ (as : List Value) (i : Nat) (v : Value), (layA as)[i]? = some v → (∀ n, v ≠ .retAddr n) → (lg_sl (as.map (lf L)))[i]? = some (.val (lf L v)) := by
  intro as
  induction as with
  | nil => intro i v h; cases h
  | cons a r ih =>
    intro i v h hv
    unfold lg_sl at ih ⊢
    rw [List.map_cons, List.flatMap_cons]
    cases hc : cat1 a
    · rw [layA, hc] at h
      have hq : (lf L a).category = 2 := by cases a <;> first | rfl | cases hc
      rw [if_pos hq]
      match i, h with
      | 0, h => cases h; rfl
      | 1, h => cases h; exact absurd rfl (hv 0)
      | i + 2, h => exact ih i v h hv
    · rw [layA, hc] at h
      have hq : ¬ (lf L a).category = 2 := by cases a <;> first | (intro q; cases q; done) | cases hc
      rw [if_neg hq]
      match i, h with
      | 0, h => cases h; rfl
      | i + 1, h => exact ih i v h hv
theorem entry_LR (h : (layA as).length ≤ nL) : LR L nL (entryL nL as) ((lg_sl (as.map (lf L)) ++ List.replicate (nL - (lg_sl (as.map (lf L))).length) Slot.unset).toArray) := by
  have hl := lv_entry (as.map (lf L)) (n := nL) (by rw [lay_len]; exact h)
  refine ⟨?_, hl.1, hl.2.1, fun i v hi hv => ?_⟩
  · unfold entryL
    rw [List.length_append, List.length_replicate]; omega
  · unfold entryL at hi
    by_cases hq : i < (layA as).length
    · rw [List.getElem?_append_left hq] at hi
      rw [List.getElem?_toArray, List.getElem?_append_left (by rw [lay_len]; exact hq)]
      exact lay_get as i v hi hv
    · rw [List.getElem?_append_right (Nat.le_of_not_lt hq), List.getElem?_replicate] at hi
      split at hi
      · cases hi; exact absurd rfl (hv 0)
      · cases hi
end SIMR
