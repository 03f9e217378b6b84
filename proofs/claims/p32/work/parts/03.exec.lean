/-! WHAT A RUN OF THE PURE INTERPRETER COMES TO: fuel, and its limit -/
section EXEC
def prun : Nat → Nat → Nat → PS → Option PO
  | 0, _, _, _ => none
  | n + 1, m, lv, s => match mtab m with
    | none => none
    | some M => match pstep M s with
      | none => none
      | some (.inl s') => prun n m lv s'
      | some (.inr (.inr o)) => some o
      | some (.inr (.inl (c, as, pc, ls, st, μ))) =>
        if lvl c as < lv then (match prun n c (lvl c as) (0, entryL (mxl c) as, [], μ) with
          | none => none
          | some o => match aft M pc ls st o with
            | some (.inl s') => prun n m lv s'
            | some (.inr (.inr o2)) => some o2
            | _ => none)
        else none
theorem prun_mono : ∀ (n m lv : Nat) (s : PS) (o : PO), prun n m lv s = some o → prun (n + 1) m lv s = some o := by
  intro n
  induction n with
  | zero => intro m lv s o h; simp [prun] at h
  | succ n ih =>
    intro m lv s o h
    rw [prun] at h ⊢
    cases hM : mtab m with
    | none => rw [hM] at h; cases h
    | some M =>
      rw [hM] at h
      simp only at h ⊢
      cases hs : pstep M s with
      | none => rw [hs] at h; cases h
      | some r =>
        rw [hs] at h
        match r, h with
        | .inl s', h => exact ih _ _ _ _ h
        | .inr (.inr o'), h => exact h
        | .inr (.inl (c, as, pc, ls, st, μ)), h =>
          simp only at h ⊢
          by_cases hl : lvl c as < lv
          · rw [if_pos hl] at h ⊢
            cases ho : prun n c (lvl c as) (0, entryL (mxl c) as, [], μ) with
            | none => rw [ho] at h; cases h
            | some o1 =>
              rw [ho] at h
              rw [ih _ _ _ _ ho]
              simp only at h ⊢
              cases ha : aft M pc ls st o1 with
              | none => rw [ha] at h; cases h
              | some r2 =>
                rw [ha] at h
                match r2, h with
                | .inl s', h => exact ih _ _ _ _ h
                | .inr (.inr o2), h => exact h
                | .inr (.inl x), h => cases h
          · rw [if_neg hl] at h; cases h
theorem prun_le {n k m lv : Nat} {s : PS} {o : PO} (h : prun n m lv s = some o) (hk : n ≤ k) : prun k m lv s = some o := by
  induction hk with
  | refl => exact h
  | step _ ih => exact prun_mono _ _ _ _ _ ih
theorem prun_det {n k m lv : Nat} {s : PS} {o o' : PO} (h : prun n m lv s = some o) (h' : prun k m lv s = some o') : o = o' := by
  have h1 := prun_le h (Nat.le_max_left n k)
  have h2 := prun_le h' (Nat.le_max_right n k)
  rw [h1] at h2
  exact Option.some.inj h2
/-- the run's outcome, from a state of method m at level lv -/
noncomputable def Exec (m lv : Nat) (s : PS) : Option PO := @dite (Option PO) (∃ o n, prun n m lv s = some o) (Classical.propDecidable _) (fun h => some h.choose) (fun _ => none)
theorem Exec_of {n m lv : Nat} {s : PS} {o : PO} (h : prun n m lv s = some o) : Exec m lv s = some o := by
  have hx : ∃ o n, prun n m lv s = some o := ⟨o, n, h⟩
  rw [Exec, dif_pos hx]
  obtain ⟨k, hk⟩ := hx.choose_spec
  exact congrArg some (prun_det hk h)
theorem Exec_iff {m lv : Nat} {s : PS} {o : PO} : Exec m lv s = some o ↔ ∃ n, prun n m lv s = some o := by
  constructor
  · intro h
    unfold Exec at h
    split at h
    · rename_i hx
      obtain ⟨k, hk⟩ := hx.choose_spec
      rw [Option.some.inj h] at hk
      exact ⟨k, hk⟩
    · cases h
  · rintro ⟨n, h⟩; exact Exec_of h
theorem Exec_ext {m lv m' lv' : Nat} {s s' : PS} (h : ∀ o, (∃ n, prun n m lv s = some o) ↔ ∃ n, prun n m' lv' s' = some o) : Exec m lv s = Exec m' lv' s' := by
  have key : ∀ o, Exec m lv s = some o ↔ Exec m' lv' s' = some o := fun o => by rw [Exec_iff, Exec_iff]; exact h o
  cases h1 : Exec m lv s with
  | none =>
    cases h2 : Exec m' lv' s' with
    | none => rfl
    | some o => rw [(key o).mpr h2] at h1; cases h1
  | some o => exact ((key o).mp h1).symm
theorem Exec_step1 {m lv : Nat} {M : MI} {s s' : PS} (hM : mtab m = some M) (h : pstep M s = some (.inl s')) : Exec m lv s = Exec m lv s' := by
  refine Exec_ext fun o => ⟨?_, ?_⟩
  · rintro ⟨n, hn⟩
    cases n with
    | zero => simp [prun] at hn
    | succ n => rw [prun, hM] at hn; simp only [h] at hn; exact ⟨n, hn⟩
  · rintro ⟨n, hn⟩
    exact ⟨n + 1, by rw [prun, hM]; simp only [h]; exact hn⟩
theorem Exec_done1 {m lv : Nat} {M : MI} {s : PS} {o : PO} (hM : mtab m = some M) (h : pstep M s = some (.inr (.inr o))) : Exec m lv s = some o :=
  Exec_of (n := 1) (by rw [prun, hM]; simp only [h])
/-- a method's call -/
noncomputable def Den (m : Nat) (as : List Value) (μ : PM) : Option PO := Exec m (lvl m as) (0, entryL (mxl m) as, [], μ)
theorem Exec_call1 {m lv c pc : Nat} {as ls st : List Value} {μ : PM} {M : MI} {s s' : PS} {o : PO} (hM : mtab m = some M) (h : pstep M s = some (.inr (.inl (c, as, pc, ls, st, μ)))) (hl : lvl c as < lv) (hd : Den c as μ = some o) (ha : aft M pc ls st o = some (.inl s')) : Exec m lv s = Exec m lv s' := by
  obtain ⟨k, hk⟩ := Exec_iff.mp hd
  refine Exec_ext fun o2 => ⟨?_, ?_⟩
  · rintro ⟨n, hn⟩
    cases n with
    | zero => simp [prun] at hn
    | succ n =>
      rw [prun, hM] at hn
      simp only [h, if_pos hl] at hn
      split at hn
      · cases hn
      · rename_i o1 ho
        cases prun_det ho hk
        rw [ha] at hn
        exact ⟨n, hn⟩
  · rintro ⟨n, hn⟩
    refine ⟨max n k + 1, ?_⟩
    rw [prun, hM]
    simp only [h, if_pos hl, prun_le hk (Nat.le_max_right n k), ha]
    exact prun_le hn (Nat.le_max_left n k)
theorem Exec_callT1 {m lv c pc : Nat} {as ls st : List Value} {μ : PM} {M : MI} {s : PS} {o o2 : PO} (hM : mtab m = some M) (h : pstep M s = some (.inr (.inl (c, as, pc, ls, st, μ)))) (hl : lvl c as < lv) (hd : Den c as μ = some o) (ha : aft M pc ls st o = some (.inr (.inr o2))) : Exec m lv s = some o2 := by
  obtain ⟨k, hk⟩ := Exec_iff.mp hd
  refine Exec_of (n := k + 1) ?_
  rw [prun, hM]
  simp only [h, if_pos hl, hk, ha]
theorem pblk_run {m lv : Nat} {M : MI} (hM : mtab m = some M) : ∀ (n : Nat) (s : PS) (r : Option SR), pblk M n s = r → ∃ s', Exec m lv s = Exec m lv s' ∧ pstep M s' = r := by
  intro n
  induction n with
  | zero => intro s r h; exact ⟨s, rfl, h⟩
  | succ n ih =>
    intro s r h
    rw [pblk] at h
    split at h
    · rename_i s1 h1
      obtain ⟨s', e, h'⟩ := ih _ _ h
      exact ⟨s', (Exec_step1 hM h1).trans e, h'⟩
    · exact ⟨s, rfl, h⟩
/-- straight on -/
theorem xN {m lv : Nat} {M : MI} (n : Nat) {s s' : PS} (hM : mtab m = some M) (h : pblk M n s = some (.inl s')) : Exec m lv s = Exec m lv s' := by
  obtain ⟨t, e, h'⟩ := pblk_run (lv := lv) hM _ _ _ h
  exact e.trans (Exec_step1 hM h')
/-- the end -/
theorem xD {m lv : Nat} {M : MI} (n : Nat) {s : PS} {o : PO} (hM : mtab m = some M) (h : pblk M n s = some (.inr (.inr o))) : Exec m lv s = some o := by
  obtain ⟨t, e, h'⟩ := pblk_run (lv := lv) hM _ _ _ h
  exact e.trans (Exec_done1 hM h')
/-- a branch -/
theorem xB {m lv : Nat} {M : MI} (n : Nat) {s a b : PS} {c : Prop} [Decidable c] (hM : mtab m = some M) (h : pblk M n s = if c then some (.inl a) else some (.inl b)) : Exec m lv s = if c then Exec m lv a else Exec m lv b := by
  obtain ⟨t, e, h'⟩ := pblk_run (lv := lv) hM _ _ _ h
  rw [e]
  by_cases hc : c
  · rw [if_pos hc] at h' ⊢; exact Exec_step1 hM h'
  · rw [if_neg hc] at h' ⊢; exact Exec_step1 hM h'
/-- a check that holds, straight on -/
theorem xC {m lv : Nat} {M : MI} (n : Nat) {s s' : PS} {r : Option SR} {c : Prop} [Decidable c] (hc : c) (hM : mtab m = some M) (h : pblk M n s = if c then some (.inl s') else r) : Exec m lv s = Exec m lv s' := by
  rw [if_pos hc] at h
  exact xN n hM h
theorem xCD {m lv : Nat} {M : MI} (n : Nat) {s : PS} {o : PO} {r : Option SR} {c : Prop} [Decidable c] (hc : c) (hM : mtab m = some M) (h : pblk M n s = if c then some (.inr (.inr o)) else r) : Exec m lv s = some o := by
  rw [if_pos hc] at h
  exact xD n hM h
/-- a call -/
theorem xI {m lv c pc : Nat} {as ls st : List Value} {μ : PM} {M : MI} (n : Nat) {s s' : PS} {o : PO} (hM : mtab m = some M) (h : pblk M n s = some (.inr (.inl (c, as, pc, ls, st, μ)))) (hl : lvl c as < lv) (hd : Den c as μ = some o) (ha : aft M pc ls st o = some (.inl s')) : Exec m lv s = Exec m lv s' := by
  obtain ⟨t, e, h'⟩ := pblk_run (lv := lv) hM _ _ _ h
  exact e.trans (Exec_call1 hM h' hl hd ha)
theorem xIC {m lv c pc : Nat} {as ls st : List Value} {μ : PM} {M : MI} (n : Nat) {s s' : PS} {o : PO} {r : Option SR} {q : Prop} [Decidable q] (hc : q) (hM : mtab m = some M) (h : pblk M n s = if q then some (.inr (.inl (c, as, pc, ls, st, μ))) else r) (hl : lvl c as < lv) (hd : Den c as μ = some o) (ha : aft M pc ls st o = some (.inl s')) : Exec m lv s = Exec m lv s' := by
  rw [if_pos hc] at h
  exact xI n hM h hl hd ha
/-- a call that throws on -/
theorem xT {m lv c pc : Nat} {as ls st : List Value} {μ : PM} {M : MI} (n : Nat) {s : PS} {o o2 : PO} (hM : mtab m = some M) (h : pblk M n s = some (.inr (.inl (c, as, pc, ls, st, μ)))) (hl : lvl c as < lv) (hd : Den c as μ = some o) (ha : aft M pc ls st o = some (.inr (.inr o2))) : Exec m lv s = some o2 := by
  obtain ⟨t, e, h'⟩ := pblk_run (lv := lv) hM _ _ _ h
  exact e.trans (Exec_callT1 hM h' hl hd ha)
theorem xTC {m lv c pc : Nat} {as ls st : List Value} {μ : PM} {M : MI} (n : Nat) {s : PS} {o o2 : PO} {r : Option SR} {q : Prop} [Decidable q] (hc : q) (hM : mtab m = some M) (h : pblk M n s = if q then some (.inr (.inl (c, as, pc, ls, st, μ))) else r) (hl : lvl c as < lv) (hd : Den c as μ = some o) (ha : aft M pc ls st o = some (.inr (.inr o2))) : Exec m lv s = some o2 := by
  rw [if_pos hc] at h
  exact xT n hM h hl hd ha
end EXEC
