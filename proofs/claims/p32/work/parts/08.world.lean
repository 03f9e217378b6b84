/-! THE WORLD OF THE MACHINE THAT A PURE MEMORY STANDS FOR -/
section WORLD
/-- a value, its reference moved to the machine's address -/
def lf (L : Nat → Nat) (v : Value) : Value := match v with
  | .ref k => .ref (L k)
  | v => v
/-- fields of a class: kind (0 int, 1 boolean, 2 long, 3 reference), and how far behind -/
def fcode : Nat → List (Nat × Nat)
  | 0 => [(0, 0), (0, 0), (0, 0), (0, 0), (3, 1)]
  | 1 => [(3, 1), (0, 0)]
  | 2 => [(0, 0), (1, 0), (0, 0), (0, 0), (0, 0), (0, 0), (0, 0), (0, 0)]
  | 3 => [(3, 1), (3, 2), (0, 0), (0, 0)]
  | 4 => [(3, 1), (3, 2), (3, 3)]
  | 5 => [(0, 0), (0, 0), (0, 0), (0, 0), (3, 1)]
  | 6 => [(3, 1), (0, 0), (0, 0)]
  | 7 => [(3, 1), (3, 2), (3, 3), (3, 4), (0, 0), (0, 0), (0, 0), (0, 0), (0, 0), (1, 0), (0, 0), (0, 0), (0, 0), (0, 0), (0, 0)]
  | 8 => [(3, 23), (3, 1), (3, 3), (3, 5), (3, 9)]
  | 9 => [(3, 1), (3, 2), (3, 3), (3, 4), (3, 5), (3, 6), (3, 7), (3, 8), (3, 9), (0, 0), (0, 0), (0, 0), (0, 0), (0, 0), (0, 0), (0, 0), (0, 0), (2, 0)]
  | _ => []
def fval (L : Nat → Nat) (μ : PM) (k j : Nat) (q : Nat × Nat) : Value := match q.1 with
  | 2 => .long (mJ μ k j)
  | 3 => .ref (L (k + q.2))
  | _ => .int (mI μ k j)
def flds (L : Nat → Nat) (μ : PM) (k c : Nat) : List Value := (fcode c).mapIdx (fun j q => fval L μ k j q)
def entW (L : Nat → Nat) (cA : Nat → ClassId) (μ : PM) (k : Nat) : va_E :=
  if cls k < 9 then .inr (cls k, flds L μ k (cls k))
  else if cls k = 20 ∨ cls k = 31 then .inl (cA 20, len k, .inl (mI μ k))
  else if cls k = 21 then .inl (cA 21, len k, .inr (.inl (mJ μ k)))
  else .inl (cA (cls k), len k, .inr (.inr (.inr (.inr (fun i => some (L (eN k i)))))))
/-- the numbers of the things in a world, by their places -/
def nm (i : Nat) : Nat := if i < 19 then i else if i < 341 then i + 4 else i + 89
def ixN (k : Nat) : Nat := if k < 19 then k else if k < 345 then k - 4 else k - 89
/-- numbers that have a place -/
def Fx (k : Nat) : Prop := k < 19 ∨ (23 ≤ k ∧ k < 345) ∨ 430 ≤ k
def Inn (μ : PM) (k : Nat) : Prop := k < 19 ∨ (23 ≤ k ∧ k < 345) ∨ (430 ≤ k ∧ k < 430 + μ.2.2.2)
theorem Inn.fx {μ : PM} {k : Nat} (h : Inn μ k) : Fx k := by
  rcases h with h | h | h
  · exact Or.inl h
  · exact Or.inr (Or.inl h)
  · exact Or.inr (Or.inr h.1)
theorem nm_ix {k : Nat} (h : Fx k) : nm (ixN k) = k := by
  unfold nm ixN
  rcases h with h | h | h
  · rw [if_pos h, if_pos h]
  · rw [if_neg (show ¬ k < 19 by omega), if_pos h.2, if_neg (show ¬ k - 4 < 19 by omega), if_pos (show k - 4 < 341 by omega)]; omega
  · rw [if_neg (show ¬ k < 19 by omega), if_neg (show ¬ k < 345 by omega), if_neg (show ¬ k - 89 < 19 by omega), if_neg (show ¬ k - 89 < 341 by omega)]; omega
theorem nm_fx (i : Nat) : Fx (nm i) := by
  unfold nm Fx
  split
  · exact Or.inl (by assumption)
  · split
    · right; left; omega
    · right; right; omega
theorem ix_nm (i : Nat) : ixN (nm i) = i := by
  unfold nm ixN
  split
  · rfl
  · split
    · rw [if_neg (by omega), if_pos (by omega)]; omega
    · rw [if_neg (by omega), if_neg (by omega)]; omega
theorem nm_inj {i j : Nat} (h : nm i = nm j) : i = j := by rw [← ix_nm i, h, ix_nm]
theorem ix_lt {μ : PM} {k : Nat} (h : Inn μ k) : ixN k < 341 + μ.2.2.2 := by
  unfold ixN
  rcases h with h | h | h
  · rw [if_pos h]; omega
  · rw [if_neg (show ¬ k < 19 by omega), if_pos h.2]; omega
  · rw [if_neg (show ¬ k < 19 by omega), if_neg (show ¬ k < 345 by omega)]; omega
theorem nm_in {μ : PM} {i : Nat} (h : i < 341 + μ.2.2.2) : Inn μ (nm i) := by
  unfold nm Inn
  split
  · exact Or.inl (by assumption)
  · split
    · right; left; omega
    · right; right; omega
def WS (L : Nat → Nat) (cA : Nat → ClassId) (μ : PM) : va_W := (List.range (341 + μ.2.2.2)).map (fun i => (L (nm i), entW L cA μ (nm i)))
theorem WS_at {L : Nat → Nat} {cA : Nat → ClassId} {μ : PM} {i : Nat} (h : i < 341 + μ.2.2.2) : (WS L cA μ)[i]? = some (L (nm i), entW L cA μ (nm i)) := by
  simp [WS, h]
theorem WS_get {L : Nat → Nat} {cA : Nat → ClassId} {μ : PM} {k : Nat} (h : Inn μ k) : (WS L cA μ)[ixN k]? = some (L k, entW L cA μ k) := by
  rw [WS_at (ix_lt h), nm_ix h.fx]
theorem WS_len {L : Nat → Nat} {cA : Nat → ClassId} {μ : PM} : (WS L cA μ).length = 341 + μ.2.2.2 := by simp [WS]
theorem WS_inv {L : Nat → Nat} {cA : Nat → ClassId} {μ : PM} {i : Nat} {q : Nat × va_E} (h : (WS L cA μ)[i]? = some q) : Inn μ (nm i) ∧ q = (L (nm i), entW L cA μ (nm i)) := by
  have hk : i < 341 + μ.2.2.2 := by
    have := (List.getElem?_eq_some_iff.mp h).1
    rwa [WS_len] at this
  rw [WS_at hk] at h
  exact ⟨nm_in hk, (Option.some.inj h).symm⟩
theorem WS_set {L : Nat → Nat} {cA : Nat → ClassId} {μ μ' : PM} {k : Nat} {e : va_E} (hk0 : Fx k) (hm : μ'.2.2.2 = μ.2.2.2) (he : entW L cA μ' k = e) (ho : ∀ j, j ≠ k → entW L cA μ' j = entW L cA μ j) : (WS L cA μ).set (ixN k) (L k, e) = WS L cA μ' := by
  apply List.ext_getElem?
  intro i
  by_cases hi : i = ixN k
  · subst hi
    by_cases hk : ixN k < 341 + μ.2.2.2
    · rw [List.getElem?_set_self (by rw [WS_len]; exact hk), WS_at (by rw [hm]; exact hk), nm_ix hk0, he]
    · rw [List.getElem?_eq_none (by rw [List.length_set, WS_len]; omega), List.getElem?_eq_none (by rw [WS_len]; omega)]
  · rw [List.getElem?_set_ne (Ne.symm hi)]
    by_cases hk : i < 341 + μ.2.2.2
    · rw [WS_at hk, WS_at (by rw [hm]; exact hk), ho (nm i) (fun q => hi (by rw [← ix_nm i, q]))]
    · rw [List.getElem?_eq_none (by rw [WS_len]; omega), List.getElem?_eq_none (by rw [WS_len]; omega)]
theorem fval_congr {L : Nat → Nat} {μ μ' : PM} {k : Nat} (h1 : mI μ' k = mI μ k) (h2 : mJ μ' k = mJ μ k) (j : Nat) (q : Nat × Nat) : fval L μ' k j q = fval L μ k j q := by
  unfold fval; rw [h1, h2]
theorem entW_congr {L : Nat → Nat} {cA : Nat → ClassId} {μ μ' : PM} {k : Nat} (h1 : mI μ' k = mI μ k) (h2 : mJ μ' k = mJ μ k) : entW L cA μ' k = entW L cA μ k := by
  unfold entW flds; rw [h1, h2]
  simp only [fval_congr h1 h2]
theorem entW_obj {L : Nat → Nat} {cA : Nat → ClassId} {μ : PM} {k ci : Nat} (h : cls k = ci) (hc : ci < 9) : entW L cA μ k = .inr (ci, flds L μ k ci) := by
  unfold entW; rw [h, if_pos hc]
theorem entW_ints {L : Nat → Nat} {cA : Nat → ClassId} {μ : PM} {k : Nat} (h : cls k = 20 ∨ cls k = 31) : entW L cA μ k = .inl (cA 20, len k, .inl (mI μ k)) := by
  unfold entW; rw [if_neg (by omega), if_pos h]
theorem entW_longs {L : Nat → Nat} {cA : Nat → ClassId} {μ : PM} {k : Nat} (h : cls k = 21) : entW L cA μ k = .inl (cA 21, len k, .inr (.inl (mJ μ k))) := by
  unfold entW; rw [h, if_neg (by decide), if_neg (by decide), if_pos rfl]
theorem entW_refs {L : Nat → Nat} {cA : Nat → ClassId} {μ : PM} {k c : Nat} (h : cls k = c) (hc : 22 ≤ c ∧ c ≠ 31) : entW L cA μ k = .inl (cA c, len k, .inr (.inr (.inr (.inr (fun i => some (L (eN k i))))))) := by
  unfold entW; rw [h, if_neg (by omega), if_neg (by omega), if_neg (by omega)]
theorem cls_in {μ : PM} {k : Nat} (h : cls k < 25 ∨ cls k = 26) : Inn μ k := by
  have h1 := cls_lt h
  by_cases h2 : k < 19
  · exact Or.inl h2
  · by_cases h3 : 23 ≤ k
    · exact Or.inr (Or.inl ⟨h3, h1⟩)
    · exfalso
      have key : ∀ k, k < 23 → 19 ≤ k → cls k = 99 := by decide +kernel
      have := key k (by omega) (by omega)
      omega
theorem ly_dyn (i : Nat) : ly (430 + i) = (31, dl i) := by
  have bl : ∀ n, n ≤ 430 → Nat.blt (430 + i) n = false := fun n hn => by
    cases hb : Nat.blt (430 + i) n
    · rfl
    · have := Nat.blt_eq.mp hb; omega
  have be : ∀ n, n < 430 → Nat.beq (430 + i) n = false := fun n hn => by
    cases hb : Nat.beq (430 + i) n
    · rfl
    · have := Nat.eq_of_beq_eq_true hb; omega
  unfold ly lyTop
  rw [bl 23 (by decide), bl 345 (by decide), be 390 (by decide), be 400 (by decide), be 402 (by decide), be 401 (by decide), bl 410 (by decide), bl 415 (by decide), bl 420 (by decide), bl 430 (by decide)]
  simp only [cond_false]
  rw [Nat.add_sub_cancel_left]
theorem cls_31 {k : Nat} (h : cls k = 31) : 430 ≤ k := by
  by_cases hk : 430 ≤ k
  · exact hk
  · exfalso
    have key : ∀ k, k < 430 → cls k ≠ 31 := by decide +kernel
    exact key k (by omega) h
theorem okA_in {μ : PM} {k : Nat} (h : okA μ k = true) : Inn μ k := by
  rcases okA_c h with h | h
  · exact cls_in (by omega)
  · exact Or.inr (Or.inr ⟨cls_31 h.1, h.2⟩)
theorem okA_or {μ : PM} {k : Nat} (h : okA μ k = true) : cls k = 20 ∨ cls k = 31 := by
  rcases okA_c h with h | h
  · exact Or.inl h
  · exact Or.inr h.1
theorem flds_get {L : Nat → Nat} {μ : PM} {k c j : Nat} {q : Nat × Nat} (h : (fcode c)[j]? = some q) : (flds L μ k c)[j]? = some (fval L μ k j q) := by
  unfold flds; rw [List.getElem?_mapIdx, h]; rfl
theorem flds_len {L : Nat → Nat} {μ : PM} {k c : Nat} : (flds L μ k c).length = (fcode c).length := by unfold flds; rw [List.length_mapIdx]
theorem flds_setI {L : Nat → Nat} {μ : PM} {k c j : Nat} {q : Nat × Nat} {v : Int32} (h : (fcode c)[j]? = some q) (hq : q.1 = 0 ∨ q.1 = 1) : flds L (stI μ k j v) k c = (flds L μ k c).set j (.int v) := by
  apply List.ext_getElem?
  intro i
  unfold flds
  by_cases hi : i = j
  · subst hi
    have hl : i < (fcode c).length := (List.getElem?_eq_some_iff.mp h).1
    rw [List.getElem?_set_self (by rw [List.length_mapIdx]; exact hl), List.getElem?_mapIdx, h]
    simp only [Option.map_some]
    have e : mI (stI μ k i v) k i = v := by rw [stI_self]; simp [upd]
    unfold fval
    rcases hq with hq | hq <;> rw [hq] <;> simp only [e]
  · rw [List.getElem?_set_ne (Ne.symm hi), List.getElem?_mapIdx, List.getElem?_mapIdx]
    congr 1
    funext x
    have e : mI (stI μ k j v) k i = mI μ k i := by rw [stI_self]; simp [upd, hi]
    unfold fval
    rw [e, stI_J]
theorem flds_setJ {L : Nat → Nat} {μ : PM} {k c j : Nat} {q : Nat × Nat} {v : Int64} (h : (fcode c)[j]? = some q) (hq : q.1 = 2) : flds L (stJ μ k j v) k c = (flds L μ k c).set j (.long v) := by
  apply List.ext_getElem?
  intro i
  unfold flds
  by_cases hi : i = j
  · subst hi
    have hl : i < (fcode c).length := (List.getElem?_eq_some_iff.mp h).1
    rw [List.getElem?_set_self (by rw [List.length_mapIdx]; exact hl), List.getElem?_mapIdx, h]
    simp only [Option.map_some]
    have e : mJ (stJ μ k i v) k i = v := by rw [stJ_self]; simp [vp_updL]
    unfold fval
    rw [hq]; simp only [e]
  · rw [List.getElem?_set_ne (Ne.symm hi), List.getElem?_mapIdx, List.getElem?_mapIdx]
    congr 1
    funext x
    have e : mJ (stJ μ k j v) k i = mJ μ k i := by rw [stJ_self]; simp [vp_updL, hi]
    unfold fval
    rw [e, stJ_I]
theorem WS_setI {L : Nat → Nat} {cA : Nat → ClassId} {μ : PM} {k j : Nat} {v : Int32} {e : va_E} (hk0 : Fx k) (he : entW L cA (stI μ k j v) k = e) : (WS L cA μ).set (ixN k) (L k, e) = WS L cA (stI μ k j v) :=
  WS_set hk0 rfl he fun i hi => entW_congr (stI_ne μ j v hi) (by rw [stI_J])
theorem WS_setJ {L : Nat → Nat} {cA : Nat → ClassId} {μ : PM} {k j : Nat} {v : Int64} {e : va_E} (hk0 : Fx k) (he : entW L cA (stJ μ k j v) k = e) : (WS L cA μ).set (ixN k) (L k, e) = WS L cA (stJ μ k j v) :=
  WS_set hk0 rfl he fun i hi => entW_congr (by rw [stJ_I]) (stJ_ne μ j v hi)
/-- locals: what is known of them -/
def LR (L : Nat → Nat) (nL : Nat) (pl : List Value) (ls : Array Slot) : Prop := pl.length = nL ∧ ls.size = nL ∧ lv_wf ls ∧ ∀ (i : Nat) (v : Value), pl[i]? = some v → (∀ n, v ≠ .retAddr n) → ls[i]? = some (.val (lf L v))
def isRA_ (v : Value) : Bool := match v with
  | .retAddr _ => true
  | _ => false
theorem isRA_f {v : Value} (h : isRA_ v = false) : ∀ n, v ≠ .retAddr n := by intro n e; subst e; cases h
def prs (L : Nat → Nat) (pl : List Value) : List (Nat × Value) := pl.zipIdx.filterMap (fun q => if isRA_ q.1 then none else some (q.2, lf L q.1))
theorem prs_mem {L : Nat → Nat} {pl : List Value} {q : Nat × Value} : q ∈ prs L pl ↔ ∃ v, pl[q.1]? = some v ∧ isRA_ v = false ∧ q.2 = lf L v := by
  unfold prs
  rw [List.mem_filterMap]
  constructor
  · rintro ⟨⟨v, i⟩, h1, h2⟩
    have h3 := List.mk_mem_zipIdx_iff_getElem?.mp h1
    cases hv : isRA_ v
    · simp only [hv] at h2
      cases h2
      exact ⟨v, h3, hv, rfl⟩
    · simp only [hv] at h2
      cases h2
  · rintro ⟨v, h1, h2, h3⟩
    refine ⟨(v, q.1), List.mk_mem_zipIdx_iff_getElem?.mpr h1, ?_⟩
    simp only [h2, ← h3]; rfl
theorem LR.has {L : Nat → Nat} {nL : Nat} {pl : List Value} {ls : Array Slot} (h : LR L nL pl ls) : lv_has ls nL (prs L pl) := by
  obtain ⟨h0, h1, h2, h3⟩ := h
  refine ⟨h1, h2, fun q hq => ?_⟩
  obtain ⟨v, e1, e2, e3⟩ := prs_mem.mp hq
  rw [e3]
  exact h3 _ _ e1 (isRA_f e2)
theorem LR.at {L : Nat → Nat} {nL : Nat} {pl : List Value} {ls : Array Slot} (h : LR L nL pl ls) {i : Nat} {v : Value} (hi : pl[i]? = some v) (hv : ∀ n, v ≠ .retAddr n) : ls[i]? = some (.val (lf L v)) := h.2.2.2 i v hi hv
/-- behind a store of a word -/
theorem LR.st1 {L : Nat → Nat} {nL : Nat} {pl : List Value} {ls ls' : Array Slot} {i : Nat} {v w : Value} (h : LR L nL pl ls) (hi : i < pl.length) (hk : okS pl i = true) (hw : (∀ n, v ≠ .retAddr n) → w = lf L v)
    (h' : lv_has ls' nL ((i, w) :: (prs L pl).filter (fun q => !(q.1 == i) && !(q.1 + 1 == i && q.2.category == 2)))) : LR L nL (pl.set i v) ls' := by
  obtain ⟨h0, h1, h2, h3⟩ := h
  obtain ⟨g1, g2, g3⟩ := h'
  refine ⟨by rw [List.length_set]; exact h0, g1, g2, fun j u hj hu => ?_⟩
  by_cases hji : j = i
  · subst hji
    rw [List.getElem?_set_self hi] at hj
    cases hj
    have := g3 (j, w) List.mem_cons_self
    rw [hw hu] at this
    exact this
  · rw [List.getElem?_set_ne (Ne.symm hji)] at hj
    have hr : isRA_ u = false := by
      cases u <;> first | rfl | exact absurd rfl (hu _)
    refine g3 (j, lf L u) (List.mem_cons_of_mem _ (List.mem_filter.mpr ⟨prs_mem.mpr ⟨u, hj, hr, rfl⟩, ?_⟩))
    have e1 : (j == i) = false := by simpa using hji
    simp only [e1, Bool.not_false, Bool.true_and]
    by_cases hj1 : j + 1 = i
    · subst hj1
      simp only [okS, hj] at hk
      have : (lf L u).category ≠ 2 := by
        cases u <;> simp_all [lf, Value.category]
      simp [this]
    · simp [hj1]
theorem LR.st2 {L : Nat → Nat} {nL : Nat} {pl : List Value} {ls ls' : Array Slot} {i : Nat} {v : Value} (h : LR L nL pl ls) (hi : i + 1 < pl.length) (hk : okS pl i = true)
    (h' : lv_has ls' nL ((i, lf L v) :: (prs L pl).filter (fun q => !(q.1 == i) && (!(q.1 == i + 1) && !(q.1 + 1 == i && q.2.category == 2))))) : LR L nL ((pl.set i v).set (i + 1) pU) ls' := by
  obtain ⟨h0, h1, h2, h3⟩ := h
  obtain ⟨g1, g2, g3⟩ := h'
  refine ⟨by rw [List.length_set, List.length_set]; exact h0, g1, g2, fun j u hj hu => ?_⟩
  by_cases hj1 : j = i + 1
  · subst hj1
    rw [List.getElem?_set_self (by rw [List.length_set]; exact hi)] at hj
    cases hj
    exact absurd rfl (hu 0)
  · rw [List.getElem?_set_ne (Ne.symm hj1)] at hj
    by_cases hji : j = i
    · subst hji
      rw [List.getElem?_set_self (by omega)] at hj
      cases hj
      exact g3 (j, lf L v) List.mem_cons_self
    · rw [List.getElem?_set_ne (Ne.symm hji)] at hj
      have hr : isRA_ u = false := by
        cases u <;> first | rfl | exact absurd rfl (hu _)
      refine g3 (j, lf L u) (List.mem_cons_of_mem _ (List.mem_filter.mpr ⟨prs_mem.mpr ⟨u, hj, hr, rfl⟩, ?_⟩))
      have e1 : (j == i) = false := by simpa using hji
      have e2 : (j == i + 1) = false := by simpa using hj1
      simp only [e1, e2, Bool.not_false, Bool.true_and]
      by_cases hj1 : j + 1 = i
      · subst hj1
        simp only [okS, hj] at hk
        have : (lf L u).category ≠ 2 := by
          cases u <;> simp_all [lf, Value.category]
        simp [this]
      · simp [hj1]
end WORLD
