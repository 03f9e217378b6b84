/-! CONSTRUCTORS: the same thing at another number -/
section CTORG
variable {D : va_G} {cA : Nat → ClassId} {L L' : Nat → Nat} {k k' a : Nat} {H : Heap}
theorem cls_no : ∀ k, k < 345 → cls k < 9 ∨ 20 ≤ cls k := by decide +kernel
theorem ent_shift (hk : k < 345) (hly : ly k' = ly k) (hin : in0 k' = in0 k) (hf : ∀ q ∈ fcode (cls k), q.1 = 3 → L (k + q.2) = L' (k' + q.2)) (hr : 22 ≤ cls k → ∀ x, x < len k → L (eN k x) = L' (eN k' x)) (h : va_at D vwCl (a, entW L cA m0 k) H) : va_at D vwCl (a, entW L' cA m0 k') H := by
  have hc : cls k' = cls k := congrArg Prod.fst hly
  have hl : len k' = len k := congrArg Prod.snd hly
  unfold entW at h ⊢
  rw [hc, hl]
  by_cases h1 : cls k < 9
  · rw [if_pos h1] at h ⊢
    have : flds L' m0 k' (cls k) = flds L m0 k (cls k) := by
      unfold flds
      refine List.ext_getElem? fun i => ?_
      rw [List.getElem?_mapIdx, List.getElem?_mapIdx]
      cases hq : (fcode (cls k))[i]? with
      | none => rfl
      | some q =>
        have hm := List.mem_of_getElem? hq
        have hi : mI m0 k' i = mI m0 k i := congrFun hin i
        have h9 := hf q hm
        show some (fval L' m0 k' i q) = some (fval L m0 k i q)
        obtain ⟨q1, q2⟩ := q
        match q1, h9 with
        | 0, _ => exact congrArg (fun z => some (Value.int z)) hi
        | 1, _ => exact congrArg (fun z => some (Value.int z)) hi
        | 2, _ => rfl
        | 3, h9 => exact congrArg (fun z => some (Value.ref z)) (h9 rfl).symm
        | _ + 4, _ => exact congrArg (fun z => some (Value.int z)) hi
    rw [this]
    exact h
  · rw [if_neg h1] at h ⊢
    by_cases h2 : cls k = 20 ∨ cls k = 31
    · rw [if_pos h2] at h ⊢
      exact at_extI h (fun j _ => (congrFun hin j).symm)
    · rw [if_neg h2] at h ⊢
      by_cases h3 : cls k = 21
      · rw [if_pos h3] at h ⊢
        exact h
      · rw [if_neg h3] at h ⊢
        refine at_extR h (fun j hj => ?_)
        by_cases h4 : 22 ≤ cls k
        · rw [hr h4 j hj]
        · exact absurd (cls_no k hk) (by omega)
theorem beqF {x y : Nat} (h : x ≠ y) : Nat.beq x y = false := by
  cases e : Nat.beq x y with
  | false => rfl
  | true => exact absurd (Nat.eq_of_beq_eq_true e) h
theorem in0_shift (hly : ly k' = ly k) (h2 : Nat.blt 22 k' = Nat.blt 22 k) (h3 : (k' - 23) % 46 = (k - 23) % 46) : in0 k' = in0 k := by
  have hc : cls k' = cls k := congrArg Prod.fst hly
  funext j
  unfold in0
  rw [hc, h2, h3]
theorem tw_ly : ∀ i, i < 6 → ∀ j, j < 46 → ly (69 + 46 * i + j) = ly (23 + j) := by decide +kernel
theorem tw_f : ∀ j, j < 46 → ∀ q ∈ fcode (cls (23 + j)), q.1 = 3 → j + q.2 < 46 := by decide +kernel
theorem tw_e : ∀ j, j < 46 → 22 ≤ cls (23 + j) → ∀ x, x < len (23 + j) → 23 ≤ eN (23 + j) x ∧ eN (23 + j) x < 69 := by decide +kernel
theorem tw_n : ∀ i, i < 6 → ∀ j, j < 46 → 22 ≤ cls (23 + j) → ∀ x, x < len (23 + j) → eN (69 + 46 * i + j) x = eN (23 + j) x + 46 * (i + 1) := by decide +kernel
theorem tw_shift {i j : Nat} (hi : i < 6) (hj : j < 46) (hL : ∀ x, x < 46 → L (23 + x) = L' (69 + 46 * i + x)) (h : va_at D vwCl (a, entW L cA m0 (23 + j)) H) : va_at D vwCl (a, entW L' cA m0 (69 + 46 * i + j)) H := by
  have hly := tw_ly i hi j hj
  refine ent_shift (by omega) hly (in0_shift hly ?_ (by omega)) (fun q hq h3 => ?_) (fun hc x hx => ?_) h
  · have h1 : Nat.blt 22 (69 + 46 * i + j) = true := Nat.blt_eq.mpr (by omega)
    have h2 : Nat.blt 22 (23 + j) = true := Nat.blt_eq.mpr (by omega)
    rw [h1, h2]
  · have := tw_f j hj q hq h3
    have e := hL (j + q.2) this
    rw [← Nat.add_assoc, ← Nat.add_assoc] at e
    exact e
  · obtain ⟨b1, b2⟩ := tw_e j hj hc x hx
    rw [tw_n i hi j hj hc x hx]
    have e := hL (eN (23 + j) x - 23) (by omega)
    have e1 : 23 + (eN (23 + j) x - 23) = eN (23 + j) x := by omega
    have e2 : 69 + 46 * i + (eN (23 + j) x - 23) = eN (23 + j) x + 46 * (i + 1) := by omega
    rw [e1, e2] at e
    exact e
theorem fl_len {grp : (Nat → Nat) → va_W} {m : Nat} (hm : ∀ g, (grp g).length = m) {h : Nat → Nat → Nat} : ∀ n, (fl grp n h).length = m * n := by
  intro n
  induction n with
  | zero => rfl
  | succ n ih =>
    have : fl grp (n + 1) h = fl grp n h ++ grp (h n) := by
      unfold fl
      rw [List.range_succ, List.flatMap_append]
      simp
    rw [this, List.length_append, ih, hm, Nat.mul_succ]
theorem fl_get {grp : (Nat → Nat) → va_W} {m : Nat} (hm : ∀ g, (grp g).length = m) {h : Nat → Nat → Nat} {i j : Nat} (hj : j < m) : ∀ n, i < n → (fl grp n h)[m * i + j]? = (grp (h i))[j]? := by
  intro n
  induction n with
  | zero => intro hi; omega
  | succ n ih =>
    intro hi
    have e : fl grp (n + 1) h = fl grp n h ++ grp (h n) := by
      unfold fl
      rw [List.range_succ, List.flatMap_append]
      simp
    rw [e]
    by_cases h1 : i < n
    · rw [List.getElem?_append_left (by
        rw [fl_len hm]
        have : m * (i + 1) ≤ m * n := Nat.mul_le_mul_left m h1
        rw [Nat.mul_succ] at this
        omega)]
      exact ih h1
    · have h2 : i = n := by omega
      subst h2
      rw [List.getElem?_append_right (by rw [fl_len hm]; omega), fl_len hm, Nat.add_sub_cancel_left]
def gSv (q q1 : Nat) (hT : Nat → Nat → Nat) (i : Nat) : Nat := match i with
  | 0 => q | 1 => q1 | i + 2 => hT (i / 46) (i % 46)
def grpS (cA : Nat → ClassId) (g : Nat → Nat) : va_W := (g 0, .inr (6, [.ref (g 1), .int 0, .int 0])) :: (g 1, .inl (cA 26, 6, .inr (.inr (.inr (.inr (fun i => some (g (46 * i + 2)))))))) :: SL cA (fun k => g (k - 67)) 69 276
def SWo (cA : Nat → ClassId) (q q1 : Nat) (hT : Nat → Nat → Nat) : va_W := (q, .inr (6, [.ref q1, .int 0, .int 0])) :: (q1, .inl (cA 26, 6, .inr (.inr (.inr (.inr (ar 6 hT)))))) :: fl (grpT cA) 6 hT
theorem grpT_len {g : Nat → Nat} : (grpT cA g).length = 46 := SL_len
theorem SW_P {q q1 : Nat} {hT : Nat → Nat → Nat} (h : va_P D vwCl (SWo cA q q1 hT) H) : va_P D vwCl (grpS cA (gSv q q1 hT)) H := by
  intro k x hx
  match k, hx with
  | 0, hx => cases hx; exact h 0 _ rfl
  | 1, hx =>
    cases hx
    refine at_extR (h 1 _ rfl) (fun j hj => ?_)
    unfold ar
    rw [if_pos hj]
    show some (hT j 0) = some (hT ((46 * j) / 46) ((46 * j) % 46))
    rw [Nat.mul_div_cancel_left _ (by decide), Nat.mul_mod_right]
  | k + 2, hx =>
    obtain ⟨hk, rfl⟩ := SL_get (show (SL cA (fun k => gSv q q1 hT (k - 67)) 69 276)[k]? = some x from hx)
    have hi : k / 46 < 6 := by omega
    have hj : k % 46 < 46 := by omega
    have ek : 46 * (k / 46) + k % 46 = k := by omega
    have h2 : (SWo cA q q1 hT)[k + 2]? = some (hT (k / 46) (k % 46), entW (fun z => hT (k / 46) (z - 23)) cA m0 (23 + k % 46)) := by
      show (fl (grpT cA) 6 hT)[k]? = _
      have := fl_get (grp := grpT cA) (h := hT) (fun g => grpT_len) hj 6 hi
      rw [ek] at this
      rw [this]
      refine (SL_at hj).trans ?_
      show some (hT (k / 46) (23 + k % 46 - 23), _) = _
      rw [Nat.add_sub_cancel_left]
    have h3 := h (k + 2) _ h2
    have h4 := tw_shift (L' := fun k => gSv q q1 hT (k - 67)) hi hj (fun x hx => by
      show hT (k / 46) (23 + x - 23) = gSv q q1 hT (69 + 46 * (k / 46) + x - 67)
      have e : 69 + 46 * (k / 46) + x - 67 = (46 * (k / 46) + x) + 2 := by omega
      rw [e, Nat.add_sub_cancel_left]
      show _ = hT ((46 * (k / 46) + x) / 46) ((46 * (k / 46) + x) % 46)
      have e1 : (46 * (k / 46) + x) / 46 = k / 46 := by omega
      have e2 : (46 * (k / 46) + x) % 46 = x := by omega
      rw [e1, e2]) h3
    have e3 : 69 + 46 * (k / 46) + k % 46 = 69 + k := by omega
    rw [e3] at h4
    have e4 : gSv q q1 hT (69 + k - 67) = hT (k / 46) (k % 46) := by
      have : 69 + k - 67 = k + 2 := by omega
      rw [this]
      rfl
    show va_at D vwCl (gSv q q1 hT (69 + k - 67), _) H
    rw [e4]
    exact h4
theorem SW_D {A : Nat → Prop} {q q1 : Nat} {hT : Nat → Nat → Nat} (h : va_D A (SWo cA q q1 hT)) : va_D A (grpS cA (gSv q q1 hT)) := by
  refine D_ext h (List.ext_getElem? fun k => ?_)
  rw [List.getElem?_map, List.getElem?_map]
  match k with
  | 0 => rfl
  | 1 => rfl
  | k + 2 =>
    show ((SL cA (fun k => gSv q q1 hT (k - 67)) 69 276)[k]?).map Prod.fst = ((fl (grpT cA) 6 hT)[k]?).map Prod.fst
    by_cases hk : k < 276
    · have hi : k / 46 < 6 := by omega
      have hj : k % 46 < 46 := by omega
      have ek : 46 * (k / 46) + k % 46 = k := by omega
      have := fl_get (grp := grpT cA) (h := hT) (fun g => grpT_len) hj 6 hi
      rw [ek] at this
      rw [this, SL_at hk]
      have h2 : (grpT cA (hT (k / 46)))[k % 46]? = _ := SL_at hj
      rw [h2]
      show some (gSv q q1 hT (69 + k - 67)) = some (hT (k / 46) (23 + k % 46 - 23))
      have : 69 + k - 67 = k + 2 := by omega
      rw [this, Nat.add_sub_cancel_left]
      rfl
    · rw [List.getElem?_eq_none (by rw [SL_len]; omega), List.getElem?_eq_none (by rw [fl_len (m := 46) (fun g => grpT_len)]; omega)]
end CTORG
