section FLD2
/-- the tables' words that stay -/
def lwG : List Cond := lw_tbl.filter goodWord
theorem tix_mem {q : Nat × Nat} {w : Cond} (h : tix q = some w) : w ∈ lw_tbl := by
  unfold tix at h
  have h1 : w ∈ tch.getD q.1 [] := List.mem_of_getElem? h
  have key : ∀ l ∈ tch, w ∈ l → w ∈ lw_tbl := by
    intro l hl hw
    simp only [tch, List.mem_cons, List.not_mem_nil, or_false] at hl
    unfold lw_tbl tables_1
    simp only [List.mem_append]
    rcases hl with rfl | rfl | rfl | rfl | rfl | rfl
    · exact Or.inl hw
    · exact Or.inr (Or.inl hw)
    · exact Or.inr (Or.inr (Or.inl hw))
    · exact Or.inr (Or.inr (Or.inr (Or.inl hw)))
    · exact Or.inr (Or.inr (Or.inr (Or.inr (Or.inl hw))))
    · exact Or.inr (Or.inr (Or.inr (Or.inr (Or.inr hw))))
  by_cases hq : q.1 < tch.length
  · rw [List.getD_eq_getElem?_getD, List.getElem?_eq_getElem hq] at h1
    exact key _ (List.getElem_mem hq) h1
  · rw [List.getD_eq_getElem?_getD, List.getElem?_eq_none (Nat.le_of_not_lt hq)] at h1
    exact absurd h1 List.not_mem_nil
theorem tix_all {ws : List Cond} {ix : List (Nat × Nat)} (h : ws = ix.filterMap tix) (hg : ws.all goodWord = true) : ∀ w ∈ ws, w ∈ lwG := by
  intro w hw
  refine List.mem_filter.mpr ⟨?_, List.all_eq_true.mp hg w hw⟩
  rw [h] at hw
  obtain ⟨q, -, hq⟩ := List.mem_filterMap.mp hw
  exact tix_mem hq
theorem cl_in : ∀ (ci : Nat) (q : vw_C), vwCl[ci]? = some q → ∀ w ∈ u_ws q.1 q.2.1 q.2.2, w ∈ lwG := by
  intro ci q h
  match ci, h with
  | 0, h => cases h; exact tix_all uw_X1 ug_X1
  | 1, h => cases h; exact tix_all uw_X3 ug_X3
  | 2, h => cases h; exact tix_all uw_X4 ug_X4
  | 3, h => cases h; exact tix_all uw_X5 ug_X5
  | 4, h => cases h; exact tix_all uw_X6 ug_X6
  | 5, h => cases h; exact tix_all uw_X7 ug_X7
  | 6, h => cases h; exact tix_all uw_X8 ug_X8
  | 7, h => cases h; exact tix_all uw_X9 ug_X9
  | 8, h => cases h; exact tix_all uw_X10 ug_X10
  | n + 9, h => simp [vwCl] at h
theorem cl_get {ci : Nat} (h : ci < 9) : vwCl[ci]? = some (clT ci) := by
  match ci, h with
  | 0, _ => rfl
  | 1, _ => rfl
  | 2, _ => rfl
  | 3, _ => rfl
  | 4, _ => rfl
  | 5, _ => rfl
  | 6, _ => rfl
  | 7, _ => rfl
  | 8, _ => rfl
  | n + 9, h => omega
def tyK (q : Nat) : String := match q with
  | 0 => "I"
  | 1 => "Z"
  | _ => "J"
theorem fc_N : ∀ ci, ci < 9 → (fcode ci).length = (clT ci).2.2 := by decide +kernel
theorem fc_decl : ∀ ci, ci < 9 → ∀ j, j < 18 → j < (clT ci).2.2 → ((clT ci).2.1 j).1 = (clT ci).1 := by decide +kernel
theorem fc_desc : ∀ ci, ci < 9 → ∀ j, j < 18 → j < (clT ci).2.2 → ((fcode ci).getD j (9, 0)).1 < 3 → ((clT ci).2.1 j).2.2.1 = tyK ((fcode ci).getD j (9, 0)).1 ∧ ((clT ci).2.1 j).2.2.2 = false := by decide +kernel
theorem fc_max : ∀ ci, ci < 9 → (clT ci).2.2 ≤ 18 := by decide +kernel
theorem nm_all : ∀ ci, ci < 9 → ∀ a, a < (clT ci).2.2 → ∀ b, b < (clT ci).2.2 → a ≠ b → ((clT ci).2.1 a).2.1 ≠ ((clT ci).2.1 b).2.1 := by
  intro ci h
  match ci, h with
  | 0, _ => exact nmX1
  | 1, _ => exact nmX3
  | 2, _ => exact nmX4
  | 3, _ => exact nmX5
  | 4, _ => exact nmX6
  | 5, _ => exact nmX7
  | 6, _ => exact nmX8
  | 7, _ => exact nmX9
  | 8, _ => exact nmX10
  | n + 9, h => omega
def tyA (ci : Nat) : Nat → FieldType := ([tyX1, tyX3, tyX4, tyX5, tyX6, tyX7, tyX8, tyX9, tyX10] : List (Nat → FieldType)).getD ci tyX0
theorem ty_all : ∀ ci, ci < 9 → ∀ k, k < (clT ci).2.2 → parseFieldDescriptor ((clT ci).2.1 k).2.2.1 = some (tyA ci k) := by
  intro ci h
  match ci, h with
  | 0, _ => exact tyX1_ok
  | 1, _ => exact tyX3_ok
  | 2, _ => exact tyX4_ok
  | 3, _ => exact tyX5_ok
  | 4, _ => exact tyX6_ok
  | 5, _ => exact tyX7_ok
  | 6, _ => exact tyX8_ok
  | 7, _ => exact tyX9_ok
  | 8, _ => exact tyX10_ok
  | n + 9, h => omega
/-- a pool's entry fits the layout -/
def entOK (e : Ent) : Bool := match e with
  | (0, ci, j, _) => Nat.blt ci 9 && decide ((fcode ci)[j]? = some (0, 0))
  | (1, ci, j, _) => Nat.blt ci 9 && decide ((fcode ci)[j]? = some (1, 0))
  | (2, ci, j, _) => Nat.blt ci 9 && decide ((fcode ci)[j]? = some (2, 0))
  | (3, ci, j, .ref o) => Nat.blt ci 9 && decide ((fcode ci)[j]? = some (3, o))
  | (3, _, _, _) => false
  | (4, n, na, .ref ci) => (Nat.blt ci 9 || Nat.beq ci 29) && Nat.blt n 116 && Nat.blt 0 na && decide ((parseMethodDescriptor (yN n).desc).map (fun d => d.parameters.length + 1) = some na) && (mrec n).2.2.2.isEmpty
  | (9, n, na, _) => Nat.blt n 116 && decide ((parseMethodDescriptor (yN n).desc).map (fun d => d.parameters.length) = some na)
  | (10, n, na, _) => Nat.blt n 116 && decide ((parseMethodDescriptor (yN n).desc).map (fun d => d.parameters.length) = some na) && (mrec n).2.2.2.isEmpty
  | (5, id, _, _) => Nat.blt id 4
  | (7, k, _, _) => decide (k = 1 ∨ k = 2 ∨ k = 3)
  | (8, ci, j, _) => decide (ci = 29 ∧ (j = 0 ∨ j = 1))
  | (12, k, _, _) => decide (k = 400 ∨ k = 402 ∨ k = 411)
  | _ => true
/-- entries that link a nest mate's private member -/
def entNest (own : String) (ix : Nat) (e : Ent) : Prop := (e.1 = 11 → own = "OrganCorners$OrderText" ∧ ix = 19 ∧ e.2.1 = 401) ∧ (e.1 = 10 → (own = "OrganCorners$Outlook" ∧ ix = 28 ∨ own = "OrganCorners$Town" ∧ ix = 162) ∧ e.2.1 = nX10_holds)
/-- what is known of a pool -/
def PF (own : String) (pl : Nat → Ent) : Prop := ∀ ix, entOK (pl ix) = true ∧ (∀ w ∈ entWs own ix (pl ix), w ∈ lwG) ∧ entNest own ix (pl ix)
theorem plk_or {l : List (Nat × Ent)} {ix : Nat} : plk l ix = (99, 0, 0, .null) ∨ (ix, plk l ix) ∈ l := by
  induction l with
  | nil => exact Or.inl rfl
  | cons a l ih =>
    obtain ⟨i, e⟩ := a
    unfold plk
    cases h : Nat.beq i ix
    · rcases ih with h1 | h1
      · exact Or.inl h1
      · exact Or.inr (List.mem_cons_of_mem _ h1)
    · have := Nat.eq_of_beq_eq_true h
      subst this
      exact Or.inr List.mem_cons_self
theorem PF_of {own : String} {l : List (Nat × Ent)} {ixs : List (List (Nat × Nat))} (hk : l.map (fun q => entWs own q.1 q.2) = ixs.map (fun is => is.filterMap tix)) (hg : (l.map (fun q => entWs own q.1 q.2)).all (fun l => l.all goodWord) = true) (he : l.all (fun q => entOK q.2) = true) (hn : ∀ q ∈ l, entNest own q.1 q.2) : PF own (plk l) := by
  intro ix
  rcases plk_or (l := l) (ix := ix) with h | h
  · rw [h]
    exact ⟨rfl, fun w hw => absurd hw List.not_mem_nil, (⟨fun h => absurd h (by decide), fun h => absurd h (by decide)⟩ : entNest own ix (99, 0, 0, .null))⟩
  · refine ⟨List.all_eq_true.mp he _ h, ?_⟩
    have h1 : entWs own ix (plk l ix) ∈ l.map (fun q => entWs own q.1 q.2) := List.mem_map.mpr ⟨_, h, rfl⟩
    have h2 := List.all_eq_true.mp hg _ h1
    rw [hk] at h1
    obtain ⟨is, -, hi⟩ := List.mem_map.mp h1
    exact ⟨tix_all hi.symm h2, hn _ h⟩
theorem pf_L : PF RL pl_L := PF_of ek_L eg_L (by decide +kernel) (by unfold entNest; decide +kernel)
theorem pf_X1 : PF RX1 pl_X1 := PF_of ek_X1 eg_X1 (by decide +kernel) (by unfold entNest; decide +kernel)
theorem pf_X2 : PF RX2 pl_X2 := PF_of ek_X2 eg_X2 (by decide +kernel) (by unfold entNest; decide +kernel)
theorem pf_X3 : PF RX3 pl_X3 := PF_of ek_X3 eg_X3 (by decide +kernel) (by unfold entNest; decide +kernel)
theorem pf_X4 : PF RX4 pl_X4 := PF_of ek_X4 eg_X4 (by decide +kernel) (by unfold entNest; decide +kernel)
theorem pf_X5 : PF RX5 pl_X5 := PF_of ek_X5 eg_X5 (by decide +kernel) (by unfold entNest; decide +kernel)
theorem pf_X6 : PF RX6 pl_X6 := PF_of ek_X6 eg_X6 (by decide +kernel) (by unfold entNest; decide +kernel)
theorem pf_X7 : PF RX7 pl_X7 := PF_of ek_X7 eg_X7 (by decide +kernel) (by unfold entNest; decide +kernel)
theorem pf_X8 : PF RX8 pl_X8 := PF_of ek_X8 eg_X8 (by decide +kernel) (by unfold entNest; decide +kernel)
theorem pf_X9 : PF RX9 pl_X9 := PF_of ek_X9 eg_X9 (by decide +kernel) (by unfold entNest; decide +kernel)
theorem pf_X10 : PF RX10 pl_X10 := PF_of ek_X10 eg_X10 (by decide +kernel) (by unfold entNest; decide +kernel)
end FLD2
