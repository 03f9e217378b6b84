/-! CONSTRUCTORS: the town (wip/p32/genctor25.py) -/
section CTORE
/-- the memory at the start -/
def in0 (k j : Nat) : Int32 := bif Nat.beq (cls k) 7 then (bif Nat.beq j 10 then 1 else 0) else bif Nat.beq (cls k) 2 then (bif Nat.beq j 3 || Nat.beq j 7 then -1 else 0) else bif Nat.beq (cls k) 5 then (bif Nat.beq j 0 then -1 else 0)
  else bif Nat.beq (cls k) 20 && (Nat.blt 22 k && Nat.beq ((k - 23) % 46) 4) then ([20, 2, 20, 25, 5] : List Int32).getD j 0 else 0
def m0 : PM := (in0, fun _ _ => 0, 0, 0)
def SL (cA : Nat → ClassId) (L : Nat → Nat) (k0 n : Nat) : va_W := (List.range n).map (fun i => (L (k0 + i), entW L cA m0 (k0 + i)))
theorem SL_get {cA : Nat → ClassId} {L : Nat → Nat} {k0 n i : Nat} {x : Nat × va_E} (h : (SL cA L k0 n)[i]? = some x) : i < n ∧ x = (L (k0 + i), entW L cA m0 (k0 + i)) := by
  unfold SL at h
  rw [List.getElem?_map] at h
  cases h1 : (List.range n)[i]? with
  | none => rw [h1] at h; cases h
  | some j =>
    rw [h1] at h
    obtain ⟨h2, h3⟩ := List.getElem?_eq_some_iff.mp h1
    rw [List.length_range] at h2
    rw [List.getElem_range] at h3
    subst h3
    exact ⟨h2, (Option.some.inj h).symm⟩
theorem SL_len {cA : Nat → ClassId} {L : Nat → Nat} {k0 n : Nat} : (SL cA L k0 n).length = n := by
  unfold SL
  rw [List.length_map, List.length_range]
theorem SL_at {cA : Nat → ClassId} {L : Nat → Nat} {k0 n i : Nat} (h : i < n) : (SL cA L k0 n)[i]? = some (L (k0 + i), entW L cA m0 (k0 + i)) := by
  unfold SL
  rw [List.getElem?_map, List.getElem?_range h]
  rfl
theorem arrV_ext {c : ClassId} {n : Nat} {f f' : Nat → Value} (e : ∀ j, j < n → f j = f' j) : arrV c n f = arrV c n f' := by
  unfold arrV
  congr 1
  congr 1
  funext j
  exact e j.1 j.2
theorem at_extI {D : va_G} {q : Nat} {c : ClassId} {n : Nat} {f f' : Nat → Int32} {H : Heap} (h : va_at D vwCl (q, .inl (c, n, .inl f)) H) (e : ∀ j, j < n → f j = f' j) : va_at D vwCl (q, .inl (c, n, .inl f')) H := by
  have h1 : H[q]? = some (arrV c n (fun j => .int (f j))) := h
  show H[q]? = some (arrV c n (fun j => .int (f' j)))
  rw [h1]
  exact congrArg some (arrV_ext fun j hj => by rw [e j hj])
theorem at_extR {D : va_G} {q : Nat} {c : ClassId} {n : Nat} {f f' : Nat → Option Nat} {H : Heap} (h : va_at D vwCl (q, .inl (c, n, .inr (.inr (.inr (.inr f))))) H) (e : ∀ j, j < n → f j = f' j) : va_at D vwCl (q, .inl (c, n, .inr (.inr (.inr (.inr f'))))) H := by
  have h1 : H[q]? = some (arrV c n (fun j => va_rf (f j))) := h
  show H[q]? = some (arrV c n (fun j => va_rf (f' j)))
  rw [h1]
  exact congrArg some (arrV_ext fun j hj => by rw [e j hj])
theorem D_ext {A : Nat → Prop} {ws ws' : va_W} (h : va_D A ws) (e : ws'.map Prod.fst = ws.map Prod.fst) : va_D A ws' := by
  have key : ∀ (i : Nat) (x : Nat × va_E), ws'[i]? = some x → ∃ y, ws[i]? = some y ∧ y.1 = x.1 := by
    intro i x hx
    have h1 : (ws'.map Prod.fst)[i]? = some x.1 := by rw [List.getElem?_map, hx]; rfl
    rw [e, List.getElem?_map] at h1
    cases h2 : ws[i]? with
    | none => rw [h2] at h1; cases h1
    | some y => rw [h2] at h1; exact ⟨y, rfl, Option.some.inj h1⟩
  refine ⟨fun i j x y hx hy hxy => ?_, fun i x hx => ?_⟩
  · obtain ⟨x', a1, a2⟩ := key i x hx
    obtain ⟨y', b1, b2⟩ := key j y hy
    exact h.1 i j x' y' a1 b1 (by rw [a2, b2, hxy])
  · obtain ⟨x', a1, a2⟩ := key i x hx
    rw [← a2]
    exact h.2 i x' a1
theorem va_S.wk {A A' : Nat → Prop} {H0 H : Heap} {locs : List Loc} (h : va_S A H0 H locs) (z : ∀ q, A q → A' q) : va_S A' H0 H locs := ⟨h.1, fun q h1 h2 => h.2.1 q h1 (fun w => h2 (z q w)), fun l hl => z _ (h.2.2 l hl)⟩
def grpT (cA : Nat → ClassId) (g : Nat → Nat) : va_W := SL cA (fun k => g (k - 23)) 23 46
/-- the town's world as it is made -/
def TWo (cA : Nat → ClassId) (q q1 q2 q3 q4 : Nat) (hC hO hQ : Nat → Nat → Nat) (sf : Nat → Int32) : va_W :=
  (q, .inr (7, [.ref q1, .ref q2, .ref q3, .ref q4, .int 0, .int 0, .int 0, .int 0, .int 0, .int 0, .int 1, .int 0, .int 0, .int 0, .int 0])) :: (q1, .inl (cA 22, 10, .inr (.inr (.inr (.inr (ar 10 hC)))))) :: (q2, .inl (cA 23, 5, .inr (.inr (.inr (.inr (ar 5 hO)))))) :: (q3, .inl (cA 24, 8, .inr (.inr (.inr (.inr (ar 8 hQ)))))) ::
    ((([(q4, .inl (cA 20, 5, .inl sf))] ++ fl (grpC cA) 10 hC) ++ fl (grpO cA) 5 hO) ++ fl (grpP cA) 8 hQ)
def TWg (q q1 q2 q3 q4 : Nat) (hC hO hQ : Nat → Nat → Nat) (i : Nat) : Nat :=
  match i with
  | 0 => q | 1 => q1 | 2 => q2 | 3 => q3 | 4 => q4
  | i + 5 => bif Nat.blt i 20 then hC (i / 2) (i % 2) else bif Nat.blt i 25 then hO (i - 20) 0 else hQ ((i - 25) / 2) ((i - 25) % 2)
set_option maxRecDepth 100000 in
set_option maxHeartbeats 4000000 in
theorem TW_P {D : va_G} {cA : Nat → ClassId} {q q1 q2 q3 q4 : Nat} {hC hO hQ : Nat → Nat → Nat} {sf : Nat → Int32} {H : Heap} (hsf : ∀ j, j < 5 → sf j = ([20, 2, 20, 25, 5] : List Int32).getD j 0) (h : va_P D vwCl (TWo cA q q1 q2 q3 q4 hC hO hQ sf) H) : va_P D vwCl (grpT cA (TWg q q1 q2 q3 q4 hC hO hQ)) H := by
  intro k x hx
  obtain ⟨hk, rfl⟩ := SL_get hx
  match k, hk with
  | 0, _ => exact h 0 _ rfl
  | 1, _ => exact at_extR (h 1 _ rfl) (fun j hj => match j, hj with | 0, _ => rfl | 1, _ => rfl | 2, _ => rfl | 3, _ => rfl | 4, _ => rfl | 5, _ => rfl | 6, _ => rfl | 7, _ => rfl | 8, _ => rfl | 9, _ => rfl)
  | 2, _ => exact at_extR (h 2 _ rfl) (fun j hj => match j, hj with | 0, _ => rfl | 1, _ => rfl | 2, _ => rfl | 3, _ => rfl | 4, _ => rfl)
  | 3, _ => exact at_extR (h 3 _ rfl) (fun j hj => match j, hj with | 0, _ => rfl | 1, _ => rfl | 2, _ => rfl | 3, _ => rfl | 4, _ => rfl | 5, _ => rfl | 6, _ => rfl | 7, _ => rfl)
  | 4, _ => exact at_extI (h 4 _ rfl) (fun j hj => hsf j hj)
  | 5, _ => exact h 5 _ rfl
  | 6, _ => exact h 6 _ rfl
  | 7, _ => exact h 7 _ rfl
  | 8, _ => exact h 8 _ rfl
  | 9, _ => exact h 9 _ rfl
  | 10, _ => exact h 10 _ rfl
  | 11, _ => exact h 11 _ rfl
  | 12, _ => exact h 12 _ rfl
  | 13, _ => exact h 13 _ rfl
  | 14, _ => exact h 14 _ rfl
  | 15, _ => exact h 15 _ rfl
  | 16, _ => exact h 16 _ rfl
  | 17, _ => exact h 17 _ rfl
  | 18, _ => exact h 18 _ rfl
  | 19, _ => exact h 19 _ rfl
  | 20, _ => exact h 20 _ rfl
  | 21, _ => exact h 21 _ rfl
  | 22, _ => exact h 22 _ rfl
  | 23, _ => exact h 23 _ rfl
  | 24, _ => exact h 24 _ rfl
  | 25, _ => exact h 25 _ rfl
  | 26, _ => exact h 26 _ rfl
  | 27, _ => exact h 27 _ rfl
  | 28, _ => exact h 28 _ rfl
  | 29, _ => exact h 29 _ rfl
  | 30, _ => exact h 30 _ rfl
  | 31, _ => exact h 31 _ rfl
  | 32, _ => exact h 32 _ rfl
  | 33, _ => exact h 33 _ rfl
  | 34, _ => exact h 34 _ rfl
  | 35, _ => exact h 35 _ rfl
  | 36, _ => exact h 36 _ rfl
  | 37, _ => exact h 37 _ rfl
  | 38, _ => exact h 38 _ rfl
  | 39, _ => exact h 39 _ rfl
  | 40, _ => exact h 40 _ rfl
  | 41, _ => exact h 41 _ rfl
  | 42, _ => exact h 42 _ rfl
  | 43, _ => exact h 43 _ rfl
  | 44, _ => exact h 44 _ rfl
  | 45, _ => exact h 45 _ rfl
set_option maxRecDepth 100000 in
set_option maxHeartbeats 4000000 in
theorem TW_D {A : Nat → Prop} {cA : Nat → ClassId} {q q1 q2 q3 q4 : Nat} {hC hO hQ : Nat → Nat → Nat} {sf : Nat → Int32} (h : va_D A (TWo cA q q1 q2 q3 q4 hC hO hQ sf)) : va_D A (grpT cA (TWg q q1 q2 q3 q4 hC hO hQ)) := D_ext h rfl
end CTORE
