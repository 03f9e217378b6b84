/-! THE WORLD AT THE LAW'S START -/
section WORLD0
theorem ap1 {α : Type} {a b : List α} {i : Nat} {x : α} (h : a[i]? = some x) : (a ++ b)[i]? = some x := by
  rw [List.getElem?_append_left (List.getElem?_eq_some_iff.mp h).1]
  exact h
theorem ap2 {α : Type} {a b : List α} {i n : Nat} {x : α} (hn : a.length = n) (h : b[i]? = some x) : (a ++ b)[n + i]? = some x := by
  rw [List.getElem?_append_right (by omega), hn, Nat.add_sub_cancel_left]
  exact h
def LG (gA gM : Nat → Nat) (q3 b : Nat) (ad : Nat → Nat) (k : Nat) : Nat :=
  if k = 0 then gA 0 else if k < 3 then gA (6 * (k - 1) + 2) else if k < 5 then gA (6 * (k - 3) + 3) else if k < 9 then gA (6 * (k - 5) + 4) else if k < 12 then gA (6 * (k - 9) + 5) else if k < 22 then gM (k - 12) else if k = 22 then q3 else if k < 69 then gA (6 * (k - 23) + 1) else if k < 345 then gA (6 * (k - 67) + 2) else if k = 390 then b else ad k
def W0 (cA : Nat → ClassId) (gA gM : Nat → Nat) (q3 : Nat) : va_W := (grpA cA gA ++ grpM cA gM) ++ [(q3, .inl (cA 21, 1, .inr (.inl (fun _ => 0))))]
def pos (k : Nat) : Nat := if k = 0 then 0 else if k < 3 then 46 + k else if k < 23 then k + 322 else if k < 69 then k - 22 else k - 20
theorem pS {z : Nat × va_E} {T S X Y U M O : va_W} {n i : Nat} {x : Nat × va_E} (hn : T.length = n) (h : S[i]? = some x) : (((z :: ((((T ++ S) ++ X) ++ Y) ++ U)) ++ M) ++ O)[1 + (n + i)]? = some x := ap1 (ap1 (ap2 (a := [z]) rfl (ap1 (ap1 (ap1 (ap2 hn h))))))
theorem pX {z : Nat × va_E} {T S X Y U M O : va_W} {n i : Nat} {x : Nat × va_E} (hn : (T ++ S).length = n) (h : X[i]? = some x) : (((z :: ((((T ++ S) ++ X) ++ Y) ++ U)) ++ M) ++ O)[1 + (n + i)]? = some x := ap1 (ap1 (ap2 (a := [z]) rfl (ap1 (ap1 (ap2 hn h)))))
theorem pY {z : Nat × va_E} {T S X Y U M O : va_W} {n i : Nat} {x : Nat × va_E} (hn : ((T ++ S) ++ X).length = n) (h : Y[i]? = some x) : (((z :: ((((T ++ S) ++ X) ++ Y) ++ U)) ++ M) ++ O)[1 + (n + i)]? = some x := ap1 (ap1 (ap2 (a := [z]) rfl (ap1 (ap2 hn h))))
theorem pW5 {z : Nat × va_E} {T S X Y U M O : va_W} {n i : Nat} {x : Nat × va_E} (hn : (((T ++ S) ++ X) ++ Y).length = n) (h : U[i]? = some x) : (((z :: ((((T ++ S) ++ X) ++ Y) ++ U)) ++ M) ++ O)[1 + (n + i)]? = some x := ap1 (ap1 (ap2 (a := [z]) rfl (ap2 hn h)))
theorem pM {G M O : va_W} {n i : Nat} {x : Nat × va_E} (hn : G.length = n) (h : M[i]? = some x) : ((G ++ M) ++ O)[n + i]? = some x := ap1 (ap2 hn h)
theorem pos_inj {k k' : Nat} (h : k < 345) (h' : k' < 345) (e : pos k = pos k') : k = k' := by
  unfold pos at e
  repeat' split at e
  all_goals omega
theorem grpS_len {cA : Nat → ClassId} {g : Nat → Nat} : (grpS cA g).length = 278 := by
  show (SL cA (fun k => g (k - 67)) 69 276).length + 1 + 1 = 278
  rw [SL_len]
theorem sv_f : ∀ i, i < 276 → ∀ q ∈ fcode (cls (69 + i)), q.1 = 3 → i + q.2 < 276 := by decide +kernel
theorem sv_e : ∀ i, i < 276 → 22 ≤ cls (69 + i) → ∀ x, x < len (69 + i) → 69 ≤ eN (69 + i) x ∧ eN (69 + i) x < 345 := by decide +kernel
variable {D : va_G} {cA : Nat → ClassId} {gA gM : Nat → Nat} {q3 b : Nat} {ad : Nat → Nat} {H : Heap}
theorem LG_town {k : Nat} (h1 : 23 ≤ k) (h2 : k < 69) : LG gA gM q3 b ad k = gA (6 * (k - 23) + 1) := by
  unfold LG
  rw [if_neg (by omega), if_neg (by omega), if_neg (by omega), if_neg (by omega), if_neg (by omega), if_neg (by omega), if_neg (by omega), if_pos h2]
theorem LG_sav {k : Nat} (h1 : 69 ≤ k) (h2 : k < 345) : LG gA gM q3 b ad k = gA (6 * (k - 67) + 2) := by
  unfold LG
  rw [if_neg (by omega), if_neg (by omega), if_neg (by omega), if_neg (by omega), if_neg (by omega), if_neg (by omega), if_neg (by omega), if_neg (by omega), if_pos h2]
theorem W0_at (k : Nat) (hk : k < 345) : ∃ y : Nat × va_E, (W0 cA gA gM q3)[pos k]? = some y ∧ y.1 = LG gA gM q3 b ad k ∧ (va_at D vwCl y H → va_at D vwCl (LG gA gM q3 b ad k, entW (LG gA gM q3 b ad) cA m0 k) H) := by
  by_cases h1 : 69 ≤ k
  · obtain ⟨i, rfl⟩ : ∃ i, k = 69 + i := ⟨k - 69, by omega⟩
    have hi : i < 276 := by omega
    have h2 := ap1 (b := [(q3, (.inl (cA 21, 1, .inr (.inl (fun _ => 0))) : va_E))]) (ap1 (b := grpM cA gM) (ap2 (a := [(gA 0, (.inr (8, [.ref (gA 1), .ref (gA 2), .ref (gA 3), .ref (gA 4), .ref (gA 5)]) : va_E))]) (n := 1) rfl (ap1 (b := grpU cA (fun i => gA (6 * i + 5))) (ap1 (b := grpY cA (fun i => gA (6 * i + 4))) (ap1 (b := grpX cA (fun i => gA (6 * i + 3))) (ap2 (a := grpT cA (fun i => gA (6 * i + 1))) (n := 46) SL_len (show (grpS cA (fun i => gA (6 * i + 2)))[i + 2]? = _ from SL_at hi)))))))
    have hp : pos (69 + i) = 1 + (46 + (i + 2)) := by unfold pos; rw [if_neg (by omega), if_neg (by omega), if_neg (by omega), if_neg (by omega)]; omega
    refine ⟨_, by rw [hp]; exact h2, ?_, fun h => ?_⟩
    · rw [LG_sav h1 hk]
    · rw [LG_sav h1 hk]
      refine ent_shift hk rfl rfl (fun q hq h3 => ?_) (fun hc x hx => ?_) h
      · have := sv_f i hi q hq h3
        rw [LG_sav (by omega) (by omega)]
      · obtain ⟨c1, c2⟩ := sv_e i hi hc x hx
        rw [LG_sav c1 c2]
  · by_cases h2 : 23 ≤ k
    · obtain ⟨i, rfl⟩ : ∃ i, k = 23 + i := ⟨k - 23, by omega⟩
      have hi : i < 46 := by omega
      have h3 := ap1 (b := [(q3, (.inl (cA 21, 1, .inr (.inl (fun _ => 0))) : va_E))]) (ap1 (b := grpM cA gM) (ap2 (a := [(gA 0, (.inr (8, [.ref (gA 1), .ref (gA 2), .ref (gA 3), .ref (gA 4), .ref (gA 5)]) : va_E))]) (n := 1) rfl (ap1 (b := grpU cA (fun i => gA (6 * i + 5))) (ap1 (b := grpY cA (fun i => gA (6 * i + 4))) (ap1 (b := grpX cA (fun i => gA (6 * i + 3))) (ap1 (b := grpS cA (fun i => gA (6 * i + 2))) (show (grpT cA (fun i => gA (6 * i + 1)))[i]? = _ from SL_at hi)))))))
      have hp : pos (23 + i) = 1 + i := by unfold pos; rw [if_neg (by omega), if_neg (by omega), if_neg (by omega), if_pos (by omega)]; omega
      refine ⟨_, by rw [hp]; exact h3, ?_, fun h => ?_⟩
      · rw [LG_town h2 (by omega)]
      · rw [LG_town h2 (by omega)]
        refine ent_shift hk rfl rfl (fun q hq h3 => ?_) (fun hc x hx => ?_) h
        · have := tw_f i hi q hq h3
          rw [LG_town (by omega) (by omega)]
        · obtain ⟨c1, c2⟩ := tw_e i hi hc x hx
          rw [LG_town c1 c2]
    · have hS : ∀ (i : Nat) (x : Nat × va_E), (grpS cA (fun i => gA (6 * i + 2)))[i]? = some x → (W0 cA gA gM q3)[1 + (46 + i)]? = some x := fun i x h => pS (T := grpT cA (fun i => gA (6 * i + 1))) (S := grpS cA (fun i => gA (6 * i + 2))) (X := grpX cA (fun i => gA (6 * i + 3))) (Y := grpY cA (fun i => gA (6 * i + 4))) (U := grpU cA (fun i => gA (6 * i + 5))) grpT_len h
      have hX : ∀ (i : Nat) (x : Nat × va_E), (grpX cA (fun i => gA (6 * i + 3)))[i]? = some x → (W0 cA gA gM q3)[1 + (324 + i)]? = some x := fun i x h => pX (T := grpT cA (fun i => gA (6 * i + 1))) (S := grpS cA (fun i => gA (6 * i + 2))) (X := grpX cA (fun i => gA (6 * i + 3))) (Y := grpY cA (fun i => gA (6 * i + 4))) (U := grpU cA (fun i => gA (6 * i + 5))) (by rw [List.length_append, grpS_len, grpT_len]) h
      have hY : ∀ (i : Nat) (x : Nat × va_E), (grpY cA (fun i => gA (6 * i + 4)))[i]? = some x → (W0 cA gA gM q3)[1 + (326 + i)]? = some x := fun i x h => pY (T := grpT cA (fun i => gA (6 * i + 1))) (S := grpS cA (fun i => gA (6 * i + 2))) (X := grpX cA (fun i => gA (6 * i + 3))) (Y := grpY cA (fun i => gA (6 * i + 4))) (U := grpU cA (fun i => gA (6 * i + 5))) (by rw [List.length_append, List.length_append, grpS_len, grpT_len]; rfl) h
      have hU : ∀ (i : Nat) (x : Nat × va_E), (grpU cA (fun i => gA (6 * i + 5)))[i]? = some x → (W0 cA gA gM q3)[1 + (330 + i)]? = some x := fun i x h => pW5 (T := grpT cA (fun i => gA (6 * i + 1))) (S := grpS cA (fun i => gA (6 * i + 2))) (X := grpX cA (fun i => gA (6 * i + 3))) (Y := grpY cA (fun i => gA (6 * i + 4))) (U := grpU cA (fun i => gA (6 * i + 5))) (by rw [List.length_append, List.length_append, List.length_append, grpS_len, grpT_len]; rfl) h
      have hA : (grpA cA gA).length = 334 := by
        show ((((grpT cA _ ++ grpS cA _) ++ grpX cA _) ++ grpY cA _) ++ grpU cA _).length + 1 = 334
        rw [List.length_append, List.length_append, List.length_append, List.length_append, grpS_len, grpT_len]
        rfl
      have hM : ∀ (i : Nat) (x : Nat × va_E), (grpM cA gM)[i]? = some x → (W0 cA gA gM q3)[334 + i]? = some x := fun i x h => pM hA h
      have hO : (W0 cA gA gM q3)[344 + 0]? = some (q3, .inl (cA 21, 1, .inr (.inl (fun _ => 0)))) := ap2 (by rw [List.length_append, hA]; rfl) rfl
      match k, h2 with
      | 0, _ => exact ⟨_, rfl, rfl, fun h => h⟩
      | 1, _ => exact ⟨_, hS 0 _ rfl, rfl, fun h => h⟩
      | 2, _ => exact ⟨_, hS 1 _ rfl, rfl, fun h => at_extR h (fun j hj => match j, hj with | 0, _ => rfl | 1, _ => rfl | 2, _ => rfl | 3, _ => rfl | 4, _ => rfl | 5, _ => rfl)⟩
      | 3, _ => exact ⟨_, hX 0 _ rfl, rfl, fun h => h⟩
      | 4, _ => exact ⟨_, hX 1 _ rfl, rfl, fun h => h⟩
      | 5, _ => exact ⟨_, hY 0 _ rfl, rfl, fun h => h⟩
      | 6, _ => exact ⟨_, hY 1 _ rfl, rfl, fun h => h⟩
      | 7, _ => exact ⟨_, hY 2 _ rfl, rfl, fun h => h⟩
      | 8, _ => exact ⟨_, hY 3 _ rfl, rfl, fun h => h⟩
      | 9, _ => exact ⟨_, hU 0 _ rfl, rfl, fun h => h⟩
      | 10, _ => exact ⟨_, hU 1 _ rfl, rfl, fun h => h⟩
      | 11, _ => exact ⟨_, hU 2 _ rfl, rfl, fun h => h⟩
      | 12, _ => exact ⟨_, hM 0 _ rfl, rfl, fun h => h⟩
      | 13, _ => exact ⟨_, hM 1 _ rfl, rfl, fun h => h⟩
      | 14, _ => exact ⟨_, hM 2 _ rfl, rfl, fun h => h⟩
      | 15, _ => exact ⟨_, hM 3 _ rfl, rfl, fun h => h⟩
      | 16, _ => exact ⟨_, hM 4 _ rfl, rfl, fun h => h⟩
      | 17, _ => exact ⟨_, hM 5 _ rfl, rfl, fun h => h⟩
      | 18, _ => exact ⟨_, hM 6 _ rfl, rfl, fun h => h⟩
      | 19, _ => exact ⟨_, hM 7 _ rfl, rfl, fun h => h⟩
      | 20, _ => exact ⟨_, hM 8 _ rfl, rfl, fun h => h⟩
      | 21, _ => exact ⟨_, hM 9 _ rfl, rfl, fun h => h⟩
      | 22, _ => exact ⟨_, hO, rfl, fun h => h⟩
      | k + 23, h => exact absurd (Nat.le_add_left 23 k) h
def mu0 (xs : Nat → Int32) (n : Nat) : PM := (fun k j => bif Nat.beq k 390 then xs j else in0 k j, fun _ _ => 0, n, 0)
theorem WS_start {A : Nat → Prop} {xs : Nat → Int32} {n : Nat} (hP : va_P D vwCl (W0 cA gA gM q3) H) (hD : va_D A (W0 cA gA gM q3)) : va_P D vwCl (WS (LG gA gM q3 b ad) cA (mu0 xs n)) H ∧ va_D A (WS (LG gA gM q3 b ad) cA (mu0 xs n)) := by
  have he : ∀ k, k < 345 → entW (LG gA gM q3 b ad) cA (mu0 xs n) k = entW (LG gA gM q3 b ad) cA m0 k := by
    intro k hk
    refine entW_congr ?_ rfl
    funext j
    show (bif Nat.beq k 390 then xs j else in0 k j) = in0 k j
    rw [beqF (by omega)]
    rfl
  refine ⟨fun k x hx => ?_, fun i j x y hx hy hxy => ?_, fun k x hx => ?_⟩
  · obtain ⟨hk, rfl⟩ := WS_inv hx
    obtain ⟨y, h1, h2, h3⟩ := W0_at (D := D) (cA := cA) (gA := gA) (gM := gM) (q3 := q3) (b := b) (ad := ad) (H := H) k hk
    rw [he k hk]
    exact h3 (hP _ _ h1)
  · obtain ⟨hi, rfl⟩ := WS_inv hx
    obtain ⟨hj, rfl⟩ := WS_inv hy
    obtain ⟨y1, h1, h2, -⟩ := W0_at (D := D) (cA := cA) (gA := gA) (gM := gM) (q3 := q3) (b := b) (ad := ad) (H := H) i hi
    obtain ⟨y2, g1, g2, -⟩ := W0_at (D := D) (cA := cA) (gA := gA) (gM := gM) (q3 := q3) (b := b) (ad := ad) (H := H) j hj
    exact pos_inj hi hj (hD.1 _ _ _ _ h1 g1 (by rw [h2, g2]; exact hxy))
  · obtain ⟨hk, rfl⟩ := WS_inv hx
    obtain ⟨y1, h1, h2, -⟩ := W0_at (D := D) (cA := cA) (gA := gA) (gM := gM) (q3 := q3) (b := b) (ad := ad) (H := H) k hk
    show A (LG gA gM q3 b ad k)
    rw [← h2]
    exact hD.2 _ _ h1
end WORLD0
