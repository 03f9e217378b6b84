/-! THE WORLD AT THE LAW'S START -/
section WORLD0
theorem ap1 {α : Type} {a b : List α} {i : Nat} {x : α} (h : a[i]? = some x) : (a ++ b)[i]? = some x := by
  rw [List.getElem?_append_left (List.getElem?_eq_some_iff.mp h).1]
  exact h
theorem ap2 {α : Type} {a b : List α} {i n : Nat} {x : α} (hn : a.length = n) (h : b[i]? = some x) : (a ++ b)[n + i]? = some x := by
  rw [List.getElem?_append_right (by omega), hn, Nat.add_sub_cancel_left]
  exact h
def LG (gA ga : Nat → Nat) (b : Nat) (ad : Nat → Nat) (k : Nat) : Nat :=
  if k = 0 then gA 0 else if k < 3 then gA (6 * (k - 1) + 2) else if k < 5 then gA (6 * (k - 3) + 3) else if k < 9 then gA (6 * (k - 5) + 4) else if k < 12 then gA (6 * (k - 9) + 5) else if k < 23 then ga (k - 12) else if k < 69 then gA (6 * (k - 23) + 1) else if k < 345 then gA (6 * (k - 67) + 2) else if k = 390 then b else if k < 430 then ad k else ga 6 + 1 + (k - 430)
def W0 (cA : Nat → ClassId) (gA ga : Nat → Nat) : va_W := (((((((grpA cA gA ++ [(ga 0, .inl (cA 20, 24, .inl (fun _ => 0)))]) ++ [(ga 1, .inl (cA 20, 21, .inl (fun _ => 0)))]) ++ [(ga 2, .inl (cA 20, 16, .inl (fun _ => 0)))]) ++ [(ga 3, .inl (cA 20, 12, .inl (fun _ => 0)))]) ++ [(ga 4, .inl (cA 20, 30, .inl (fun _ => 0)))]) ++ [(ga 5, .inl (cA 20, 5, .inl (fun _ => 0)))]) ++ [(ga 6, .inl (cA 20, 11, .inl (fun _ => 0)))])
def pos (k : Nat) : Nat := if k = 0 then 0 else if k < 3 then 46 + k else if k < 23 then k + 322 else if k < 69 then k - 22 else k - 20
def Fx0 (k : Nat) : Prop := k < 19 ∨ (23 ≤ k ∧ k < 345)
theorem up7 {cA : Nat → ClassId} {gA ga : Nat → Nat} {i : Nat} {x : Nat × va_E} (h : (grpA cA gA)[i]? = some x) : (W0 cA gA ga)[i]? = some x := ap1 (ap1 (ap1 (ap1 (ap1 (ap1 (ap1 h))))))
theorem pS {z : Nat × va_E} {T S X Y U : va_W} {n i : Nat} {x : Nat × va_E} (hn : T.length = n) (h : S[i]? = some x) : (z :: ((((T ++ S) ++ X) ++ Y) ++ U))[1 + (n + i)]? = some x := ap2 (a := [z]) rfl (ap1 (ap1 (ap1 (ap2 hn h))))
theorem pX {z : Nat × va_E} {T S X Y U : va_W} {n i : Nat} {x : Nat × va_E} (hn : (T ++ S).length = n) (h : X[i]? = some x) : (z :: ((((T ++ S) ++ X) ++ Y) ++ U))[1 + (n + i)]? = some x := ap2 (a := [z]) rfl (ap1 (ap1 (ap2 hn h)))
theorem pY {z : Nat × va_E} {T S X Y U : va_W} {n i : Nat} {x : Nat × va_E} (hn : ((T ++ S) ++ X).length = n) (h : Y[i]? = some x) : (z :: ((((T ++ S) ++ X) ++ Y) ++ U))[1 + (n + i)]? = some x := ap2 (a := [z]) rfl (ap1 (ap2 hn h))
theorem pW5 {z : Nat × va_E} {T S X Y U : va_W} {n i : Nat} {x : Nat × va_E} (hn : (((T ++ S) ++ X) ++ Y).length = n) (h : U[i]? = some x) : (z :: ((((T ++ S) ++ X) ++ Y) ++ U))[1 + (n + i)]? = some x := ap2 (a := [z]) rfl (ap2 hn h)
theorem pos_inj {k k' : Nat} (h : Fx0 k) (h' : Fx0 k') (e : pos k = pos k') : k = k' := by
  unfold Fx0 at h h'
  unfold pos at e
  repeat' split at e
  all_goals omega
theorem grpS_len {cA : Nat → ClassId} {g : Nat → Nat} : (grpS cA g).length = 278 := by
  show (SL cA (fun k => g (k - 67)) 69 276).length + 1 + 1 = 278
  rw [SL_len]
theorem sv_f : ∀ i, i < 276 → ∀ q ∈ fcode (cls (69 + i)), q.1 = 3 → i + q.2 < 276 := by decide +kernel
theorem sv_e : ∀ i, i < 276 → 22 ≤ cls (69 + i) → ∀ x, x < len (69 + i) → 69 ≤ eN (69 + i) x ∧ eN (69 + i) x < 345 := by decide +kernel
variable {D : va_G} {cA : Nat → ClassId} {gA ga : Nat → Nat} {b : Nat} {ad : Nat → Nat} {H : Heap}
theorem LG_town {k : Nat} (h1 : 23 ≤ k) (h2 : k < 69) : LG gA ga b ad k = gA (6 * (k - 23) + 1) := by
  unfold LG
  rw [if_neg (by omega), if_neg (by omega), if_neg (by omega), if_neg (by omega), if_neg (by omega), if_neg (by omega), if_pos h2]
theorem LG_sav {k : Nat} (h1 : 69 ≤ k) (h2 : k < 345) : LG gA ga b ad k = gA (6 * (k - 67) + 2) := by
  unfold LG
  rw [if_neg (by omega), if_neg (by omega), if_neg (by omega), if_neg (by omega), if_neg (by omega), if_neg (by omega), if_neg (by omega), if_pos h2]
theorem W0_at (k : Nat) (hk0 : Fx0 k) : ∃ y : Nat × va_E, (W0 cA gA ga)[pos k]? = some y ∧ y.1 = LG gA ga b ad k ∧ (va_at D vwCl y H → va_at D vwCl (LG gA ga b ad k, entW (LG gA ga b ad) cA m0 k) H) := by
  have hk : k < 345 := by unfold Fx0 at hk0; omega
  by_cases h1 : 69 ≤ k
  · obtain ⟨i, rfl⟩ : ∃ i, k = 69 + i := ⟨k - 69, by omega⟩
    have hi : i < 276 := by omega
    have h2 := up7 (cA := cA) (gA := gA) (ga := ga) ((ap2 (a := [(gA 0, (.inr (8, [.ref (gA 1), .ref (gA 2), .ref (gA 3), .ref (gA 4), .ref (gA 5)]) : va_E))]) (n := 1) rfl (ap1 (b := grpU cA (fun i => gA (6 * i + 5))) (ap1 (b := grpY cA (fun i => gA (6 * i + 4))) (ap1 (b := grpX cA (fun i => gA (6 * i + 3))) (ap2 (a := grpT cA (fun i => gA (6 * i + 1))) (n := 46) SL_len (show (grpS cA (fun i => gA (6 * i + 2)))[i + 2]? = _ from SL_at hi)))))))
    have hp : pos (69 + i) = 1 + (46 + (i + 2)) := by unfold pos; rw [if_neg (by omega), if_neg (by omega), if_neg (by omega), if_neg (by omega)]; omega
    refine ⟨_, by rw [hp]; exact h2, ?_, fun h => ?_⟩
    · rw [LG_sav h1 hk]
    · rw [LG_sav h1 hk]
      refine ent_shift hk rfl rfl (fun q hq h3 => ?_) (fun hc x hx => ?_) h
      · have := sv_f i hi q hq h3
        rw [LG_sav (by omega) (by omega)]
      · obtain ⟨c1, c2⟩ := sv_e i hi hc x hx
        rw [LG_sav c1 c2]
  · by_cases h2 : 23 ≤ k
    · obtain ⟨i, rfl⟩ : ∃ i, k = 23 + i := ⟨k - 23, by omega⟩
      have hi : i < 46 := by omega
      have h3 := up7 (cA := cA) (gA := gA) (ga := ga) ((ap2 (a := [(gA 0, (.inr (8, [.ref (gA 1), .ref (gA 2), .ref (gA 3), .ref (gA 4), .ref (gA 5)]) : va_E))]) (n := 1) rfl (ap1 (b := grpU cA (fun i => gA (6 * i + 5))) (ap1 (b := grpY cA (fun i => gA (6 * i + 4))) (ap1 (b := grpX cA (fun i => gA (6 * i + 3))) (ap1 (b := grpS cA (fun i => gA (6 * i + 2))) (show (grpT cA (fun i => gA (6 * i + 1)))[i]? = _ from SL_at hi)))))))
      have hp : pos (23 + i) = 1 + i := by unfold pos; rw [if_neg (by omega), if_neg (by omega), if_neg (by omega), if_pos (by omega)]; omega
      refine ⟨_, by rw [hp]; exact h3, ?_, fun h => ?_⟩
      · rw [LG_town h2 (by omega)]
      · rw [LG_town h2 (by omega)]
        refine ent_shift hk rfl rfl (fun q hq h3 => ?_) (fun hc x hx => ?_) h
        · have := tw_f i hi q hq h3
          rw [LG_town (by omega) (by omega)]
        · obtain ⟨c1, c2⟩ := tw_e i hi hc x hx
          rw [LG_town c1 c2]
    · have hS : ∀ (i : Nat) (x : Nat × va_E), (grpS cA (fun i => gA (6 * i + 2)))[i]? = some x → (W0 cA gA ga)[1 + (46 + i)]? = some x := fun i x h => up7 (show (grpA cA gA)[_]? = some x from pS (T := grpT cA (fun i => gA (6 * i + 1))) (S := grpS cA (fun i => gA (6 * i + 2))) (X := grpX cA (fun i => gA (6 * i + 3))) (Y := grpY cA (fun i => gA (6 * i + 4))) (U := grpU cA (fun i => gA (6 * i + 5))) grpT_len h)
      have hX : ∀ (i : Nat) (x : Nat × va_E), (grpX cA (fun i => gA (6 * i + 3)))[i]? = some x → (W0 cA gA ga)[1 + (324 + i)]? = some x := fun i x h => up7 (show (grpA cA gA)[_]? = some x from pX (T := grpT cA (fun i => gA (6 * i + 1))) (S := grpS cA (fun i => gA (6 * i + 2))) (X := grpX cA (fun i => gA (6 * i + 3))) (Y := grpY cA (fun i => gA (6 * i + 4))) (U := grpU cA (fun i => gA (6 * i + 5))) (by rw [List.length_append, grpS_len, grpT_len]) h)
      have hY : ∀ (i : Nat) (x : Nat × va_E), (grpY cA (fun i => gA (6 * i + 4)))[i]? = some x → (W0 cA gA ga)[1 + (326 + i)]? = some x := fun i x h => up7 (show (grpA cA gA)[_]? = some x from pY (T := grpT cA (fun i => gA (6 * i + 1))) (S := grpS cA (fun i => gA (6 * i + 2))) (X := grpX cA (fun i => gA (6 * i + 3))) (Y := grpY cA (fun i => gA (6 * i + 4))) (U := grpU cA (fun i => gA (6 * i + 5))) (by rw [List.length_append, List.length_append, grpS_len, grpT_len]; rfl) h)
      have hU : ∀ (i : Nat) (x : Nat × va_E), (grpU cA (fun i => gA (6 * i + 5)))[i]? = some x → (W0 cA gA ga)[1 + (330 + i)]? = some x := fun i x h => up7 (show (grpA cA gA)[_]? = some x from pW5 (T := grpT cA (fun i => gA (6 * i + 1))) (S := grpS cA (fun i => gA (6 * i + 2))) (X := grpX cA (fun i => gA (6 * i + 3))) (Y := grpY cA (fun i => gA (6 * i + 4))) (U := grpU cA (fun i => gA (6 * i + 5))) (by rw [List.length_append, List.length_append, List.length_append, grpS_len, grpT_len]; rfl) h)
      have hA : (grpA cA gA).length = 334 := by
        show ((((grpT cA _ ++ grpS cA _) ++ grpX cA _) ++ grpY cA _) ++ grpU cA _).length + 1 = 334
        rw [List.length_append, List.length_append, List.length_append, List.length_append, grpS_len, grpT_len]
        rfl
      have hM0 : (W0 cA gA ga)[334 + 0]? = some (ga 0, .inl (cA 20, 24, .inl (fun _ => 0))) := ap1 (ap1 (ap1 (ap1 (ap1 (ap1 (ap2 (n := 334 + 0) (i := 0) (by simp only [List.length_append, hA] <;> rfl) rfl))))))
      have hM1 : (W0 cA gA ga)[334 + 1]? = some (ga 1, .inl (cA 20, 21, .inl (fun _ => 0))) := ap1 (ap1 (ap1 (ap1 (ap1 (ap2 (n := 334 + 1) (i := 0) (by simp only [List.length_append, hA] <;> rfl) rfl)))))
      have hM2 : (W0 cA gA ga)[334 + 2]? = some (ga 2, .inl (cA 20, 16, .inl (fun _ => 0))) := ap1 (ap1 (ap1 (ap1 (ap2 (n := 334 + 2) (i := 0) (by simp only [List.length_append, hA] <;> rfl) rfl))))
      have hM3 : (W0 cA gA ga)[334 + 3]? = some (ga 3, .inl (cA 20, 12, .inl (fun _ => 0))) := ap1 (ap1 (ap1 (ap2 (n := 334 + 3) (i := 0) (by simp only [List.length_append, hA] <;> rfl) rfl)))
      have hM4 : (W0 cA gA ga)[334 + 4]? = some (ga 4, .inl (cA 20, 30, .inl (fun _ => 0))) := ap1 (ap1 (ap2 (n := 334 + 4) (i := 0) (by simp only [List.length_append, hA] <;> rfl) rfl))
      have hM5 : (W0 cA gA ga)[334 + 5]? = some (ga 5, .inl (cA 20, 5, .inl (fun _ => 0))) := ap1 (ap2 (n := 334 + 5) (i := 0) (by simp only [List.length_append, hA] <;> rfl) rfl)
      have hM6 : (W0 cA gA ga)[334 + 6]? = some (ga 6, .inl (cA 20, 11, .inl (fun _ => 0))) := ap2 (n := 334 + 6) (i := 0) (by simp only [List.length_append, hA] <;> rfl) rfl
      match k, h2 with
      | 0, _ => exact ⟨_, rfl, rfl, fun h => h⟩
      | 1, _ => exact ⟨_, hS 0 _ rfl, rfl, fun h => h⟩
      | 2, _ => exact ⟨_, hS 1 _ rfl, rfl, fun h => at_extR h (fun j hj => match j, hj with | 0, _ => rfl | 1, _ => rfl | 2, _ => rfl | 3, _ => rfl | 4, _ => rfl | 5, _ => rfl)⟩
      | 3, _ => exact ⟨_, hX 0 _ rfl, rfl, fun h => h⟩
      | 4, _ => exact ⟨_, hX 1 _ rfl, rfl, fun h => h⟩
      | 5, _ => exact ⟨_, hY 0 _ rfl, rfl, fun h => h⟩
      | 6, _ => exact ⟨_, hY 1 _ rfl, rfl, fun h => h⟩
      | 7, _ => exact ⟨_, hY 2 _ rfl, rfl, fun h => h⟩
      | 8, _ => exact ⟨_, hY 3 _ rfl, rfl, fun h => h⟩
      | 9, _ => exact ⟨_, hU 0 _ rfl, rfl, fun h => h⟩
      | 10, _ => exact ⟨_, hU 1 _ rfl, rfl, fun h => h⟩
      | 11, _ => exact ⟨_, hU 2 _ rfl, rfl, fun h => h⟩
      | 12, _ => exact ⟨_, hM0, rfl, fun h => h⟩
      | 13, _ => exact ⟨_, hM1, rfl, fun h => h⟩
      | 14, _ => exact ⟨_, hM2, rfl, fun h => h⟩
      | 15, _ => exact ⟨_, hM3, rfl, fun h => h⟩
      | 16, _ => exact ⟨_, hM4, rfl, fun h => h⟩
      | 17, _ => exact ⟨_, hM5, rfl, fun h => h⟩
      | 18, _ => exact ⟨_, hM6, rfl, fun h => h⟩
      | 19, _ => exact absurd hk0 (by unfold Fx0; omega)
      | 20, _ => exact absurd hk0 (by unfold Fx0; omega)
      | 21, _ => exact absurd hk0 (by unfold Fx0; omega)
      | 22, _ => exact absurd hk0 (by unfold Fx0; omega)
      | k + 23, h => exact absurd (Nat.le_add_left 23 k) h
def mu0 (xs : Nat → Int32) (n : Nat) : PM := (fun k j => bif Nat.beq k 390 then xs j else in0 k j, fun _ _ => 0, n, 0)
theorem in_fx0 {xs : Nat → Int32} {n k : Nat} (h : Inn (mu0 xs n) k) : Fx0 k := by
  rcases h with h | h | h
  · exact Or.inl h
  · exact Or.inr h
  · have : (mu0 xs n).2.2.2 = 0 := rfl
    omega
theorem fx0_in {xs : Nat → Int32} {n k : Nat} (h : Fx0 k) : Inn (mu0 xs n) k := by
  rcases h with h | h
  · exact Or.inl h
  · exact Or.inr (Or.inl h)
theorem WS_start {A : Nat → Prop} {xs : Nat → Int32} {n : Nat} (hP : va_P D vwCl (W0 cA gA ga) H) (hD : va_D A (W0 cA gA ga)) : va_P D vwCl (WS (LG gA ga b ad) cA (mu0 xs n)) H ∧ va_D A (WS (LG gA ga b ad) cA (mu0 xs n)) := by
  have he : ∀ k, k < 345 → entW (LG gA ga b ad) cA (mu0 xs n) k = entW (LG gA ga b ad) cA m0 k := by
    intro k hk
    refine entW_congr ?_ rfl
    funext j
    show (bif Nat.beq k 390 then xs j else in0 k j) = in0 k j
    rw [beqF (by omega)]
    rfl
  refine ⟨fun k x hx => ?_, fun i j x y hx hy hxy => ?_, fun k x hx => ?_⟩
  · obtain ⟨hk, rfl⟩ := WS_inv hx
    have hk0 := in_fx0 hk
    obtain ⟨y, h1, h2, h3⟩ := W0_at (D := D) (cA := cA) (gA := gA) (ga := ga) (b := b) (ad := ad) (H := H) _ hk0
    rw [he _ (by unfold Fx0 at hk0; omega)]
    exact h3 (hP _ _ h1)
  · obtain ⟨hi, rfl⟩ := WS_inv hx
    obtain ⟨hj, rfl⟩ := WS_inv hy
    obtain ⟨y1, h1, h2, -⟩ := W0_at (D := D) (cA := cA) (gA := gA) (ga := ga) (b := b) (ad := ad) (H := H) _ (in_fx0 hi)
    obtain ⟨y2, g1, g2, -⟩ := W0_at (D := D) (cA := cA) (gA := gA) (ga := ga) (b := b) (ad := ad) (H := H) _ (in_fx0 hj)
    exact nm_inj (pos_inj (in_fx0 hi) (in_fx0 hj) (hD.1 _ _ _ _ h1 g1 (by rw [h2, g2]; exact hxy)))
  · obtain ⟨hk, rfl⟩ := WS_inv hx
    obtain ⟨y1, h1, h2, -⟩ := W0_at (D := D) (cA := cA) (gA := gA) (ga := ga) (b := b) (ad := ad) (H := H) _ (in_fx0 hk)
    show A (LG gA ga b ad _)
    rw [← h2]
    exact hD.2 _ _ h1
theorem pig {S : Nat} : ∀ (T n : Nat) (f : Nat → Nat), (∀ i j, i < n → j < n → f i = f j → i = j) → (∀ i, i < n → S ≤ f i) → (∀ i, i < n → f i < T) → n = 0 ∨ S + n ≤ T := by
  intro T
  induction T with
  | zero =>
    intro n f _ _ h3
    rcases Nat.eq_zero_or_pos n with h | h
    · exact Or.inl h
    · exact absurd (h3 0 h) (Nat.not_lt_zero _)
  | succ T ih =>
    intro n f h1 h2 h3
    by_cases hx : ∃ i, i < n ∧ f i = T
    · obtain ⟨i, hi, hT⟩ := hx
      have hs := h2 i hi
      rcases ih (n - 1) (fun j => if j = i then f (n - 1) else f j) (fun a c ha hc q => by
        split at q
        · split at q
          · omega
          · have := h1 (n - 1) c (by omega) (by omega) q; omega
        · split at q
          · have := h1 a (n - 1) (by omega) (by omega) q; omega
          · exact h1 a c (by omega) (by omega) q) (fun a ha => by
        show S ≤ if a = i then f (n - 1) else f a
        split
        · exact h2 _ (by omega)
        · exact h2 _ (by omega)) (fun a ha => by
        show (if a = i then f (n - 1) else f a) < T
        split
        · rename_i e
          have h9 := h3 (n - 1) (by omega)
          have : f (n - 1) ≠ T := fun q => by have := h1 i (n - 1) hi (by omega) (hT.trans q.symm); omega
          omega
        · rename_i e
          have h9 := h3 a (by omega)
          have : f a ≠ T := fun q => e (h1 a i (by omega) hi (q.trans hT.symm))
          omega) with h | h
      · right; omega
      · right; omega
    · rcases ih n f h1 h2 (fun i hi => by
        have h9 := h3 i hi
        have : f i ≠ T := fun q => hx ⟨i, hi, q⟩
        omega) with h | h
      · exact Or.inl h
      · right; omega
/-- as many cells as there are things -/
theorem W0_size {S : Nat} (hP : va_P D vwCl (W0 cA gA ga) H) (hD : va_D (jA S) (W0 cA gA ga)) (hn : (W0 cA gA ga).length = 341) : S + 341 ≤ H.size := by
  have key : ∀ i, i < 341 → ∃ y, (W0 cA gA ga)[i]? = some y := fun i hi => ⟨_, List.getElem?_eq_getElem (by rw [hn]; exact hi)⟩
  have e : ∀ i, i < 341 → ∃ y, (W0 cA gA ga)[i]? = some y ∧ ((((W0 cA gA ga)[i]?).map Prod.fst).getD 0) = y.1 := fun i hi => by
    obtain ⟨y, hy⟩ := key i hi
    exact ⟨y, hy, by rw [hy]; rfl⟩
  rcases pig (S := S) H.size 341 (fun i => (((W0 cA gA ga)[i]?).map Prod.fst).getD 0) (fun i j hi hj q => by
      obtain ⟨y, hy, e1⟩ := e i hi
      obtain ⟨z, hz, e2⟩ := e j hj
      simp only [e1, e2] at q
      exact hD.1 i j y z hy hz q) (fun i hi => by
      obtain ⟨y, hy, e1⟩ := e i hi
      show S ≤ _
      rw [e1]
      exact hD.2 i y hy) (fun i hi => by
      obtain ⟨y, hy, e1⟩ := e i hi
      show _ < H.size
      rw [e1]
      exact (hP i y hy).lt) with h | h
  · cases h
  · exact h
theorem grpA_len {cA : Nat → ClassId} {gA : Nat → Nat} : (grpA cA gA).length = 334 := by
  show ((((grpT cA _ ++ grpS cA _) ++ grpX cA _) ++ grpY cA _) ++ grpU cA _).length + 1 = 334
  rw [List.length_append, List.length_append, List.length_append, List.length_append, grpS_len, grpT_len]
  rfl
theorem W0_len {cA : Nat → ClassId} {gA ga : Nat → Nat} : (W0 cA gA ga).length = 341 := by
  unfold W0
  simp only [List.length_append, grpA_len]
  rfl
end WORLD0
