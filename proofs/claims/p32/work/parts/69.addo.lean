/-! SEMANTICS: addOrgan -/
section ADDO
variable {z : Nat → Nat} {μ : PM}
theorem stI_comm {k k' j j' : Nat} {v v' : Int32} (h : k ≠ k') : stI (stI μ k j v) k' j' v' = stI (stI μ k' j' v') k j v := by
  refine Prod.ext (funext fun a => funext fun b => ?_) rfl
  show mI (stI (stI μ k j v) k' j' v') a b = mI (stI (stI μ k' j' v') k j v) a b
  rw [st_get, st_get, st_get, st_get]
  by_cases e : a = k' ∧ b = j'
  · rw [if_pos e, if_neg (fun q => h (q.1.symm.trans e.1)), if_pos e]
  · rw [if_neg e]
    by_cases e1 : a = k ∧ b = j
    · rw [if_pos e1, if_pos e1]
    · rw [if_neg e1, if_neg e1, if_neg e]
theorem setN_comm {k k' v v' : Nat} (h : k ≠ k') : setN (setN z k v) k' v' = setN (setN z k' v') k v := by
  funext j
  show (if j = k' then v' else if j = k then v else z j) = (if j = k then v else if j = k' then v' else z j)
  by_cases e : j = k'
  · rw [if_pos e, if_neg (fun q => h (q.symm.trans e)), if_pos e]
  · rw [if_neg e]
    by_cases e1 : j = k
    · rw [if_pos e1, if_pos e1]
    · rw [if_neg e1, if_neg e1, if_neg e]
/-- a sum of which one changes -/
theorem sum_one {f f' : Nat → Nat} {m : Nat} : ∀ n, m < n → (∀ i, i < n → i ≠ m → f' i = f i) → sum n f' + f m = sum n f + f' m := by
  intro n
  induction n with
  | zero => intro h _; exact absurd h (Nat.not_lt_zero m)
  | succ n ih =>
    intro hm h
    show sum n f' + f' n + f m = sum n f + f n + f' m
    by_cases e : m = n
    · subst e
      rw [sum_congr m (fun i hi => h i (by omega) (by omega))]
      omega
    · have h1 := ih (by omega) (fun i hi hne => h i (by omega) hne)
      have h2 := h n (by omega) (fun q => e q.symm)
      omega
theorem sum_zero {f : Nat → Nat} : ∀ n, sum n f = 0 → ∀ i, i < n → f i = 0 := by
  intro n
  induction n with
  | zero => intro _ i hi; exact absurd hi (Nat.not_lt_zero i)
  | succ n ih =>
    intro h i hi
    have h1 : sum n f + f n = 0 := h
    by_cases e : i = n
    · subst e; omega
    · exact ih (by omega) i (by omega)
theorem sum_front {f : Nat → Nat} : ∀ n, sum (n + 1) f = f 0 + sum n (fun i => f (i + 1)) := by
  intro n
  induction n with
  | zero => show 0 + f 0 = f 0 + 0; omega
  | succ n ih =>
    show sum (n + 1) f + f (n + 1) = f 0 + (sum n (fun i => f (i + 1)) + f (n + 1))
    rw [ih]
    omega
/-- one more organ -/
theorem ok_addo {N : Nat} (hk : Okz N z) (h5 : z 1 < 5) : Okz N (setN z 1 (z 1 + 1)) := by
  have ne : ∀ j, j ≠ 1 → setN z 1 (z 1 + 1) j = z j := fun j hj => setN_ne hj
  obtain ⟨hb, hpl, hdj, ht, hfu, hor, hpy, htm, hpt, hph, hcs, a, b, c, d, e⟩ := hk
  have e1 : setN z 1 (z 1 + 1) 1 = z 1 + 1 := setN_self
  have e2 : setN z 1 (z 1 + 1) 2 = z 2 := ne 2 (by decide)
  have e4 : setN z 1 (z 1 + 1) 4 = z 4 := ne 4 (by decide)
  have eo : ∀ w, w < 7 → orgS (setN z 1 (z 1 + 1)) w = orgS z w := fun w hw => by
    unfold orgS
    rw [e1]
    have h9 : setN z 1 (z 1 + 1) (56 + 7 * z 1 + w) = 0 := by rw [ne _ (by omega), (hor (z 1) (Nat.le_refl _) h5).1 w hw]
    show sum (z 1) _ + setN z 1 (z 1 + 1) (56 + 7 * z 1 + w) = _
    rw [h9]
    exact sum_congr _ (fun i hi => ne _ (by omega))
  have ec : ∀ o, cntT (setN z 1 (z 1 + 1)) o = cntT z o := fun o => sum_congr _ (fun i hi => by rw [ne _ (by omega)])
  have eg : gotS (setN z 1 (z 1 + 1)) = gotS z := by
    unfold gotS
    rw [e2]
    exact sum_congr _ (fun i hi => ne _ (by omega))
  refine ⟨hb.set (by unfold okV; omega), fun o ho h hh q => ?_, fun o x ho hx q r => ?_, ?_, fun o ho h h1 h2 => ?_, fun o h1 ho => ⟨fun w hw => ?_, fun h hh => ?_⟩, fun p h1 hp => ⟨fun w hw => ?_, fun o ho => ?_⟩, fun p hp o ho => ?_, fun o ho => ?_, fun o ho q => ?_, ?_, ?_, ?_, ?_, fun p hp => ?_, fun p hp => ?_⟩
  · rw [ne _ (by omega)] at q ⊢
    exact hpl o ho h hh q
  · rw [ne _ (by omega)] at q r
    rw [ne _ (by omega)] at r
    exact hdj o x ho hx q r
  · rw [eo _ (by decide), ne _ (by decide)]; exact ht
  · rw [e4] at h1
    rw [ne _ (by omega)]
    exact hfu o ho h h1 h2
  · rw [e1] at h1
    rw [ne _ (by omega)]
    exact (hor o (by omega) ho).1 w hw
  · rw [e1] at h1
    rw [ne _ (by omega)]
    exact (hor o (by omega) ho).2 h hh
  · rw [e2] at h1
    rw [ne _ (by omega)]
    exact (hpy p (by omega) hp).1 w hw
  · rw [e2] at h1
    rw [ne _ (by omega)]
    exact (hpy p (by omega) hp).2 o ho
  · rw [ne _ (by omega), ec]; exact htm p hp o ho
  · rw [ne _ (by omega), ec]; exact hpt o ho
  · rw [ne _ (by omega)] at q
    obtain ⟨p, h1, h2⟩ := hph o ho q
    exact ⟨p, h1, by rw [ne _ (by omega)]; exact h2⟩
  · rw [eg, eo _ (by decide), eo _ (by decide), ne _ (by decide), ne _ (by decide), ne _ (by decide)]; exact hcs
  · rw [ne _ (by decide)]; omega
  · rw [ne _ (by decide)]; omega
  · rw [ne _ (by decide)]; omega
  · rw [ne _ (by omega)]; exact d p hp
  · rw [ne _ (by omega), ne _ (by omega)]; exact e p hp
theorem rt_addo (hr : RT 23 z μ) (hat : z (56 + 7 * z 1 + 3) = 0) : RT 23 (setN z 1 (z 1 + 1)) (stI μ 23 5 (Int32.ofNat (z 1 + 1))) := by
  have ne : ∀ j, j ≠ 1 → setN z 1 (z 1 + 1) j = z j := fun j hj => setN_ne hj
  have e1 : setN z 1 (z 1 + 1) 1 = z 1 + 1 := setN_self
  have e4 : setN z 1 (z 1 + 1) 4 = z 4 := ne 4 (by decide)
  have en : ∀ c h, noted (setN z 1 (z 1 + 1)) c h = noted z c h := fun c h => by
    unfold noted
    rw [e1]
    show (if setN z 1 (z 1 + 1) (56 + 7 * z 1 + 3) = c + 1 then _ else _) = _
    rw [ne _ (by omega), hat, if_neg (by omega)]
    exact up_congr _ (fun i hi x => by rw [ne _ (by omega), ne _ (by omega)])
  have ep : plyS (setN z 1 (z 1 + 1)) = plyS z := sum_congr _ (fun i hi => by rw [ne _ (by omega)])
  have fr : ∀ x y, x ≠ 23 → mI (stI μ 23 5 (Int32.ofNat (z 1 + 1))) x y = mI μ x y := fun x y hx => by rw [stI_ne _ _ _ hx]
  have f0 : ∀ y, y ≠ 5 → mI (stI μ 23 5 (Int32.ofNat (z 1 + 1))) 23 y = mI μ 23 y := fun y hy => by rw [st_get, if_neg (fun q => hy q.2)]
  obtain ⟨⟨⟨q4, q5, q6, q7, q8, q9⟩, q10, q11, q12, q13, q14⟩, qs, qc, qo, qp⟩ := hr
  refine ⟨⟨⟨?_, ?_, ?_, ?_, ?_, ?_⟩, ?_, ?_, ?_, ?_, ?_⟩, fun i hi => ?_, fun c hc => ⟨fun w hw => ?_, fun w hw => ?_⟩, fun o ho => ⟨fun w hw h3 => ?_, ?_, ?_⟩, fun p hp => ⟨?_, fun w h1 hw => ?_, fun o ho => ?_⟩⟩
  · rw [f0 _ (by decide), ne _ (by decide)]; exact q4
  · rw [st_get, if_pos ⟨rfl, rfl⟩, setN_self]
  · rw [f0 _ (by decide), ne _ (by decide)]; exact q6
  · rw [f0 _ (by decide), ne _ (by decide)]; exact q7
  · rw [f0 _ (by decide), ne _ (by decide)]; exact q8
  · rw [f0 _ (by decide), ne _ (by decide)]; exact q9
  · rw [f0 _ (by decide), ne _ (by decide)]; exact q10
  · rw [f0 _ (by decide), ep]; exact q11
  · rw [f0 _ (by decide), ne _ (by decide)]; exact q12
  · rw [f0 _ (by decide), ne _ (by decide)]; exact q13
  · rw [f0 _ (by decide), ne _ (by decide)]; exact q14
  · rw [fr _ _ (by decide), ne _ (by omega)]; exact qs i hi
  · rw [fr _ _ (by omega), ne _ (by omega)]; exact (qc c hc).1 w hw
  · rw [fr _ _ (by omega), en]; exact (qc c hc).2 w hw
  · rw [fr _ _ (by omega), ne _ (by omega)]; exact (qo o ho).1 w hw h3
  · rw [fr _ _ (by omega), ne _ (by omega)]; exact (qo o ho).2.1
  · rw [fr _ _ (by omega), e4, ne _ (by omega)]; exact (qo o ho).2.2
  · rw [fr _ _ (by omega), ne _ (by omega)]; exact (qp p hp).1
  · rw [fr _ _ (by omega), ne _ (by omega)]; exact (qp p hp).2.1 w h1 hw
  · rw [fr _ _ (by omega), ne _ (by omega)]; exact (qp p hp).2.2 o ho
end ADDO
