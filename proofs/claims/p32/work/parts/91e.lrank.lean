/-! THE LAW'S OWN TOWN: who gets what is left over, by ranks -/
section LRANK
theorem pm_leq {a b : Nat} (ha : a < 2147483648) (hb : b < 2147483648) : pm a ≤ pm b ↔ a ≤ b := by
  by_cases h : a = 0
  · subst h
    by_cases h2 : b = 0
    · subst h2
      exact ⟨fun _ => Nat.le_refl _, fun _ => Int32.le_refl _⟩
    · refine ⟨fun _ => Nat.zero_le _, fun _ => ?_⟩
      have h3 : (0 : Int32) ≤ pm b := by rw [pm_le0 hb]; exact h2
      rw [pm_zero]
      exact Int32.le_trans (by decide) h3
  · obtain ⟨c, rfl⟩ : ∃ c, a = c + 1 := ⟨a - 1, by omega⟩
    by_cases h2 : b = 0
    · subst h2
      refine ⟨fun q => ?_, fun q => by omega⟩
      rw [pm_succ, pm_zero] at q
      have h3 : (0 : Int32) ≤ Int32.ofNat c := le_y (a := 0) (Nat.zero_le _) (by omega)
      exact absurd (Int32.le_trans h3 q) (by decide)
    · obtain ⟨d, rfl⟩ : ∃ d, b = d + 1 := ⟨b - 1, by omega⟩
      rw [pm_succ, pm_succ, i3_le (by omega) (by omega)]
      omega
/-- how many are ahead of p -/
def ah (r : Nat → Nat) (n p : Nat) : Nat := sum n (fun q => if r p < r q ∨ (r q = r p ∧ q < p) then 1 else 0)
def cntR (r : Nat → Nat) (n : Nat) : Nat := sum n (fun p => if r p = 0 then 0 else 1)
def topR (r : Nat → Nat) (n b : Nat) : Prop := ∀ q, q < n → r q ≤ r b ∧ (q < b → r q < r b)
theorem bstN_top {R : Nat → Int32} {r : Nat → Nat} {n : Nat} (hR : ∀ p, p < n → R p = pm (r p) ∧ r p < 2147483648) : ∀ k p b, p + k = n → b < p → topR r p b → bstN R k p b < n ∧ topR r n (bstN R k p b) := by
  intro k
  induction k with
  | zero =>
    intro p b hp hb ht
    have : p = n := by omega
    subst this
    exact ⟨hb, ht⟩
  | succ k ih =>
    intro p b hp hb ht
    have e1 := hR p (by omega)
    have e2 := hR b (by omega)
    show bstN R k (p + 1) (if R p ≤ R b then b else p) < n ∧ topR r n (bstN R k (p + 1) (if R p ≤ R b then b else p))
    have hle : R p ≤ R b ↔ r p ≤ r b := by rw [e1.1, e2.1]; exact pm_leq e1.2 e2.2
    by_cases q : r p ≤ r b
    · rw [if_pos (hle.mpr q)]
      refine ih (p + 1) b (by omega) (by omega) (fun i hi => ?_)
      by_cases e : i = p
      · subst e
        exact ⟨q, fun h => by omega⟩
      · exact ht i (by omega)
    · rw [if_neg (fun h => q (hle.mp h))]
      refine ih (p + 1) p (by omega) (by omega) (fun i hi => ?_)
      by_cases e : i = p
      · subst e
        exact ⟨Nat.le_refl _, fun h => by omega⟩
      · have := (ht i (by omega)).1
        exact ⟨by omega, fun _ => by omega⟩
theorem bst_top {R : Nat → Int32} {r : Nat → Nat} {n : Nat} (hn : 0 < n) (hR : ∀ p, p < n → R p = pm (r p) ∧ r p < 2147483648) : bst R n < n ∧ topR r n (bst R n) :=
  bstN_top hR (n - 1) 1 0 (by omega) (by decide) (fun q hq => by
    have : q = 0 := by omega
    subst this
    exact ⟨Nat.le_refl _, fun h => by omega⟩)
theorem sum_pos {f : Nat → Nat} : ∀ n, 0 < sum n f → ∃ i, i < n ∧ f i ≠ 0 := by
  intro n
  induction n with
  | zero => intro h; exact absurd h (Nat.lt_irrefl 0)
  | succ n ih =>
    intro h
    have h' : 0 < sum n f + f n := h
    by_cases e : f n = 0
    · obtain ⟨i, hi, h2⟩ := ih (by omega)
      exact ⟨i, by omega, h2⟩
    · exact ⟨n, by omega, e⟩
theorem sum_0 {f : Nat → Nat} : ∀ n, (∀ i, i < n → f i = 0) → sum n f = 0 := by
  intro n
  induction n with
  | zero => intro _; rfl
  | succ n ih =>
    intro h
    show sum n f + f n = 0
    rw [ih (fun i hi => h i (by omega)), h n (by omega)]
/-- who gets one -/
theorem uni_ah {n : Nat} : ∀ (k : Nat) (R : Nat → Int32) (r A : Nat → Nat), (∀ p, p < n → R p = pm (r p) ∧ r p < 2147483648) → k ≤ cntR r n → ∀ p, p < n → uni n k R A p = A p + if r p ≠ 0 ∧ ah r n p < k then 1 else 0 := by
  intro k
  induction k with
  | zero =>
    intro R r A hR hk p hp
    show A p = _
    rw [if_neg (fun q => absurd q.2 (Nat.not_lt_zero _))]
    rfl
  | succ k ih =>
    intro R r A hR hk p hp
    obtain ⟨hbn, hbt⟩ := bst_top (n := n) (by omega) hR
    have hrb : r (bst R n) ≠ 0 := by
      obtain ⟨i, hi, h2⟩ := sum_pos n (show 0 < sum n (fun p => if r p = 0 then 0 else 1) from Nat.lt_of_lt_of_le (Nat.succ_pos _) hk)
      have h3 := (hbt i hi).1
      have h4 : r i ≠ 0 := fun q => h2 (if_pos q)
      omega
    have hahb : ah r n (bst R n) = 0 := sum_0 n (fun q hq => if_neg (fun w => by
      have := hbt q hq
      rcases w with w | ⟨w1, w2⟩
      · omega
      · have := this.2 w2
        omega))
    show uni n k (setI R (bst R n) (-1)) (setN A (bst R n) (A (bst R n) + 1)) p = _
    generalize hB : bst R n = B at hbn hbt hrb hahb
    have hR' : ∀ p, p < n → setI R B (-1) p = pm (setN r B 0 p) ∧ setN r B 0 p < 2147483648 := fun q hq => by
      by_cases e : q = B
      · rw [e, setN_self]
        exact ⟨by unfold setI; rw [if_pos rfl, pm_zero], by decide⟩
      · rw [setN_ne e]
        exact ⟨by unfold setI; rw [if_neg e]; exact (hR q hq).1, (hR q hq).2⟩
    have hc := sum_one (f := fun p => if r p = 0 then 0 else 1) (f' := fun p => if setN r B 0 p = 0 then 0 else 1) (m := B) n hbn (fun i hi hne => by show (if setN r B 0 i = 0 then 0 else 1) = _; rw [setN_ne hne])
    simp only [setN_self, if_neg hrb, if_true] at hc
    have hk' : k ≤ cntR (setN r B 0) n := by
      unfold cntR at hk ⊢
      omega
    rw [ih _ _ _ hR' hk' p hp]
    by_cases e : p = B
    · rw [e, setN_self, setN_self, if_neg (fun q => q.1 rfl), hahb, if_pos ⟨hrb, Nat.succ_pos _⟩]
    · rw [setN_ne e, setN_ne e]
      by_cases h0 : r p = 0
      · rw [if_neg (fun q => q.1 h0), if_neg (fun q => q.1 h0)]
      · have ha := sum_one (f := fun q => if r p < r q ∨ (r q = r p ∧ q < p) then 1 else 0) (f' := fun q => if setN r B 0 p < setN r B 0 q ∨ (setN r B 0 q = setN r B 0 p ∧ q < p) then 1 else 0) (m := B) n hbn (fun i hi hne => by
          show (if setN r B 0 p < setN r B 0 i ∨ (setN r B 0 i = setN r B 0 p ∧ i < p) then 1 else 0) = _
          rw [setN_ne hne, setN_ne e])
        have t1 : (if r p < r B ∨ (r B = r p ∧ B < p) then 1 else 0) = 1 := if_pos (by
          have := hbt p hp
          by_cases q : r p < r B
          · exact Or.inl q
          · refine Or.inr ⟨by omega, ?_⟩
            rcases Nat.lt_or_ge p B with q2 | q2
            · have := this.2 q2; omega
            · omega)
        have t2 : (if setN r B 0 p < setN r B 0 B ∨ (setN r B 0 B = setN r B 0 p ∧ B < p) then 1 else 0) = 0 := if_neg (by
          rw [setN_self, setN_ne e]
          omega)
        simp only [t1, t2] at ha
        have ea : ah r n p = ah (setN r B 0) n p + 1 := by
          unfold ah
          omega
        rw [ea]
        by_cases q : ah (setN r B 0) n p < k
        · rw [if_pos ⟨h0, q⟩, if_pos ⟨h0, by omega⟩]
        · rw [if_neg (fun w => q w.2), if_neg (fun w => q (by have := w.2; omega))]
theorem shr_ah {z : Nat → Nat} {o p : Nat} (hE : Ed z) (ho : o < 5) (h0 : z (56 + 7 * o + 4) ≠ 0) (hp : p < z 2) : shr z o p = quo z o p + if ah (rst z o) (z 2) p < lft z o then 1 else 0 := by
  have hal := allH_le hE ho
  have hne := (hE.2.2.2.2.2.1 o ho).2 h0
  have hlf := lft_lt hne
  have hrs : ∀ p, rst z o p < 2147483647 := fun p => by
    have : rst z o p < allH z o := Nat.mod_lt _ (by omega)
    omega
  unfold shr
  rw [if_neg h0, uni_ah (n := z 2) (lft z o) (fun p => Int32.ofNat (rst z o p)) (fun p => rst z o p + 1) (fun _ => 0) (fun q _ => ⟨(pm_succ _).symm, by have := hrs q; omega⟩) ?_ p hp]
  · have e : ah (fun p => rst z o p + 1) (z 2) p = ah (rst z o) (z 2) p := sum_congr _ (fun q _ => by
      show (if rst z o p + 1 < rst z o q + 1 ∨ (rst z o q + 1 = rst z o p + 1 ∧ q < p) then 1 else 0) = _
      by_cases c : rst z o p < rst z o q ∨ (rst z o q = rst z o p ∧ q < p)
      · rw [if_pos c, if_pos (by omega)]
      · rw [if_neg c, if_neg (by omega)])
    rw [e, Nat.zero_add]
    by_cases q : ah (rst z o) (z 2) p < lft z o
    · rw [if_pos ⟨by omega, q⟩, if_pos q]
    · rw [if_neg (fun w => q w.2), if_neg q]
  · have e : cntR (fun p => rst z o p + 1) (z 2) = z 2 := by
      unfold cntR
      have key : ∀ n, sum n (fun p => if rst z o p + 1 = 0 then 0 else 1) = n := by
        intro n
        induction n with
        | zero => rfl
        | succ n ih =>
          show sum n _ + (if rst z o n + 1 = 0 then 0 else 1) = n + 1
          rw [ih, if_neg (by omega)]
      exact key _
    rw [e]
    omega
end LRANK
