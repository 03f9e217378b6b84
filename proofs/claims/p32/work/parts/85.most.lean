/-! SEMANTICS: the most: picks, numbers alone -/
section MOST
variable {z : Nat → Nat}
/-- organ d can play tune v - 1 behind the picks ahead of it -/
def cpk (z : Nat → Nat) (d v : Nat) (P : Nat → Nat) : Prop := (tunS z d).testBit (v - 1) = true ∧ ∀ e, e < d → P e = v → ¬ nearO z d e
def ahd (z : Nat → Nat) (P : Nat → Nat) (d : Nat) : Nat := sum d (fun e => if P e ≠ 0 ∧ near z (z (56 + 7 * d + 3) - 1) (z (56 + 7 * e + 3) - 1) then 1 else 0)
def ptk (z : Nat → Nat) (d : Nat) (P : Nat → Nat) : Nat := takN z d (othN z d + ahd z P d)
def msk (P : Nat → Nat) (n : Nat) : Nat := up n (fun o b => b ||| (if P o = 0 then 0 else 1 <<< o)) 0
def kp (b : Nat × Nat) (s m : Nat) : Nat × Nat := if b.1 < s ∨ (s = b.1 ∧ m < b.2) then (s, m) else b
def flM (f : Nat → Nat × Nat → Nat × Nat) : Nat → Nat → Nat × Nat → Nat × Nat
  | 0, _, b => b
  | j + 1, v, b => flM f j (v + 1) (f v b)
noncomputable def lay (z : Nat → Nat) : Nat → Nat → (Nat → Nat) → Nat → Nat × Nat → Nat × Nat
  | 0, d, P, s, b => kp b s (msk P d)
  | k + 1, d, P, s, b => flM (fun v b => if v = 0 then lay z k (d + 1) (setN P d 0) s b else @ite _ (cpk z d v P) (Classical.propDecidable _) (lay z k (d + 1) (setN P d v) (s + ptk z d P) b) b) 11 0 b
/-- a pick that is good behind those ahead of it -/
def good (z : Nat → Nat) (Q : Nat → Nat) (e : Nat) : Prop := Q e = 0 ∨ (Q e ≤ 10 ∧ 1 ≤ Q e ∧ cpk z e (Q e) Q)
def tkq (z : Nat → Nat) (Q : Nat → Nat) (o : Nat) : Nat := if Q o = 0 then 0 else ptk z o Q
def tl (z : Nat → Nat) (Q : Nat → Nat) (d k : Nat) : Nat := sum k (fun i => tkq z Q (d + i))
theorem tl_s {Q : Nat → Nat} {d k : Nat} : tl z Q d (k + 1) = tkq z Q d + tl z Q (d + 1) k := by
  unfold tl
  rw [sum_front]
  congr 1
  exact sum_congr _ (fun i _ => by rw [show d + (i + 1) = d + 1 + i by omega])
/-- y is at least as good as x -/
def leB (x y : Nat × Nat) : Prop := x.1 < y.1 ∨ (x.1 = y.1 ∧ y.2 ≤ x.2)
theorem leB.rf {x : Nat × Nat} : leB x x := Or.inr ⟨rfl, Nat.le_refl _⟩
theorem leB.tr {x y w : Nat × Nat} (h : leB x y) (h' : leB y w) : leB x w := by
  rcases h with h | ⟨h1, h2⟩
  · rcases h' with g | ⟨g1, g2⟩
    · exact Or.inl (by omega)
    · exact Or.inl (by omega)
  · rcases h' with g | ⟨g1, g2⟩
    · exact Or.inl (by omega)
    · exact Or.inr ⟨by omega, by omega⟩
theorem leB.anti {x y : Nat × Nat} (h : leB x y) (h' : leB y x) : x = y := by
  refine Prod.ext ?_ ?_
  · rcases h with h | ⟨h1, h2⟩
    · rcases h' with g | ⟨g1, g2⟩ <;> omega
    · exact h1
  · rcases h with h | ⟨h1, h2⟩
    · rcases h' with g | ⟨g1, g2⟩ <;> omega
    · rcases h' with g | ⟨g1, g2⟩
      · omega
      · omega
theorem kp_le {b : Nat × Nat} {s m : Nat} : leB b (kp b s m) ∧ leB (s, m) (kp b s m) ∧ (kp b s m = b ∨ kp b s m = (s, m)) := by
  unfold kp
  by_cases h : b.1 < s ∨ (s = b.1 ∧ m < b.2)
  · rw [if_pos h]
    refine ⟨?_, leB.rf, Or.inr rfl⟩
    rcases h with h | ⟨h1, h2⟩
    · exact Or.inl h
    · exact Or.inr ⟨h1.symm, by show m ≤ b.2; omega⟩
  · rw [if_neg h]
    refine ⟨leB.rf, ?_, Or.inl rfl⟩
    by_cases q : s < b.1
    · exact Or.inl q
    · refine Or.inr ⟨?_, ?_⟩
      · show s = b.1
        omega
      · show b.2 ≤ m
        have : s = b.1 := by omega
        omega
theorem fl_le {f : Nat → Nat × Nat → Nat × Nat} (hf : ∀ v b, leB b (f v b)) : ∀ j v b, leB b (flM f j v b) := by
  intro j
  induction j with
  | zero => intro v b; exact leB.rf
  | succ j ih => intro v b; exact (hf v b).tr (ih (v + 1) (f v b))
theorem fl_any {f : Nat → Nat × Nat → Nat × Nat} (hf : ∀ v b, leB b (f v b)) (x : Nat × Nat) : ∀ j v b w, v ≤ w → w < v + j → (∀ b, leB x (f w b)) → leB x (flM f j v b) := by
  intro j
  induction j with
  | zero => intro v b w h1 h2; exact absurd h2 (by omega)
  | succ j ih =>
    intro v b w h1 h2 h3
    by_cases q : v = w
    · subst q
      exact (h3 b).tr (fl_le hf j (v + 1) (f v b))
    · exact ih (v + 1) (f v b) w (by omega) (by omega) h3
theorem fl_is {f : Nat → Nat × Nat → Nat × Nat} (R : Nat × Nat → Prop) (hf : ∀ v b, v < 11 → f v b = b ∨ R (f v b)) : ∀ j v b, v + j ≤ 11 → flM f j v b = b ∨ R (flM f j v b) := by
  intro j
  induction j with
  | zero => intro v b _; exact Or.inl rfl
  | succ j ih =>
    intro v b h
    show flM f j (v + 1) (f v b) = b ∨ R (flM f j (v + 1) (f v b))
    rcases ih (v + 1) (f v b) (by omega) with q | q
    · rw [q]
      exact hf v b (by omega)
    · exact Or.inr q
theorem cpk_ext {d v : Nat} {P Q : Nat → Nat} (h : ∀ e, e < d → Q e = P e) : cpk z d v Q ↔ cpk z d v P := by
  unfold cpk
  constructor
  · rintro ⟨a, b⟩; exact ⟨a, fun e he q => b e he (by rw [h e he]; exact q)⟩
  · rintro ⟨a, b⟩; exact ⟨a, fun e he q => b e he (by rw [← h e he]; exact q)⟩
theorem ptk_ext {d : Nat} {P Q : Nat → Nat} (h : ∀ e, e < d → Q e = P e) : ptk z d Q = ptk z d P := by
  have e : ahd z Q d = ahd z P d := sum_congr d (fun i hi => by rw [h i hi])
  unfold ptk
  rw [e]
theorem lay_spec : ∀ (k d : Nat) (P : Nat → Nat) (s : Nat) (b : Nat × Nat), leB b (lay z k d P s b) ∧
    (∀ Q, (∀ e, e < d → Q e = P e) → (∀ e, d ≤ e → e < d + k → good z Q e) → leB (s + tl z Q d k, msk Q (d + k)) (lay z k d P s b)) ∧
    (lay z k d P s b = b ∨ ∃ Q, (∀ e, e < d → Q e = P e) ∧ (∀ e, d ≤ e → e < d + k → good z Q e) ∧ lay z k d P s b = (s + tl z Q d k, msk Q (d + k))) := by
  intro k
  induction k with
  | zero =>
    intro d P s b
    have h := kp_le (b := b) (s := s) (m := msk P d)
    have hm : ∀ Q : Nat → Nat, (∀ e, e < d → Q e = P e) → msk Q d = msk P d := fun Q hQ => up_congr d (fun i hi x => by rw [hQ i hi])
    refine ⟨h.1, fun Q hQ _ => ?_, ?_⟩
    · show leB (s + 0, msk Q d) (kp b s (msk P d))
      rw [hm Q hQ]
      exact h.2.1
    · rcases h.2.2 with q | q
      · exact Or.inl q
      · exact Or.inr ⟨P, fun _ _ => rfl, fun e h1 h2 => absurd h2 (by omega), q⟩
  | succ k ih =>
    intro d P s b
    have hset : ∀ (v : Nat) (Q : Nat → Nat), (∀ e, e < d + 1 → Q e = setN P d v e) ↔ ((∀ e, e < d → Q e = P e) ∧ Q d = v) := fun v Q => by
      constructor
      · intro h
        refine ⟨fun e he => ?_, ?_⟩
        · rw [h e (by omega), setN_ne (by omega)]
        · rw [h d (by omega), setN_self]
      · rintro ⟨h1, h2⟩ e he
        by_cases q : e = d
        · rw [q, setN_self, h2]
        · rw [setN_ne q, h1 e (by omega)]
    have hfle : ∀ v b, leB b ((fun v b => if v = 0 then lay z k (d + 1) (setN P d 0) s b else @ite _ (cpk z d v P) (Classical.propDecidable _) (lay z k (d + 1) (setN P d v) (s + ptk z d P) b) b) v b) := fun v b => by
      show leB b (if v = 0 then _ else _)
      by_cases q : v = 0
      · rw [if_pos q]; exact (ih _ _ _ _).1
      · rw [if_neg q]
        by_cases q2 : cpk z d v P
        · rw [if_pos q2]; exact (ih _ _ _ _).1
        · rw [if_neg q2]; exact leB.rf
    refine ⟨fl_le hfle 11 0 b, fun Q h1 h2 => ?_, ?_⟩
    · have hgd := h2 d (Nat.le_refl _) (by omega)
      have hdk : d + 1 + k = d + (k + 1) := by omega
      refine fl_any hfle _ 11 0 b (Q d) (Nat.zero_le _) ?_ (fun b => ?_)
      · rcases hgd with g | g
        · omega
        · omega
      · show leB _ (if Q d = 0 then _ else _)
        by_cases q : Q d = 0
        · rw [if_pos q]
          have := (ih (d + 1) (setN P d 0) s b).2.1 Q ((hset 0 Q).mpr ⟨h1, q⟩) (fun e g1 g2 => h2 e (by omega) (by omega))
          have et : tkq z Q d = 0 := if_pos q
          rw [tl_s, et, Nat.zero_add, ← hdk]
          exact this
        · rw [if_neg q]
          have hc : cpk z d (Q d) P := by
            rcases hgd with g | g
            · exact absurd g q
            · exact (cpk_ext h1).mp g.2.2
          rw [if_pos hc]
          have := (ih (d + 1) (setN P d (Q d)) (s + ptk z d P) b).2.1 Q ((hset (Q d) Q).mpr ⟨h1, rfl⟩) (fun e g1 g2 => h2 e (by omega) (by omega))
          have et : tkq z Q d = ptk z d P := (if_neg q).trans (ptk_ext h1)
          rw [tl_s, et, ← Nat.add_assoc, ← hdk]
          exact this
    · refine fl_is (fun r => ∃ Q, (∀ e, e < d → Q e = P e) ∧ (∀ e, d ≤ e → e < d + (k + 1) → good z Q e) ∧ r = (s + tl z Q d (k + 1), msk Q (d + (k + 1)))) (fun v b hv => ?_) 11 0 b (Nat.le_refl _)
      have hdk : d + 1 + k = d + (k + 1) := by omega
      show (if v = 0 then _ else _) = b ∨ ∃ Q, _ ∧ _ ∧ (if v = 0 then _ else _) = _
      by_cases q : v = 0
      · rw [if_pos q]
        rcases (ih (d + 1) (setN P d 0) s b).2.2 with g | ⟨Q, g1, g2, g3⟩
        · exact Or.inl g
        · obtain ⟨g4, g5⟩ := (hset 0 Q).mp g1
          refine Or.inr ⟨Q, g4, fun e h1 h2 => ?_, ?_⟩
          · by_cases r : e = d
            · subst r; exact Or.inl g5
            · exact g2 e (by omega) (by omega)
          · have et : tkq z Q d = 0 := if_pos g5
            rw [g3, tl_s, et, Nat.zero_add, hdk]
      · rw [if_neg q]
        by_cases q2 : cpk z d v P
        · rw [if_pos q2]
          rcases (ih (d + 1) (setN P d v) (s + ptk z d P) b).2.2 with g | ⟨Q, g1, g2, g3⟩
          · exact Or.inl g
          · obtain ⟨g4, g5⟩ := (hset v Q).mp g1
            refine Or.inr ⟨Q, g4, fun e h1 h2 => ?_, ?_⟩
            · by_cases r : e = d
              · subst r
                exact Or.inr ⟨by omega, by omega, by rw [g5]; exact (cpk_ext g4).mpr q2⟩
              · exact g2 e (by omega) (by omega)
            · have et : tkq z Q d = ptk z d P := (if_neg (by omega)).trans (ptk_ext g4)
              rw [g3, tl_s, et, ← Nat.add_assoc, hdk]
        · rw [if_neg q2]
          exact Or.inl rfl
/-! sets of organs -/
theorem msk_bit {Q : Nat → Nat} {o : Nat} : ∀ n, n ≤ 5 → o < 5 → ((msk Q n).testBit o = true ↔ o < n ∧ Q o ≠ 0) := by
  have hb : ∀ i, i < 5 → ∀ o, o < 5 → ((1 <<< i).testBit o = true ↔ o = i) := by decide
  intro n
  induction n with
  | zero =>
    intro _ ho
    have : msk Q 0 = 0 := rfl
    rw [this, Nat.zero_testBit]
    exact ⟨fun q => (by cases q), fun q => absurd q.1 (Nat.not_lt_zero o)⟩
  | succ n ih =>
    intro hn ho
    have e : msk Q (n + 1) = msk Q n ||| (if Q n = 0 then 0 else 1 <<< n) := rfl
    rw [e, Nat.testBit_or, Bool.or_eq_true, ih (by omega) ho]
    by_cases q : Q n = 0
    · rw [if_pos q, Nat.zero_testBit]
      constructor
      · rintro (⟨a, b⟩ | a)
        · exact ⟨by omega, b⟩
        · cases a
      · rintro ⟨a, b⟩
        by_cases r : o = n
        · subst r; exact absurd q b
        · exact Or.inl ⟨by omega, b⟩
    · rw [if_neg q, hb n (by omega) o ho]
      constructor
      · rintro (⟨a, b⟩ | a)
        · exact ⟨by omega, b⟩
        · subst a; exact ⟨by omega, q⟩
      · rintro ⟨a, b⟩
        by_cases r : o = n
        · exact Or.inr r
        · exact Or.inl ⟨by omega, b⟩
theorem msk_lt {Q : Nat → Nat} : ∀ n, n ≤ 5 → msk Q n < 2 ^ n := by
  intro n
  induction n with
  | zero => intro _; exact Nat.one_pos
  | succ n ih =>
    intro hn
    have e : msk Q (n + 1) = msk Q n ||| (if Q n = 0 then 0 else 1 <<< n) := rfl
    rw [e]
    refine Nat.or_lt_two_pow ?_ ?_
    · exact Nat.lt_of_lt_of_le (ih (by omega)) (Nat.pow_le_pow_right (by decide) (by omega))
    · split
      · exact Nat.two_pow_pos _
      · rw [Nat.shiftLeft_eq, Nat.one_mul]
        exact Nat.pow_lt_pow_right (by decide) (by omega)
/-- what a set of organs takes -/
def ahS (z : Nat → Nat) (S o : Nat) : Nat := sum o (fun e => if S.testBit e = true ∧ z (56 + 7 * e + 3) ≠ 0 ∧ near z (z (56 + 7 * o + 3) - 1) (z (56 + 7 * e + 3) - 1) then 1 else 0)
def tkS (z : Nat → Nat) (S : Nat) : Nat := sum (z 1) (fun o => if S.testBit o = true then (if z (56 + 7 * o + 3) = 0 then 0 else takN z o (othN z o + ahS z S o)) else 0)
/-- tunes can be chosen for a set -/
def feas (z : Nat → Nat) (S : Nat) : Prop := ∃ Q, (∀ e, e < z 1 → good z Q e) ∧ ∀ e, e < z 1 → (S.testBit e = true ↔ Q e ≠ 0)
theorem good_at {Q : Nat → Nat} {e : Nat} (h : good z Q e) (h0 : Q e ≠ 0) : z (56 + 7 * e + 3) ≠ 0 := by
  rcases h with h | h
  · exact absurd h h0
  · exact (can_o h.2.2.1).1
theorem tl_tkS {Q : Nat → Nat} {S : Nat} (hn : z 1 ≤ 5) (hg : ∀ e, e < z 1 → good z Q e) (hS : ∀ e, e < z 1 → (S.testBit e = true ↔ Q e ≠ 0)) : tl z Q 0 (z 1) = tkS z S := by
  refine sum_congr _ (fun o ho => ?_)
  rw [Nat.zero_add]
  unfold tkq
  by_cases q : Q o = 0
  · rw [if_pos q, if_neg (fun r => (hS o ho).mp r q)]
  · have hat := good_at (hg o ho) q
    rw [if_neg q, if_pos ((hS o ho).mpr q), if_neg hat]
    unfold ptk
    congr 2
    refine sum_congr _ (fun e he => ?_)
    by_cases r : Q e ≠ 0 ∧ near z (z (56 + 7 * o + 3) - 1) (z (56 + 7 * e + 3) - 1)
    · rw [if_pos r, if_pos ⟨(hS e (by omega)).mpr r.1, good_at (hg e (by omega)) r.1, r.2⟩]
    · rw [if_neg r, if_neg (fun w => r ⟨(hS e (by omega)).mp w.1, w.2.2⟩)]
/-- the best of all sets, the least of like ones -/
def isBest (z : Nat → Nat) (r : Nat × Nat) : Prop := (∃ S, S < 2 ^ z 1 ∧ feas z S ∧ r = (tkS z S, S)) ∧ ∀ S, S < 2 ^ z 1 → feas z S → leB (tkS z S, S) r
theorem isBest.uni {r r' : Nat × Nat} (h : isBest z r) (h' : isBest z r') : r = r' := by
  obtain ⟨⟨S, a1, a2, a3⟩, a4⟩ := h
  obtain ⟨⟨S', b1, b2, b3⟩, b4⟩ := h'
  refine leB.anti ?_ ?_
  · rw [a3]; exact b4 S a1 a2
  · rw [b3]; exact a4 S' b1 b2
theorem feas_0 : feas z 0 := ⟨fun _ => 0, fun _ _ => Or.inl rfl, fun e _ => ⟨fun q => (by rw [Nat.zero_testBit] at q; cases q), fun q => absurd rfl q⟩⟩
theorem tkS_0 : tkS z 0 = 0 := by
  have : tkS z 0 = sum (z 1) (fun _ => 0) := sum_congr _ (fun o _ => if_neg (fun q => by rw [Nat.zero_testBit] at q; cases q))
  rw [this]
  have := sum_le (f := fun _ => 0) (b := 0) (z 1) (fun i _ => Nat.le_refl _)
  omega
theorem lay_best (hn : z 1 ≤ 5) (P : Nat → Nat) : isBest z (lay z (z 1) 0 P 0 (0, 0)) := by
  obtain ⟨h1, h2, h3⟩ := lay_spec (z := z) (z 1) 0 P 0 (0, 0)
  constructor
  · rcases h3 with q | ⟨Q, -, q2, q3⟩
    · exact ⟨0, Nat.two_pow_pos _, feas_0, by rw [q, tkS_0]⟩
    · rw [Nat.zero_add] at q3
      rw [Nat.zero_add] at q2
      have hS : ∀ e, e < z 1 → ((msk Q (z 1)).testBit e = true ↔ Q e ≠ 0) := fun e he => (msk_bit (z 1) hn (by omega)).trans ⟨fun r => r.2, fun r => ⟨he, r⟩⟩
      have hg : ∀ e, e < z 1 → good z Q e := fun e he => q2 e (Nat.zero_le _) he
      refine ⟨msk Q (z 1), msk_lt _ hn, ⟨Q, hg, hS⟩, ?_⟩
      rw [q3, tl_tkS hn hg hS, Nat.zero_add]
  · rintro S hS ⟨Q, g1, g2⟩
    have := h2 Q (fun e he => absurd he (Nat.not_lt_zero e)) (fun e _ he => g1 e (by omega))
    rw [tl_tkS hn g1 g2, Nat.zero_add, Nat.zero_add] at this
    have e : msk Q (z 1) = S := by
      refine Nat.eq_of_testBit_eq fun i => ?_
      rw [Bool.eq_iff_iff]
      by_cases hi : i < z 1
      · rw [msk_bit (z 1) hn (by omega), g2 i hi]
        exact ⟨fun r => r.2, fun r => ⟨hi, r⟩⟩
      · have e1 := Nat.testBit_lt_two_pow (Nat.lt_of_lt_of_le (msk_lt (Q := Q) (z 1) hn) (Nat.pow_le_pow_right (show 0 < 2 by decide) (show z 1 ≤ i by omega)))
        have e2 := Nat.testBit_lt_two_pow (Nat.lt_of_lt_of_le hS (Nat.pow_le_pow_right (show 0 < 2 by decide) (show z 1 ≤ i by omega)))
        rw [e1, e2]
    rw [e] at this
    exact this
end MOST
