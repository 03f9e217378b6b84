/-! THE LAW'S OWN TOWN: play -/
section LPLAY
variable {z : Nat → Nat} {μ μ1 μ2 : PM}
/-- what the law's own changes leave alone -/
def LFr (μ μ' : PM) : Prop := μ'.2 = μ.2 ∧ ∀ x, (x < 12 ∨ 19 ≤ x) → mI μ' x = mI μ x
theorem LFr.rf : LFr μ μ := ⟨rfl, fun _ _ => rfl⟩
theorem LFr.tr (h : LFr μ μ1) (h' : LFr μ1 μ2) : LFr μ μ2 := ⟨h'.1.trans h.1, fun x hx => (h'.2 x hx).trans (h.2 x hx)⟩
theorem LFr.st {k j : Nat} {v : Int32} (h : LFr μ μ1) (hk : 12 ≤ k ∧ k < 19) : LFr μ (stI μ1 k j v) := ⟨h.1, fun x hx => by rw [stI_ne _ _ _ (by omega)]; exact h.2 x hx⟩
theorem LT.o13 {o w v : Nat} (h : LT z μ) (ho : o < 3) (hw : w < 7) (h3 : w ≠ 3) : LT (setN z (56 + 7 * o + w) v) (stI μ 13 (7 * o + w) (Int32.ofNat v)) := by
  have := h.s13 (i := 7 * o + w) (v := v) (w := Int32.ofNat v) (by omega) (by unfold eo; rw [if_neg (by omega)])
  rw [show 56 + (7 * o + w) = 56 + 7 * o + w by omega] at this
  exact this
theorem LT.at13 {o v : Nat} (h : LT z μ) (ho : o < 3) : LT (setN z (56 + 7 * o + 3) v) (stI μ 13 (7 * o + 3) (pm v)) := by
  have := h.s13 (i := 7 * o + 3) (v := v) (w := pm v) (by omega) (by unfold eo; rw [if_pos (by omega)])
  rw [show 56 + (7 * o + 3) = 56 + 7 * o + 3 by omega] at this
  exact this
theorem LT.p14 {p w v : Nat} (h : LT z μ) (hp : p < 4) (h1 : 1 ≤ w) (hw : w < 4) : LT (setN z (91 + 4 * p + w) v) (stI μ 14 (4 * p + w) (Int32.ofNat v)) := by
  have := h.s14 (i := 4 * p + w) (v := v) (w := Int32.ofNat v) (by omega) (by unfold ep; rw [if_neg (by omega)])
  rw [show 91 + (4 * p + w) = 91 + 4 * p + w by omega] at this
  exact this
theorem LT.w14 {p v : Nat} (h : LT z μ) (hp : p < 4) : LT (setN z (91 + 4 * p) v) (stI μ 14 (4 * p) (pm v)) :=
  h.s14 (i := 4 * p) (v := v) (w := pm v) (by omega) (by unfold ep; rw [if_pos (by omega)])
theorem LT.u16 {o i v : Nat} (h : LT z μ) (ho : o < 3) (hi : i < 10) : LT (setN z (163 + 10 * o + i) v) (stI μ 16 (10 * o + i) (pm v)) := by
  have := h.s16 (i := 10 * o + i) (v := v) (w := pm v) (by omega) rfl
  rw [show 163 + (10 * o + i) = 163 + 10 * o + i by omega] at this
  exact this
theorem crewZ_who {o n : Nat} (ho : o < 5) (hn : n ≤ 8) {p : Nat} (hp : p < 8) : crewZ o n z (91 + 4 * p) = z (91 + 4 * p) := by
  rcases crewZ_get (z := z) ho n hn (91 + 4 * p) with ⟨⟨q, q1, q2, q3⟩, _⟩ | ⟨_, q⟩
  · exfalso; omega
  · exact q
theorem l_crew163 {o : Nat} {x1 x9 x10 x11 : Int32} (h : LT z μ) (hbg : ∀ p, p < 4 → z (91 + 4 * p) < 2147483648) (ho : o < 3) : ∀ n, n ≤ z 2 → ∃ μ', Lw_play_163 (Int32.ofNat o) x1 x9 x10 x11 0 μ = Lw_play_163 (Int32.ofNat o) x1 x9 x10 x11 (Int32.ofNat n) μ' ∧ LFr μ μ' ∧ LT (crewZ o n z) μ' := by
  have h2 := h.1.2.2
  intro n
  induction n with
  | zero => intro _; exact ⟨μ, rfl, LFr.rf, h⟩
  | succ n ih =>
    intro hn
    obtain ⟨μ1, a1, a2, a3⟩ := ih (by omega)
    have e2 : crewZ o n z 2 = z 2 := crewZ_out (by omega) (by omega) (by omega)
    have ew : crewZ o n z (91 + 4 * n) = z (91 + 4 * n) := crewZ_who (by omega) (by omega) (by omega)
    have hb9 := hbg n (by omega)
    have ec : mI μ1 14 (4 * n) = pm (crewZ o n z (91 + 4 * n)) := a_w a3 (by omega)
    rw [a1, Lw_play_163_eq, a_n2 a3, e2, if_neg (le_n (by omega) (by omega)), k4, chk_t (i3_inb (by omega) (by decide)), i3_nat (by omega), ec, i3_add1, crewZ_s]
    unfold crwS
    by_cases hc : crewZ o n z (91 + 4 * n) = o + 1
    · have et : mI μ1 15 (3 * n + o) = Int32.ofNat (crewZ o n z (123 + 5 * n + o)) := a_i a3 (by omega) ho
      have eh : mI μ1 14 (4 * n + 3) = Int32.ofNat (crewZ o n z (91 + 4 * n + 3)) := a_p a3 (by omega) (by decide) (by decide)
      rw [if_pos ((pm_eq (by omega) (by omega)).mpr hc), k3, i3_add, ka3, chk_t (i3_inb (by omega) (by decide)), chk_t (i3_inb (by omega) (by decide)), i3_nat (by omega), i3_nat (by omega), et, eh, i3_add1, i3_add1, if_pos hc]
      exact ⟨_, rfl, (a2.st (by decide)).st (by decide), (a3.s15 (by omega) ho).p14 (by omega) (by decide) (by decide)⟩
    · rw [if_neg (fun q => hc ((pm_eq (by omega) (by omega)).mp q)), if_neg hc]
      exact ⟨μ1, rfl, a2, a3⟩
theorem l_play {N o t : Nat} (h : LT z μ) (hk : Okz N z) (ho : o < z 1) (ht : t < 10) (h0 : reas z o t = 0) : ∃ μ', d_Lw_play (Int32.ofNat o) (Int32.ofNat t) μ = rI (Int32.ofNat (takN z o (othN z o))) μ' ∧ LFr μ μ' ∧ LT (plaZ z o t) μ' := by
  obtain ⟨hat, hcr, hnow⟩ := reas_0 h0
  have hb := hk.1
  have h1 := h.1.2.1
  have hn2 := h.1.2.2
  have hh := hb.hr
  have ha := tak_le (k := othN z o) hb (show o < 5 by omega) hat
  have e13 : mI μ 17 2 = Int32.ofNat (z 13) := a_s h (by decide)
  have e14 : mI μ 17 3 = Int32.ofNat (z 14) := a_s h (by decide)
  have e10 : mI μ 18 10 = Int32.ofNat (z 10) := a_n h (by decide)
  have e9 : mI μ 18 9 = Int32.ofNat (z 9) := a_n h (by decide)
  have hp1 := prt_le (all := takN z o (othN z o)) hb
  have hp2 := fnd_le (all := takN z o (othN z o)) hb
  have hp3 := own_le (o := o) (all := takN z o (othN z o)) hb (by omega)
  have eo0 : mI μ 13 (7 * o) = Int32.ofNat (z (56 + 7 * o)) := a_o0 h (by omega)
  have eo5 : mI μ 13 (7 * o + 5) = Int32.ofNat (z (56 + 7 * o + 5)) := a_o h (by omega) (by decide) (by decide)
  rw [e_Lw_play, l_takes h TA16 hb hk.2.1 ho hat, bI_r]
  generalize hA : takN z o (othN z o) = A at ha hp1 hp2 hp3
  rw [e13, e14, e10, e9, i3_prt hb ha, i3_fnd hb ha, i3_sub hp1, i3_sub hp2, k7, i3_nat (by omega), eo0, i3_own hb (by omega) ha, ka5, chk_t (i3_inb (by omega) (by decide)), chk_t (i3_inb (by omega) (by decide)), i3_nat (by omega), eo5, i3_add, i3_add, i3_add, lt_b, ka4, chk_t (i3_inb (by omega) (by decide)), ka6, chk_t (i3_inb (by omega) (by decide)), i3_nat (by omega), i3_nat (by omega), i3_sub hp3]
  have r1 : LT (setN (setN (setN z 10 (z 10 + fndN z A)) 9 (z 9 + (prtN z A - fndN z A))) (56 + 7 * o + 5) (z (56 + 7 * o + 5) + ownN z o A)) (stI (stI (stI μ 18 10 (Int32.ofNat (z 10 + fndN z A))) 18 9 (Int32.ofNat (z 9 + (prtN z A - fndN z A)))) 13 (7 * o + 5) (Int32.ofNat (z (56 + 7 * o + 5) + ownN z o A))) :=
    ((h.s18 (by decide) (by decide)).s18 (by decide) (by decide)).o13 (by omega) (by decide) (by decide)
  have f1 : LFr μ (stI (stI (stI μ 18 10 (Int32.ofNat (z 10 + fndN z A))) 18 9 (Int32.ofNat (z 9 + (prtN z A - fndN z A)))) 13 (7 * o + 5) (Int32.ofNat (z (56 + 7 * o + 5) + ownN z o A))) := ((LFr.rf.st (by decide)).st (by decide)).st (by decide)
  generalize stI (stI (stI μ 18 10 (Int32.ofNat (z 10 + fndN z A))) 18 9 (Int32.ofNat (z 9 + (prtN z A - fndN z A)))) 13 (7 * o + 5) (Int32.ofNat (z (56 + 7 * o + 5) + ownN z o A)) = μ1 at r1 f1 ⊢
  have g4 : mI μ1 13 (7 * o + 4) = Int32.ofNat (z (56 + 7 * o + 4)) := by
    have := a_o (o := o) (w := 4) r1 (by omega) (by decide) (by decide)
    rw [setN_ne (by omega), setN_ne (by omega), setN_ne (by omega)] at this
    exact this
  have g6 : mI μ1 13 (7 * o + 6) = Int32.ofNat (z (56 + 7 * o + 6)) := by
    have := a_o (o := o) (w := 6) r1 (by omega) (by decide) (by decide)
    rw [setN_ne (by omega), setN_ne (by omega), setN_ne (by omega)] at this
    exact this
  have g8 : mI μ1 18 8 = Int32.ofNat (z 8) := by
    have := a_n (i := 8) r1 (by decide)
    rw [setN_ne (by omega), setN_ne (by omega), setN_ne (by omega)] at this
    exact this
  rw [g4, i3_add, st_get, if_neg (by omega), g6, g8, i3_add, i3_add, lt_b]
  have r2 : LT (setN (divZ z o A) 8 (z 8 + A)) (stI (stI (stI μ1 13 (7 * o + 4) (Int32.ofNat (z (56 + 7 * o + 4) + (A - prtN z A - ownN z o A)))) 13 (7 * o + 6) (Int32.ofNat (z (56 + 7 * o + 6) + A))) 18 8 (Int32.ofNat (z 8 + A))) :=
    ((r1.o13 (w := 4) (by omega) (by decide) (by decide)).o13 (w := 6) (by omega) (by decide) (by decide)).s18 (by decide) (by decide)
  have f2 := ((f1.st (k := 13) (j := 7 * o + 4) (v := Int32.ofNat (z (56 + 7 * o + 4) + (A - prtN z A - ownN z o A))) (by decide)).st (k := 13) (j := 7 * o + 6) (v := Int32.ofNat (z (56 + 7 * o + 6) + A)) (by decide)).st (k := 18) (j := 8) (v := Int32.ofNat (z 8 + A)) (by decide)
  generalize stI (stI (stI μ1 13 (7 * o + 4) (Int32.ofNat (z (56 + 7 * o + 4) + (A - prtN z A - ownN z o A)))) 13 (7 * o + 6) (Int32.ofNat (z (56 + 7 * o + 6) + A))) 18 8 (Int32.ofNat (z 8 + A)) = μ2 at r2 f2 ⊢
  have dz : ∀ j, (j < 9 ∨ (10 < j ∧ j < 56) ∨ 91 ≤ j) → divZ z o A j = z j := fun j hj => divZ_ne (by omega) (by omega) (by omega) (by omega) (by omega)
  have n4 : mI μ2 18 4 = Int32.ofNat (z 4) := by
    have := a_n4 r2
    rw [setN_ne (by decide), dz 4 (by omega)] at this
    exact this
  have n7 : mI μ2 18 7 = Int32.ofNat (z 7) := by
    have := a_n (i := 7) r2 (by decide)
    rw [setN_ne (by decide), dz 7 (by omega)] at this
    exact this
  rw [n4, k10, i3_add, chk_t (i3_inb (by omega) (by decide)), i3_nat (by omega), n7, i3_add1, ← pm_succ t]
  have r3 : LT (setN (setN (setN (divZ z o A) 8 (z 8 + A)) 7 (z 7 + 1)) (163 + 10 * o + z 4) (t + 1)) (stI (stI μ2 18 7 (Int32.ofNat (z 7 + 1))) 16 (10 * o + z 4) (pm (t + 1))) :=
    (r2.s18 (by decide) (by decide)).u16 (by omega) (by omega)
  have d2 : setN (setN (setN (divZ z o A) 8 (z 8 + A)) 7 (z 7 + 1)) (163 + 10 * o + z 4) (t + 1) 2 = z 2 := by
    rw [setN_ne (by omega), setN_ne (by omega), setN_ne (by omega), dz 2 (by omega)]
  obtain ⟨μ3, c1, c2, c3⟩ := l_crew163 (o := o) (x1 := pm (t + 1)) (x9 := Int32.ofNat A) (x10 := Int32.ofNat (prtN z A)) (x11 := Int32.ofNat (ownN z o A)) r3 (fun p hp => by
    rw [setN_ne (by omega), setN_ne (by omega), setN_ne (by omega), dz _ (by omega)]
    exact hb.big _ (by omega)) (by omega) (z 2) (by rw [d2]; exact Nat.le_refl _)
  have ez : crewZ o (z 2) (setN (setN (setN (divZ z o A) 8 (z 8 + A)) 7 (z 7 + 1)) (163 + 10 * o + z 4) (t + 1)) = plaZ z o t := by
    rw [crewZ_comm (by omega) (by omega) _ (by omega), crewZ_comm (by omega) (by omega) _ (by omega), crewZ_comm (by omega) (by omega) _ (by omega)]
    unfold plaZ notZ
    rw [hA, crewZ_out (j := 7) (by omega) (by omega) (by omega), crewZ_out (j := 4) (by omega) (by omega) (by omega), dz 7 (by omega), dz 4 (by omega)]
  rw [ez] at c3
  have p2 : plaZ z o t 2 = z 2 := by
    rw [← ez, crewZ_out (by omega) (by omega) (by omega), d2]
  refine ⟨μ3, ?_, (f2.tr ((LFr.rf.st (by decide)).st (by decide))).tr c2, c3⟩
  rw [c1, Lw_play_163_eq, a_n2 c3, p2, if_pos (le_y (Nat.le_refl _) (by omega))]
end LPLAY
