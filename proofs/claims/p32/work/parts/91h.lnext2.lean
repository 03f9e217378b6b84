/-! THE LAW'S OWN TOWN: next -/
section LNEXT2
variable {z : Nat → Nat} {μ μ1 : PM}
theorem Ed_h {v : Nat} (hE : Ed z) : Ed (setN z 4 v) := by
  have ne : ∀ j, j ≠ 4 → setN z 4 v j = z j := fun j hj => setN_ne hj
  have ea : ∀ o, allH (setN z 4 v) o = allH z o := fun o => by
    unfold allH
    rw [ne 2 (by decide)]
    exact sum_congr _ (fun p _ => ne _ (by omega))
  obtain ⟨n1, n2, n5, n15, ntm, npt, nfd⟩ := hE
  refine ⟨by rw [ne 1 (by decide)]; exact n1, by rw [ne 2 (by decide)]; exact n2, by rw [ne 5 (by decide)]; exact n5, by rw [ne 15 (by decide)]; exact n15, fun p hp o ho => by rw [ne _ (by omega)]; exact ntm p hp o ho, fun o ho => ⟨by rw [ne _ (by omega)]; exact (npt o ho).1, fun q => ?_⟩, by rw [ne 10 (by decide)]; exact nfd⟩
  rw [ne _ (by omega)] at q
  rw [ea]
  exact (npt o ho).2 q
theorem LT.ea : EA 13 14 18 μ := ⟨⟨⟨Or.inl rfl, okA_20 rfl, rfl⟩, ⟨Or.inl rfl, okA_20 rfl, rfl⟩, ⟨Or.inl rfl, okA_20 rfl, rfl⟩⟩, by decide, by decide, by decide⟩
/-- a run of equal cells -/
theorem upC {k : Nat} {v : Int32} {f : Nat → Nat} : ∀ n, ∀ μ : PM, ∃ μ', up n (fun i ν => stI ν k (f i) v) μ = μ' ∧ μ'.2 = μ.2 ∧ (∀ x, x ≠ k → mI μ' x = mI μ x) ∧ ∀ j, ((∃ i, i < n ∧ j = f i) → mI μ' k j = v) ∧ ((¬ ∃ i, i < n ∧ j = f i) → mI μ' k j = mI μ k j) := by
  intro n
  induction n with
  | zero => intro μ; exact ⟨μ, rfl, rfl, fun _ _ => rfl, fun j => ⟨fun ⟨i, h, _⟩ => absurd h (Nat.not_lt_zero _), fun _ => rfl⟩⟩
  | succ n ih =>
    intro μ
    obtain ⟨μ1, a1, a2, a3, a4⟩ := ih μ
    refine ⟨stI μ1 k (f n) v, ?_, a2, fun x hx => by rw [stI_ne _ _ _ hx]; exact a3 x hx, fun j => ⟨fun ⟨i, hi, he⟩ => ?_, fun h => ?_⟩⟩
    · show stI (up n _ μ) k (f n) v = _
      rw [a1]
    · rw [st_get]
      by_cases e : j = f n
      · rw [if_pos ⟨rfl, e⟩]
      · rw [if_neg (fun q => e q.2)]
        refine (a4 j).1 ⟨i, ?_, he⟩
        have : i ≠ n := fun q => e (by rw [he, q])
        omega
    · rw [st_get, if_neg (fun q => h ⟨n, Nat.lt_succ_self n, q.2⟩)]
      exact (a4 j).2 (fun ⟨i, hi, he⟩ => h ⟨i, by omega, he⟩)
theorem l_next49 : ∃ μ', Lw_next_49 0 μ = some (.inl none, μ') ∧ μ'.2 = μ.2 ∧ (∀ x, x ≠ 13 → x ≠ 15 → x ≠ 16 → mI μ' x = mI μ x) ∧ (∀ j, j < 12 → mI μ' 15 j = 0) ∧ (∀ j, j < 30 → mI μ' 16 j = -1) ∧ ∀ j, j < 21 → mI μ' 13 j = if j % 7 = 3 then -1 else mI μ 13 j := by
  obtain ⟨μ1, a1, a2, a3, a4⟩ := upC (k := 15) (v := 0) (f := fun i => i) 12 μ
  obtain ⟨μ2, b1, b2, b3, b4⟩ := upC (k := 16) (v := -1) (f := fun i => i) 30 μ1
  obtain ⟨μ3, c1, c2, c3, c4⟩ := upC (k := 13) (v := -1) (f := fun i => 7 * i + 3) 3 μ2
  refine ⟨μ3, ?_, (c2.trans b2).trans a2, fun x h1 h2 h3 => ?_, fun j hj => ?_, fun j hj => ?_, fun j hj => ?_⟩
  · have e1 : Lw_next_49 0 μ = Lw_next_49 (Int32.ofNat 12) μ1 := by
      rw [← a1]
      exact loopI (fun i ν => Lw_next_49 i ν) 12 (fun i ν => stI ν 15 i 0) (fun i hi ν => by
        show Lw_next_49 _ _ = Lw_next_49 _ _
        rw [Lw_next_49_eq, if_neg (show ¬ (12 : Int32) ≤ Int32.ofNat i from le_n (a := 12) hi (by decide)), chk_t (i3_inb hi (by decide)), i3_nat (by omega), i3_add1])
    have e2 : Lw_next_70 0 μ1 = Lw_next_70 (Int32.ofNat 30) μ2 := by
      rw [← b1]
      exact loopI (fun i ν => Lw_next_70 i ν) 30 (fun i ν => stI ν 16 i (-1)) (fun i hi ν => by
        show Lw_next_70 _ _ = Lw_next_70 _ _
        rw [Lw_next_70_eq, if_neg (show ¬ (30 : Int32) ≤ Int32.ofNat i from le_n (a := 30) hi (by decide)), chk_t (i3_inb hi (by decide)), i3_nat (by omega), i3_add1])
    have e3 : Lw_next_91 0 μ2 = Lw_next_91 (Int32.ofNat 3) μ3 := by
      rw [← c1]
      exact loopI (fun i ν => Lw_next_91 i ν) 3 (fun i ν => stI ν 13 (7 * i + 3) (-1)) (fun i hi ν => by
        show Lw_next_91 _ _ = Lw_next_91 _ _
        rw [Lw_next_91_eq, if_neg (show ¬ (3 : Int32) ≤ Int32.ofNat i from le_n (a := 3) hi (by decide)), k7, ka3, chk_t (i3_inb (by omega) (by decide)), i3_nat (by omega), i3_add1])
    rw [e1, Lw_next_49_eq, if_pos (by decide), e2, Lw_next_70_eq, if_pos (by decide), e3, Lw_next_91_eq, if_pos (by decide)]
  · rw [c3 x h1, b3 x h3, a3 x h2]
  · rw [c3 15 (by decide), b3 15 (by decide)]
    exact (a4 j).1 ⟨j, hj, rfl⟩
  · rw [c3 16 (by decide)]
    exact (b4 j).1 ⟨j, hj, rfl⟩
  · by_cases e : j % 7 = 3
    · rw [if_pos e]
      exact (c4 j).1 ⟨j / 7, by omega, by omega⟩
    · rw [if_neg e, (c4 j).2 (fun ⟨i, hi, he⟩ => e (by omega)), b3 13 (by decide), a3 13 (by decide)]
theorem hi_tim {N p o : Nat} (hk : Okz N z) (hp : p < 8) (ho : z 1 ≤ o) (ho5 : o < 5) : z (123 + 5 * p + o) = 0 := by
  have h1 := hk.2.2.2.2.2.2.2.1 p hp o ho5
  have h2 : cntT z o = 0 := sum_0 10 (fun h hh => if_pos ((hk.2.2.2.2.2.1 o ho ho5).2 h hh))
  omega
theorem l_next {N : Nat} (h : LT z μ) (hk : Okz N z) (hN : N ≤ 20020) : ∃ μ', d_Lw_next μ = some (.inl none, μ') ∧ LFr μ μ' ∧ LT (nxtZ z) μ' := by
  have hb := hk.1
  have h4 := hb.hr
  have hn1 := h.1.2.1
  have hn2 := h.1.2.2
  have hE := hk.ed hN
  have h1 : LT (setN z 4 (z 4 + 1)) (stI μ 18 4 (Int32.ofNat (z 4 + 1))) := h.s18 (by decide) (by decide)
  rw [e_Lw_next, a_n4 h, i3_add1]
  unfold nxtZ
  by_cases q : z 4 + 1 < 10
  · rw [if_neg (show ¬ (10 : Int32) ≤ Int32.ofNat (z 4 + 1) from le_n (a := 10) q (by decide)), if_pos q]
    exact ⟨_, rfl, LFr.rf.st (by decide), h1⟩
  · rw [if_pos (show (10 : Int32) ≤ Int32.ofNat (z 4 + 1) from le_y (a := 10) (by omega) (by omega)), if_neg q]
    have ne : ∀ j, j ≠ 4 → setN z 4 (z 4 + 1) j = z j := fun j hj => setN_ne hj
    obtain ⟨μ1, a1, a2, a3⟩ := l_ends (ko := 13) (kp := 14) (kc := 18) LT.ea ⟨h1.2.2.2.2.1, a_s h1 (i := 4) (by decide)⟩ (Ed_h hE) (by rw [ne 1 (by decide)]; exact hn1) (by rw [ne 2 (by decide)]; exact hn2) (fun p hp => ⟨by rw [ne _ (by omega)]; exact hi_tim hk (by omega) (by omega) (by decide), by rw [ne _ (by omega)]; exact hi_tim hk (by omega) (by omega) (by decide)⟩) ⟨h1.2.2.1, h1.2.2.2.1, h1.2.2.2.2.2.2.2⟩
    have ee : ∀ j, j ≠ 4 → endZ (setN z 4 (z 4 + 1)) j = endZ z j := fun j hj => endZ_h hj
    have e3 : mI μ1 18 3 = Int32.ofNat (z 3) := by
      rw [a3.2.2 3 (by decide), ee 3 (by decide), endZ_ne (by decide) (by omega) (by omega) (by omega) (by omega)]
    rw [a1, bV_r, e3, i3_add1, lt_b]
    obtain ⟨μ2, b1, b2, b3, b4, b5, b6⟩ := l_next49 (μ := stI (stI (stI μ1 18 3 (Int32.ofNat (z 3 + 1))) 18 4 0) 18 5 0)
    have hn0 := hb.nc
    have hb1 := hb.no
    have hb2 := hb.np
    refine ⟨μ2, b1, ⟨?_, fun x hx => ?_⟩, ⟨?_, ?_, ?_⟩, fun j hj => ?_, fun j hj => ?_, fun j hj w => ?_, fun p hp o ho => ?_, fun j hj => ?_, fun j hj => ?_, fun j hj => ?_⟩
    · rw [b2]
      show μ1.2 = _
      rw [a2.1]
      rfl
    · rw [b3 x (by omega) (by omega) (by omega), stI_ne _ _ _ (by omega), stI_ne _ _ _ (by omega), stI_ne _ _ _ (by omega), a2.2 x (by omega) (by omega) (by omega), stI_ne _ _ _ (by omega)]
    · rw [dayZ_ne (by decide) (by decide) (by decide) (by decide) (by decide) (by omega) (by omega) (by omega) (by omega)]; exact h.1.1
    · rw [dayZ_ne (by decide) (by decide) (by decide) (by decide) (by decide) (by omega) (by omega) (by omega) (by omega)]; exact hn1
    · rw [dayZ_ne (by decide) (by decide) (by decide) (by decide) (by decide) (by omega) (by omega) (by omega) (by omega)]; exact hn2
    · rw [b3 12 (by decide) (by decide) (by decide), stI_ne _ _ _ (by decide), stI_ne _ _ _ (by decide), stI_ne _ _ _ (by decide), a2.2 12 (by decide) (by decide) (by decide), stI_ne _ _ _ (by decide), dayZ_ne (by omega) (by omega) (by omega) (by omega) (by omega) (by omega) (by omega) (by omega) (by omega)]
      exact h.2.1 j hj
    · rw [b6 j hj]
      by_cases e : j % 7 = 3
      · rw [if_pos e]
        have ez : dayZ z (56 + j) = 0 := by
          unfold dayZ
          rw [if_neg (by omega), if_neg (by omega), if_neg (by omega), if_neg (by omega)]
          by_cases e1 : 56 + j < 56 + 7 * z 1
          · rw [if_pos (by omega)]
          · rw [if_neg (by omega), endZ_ne (by omega) (by omega) (by omega) (by omega) (by omega)]
            have := (hk.2.2.2.2.2.1 (j / 7) (by omega) (by omega)).1 3 (by decide)
            rw [show 56 + j = 56 + 7 * (j / 7) + 3 by omega]
            exact this
        rw [ez]
        unfold eo
        rw [if_pos e, pm_zero]
      · rw [if_neg e, stI_ne _ _ _ (by decide), stI_ne _ _ _ (by decide), stI_ne _ _ _ (by decide), a3.1 j hj, ee _ (by omega)]
        have ez : dayZ z (56 + j) = endZ z (56 + j) := by
          unfold dayZ
          rw [if_neg (by omega), if_neg (by omega), if_neg (by omega), if_neg (by omega), if_neg (by omega)]
        rw [ez]
    · have ez : ∀ i, 91 ≤ i → i < 107 → dayZ z i = endZ z i := fun i h1 h2 => by
        unfold dayZ
        rw [if_neg (by omega), if_neg (by omega), if_neg (by omega), if_neg (by omega), if_neg (by omega)]
      have e2 : dayZ z 2 = z 2 := dayZ_ne (by decide) (by decide) (by decide) (by decide) (by decide) (by omega) (by omega) (by omega) (by omega)
      have e2' : endZ (setN z 4 (z 4 + 1)) 2 = z 2 := by rw [ee 2 (by decide), endZ_ne (by decide) (by omega) (by omega) (by omega) (by omega)]
      rw [b3 14 (by decide) (by decide) (by decide), stI_ne _ _ _ (by decide), stI_ne _ _ _ (by decide), stI_ne _ _ _ (by decide), a3.2.1 j hj (fun r => by rw [e2', ← e2]; exact w r), ee _ (by omega), ez _ (by omega) (by omega)]
    · rw [b4 _ (by omega)]
      have ez : dayZ z (123 + 5 * p + o) = 0 := by
        unfold dayZ
        rw [if_neg (by omega), if_neg (by omega), if_neg (by omega), if_pos (by omega)]
      rw [ez]
      rfl
    · rw [b5 _ hj]
      have ez : dayZ z (163 + j) = 0 := by
        unfold dayZ
        rw [if_neg (by omega), if_neg (by omega), if_neg (by omega), if_pos (by omega)]
      rw [ez, pm_zero]
    · rw [b3 17 (by decide) (by decide) (by decide), stI_ne _ _ _ (by decide), stI_ne _ _ _ (by decide), stI_ne _ _ _ (by decide), a2.2 17 (by decide) (by decide) (by decide), stI_ne _ _ _ (by decide), dayZ_ne (by omega) (by omega) (by omega) (by omega) (by omega) (by omega) (by omega) (by omega) (by omega)]
      exact h.2.2.2.2.2.2.1 j hj
    · rw [b3 18 (by decide) (by decide) (by decide)]
      by_cases j5 : j = 5
      · rw [j5, st_get, if_pos ⟨rfl, rfl⟩]; rfl
      by_cases j4 : j = 4
      · rw [j4, st_get, if_neg (by decide), st_get, if_pos ⟨rfl, rfl⟩]; rfl
      by_cases j3 : j = 3
      · rw [j3, st_get, if_neg (by decide), st_get, if_neg (by decide), st_get, if_pos ⟨rfl, rfl⟩]; rfl
      rw [st_get, if_neg (fun r => j5 r.2), st_get, if_neg (fun r => j4 r.2), st_get, if_neg (fun r => j3 r.2), a3.2.2 j hj, ee _ j4]
      have ez : dayZ z j = endZ z j := by
        unfold dayZ
        rw [if_neg j3, if_neg j4, if_neg j5, if_neg (by omega), if_neg (by omega)]
      rw [ez]
end LNEXT2
