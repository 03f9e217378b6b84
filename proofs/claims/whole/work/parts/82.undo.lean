/-! SEMANTICS: undo -/
section UNDO
variable {z : Nat → Nat} {μ : PM}
theorem m_undo30 {sv : Nat} (hs : mI μ 12 14 = Int32.ofNat sv) (hsv : sv < 6) : ∀ m, m ≤ 213 → ∃ μ', Md_undo_30 0 μ = Md_undo_30 (Int32.ofNat m) μ' ∧ μ'.2 = μ.2 ∧ (∀ x, x ≠ 13 → mI μ' x = mI μ x) ∧ ∀ k, mI μ' 13 k = if k < m then mI μ 15 (213 * sv + k) else mI μ 13 k := by
  intro m
  induction m with
  | zero => intro _; exact ⟨μ, rfl, rfl, fun _ _ => rfl, fun k => by rw [if_neg (Nat.not_lt_zero k)]⟩
  | succ m ih =>
    intro hm
    obtain ⟨μ1, a1, a2, a3, a4⟩ := ih (by omega)
    have e7 : 213 * Int32.ofNat sv + Int32.ofNat m = Int32.ofNat (213 * sv + m) := by
      rw [show (213 : Int32) = Int32.ofNat 213 from rfl, i3_mul, i3_add]
    refine ⟨stI μ1 13 m (mI μ 15 (213 * sv + m)), ?_, a2, fun x hx => ?_, fun k => ?_⟩
    · rw [a1, Md_undo_30_eq, if_neg (show ¬ (213 : Int32) ≤ Int32.ofNat m from le_n (a := 213) (by omega) (by decide)), a3 12 (by decide), hs, e7, chk_t (i3_inb (by omega) (by decide)), chk_t (i3_inb (by omega) (by decide)), i3_nat (by omega), i3_nat (by omega), a3 15 (by decide), i3_add1]
    · rw [stI_ne _ _ _ hx, a3 x hx]
    · rw [st_get, a4]
      by_cases e : k = m
      · rw [if_pos ⟨rfl, e⟩, if_pos (by omega), e]
      · rw [if_neg (fun q => e q.2)]
        by_cases e2 : k < m
        · rw [if_pos e2, if_pos (by omega)]
        · rw [if_neg e2, if_neg (by omega)]
/-- the state that lies behind the row's end -/
def cutZ (z zs : Nat → Nat) : Nat → Nat := fun k => if k < 213 then zs k else z k
theorem bd_cut {zs : Nat → Nat} (h : Bd zs) : Bd (cutZ z zs) := by
  have e : ∀ k, k < 213 → cutZ z zs k = zs k := fun k hk => if_pos hk
  refine ⟨?_, ?_, ?_, ?_, ?_, ?_, ?_, ?_, ?_, ?_, fun c hc => ?_, fun o ho => ?_, fun p hp => ?_, fun p hp o ho => ?_, fun o ho h' hh => ?_, fun k hk => ?_⟩
  · rw [e _ (by decide)]; exact h.nc
  · rw [e _ (by decide)]; exact h.no
  · rw [e _ (by decide)]; exact h.np
  · rw [e _ (by decide)]; exact h.hr
  · rw [e _ (by decide)]; exact h.wt
  · rw [e _ (by decide)]; exact h.s0
  · rw [e _ (by decide)]; exact h.s1
  · rw [e _ (by decide)]; exact h.s2
  · rw [e _ (by decide)]; exact h.s3
  · rw [e _ (by decide)]; exact h.s4
  · rw [e _ (by omega), e _ (by omega), e _ (by omega), e _ (by omega)]; exact h.cor c hc
  · rw [e _ (by omega), e _ (by omega), e _ (by omega), e _ (by omega), e _ (by decide)]; exact h.org o ho
  · rw [e _ (by omega), e _ (by decide)]; exact h.crw p hp
  · rw [e _ (by omega)]; exact h.tim p hp o ho
  · rw [e _ (by omega)]; exact h.tun o ho h' hh
  · rw [e _ hk]; exact h.big k hk
theorem ok_cut {N : Nat} {zs : Nat → Nat} (hk : Okz N zs) : Okz N (cutZ z zs) := by
  have ne : ∀ k, k < 213 → cutZ z zs k = zs k := fun k hk => if_pos hk
  obtain ⟨hb, hpl, hdj, ht, hfu, hor, hpy, htm, hpt, hph, hcs, a, b, c, d, e⟩ := hk
  have n1 := hb.no
  have n2 := hb.np
  have hh := hb.hr
  have e1 : cutZ z zs 1 = zs 1 := ne 1 (by decide)
  have e2 : cutZ z zs 2 = zs 2 := ne 2 (by decide)
  have e4 : cutZ z zs 4 = zs 4 := ne 4 (by decide)
  have eo : ∀ w, w < 7 → orgS (cutZ z zs) w = orgS zs w := fun w hw => by
    unfold orgS
    rw [e1]
    exact sum_congr _ (fun i hi => ne _ (by omega))
  have ec : ∀ o, o < 5 → cntT (cutZ z zs) o = cntT zs o := fun o ho => sum_congr _ (fun i hi => by rw [ne _ (by omega)])
  have eg : gotS (cutZ z zs) = gotS zs := by
    unfold gotS
    rw [e2]
    exact sum_congr _ (fun i hi => ne _ (by omega))
  refine ⟨bd_cut hb, fun o ho h hh q => ?_, fun o x ho hx q r => ?_, ?_, fun o ho h h1 h2 => ?_, fun o h1 ho => ⟨fun w hw => ?_, fun h hh => ?_⟩, fun p h1 hp => ⟨fun w hw => ?_, fun o ho => ?_⟩, fun p hp o ho => ?_, fun o ho => ?_, fun o ho q => ?_, ?_, ?_, ?_, ?_, fun p hp => ?_, fun p hp => ?_⟩
  · rw [ne _ (by omega)] at q ⊢
    exact hpl o ho h hh q
  · rw [ne _ (by omega)] at q r
    rw [ne _ (by omega)] at r
    exact hdj o x ho hx q r
  · rw [eo _ (by decide), ne _ (by decide)]; exact ht
  · rw [e4] at h1
    rw [ne _ (by omega)]
    exact hfu o ho h h1 h2
  · rw [e1] at h1
    rw [ne _ (by omega)]
    exact (hor o h1 ho).1 w hw
  · rw [e1] at h1
    rw [ne _ (by omega)]
    exact (hor o h1 ho).2 h hh
  · rw [e2] at h1
    rw [ne _ (by omega)]
    exact (hpy p h1 hp).1 w hw
  · rw [e2] at h1
    rw [ne _ (by omega)]
    exact (hpy p h1 hp).2 o ho
  · rw [ne _ (by omega), ec o ho]; exact htm p hp o ho
  · rw [ne _ (by omega), ec o ho]; exact hpt o ho
  · rw [ne _ (by omega)] at q
    obtain ⟨p, h1, h2⟩ := hph o ho q
    exact ⟨p, h1, by rw [ne _ (by omega)]; exact h2⟩
  · rw [eg, eo _ (by decide), eo _ (by decide), ne _ (by decide), ne _ (by decide), ne _ (by decide)]; exact hcs
  · rw [ne _ (by decide)]; exact a
  · rw [ne _ (by decide)]; exact b
  · rw [ne _ (by decide)]; exact c
  · rw [ne _ (by omega)]; exact d p hp
  · rw [ne _ (by omega), ne _ (by omega)]; exact e p hp
theorem rt_cut {t : Nat} {zs : Nat → Nat} (hb : Bd zs) (hr : RT t zs μ) : RT t (cutZ z zs) μ := by
  have ne : ∀ k, k < 213 → cutZ z zs k = zs k := fun k hk => if_pos hk
  have n1 := hb.no
  have hh := hb.hr
  have e1 : cutZ z zs 1 = zs 1 := ne 1 (by decide)
  have en : ∀ c h, h < 10 → noted (cutZ z zs) c h = noted zs c h := fun c h hh => by
    unfold noted
    rw [e1]
    exact up_congr _ (fun i hi x => by rw [ne _ (by omega), ne _ (by omega)])
  have ep : plyS (cutZ z zs) = plyS zs := sum_congr _ (fun i hi => by rw [ne _ (by omega)])
  obtain ⟨⟨⟨q4, q5, q6, q7, q8, q9⟩, q10, q11, q12, q13, q14⟩, qs, qc, qo, qp⟩ := hr
  refine ⟨⟨⟨?_, ?_, ?_, ?_, ?_, ?_⟩, ?_, ?_, ?_, ?_, ?_⟩, fun i hi => ?_, fun c hc => ⟨fun w hw => ?_, fun w hw => ?_⟩, fun o ho => ⟨fun w hw h3 => ?_, ?_, ?_⟩, fun p hp => ⟨?_, fun w h1 hw => ?_, fun o ho => ?_⟩⟩
  · rw [ne _ (by decide)]; exact q4
  · rw [e1]; exact q5
  · rw [ne _ (by decide)]; exact q6
  · rw [ne _ (by decide)]; exact q7
  · rw [ne _ (by decide)]; exact q8
  · rw [ne _ (by decide)]; exact q9
  · rw [ne _ (by decide)]; exact q10
  · rw [ep]; exact q11
  · rw [ne _ (by decide)]; exact q12
  · rw [ne _ (by decide)]; exact q13
  · rw [ne _ (by decide)]; exact q14
  · rw [ne _ (by omega)]; exact qs i hi
  · rw [ne _ (by omega)]; exact (qc c hc).1 w hw
  · rw [en c w hw]; exact (qc c hc).2 w hw
  · rw [ne _ (by omega)]; exact (qo o ho).1 w hw h3
  · rw [ne _ (by omega)]; exact (qo o ho).2.1
  · rw [ne 4 (by decide), ne _ (by omega)]; exact (qo o ho).2.2
  · rw [ne _ (by omega)]; exact (qp p hp).1
  · rw [ne _ (by omega)]; exact (qp p hp).2.1 w h1 hw
  · rw [ne _ (by omega)]; exact (qp p hp).2.2 o ho
theorem o_undo : Op d_Lw_undo d_Md_undo := by
  intro N μ hN hJ
  have hJ0 := hJ
  obtain ⟨z, old, sv, zs, n, s, h1, h2, h3, ⟨g1, g2, g3, g4, g5⟩, ⟨r1, r2, r3⟩, h6, t1, t2, ⟨t3, t31⟩, t4⟩ := hJ
  by_cases h : sv = 0
  · subst h
    refine ⟨1, 0, exM μ, stI (stI (exM μ) 12 16 0) 12 16 1, ?_, ?_, ?_, fun q => absurd q (by decide), (Jn.same (Sm.ex.trans (Sm.thr.trans Sm.thr)) hJ0).mono (by omega), ?_, rfl, ?_, rfl, rfl⟩
    · rw [e_Lw_undo, e_Oc_undo, g4, if_pos (by decide), reqS_n]
      rfl
    · have e : mI (exM μ) 12 14 = Int32.ofNat 0 := r2
      rw [e_Md_undo, e, if_neg (fun q => q rfl), e_Md_fails]
      rfl
    · rw [st_get, if_pos ⟨rfl, rfl⟩]
    · show μ.2.2.2 + 1 ≤ μ.2.2.2 + 3
      omega
    · rw [stI_ne _ _ _ (by decide), stI_ne _ _ _ (by decide)]; rfl
  · have hm : (old + (sv - 1)) % 6 < 6 := Nat.mod_lt _ (by decide)
    have e1 : Int32.ofNat sv - 1 = Int32.ofNat (sv - 1) := i3_sub (b := 1) (by omega)
    have e2 : (Int32.ofNat old + Int32.ofNat (sv - 1)) - (Int32.ofNat old + Int32.ofNat (sv - 1)) / 6 * 6 = Int32.ofNat ((old + (sv - 1)) % 6) := by
      rw [i3_add]
      exact i3_rem (b := 6) (by omega) (by decide)
    have rts : RT (69 + 46 * ((old + (sv - 1)) % 6)) (zs (sv - 1)) (stI μ 1 2 (Int32.ofNat (sv - 1))) := RT_fr (fun x y hx hx2 => by rw [stI_ne _ _ _ (by omega)]) (g5 (sv - 1) (by omega))
    have bs := (h6 (sv - 1) (by omega)).1
    obtain ⟨μ1, a1, a2, a3, a4⟩ := y_town isT_23 (isT_r hm) (by omega) rts bs
    have s1 : mI μ1 1 2 = Int32.ofNat (sv - 1) := by rw [a3 _ _ (by omega), st_get, if_pos ⟨rfl, rfl⟩]
    have hout : ∀ x y, x ≠ 1 → (x < 23 ∨ 69 ≤ x) → mI μ1 x y = mI μ x y := fun x y hx1 hx => by rw [a3 x y (by omega), stI_ne _ _ _ hx1]
    have hout1 : ∀ y, y ≠ 2 → mI μ1 1 y = mI μ 1 y := fun y hy => by rw [a3 1 y (by omega), st_get, if_neg (fun q => hy q.2)]
    have m14 : mI (stI (stI (stJ μ1 22 0 (Int32.ofNat (sv - 1)).toInt64) 12 16 0) 12 14 (Int32.ofNat (sv - 1))) 12 14 = Int32.ofNat (sv - 1) := by rw [st_get, if_pos ⟨rfl, rfl⟩]
    obtain ⟨μ2, b1, b2, b3, b4⟩ := m_undo30 m14 (by omega) 213 (Nat.le_refl _)
    have hpre : ∀ x y, x ≠ 12 → mI (stI (stI (stJ μ1 22 0 (Int32.ofNat (sv - 1)).toInt64) 12 16 0) 12 14 (Int32.ofNat (sv - 1))) x y = mI μ1 x y := fun x y hx => by
      rw [stI_ne _ _ _ hx, stI_ne _ _ _ hx]; rfl
    have hpre12 : ∀ y, y ≠ 14 → y ≠ 16 → mI (stI (stI (stJ μ1 22 0 (Int32.ofNat (sv - 1)).toInt64) 12 16 0) 12 14 (Int32.ofNat (sv - 1))) 12 y = mI μ 12 y := fun y h1 h2 => by
      rw [st_get, if_neg (fun q => h1 q.2), st_get, if_neg (fun q => h2 q.2)]
      exact hout 12 y (by decide) (by decide)
    have p12 : mI (stJ μ1 22 0 (Int32.ofNat (sv - 1)).toInt64) 12 14 = Int32.ofNat sv := by
      show mI μ1 12 14 = _
      rw [hout _ _ (by decide) (by decide), r2]
    refine ⟨0, Int32.ofNat (sv - 1), stJ μ1 22 0 (Int32.ofNat (sv - 1)).toInt64, μ2, ?_, ?_, ?_, fun _ => ?_, ⟨cutZ z (zs (sv - 1)), old, sv - 1, zs, n, s, ?_, ?_, (ok_cut (h6 (sv - 1) (by omega))).mono (by omega), ⟨g1, by omega, ?_, ?_, fun k hk => ?_⟩, ⟨by omega, ?_, fun k hk i hi => ?_⟩, fun k hk => (h6 k (by omega)).mono (by omega), t1, ?_, ⟨?_, ?_⟩, fun i hi => ?_⟩, ?_, ?_, ?_, ?_, ?_⟩
    · rw [e_Lw_undo, e_Oc_undo, g4, if_neg (show ¬ Int32.ofNat sv ≤ 0 from le_n (b := 0) (by omega) (by omega)), reqS_y (by decide), bV_r, e_Sav_restore, g4, g3, if_neg (show ¬ Int32.ofNat sv ≤ 0 from le_n (b := 0) (by omega) (by omega)), e1, e2, chk_t (i3_inb hm (by decide)), i3_nat (by omega), a1, bV_r, bV_r, s1]
      rfl
    · rw [e_Md_undo, p12, if_pos (fun q => by rw [show (0 : Int32) = Int32.ofNat 0 from rfl, i3_eq (by omega) (by decide)] at q; omega), e1, b1, Md_undo_30_eq, if_pos (by decide), b3 12 (by decide), m14]
    · rw [b3 12 (by decide), st_get, if_neg (by decide), st_get, if_pos ⟨rfl, rfl⟩]
    · show mJ μ2 22 0 = _
      have e9 : mJ μ2 = mJ (stJ μ1 22 0 (Int32.ofNat (sv - 1)).toInt64) := congrArg Prod.fst b2
      rw [e9]
      rfl
    · funext k
      rw [b4, hpre 15 _ (by decide), hpre 13 _ (by decide), hout 15 _ (by decide) (by decide), hout 13 _ (by decide) (by decide), h1]
      show _ = Int32.ofNat (if k < 213 then zs (sv - 1) k else z k)
      by_cases q : k < 213
      · rw [if_pos q, if_pos q, r3 _ (by omega) k q]
      · rw [if_neg q, if_neg q]
        rfl
    · exact rt_cut bs (RT_fr (fun x y hx hx2 => by rw [b3 x (by omega), hpre x y (by omega)]) a4)
    · rw [b3 1 (by decide), hpre 1 _ (by decide), hout1 1 (by decide), g3]
    · rw [b3 1 (by decide), hpre 1 _ (by decide), s1]
    · refine RT_fr (fun x y hx hx2 => ?_) (g5 k (by omega))
      rw [b3 x (by omega), hpre x y (by omega), hout x y (by omega) (by omega)]
    · rw [b3 12 (by decide), m14]
    · rw [b3 15 (by decide), hpre 15 _ (by decide), hout 15 _ (by decide) (by decide)]
      exact r3 k (by omega) i hi
    · rw [b3 3 (by decide), hpre 3 _ (by decide), hout 3 _ (by decide) (by decide), t2]
    · rw [b3 12 (by decide), hpre12 15 (by decide) (by decide), t3]
    · rw [b3 21 (by decide), hpre 21 _ (by decide), hout 21 _ (by decide) (by decide), t31]
    · rw [b3 4 (by decide), b3 16 (by decide), hpre 4 _ (by decide), hpre 16 _ (by decide), hout 4 _ (by decide) (by decide), hout 16 _ (by decide) (by decide)]
      exact t4 i hi
    · have e9 : μ2.2.2 = μ1.2.2 := (congrArg Prod.snd b2).trans rfl
      have e8 : μ1.2.2 = μ.2.2 := congrArg Prod.snd a2
      rw [e9, e8]
      exact Nat.le_add_right _ _
    · have e9 : μ2.2.2 = μ1.2.2 := (congrArg Prod.snd b2).trans rfl
      have e8 : μ1.2.2 = μ.2.2 := congrArg Prod.snd a2
      rw [e9, e8]
    · rw [b3 390 (by decide)]
      funext y
      rw [hpre 390 y (by decide), hout 390 y (by decide) (by decide)]
    · have e8 : μ1.2.2 = μ.2.2 := congrArg Prod.snd a2
      show μ1.2.2.1 = _
      rw [e8]
    · funext y
      exact hout 390 y (by decide) (by decide)
end UNDO
