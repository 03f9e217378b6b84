/-! SEMANTICS: the calls that set a number -/
section SETC
variable {z : Nat → Nat} {μ : PM}
theorem o_permit (x : Int32) {b : Nat} (hbb : b ≤ 1) : Op (d_Lw_permit x (Int32.ofNat b)) (d_Md_permit x (Int32.ofNat b)) := by
  refine Op.ofMut (c := d_Oc_permit x (Int32.ofNat b)) (code := fun k => if k = 3 then some 1 else none) (fun N μ z old sv zs _ hz hr hk hg => ?_) (fun μ => ⟨_, e_Lw_permit x _ μ, fun _ _ _ h => code3 h⟩)
  have hb := hk.1
  have hn := hb.no
  rcases idx x (n := z 1) (by omega) with ⟨i, hi, rfl⟩ | h
  · have hbd : Bd (setN z (56 + 7 * i + 1) b) := hb.set (by unfold okV; omega)
    have e := e_Oc_permit (Int32.ofNat i) (Int32.ofNat b) μ
    rw [r_f5 hr, reqI_y hi (by omega), bV_r] at e
    refine Or.inr (Mut.of (z' := setN z (56 + 7 * i + 1) b) (Int32.ofNat (permS (setN z (56 + 7 * i + 1) b))) hr hk hg ?_ _ e (fun μ1 h1 => ⟨stI μ1 (48 + i) 1 (Int32.ofNat b), ?_, FrC.rf.st (by omega), rs_org h1 hb (by omega) (by decide) (by decide)⟩) (fun μ' g1 => ?_))
    · exact (hk.setB hbd (fun j hj => setN_ne (by omega)) (fun o h1 h2 w hw => by rw [setN_ne (by omega)]; exact (hk.2.2.2.2.2.1 o h1 h2).1 w (by omega)) (fun p h1 h2 => by rw [setN_ne (by omega)]; exact (hk.2.2.2.2.2.2.1 p h1 h2).1 0 (by decide))).mono (by omega)
    · have hb01 : Int32.ofNat b = 0 ∨ Int32.ofNat b = 1 := by
        rcases (show b = 0 ∨ b = 1 by omega) with rfl | rfl
        · exact Or.inl rfl
        · exact Or.inr rfl
      show chk _ (chk _ _) = _
      rw [chk_t (i3_inb (by omega) (by decide)), chk_t hb01, i3_nat (by omega), t_permits (rs_org h1 hb (by omega) (by decide) (by decide)) hbd, bI_r]
    · have e := e_Md_permit (Int32.ofNat i) (Int32.ofNat b) μ'
      rw [m_isOrgan_y (hz_t g1) hb hi, bI_r, if_pos (by decide)] at e
      refine ⟨_, e, fun μ1 h1 => ⟨stI μ1 13 (56 + 7 * i + 1) (Int32.ofNat b), ?_, FrM.rf.s13, zI_set h1⟩⟩
      have e7 : (56 + 7 * Int32.ofNat i) + 1 = Int32.ofNat (56 + 7 * i + 1) := by
        rw [show (56 : Int32) = Int32.ofNat 56 from rfl, show (7 : Int32) = Int32.ofNat 7 from rfl, show (1 : Int32) = Int32.ofNat 1 from rfl, i3_mul, i3_add, i3_add]
      show (if _ then _ else _) = _
      rw [e7]
      rcases (show b = 0 ∨ b = 1 by omega) with rfl | rfl
      · rw [if_pos (show Int32.ofNat 0 = 0 from rfl), chk_t (i3_inb (by omega) (by decide)), i3_nat (by omega)]
        show bI (d_Md_permits (stI μ1 13 (56 + 7 * i + 1) (Int32.ofNat 0))) _ = _
        rw [m_permits (zI_set h1) hbd, bI_r]
      · rw [if_neg (by decide), chk_t (i3_inb (by omega) (by decide)), i3_nat (by omega)]
        show bI (d_Md_permits (stI μ1 13 (56 + 7 * i + 1) (Int32.ofNat 1))) _ = _
        rw [m_permits (zI_set h1) hbd, bI_r]
  · refine Or.inl ⟨3, 1, rfl, by decide, ?_, fun μ' g1 _ => ?_⟩
    · rw [e_Oc_permit, r_f5 hr, reqI_n h]
      rfl
    · rw [e_Md_permit, m_isOrgan_n (hz_t (g1.trans hz)) hb h, bI_r, if_neg (fun q => q rfl), e_Md_fails]
      rfl
theorem o_barrel (x y : Int32) : Op (d_Lw_barrel x y) (d_Md_barrel x y) := by
  refine Op.ofMut (c := d_Oc_barrel x y) (code := fun k => if k = 3 then some 1 else if k = 1 then some 2 else none) (fun N μ z old sv zs _ hz hr hk hg => ?_) (fun μ => ⟨_, e_Lw_barrel x y μ, fun _ _ _ h => code31 h⟩)
  have hb := hk.1
  have hn := hb.no
  rcases idx x (n := z 1) (by omega) with ⟨i, hi, rfl⟩ | h
  · rcases idx y (n := 1024) (by decide) with ⟨b, hbb, rfl⟩ | h
    · have hbd : Bd (setN z (56 + 7 * i + 2) b) := hb.set (by unfold okV; omega)
      have e := e_Oc_barrel (Int32.ofNat i) (Int32.ofNat b) μ
      have er : ∀ ν : PM, d_Oc_requireInRange (Int32.ofNat b) 0 1023 ν = some (.inl none, ν) := fun ν => reqR_y (a := 0) (n := 1023) (Nat.zero_le _) hbb (by decide)
      rw [r_f5 hr, reqI_y hi (by omega), bV_r, er, bV_r] at e
      refine Or.inr (Mut.of (z' := setN z (56 + 7 * i + 2) b) (Int32.ofNat (z (56 + 7 * i + 2))) hr hk hg ?_ _ e (fun μ1 h1 => ⟨stI μ1 (48 + i) 2 (Int32.ofNat b), ?_, FrC.rf.st (by omega), rs_org h1 hb (by omega) (by decide) (by decide)⟩) (fun μ' g1 => ?_))
      · exact (hk.setB hbd (fun j hj => setN_ne (by omega)) (fun o h1 h2 w hw => by rw [setN_ne (by omega)]; exact (hk.2.2.2.2.2.1 o h1 h2).1 w (by omega)) (fun p h1 h2 => by rw [setN_ne (by omega)]; exact (hk.2.2.2.2.2.2.1 p h1 h2).1 0 (by decide))).mono (by omega)
      · show chk _ _ = _
        rw [chk_t (i3_inb (by omega) (by decide)), i3_nat (by omega), r_org h1 (by omega) (by decide) (by decide)]
      · have e := e_Md_barrel (Int32.ofNat i) (Int32.ofNat b) μ'
        have ew : ∀ ν : PM, d_Md_within (Int32.ofNat b) 0 1023 ν = rI 1 ν := fun ν => with_y (a := 0) (n := 1023) (Nat.zero_le _) hbb (by decide)
        rw [m_isOrgan_y (hz_t g1) hb hi, bI_r, if_pos (by decide), ew, bI_r, if_pos (by decide)] at e
        refine ⟨_, e, fun μ1 h1 => ⟨stI μ1 13 (56 + 7 * i + 2) (Int32.ofNat b), ?_, FrM.rf.s13, zI_set h1⟩⟩
        have e7 : (56 + 7 * Int32.ofNat i) + 2 = Int32.ofNat (56 + 7 * i + 2) := by
          rw [show (56 : Int32) = Int32.ofNat 56 from rfl, show (7 : Int32) = Int32.ofNat 7 from rfl, show (2 : Int32) = Int32.ofNat 2 from rfl, i3_mul, i3_add, i3_add]
        show bI (d_Md_organ0 _ _ μ1) _ = _
        rw [m_organ0_2 h1 (by omega), bI_r, e7, chk_t (i3_inb (by omega) (by decide)), i3_nat (by omega)]
    · refine Or.inl ⟨1, 2, rfl, by decide, ?_, fun μ' g1 _ => ?_⟩
      · have er : d_Oc_requireInRange y 0 1023 μ = some (.inr 1, exM μ) := reqR_n (n := 1023) (by decide) h
        rw [e_Oc_barrel, r_f5 hr, reqI_y hi (by omega), bV_r, er]
        rfl
      · have ew : ∀ ν : PM, d_Md_within y 0 1023 ν = rI 0 ν := fun ν => with_n (n := 1023) (by decide) h
        rw [e_Md_barrel, m_isOrgan_y (hz_t (g1.trans hz)) hb hi, bI_r, if_pos (by decide), ew, bI_r, if_neg (fun q => q rfl), e_Md_fails]
        rfl
  · refine Or.inl ⟨3, 1, rfl, by decide, ?_, fun μ' g1 _ => ?_⟩
    · rw [e_Oc_barrel, r_f5 hr, reqI_n h]
      rfl
    · rw [e_Md_barrel, m_isOrgan_n (hz_t (g1.trans hz)) hb h, bI_r, if_neg (fun q => q rfl), e_Md_fails]
      rfl
theorem o_set (x y : Int32) : Op (d_Lw_set x y) (d_Md_set x y) := by
  refine Op.ofMut (c := d_Oc_set x y) (code := fun k => if k = 3 then some 1 else if k = 1 then some 2 else none) (fun N μ z old sv zs _ hz hr hk hg => ?_) (fun μ => ⟨_, e_Lw_set x y μ, fun _ _ _ h => code31 h⟩)
  have hb := hk.1
  rcases idx x (n := 5) (by decide) with ⟨i, hi, rfl⟩ | h
  · obtain ⟨g, hg1, hg2, hg3, hg4⟩ : ∃ g, g ≤ 100 ∧ cst 400 i = Int32.ofNat g ∧ (∀ ν : PM, d_Md_mostOf (Int32.ofNat i) ν = rI (Int32.ofNat g) ν) ∧ ∀ b, b ≤ g → okV z (11 + i) b := by
      rcases (show i = 0 ∨ i = 1 ∨ i = 2 ∨ i = 3 ∨ i = 4 by omega) with rfl | rfl | rfl | rfl | rfl
      · exact ⟨99, by decide, rfl, fun ν => by rw [e_Md_mostOf]; rfl, fun b hb => by unfold okV; omega⟩
      · exact ⟨9, by decide, rfl, fun ν => by rw [e_Md_mostOf]; rfl, fun b hb => by unfold okV; omega⟩
      · exact ⟨50, by decide, rfl, fun ν => by rw [e_Md_mostOf]; rfl, fun b hb => by unfold okV; omega⟩
      · exact ⟨100, by decide, rfl, fun ν => by rw [e_Md_mostOf]; rfl, fun b hb => by unfold okV; omega⟩
      · exact ⟨50, by decide, rfl, fun ν => by rw [e_Md_mostOf]; rfl, fun b hb => by unfold okV; omega⟩
    have ei : ∀ ν : PM, d_Oc_requireIndex (Int32.ofNat i) 5 ν = some (.inl none, ν) := fun ν => reqI_y (n := 5) hi (by decide)
    have ewi : ∀ ν : PM, d_Md_within (Int32.ofNat i) 0 4 ν = rI 1 ν := fun ν => with_y (a := 0) (n := 4) (Nat.zero_le _) hi (by decide)
    rcases idx y (n := g + 1) (by omega) with ⟨b, hbb, rfl⟩ | h
    · have hbd : Bd (setN z (11 + i) b) := hb.set (hg4 b (by omega))
      have e := e_Oc_set (Int32.ofNat i) (Int32.ofNat b) μ
      have er : ∀ ν : PM, d_Oc_requireInRange (Int32.ofNat b) 0 (Int32.ofNat g) ν = some (.inl none, ν) := fun ν => reqR_y (a := 0) (n := g) (Nat.zero_le _) hbb (by omega)
      rw [ei, bV_r, chk_t (i3_inb hi (by decide)), i3_nat (by omega), hg2, er, bV_r] at e
      refine Or.inr (Mut.of (z' := setN z (11 + i) b) (Int32.ofNat (z (11 + i))) hr hk hg ?_ _ e (fun μ1 h1 => ⟨stI μ1 27 i (Int32.ofNat b), ?_, FrC.rf.st (by omega), rs_set h1 hb hi⟩) (fun μ' g1 => ?_))
      · exact (hk.setB hbd (fun j hj => setN_ne (by omega)) (fun o h1 h2 w hw => by rw [setN_ne (by omega)]; exact (hk.2.2.2.2.2.1 o h1 h2).1 w (by omega)) (fun p h1 h2 => by rw [setN_ne (by omega)]; exact (hk.2.2.2.2.2.2.1 p h1 h2).1 0 (by decide))).mono (by omega)
      · show rI (mI μ1 27 i) _ = _
        rw [r_set h1 hi]
      · have e := e_Md_set (Int32.ofNat i) (Int32.ofNat b) μ'
        have ew : ∀ ν : PM, d_Md_within (Int32.ofNat b) 0 (Int32.ofNat g) ν = rI 1 ν := fun ν => with_y (a := 0) (n := g) (Nat.zero_le _) hbb (by omega)
        rw [ewi, bI_r, if_pos (by decide), hg3, bI_r, ew, bI_r, if_pos (by decide)] at e
        refine ⟨_, e, fun μ1 h1 => ⟨stI μ1 13 (11 + i) (Int32.ofNat b), ?_, FrM.rf.s13, zI_set h1⟩⟩
        have e7 : 11 + Int32.ofNat i = Int32.ofNat (11 + i) := by
          rw [show (11 : Int32) = Int32.ofNat 11 from rfl, i3_add]
        show chk _ _ = _
        rw [e7, chk_t (i3_inb (by omega) (by decide)), i3_nat (by omega), m_h h1]
    · refine Or.inl ⟨1, 2, rfl, by decide, ?_, fun μ' g1 _ => ?_⟩
      · have er : d_Oc_requireInRange y 0 (Int32.ofNat g) μ = some (.inr 1, exM μ) := reqR_n (n := g) (by omega) h
        rw [e_Oc_set, ei, bV_r, chk_t (i3_inb hi (by decide)), i3_nat (by omega), hg2, er]
        rfl
      · have ew : ∀ ν : PM, d_Md_within y 0 (Int32.ofNat g) ν = rI 0 ν := fun ν => with_n (n := g) (by omega) h
        rw [e_Md_set, ewi, bI_r, if_pos (by decide), hg3, bI_r, ew, bI_r, if_neg (fun q => q rfl), e_Md_fails]
        rfl
  · refine Or.inl ⟨3, 1, rfl, by decide, ?_, fun μ' g1 _ => ?_⟩
    · have ei : d_Oc_requireIndex x 5 μ = some (.inr 3, exM μ) := reqI_n (n := 5) h
      rw [e_Oc_set, ei]
      rfl
    · have ewi : ∀ ν : PM, d_Md_within x 0 4 ν = rI 0 ν := fun ν => with_n (n := 4) (by decide) h
      rw [e_Md_set, ewi, bI_r, if_neg (fun q => q rfl), e_Md_fails]
      rfl
theorem code3' {k : Nat} {w : Int32} {μ : PM} (h : (if k = 3 then some (1 : Int32) else none) = some w) : (if k = 3 then some (.inl (some (.int 1)), μ) else some (.inr k, μ) : Option PO) = rI w μ := code3 h
theorem o_assign (x y : Int32) : Op (d_Lw_assign x y) (d_Md_assign x y) := by
  refine Op.ofMut (c := d_Oc_assign x y) (code := fun k => if k = 3 then some 1 else none) (fun N μ z old sv zs _ hz hr hk hg => ?_) (fun μ => ⟨_, e_Lw_assign x y μ, fun _ _ _ h => code3 h⟩)
  have hb := hk.1
  have hn := hb.no
  have hp := hb.np
  rcases idx x (n := z 2) (by omega) with ⟨i, hi, rfl⟩ | h
  · have key : ∀ b, b ≤ z 1 → (y = pm b) → (y = -1 → b = 0) → Exc (d_Oc_assign (Int32.ofNat i) y μ) (d_Md_assign (Int32.ofNat i) y) μ (fun k => if k = 3 then some 1 else none) ∨ Mut N z sv zs (d_Oc_assign (Int32.ofNat i) y μ) (d_Md_assign (Int32.ofNat i) y) μ := by
      intro b hbb hy hy0
      have hbd : Bd (setN z (91 + 4 * i) b) := hb.set (by unfold okV; omega)
      have e : d_Oc_assign (Int32.ofNat i) y μ = bV (d_Sav_save μ) (fun ν => chk (inb (Int32.ofNat i) 8 = true) (some (.inl (some (.int (mI ν (53 + 2 * (Int32.ofNat i).toNatClampNeg) 0))), stI ν (53 + 2 * (Int32.ofNat i).toNatClampNeg) 0 y))) := by
        rw [e_Oc_assign, r_f6 hr, reqI_y hi (by omega), bV_r]
        by_cases q : y = -1
        · rw [if_pos q]
        · rw [if_neg q, r_f5 hr]
          obtain ⟨b', rfl⟩ : ∃ b', b = b' + 1 := ⟨b - 1, by
            have : b ≠ 0 := fun q0 => q (by rw [hy, q0, pm_zero])
            omega⟩
          rw [hy, pm_succ, reqI_y (by omega) (by omega), bV_r]
      have e7 : 91 + 4 * Int32.ofNat i = Int32.ofNat (91 + 4 * i) := by
        rw [show (91 : Int32) = Int32.ofNat 91 from rfl, show (4 : Int32) = Int32.ofNat 4 from rfl, i3_mul, i3_add]
      have ey : y + 1 = Int32.ofNat b := by rw [hy]; unfold pm; exact Int32.sub_add_cancel _ _
      refine Or.inr (Mut.of (z' := setN z (91 + 4 * i) b) (pm (z (91 + 4 * i))) hr hk hg ?_ _ e (fun μ1 h1 => ⟨stI μ1 (53 + 2 * i) 0 (pm b), ?_, FrC.rf.st (by omega), rs_crw h1 hb (by omega)⟩) (fun μ' g1 => ?_))
      · exact (hk.setB hbd (fun j hj => setN_ne (by omega)) (fun o h1 h2 w hw => by rw [setN_ne (by omega)]; exact (hk.2.2.2.2.2.1 o h1 h2).1 w (by omega)) (fun p h1 h2 => by rw [setN_ne (by omega)]; exact (hk.2.2.2.2.2.2.1 p h1 h2).1 0 (by decide))).mono (by omega)
      · show chk _ _ = _
        rw [chk_t (i3_inb (by omega) (by decide)), i3_nat (by omega), r_crw h1 (by omega), hy]
      · have em : d_Md_assign (Int32.ofNat i) y μ' = bV (d_Md_save (stI μ' 12 16 0)) (fun μ5 => bI (d_Md_player0 (Int32.ofNat i) 0 μ5) (fun v7 μ6 => chk (inb (91 + (4 * Int32.ofNat i)) 213 = true) (some (.inl (some (.int (v7 - 1))), (stI μ6 13 ((91 + (4 * Int32.ofNat i)).toNatClampNeg) (y + 1)))))) := by
          rw [e_Md_assign, m_isPlayer_y (hz_t g1) hb hi, bI_r, if_neg (by decide)]
          by_cases q : y = -1
          · rw [if_pos q]
          · obtain ⟨b', rfl⟩ : ∃ b', b = b' + 1 := ⟨b - 1, by
              have : b ≠ 0 := fun q0 => q (by rw [hy, q0, pm_zero])
              omega⟩
            rw [if_neg q, hy, pm_succ, m_isOrgan_y (hz_t g1) hb (by omega), bI_r, if_pos (by decide)]
        refine ⟨_, em, fun μ1 h1 => ⟨stI μ1 13 (91 + 4 * i) (Int32.ofNat b), ?_, FrM.rf.s13, zI_set h1⟩⟩
        show bI (d_Md_player0 _ _ μ1) _ = _
        rw [m_player0_0 h1 (by omega), bI_r, e7, chk_t (i3_inb (by omega) (by decide)), i3_nat (by omega), ey]
        rfl
    by_cases q : y = -1
    · exact key 0 (Nat.zero_le _) (by rw [q, pm_zero]) (fun _ => rfl)
    · rcases idx y (n := z 1) (by omega) with ⟨b, hbb, rfl⟩ | h
      · exact key (b + 1) (by omega) (pm_succ b).symm (fun q9 => absurd q9 q)
      · refine Or.inl ⟨3, 1, rfl, by decide, ?_, fun μ' g1 _ => ?_⟩
        · rw [e_Oc_assign, r_f6 hr, reqI_y hi (by omega), bV_r, if_neg q, r_f5 hr, reqI_n h]
          rfl
        · rw [e_Md_assign, m_isPlayer_y (hz_t (g1.trans hz)) hb hi, bI_r, if_neg (by decide), if_neg q, m_isOrgan_n (hz_t (g1.trans hz)) hb h, bI_r, if_neg (fun q => q rfl), e_Md_fails]
          rfl
  · refine Or.inl ⟨3, 1, rfl, by decide, ?_, fun μ' g1 _ => ?_⟩
    · rw [e_Oc_assign, r_f6 hr, reqI_n h]
      rfl
    · rw [e_Md_assign, m_isPlayer_n (hz_t (g1.trans hz)) hb h, bI_r, if_pos rfl, e_Md_fails]
      rfl
theorem plyS_le : plyS z ≤ 50 := by
  have := sum_le (f := fun k => if z (163 + k) = 0 then 0 else 1) (b := 1) 50 (fun i _ => by split <;> omega)
  unfold plyS
  omega
theorem o_weather {b : Nat} (hbb : b ≤ 1) : Op (d_Lw_weather (Int32.ofNat b)) (d_Md_weather (Int32.ofNat b)) := by
  refine Op.ofMut (c := d_Oc_weather (Int32.ofNat b)) (code := fun k => if k = 2 then some 1 else none) (fun N μ z old sv zs _ hz hr hk hg => ?_) (fun μ => ⟨_, e_Lw_weather _ μ, fun _ _ _ h => code2 h⟩)
  have hb := hk.1
  have hw := hb.wt
  have hps := plyS_le (z := z)
  have e0 : Int32.ofNat (plyS z) = 0 ↔ plyS z = 0 := by rw [show (0 : Int32) = Int32.ofNat 0 from rfl, i3_eq (by omega) (by decide)]
  by_cases h : plyS z = 0
  · have hbd : Bd (setN z 5 b) := hb.set (by unfold okV; omega)
    have e := e_Oc_weather (Int32.ofNat b) μ
    rw [e_Twn_weatherMayChange, r_f11 hr, if_neg (fun q => q (e0.mpr h)), bI_r, reqS_y (by decide), bV_r] at e
    refine Or.inr (Mut.of (z' := setN z 5 b) (Int32.ofNat (z 5)) hr hk hg ?_ _ e (fun μ1 h1 => ⟨stI μ1 23 9 (Int32.ofNat b), ?_, FrC.rf.st (by omega), rs_f9 h1 hb⟩) (fun μ' g1 => ?_))
    · exact (hk.setB hbd (fun j hj => setN_ne (by omega)) (fun o h1 h2 w hw => by rw [setN_ne (by omega)]; exact (hk.2.2.2.2.2.1 o h1 h2).1 w (by omega)) (fun p h1 h2 => by rw [setN_ne (by omega)]; exact (hk.2.2.2.2.2.2.1 p h1 h2).1 0 (by decide))).mono (by omega)
    · have hb01 : Int32.ofNat b = 0 ∨ Int32.ofNat b = 1 := by
        rcases (show b = 0 ∨ b = 1 by omega) with rfl | rfl
        · exact Or.inl rfl
        · exact Or.inr rfl
      have ea : d_Oc_asNumber (Int32.ofNat (z 5)) μ1 = rI (Int32.ofNat (z 5)) μ1 := by
        rw [e_Oc_asNumber]
        rcases (show z 5 = 0 ∨ z 5 = 1 by omega) with q | q
        · rw [q]; rfl
        · rw [q]; rfl
      show bI (d_Oc_asNumber (mI μ1 23 9) μ1) _ = _
      rw [r_f9 h1, ea, bI_r, chk_t hb01]
    · have e := e_Md_weather (Int32.ofNat b) μ'
      rw [m_playedToday (hz_t g1) hb, bI_r, h, if_pos (by decide)] at e
      refine ⟨_, e, fun μ1 h1 => ⟨stI μ1 13 5 (Int32.ofNat b), ?_, FrM.rf.s13, zI_set h1⟩⟩
      show (if _ then _ else _) = _
      rw [m_h h1]
      rcases (show b = 0 ∨ b = 1 by omega) with rfl | rfl
      · rw [if_pos (show Int32.ofNat 0 = 0 from rfl)]
        rfl
      · rw [if_neg (by decide)]
        rfl
  · refine Or.inl ⟨2, 1, rfl, by decide, ?_, fun μ' g1 _ => ?_⟩
    · rw [e_Oc_weather, e_Twn_weatherMayChange, r_f11 hr, if_pos (fun q => h (e0.mp q)), bI_r, reqS_n]
      rfl
    · rw [e_Md_weather, m_playedToday (hz_t (g1.trans hz)) hb, bI_r, if_neg (show ¬ Int32.ofNat (plyS z) ≤ 0 from le_n (b := 0) (by omega) (by omega)), e_Md_fails]
      rfl
end SETC
