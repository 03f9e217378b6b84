/-! SEMANTICS: the class's changing calls -/
section COPS
variable {z z' : Nat → Nat} {μ μ1 μ2 : PM} {N old sv : Nat} {zs : Nat → Nat → Nat}
/-- what a changing call leaves alone -/
def CFr (μ μ' : PM) : Prop := μ'.2 = μ.2 ∧ ∀ x, (x = 3 ∨ x = 4 ∨ (12 ≤ x ∧ x < 23) ∨ 345 ≤ x) → mI μ' x = mI μ x
def Chg (N sv : Nat) (c : Option PO) (v : Int32) (z' : Nat → Nat) (μ : PM) : Prop := ∃ (μ2 : PM) (old' : Nat) (zs' : Nat → Nat → Nat), c = rI v μ2 ∧ CFr μ μ2 ∧ RT 23 z' μ2 ∧ RingC old' (nxt sv) zs' μ2 ∧ Okz (N + 20) z'
theorem Chg.of {c : Option PO} {v : Int32} (hr : RT 23 z μ) (hk : Okz N z) (hg : RingC old sv zs μ) (ok : Okz (N + 20) z')
    (f : PM → Option PO) (hc : c = bV (d_Sav_save μ) f) (hf : ∀ μ1, RT 23 z μ1 → ∃ μ2, f μ1 = rI v μ2 ∧ FrC μ1 μ2 ∧ RT 23 z' μ2) : Chg N sv c v z' μ := by
  obtain ⟨μ1, old', a1, a2, a3, a4, a5⟩ := t_save hr hk.1 hg
  have hr1 : RT 23 z μ1 := RT_fr (fun x y hx hx2 => a3 x (by omega) (by omega) y) hr
  obtain ⟨μ2, b1, b2, b3⟩ := hf μ1 hr1
  refine ⟨μ2, old', _, ?_, ⟨b2.1.trans a2, fun x hx => ?_⟩, b3, a5.fr b2, ok⟩
  · rw [hc, a1, bV_r, b1]
  · rw [b2.2 x (by omega)]
    funext y
    exact a3 x (by omega) (by omega) y
theorem c_addPlayer (hr : RT 23 z μ) (hk : Okz N z) (hg : RingC old sv zs μ) (h : z 2 < 8) : Chg N sv (d_Oc_addPlayer μ) (pm (z 2 + 1)) (setN z 2 (z 2 + 1)) μ := by
  have e := e_Oc_addPlayer μ
  rw [r_f6 hr, if_neg (show ¬ (8 : Int32) ≤ Int32.ofNat (z 2) from le_n (a := 8) h (by decide)), reqS_y (by decide), bV_r] at e
  refine Chg.of hr hk hg (ok_addp hk h) _ e (fun μ1 h1 => ⟨stI μ1 23 6 (Int32.ofNat (z 2 + 1)), ?_, FrC.rf.st (by omega), rt_addp h1⟩)
  rw [r_f6 h1, i3_add1]
  rfl
theorem c_permit {i b : Nat} (hr : RT 23 z μ) (hk : Okz N z) (hg : RingC old sv zs μ) (hi : i < z 1) (hbb : b ≤ 1) : Chg N sv (d_Oc_permit (Int32.ofNat i) (Int32.ofNat b) μ) (Int32.ofNat (permS (setN z (56 + 7 * i + 1) b))) (setN z (56 + 7 * i + 1) b) μ := by
  have hb := hk.1
  have hn := hb.no
  have hbd : Bd (setN z (56 + 7 * i + 1) b) := hb.set (by unfold okV; omega)
  have e := e_Oc_permit (Int32.ofNat i) (Int32.ofNat b) μ
  rw [r_f5 hr, reqI_y hi (by omega), bV_r] at e
  refine Chg.of hr hk hg ?_ _ e (fun μ1 h1 => ⟨stI μ1 (48 + i) 1 (Int32.ofNat b), ?_, FrC.rf.st (by omega), rs_org h1 hb (by omega) (by decide) (by decide)⟩)
  · exact (hk.setB hbd (fun j hj => setN_ne (by omega)) (fun o h1 h2 w hw => by rw [setN_ne (by omega)]; exact (hk.2.2.2.2.2.1 o h1 h2).1 w (by omega)) (fun p h1 h2 => by rw [setN_ne (by omega)]; exact (hk.2.2.2.2.2.2.1 p h1 h2).1 0 (by decide))).mono (by omega)
  · have hb01 : Int32.ofNat b = 0 ∨ Int32.ofNat b = 1 := by
      rcases (show b = 0 ∨ b = 1 by omega) with rfl | rfl
      · exact Or.inl rfl
      · exact Or.inr rfl
    show chk _ (chk _ _) = _
    rw [chk_t (i3_inb (by omega) (by decide)), chk_t hb01, i3_nat (by omega), t_permits (rs_org h1 hb (by omega) (by decide) (by decide)) hbd, bI_r]
theorem c_barrel {i b : Nat} (hr : RT 23 z μ) (hk : Okz N z) (hg : RingC old sv zs μ) (hi : i < z 1) (hbb : b < 1024) : Chg N sv (d_Oc_barrel (Int32.ofNat i) (Int32.ofNat b) μ) (Int32.ofNat (z (56 + 7 * i + 2))) (setN z (56 + 7 * i + 2) b) μ := by
  have hb := hk.1
  have hn := hb.no
  have hbd : Bd (setN z (56 + 7 * i + 2) b) := hb.set (by unfold okV; omega)
  have e := e_Oc_barrel (Int32.ofNat i) (Int32.ofNat b) μ
  have er : ∀ ν : PM, d_Oc_requireInRange (Int32.ofNat b) 0 1023 ν = some (.inl none, ν) := fun ν => reqR_y (a := 0) (n := 1023) (Nat.zero_le _) hbb (by decide)
  rw [r_f5 hr, reqI_y hi (by omega), bV_r, er, bV_r] at e
  refine Chg.of hr hk hg ?_ _ e (fun μ1 h1 => ⟨stI μ1 (48 + i) 2 (Int32.ofNat b), ?_, FrC.rf.st (by omega), rs_org h1 hb (by omega) (by decide) (by decide)⟩)
  · exact (hk.setB hbd (fun j hj => setN_ne (by omega)) (fun o h1 h2 w hw => by rw [setN_ne (by omega)]; exact (hk.2.2.2.2.2.1 o h1 h2).1 w (by omega)) (fun p h1 h2 => by rw [setN_ne (by omega)]; exact (hk.2.2.2.2.2.2.1 p h1 h2).1 0 (by decide))).mono (by omega)
  · show chk _ _ = _
    rw [chk_t (i3_inb (by omega) (by decide)), i3_nat (by omega), r_org h1 (by omega) (by decide) (by decide)]
/-- the greatest value of a setting -/
def gSet (i : Nat) : Nat := [99, 9, 50, 100, 50].getD i 0
theorem c_set {i b : Nat} (hr : RT 23 z μ) (hk : Okz N z) (hg : RingC old sv zs μ) (hi : i < 5) (hbb : b ≤ gSet i) : Chg N sv (d_Oc_set (Int32.ofNat i) (Int32.ofNat b) μ) (Int32.ofNat (z (11 + i))) (setN z (11 + i) b) μ := by
  have hb := hk.1
  obtain ⟨g, hgg, hg1, hg2, hg4⟩ : ∃ g, gSet i = g ∧ g ≤ 100 ∧ cst 400 i = Int32.ofNat g ∧ ∀ b, b ≤ g → okV z (11 + i) b := by
    rcases (show i = 0 ∨ i = 1 ∨ i = 2 ∨ i = 3 ∨ i = 4 by omega) with rfl | rfl | rfl | rfl | rfl
    · exact ⟨99, rfl, by decide, rfl, fun b hb => by unfold okV; omega⟩
    · exact ⟨9, rfl, by decide, rfl, fun b hb => by unfold okV; omega⟩
    · exact ⟨50, rfl, by decide, rfl, fun b hb => by unfold okV; omega⟩
    · exact ⟨100, rfl, by decide, rfl, fun b hb => by unfold okV; omega⟩
    · exact ⟨50, rfl, by decide, rfl, fun b hb => by unfold okV; omega⟩
  rw [hgg] at hbb
  have ei : ∀ ν : PM, d_Oc_requireIndex (Int32.ofNat i) 5 ν = some (.inl none, ν) := fun ν => reqI_y (n := 5) hi (by decide)
  have hbd : Bd (setN z (11 + i) b) := hb.set (hg4 b (by omega))
  have e := e_Oc_set (Int32.ofNat i) (Int32.ofNat b) μ
  have er : ∀ ν : PM, d_Oc_requireInRange (Int32.ofNat b) 0 (Int32.ofNat g) ν = some (.inl none, ν) := fun ν => reqR_y (a := 0) (n := g) (Nat.zero_le _) (by omega) (by omega)
  rw [ei, bV_r, chk_t (i3_inb hi (by decide)), i3_nat (by omega), hg2, er, bV_r] at e
  refine Chg.of hr hk hg ?_ _ e (fun μ1 h1 => ⟨stI μ1 27 i (Int32.ofNat b), ?_, FrC.rf.st (by omega), rs_set h1 hb hi⟩)
  · exact (hk.setB hbd (fun j hj => setN_ne (by omega)) (fun o h1 h2 w hw => by rw [setN_ne (by omega)]; exact (hk.2.2.2.2.2.1 o h1 h2).1 w (by omega)) (fun p h1 h2 => by rw [setN_ne (by omega)]; exact (hk.2.2.2.2.2.2.1 p h1 h2).1 0 (by decide))).mono (by omega)
  · show rI (mI μ1 27 i) _ = _
    rw [r_set h1 hi]
theorem c_assign {i b : Nat} (hr : RT 23 z μ) (hk : Okz N z) (hg : RingC old sv zs μ) (hi : i < z 2) (hbb : b ≤ z 1) : Chg N sv (d_Oc_assign (Int32.ofNat i) (pm b) μ) (pm (z (91 + 4 * i))) (setN z (91 + 4 * i) b) μ := by
  have hb := hk.1
  have hn := hb.no
  have hp := hb.np
  have hbd : Bd (setN z (91 + 4 * i) b) := hb.set (by unfold okV; omega)
  have e : d_Oc_assign (Int32.ofNat i) (pm b) μ = bV (d_Sav_save μ) (fun ν => chk (inb (Int32.ofNat i) 8 = true) (some (.inl (some (.int (mI ν (53 + 2 * (Int32.ofNat i).toNatClampNeg) 0))), stI ν (53 + 2 * (Int32.ofNat i).toNatClampNeg) 0 (pm b)))) := by
    rw [e_Oc_assign, r_f6 hr, reqI_y hi (by omega), bV_r]
    by_cases q : pm b = -1
    · rw [if_pos q]
    · rw [if_neg q, r_f5 hr]
      obtain ⟨b', rfl⟩ : ∃ b', b = b' + 1 := ⟨b - 1, by
        have : b ≠ 0 := fun q0 => q (by rw [q0, pm_zero])
        omega⟩
      rw [pm_succ, reqI_y (by omega) (by omega), bV_r]
  refine Chg.of hr hk hg ?_ _ e (fun μ1 h1 => ⟨stI μ1 (53 + 2 * i) 0 (pm b), ?_, FrC.rf.st (by omega), rs_crw h1 hb (by omega)⟩)
  · exact (hk.setB hbd (fun j hj => setN_ne (by omega)) (fun o h1 h2 w hw => by rw [setN_ne (by omega)]; exact (hk.2.2.2.2.2.1 o h1 h2).1 w (by omega)) (fun p h1 h2 => by rw [setN_ne (by omega)]; exact (hk.2.2.2.2.2.2.1 p h1 h2).1 0 (by decide))).mono (by omega)
  · show chk _ _ = _
    rw [chk_t (i3_inb (by omega) (by decide)), i3_nat (by omega), r_crw h1 (by omega)]
theorem c_weather {b : Nat} (hr : RT 23 z μ) (hk : Okz N z) (hg : RingC old sv zs μ) (h : plyS z = 0) (hbb : b ≤ 1) : Chg N sv (d_Oc_weather (Int32.ofNat b) μ) (Int32.ofNat (z 5)) (setN z 5 b) μ := by
  have hb := hk.1
  have hw := hb.wt
  have hps := plyS_le (z := z)
  have e0 : Int32.ofNat (plyS z) = 0 ↔ plyS z = 0 := by rw [show (0 : Int32) = Int32.ofNat 0 from rfl, i3_eq (by omega) (by decide)]
  have hbd : Bd (setN z 5 b) := hb.set (by unfold okV; omega)
  have e := e_Oc_weather (Int32.ofNat b) μ
  rw [e_Twn_weatherMayChange, r_f11 hr, if_neg (fun q => q (e0.mpr h)), bI_r, reqS_y (by decide), bV_r] at e
  refine Chg.of hr hk hg ?_ _ e (fun μ1 h1 => ⟨stI μ1 23 9 (Int32.ofNat b), ?_, FrC.rf.st (by omega), rs_f9 h1 hb⟩)
  · exact (hk.setB hbd (fun j hj => setN_ne (by omega)) (fun o h1 h2 w hw => by rw [setN_ne (by omega)]; exact (hk.2.2.2.2.2.1 o h1 h2).1 w (by omega)) (fun p h1 h2 => by rw [setN_ne (by omega)]; exact (hk.2.2.2.2.2.2.1 p h1 h2).1 0 (by decide))).mono (by omega)
  · have hb01 : Int32.ofNat b = 0 ∨ Int32.ofNat b = 1 := by
      rcases (show b = 0 ∨ b = 1 by omega) with rfl | rfl
      · exact Or.inl rfl
      · exact Or.inr rfl
    have ea : d_Oc_asNumber (Int32.ofNat (z 5)) μ1 = rI (Int32.ofNat (z 5)) μ1 := by
      rw [e_Oc_asNumber]
      rcases (show z 5 = 0 ∨ z 5 = 1 by omega) with q | q
      · rw [q]; rfl
      · rw [q]; rfl
    show bI (d_Oc_asNumber (mI μ1 23 9) μ1) _ = _
    rw [r_f9 h1, ea, bI_r, chk_t hb01]
theorem c_addCorner {p c f q : Nat} (hr : RT 23 z μ) (hk : Okz N z) (hg : RingC old sv zs μ) (p1 : p ≤ 99) (c0 : 1 ≤ c) (c1 : c ≤ 90) (f1 : f ≤ 9) (q1 : q ≤ 9) (hf1 : z 0 < 10) (hf2 : ¬ tak z p (z 0)) :
    Chg N sv (d_Oc_addCorner (Int32.ofNat p) (Int32.ofNat c) (Int32.ofNat f) (Int32.ofNat q) μ) (pm (z 0 + 1)) (zAddc z p c f q) μ := by
  have hb := hk.1
  have hn := hb.nc
  have r1 : ∀ ν : PM, d_Oc_requireInRange (Int32.ofNat p) 0 99 ν = some (.inl none, ν) := fun ν => reqR_y (a := 0) (n := 99) (Nat.zero_le _) (by omega) (by decide)
  have r2 : ∀ ν : PM, d_Oc_requireInRange (Int32.ofNat c) 1 90 ν = some (.inl none, ν) := fun ν => reqR_y (a := 1) (n := 90) c0 (by omega) (by decide)
  have r3 : ∀ ν : PM, d_Oc_requireInRange (Int32.ofNat f) 0 9 ν = some (.inl none, ν) := fun ν => reqR_y (a := 0) (n := 9) (Nat.zero_le _) (by omega) (by decide)
  have r4 : ∀ ν : PM, d_Oc_requireInRange (Int32.ofNat q) 0 9 ν = some (.inl none, ν) := fun ν => reqR_y (a := 0) (n := 9) (Nat.zero_le _) (by omega) (by decide)
  obtain ⟨v, hv1, hv2⟩ := t_hasCornerAt hr hb (show p < 100 by omega)
  have hv : v = 0 := hv2.elim (fun q => absurd q.2 hf2) (fun q => q.1)
  have b1 : Bd (setN z (16 + 4 * z 0) p) := hb.set (by unfold okV; omega)
  have b2 : Bd (setN (setN z (16 + 4 * z 0) p) (16 + 4 * z 0 + 1) c) := b1.set (by unfold okV; omega)
  have b3 : Bd (setN (setN (setN z (16 + 4 * z 0) p) (16 + 4 * z 0 + 1) c) (16 + 4 * z 0 + 2) f) := b2.set (by unfold okV; omega)
  have b4 : Bd (setN (setN (setN (setN z (16 + 4 * z 0) p) (16 + 4 * z 0 + 1) c) (16 + 4 * z 0 + 2) f) (16 + 4 * z 0 + 3) q) := b3.set (by unfold okV; omega)
  have e00 : setN (setN (setN (setN z (16 + 4 * z 0) p) (16 + 4 * z 0 + 1) c) (16 + 4 * z 0 + 2) f) (16 + 4 * z 0 + 3) q 0 = z 0 := by rw [setN_ne (by omega), setN_ne (by omega), setN_ne (by omega), setN_ne (by omega)]
  have b5 : Bd (zAddc z p c f q) := b4.set (by unfold okV; rw [e00]; omega)
  have hne : ∀ j, j ≠ 0 → (j < 16 + 4 * z 0 ∨ 16 + 4 * z 0 + 3 < j) → zAddc z p c f q j = z j := fun j h0 h1 => by
    unfold zAddc
    rw [setN_ne h0, setN_ne (by omega), setN_ne (by omega), setN_ne (by omega), setN_ne (by omega)]
  have e := e_Oc_addCorner (Int32.ofNat p) (Int32.ofNat c) (Int32.ofNat f) (Int32.ofNat q) μ
  rw [r1, bV_r, r2, bV_r, r3, bV_r, r4, bV_r, r_f4 hr, if_neg (show ¬ (10 : Int32) ≤ Int32.ofNat (z 0) from le_n (a := 10) hf1 (by decide)), hv1, bI_r, hv, if_neg (fun q => q rfl), reqS_y (by decide), bV_r] at e
  refine Chg.of hr hk hg ?_ _ e (fun μ1 h1 => ⟨stI (stI (stI (stI (stI μ1 (28 + 2 * z 0) 0 (Int32.ofNat p)) (28 + 2 * z 0) 1 (Int32.ofNat c)) (28 + 2 * z 0) 2 (Int32.ofNat f)) (28 + 2 * z 0) 3 (Int32.ofNat q)) 23 4 (Int32.ofNat (z 0 + 1)), ?_, ((((FrC.rf.st (by omega)).st (by omega)).st (by omega)).st (by omega)).st (by omega), rs_f4 (rs_cor (w0 := 3) (rs_cor (w0 := 2) (rs_cor (w0 := 1) (rs_cor (w0 := 0) h1 hb hf1 (by decide)) b1 hf1 (by decide)) b2 hf1 (by decide)) b3 hf1 (by decide)) b4⟩)
  · exact (hk.setB b5 (fun j hj => hne j (by omega) (by omega)) (fun o h1 h2 w hw => by rw [hne _ (by omega) (by omega)]; exact (hk.2.2.2.2.2.1 o h1 h2).1 w (by omega)) (fun p h1 h2 => by rw [hne _ (by omega) (by omega)]; exact (hk.2.2.2.2.2.2.1 p h1 h2).1 0 (by decide))).mono (by omega)
  · show chk _ (lt _ _) = _
    rw [r_f4 h1, chk_t (i3_inb hf1 (by decide)), i3_nat (by omega), lt_b]
    have e4 : mI (stI (stI (stI (stI μ1 (28 + 2 * z 0) 0 (Int32.ofNat p)) (28 + 2 * z 0) 1 (Int32.ofNat c)) (28 + 2 * z 0) 2 (Int32.ofNat f)) (28 + 2 * z 0) 3 (Int32.ofNat q)) 23 4 = Int32.ofNat (z 0) := by
      rw [stI_ne _ _ _ (by omega), stI_ne _ _ _ (by omega), stI_ne _ _ _ (by omega), stI_ne _ _ _ (by omega), r_f4 h1]
    rw [e4, i3_add1]
    rfl
theorem c_addOrgan {p : Nat} (hr : RT 23 z μ) (hk : Okz N z) (hg : RingC old sv zs μ) (p1 : p ≤ 50) (h5 : z 1 < 5) : Chg N sv (d_Oc_addOrgan (Int32.ofNat p) μ) (pm (z 1 + 1)) (setN (setN z 1 (z 1 + 1)) (56 + 7 * z 1) p) μ := by
  have hb := hk.1
  have hn := hb.no
  have r1 : ∀ ν : PM, d_Oc_requireInRange (Int32.ofNat p) 0 50 ν = some (.inl none, ν) := fun ν => reqR_y (a := 0) (n := 50) (Nat.zero_le _) (by omega) (by decide)
  have hk1 := ok_addo hk h5
  have hb1 := hk1.1
  have hbd : Bd (setN (setN z 1 (z 1 + 1)) (56 + 7 * z 1) p) := hb1.set (by unfold okV; omega)
  have e11 : setN z 1 (z 1 + 1) 1 = z 1 + 1 := setN_self
  have e := e_Oc_addOrgan (Int32.ofNat p) μ
  rw [r1, bV_r, r_f5 hr, if_neg (show ¬ (5 : Int32) ≤ Int32.ofNat (z 1) from le_n (a := 5) h5 (by decide)), reqS_y (by decide), bV_r] at e
  refine Chg.of hr hk hg ?_ _ e (fun μ1 h1 => ⟨stI (stI μ1 (48 + z 1) 0 (Int32.ofNat p)) 23 5 (Int32.ofNat (z 1 + 1)), ?_, (FrC.rf.st (by omega)).st (by omega), ?_⟩)
  · refine (hk1.setB hbd (fun j hj => setN_ne (by omega)) (fun o h1 h2 w hw => ?_) (fun p h1 h2 => ?_)).mono (by omega)
    · rw [e11] at h1
      rw [setN_ne (by omega)]
      exact (hk1.2.2.2.2.2.1 o (by rw [e11]; omega) h2).1 w (by omega)
    · rw [setN_ne (by omega)]
      exact (hk1.2.2.2.2.2.2.1 p h1 h2).1 0 (by decide)
  · show chk _ _ = _
    rw [r_f5 h1, chk_t (i3_inb (by omega) (by decide)), i3_nat (by omega), stI_ne _ _ _ (by omega), r_f5 h1, i3_add1]
    rfl
  · rw [stI_comm (by omega)]
    exact rs_org (w0 := 0) (rt_addo h1 ((hk.2.2.2.2.2.1 (z 1) (Nat.le_refl _) h5).1 3 (by decide))) hb1 h5 (by decide) (by decide)
theorem c_lots (hr : RT 23 z μ) (hk : Okz N z) (hg : RingC old sv zs μ) (h : z 4 = 0 ∧ plyS z = 0) : Chg N sv (d_Oc_lots μ) (Int32.ofNat (withS (lotZ z) (z 1))) (lotZ z) μ := by
  obtain ⟨g1, g2, g3, g4⟩ := x_lots hk h.2
  have e := e_Oc_lots μ
  rw [t_mayDraw hr hk.1, bI_r, if_pos h, reqS_y (by decide), bV_r] at e
  refine Chg.of hr hk hg (g1.mono (by omega)) _ e (fun μ1 h1 => ?_)
  obtain ⟨μ2, a, b, c⟩ := g3 μ1 h1
  refine ⟨μ2, ?_, b, c⟩
  show bI (d_Twn_drawLots μ1) _ = _
  rw [a, bI_r]
theorem c_play {i t : Nat} (hr : RT 23 z μ) (hk : Okz N z) (hN : N ≤ 20000) (hg : RingC old sv zs μ) (hi : i < z 1) (ht : t < 10) (h0 : reas z i t = 0) : Chg N sv (d_Oc_play (Int32.ofNat i) (Int32.ofNat t) μ) (Int32.ofNat (takN z i (othN z i))) (plaZ z i t) μ := by
  have hb := hk.1
  have hn := hb.no
  have er : ∀ ν : PM, d_Oc_requireInRange (Int32.ofNat t) 0 9 ν = some (.inl none, ν) := fun ν => reqR_y (a := 0) (n := 9) (Nat.zero_le _) ht (by decide)
  have hrl := reas_le (z := z) (o := i) (t := t)
  have e0 : Int32.ofNat (reas z i t) = 0 ↔ reas z i t = 0 := by rw [show (0 : Int32) = Int32.ofNat 0 from rfl, i3_eq (by omega) (by decide)]
  obtain ⟨q1, q2, q3⟩ := reas_0 h0
  have e := e_Oc_play (Int32.ofNat i) (Int32.ofNat t) μ
  rw [r_f5 hr, reqI_y hi (by omega), bV_r, er, bV_r, t_reasonAgainst hr hb (by omega) ht, bI_r, if_neg (fun q => q (e0.mpr h0)), reqS_y (by decide), bV_r] at e
  refine Chg.of hr hk hg ((ok_play hk (by omega) hi ht q1 q2 q3).1.mono (by omega)) _ e (fun μ1 h1 => ?_)
  obtain ⟨μ2, a, b, c⟩ := t_play h1 hk (by omega) hi ht q1 q2 q3
  refine ⟨μ2, ?_, b, c⟩
  show bI (d_Twn_playTune _ _ μ1) _ = _
  rw [a, bI_r]
theorem c_next (hr : RT 23 z μ) (hk : Okz N z) (hN : N ≤ 20000) (hg : RingC old sv zs μ) : Chg N sv (d_Oc_next μ) (Int32.ofNat (nxtZ z 4)) (nxtZ z) μ := by
  refine Chg.of hr hk hg ((ok_next hk (by omega)).mono (by omega)) _ (e_Oc_next μ) (fun μ1 h1 => ?_)
  obtain ⟨μ2, a, b, c⟩ := t_endHour h1 hk (by omega)
  refine ⟨μ2, ?_, b, c⟩
  show bV (d_Twn_endHour μ1) _ = _
  rw [a, bV_r, r_f8 c]
end COPS
