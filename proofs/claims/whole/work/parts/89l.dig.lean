/-! SEMANTICS: the digest -/
section DIG
variable {z : Nat → Nat} {sv n N : Nat} {s : Nat → Nat} {μ μ1 : PM}
/-- what the model's digest leaves alone -/
def FrD (μ μ' : PM) : Prop := μ'.2.2 = μ.2.2 ∧ (∀ x, (x < 12 ∨ x = 15 ∨ x = 16 ∨ x = 17 ∨ 23 ≤ x) → mI μ' x = mI μ x) ∧ (∀ j, 11 ≤ j → j ≤ 16 → mI μ' 12 j = mI μ 12 j) ∧ mI μ' 21 0 = mI μ 21 0
theorem FrD.rf : FrD μ μ := ⟨rfl, fun _ _ => rfl, fun _ _ _ => rfl, rfl⟩
theorem FrD.tr {μ2 : PM} (h : FrD μ μ1) (h' : FrD μ1 μ2) : FrD μ μ2 := ⟨h'.1.trans h.1, fun x hx => (h'.2.1 x hx).trans (h.2.1 x hx), fun j h1 h2 => (h'.2.2.1 j h1 h2).trans (h.2.2.1 j h1 h2), h'.2.2.2.trans h.2.2.2⟩
theorem FrD.of (h : FrM μ μ1) : FrD μ μ1 := ⟨congrArg Prod.snd h.1, h.2⟩
theorem FrD.sj {v : Int64} (h : FrD μ μ1) : FrD μ (stJ μ1 12 17 v) := h
theorem hash_get {v : Int64} : mJ (stJ μ 12 17 v) 12 17 = v := rfl
def Cs (z : Nat → Nat) (sv n : Nat) (s : Nat → Nat) (μ : PM) : Prop := RT 23 z μ ∧ mI μ 1 2 = Int32.ofNat sv ∧ mI μ 13 = zI z ∧ mI μ 12 14 = Int32.ofNat sv ∧ TxC n s μ
def Ms (z : Nat → Nat) (sv n : Nat) (s : Nat → Nat) (μ : PM) : Prop := mI μ 13 = zI z ∧ mI μ 12 14 = Int32.ofNat sv ∧ mI μ 21 0 = 0 ∧ mI μ 12 16 = 0 ∧ TxM n s μ
theorem Cs.sc (hc : Cs z sv n s μ) (h : ScC μ μ1) : Cs z sv n s μ1 := ⟨h.rt hc.1, by rw [h.2 1 (by decide)]; exact hc.2.1, by rw [h.2 13 (by decide)]; exact hc.2.2.1, by rw [h.2 12 (by decide)]; exact hc.2.2.2.1, hc.2.2.2.2.1, by rw [h.2 3 (by decide)]; exact hc.2.2.2.2.2.1, fun i hi => by rw [h.2 4 (by decide)]; exact hc.2.2.2.2.2.2 i hi⟩
theorem Ms.fr (hm : Ms z sv n s μ) (h : FrD μ μ1) (h13 : mI μ1 13 = mI μ 13) : Ms z sv n s μ1 := ⟨h13.trans hm.1, by rw [h.2.2.1 14 (by decide) (by decide)]; exact hm.2.1, by rw [h.2.2.2]; exact hm.2.2.1, by rw [h.2.2.1 16 (by decide) (by decide)]; exact hm.2.2.2.1, hm.2.2.2.2.1, by rw [h.2.2.1 15 (by decide) (by decide)]; exact hm.2.2.2.2.2.1, fun i hi => by rw [h.2.1 16 (by decide)]; exact hm.2.2.2.2.2.2 i hi⟩
/-- a step of both digests, seen from what comes behind it -/
def DgS (z : Nat → Nat) (sv n : Nat) (s : Nat → Nat) (C C' : Int64 → PM → Option PO) (M M' : PM → Option PO) : Prop := ∀ X μc, Cs z sv n s μc → ∃ X' μ1, C X μc = C' X' μ1 ∧ ScC μc μ1 ∧ ∀ μm, Ms z sv n s μm → mJ μm 12 17 = X → ∃ μ2, M μm = M' μ2 ∧ FrD μm μ2 ∧ mI μ2 13 = mI μm 13 ∧ mJ μ2 12 17 = X'
def rV (μ : PM) : Option PO := some (.inl none, μ)
theorem DgS.tr {C C' C'' : Int64 → PM → Option PO} {M M' M'' : PM → Option PO} (h : DgS z sv n s C C' M M') (h' : DgS z sv n s C' C'' M' M'') : DgS z sv n s C C'' M M'' := by
  intro X μc hc
  obtain ⟨X1, μ1, a1, a2, a3⟩ := h X μc hc
  obtain ⟨X2, μ2, b1, b2, b3⟩ := h' X1 μ1 (hc.sc a2)
  refine ⟨X2, μ2, a1.trans b1, a2.tr b2, fun μm hm hX => ?_⟩
  obtain ⟨μ3, c1, c2, c3, c4⟩ := a3 μm hm hX
  obtain ⟨μ4, d1, d2, d3, d4⟩ := b3 μ3 (hm.fr c2 c3) c4
  exact ⟨μ4, c1.trans d1, c2.tr d2, d3.trans c3, d4⟩
theorem DgS.eqv {C C' : Int64 → PM → Option PO} {M M' : PM → Option PO} (hC : ∀ X μ, Cs z sv n s μ → C X μ = C' X μ) (hM : ∀ μ, Ms z sv n s μ → M μ = M' μ) : DgS z sv n s C C' M M' := fun X μc hc => ⟨X, μc, hC X μc hc, ScC.rf, fun μm hm hX => ⟨μm, hM μm hm, FrD.rf, rfl, hX⟩⟩
theorem DgS.up {f : Nat → Int64 → PM → Option PO} {g : Nat → PM → Option PO} {k : Nat} (h : ∀ i, i < k → DgS z sv n s (f i) (f (i + 1)) (g i) (g (i + 1))) : DgS z sv n s (f 0) (f k) (g 0) (g k) := by
  have key : ∀ m, m ≤ k → DgS z sv n s (f 0) (f m) (g 0) (g m) := by
    intro m
    induction m with
    | zero => intro _; exact DgS.eqv (fun _ _ _ => rfl) (fun _ _ => rfl)
    | succ m ih => intro hm; exact (ih (by omega)).tr (h m (by omega))
  exact key k (Nat.le_refl k)
theorem DgS.call {A C C' : Int64 → PM → Option PO} {M M' : PM → Option PO} (h : DgS z sv n s A rJ M M') (hC : ∀ X μ, Cs z sv n s μ → C X μ = bJ (A X μ) (fun v μ1 => C' v μ1)) : DgS z sv n s C C' M M' := by
  intro X μc hc
  obtain ⟨X1, μ1, a1, a2, a3⟩ := h X μc hc
  exact ⟨X1, μ1, by rw [hC X μc hc, a1, bJ_r], a2, a3⟩
theorem DgS.callM {C C' : Int64 → PM → Option PO} {B M M' : PM → Option PO} (h : DgS z sv n s C C' B rV) (hM : ∀ μ, Ms z sv n s μ → M μ = bV (B μ) (fun μ1 => M' μ1)) : DgS z sv n s C C' M M' := by
  intro X μc hc
  obtain ⟨X1, μ1, a1, a2, a3⟩ := h X μc hc
  refine ⟨X1, μ1, a1, a2, fun μm hm hX => ?_⟩
  obtain ⟨μ2, b1, b2⟩ := a3 μm hm hX
  exact ⟨μ2, by rw [hM μm hm, b1]; rfl, b2⟩
theorem DgS.fr {f : Int64 → Int64 → PM → Option PO} {C' : Int64 → PM → Option PO} {M M' : PM → Option PO} (h : ∀ X, DgS z sv n s (f X) C' M M') : DgS z sv n s (fun X μ => f X X μ) C' M M' := fun X μc hc => h X X μc hc
/-- a value that both have -/
def VA (z : Nat → Nat) (sv n : Nat) (s : Nat → Nat) (c m : PM → Option PO) : Prop := ∀ μc, Cs z sv n s μc → ∃ (v : Int32) (μ1 : PM), c μc = rI v μ1 ∧ ScC μc μ1 ∧ ∀ μm, Ms z sv n s μm → ∃ μ2, m μm = rI v μ2 ∧ FrM μm μ2 ∧ mI μ2 13 = mI μm 13
theorem DgS.val {C C' : Int64 → PM → Option PO} {M M' : PM → Option PO} {c m : PM → Option PO} (hv : VA z sv n s c m) (hC : ∀ X μ, Cs z sv n s μ → C X μ = bI (c μ) (fun v μ1 => bJ (d_Oc_mixed X v.toInt64 μ1) (fun w μ3 => C' w μ3))) (hM : ∀ μ, Ms z sv n s μ → M μ = bI (m μ) (fun v μ1 => bV (d_Md_mix v.toInt64 μ1) (fun μ3 => M' μ3))) : DgS z sv n s C C' M M' := by
  intro X μc hc
  obtain ⟨v, μ1, a1, a2, a3⟩ := hv μc hc
  refine ⟨31 * X + v.toInt64, μ1, by rw [hC X μc hc, a1, bI_r, e_Oc_mixed, bJ_r], a2, fun μm hm hX => ?_⟩
  obtain ⟨μ2, b1, b2, b3⟩ := a3 μm hm
  have e : mJ μ2 12 17 = X := by
    have : mJ μ2 = mJ μm := congrArg Prod.fst b2.1
    rw [this]; exact hX
  refine ⟨stJ μ2 12 17 (31 * X + v.toInt64), ?_, (FrD.of b2).sj, b3, hash_get⟩
  rw [hM μm hm, b1, bI_r, e_Md_mix, e]
  rfl
theorem inv_bI {t : Option PO} {v : Int32} {μ' : PM} (h : bI t (fun v μ => some (.inl (some (.int v)), μ)) = rI v μ') : t = rI v μ' := by
  match t, h with
  | some (.inl (some (.int w)), ν), h => exact h
theorem st_id : mI μ 12 16 = 0 → stI μ 12 16 (Int32.ofNat 0) = μ := by
  intro h
  refine Prod.ext ?_ rfl
  funext a b
  show mI (stI μ 12 16 (Int32.ofNat 0)) a b = mI μ a b
  rw [st_get]
  by_cases q : a = 12 ∧ b = 16
  · rw [if_pos q, q.1, q.2, h]; rfl
  · rw [if_neg q]
theorem VA.of {c m m' : PM → Option PO} (hv : ∀ μc, Cs z sv n s μc → AnsV (c μc) m μc) (h : ∀ μm v, Ms z sv n s μm → m μm = rI v μm → m' μm = rI v μm) : VA z sv n s c m' := by
  intro μc hc
  obtain ⟨v, a1, a2⟩ := hv μc hc
  refine ⟨v, μc, a1, ScC.rf, fun μm hm => ⟨μm, h μm v hm ?_, FrM.rf, rfl⟩⟩
  rw [a2 μm (hm.1.trans hc.2.2.1.symm) (hm.2.1.trans hc.2.2.2.1.symm), show stI μm 12 16 0 = μm from st_id hm.2.2.2.1]
theorem Ms.i0 (hm : Ms z sv n s μ) : stI μ 12 16 0 = μ := st_id hm.2.2.2.1
theorem va_corner {i j : Nat} (hk : Okz N z) (hi : i < z 0) (hj : j < 6) : VA z sv n s (d_Oc_corner (Int32.ofNat i) (Int32.ofNat j)) (d_Md_cornerNow (Int32.ofNat i) (Int32.ofNat j)) := by
  refine VA.of (fun μc hc => v_corner hc.1 hc.2.2.1 hk.1 hk.2.2.1 hi hj) (fun μm v hm h => ?_)
  have ew : ∀ ν : PM, d_Md_within (Int32.ofNat j) 0 5 ν = rI 1 ν := fun ν => with_y (a := 0) (n := 5) (Nat.zero_le _) hj (by decide)
  rw [e_Md_corner, hm.i0, m_isCorner_y hm.1 hk.1 hi, bI_r, if_pos (by decide), ew, bI_r, if_neg (by decide)] at h
  exact inv_bI h
theorem va_organ {i j : Nat} (hk : Okz N z) (hi : i < z 1) (hj : j < 9) : VA z sv n s (d_Oc_organ (Int32.ofNat i) (Int32.ofNat j)) (d_Md_organNow (Int32.ofNat i) (Int32.ofNat j)) := by
  refine VA.of (fun μc hc => v_organ hc.1 hc.2.2.1 hk.1 hi hj) (fun μm v hm h => ?_)
  have ew : ∀ ν : PM, d_Md_within (Int32.ofNat j) 0 8 ν = rI 1 ν := fun ν => with_y (a := 0) (n := 8) (Nat.zero_le _) hj (by decide)
  rw [e_Md_organ, hm.i0, m_isOrgan_y hm.1 hk.1 hi, bI_r, if_pos (by decide), ew, bI_r, if_neg (by decide)] at h
  exact inv_bI h
theorem va_player {i j : Nat} (hk : Okz N z) (hi : i < z 2) (hj : j < 5) : VA z sv n s (d_Oc_player (Int32.ofNat i) (Int32.ofNat j)) (d_Md_playerNow (Int32.ofNat i) (Int32.ofNat j)) := by
  refine VA.of (fun μc hc => v_player hc.1 hc.2.2.1 hk.1 hi hj) (fun μm v hm h => ?_)
  have ew : ∀ ν : PM, d_Md_within (Int32.ofNat j) 0 4 ν = rI 1 ν := fun ν => with_y (a := 0) (n := 4) (Nat.zero_le _) hj (by decide)
  rw [e_Md_player, hm.i0, m_isPlayer_y hm.1 hk.1 hi, bI_r, if_pos (by decide), ew, bI_r, if_neg (by decide)] at h
  exact inv_bI h
theorem va_whyNot {i j : Nat} (hk : Okz N z) (hi : i < z 1) (hj : j < 10) : VA z sv n s (d_Oc_whyNot (Int32.ofNat i) (Int32.ofNat j)) (d_Md_reason (Int32.ofNat i) (Int32.ofNat j)) := by
  refine VA.of (fun μc hc => v_whyNot hc.1 hc.2.2.1 hk.1 hi hj) (fun μm v hm h => ?_)
  have ew : ∀ ν : PM, d_Md_within (Int32.ofNat j) 0 9 ν = rI 1 ν := fun ν => with_y (a := 0) (n := 9) (Nat.zero_le _) hj (by decide)
  rw [e_Md_whyNot, hm.i0, m_isOrgan_y hm.1 hk.1 hi, bI_r, if_pos (by decide), ew, bI_r, if_neg (by decide)] at h
  exact inv_bI h
theorem va_hours {i j : Nat} (hk : Okz N z) (hi : i < z 2) (hj : j < z 1) : VA z sv n s (d_Oc_hours (Int32.ofNat i) (Int32.ofNat j)) (d_Md_timeAt (Int32.ofNat i) (Int32.ofNat j)) := by
  refine VA.of (fun μc hc => v_hours hc.1 hc.2.2.1 hk.1 hi hj) (fun μm v hm h => ?_)
  rw [e_Md_hours, hm.i0, m_isPlayer_y hm.1 hk.1 hi, bI_r, if_neg (by decide), m_isOrgan_y hm.1 hk.1 hj, bI_r, if_neg (by decide)] at h
  exact inv_bI h
theorem va_ifPlayed {i : Nat} (hk : Okz N z) (hi : i < z 1) : VA z sv n s (d_Oc_ifPlayed (Int32.ofNat i)) (d_Md_playedNow (Int32.ofNat i)) := by
  refine VA.of (fun μc hc => v_ifPlayed hc.1 hc.2.2.1 hk.1 hk.2.1 hi) (fun μm v hm h => ?_)
  rw [e_Md_ifPlayed, hm.i0, m_isOrgan_y hm.1 hk.1 hi, bI_r, if_neg (by decide)] at h
  exact inv_bI h
theorem va_count {i : Nat} (hk : Okz N z) (hi : i < 16) : VA z sv n s (d_Oc_count (Int32.ofNat i)) (d_Md_counted (Int32.ofNat i)) := fun μc hc => ⟨_, μc, t_count hc.1 hk.1 hk.2.2.2.1 hc.2.1 hi, ScC.rf, fun μm hm => ⟨μm, m_counted hm.1 hk.1 hm.2.1 hi, FrM.rf, rfl⟩⟩
theorem va_setting {i : Nat} (hi : i < 5) : VA z sv n s (d_Oc_setting (Int32.ofNat i)) (fun μ => rI (Int32.ofNat (z (11 + i))) μ) := fun μc hc => ⟨Int32.ofNat (z (11 + i)), μc, by
  have er : ∀ ν : PM, d_Oc_requireIndex (Int32.ofNat i) 5 ν = some (.inl none, ν) := fun ν => reqI_y (n := 5) hi (by decide)
  rw [e_Oc_setting, er, bV_r, chk_t (i3_inb hi (by decide)), i3_nat (by omega), r_set hc.1 hi], ScC.rf, fun μm _ => ⟨μm, rfl, FrM.rf, rfl⟩⟩
theorem va_kindest {i : Nat} (hk : Okz N z) (hi : i < z 1) : VA z sv n s (d_Oc_kindestTune (Int32.ofNat i)) (d_Md_kindestNow (Int32.ofNat i)) := by
  intro μc hc
  obtain ⟨μ1, a1, a2⟩ := t_kindest hc.1 hk.1 hi
  refine ⟨_, μ1, a1, a2, fun μm hm => ?_⟩
  obtain ⟨μ2, b1, b2, b3⟩ := m_kindestNow hm.1 hk.1 hi
  exact ⟨μ2, b1, b2, b3.trans hm.1.symm⟩
theorem va_ended {i : Nat} (hk : Okz N z) (hN : N ≤ 20020) (hi : i < z 2) : VA z sv n s (d_Oc_ifEnded (Int32.ofNat i)) (d_Md_endedNow (Int32.ofNat i)) := by
  intro μc hc
  have hE := hk.ed hN
  have hp := hk.1.np
  obtain ⟨μ1, a1, a2, a3⟩ := t_reckon (PT_of hc.1) hE
  refine ⟨Int32.ofNat (shrS z i + getW z i), μ1, ?_, a2.sc, fun μm hm => ?_⟩
  · rw [e_Oc_ifEnded, r_f6 hc.1, reqI_y hi (by omega), bV_r, a1, bV_r, chk_t (i3_inb (by omega) (by decide)), i3_nat (by omega), (a3 i hi).1, (a3 i hi).2, i3_add]
  · obtain ⟨μ2, b1, b2, b3⟩ := m_endedNow hm.1 hE hi
    exact ⟨μ2, b1, b2, b3.trans hm.1.symm⟩
end DIG
