/-! SEMANTICS: what a town of the class holds of the state; the town's answers -/
section REL
variable {z : Nat → Nat} {μ : PM}
/-- the tunes noted at a corner in an hour -/
def noted (z : Nat → Nat) (c h : Nat) : Nat := up (z 1) (fun o b => if z (56 + 7 * o + 3) = c + 1 then b ||| bitT (z (163 + 10 * o + h)) else b) 0
def RTf (t : Nat) (z : Nat → Nat) (μ : PM) : Prop :=
  (mI μ t 4 = Int32.ofNat (z 0) ∧ mI μ t 5 = Int32.ofNat (z 1) ∧ mI μ t 6 = Int32.ofNat (z 2) ∧ mI μ t 7 = Int32.ofNat (z 3) ∧ mI μ t 8 = Int32.ofNat (z 4) ∧ mI μ t 9 = Int32.ofNat (z 5)) ∧
  (mI μ t 10 = Int32.ofNat (z 6) ∧ mI μ t 11 = Int32.ofNat (plyS z) ∧ mI μ t 12 = Int32.ofNat (z 7) ∧ mI μ t 13 = Int32.ofNat (z 9) ∧ mI μ t 14 = Int32.ofNat (z 10))
def RT (t : Nat) (z : Nat → Nat) (μ : PM) : Prop :=
  RTf t z μ ∧ (∀ i, i < 5 → mI μ (t + 4) i = Int32.ofNat (z (11 + i))) ∧
  (∀ c, c < 10 → (∀ w, w < 4 → mI μ (t + 5 + 2 * c) w = Int32.ofNat (z (16 + 4 * c + w))) ∧ ∀ h, h < 10 → mI μ (t + 6 + 2 * c) h = Int32.ofNat (noted z c h)) ∧
  (∀ o, o < 5 → (∀ w, w < 7 → w ≠ 3 → mI μ (t + 25 + o) w = Int32.ofNat (z (56 + 7 * o + w))) ∧ mI μ (t + 25 + o) 3 = pm (z (56 + 7 * o + 3)) ∧ mI μ (t + 25 + o) 7 = pm (z (163 + 10 * o + z 4))) ∧
  (∀ p, p < 8 → mI μ (t + 30 + 2 * p) 0 = pm (z (91 + 4 * p)) ∧ (∀ w, 1 ≤ w → w < 4 → mI μ (t + 30 + 2 * p) w = Int32.ofNat (z (91 + 4 * p + w))) ∧ ∀ o, o < 5 → mI μ (t + 31 + 2 * p) o = Int32.ofNat (z (123 + 5 * p + o)))
theorem r_f4 (h : RT 23 z μ) : mI μ 23 4 = Int32.ofNat (z 0) := h.1.1.1
theorem r_f5 (h : RT 23 z μ) : mI μ 23 5 = Int32.ofNat (z 1) := h.1.1.2.1
theorem r_f6 (h : RT 23 z μ) : mI μ 23 6 = Int32.ofNat (z 2) := h.1.1.2.2.1
theorem r_f7 (h : RT 23 z μ) : mI μ 23 7 = Int32.ofNat (z 3) := h.1.1.2.2.2.1
theorem r_f8 (h : RT 23 z μ) : mI μ 23 8 = Int32.ofNat (z 4) := h.1.1.2.2.2.2.1
theorem r_f9 (h : RT 23 z μ) : mI μ 23 9 = Int32.ofNat (z 5) := h.1.1.2.2.2.2.2
theorem r_f10 (h : RT 23 z μ) : mI μ 23 10 = Int32.ofNat (z 6) := h.1.2.1
theorem r_f11 (h : RT 23 z μ) : mI μ 23 11 = Int32.ofNat (plyS z) := h.1.2.2.1
theorem r_f12 (h : RT 23 z μ) : mI μ 23 12 = Int32.ofNat (z 7) := h.1.2.2.2.1
theorem r_f13 (h : RT 23 z μ) : mI μ 23 13 = Int32.ofNat (z 9) := h.1.2.2.2.2.1
theorem r_f14 (h : RT 23 z μ) : mI μ 23 14 = Int32.ofNat (z 10) := h.1.2.2.2.2.2
theorem r_set {i : Nat} (h : RT 23 z μ) (hi : i < 5) : mI μ 27 i = Int32.ofNat (z (11 + i)) := h.2.1 i hi
theorem r_cor {c w : Nat} (h : RT 23 z μ) (hc : c < 10) (hw : w < 4) : mI μ (28 + 2 * c) w = Int32.ofNat (z (16 + 4 * c + w)) := (h.2.2.1 c hc).1 w hw
theorem r_tun {c i : Nat} (h : RT 23 z μ) (hc : c < 10) (hi : i < 10) : mI μ (29 + 2 * c) i = Int32.ofNat (noted z c i) := (h.2.2.1 c hc).2 i hi
theorem r_org {o w : Nat} (h : RT 23 z μ) (ho : o < 5) (hw : w < 7) (h3 : w ≠ 3) : mI μ (48 + o) w = Int32.ofNat (z (56 + 7 * o + w)) := (h.2.2.2.1 o ho).1 w hw h3
theorem r_at {o : Nat} (h : RT 23 z μ) (ho : o < 5) : mI μ (48 + o) 3 = pm (z (56 + 7 * o + 3)) := (h.2.2.2.1 o ho).2.1
theorem r_now {o : Nat} (h : RT 23 z μ) (ho : o < 5) : mI μ (48 + o) 7 = pm (z (163 + 10 * o + z 4)) := (h.2.2.2.1 o ho).2.2
theorem r_crw {p : Nat} (h : RT 23 z μ) (hp : p < 8) : mI μ (53 + 2 * p) 0 = pm (z (91 + 4 * p)) := (h.2.2.2.2 p hp).1
theorem r_ply {p w : Nat} (h : RT 23 z μ) (hp : p < 8) (h1 : 1 ≤ w) (hw : w < 4) : mI μ (53 + 2 * p) w = Int32.ofNat (z (91 + 4 * p + w)) := (h.2.2.2.2 p hp).2.1 w h1 hw
theorem r_tim {p o : Nat} (h : RT 23 z μ) (hp : p < 8) (ho : o < 5) : mI μ (54 + 2 * p) o = Int32.ofNat (z (123 + 5 * p + o)) := (h.2.2.2.2 p hp).2.2 o ho
theorem c_cor {c : Nat} (h : c < 10) : cls (28 + 2 * c) = 0 := (by decide : ∀ c, c < 10 → cls (28 + 2 * c) = 0) c h
theorem c_ply {p : Nat} (h : p < 8) : cls (53 + 2 * p) = 5 := (by decide : ∀ p, p < 8 → cls (53 + 2 * p) = 5) p h
theorem t_cornerOf {o : Nat} (hr : RT 23 z μ) (hb : Bd z) (ho : o < 5) : d_Twn_cornerOf (Int32.ofNat o) μ = if z (56 + 7 * o + 3) = 0 then some (.inl (some .null), μ) else some (.inl (some (.ref (28 + 2 * (z (56 + 7 * o + 3) - 1)))), μ) := by
  have hbg := hb.big (56 + 7 * o + 3) (by omega)
  have hn := hb.nc
  rw [e_Twn_cornerOf, chk_t (i3_inb ho (by decide)), i3_nat (by omega), r_at hr ho, r_f4 hr]
  by_cases h : z (56 + 7 * o + 3) = 0
  · rw [if_pos ((pm_lt (by omega)).mpr h), if_pos h]
  · obtain ⟨a1, a2, a3⟩ := at_lt hb ho h
    rw [if_neg (fun q => h ((pm_lt (by omega)).mp q)), a3, if_neg (le_n a2 (by omega)), chk_t (i3_inb a1 (by decide)), i3_nat (by omega), if_neg h]
theorem t_crewSize {o : Nat} (hr : RT 23 z μ) (hb : Bd z) (ho : o < 5) : d_Twn_crewSize (Int32.ofNat o) μ = rI (Int32.ofNat (crew z o)) μ := by
  have hp := hb.np
  rw [e_Twn_crewSize]
  refine (loopS (fun i a (_ : Unit) => Twn_crewSize_4 (Int32.ofNat o) a i μ) (z 2) (fun p => if z (91 + 4 * p) = o + 1 then 1 else 0) () (fun i hi a => ?_)).trans ?_
  · show Twn_crewSize_4 _ _ _ _ = Twn_crewSize_4 _ _ _ _
    have hc := hb.big (91 + 4 * i) (by omega)
    rw [Twn_crewSize_4_eq, r_f6 hr, if_neg (le_n hi (by omega)), chk_t (i3_inb (by omega) (by decide)), i3_nat (by omega), r_crw hr (by omega), i3_add1, i3_add1]
    by_cases h : z (91 + 4 * i) = o + 1
    · rw [if_neg (fun q => q ((pm_eq (by omega) (by omega)).mpr h)), if_pos h]
    · rw [if_pos (fun q => h ((pm_eq (by omega) (by omega)).mp q)), if_neg h]
      rfl
  · show Twn_crewSize_4 _ _ _ _ = _
    rw [Twn_crewSize_4_eq, r_f6 hr, if_pos (le_y (Nat.le_refl _) (by omega))]
    rfl
theorem t_permits (hr : RT 23 z μ) (hb : Bd z) : d_Twn_permits μ = rI (Int32.ofNat (permS z)) μ := by
  have hp := hb.no
  rw [e_Twn_permits]
  refine (loopS (fun i a (_ : Unit) => Twn_permits_4 a i μ) (z 1) (fun o => z (56 + 7 * o + 1)) () (fun i hi a => ?_)).trans ?_
  · show Twn_permits_4 _ _ _ = Twn_permits_4 _ _ _
    have hc := (hb.org i (by omega)).2.1
    rw [Twn_permits_4_eq, r_f5 hr, if_neg (le_n hi (by omega)), chk_t (i3_inb (by omega) (by decide)), i3_nat (by omega), r_org hr (by omega) (by decide) (by decide), i3_add1, i3_add1]
    rcases (show z (56 + 7 * i + 1) = 0 ∨ z (56 + 7 * i + 1) = 1 by omega) with h | h
    · rw [h, if_pos (show Int32.ofNat 0 = 0 from rfl)]
      rfl
    · rw [h, if_neg (by decide)]
  · show Twn_permits_4 _ _ _ = _
    rw [Twn_permits_4_eq, r_f5 hr, if_pos (le_y (Nat.le_refl _) (by omega))]
    rfl
theorem t_takingsSoFar (hr : RT 23 z μ) (hb : Bd z) : d_Twn_takingsSoFar μ = rI (Int32.ofNat (orgS z 6)) μ := by
  have hp := hb.no
  rw [e_Twn_takingsSoFar]
  refine (loopS (fun i a (_ : Unit) => Twn_takingsSoFar_4 a i μ) (z 1) (fun o => z (56 + 7 * o + 6)) () (fun i hi a => ?_)).trans ?_
  · show Twn_takingsSoFar_4 _ _ _ = Twn_takingsSoFar_4 _ _ _
    rw [Twn_takingsSoFar_4_eq, r_f5 hr, if_neg (le_n hi (by omega)), chk_t (i3_inb (by omega) (by decide)), i3_nat (by omega), r_org hr (by omega) (by decide) (by decide), i3_add, i3_add1]
  · show Twn_takingsSoFar_4 _ _ _ = _
    rw [Twn_takingsSoFar_4_eq, r_f5 hr, if_pos (le_y (Nat.le_refl _) (by omega))]
    rfl
theorem t_ownersSoFar (hr : RT 23 z μ) (hb : Bd z) : d_Twn_ownersSoFar μ = rI (Int32.ofNat (orgS z 5)) μ := by
  have hp := hb.no
  rw [e_Twn_ownersSoFar]
  refine (loopS (fun i a (_ : Unit) => Twn_ownersSoFar_4 a i μ) (z 1) (fun o => z (56 + 7 * o + 5)) () (fun i hi a => ?_)).trans ?_
  · show Twn_ownersSoFar_4 _ _ _ = Twn_ownersSoFar_4 _ _ _
    rw [Twn_ownersSoFar_4_eq, r_f5 hr, if_neg (le_n hi (by omega)), chk_t (i3_inb (by omega) (by decide)), i3_nat (by omega), r_org hr (by omega) (by decide) (by decide), i3_add, i3_add1]
  · show Twn_ownersSoFar_4 _ _ _ = _
    rw [Twn_ownersSoFar_4_eq, r_f5 hr, if_pos (le_y (Nat.le_refl _) (by omega))]
    rfl
theorem t_inAllPots (hr : RT 23 z μ) (hb : Bd z) : d_Twn_inAllPots μ = rI (Int32.ofNat (orgS z 4)) μ := by
  have hp := hb.no
  rw [e_Twn_inAllPots]
  refine (loopS (fun i a (_ : Unit) => Twn_inAllPots_4 a i μ) (z 1) (fun o => z (56 + 7 * o + 4)) () (fun i hi a => ?_)).trans ?_
  · show Twn_inAllPots_4 _ _ _ = Twn_inAllPots_4 _ _ _
    rw [Twn_inAllPots_4_eq, r_f5 hr, if_neg (le_n hi (by omega)), chk_t (i3_inb (by omega) (by decide)), i3_nat (by omega), r_org hr (by omega) (by decide) (by decide), i3_add, i3_add1]
  · show Twn_inAllPots_4 _ _ _ = _
    rw [Twn_inAllPots_4_eq, r_f5 hr, if_pos (le_y (Nat.le_refl _) (by omega))]
    rfl
theorem t_playersSoFar (hr : RT 23 z μ) (hb : Bd z) : d_Twn_playersSoFar μ = rI (Int32.ofNat (gotS z)) μ := by
  have hp := hb.np
  rw [e_Twn_playersSoFar]
  refine (loopS (fun i a (_ : Unit) => Twn_playersSoFar_4 a i μ) (z 2) (fun p => z (91 + 4 * p + 1)) () (fun i hi a => ?_)).trans ?_
  · show Twn_playersSoFar_4 _ _ _ = Twn_playersSoFar_4 _ _ _
    rw [Twn_playersSoFar_4_eq, r_f6 hr, if_neg (le_n hi (by omega)), chk_t (i3_inb (by omega) (by decide)), i3_nat (by omega), r_ply hr (by omega) (by decide) (by decide), i3_add, i3_add1]
  · show Twn_playersSoFar_4 _ _ _ = _
    rw [Twn_playersSoFar_4_eq, r_f6 hr, if_pos (le_y (Nat.le_refl _) (by omega))]
    rfl
theorem t_hoursOfDay {p : Nat} (hr : RT 23 z μ) (hp : p < 8) : d_Ply_hoursOfDay (53 + 2 * p) μ = rI (Int32.ofNat (timS z p)) μ := by
  have hc := c_ply hp
  rw [e_Ply_hoursOfDay _ _ hc]
  refine (loopS (fun i a (_ : Unit) => Ply_hoursOfDay_4 (53 + 2 * p) a i μ) 5 (fun o => z (123 + 5 * p + o)) () (fun i hi a => ?_)).trans ?_
  · show Ply_hoursOfDay_4 _ _ _ _ = Ply_hoursOfDay_4 _ _ _ _
    have e : 53 + 2 * p + 1 = 54 + 2 * p := by omega
    rw [Ply_hoursOfDay_4_eq _ _ _ _ hc, if_neg (show ¬ (5 : Int32) ≤ Int32.ofNat i from le_n (a := 5) hi (by decide)), chk_t (i3_inb hi (by decide)), i3_nat (by omega), e, r_tim hr hp hi, i3_add, i3_add1]
  · show Ply_hoursOfDay_4 _ _ _ _ = _
    rw [Ply_hoursOfDay_4_eq _ _ _ _ hc, if_pos (by decide)]
    rfl
theorem t_holds {a t : Nat} (ha : a < 2147483648) (ht : t < 10) : d_Oc_holds (Int32.ofNat a) (Int32.ofNat t) μ = rI (if a.testBit t then 1 else 0) μ := by
  rw [e_Oc_holds, i3_hold ha ht]
  by_cases h : a.testBit t = true
  · rw [if_pos h, if_neg (fun q => q rfl)]
  · rw [if_neg h, if_pos (by decide)]
end REL
