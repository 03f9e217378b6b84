/-! SEMANTICS: addPlayer -/
section ADDP
variable {z : Nat → Nat} {μ : PM}
def setN (z : Nat → Nat) (k v : Nat) : Nat → Nat := fun j => if j = k then v else z j
theorem zI_set {k v : Nat} {μ : PM} (hz : mI μ 13 = zI z) : mI (stI μ 13 k (Int32.ofNat v)) 13 = zI (setN z k v) := by
  funext j
  rw [st_get, hz]
  show _ = Int32.ofNat (if j = k then v else z j)
  by_cases e : j = k
  · rw [if_pos ⟨rfl, e⟩, if_pos e]
  · rw [if_neg (fun q => e q.2), if_neg e]
    rfl
theorem reqS_y {x : Int32} (h : x ≠ 0) : d_Oc_requireState x μ = some (.inl none, μ) := by rw [e_Oc_requireState, if_pos h]
theorem reqS_n : d_Oc_requireState 0 μ = some (.inr 2, exM μ) := by rw [e_Oc_requireState, if_neg (fun q => q rfl)]
theorem setN_ne {k v j : Nat} (h : j ≠ k) : setN z k v j = z j := if_neg h
theorem setN_self {k v : Nat} : setN z k v k = v := if_pos rfl
theorem sum_congr {f g : Nat → Nat} (n : Nat) (h : ∀ i, i < n → f i = g i) : sum n f = sum n g := up_congr n (fun i hi x => by rw [h i hi])
/-- one more player -/
theorem ok_addp {N : Nat} (hk : Okz N z) (h8 : z 2 < 8) : Okz (N + 20) (setN z 2 (z 2 + 1)) := by
  have ne : ∀ j, j ≠ 2 → setN z 2 (z 2 + 1) j = z j := fun j hj => setN_ne hj
  obtain ⟨hb, hpl, hdj, ht, hfu, hor, hpy, htm, hpt, hph, hcs, a, b, c, d, e⟩ := hk
  have e0 : setN z 2 (z 2 + 1) 0 = z 0 := ne 0 (by decide)
  have e1 : setN z 2 (z 2 + 1) 1 = z 1 := ne 1 (by decide)
  have e2 : setN z 2 (z 2 + 1) 2 = z 2 + 1 := setN_self
  have e4 : setN z 2 (z 2 + 1) 4 = z 4 := ne 4 (by decide)
  have eo : ∀ w, orgS (setN z 2 (z 2 + 1)) w = orgS z w := fun w => by
    unfold orgS
    rw [e1]
    exact sum_congr _ (fun i hi => ne _ (by omega))
  have ec : ∀ o, cntT (setN z 2 (z 2 + 1)) o = cntT z o := fun o => sum_congr _ (fun i hi => by rw [ne _ (by omega)])
  have eg : gotS (setN z 2 (z 2 + 1)) = gotS z := by
    unfold gotS
    rw [e2]
    have h9 : setN z 2 (z 2 + 1) (91 + 4 * z 2 + 1) = 0 := by rw [ne _ (by omega), (hpy (z 2) (Nat.le_refl _) h8).1 1 (by decide)]
    show sum (z 2) _ + setN z 2 (z 2 + 1) (91 + 4 * z 2 + 1) = _
    rw [h9]
    exact sum_congr _ (fun i hi => ne _ (by omega))
  refine ⟨⟨?_, ?_, ?_, ?_, ?_, ?_, ?_, ?_, ?_, ?_, fun c hc => ?_, fun o ho => ?_, fun p hp => ?_, fun p hp o ho => ?_, fun o ho h hh => ?_, fun k hk => ?_⟩, fun o ho h hh q => ?_, fun o x ho hx q r => ?_, ?_, fun o ho h h1 h2 => ?_, fun o h1 ho => ⟨fun w hw => ?_, fun h hh => ?_⟩, fun p h1 hp => ⟨fun w hw => ?_, fun o ho => ?_⟩, fun p hp o ho => ?_, fun o ho => ?_, fun o ho q => ?_, ?_, ?_, ?_, ?_, fun p hp => ?_, fun p hp => ?_⟩
  · rw [e0]; exact hb.nc
  · rw [e1]; exact hb.no
  · rw [e2]; omega
  · rw [e4]; exact hb.hr
  · rw [ne _ (by decide)]; exact hb.wt
  · rw [ne _ (by decide)]; exact hb.s0
  · rw [ne _ (by decide)]; exact hb.s1
  · rw [ne _ (by decide)]; exact hb.s2
  · rw [ne _ (by decide)]; exact hb.s3
  · rw [ne _ (by decide)]; exact hb.s4
  · rw [ne _ (by omega), ne _ (by omega), ne _ (by omega), ne _ (by omega)]; exact hb.cor c hc
  · rw [ne _ (by omega), ne _ (by omega), ne _ (by omega), ne _ (by omega), e0]; exact hb.org o ho
  · rw [ne _ (by omega), e1]; exact hb.crw p hp
  · rw [ne _ (by omega)]; exact hb.tim p hp o ho
  · rw [ne _ (by omega)]; exact hb.tun o ho h hh
  · by_cases q : k = 2
    · rw [q, e2]; omega
    · rw [ne _ q]; exact hb.big k hk
  · rw [ne _ (by omega)] at q ⊢
    exact hpl o ho h hh q
  · rw [ne _ (by omega)] at q r
    rw [ne _ (by omega)] at r
    exact hdj o x ho hx q r
  · rw [eo, ne _ (by decide)]; exact ht
  · rw [e4] at h1
    rw [ne _ (by omega)]
    exact hfu o ho h h1 h2
  · rw [e1] at h1
    rw [ne _ (by omega)]
    exact (hor o h1 ho).1 w hw
  · rw [e1] at h1
    rw [ne _ (by omega)]
    exact (hor o h1 ho).2 h hh
  · rw [e2] at h1
    rw [ne _ (by omega)]
    exact (hpy p (by omega) hp).1 w hw
  · rw [e2] at h1
    rw [ne _ (by omega)]
    exact (hpy p (by omega) hp).2 o ho
  · rw [ne _ (by omega), ec]; exact htm p hp o ho
  · rw [ne _ (by omega), ec]; exact hpt o ho
  · rw [ne _ (by omega)] at q
    obtain ⟨p, h1, h2⟩ := hph o ho q
    exact ⟨p, h1, by rw [ne _ (by omega)]; exact h2⟩
  · rw [eg, eo, eo, ne _ (by decide), ne _ (by decide), ne _ (by decide)]; exact hcs
  · rw [ne _ (by decide)]; omega
  · rw [ne _ (by decide)]; omega
  · rw [ne _ (by decide)]; omega
  · rw [ne _ (by omega)]; exact Nat.le_trans (d p hp) (by omega)
  · rw [ne _ (by omega), ne _ (by omega)]; exact e p hp
theorem rt_addp {v : Nat} (hr : RT 23 z μ) : RT 23 (setN z 2 v) (stI μ 23 6 (Int32.ofNat v)) := by
  have ne : ∀ j, j ≠ 2 → setN z 2 v j = z j := fun j hj => setN_ne hj
  have e1 : setN z 2 v 1 = z 1 := ne 1 (by decide)
  have e4 : setN z 2 v 4 = z 4 := ne 4 (by decide)
  have en : ∀ c h, noted (setN z 2 v) c h = noted z c h := fun c h => by
    unfold noted
    rw [e1]
    exact up_congr _ (fun i hi x => by rw [ne _ (by omega), ne _ (by omega)])
  have ep : plyS (setN z 2 v) = plyS z := sum_congr _ (fun i hi => by rw [ne _ (by omega)])
  have fr : ∀ x y, x ≠ 23 → mI (stI μ 23 6 (Int32.ofNat v)) x y = mI μ x y := fun x y hx => by rw [stI_ne _ _ _ hx]
  have f0 : ∀ y, y ≠ 6 → mI (stI μ 23 6 (Int32.ofNat v)) 23 y = mI μ 23 y := fun y hy => by rw [st_get, if_neg (fun q => hy q.2)]
  obtain ⟨⟨⟨q4, q5, q6, q7, q8, q9⟩, q10, q11, q12, q13, q14⟩, qs, qc, qo, qp⟩ := hr
  refine ⟨⟨⟨?_, ?_, ?_, ?_, ?_, ?_⟩, ?_, ?_, ?_, ?_, ?_⟩, fun i hi => ?_, fun c hc => ⟨fun w hw => ?_, fun w hw => ?_⟩, fun o ho => ⟨fun w hw h3 => ?_, ?_, ?_⟩, fun p hp => ⟨?_, fun w h1 hw => ?_, fun o ho => ?_⟩⟩
  · rw [f0 _ (by decide), ne _ (by decide)]; exact q4
  · rw [f0 _ (by decide), ne _ (by decide)]; exact q5
  · rw [st_get, if_pos ⟨rfl, rfl⟩, setN_self]
  · rw [f0 _ (by decide), ne _ (by decide)]; exact q7
  · rw [f0 _ (by decide), ne _ (by decide)]; exact q8
  · rw [f0 _ (by decide), ne _ (by decide)]; exact q9
  · rw [f0 _ (by decide), ne _ (by decide)]; exact q10
  · rw [f0 _ (by decide), ep]; exact q11
  · rw [f0 _ (by decide), ne _ (by decide)]; exact q12
  · rw [f0 _ (by decide), ne _ (by decide)]; exact q13
  · rw [f0 _ (by decide), ne _ (by decide)]; exact q14
  · rw [fr _ _ (by decide), ne _ (by omega)]; exact qs i hi
  · rw [fr _ _ (by omega), ne _ (by omega)]; exact (qc c hc).1 w hw
  · rw [fr _ _ (by omega), en]; exact (qc c hc).2 w hw
  · rw [fr _ _ (by omega), ne _ (by omega)]; exact (qo o ho).1 w hw h3
  · rw [fr _ _ (by omega), ne _ (by omega)]; exact (qo o ho).2.1
  · rw [fr _ _ (by omega), e4, ne _ (by omega)]; exact (qo o ho).2.2
  · rw [fr _ _ (by omega), ne _ (by omega)]; exact (qp p hp).1
  · rw [fr _ _ (by omega), ne _ (by omega)]; exact (qp p hp).2.1 w h1 hw
  · rw [fr _ _ (by omega), ne _ (by omega)]; exact (qp p hp).2.2 o ho
end ADDP
