/-! SEMANTICS: append -/
section APPEND
theorem code12 {k : Nat} {w : Int32} {μ : PM} (h : (if k = 1 then some (1 : Int32) else if k = 2 then some 2 else none) = some w) : (if k = 1 then some (.inl (some (.int 1)), μ) else if k = 2 then some (.inl (some (.int 2)), μ) else some (.inr k, μ) : Option PO) = rI w μ := by
  by_cases q : k = 1
  · rw [if_pos q] at h ⊢
    cases h
    rfl
  · rw [if_neg q] at h ⊢
    by_cases q1 : k = 2
    · rw [if_pos q1] at h ⊢
      cases h
      rfl
    · rw [if_neg q1] at h
      cases h
/-- a code that is a sign, or not -/
theorem sign (x : Int32) : (∃ i, 33 ≤ i ∧ i < 127 ∧ x = Int32.ofNat i) ∨ (x < 33 ∨ (33 ≤ x ∧ 126 < x)) := by
  by_cases h0 : x < 33
  · exact Or.inr (Or.inl h0)
  · have h1 : (33 : Int32) ≤ x := Int32.not_lt.mp h0
    have h2 : (0 : Int32) ≤ x := Int32.le_trans (by decide) h1
    obtain ⟨h3, h4⟩ := i3_toNat h2
    by_cases h5 : x.toNatClampNeg < 127
    · refine Or.inl ⟨_, ?_, h5, h3⟩
      rw [h3] at h1
      have h6 : Int32.ofNat 33 ≤ Int32.ofNat x.toNatClampNeg := h1
      rw [i3_le (by decide) h4] at h6
      exact h6
    · refine Or.inr (Or.inr ⟨h1, ?_⟩)
      rw [h3]
      exact lt_y (a := 126) (by omega) h4
theorem o_append (x : Int32) : Op (d_Lw_append x) (d_Md_append x) := by
  intro N μ _ hJ
  have hJ0 := hJ
  obtain ⟨z, old, sv, zs, n, s, h1, h2, h3, h4, h5, h6, t1, t2, t3, t4⟩ := hJ
  rcases sign x with ⟨i, i1, i2, rfl⟩ | hx
  · have hin : ∀ ν : PM, d_Oc_requireInRange (Int32.ofNat i) 33 126 ν = some (.inl none, ν) := fun ν => reqR_y (a := 33) (n := 126) i1 i2 (by decide)
    have hw : ∀ ν : PM, d_Md_within (Int32.ofNat i) 33 126 ν = rI 1 ν := fun ν => with_y (a := 33) (n := 126) i1 i2 (by decide)
    by_cases hn : n < 60
    · have m15 : mI (stI (stJ (stI (stI μ 4 n (Int32.ofNat i)) 3 1 (Int32.ofNat (n + 1))) 22 0 (Int32.ofNat (n + 1)).toInt64) 12 16 0) 12 15 = Int32.ofNat n := by
        rw [st_get, if_neg (by decide)]
        show mI (stI (stI μ 4 n (Int32.ofNat i)) 3 1 (Int32.ofNat (n + 1))) 12 15 = _
        rw [stI_ne _ _ _ (by decide), stI_ne _ _ _ (by decide), t3.1]
      refine ⟨0, Int32.ofNat (n + 1), stJ (stI (stI μ 4 n (Int32.ofNat i)) 3 1 (Int32.ofNat (n + 1))) 22 0 (Int32.ofNat (n + 1)).toInt64, stI (stI (stI (stJ (stI (stI μ 4 n (Int32.ofNat i)) 3 1 (Int32.ofNat (n + 1))) 22 0 (Int32.ofNat (n + 1)).toInt64) 12 16 0) 16 n (Int32.ofNat i)) 12 15 (Int32.ofNat (n + 1)), ?_, ?_, ?_, fun _ => rfl, (hJ0.txt (n' := n + 1) (s' := setN s n i) (fun y hy => ?_) ?_ ⟨by omega, ?_, ⟨?_, ?_⟩, fun j hj => ⟨?_, ?_, ?_⟩⟩).mono (by omega), Nat.le_add_right _ _, rfl, ?_, rfl, ?_⟩
      · rw [e_Lw_append, e_Oc_append, hin, bV_r, t2, if_neg (show ¬ (60 : Int32) ≤ Int32.ofNat n from le_n (a := 60) hn (by decide)), reqS_y (by decide), bV_r, t2, chk_t (i3_inb hn (by decide)), i3_nat (by omega), i3_add1]
        rfl
      · rw [e_Md_append, hw, bI_r, if_pos (by decide), m15, if_pos (fun q => by rw [show (60 : Int32) = Int32.ofNat 60 from rfl, i3_eq (by omega) (by decide)] at q; omega), chk_t (i3_inb hn (by decide)), i3_nat (by omega), i3_add1]
      · rw [st_get, if_neg (by decide), stI_ne _ _ _ (by decide), st_get, if_pos ⟨rfl, rfl⟩]
      · rw [stI_ne _ _ _ (by omega), stI_ne _ _ _ (by omega), stI_ne _ _ _ (by omega)]
        show mI (stI (stI μ 4 n (Int32.ofNat i)) 3 1 (Int32.ofNat (n + 1))) y = _
        rw [stI_ne _ _ _ (by omega), stI_ne _ _ _ (by omega)]
      · rw [st_get, if_neg (by decide), stI_ne _ _ _ (by decide), st_get, if_neg (by decide)]
        show mI (stI (stI μ 4 n (Int32.ofNat i)) 3 1 (Int32.ofNat (n + 1))) 12 14 = _
        rw [stI_ne _ _ _ (by decide), stI_ne _ _ _ (by decide)]
      · rw [stI_ne _ _ _ (by decide), stI_ne _ _ _ (by decide), stI_ne _ _ _ (by decide)]
        show mI (stI (stI μ 4 n (Int32.ofNat i)) 3 1 (Int32.ofNat (n + 1))) 3 1 = _
        rw [st_get, if_pos ⟨rfl, rfl⟩]
      · rw [st_get, if_pos ⟨rfl, rfl⟩]
      · rw [stI_ne _ _ _ (by decide), stI_ne _ _ _ (by decide), stI_ne _ _ _ (by decide)]
        show mI (stI (stI μ 4 n (Int32.ofNat i)) 3 1 (Int32.ofNat (n + 1))) 21 0 = _
        rw [stI_ne _ _ _ (by decide), stI_ne _ _ _ (by decide)]
        exact t3.2
      · rw [stI_ne _ _ _ (by decide), stI_ne _ _ _ (by decide), stI_ne _ _ _ (by decide)]
        show mI (stI (stI μ 4 n (Int32.ofNat i)) 3 1 (Int32.ofNat (n + 1))) 4 j = _
        rw [stI_ne _ _ _ (by decide), st_get]
        by_cases e : j = n
        · rw [if_pos ⟨rfl, e⟩, e, setN_self]
        · rw [if_neg (fun q => e q.2), setN_ne e]
          exact (t4 j (by omega)).1
      · rw [stI_ne _ _ _ (by decide), st_get]
        by_cases e : j = n
        · rw [if_pos ⟨rfl, e⟩, e, setN_self]
        · rw [if_neg (fun q => e q.2), setN_ne e, stI_ne _ _ _ (by decide)]
          show mI (stI (stI μ 4 n (Int32.ofNat i)) 3 1 (Int32.ofNat (n + 1))) 16 j = _
          rw [stI_ne _ _ _ (by decide), stI_ne _ _ _ (by decide)]
          exact (t4 j (by omega)).2.1
      · by_cases e : j = n
        · rw [e, setN_self]; omega
        · rw [setN_ne e]; exact (t4 j (by omega)).2.2
      · rw [stI_ne _ _ _ (by decide), stI_ne _ _ _ (by decide), stI_ne _ _ _ (by decide)]
        show mI (stI (stI μ 4 n (Int32.ofNat i)) 3 1 (Int32.ofNat (n + 1))) 390 = _
        rw [stI_ne _ _ _ (by decide), stI_ne _ _ _ (by decide)]
      · show mI (stI (stI μ 4 n (Int32.ofNat i)) 3 1 (Int32.ofNat (n + 1))) 390 = _
        rw [stI_ne _ _ _ (by decide), stI_ne _ _ _ (by decide)]
    · have e60 : n = 60 := by omega
      subst e60
      refine ⟨2, 0, exM μ, stI (stI (exM μ) 12 16 0) 12 16 2, ?_, ?_, ?_, fun q => absurd q (by decide), (Jn.same (Sm.ex.trans (Sm.thr.trans Sm.thr)) hJ0).mono (by omega), ?_, rfl, ?_, rfl, rfl⟩
      · rw [e_Lw_append, e_Oc_append, hin, bV_r, t2, if_pos (by decide), reqS_n]
        rfl
      · have m15 : mI (stI (exM μ) 12 16 0) 12 15 = Int32.ofNat 60 := by
          rw [st_get, if_neg (by decide)]
          exact t3.1
        rw [e_Md_append, hw, bI_r, if_pos (by decide), m15, if_neg (fun q => q rfl), e_Md_fails]
        rfl
      · rw [st_get, if_pos ⟨rfl, rfl⟩]
      · show μ.2.2.2 + 1 ≤ μ.2.2.2 + 3
        omega
      · rw [stI_ne _ _ _ (by decide), stI_ne _ _ _ (by decide)]; rfl
  · refine ⟨1, 0, exM μ, stI (stI (exM μ) 12 16 0) 12 16 1, ?_, ?_, ?_, fun q => absurd q (by decide), (Jn.same (Sm.ex.trans (Sm.thr.trans Sm.thr)) hJ0).mono (by omega), ?_, rfl, ?_, rfl, rfl⟩
    · rw [e_Lw_append, e_Oc_append, e_Oc_requireInRange]
      rcases hx with hx | ⟨hx1, hx2⟩
      · rw [if_pos hx]; rfl
      · rw [if_neg (Int32.not_lt.mpr hx1), if_neg (Int32.not_le.mpr hx2)]; rfl
    · rw [e_Md_append, e_Md_within]
      rcases hx with hx | ⟨hx1, hx2⟩
      · rw [if_pos hx]
        show bI (rI 0 (stI (exM μ) 12 16 0)) _ = _
        rw [bI_r, if_neg (fun q => q rfl), e_Md_fails]
        rfl
      · rw [if_neg (Int32.not_lt.mpr hx1), if_pos hx2]
        show bI (rI 0 (stI (exM μ) 12 16 0)) _ = _
        rw [bI_r, if_neg (fun q => q rfl), e_Md_fails]
        rfl
    · rw [st_get, if_pos ⟨rfl, rfl⟩]
    · show μ.2.2.2 + 1 ≤ μ.2.2.2 + 3
      omega
    · rw [stI_ne _ _ _ (by decide), stI_ne _ _ _ (by decide)]; rfl
end APPEND
