/-! SEMANTICS: the whole digest -/
section DIG3
variable {z : Nat → Nat} {sv n N : Nat} {s : Nat → Nat} {μ μ1 : PM}
def wC (c : Nat) : Value := if c = 0 then pU else .int 6
theorem dg_all (hk : Okz N z) (hN : N ≤ 20020) : DgS z sv n s (fun X μ => Oc_digest_6 X (Int32.ofNat 0) μ) rJ (fun μ => Md_digest_14 (Int32.ofNat 0) μ) (fun μ => some (.inl (some (.long (mJ μ 12 17))), μ)) := by
  have hb := hk.1
  have hnc := hb.nc
  have hno := hb.no
  have hnp := hb.np
  have h0 : DgS z sv n s (fun X μ => Oc_digest_6 X (Int32.ofNat 0) μ) (fun X μ => Oc_digest_6 X (Int32.ofNat 16) μ) (fun μ => Md_digest_14 (Int32.ofNat 0) μ) (fun μ => Md_digest_14 (Int32.ofNat 16) μ) :=
    DgS.up (f := fun i X μ => Oc_digest_6 X (Int32.ofNat i) μ) (g := fun i μ => Md_digest_14 (Int32.ofNat i) μ) (k := 16) (fun i hi => DgS.val (va_count hk hi) (fun X μ _ => by
      show Oc_digest_6 _ _ _ = _
      rw [Oc_digest_6_eq, if_neg (show ¬ (16 : Int32) ≤ Int32.ofNat i from le_n (a := 16) hi (by decide)), i3_add1]) (fun μ _ => by
      show Md_digest_14 _ _ = _
      rw [Md_digest_14_eq, if_neg (show ¬ (16 : Int32) ≤ Int32.ofNat i from le_n (a := 16) hi (by decide)), i3_add1]))
  have h1 : DgS z sv n s (fun X μ => Oc_digest_6 X (Int32.ofNat 16) μ) (fun X μ => Oc_digest_31 X (Int32.ofNat 0) μ) (fun μ => Md_digest_14 (Int32.ofNat 16) μ) (fun μ => Md_digest_38 (Int32.ofNat 0) μ) := DgS.eqv (fun X μ _ => by
    show Oc_digest_6 _ _ _ = _
    rw [Oc_digest_6_eq, if_pos (by decide)]
    rfl) (fun μ _ => by
    show Md_digest_14 _ _ = _
    rw [Md_digest_14_eq, if_pos (by decide)]
    rfl)
  have h2 : DgS z sv n s (fun X μ => Oc_digest_31 X (Int32.ofNat 0) μ) (fun X μ => Oc_digest_31 X (Int32.ofNat 5) μ) (fun μ => Md_digest_38 (Int32.ofNat 0) μ) (fun μ => Md_digest_38 (Int32.ofNat 5) μ) :=
    DgS.up (f := fun i X μ => Oc_digest_31 X (Int32.ofNat i) μ) (g := fun i μ => Md_digest_38 (Int32.ofNat i) μ) (k := 5) (fun i hi => DgS.val (va_setting hi) (fun X μ _ => by
      show Oc_digest_31 _ _ _ = _
      rw [Oc_digest_31_eq, if_neg (show ¬ (5 : Int32) ≤ Int32.ofNat i from le_n (a := 5) hi (by decide)), i3_add1]) (fun μ hm => by
      have e11 : (11 : Int32) + Int32.ofNat i = Int32.ofNat (11 + i) := i3_add 11 i
      show Md_digest_38 _ _ = _
      rw [Md_digest_38_eq, if_neg (show ¬ (5 : Int32) ≤ Int32.ofNat i from le_n (a := 5) hi (by decide)), i3_add1, e11, chk_t (i3_inb (by omega) (by decide)), i3_nat (by omega), m_h hm.1]
      rfl))
  have h3 : DgS z sv n s (fun X μ => Oc_digest_31 X (Int32.ofNat 5) μ) (fun X μ => Oc_digest_55 X (Int32.ofNat 0) μ) (fun μ => Md_digest_38 (Int32.ofNat 5) μ) (fun μ => Md_digest_65 (Int32.ofNat 0) (wC 0) μ) := DgS.eqv (fun X μ _ => by
    show Oc_digest_31 _ _ _ = _
    rw [Oc_digest_31_eq, if_pos (by decide)]
    rfl) (fun μ _ => by
    show Md_digest_38 _ _ = _
    rw [Md_digest_38_eq, if_pos (by decide)]
    rfl)
  have h4 : DgS z sv n s (fun X μ => Oc_digest_55 X (Int32.ofNat 0) μ) (fun X μ => Oc_digest_55 X (Int32.ofNat (z 0)) μ) (fun μ => Md_digest_65 (Int32.ofNat 0) (wC 0) μ) (fun μ => Md_digest_65 (Int32.ofNat (z 0)) (wC (z 0)) μ) :=
    DgS.up (f := fun i X μ => Oc_digest_55 X (Int32.ofNat i) μ) (g := fun i μ => Md_digest_65 (Int32.ofNat i) (wC i) μ) (k := z 0) (fun i hi => DgS.call (A := (d_Oc_withCorner · (Int32.ofNat i))) ((DgS.eqv (fun _ _ _ => rfl) (fun μ hm => by
      show Md_digest_65 _ _ _ = Md_digest_77 (Int32.ofNat i) 0 μ
      rw [Md_digest_65_eq, m_h hm.1, if_neg (le_n hi (by omega))])).tr (dg_corner hk hi)) (fun X μ hc => by
      show Oc_digest_55 _ _ _ = _
      rw [Oc_digest_55_eq, r_f4 hc.1, if_neg (le_n hi (by omega)), i3_add1]))
  have h5 : DgS z sv n s (fun X μ => Oc_digest_55 X (Int32.ofNat (z 0)) μ) (fun X μ => Oc_digest_81 X (Int32.ofNat 0) μ) (fun μ => Md_digest_65 (Int32.ofNat (z 0)) (wC (z 0)) μ) (fun μ => Md_digest_108 (Int32.ofNat 0) (wC (z 0)) μ) := DgS.eqv (fun X μ hc => by
    show Oc_digest_55 _ _ _ = _
    rw [Oc_digest_55_eq, r_f4 hc.1, if_pos (le_y (Nat.le_refl _) (by omega))]
    rfl) (fun μ hm => by
    show Md_digest_65 _ _ _ = _
    rw [Md_digest_65_eq, m_h hm.1, if_pos (le_y (Nat.le_refl _) (by omega))]
    rfl)
  have h6 : DgS z sv n s (fun X μ => Oc_digest_81 X (Int32.ofNat 0) μ) (fun X μ => Oc_digest_81 X (Int32.ofNat (z 1)) μ) (fun μ => Md_digest_108 (Int32.ofNat 0) (wC (z 0)) μ) (fun μ => Md_digest_108 (Int32.ofNat (z 1)) (wC (z 0)) μ) :=
    DgS.up (f := fun i X μ => Oc_digest_81 X (Int32.ofNat i) μ) (g := fun i μ => Md_digest_108 (Int32.ofNat i) (wC (z 0)) μ) (k := z 1) (fun i hi => DgS.callM (B := d_Md_mixOrgan (Int32.ofNat i)) (DgS.call (A := (d_Oc_withOrgan · (Int32.ofNat i))) (dg_organ hk hi) (fun X μ hc => by
      show Oc_digest_81 _ _ _ = _
      rw [Oc_digest_81_eq, r_f5 hc.1, if_neg (le_n hi (by omega)), i3_add1])) (fun μ hm => by
      show Md_digest_108 _ _ _ = _
      rw [Md_digest_108_eq, m_h hm.1, if_neg (le_n hi (by omega)), i3_add1]))
  have h7 : DgS z sv n s (fun X μ => Oc_digest_81 X (Int32.ofNat (z 1)) μ) (fun X μ => Oc_digest_107 X (Int32.ofNat 0) μ) (fun μ => Md_digest_108 (Int32.ofNat (z 1)) (wC (z 0)) μ) (fun μ => Md_digest_131 (Int32.ofNat 0) (wC (z 0)) μ) := DgS.eqv (fun X μ hc => by
    show Oc_digest_81 _ _ _ = _
    rw [Oc_digest_81_eq, r_f5 hc.1, if_pos (le_y (Nat.le_refl _) (by omega))]
    rfl) (fun μ hm => by
    show Md_digest_108 _ _ _ = _
    rw [Md_digest_108_eq, m_h hm.1, if_pos (le_y (Nat.le_refl _) (by omega))]
    rfl)
  have h8 : DgS z sv n s (fun X μ => Oc_digest_107 X (Int32.ofNat 0) μ) (fun X μ => Oc_digest_107 X (Int32.ofNat (z 2)) μ) (fun μ => Md_digest_131 (Int32.ofNat 0) (wC (z 0)) μ) (fun μ => Md_digest_131 (Int32.ofNat (z 2)) (wC (z 0)) μ) :=
    DgS.up (f := fun i X μ => Oc_digest_107 X (Int32.ofNat i) μ) (g := fun i μ => Md_digest_131 (Int32.ofNat i) (wC (z 0)) μ) (k := z 2) (fun i hi => DgS.callM (B := d_Md_mixPlayer (Int32.ofNat i)) (DgS.call (A := (d_Oc_withPlayer · (Int32.ofNat i))) (dg_player hk hN hi) (fun X μ hc => by
      show Oc_digest_107 _ _ _ = _
      rw [Oc_digest_107_eq, r_f6 hc.1, if_neg (le_n hi (by omega)), i3_add1])) (fun μ hm => by
      show Md_digest_131 _ _ _ = _
      rw [Md_digest_131_eq, m_h hm.1, if_neg (le_n hi (by omega)), i3_add1]))
  exact ((((((((h0.tr h1).tr h2).tr h3).tr h4).tr h5).tr h6).tr h7).tr h8).tr ((dg_tail hk hN).tr (DgS.call dg_text (fun _ _ _ => rfl)))
/-- the law's two calls -/
theorem o_digest (hN : N ≤ 20000) (hJ : Jn N μ) : ∃ (v : Int64) (μ1 μ2 : PM), d_Oc_digest μ = rJ v μ1 ∧ d_Md_digest μ1 = rJ v μ2 ∧ Jn (N + 20) μ2 ∧ μ2.2.2 = μ.2.2 ∧ mI μ2 390 = mI μ 390 := by
  have hJ0 := hJ
  obtain ⟨z, old, sv, zs, n, s, h1, h2, h3, h4, h5, h6, t1, t2, ⟨t3, t31⟩, t4⟩ := hJ
  have hc : Cs z sv n s μ := ⟨h2, h4.2.2.2.1, h1, h5.2.1, t1, t2, fun i hi => ⟨(t4 i hi).1, (t4 i hi).2.2⟩⟩
  obtain ⟨X, μ1, a1, a2, a3⟩ := dg_all h3 (by omega) 2297 μ hc
  have e12 : mI μ1 12 = mI μ 12 := a2.2 12 (by decide)
  have hm : Ms z sv n s (stJ (stI μ1 12 16 0) 12 17 2297) := ⟨by
    show mI (stI μ1 12 16 0) 13 = _
    rw [stI_ne _ _ _ (by decide), a2.2 13 (by decide)]; exact h1, by
    show mI (stI μ1 12 16 0) 12 14 = _
    rw [st_get, if_neg (by decide), e12]; exact h5.2.1, by
    show mI (stI μ1 12 16 0) 21 0 = _
    rw [stI_ne _ _ _ (by decide), a2.2 21 (by decide)]; exact t31, by
    show mI (stI μ1 12 16 0) 12 16 = _
    rw [st_get, if_pos ⟨rfl, rfl⟩], t1, by
    show mI (stI μ1 12 16 0) 12 15 = _
    rw [st_get, if_neg (by decide), e12]; exact t3, fun i hi => by
    show mI (stI μ1 12 16 0) 16 i = _ ∧ _
    rw [stI_ne _ _ _ (by decide), a2.2 16 (by decide)]; exact ⟨(t4 i hi).2.1, (t4 i hi).2.2⟩⟩
  obtain ⟨μ2, b1, b2, b3, b4⟩ := a3 _ hm hash_get
  have b1' : Md_digest_14 0 (stJ (stI μ1 12 16 0) 12 17 2297) = some (.inl (some (.long (mJ μ2 12 17))), μ2) := b1
  have e22 : μ2.2.2 = μ.2.2 := by
    rw [b2.1]
    show μ1.2.2 = _
    rw [a2.1]
  have hI : ∀ x, x ≠ 12 → mI (stJ (stI μ1 12 16 0) 12 17 2297) x = mI μ1 x := fun x hx => stI_ne _ _ _ hx
  have hI2 : ∀ j, j ≠ 16 → mI (stJ (stI μ1 12 16 0) 12 17 2297) 12 j = mI μ1 12 j := fun j hj => by
    show mI (stI μ1 12 16 0) 12 j = _
    rw [st_get, if_neg (fun q => hj q.2)]
  refine ⟨X, μ1, μ2, ?_, ?_, (Jn.same ⟨fun x hx => ?_, ?_, ?_, ?_⟩ hJ0).mono (by omega), e22, ?_⟩
  · rw [e_Oc_digest]; exact a1
  · rw [e_Md_digest, b1', b4]
  · by_cases q : x = 13
    · rw [q, b3, hI 13 (by decide)]; exact a2.2 13 (by decide)
    · rw [b2.2.1 x (by omega), hI x (by omega)]; exact a2.2 x (by omega)
  · rw [b2.2.2.1 14 (by decide) (by decide), hI2 14 (by decide), e12]
  · rw [b2.2.2.1 15 (by decide) (by decide), hI2 15 (by decide), e12]
  · rw [b2.2.2.2, hI 21 (by decide), a2.2 21 (by decide)]
  · rw [b2.2.1 390 (by decide), hI 390 (by decide), a2.2 390 (by decide)]
end DIG3
