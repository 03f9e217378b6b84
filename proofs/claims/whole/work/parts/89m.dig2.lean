/-! SEMANTICS: the digest's loops -/
section DIG2
variable {z : Nat → Nat} {sv n N : Nat} {s : Nat → Nat} {μ μ1 : PM}
theorem dg_corner {c : Nat} (hk : Okz N z) (hc : c < z 0) : DgS z sv n s (d_Oc_withCorner · (Int32.ofNat c)) rJ (Md_digest_77 (Int32.ofNat c) 0) (Md_digest_65 (Int32.ofNat (c + 1)) (.int 6)) := by
  have hb := hk.1.nc
  have h0 : ∀ X0, DgS z sv n s (fun X μ => Oc_withCorner_6 X0 (Int32.ofNat c) X (Int32.ofNat 0) μ) (fun X μ => Oc_withCorner_6 X0 (Int32.ofNat c) X (Int32.ofNat 6) μ) (fun μ => Md_digest_77 (Int32.ofNat c) (Int32.ofNat 0) μ) (fun μ => Md_digest_77 (Int32.ofNat c) (Int32.ofNat 6) μ) := fun X0 =>
    DgS.up (f := fun i X μ => Oc_withCorner_6 X0 (Int32.ofNat c) X (Int32.ofNat i) μ) (g := fun i μ => Md_digest_77 (Int32.ofNat c) (Int32.ofNat i) μ) (k := 6) (fun i hi => DgS.val (va_corner hk hc hi) (fun X μ _ => by
      show Oc_withCorner_6 _ _ _ _ _ = _
      rw [Oc_withCorner_6_eq, if_neg (show ¬ (6 : Int32) ≤ Int32.ofNat i from le_n (a := 6) hi (by decide)), i3_add1]) (fun μ _ => by
      show Md_digest_77 _ _ _ = _
      rw [Md_digest_77_eq, if_neg (show ¬ (6 : Int32) ≤ Int32.ofNat i from le_n (a := 6) hi (by decide)), i3_add1]))
  have h1 : ∀ X0, DgS z sv n s (fun X μ => Oc_withCorner_6 X0 (Int32.ofNat c) X (Int32.ofNat 0) μ) rJ (fun μ => Md_digest_77 (Int32.ofNat c) (Int32.ofNat 0) μ) (Md_digest_65 (Int32.ofNat (c + 1)) (.int 6)) := fun X0 => (h0 X0).tr (DgS.eqv (fun X μ _ => by
    show Oc_withCorner_6 _ _ _ _ _ = _
    rw [Oc_withCorner_6_eq, if_pos (by decide)]) (fun μ _ => by
    show Md_digest_77 _ _ _ = _
    rw [Md_digest_77_eq, if_pos (by decide), i3_add1]
    rfl))
  exact (DgS.eqv (fun X μ _ => e_Oc_withCorner X (Int32.ofNat c) μ) (fun _ _ => rfl)).tr (DgS.fr (f := fun X0 X μ => Oc_withCorner_6 X0 (Int32.ofNat c) X (Int32.ofNat 0) μ) h1)
theorem dg_organ {o : Nat} (hk : Okz N z) (ho : o < z 1) : DgS z sv n s (d_Oc_withOrgan · (Int32.ofNat o)) rJ (d_Md_mixOrgan (Int32.ofNat o)) rV := by
  have h0 : ∀ X0, DgS z sv n s (fun X μ => Oc_withOrgan_6 X0 (Int32.ofNat o) X (Int32.ofNat 0) μ) (fun X μ => Oc_withOrgan_6 X0 (Int32.ofNat o) X (Int32.ofNat 9) μ) (fun μ => Md_mixOrgan_2 (Int32.ofNat o) (Int32.ofNat 0) μ) (fun μ => Md_mixOrgan_2 (Int32.ofNat o) (Int32.ofNat 9) μ) := fun X0 =>
    DgS.up (f := fun i X μ => Oc_withOrgan_6 X0 (Int32.ofNat o) X (Int32.ofNat i) μ) (g := fun i μ => Md_mixOrgan_2 (Int32.ofNat o) (Int32.ofNat i) μ) (k := 9) (fun i hi => DgS.val (va_organ hk ho hi) (fun X μ _ => by
      show Oc_withOrgan_6 _ _ _ _ _ = _
      rw [Oc_withOrgan_6_eq, if_neg (show ¬ (9 : Int32) ≤ Int32.ofNat i from le_n (a := 9) hi (by decide)), i3_add1]) (fun μ _ => by
      show Md_mixOrgan_2 _ _ _ = _
      rw [Md_mixOrgan_2_eq, if_neg (show ¬ (9 : Int32) ≤ Int32.ofNat i from le_n (a := 9) hi (by decide)), i3_add1]))
  have h1 : ∀ X0, DgS z sv n s (fun X μ => Oc_withOrgan_6 X0 (Int32.ofNat o) X (Int32.ofNat 9) μ) (fun X μ => Oc_withOrgan_37 X0 (Int32.ofNat o) X (Int32.ofNat 0) μ) (fun μ => Md_mixOrgan_2 (Int32.ofNat o) (Int32.ofNat 9) μ) (fun μ => Md_mixOrgan_27 (Int32.ofNat o) (Int32.ofNat 0) μ) := fun X0 => DgS.eqv (fun X μ _ => by
    show Oc_withOrgan_6 _ _ _ _ _ = _
    rw [Oc_withOrgan_6_eq, if_pos (by decide)]
    rfl) (fun μ _ => by
    show Md_mixOrgan_2 _ _ _ = _
    rw [Md_mixOrgan_2_eq, if_pos (by decide)]
    rfl)
  have h2 : ∀ X0, DgS z sv n s (fun X μ => Oc_withOrgan_37 X0 (Int32.ofNat o) X (Int32.ofNat 0) μ) (fun X μ => Oc_withOrgan_37 X0 (Int32.ofNat o) X (Int32.ofNat 10) μ) (fun μ => Md_mixOrgan_27 (Int32.ofNat o) (Int32.ofNat 0) μ) (fun μ => Md_mixOrgan_27 (Int32.ofNat o) (Int32.ofNat 10) μ) := fun X0 =>
    DgS.up (f := fun i X μ => Oc_withOrgan_37 X0 (Int32.ofNat o) X (Int32.ofNat i) μ) (g := fun i μ => Md_mixOrgan_27 (Int32.ofNat o) (Int32.ofNat i) μ) (k := 10) (fun i hi => DgS.val (va_whyNot hk ho hi) (fun X μ _ => by
      show Oc_withOrgan_37 _ _ _ _ _ = _
      rw [Oc_withOrgan_37_eq, if_neg (show ¬ (10 : Int32) ≤ Int32.ofNat i from le_n (a := 10) hi (by decide)), i3_add1]) (fun μ _ => by
      show Md_mixOrgan_27 _ _ _ = _
      rw [Md_mixOrgan_27_eq, if_neg (show ¬ (10 : Int32) ≤ Int32.ofNat i from le_n (a := 10) hi (by decide)), i3_add1]))
  have h3 : ∀ X0, DgS z sv n s (fun X μ => Oc_withOrgan_37 X0 (Int32.ofNat o) X (Int32.ofNat 10) μ) (fun X μ => bI (d_Oc_kindestTune (Int32.ofNat o) μ) (fun v μ1 => bJ (d_Oc_mixed X v.toInt64 μ1) (fun w μ3 => rJ w μ3))) (fun μ => Md_mixOrgan_27 (Int32.ofNat o) (Int32.ofNat 10) μ) (fun μ => bI (d_Md_kindestNow (Int32.ofNat o) μ) (fun v μ1 => bV (d_Md_mix v.toInt64 μ1) (fun μ3 => rV μ3))) := fun X0 => DgS.val (va_ifPlayed hk ho) (fun X μ _ => by
      show Oc_withOrgan_37 _ _ _ _ _ = _
      rw [Oc_withOrgan_37_eq, if_pos (by decide)]) (fun μ _ => by
      show Md_mixOrgan_27 _ _ _ = _
      rw [Md_mixOrgan_27_eq, if_pos (by decide)]
      rfl)
  have h4 : DgS z sv n s (fun X μ => bI (d_Oc_kindestTune (Int32.ofNat o) μ) (fun v μ1 => bJ (d_Oc_mixed X v.toInt64 μ1) (fun w μ3 => rJ w μ3))) rJ (fun μ => bI (d_Md_kindestNow (Int32.ofNat o) μ) (fun v μ1 => bV (d_Md_mix v.toInt64 μ1) (fun μ3 => rV μ3))) rV := DgS.val (va_kindest hk ho) (fun _ _ _ => rfl) (fun _ _ => rfl)
  exact (DgS.eqv (fun X μ _ => e_Oc_withOrgan X (Int32.ofNat o) μ) (fun μ _ => e_Md_mixOrgan (Int32.ofNat o) μ)).tr (DgS.fr (f := fun X0 X μ => Oc_withOrgan_6 X0 (Int32.ofNat o) X (Int32.ofNat 0) μ) (fun X0 => ((((h0 X0).tr (h1 X0)).tr (h2 X0)).tr (h3 X0)).tr h4))
theorem dg_player {p : Nat} (hk : Okz N z) (hN : N ≤ 20020) (hp : p < z 2) : DgS z sv n s (d_Oc_withPlayer · (Int32.ofNat p)) rJ (d_Md_mixPlayer (Int32.ofNat p)) rV := by
  have hno := hk.1.no
  have h0 : ∀ X0, DgS z sv n s (fun X μ => Oc_withPlayer_6 X0 (Int32.ofNat p) X (Int32.ofNat 0) μ) (fun X μ => Oc_withPlayer_6 X0 (Int32.ofNat p) X (Int32.ofNat 5) μ) (fun μ => Md_mixPlayer_2 (Int32.ofNat p) (Int32.ofNat 0) μ) (fun μ => Md_mixPlayer_2 (Int32.ofNat p) (Int32.ofNat 5) μ) := fun X0 =>
    DgS.up (f := fun i X μ => Oc_withPlayer_6 X0 (Int32.ofNat p) X (Int32.ofNat i) μ) (g := fun i μ => Md_mixPlayer_2 (Int32.ofNat p) (Int32.ofNat i) μ) (k := 5) (fun i hi => DgS.val (va_player hk hp hi) (fun X μ _ => by
      show Oc_withPlayer_6 _ _ _ _ _ = _
      rw [Oc_withPlayer_6_eq, if_neg (show ¬ (5 : Int32) ≤ Int32.ofNat i from le_n (a := 5) hi (by decide)), i3_add1]) (fun μ _ => by
      show Md_mixPlayer_2 _ _ _ = _
      rw [Md_mixPlayer_2_eq, if_neg (show ¬ (5 : Int32) ≤ Int32.ofNat i from le_n (a := 5) hi (by decide)), i3_add1]))
  have h1 : ∀ X0, DgS z sv n s (fun X μ => Oc_withPlayer_6 X0 (Int32.ofNat p) X (Int32.ofNat 5) μ) (fun X μ => Oc_withPlayer_36 X0 (Int32.ofNat p) X (Int32.ofNat 0) μ) (fun μ => Md_mixPlayer_2 (Int32.ofNat p) (Int32.ofNat 5) μ) (fun μ => Md_mixPlayer_26 (Int32.ofNat p) (Int32.ofNat 0) μ) := fun X0 => DgS.eqv (fun X μ _ => by
    show Oc_withPlayer_6 _ _ _ _ _ = _
    rw [Oc_withPlayer_6_eq, if_pos (by decide)]
    rfl) (fun μ _ => by
    show Md_mixPlayer_2 _ _ _ = _
    rw [Md_mixPlayer_2_eq, if_pos (by decide)]
    rfl)
  have h2 : ∀ X0, DgS z sv n s (fun X μ => Oc_withPlayer_36 X0 (Int32.ofNat p) X (Int32.ofNat 0) μ) (fun X μ => Oc_withPlayer_36 X0 (Int32.ofNat p) X (Int32.ofNat (z 1)) μ) (fun μ => Md_mixPlayer_26 (Int32.ofNat p) (Int32.ofNat 0) μ) (fun μ => Md_mixPlayer_26 (Int32.ofNat p) (Int32.ofNat (z 1)) μ) := fun X0 =>
    DgS.up (f := fun i X μ => Oc_withPlayer_36 X0 (Int32.ofNat p) X (Int32.ofNat i) μ) (g := fun i μ => Md_mixPlayer_26 (Int32.ofNat p) (Int32.ofNat i) μ) (k := z 1) (fun i hi => DgS.val (va_hours hk hp hi) (fun X μ hc => by
      show Oc_withPlayer_36 _ _ _ _ _ = _
      rw [Oc_withPlayer_36_eq, r_f5 hc.1, if_neg (le_n hi (by omega)), i3_add1]) (fun μ hm => by
      show Md_mixPlayer_26 _ _ _ = _
      rw [Md_mixPlayer_26_eq, m_h hm.1, if_neg (le_n hi (by omega)), i3_add1]))
  have h3 : ∀ X0, DgS z sv n s (fun X μ => Oc_withPlayer_36 X0 (Int32.ofNat p) X (Int32.ofNat (z 1)) μ) rJ (fun μ => Md_mixPlayer_26 (Int32.ofNat p) (Int32.ofNat (z 1)) μ) rV := fun X0 => DgS.val (va_ended hk hN hp) (fun X μ hc => by
      show Oc_withPlayer_36 _ _ _ _ _ = _
      rw [Oc_withPlayer_36_eq, r_f5 hc.1, if_pos (le_y (Nat.le_refl _) (by omega))]) (fun μ hm => by
      show Md_mixPlayer_26 _ _ _ = _
      rw [Md_mixPlayer_26_eq, m_h hm.1, if_pos (le_y (Nat.le_refl _) (by omega))]
      rfl)
  exact (DgS.eqv (fun X μ _ => e_Oc_withPlayer X (Int32.ofNat p) μ) (fun μ _ => e_Md_mixPlayer (Int32.ofNat p) μ)).tr (DgS.fr (f := fun X0 X μ => Oc_withPlayer_6 X0 (Int32.ofNat p) X (Int32.ofNat 0) μ) (fun X0 => (((h0 X0).tr (h1 X0)).tr (h2 X0)).tr (h3 X0)))
/-- the text behind the share -/
theorem dg_text {w : Value} : DgS z sv n s d_Oc_withText rJ (fun μ => bV (d_Md_mix ((mI μ 12 15 : Int32).toInt64) μ) (fun μ9 => Md_digest_196 0 w μ9)) (fun μ => some (.inl (some (.long (mJ μ 12 17))), μ)) := by
  have hA : ∀ X0, DgS z sv n s (fun X μ => bJ (d_Oc_mixed X (Int32.ofNat n).toInt64 μ) (fun v μ1 => Oc_withText_16 X0 v (Int32.ofNat 0) μ1)) (fun X μ => Oc_withText_16 X0 X (Int32.ofNat 0) μ) (fun μ => bV (d_Md_mix ((mI μ 12 15 : Int32).toInt64) μ) (fun μ9 => Md_digest_196 0 w μ9)) (fun μ => Md_digest_196 (Int32.ofNat 0) w μ) := fun X0 =>
    DgS.val (c := fun μ => rI (Int32.ofNat n) μ) (m := fun μ => rI (Int32.ofNat n) μ) (fun μc _ => ⟨_, μc, rfl, ScC.rf, fun μm _ => ⟨μm, rfl, FrM.rf, rfl⟩⟩) (fun _ _ _ => rfl) (fun μ hm => by
      show bV (d_Md_mix ((mI μ 12 15 : Int32).toInt64) μ) _ = _
      rw [hm.2.2.2.2.2.1]
      rfl)
  have hB : ∀ X0, DgS z sv n s (fun X μ => Oc_withText_16 X0 X (Int32.ofNat 0) μ) (fun X μ => Oc_withText_16 X0 X (Int32.ofNat n) μ) (fun μ => Md_digest_196 (Int32.ofNat 0) w μ) (fun μ => Md_digest_196 (Int32.ofNat n) w μ) := fun X0 =>
    DgS.up (f := fun i X μ => Oc_withText_16 X0 X (Int32.ofNat i) μ) (g := fun i μ => Md_digest_196 (Int32.ofNat i) w μ) (k := n) (fun i hi => DgS.val (c := fun μ => rI (Int32.ofNat (s i)) μ) (m := fun μ => rI (Int32.ofNat (s i)) μ) (fun μc _ => ⟨_, μc, rfl, ScC.rf, fun μm _ => ⟨μm, rfl, FrM.rf, rfl⟩⟩) (fun X μ hc => by
      have hn := hc.2.2.2.2.1
      show Oc_withText_16 _ _ _ _ = _
      rw [Oc_withText_16_eq, hc.2.2.2.2.2.1, if_neg (le_n hi (by omega)), chk_t (i3_inb (by omega) (by decide)), i3_nat (by omega), (hc.2.2.2.2.2.2 i hi).1, i3_add1]
      rfl) (fun μ hm => by
      have hn := hm.2.2.2.2.1
      show Md_digest_196 _ _ _ = _
      rw [Md_digest_196_eq, hm.2.2.2.2.2.1, if_neg (le_n hi (by omega)), chk_t (i3_inb (by omega) (by decide)), i3_nat (by omega), (hm.2.2.2.2.2.2 i hi).1, i3_add1]
      rfl))
  have hC : ∀ X0, DgS z sv n s (fun X μ => Oc_withText_16 X0 X (Int32.ofNat n) μ) rJ (fun μ => Md_digest_196 (Int32.ofNat n) w μ) (fun μ => some (.inl (some (.long (mJ μ 12 17))), μ)) := fun X0 => DgS.eqv (fun X μ hc => by
      have hn := hc.2.2.2.2.1
      show Oc_withText_16 _ _ _ _ = _
      rw [Oc_withText_16_eq, hc.2.2.2.2.2.1, if_pos (le_y (Nat.le_refl _) (by omega))]) (fun μ hm => by
      have hn := hm.2.2.2.2.1
      show Md_digest_196 _ _ _ = _
      rw [Md_digest_196_eq, hm.2.2.2.2.2.1, if_pos (le_y (Nat.le_refl _) (by omega))])
  exact (DgS.eqv (fun X μ hc => by
    show d_Oc_withText X μ = _
    rw [e_Oc_withText, hc.2.2.2.2.2.1]
    rfl) (fun _ _ => rfl)).tr (DgS.fr (f := fun X0 X μ => bJ (d_Oc_mixed X (Int32.ofNat n).toInt64 μ) (fun v μ1 => Oc_withText_16 X0 v (Int32.ofNat 0) μ1)) (fun X0 => ((hA X0).tr (hB X0)).tr (hC X0)))
/-- the two mosts and the share -/
theorem dg_tail {w : Value} (hk : Okz N z) (hN : N ≤ 20020) : DgS z sv n s (fun X μ => Oc_digest_107 X (Int32.ofNat (z 2)) μ) (fun X μ => bJ (d_Oc_withText X μ) (fun v μ1 => rJ v μ1)) (fun μ => Md_digest_131 (Int32.ofNat (z 2)) w μ) (fun μ => bV (d_Md_mix ((mI μ 12 15 : Int32).toInt64) μ) (fun μ9 => Md_digest_196 0 w μ9)) := by
  intro X μc hc
  have hb := hk.1
  have hp := hb.np
  have h8 := hb.big 8 (by decide)
  have ht := hk.2.2.2.1
  have hcons := hk.2.2.2.2.2.2.2.2.2.2.1
  have hle : gotS z ≤ z 8 := by omega
  have hsh := sh_cases hle h8
  have hnn := sh_noNaN hsh
  obtain ⟨r, g1, g2⟩ := x_most hb hk.2.1
  have er : ∀ (i : Nat) (ν : PM), i < 2 → d_Oc_requireInRange (Int32.ofNat i) 0 1 ν = some (.inl none, ν) := fun i ν hi => reqR_y (a := 0) (n := 1) (Nat.zero_le _) (by omega) (by decide)
  have hm0 : ∀ ν, Cs z sv n s ν → ∃ ν2, d_Oc_most 0 ν = rI (Int32.ofNat r.1) ν2 ∧ ScC ν ν2 := fun ν hν => by
    obtain ⟨μ1, μ2, a1, a2, a3, a4, a5⟩ := g1 ν hν.1
    exact ⟨μ2, by rw [e_Oc_most, show d_Oc_requireInRange 0 0 1 ν = some (.inl none, ν) from er 0 ν (by decide), bV_r, a1, bV_r, a2, bV_r, if_neg (fun q => q rfl), a4], a3⟩
  have hm1 : ∀ ν, Cs z sv n s ν → ∃ ν2, d_Oc_most 1 ν = rI (Int32.ofNat r.2) ν2 ∧ ScC ν ν2 := fun ν hν => by
    obtain ⟨μ1, μ2, a1, a2, a3, a4, a5⟩ := g1 ν hν.1
    exact ⟨μ2, by rw [e_Oc_most, show d_Oc_requireInRange 1 0 1 ν = some (.inl none, ν) from er 1 ν (by decide), bV_r, a1, bV_r, a2, bV_r, if_pos (by decide), a5], a3⟩
  obtain ⟨ν1, a1, a2⟩ := hm0 μc hc
  obtain ⟨ν2, b1, b2⟩ := hm1 ν1 (hc.sc a2)
  have c2 := (hc.sc a2).sc b2
  refine ⟨31 * (31 * (31 * X + (Int32.ofNat r.1).toInt64) + (Int32.ofNat r.2).toInt64) + (shv z).toInt64, ν2, ?_, a2.tr b2, fun μm hm hX => ?_⟩
  · show Oc_digest_107 X (Int32.ofNat (z 2)) μc = _
    rw [Oc_digest_107_eq, r_f6 hc.1, if_pos (le_y (Nat.le_refl _) (by omega)), a1, bI_r, e_Oc_mixed, bJ_r, b1, bI_r, e_Oc_mixed, bJ_r, t_share c2.1 hb ht hle, bDb_r, t_bits hsh, bJ_r, e_Oc_mixed, bJ_r]
  · obtain ⟨μ1, d1, d2, d3, d4, d5⟩ := g2 μm hm.1 hm.2.2.1
    have e : mJ μ1 12 17 = X := by
      have : mJ μ1 = mJ μm := congrArg Prod.fst d2.1
      rw [this]; exact hX
    refine ⟨stJ (stJ (stJ μ1 12 17 (31 * X + (Int32.ofNat r.1).toInt64)) 12 17 (31 * (31 * X + (Int32.ofNat r.1).toInt64) + (Int32.ofNat r.2).toInt64)) 12 17 (31 * (31 * (31 * X + (Int32.ofNat r.1).toInt64) + (Int32.ofNat r.2).toInt64) + (shv z).toInt64), ?_, (FrD.of d2).sj.sj.sj, d3.trans hm.1.symm, hash_get⟩
    show Md_digest_131 (Int32.ofNat (z 2)) w μm = _
    rw [Md_digest_131_eq, m_h hm.1, if_pos (le_y (Nat.le_refl _) (by omega)), d1, bV_r, d4, e_Md_mix, bV_r, e, show mI (stJ μ1 12 17 (31 * X + (Int32.ofNat r.1).toInt64)) 12 10 = Int32.ofNat r.2 from d5, e_Md_mix, bV_r, hash_get, m_share (show mI (stJ (stJ μ1 12 17 _) 12 17 _) 13 = zI z from d3) hb hle, bDb_r, chk_t hnn, e_Md_mix, bV_r, hash_get]
end DIG2
