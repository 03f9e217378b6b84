/-! SEMANTICS: the model's reading (rows by states: /wip/whole/genread.py) -/
section READ
variable {μ : PM}
/-- what the reading leaves alone -/
def FrW (e : Nat) (μ μ' : PM) : Prop := μ'.2 = μ.2 ∧ (∀ x, x ≠ 12 → x ≠ 17 → mI μ' x = mI μ x) ∧ (∀ j, (j < 11 ∨ 13 < j) → mI μ' 12 j = mI μ 12 j) ∧ ∀ i, i < e → mI μ' 17 i = mI μ 17 i
theorem FrW.rf {e : Nat} : FrW e μ μ := ⟨rfl, fun _ _ _ => rfl, fun _ _ => rfl, fun _ _ => rfl⟩
theorem FrW.tr {e : Nat} {μ1 μ2 : PM} (h : FrW e μ μ1) (h' : FrW e μ1 μ2) : FrW e μ μ2 := ⟨h'.1.trans h.1, fun x h1 h2 => (h'.2.1 x h1 h2).trans (h.2.1 x h1 h2), fun j h1 => (h'.2.2.1 j h1).trans (h.2.2.1 j h1), fun i hi => (h'.2.2.2 i hi).trans (h.2.2.2 i hi)⟩
theorem FrW.le {e e' : Nat} {μ1 : PM} (h : FrW e' μ μ1) (he : e ≤ e') : FrW e μ μ1 := ⟨h.1, h.2.1, h.2.2.1, fun i hi => h.2.2.2 i (by omega)⟩
theorem FrW.s12 {e j : Nat} {v : Int32} {μ1 : PM} (h : FrW e μ μ1) (hj : 11 ≤ j ∧ j ≤ 13) : FrW e μ (stI μ1 12 j v) := ⟨h.1, fun x h1 h2 => by rw [stI_ne _ _ _ h1]; exact h.2.1 x h1 h2, fun i h1 => by rw [st_get, if_neg (by omega)]; exact h.2.2.1 i h1, fun i hi => by rw [stI_ne _ _ _ (by decide)]; exact h.2.2.2 i hi⟩
theorem FrW.s17 {e j : Nat} {v : Int32} {μ1 : PM} (h : FrW e μ μ1) (hj : e ≤ j) : FrW e μ (stI μ1 17 j v) := ⟨h.1, fun x h1 h2 => by rw [stI_ne _ _ _ h2]; exact h.2.1 x h1 h2, fun i h1 => by rw [stI_ne _ _ _ (by decide)]; exact h.2.2.1 i h1, fun i hi => by rw [st_get, if_neg (by omega)]; exact h.2.2.2 i hi⟩
theorem TxM.fr {n e : Nat} {s : Nat → Nat} {μ1 : PM} (hT : TxM n s μ) (h : FrW e μ μ1) : TxM n s μ1 := ⟨hT.1, by rw [h.2.2.1 15 (by decide)]; exact hT.2.1, fun i hi => by rw [h.2.1 16 (by decide) (by decide)]; exact hT.2.2 i hi⟩
theorem m_take1 {k i c e g : Nat} (hk : k < 5) (h1 : 1 ≤ i) (h2 : i < lenK k) (hc : c < 127) (hst : mI μ 12 12 = Int32.ofNat (stN k i)) (he : mI μ 12 11 = Int32.ofNat e) (he2 : e < 32) (hg : k = 4 → mI μ 12 13 = Int32.ofNat g) :
    (fitN k i c ∧ ∃ μ', d_Md_takes (Int32.ofNat c) μ = rI 1 μ' ∧ FrW e μ μ' ∧ mI μ' 12 13 = mI μ 12 13 ∧ ((i + 1 < lenK k ∧ mI μ' 12 12 = Int32.ofNat (stN k (i + 1)) ∧ mI μ' 12 11 = Int32.ofNat e) ∨ (i + 1 = lenK k ∧ mI μ' 12 12 = 20 ∧ mI μ' 12 11 = Int32.ofNat (e + 1) ∧ mI μ' 17 e = Int32.ofNat (if k = 4 then 10 + 10 * g + (c - 97) else k)))) ∨
    (¬ fitN k i c ∧ ∃ μ', d_Md_takes (Int32.ofNat c) μ = rI 0 μ' ∧ FrW e μ μ') := by
  have hki : (k = 0 ∧ i = 1) ∨ (k = 0 ∧ i = 2) ∨ (k = 0 ∧ i = 3) ∨ (k = 1 ∧ i = 1) ∨ (k = 1 ∧ i = 2) ∨ (k = 2 ∧ i = 1) ∨ (k = 2 ∧ i = 2) ∨ (k = 3 ∧ i = 1) ∨ (k = 3 ∧ i = 2) ∨ (k = 3 ∧ i = 3) ∨ (k = 4 ∧ i = 1) ∨ (k = 4 ∧ i = 2) := by
    rcases (show k = 0 ∨ k = 1 ∨ k = 2 ∨ k = 3 ∨ k = 4 by omega) with rfl | rfl | rfl | rfl | rfl
    · have h3 : i < 4 := h2
      omega
    · have h3 : i < 3 := h2
      omega
    · have h3 : i < 3 := h2
      omega
    · have h3 : i < 4 := h2
      omega
    · have h3 : i < 3 := h2
      omega
  rcases hki with ⟨rfl, rfl⟩ | ⟨rfl, rfl⟩ | ⟨rfl, rfl⟩ | ⟨rfl, rfl⟩ | ⟨rfl, rfl⟩ | ⟨rfl, rfl⟩ | ⟨rfl, rfl⟩ | ⟨rfl, rfl⟩ | ⟨rfl, rfl⟩ | ⟨rfl, rfl⟩ | ⟨rfl, rfl⟩ | ⟨rfl, rfl⟩
  · by_cases q : c = 111
    · subst q
      refine Or.inl ⟨⟨Nat.le_refl _, Nat.le_refl _⟩, _, k_1_y hst, FrW.rf.s12 (by decide), ?_, Or.inl ⟨by decide, ?_, ?_⟩⟩
      · rw [st_get, if_neg (by decide)]
      · rw [st_get, if_pos ⟨rfl, rfl⟩]
        rfl
      · rw [st_get, if_neg (by decide)]
        exact he
    · exact Or.inr ⟨fun r => q (Nat.le_antisymm r.2 r.1), _, k_1_n hst (fun r => q (by rw [show (111 : Int32) = Int32.ofNat 111 from rfl, i3_eq (by omega) (by decide)] at r; exact r)), FrW.rf.s12 (by decide)⟩
  · by_cases q : c = 116
    · subst q
      refine Or.inl ⟨⟨Nat.le_refl _, Nat.le_refl _⟩, _, k_2_y hst, FrW.rf.s12 (by decide), ?_, Or.inl ⟨by decide, ?_, ?_⟩⟩
      · rw [st_get, if_neg (by decide)]
      · rw [st_get, if_pos ⟨rfl, rfl⟩]
        rfl
      · rw [st_get, if_neg (by decide)]
        exact he
    · exact Or.inr ⟨fun r => q (Nat.le_antisymm r.2 r.1), _, k_2_n hst (fun r => q (by rw [show (116 : Int32) = Int32.ofNat 116 from rfl, i3_eq (by omega) (by decide)] at r; exact r)), FrW.rf.s12 (by decide)⟩
  · by_cases q : c = 115
    · subst q
      refine Or.inl ⟨⟨Nat.le_refl _, Nat.le_refl _⟩, _, k_3_y hst he he2, ((FrW.rf.s17 (Nat.le_refl _)).s12 (by decide)).s12 (by decide), ?_, Or.inr ⟨rfl, ?_, ?_, ?_⟩⟩
      · rw [st_get, if_neg (by decide), st_get, if_neg (by decide), stI_ne _ _ _ (by decide)]
      · rw [st_get, if_pos ⟨rfl, rfl⟩]
      · rw [st_get, if_neg (by decide), st_get, if_pos ⟨rfl, rfl⟩]
      · rw [stI_ne _ _ _ (by decide), stI_ne _ _ _ (by decide), st_get, if_pos ⟨rfl, rfl⟩, if_neg (by decide)]
    · exact Or.inr ⟨fun r => q (Nat.le_antisymm r.2 r.1), _, k_3_n hst (fun r => q (by rw [show (115 : Int32) = Int32.ofNat 115 from rfl, i3_eq (by omega) (by decide)] at r; exact r)), FrW.rf.s12 (by decide)⟩
  · by_cases q : c = 101
    · subst q
      refine Or.inl ⟨⟨Nat.le_refl _, Nat.le_refl _⟩, _, k_4_y hst, FrW.rf.s12 (by decide), ?_, Or.inl ⟨by decide, ?_, ?_⟩⟩
      · rw [st_get, if_neg (by decide)]
      · rw [st_get, if_pos ⟨rfl, rfl⟩]
        rfl
      · rw [st_get, if_neg (by decide)]
        exact he
    · exact Or.inr ⟨fun r => q (Nat.le_antisymm r.2 r.1), _, k_4_n hst (fun r => q (by rw [show (101 : Int32) = Int32.ofNat 101 from rfl, i3_eq (by omega) (by decide)] at r; exact r)), FrW.rf.s12 (by decide)⟩
  · by_cases q : c = 116
    · subst q
      refine Or.inl ⟨⟨Nat.le_refl _, Nat.le_refl _⟩, _, k_5_y hst he he2, ((FrW.rf.s17 (Nat.le_refl _)).s12 (by decide)).s12 (by decide), ?_, Or.inr ⟨rfl, ?_, ?_, ?_⟩⟩
      · rw [st_get, if_neg (by decide), st_get, if_neg (by decide), stI_ne _ _ _ (by decide)]
      · rw [st_get, if_pos ⟨rfl, rfl⟩]
      · rw [st_get, if_neg (by decide), st_get, if_pos ⟨rfl, rfl⟩]
      · rw [stI_ne _ _ _ (by decide), stI_ne _ _ _ (by decide), st_get, if_pos ⟨rfl, rfl⟩, if_neg (by decide)]
    · exact Or.inr ⟨fun r => q (Nat.le_antisymm r.2 r.1), _, k_5_n hst (fun r => q (by rw [show (116 : Int32) = Int32.ofNat 116 from rfl, i3_eq (by omega) (by decide)] at r; exact r)), FrW.rf.s12 (by decide)⟩
  · by_cases q : c = 114
    · subst q
      refine Or.inl ⟨⟨Nat.le_refl _, Nat.le_refl _⟩, _, k_6_y hst, FrW.rf.s12 (by decide), ?_, Or.inl ⟨by decide, ?_, ?_⟩⟩
      · rw [st_get, if_neg (by decide)]
      · rw [st_get, if_pos ⟨rfl, rfl⟩]
        rfl
      · rw [st_get, if_neg (by decide)]
        exact he
    · exact Or.inr ⟨fun r => q (Nat.le_antisymm r.2 r.1), _, k_6_n hst (fun r => q (by rw [show (114 : Int32) = Int32.ofNat 114 from rfl, i3_eq (by omega) (by decide)] at r; exact r)), FrW.rf.s12 (by decide)⟩
  · by_cases q : c = 121
    · subst q
      refine Or.inl ⟨⟨Nat.le_refl _, Nat.le_refl _⟩, _, k_7_y hst he he2, ((FrW.rf.s17 (Nat.le_refl _)).s12 (by decide)).s12 (by decide), ?_, Or.inr ⟨rfl, ?_, ?_, ?_⟩⟩
      · rw [st_get, if_neg (by decide), st_get, if_neg (by decide), stI_ne _ _ _ (by decide)]
      · rw [st_get, if_pos ⟨rfl, rfl⟩]
      · rw [st_get, if_neg (by decide), st_get, if_pos ⟨rfl, rfl⟩]
      · rw [stI_ne _ _ _ (by decide), stI_ne _ _ _ (by decide), st_get, if_pos ⟨rfl, rfl⟩, if_neg (by decide)]
    · exact Or.inr ⟨fun r => q (Nat.le_antisymm r.2 r.1), _, k_7_n hst (fun r => q (by rw [show (121 : Int32) = Int32.ofNat 121 from rfl, i3_eq (by omega) (by decide)] at r; exact r)), FrW.rf.s12 (by decide)⟩
  · by_cases q : c = 101
    · subst q
      refine Or.inl ⟨⟨Nat.le_refl _, Nat.le_refl _⟩, _, k_8_y hst, FrW.rf.s12 (by decide), ?_, Or.inl ⟨by decide, ?_, ?_⟩⟩
      · rw [st_get, if_neg (by decide)]
      · rw [st_get, if_pos ⟨rfl, rfl⟩]
        rfl
      · rw [st_get, if_neg (by decide)]
        exact he
    · exact Or.inr ⟨fun r => q (Nat.le_antisymm r.2 r.1), _, k_8_n hst (fun r => q (by rw [show (101 : Int32) = Int32.ofNat 101 from rfl, i3_eq (by omega) (by decide)] at r; exact r)), FrW.rf.s12 (by decide)⟩
  · by_cases q : c = 120
    · subst q
      refine Or.inl ⟨⟨Nat.le_refl _, Nat.le_refl _⟩, _, k_9_y hst, FrW.rf.s12 (by decide), ?_, Or.inl ⟨by decide, ?_, ?_⟩⟩
      · rw [st_get, if_neg (by decide)]
      · rw [st_get, if_pos ⟨rfl, rfl⟩]
        rfl
      · rw [st_get, if_neg (by decide)]
        exact he
    · exact Or.inr ⟨fun r => q (Nat.le_antisymm r.2 r.1), _, k_9_n hst (fun r => q (by rw [show (120 : Int32) = Int32.ofNat 120 from rfl, i3_eq (by omega) (by decide)] at r; exact r)), FrW.rf.s12 (by decide)⟩
  · by_cases q : c = 116
    · subst q
      refine Or.inl ⟨⟨Nat.le_refl _, Nat.le_refl _⟩, _, k_10_y hst he he2, ((FrW.rf.s17 (Nat.le_refl _)).s12 (by decide)).s12 (by decide), ?_, Or.inr ⟨rfl, ?_, ?_, ?_⟩⟩
      · rw [st_get, if_neg (by decide), st_get, if_neg (by decide), stI_ne _ _ _ (by decide)]
      · rw [st_get, if_pos ⟨rfl, rfl⟩]
      · rw [st_get, if_neg (by decide), st_get, if_pos ⟨rfl, rfl⟩]
      · rw [stI_ne _ _ _ (by decide), stI_ne _ _ _ (by decide), st_get, if_pos ⟨rfl, rfl⟩, if_neg (by decide)]
    · exact Or.inr ⟨fun r => q (Nat.le_antisymm r.2 r.1), _, k_10_n hst (fun r => q (by rw [show (116 : Int32) = Int32.ofNat 116 from rfl, i3_eq (by omega) (by decide)] at r; exact r)), FrW.rf.s12 (by decide)⟩
  · by_cases q : c = 58
    · subst q
      refine Or.inl ⟨⟨Nat.le_refl _, Nat.le_refl _⟩, _, k_11_y hst, FrW.rf.s12 (by decide), ?_, Or.inl ⟨by decide, ?_, ?_⟩⟩
      · rw [st_get, if_neg (by decide)]
      · rw [st_get, if_pos ⟨rfl, rfl⟩]
        rfl
      · rw [st_get, if_neg (by decide)]
        exact he
    · exact Or.inr ⟨fun r => q (Nat.le_antisymm r.2 r.1), _, k_11_n hst (fun r => q (by rw [show (58 : Int32) = Int32.ofNat 58 from rfl, i3_eq (by omega) (by decide)] at r; exact r)), FrW.rf.s12 (by decide)⟩
  · by_cases q : 97 ≤ c ∧ c ≤ 106
    · refine Or.inl ⟨q, stI (stI (stI μ 17 e (Int32.ofNat (10 + 10 * g + (c - 97)))) 12 11 (Int32.ofNat (e + 1))) 12 12 20, ?_, ((FrW.rf.s17 (Nat.le_refl _)).s12 (by decide)).s12 (by decide), ?_, Or.inr ⟨rfl, ?_, ?_, ?_⟩⟩
      · have := k_12_y (t := c - 97) hst he he2 (hg rfl) (by omega)
        rw [show 97 + (c - 97) = c by omega] at this
        exact this
      · rw [st_get, if_neg (by decide), st_get, if_neg (by decide), stI_ne _ _ _ (by decide)]
      · rw [st_get, if_pos ⟨rfl, rfl⟩]
      · rw [st_get, if_neg (by decide), st_get, if_pos ⟨rfl, rfl⟩]
      · rw [stI_ne _ _ _ (by decide), stI_ne _ _ _ (by decide), st_get, if_pos ⟨rfl, rfl⟩, if_pos rfl]
    · exact Or.inr ⟨q, _, k_12_n hst (by omega) (by omega), FrW.rf.s12 (by decide)⟩
theorem m_take0 {c e : Nat} (hc : 33 ≤ c) (hc2 : c < 127) (hst : mI μ 12 12 = 0) (he : mI μ 12 11 = Int32.ofNat e) :
    (kdN c < 5 ∧ ∃ μ', d_Md_takes (Int32.ofNat c) μ = rI 1 μ' ∧ FrW e μ μ' ∧ mI μ' 12 12 = Int32.ofNat (stN (kdN c) 1) ∧ mI μ' 12 11 = Int32.ofNat e ∧ (kdN c = 4 → mI μ' 12 13 = Int32.ofNat (c - 48))) ∨
    (kdN c = 5 ∧ ∃ μ', d_Md_takes (Int32.ofNat c) μ = rI 0 μ' ∧ FrW e μ μ') := by

  by_cases q0 : c = 108
  · subst q0
    refine Or.inl ⟨by decide, _, k_0_0 hst, FrW.rf.s12 (by decide), ?_, ?_, fun r => absurd r (by decide)⟩
    · rw [st_get, if_pos ⟨rfl, rfl⟩]; rfl
    · rw [st_get, if_neg (by decide)]; exact he
  by_cases q1 : c = 119
  · subst q1
    refine Or.inl ⟨by decide, _, k_0_1 hst, FrW.rf.s12 (by decide), ?_, ?_, fun r => absurd r (by decide)⟩
    · rw [st_get, if_pos ⟨rfl, rfl⟩]; rfl
    · rw [st_get, if_neg (by decide)]; exact he
  by_cases q2 : c = 100
  · subst q2
    refine Or.inl ⟨by decide, _, k_0_2 hst, FrW.rf.s12 (by decide), ?_, ?_, fun r => absurd r (by decide)⟩
    · rw [st_get, if_pos ⟨rfl, rfl⟩]; rfl
    · rw [st_get, if_neg (by decide)]; exact he
  by_cases q3 : c = 110
  · subst q3
    refine Or.inl ⟨by decide, _, k_0_3 hst, FrW.rf.s12 (by decide), ?_, ?_, fun r => absurd r (by decide)⟩
    · rw [st_get, if_pos ⟨rfl, rfl⟩]; rfl
    · rw [st_get, if_neg (by decide)]; exact he
  by_cases q : 48 ≤ c ∧ c ≤ 52
  · have e4 : kdN c = 4 := by
      unfold kdN
      rw [if_neg q0, if_neg q1, if_neg q2, if_neg q3, if_pos q]
    rw [e4]
    have h := k_0_4 (g := c - 48) hst (by omega)
    rw [show 48 + (c - 48) = c by omega] at h
    refine Or.inl ⟨by decide, _, h, (FrW.rf.s12 (by decide)).s12 (by decide), ?_, ?_, fun _ => ?_⟩
    · rw [st_get, if_pos ⟨rfl, rfl⟩]; rfl
    · rw [st_get, if_neg (by decide), st_get, if_neg (by decide)]; exact he
    · rw [st_get, if_neg (by decide), st_get, if_pos ⟨rfl, rfl⟩]
  · have e5 : kdN c = 5 := by
      unfold kdN
      rw [if_neg q0, if_neg q1, if_neg q2, if_neg q3, if_neg q]
    obtain ⟨v, h⟩ := k_0_n hst q0 q1 q2 q3 hc hc2 (by omega)
    exact Or.inr ⟨e5, _, h, (FrW.rf.s12 (by decide)).s12 (by decide)⟩
variable {n : Nat} {s : Nat → Nat}
theorem m_mid {k st e : Nat} (hk : k < 5) (he2 : e < 32) : ∀ (j i : Nat) (μ : PM), TxM n s μ → i + j = lenK k → 1 ≤ i → 1 ≤ j → st + i ≤ n → mI μ 12 12 = Int32.ofNat (stN k i) → mI μ 12 11 = Int32.ofNat e → (k = 4 → mI μ 12 13 = Int32.ofNat (s st - 48)) →
    (mtc n s k st j i < lenK k ∧ ∃ μ', Md_read_12 (Int32.ofNat (st + i)) μ = rI (Int32.ofNat (st + mtc n s k st j i)) μ' ∧ FrW e μ μ' ∧ (st + mtc n s k st j i = n → mI μ' 12 12 = Int32.ofNat (stN k (mtc n s k st j i)) ∧ mI μ' 12 11 = Int32.ofNat e)) ∨
    (mtc n s k st j i = lenK k ∧ ∃ μ', Md_read_12 (Int32.ofNat (st + i)) μ = Md_read_12 (Int32.ofNat (st + lenK k)) μ' ∧ FrW e μ μ' ∧ mI μ' 12 12 = 20 ∧ mI μ' 12 11 = Int32.ofNat (e + 1) ∧ mI μ' 17 e = Int32.ofNat (ordN s k st)) := by
  obtain ⟨l1, l2⟩ := len_pos k hk
  have l3 : k = 4 → lenK k = 3 := fun q => by rw [q]; rfl
  intro j
  induction j with
  | zero => intro i μ _ _ _ h; exact absurd h (by omega)
  | succ j ih =>
    intro i μ hT hi h1 _ hst h12 h11 hg
    have hn := hT.1
    rw [Md_read_12_eq, hT.2.1]
    by_cases q : n ≤ st + i
    · have em : mtc n s k st (j + 1) i = i := mtc_n (fun r => by omega)
      refine Or.inl ⟨by omega, μ, ?_, FrW.rf, fun _ => ?_⟩
      · rw [if_pos (le_y q (by omega)), em]
      · rw [em]; exact ⟨h12, h11⟩
    · obtain ⟨g1, g2, g3⟩ := hT.2.2 (st + i) (by omega)
      rw [if_neg (le_n (by omega) (by omega)), chk_t (i3_inb (by omega) (by decide)), i3_nat (by omega), g1, i3_add1]
      rcases m_take1 (c := s (st + i)) hk h1 (by omega) (by omega) h12 h11 he2 hg with ⟨f1, μ1, a1, a2, a3, a4⟩ | ⟨f1, μ1, a1, a2⟩
      · have em : mtc n s k st (j + 1) i = mtc n s k st j (i + 1) := mtc_y ⟨by omega, f1⟩
        rw [a1, bI_r, if_neg (by decide), em]
        rcases a4 with ⟨b1, b2, b3⟩ | ⟨b1, b2, b3, b4⟩
        · rcases ih (i + 1) μ1 (hT.fr a2) (by omega) (by omega) (by omega) (by omega) b2 b3 (fun r => by rw [a3]; exact hg r) with ⟨c1, μ2, c2, c3, c4⟩ | ⟨c1, μ2, c2, c3, c4, c5, c6⟩
          · exact Or.inl ⟨c1, μ2, c2, a2.tr c3, c4⟩
          · exact Or.inr ⟨c1, μ2, c2, a2.tr c3, c4, c5, c6⟩
        · have ej : j = 0 := by omega
          subst ej
          refine Or.inr ⟨by show i + 1 = lenK k; omega, μ1, ?_, a2, b2, b3, ?_⟩
          · rw [← b1]
            rfl
          · rw [b4]
            congr 1
            unfold ordN
            by_cases r : k = 4
            · have := l3 r
              rw [if_pos r, if_pos r, show st + i = st + 2 by omega]
            · rw [if_neg r, if_neg r]
      · have em : mtc n s k st (j + 1) i = i := mtc_n (fun r => f1 r.2)
        rw [a1, bI_r, if_pos rfl, em]
        exact Or.inl ⟨by omega, μ1, rfl, a2, fun r => absurd r (by omega)⟩
theorem m_read12 : ∀ (f st e : Nat) (μ : PM), TxM n s μ → st ≤ n → n - st < f → 4 * e ≤ st → mI μ 12 12 = 0 → mI μ 12 11 = Int32.ofNat e →
    ∃ μ', Md_read_12 (Int32.ofNat st) μ = rI (Int32.ofNat (prsL n s f st).1) μ' ∧ FrW e μ μ' ∧ ((prsL n s f st).1 = n → mI μ' 12 12 = Int32.ofNat (prsL n s f st).2.1 ∧ mI μ' 12 11 = Int32.ofNat (e + (prsL n s f st).2.2.length) ∧ ∀ i, i < (prsL n s f st).2.2.length → mI μ' 17 (e + i) = Int32.ofNat ((prsL n s f st).2.2.getD i 0)) := by
  intro f
  induction f with
  | zero => intro st e μ _ _ h; exact absurd h (Nat.not_lt_zero _)
  | succ f ih =>
    intro st e μ hT hst hf h4 h12 h11
    have hn := hT.1
    unfold prsL
    rw [Md_read_12_eq, hT.2.1]
    by_cases q1 : n ≤ st
    · have e1 : st = n := by omega
      rw [if_pos (le_y q1 (by omega)), if_pos q1]
      exact ⟨μ, by rw [e1], FrW.rf, fun _ => ⟨h12, by rw [List.length_nil]; exact h11, fun i hi => absurd hi (Nat.not_lt_zero i)⟩⟩
    · obtain ⟨g1, g2, g3⟩ := hT.2.2 st (by omega)
      rw [if_neg (le_n (by omega) (by omega)), if_neg q1, chk_t (i3_inb (by omega) (by decide)), i3_nat (by omega), g1, i3_add1]
      rcases m_take0 g2 (show s st < 127 by omega) h12 h11 with ⟨k1, μ1, a1, a2, a3, a4, a5⟩ | ⟨k1, μ1, a1, a2⟩
      · obtain ⟨l1, l2⟩ := len_pos _ k1
        have hT1 := hT.fr a2
        have hfit := kd_fit k1 rfl
        obtain ⟨lm, hlm⟩ : ∃ lm, lenK (kdN (s st)) = lm + 1 := ⟨lenK (kdN (s st)) - 1, by omega⟩
        have em : mtc n s (kdN (s st)) st (lenK (kdN (s st))) 0 = mtc n s (kdN (s st)) st lm 1 := by
          rw [hlm]
          exact mtc_y ⟨by omega, by rw [Nat.add_zero]; exact hfit⟩
        rw [a1, bI_r, if_neg (by decide), if_neg (show ¬ kdN (s st) = 5 by omega), em]
        rcases m_mid (st := st) k1 (show e < 32 by omega) lm 1 μ1 hT1 (by omega) (by omega) (by omega) (by omega) a3 a4 a5 with ⟨c1, μ2, c2, c3, c4⟩ | ⟨c1, μ2, c2, c3, c4, c5, c6⟩
        · rw [if_pos c1]
          exact ⟨μ2, c2, a2.tr c3, fun r => ⟨(c4 r).1, by rw [List.length_nil]; exact (c4 r).2, fun i hi => absurd hi (Nat.not_lt_zero i)⟩⟩
        · have hT2 := hT1.fr c3
          have hm := (mtc_le (n := n) (s := s) (k := kdN (s st)) (st := st) lm 1).2.2 (by omega)
          rw [if_neg (by omega), c2, Md_read_12_eq, hT2.2.1]
          have c5' : mI μ2 12 11 = Int32.ofNat (e + [ordN s (kdN (s st)) st].length) := c5
          have c6' : ∀ i, i < [ordN s (kdN (s st)) st].length → mI μ2 17 (e + i) = Int32.ofNat ([ordN s (kdN (s st)) st].getD i 0) := fun i hi => by
            have : i = 0 := Nat.lt_one_iff.mp hi
            subst this
            exact c6
          by_cases q2 : n ≤ st + lenK (kdN (s st))
          · rw [if_pos (le_y q2 (by omega)), if_pos q2]
            exact ⟨μ2, by rw [show st + lenK (kdN (s st)) = n by omega], a2.tr c3, fun _ => ⟨c4, c5', c6'⟩⟩
          · obtain ⟨r1, r2, r3⟩ := hT2.2.2 (st + lenK (kdN (s st))) (by omega)
            rw [if_neg (le_n (by omega) (by omega)), if_neg q2, chk_t (i3_inb (by omega) (by decide)), i3_nat (by omega), r1, i3_add1]
            by_cases q3 : s (st + lenK (kdN (s st))) = 59
            · have hy : d_Md_takes (Int32.ofNat (s (st + lenK (kdN (s st))))) μ2 = rI 1 (stI μ2 12 12 0) := by rw [q3]; exact k_20_y c4
              have w3 : FrW (e + 1) μ2 (stI μ2 12 12 0) := FrW.rf.s12 (by decide)
              obtain ⟨μ3, d1, d2, d3⟩ := ih (st + lenK (kdN (s st)) + 1) (e + 1) (stI μ2 12 12 0) (hT2.fr w3) (by omega) (by omega) (by omega) (by rw [st_get, if_pos ⟨rfl, rfl⟩]) (by rw [st_get, if_neg (by decide)]; exact c5)
              rw [hy, bI_r, if_neg (by decide), if_pos q3]
              refine ⟨μ3, d1, (a2.tr c3).tr ((w3.tr d2).le (by omega)), fun r => ?_⟩
              obtain ⟨v1, v2, v3⟩ := d3 r
              refine ⟨v1, ?_, fun i hi => ?_⟩
              · rw [v2, List.length_cons]
                congr 1
                omega
              · match i, hi with
                | 0, _ =>
                  rw [Nat.add_zero, d2.2.2.2 e (by omega), stI_ne _ _ _ (by decide), c6]
                  rfl
                | i + 1, hi =>
                  have := v3 i (by rw [List.length_cons] at hi; omega)
                  rw [show e + (i + 1) = e + 1 + i by omega, this]
                  rfl
            · have hno := k_20_n (c := Int32.ofNat (s (st + lenK (kdN (s st))))) c4 (fun r => q3 (by rw [show (59 : Int32) = Int32.ofNat 59 from rfl, i3_eq (by omega) (by decide)] at r; exact r))
              rw [hno, bI_r, if_pos rfl, if_neg q3]
              exact ⟨_, rfl, (a2.tr c3).tr (FrW.rf.s12 (by decide)), fun r => absurd r (by show ¬ st + lenK (kdN (s st)) = n; omega)⟩
      · rw [a1, bI_r, if_pos rfl, if_pos k1]
        exact ⟨μ1, rfl, a2, fun r => absurd r (by show ¬ st = n; omega)⟩
theorem m_read (hT : TxM n s μ) : ∃ μ', d_Md_read μ = rI (Int32.ofNat (prsL n s 61 0).1) μ' ∧ FrW 0 μ μ' ∧ ((prsL n s 61 0).1 = n → mI μ' 12 12 = Int32.ofNat (prsL n s 61 0).2.1 ∧ mI μ' 12 11 = Int32.ofNat (prsL n s 61 0).2.2.length ∧ ∀ i, i < (prsL n s 61 0).2.2.length → mI μ' 17 i = Int32.ofNat ((prsL n s 61 0).2.2.getD i 0)) := by
  have hn := hT.1
  have w0 : FrW 0 μ (stI (stI μ 12 12 0) 12 11 0) := (FrW.rf.s12 (by decide)).s12 (by decide)
  obtain ⟨μ1, a1, a2, a3⟩ := m_read12 61 0 0 (stI (stI μ 12 12 0) 12 11 0) (hT.fr w0) (Nat.zero_le _) (by omega) (Nat.le_refl _) (by rw [st_get, if_neg (by decide), st_get, if_pos ⟨rfl, rfl⟩]) (by rw [st_get, if_pos ⟨rfl, rfl⟩]; rfl)
  refine ⟨μ1, ?_, w0.tr a2, fun r => ?_⟩
  · rw [e_Md_read]
    exact a1
  · obtain ⟨v1, v2, v3⟩ := a3 r
    refine ⟨v1, ?_, fun i hi => ?_⟩
    · rw [v2, Nat.zero_add]
    · have := v3 i hi
      rw [Nat.zero_add] at this
      exact this
end READ
