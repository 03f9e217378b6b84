/-! SEMANTICS: the calls that only show, as the law makes them -/
section OPS
theorem code3 {k : Nat} {w : Int32} {μ : PM} (h : (if k = 3 then some (1 : Int32) else none) = some w) : (if k = 3 then some (.inl (some (.int 1)), μ) else some (.inr k, μ) : Option PO) = rI w μ := by
  by_cases q : k = 3
  · rw [if_pos q] at h ⊢
    cases h
    rfl
  · rw [if_neg q] at h
    cases h
theorem code1 {k : Nat} {w : Int32} {μ : PM} (h : (if k = 1 then some (1 : Int32) else none) = some w) : (if k = 1 then some (.inl (some (.int 1)), μ) else some (.inr k, μ) : Option PO) = rI w μ := by
  by_cases q : k = 1
  · rw [if_pos q] at h ⊢
    cases h
    rfl
  · rw [if_neg q] at h
    cases h
theorem code31 {k : Nat} {w : Int32} {μ : PM} (h : (if k = 3 then some (1 : Int32) else if k = 1 then some 2 else none) = some w) : (if k = 3 then some (.inl (some (.int 1)), μ) else if k = 1 then some (.inl (some (.int 2)), μ) else some (.inr k, μ) : Option PO) = rI w μ := by
  by_cases q : k = 3
  · rw [if_pos q] at h ⊢
    cases h
    rfl
  · rw [if_neg q] at h ⊢
    by_cases q1 : k = 1
    · rw [if_pos q1] at h ⊢
      cases h
      rfl
    · rw [if_neg q1] at h
      cases h
theorem o_setting (x : Int32) : Op (d_Lw_setting x) (d_Md_setting x) := Op.ofAns (c := d_Oc_setting x) (fun _ _ ⟨_, _, _, _, _, _, h1, h2, h3, _⟩ => a_setting h2 h1 h3.1) (fun μ => ⟨_, e_Lw_setting x μ, fun _ _ _ h => code3 h⟩)
theorem o_hours (x y : Int32) : Op (d_Lw_hours x y) (d_Md_hours x y) := Op.ofAns (c := d_Oc_hours x y) (fun _ _ ⟨_, _, _, _, _, _, h1, h2, h3, _⟩ => a_hours h2 h1 h3.1) (fun μ => ⟨_, e_Lw_hours x y μ, fun _ _ _ h => code3 h⟩)
theorem o_whyNot (x y : Int32) : Op (d_Lw_whyNot x y) (d_Md_whyNot x y) := Op.ofAns (c := d_Oc_whyNot x y) (fun _ _ ⟨_, _, _, _, _, _, h1, h2, h3, _⟩ => a_whyNot h2 h1 h3.1) (fun μ => ⟨_, e_Lw_whyNot x y μ, fun _ _ _ h => code31 h⟩)
theorem o_ifPlayed (x : Int32) : Op (d_Lw_ifPlayed x) (d_Md_ifPlayed x) := Op.ofAns (c := d_Oc_ifPlayed x) (fun _ _ ⟨_, _, _, _, _, _, h1, h2, h3, _⟩ => a_ifPlayed h2 h1 h3.1 h3.2.1) (fun μ => ⟨_, e_Lw_ifPlayed x μ, fun _ _ _ h => code3 h⟩)
theorem o_corner (x y : Int32) : Op (d_Lw_corner x y) (d_Md_corner x y) := Op.ofAns (c := d_Oc_corner x y) (fun _ _ ⟨_, _, _, _, _, _, h1, h2, h3, _⟩ => a_corner h2 h1 h3.1 h3.2.2.1) (fun μ => ⟨_, e_Lw_corner x y μ, fun _ _ _ h => code31 h⟩)
theorem o_organ (x y : Int32) : Op (d_Lw_organ x y) (d_Md_organ x y) := Op.ofAns (c := d_Oc_organ x y) (fun _ _ ⟨_, _, _, _, _, _, h1, h2, h3, _⟩ => a_organ h2 h1 h3.1) (fun μ => ⟨_, e_Lw_organ x y μ, fun _ _ _ h => code31 h⟩)
theorem o_player (x y : Int32) : Op (d_Lw_player x y) (d_Md_player x y) := Op.ofAns (c := d_Oc_player x y) (fun _ _ ⟨_, _, _, _, _, _, h1, h2, h3, _⟩ => a_player h2 h1 h3.1) (fun μ => ⟨_, e_Lw_player x y μ, fun _ _ _ h => code31 h⟩)
theorem o_count (x : Int32) : Op (d_Lw_count x) (d_Md_count x) := Op.ofAns (c := d_Oc_count x) (fun _ _ ⟨_, _, _, _, _, _, h1, h2, h3, h4, h5, _⟩ => a_count h2 h1 h3.1 h3.2.2.2.1 h4.2.2.2.1 h5.2.1) (fun μ => ⟨_, e_Lw_count x μ, fun _ _ _ h => code1 h⟩)
end OPS
