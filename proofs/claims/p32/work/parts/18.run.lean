/-! ENDS, CALLS, HANDLERS: the run -/
section RUN
variable {p : Program} {l : Launch} {e : Env} {R : Room} {s : State} {m : MethodId} {args : Array Value} {below : List Frame} {meth : Method} {c : Code} {H H0 : Heap} {locs : List Loc} {cells slots : Nat} {Q : State → Prop} {nL : Nat}
variable {N0 : Nat} {L : Nat → Nat} {D : va_G} {cA : Nat → ClassId} {pc pc' : Nat} {ls : Array Slot} {pl pl' st st' as : List Value} {μ μ' μ0 : PM} {n d lvd ix mc ms : Nat} {M Md : MI} {o : PO}
theorem rt5 {t : Option FieldType} (h : rtO 5 t) : ∃ n, t = some (.object n) := by
  unfold rtO at h
  split at h <;> first | exact ⟨_, rfl⟩ | exact h.elim | (rename_i q; cases q)
theorem rt4 {t : Option FieldType} (h : rtO 4 t) : t = some .double := by
  unfold rtO at h
  split at h <;> first | rfl | exact h.elim | (rename_i q; cases q)
theorem rt3 {t : Option FieldType} (h : rtO 3 t) : t = some .long := by
  unfold rtO at h
  split at h <;> first | rfl | exact h.elim | (rename_i q; cases q)
theorem rt2 {t : Option FieldType} (h : rtO 2 t) : t = some .boolean := by
  unfold rtO at h
  split at h <;> first | rfl | exact h.elim | (rename_i q; cases q)
theorem rt1 {t : Option FieldType} (h : rtO 1 t) : t = some .int := by
  unfold rtO at h
  split at h <;> first | rfl | exact h.elim | (rename_i q; cases q)
theorem rt0 {t : Option FieldType} (h : rtO 0 t) : t = none := by
  unfold rtO at h
  split at h <;> first | rfl | exact h.elim | (rename_i q; cases q)
/-- a method's end, with an answer -/
theorem sim_ret {i : Instr} {ln : Nat} (cx : Ctx p s m args meth c N0 L D cA n μ0) (hM : mtab n = some M) (hlk : lk2 M.1 pc = some (i, ln)) (h : pex M i ln pc pl st μ = some (.inr (.inr o))) {v : Option Value} (hv : o.1 = .inl v) (hc : cells ≤ mc) (hs : slots ≤ ms) (ha : At_ s.heap L D cA (jA N0) nL H locs ls pl μ) :
    W p l e R s m args below meth c H locs cells slots (vx_MQ below (QO N0 L D cA o) (XO N0 L D cA o) args s mc ms (jA N0)) (F0 m pc ls (st.map (lf L))) := by
  obtain ⟨hx, hb, hml, hr, hlocks, hown, hts, htab, hK, hF, hX, hXN⟩ := cx
  obtain ⟨hdc, hpf, hrt, -, -⟩ := mok hM
  obtain ⟨hdg, hl⟩ := hdc.at hlk
  obtain ⟨hLR, hP, hD, hS⟩ := ha
  have hq : ∀ (v : Option Value) (μ9 : PM), o = (.inl v, μ9) → μ9 = μ → ∀ t : State, t.heap = H → s.WarmedH t.vm → QO N0 L D cA o args s (.returned (v.map (lf L))) t := by
    intro v μ9 ho hm t ht hW
    subst hm
    exact ⟨⟨v, by rw [ho], rfl, by rw [ht, ho]; exact hP⟩, hS.F ht⟩
  have hf : ∀ q ∈ locs, jA N0 q.base := hS.2.2
  refine vx_ret (W.widen hc hs ?_)
  rcases pex_inr h with ⟨ix, -, hA⟩ | ⟨ix, -, hA⟩ | ⟨ix, -, hA⟩ | ⟨rfl, hA⟩ | ⟨rfl, hA⟩ | ⟨rfl, hA⟩ | ⟨rfl, hA⟩ | ⟨rfl, hA⟩
  · exact (ivV_ret hA).elim
  · exact (ivS_ret hA).elim
  · obtain ⟨k, z, -, -, q⟩ := thr_inv hA
    cases q
    cases hv
  · have q := Nat.eq_of_beq_eq_true hl; subst q
    clear h
    unfold art at hA
    split at hA
    · rename_i h5
      rw [h5] at hrt
      obtain ⟨nm, hn⟩ := rt5 hrt
      cases hA
      exact W.aret hx hb (hr.trans hn) (Or.inl ⟨_, rfl⟩) (Or.inr ⟨_, rfl⟩) (hq _ _ rfl rfl) hf hdg hlocks
    · rename_i h5
      rw [h5] at hrt
      obtain ⟨nm, hn⟩ := rt5 hrt
      cases hA
      exact W.aret hx hb (hr.trans hn) (Or.inl ⟨_, rfl⟩) (Or.inl rfl) (hq _ _ rfl rfl) hf hdg hlocks
    · cases hA
  · have q := Nat.eq_of_beq_eq_true hl; subst q
    clear h
    unfold drt at hA
    split at hA
    · rename_i h5
      rw [h5] at hrt
      cases hA
      exact W.dret hx hb (hr.trans (rt4 hrt)) (hq _ _ rfl rfl) hf hdg hlocks
    · cases hA
  · have q := Nat.eq_of_beq_eq_true hl; subst q
    clear h
    unfold irt at hA
    split at hA
    · split at hA
      · rename_i h5
        rw [h5] at hrt
        cases hA
        exact W.iret hx hb (hr.trans (rt1 hrt)) (hq _ _ rfl rfl) hf hdg hlocks
      · rename_i h5
        rw [h5] at hrt
        split at hA
        · rename_i h01
          cases hA
          exact W.zret hx hb (hr.trans (rt2 hrt)) (nar_Z h01) (hq _ _ rfl rfl) hf hdg hlocks
        · cases hA
      · cases hA
    · cases hA
  · have q := Nat.eq_of_beq_eq_true hl; subst q
    clear h
    unfold jrt at hA
    split at hA
    · rename_i h5
      rw [h5] at hrt
      cases hA
      exact W.lret hx hb (hr.trans (rt3 hrt)) (hq _ _ rfl rfl) hf hdg hlocks
    · cases hA
  · have q := Nat.eq_of_beq_eq_true hl; subst q
    clear h
    unfold vrt at hA
    split at hA
    · rename_i h5
      rw [h5] at hrt
      cases hA
      exact W.vret hx hb (hr.trans (rt0 hrt)) (hq _ _ rfl rfl) hf hdg hlocks
    · cases hA
end RUN
