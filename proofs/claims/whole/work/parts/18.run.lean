/-! ENDS, CALLS, HANDLERS: the run -/
section RUN
variable {p : Program} {l : Launch} {e : Env} {R : Room} {s : State} {m : MethodId} {args : Array Value} {below : List Frame} {meth : Method} {c : Code} {H H0 : Heap} {locs : List Loc} {cells slots : Nat} {Q : State → Prop} {nL : Nat}
variable {N0 : Nat} {L : Nat → Nat} {D : va_G} {cA : Nat → ClassId} {pc pc' : Nat} {ls : Array Slot} {pl pl' st st' as : List Value} {μ μ' μ0 : PM} {n d lvd ix mc ms : Nat} {M Md : MI} {o : PO}
theorem rt5 {t : Option FieldType} (h : rtO 5 t) : ∃ n, t = some (.object n) := by
  unfold rtO at h
  split at h <;> first | exact ⟨_, rfl⟩ | exact h.elim | (rename_i q; cases q)
theorem rt4 {t : Option FieldType} (h : rtO 4 t) : t = some .double := by
  unfold rtO at h
  split at h <;> first | rfl | exact h.elim | (rename_i q; cases q)
theorem rt3 {t : Option FieldType} (h : rtO 3 t) : t = some .long := by
  unfold rtO at h
  split at h <;> first | rfl | exact h.elim | (rename_i q; cases q)
theorem rt2 {t : Option FieldType} (h : rtO 2 t) : t = some .boolean := by
  unfold rtO at h
  split at h <;> first | rfl | exact h.elim | (rename_i q; cases q)
theorem rt1 {t : Option FieldType} (h : rtO 1 t) : t = some .int := by
  unfold rtO at h
  split at h <;> first | rfl | exact h.elim | (rename_i q; cases q)
theorem rt0 {t : Option FieldType} (h : rtO 0 t) : t = none := by
  unfold rtO at h
  split at h <;> first | rfl | exact h.elim | (rename_i q; cases q)
/-- a method's end, with an answer -/
theorem sim_ret {i : Instr} {ln : Nat} (cx : Ctx p s m args meth c N0 L D cA n μ0) (hM : mtab n = some M) (hlk : lk2 M.1 pc = some (i, ln)) (h : pex M i ln pc pl st μ = some (.inr (.inr o))) {v : Option Value} (hv : o.1 = .inl v) (hc : cells ≤ mc) (hs : slots ≤ ms) (ha : At_ s.heap L D cA (jA N0) nL H locs ls pl μ) :
    W p l e R s m args below meth c H locs cells slots (vx_MQ below (QO N0 L D cA o) (XO N0 L D cA o) args s mc ms (jA N0)) (F0 m pc ls (st.map (lf L))) := by
  obtain ⟨hx, hb, hml, hr, hlocks, hown, hts, htab, hK, hF, hX, hXN⟩ := cx
  obtain ⟨hdc, hpf, hrt, -, -⟩ := mok hM
  obtain ⟨hdg, hl⟩ := hdc.at hlk
  obtain ⟨hLR, hP, hD, hS⟩ := ha
  have hq : ∀ (v : Option Value) (μ9 : PM), o = (.inl v, μ9) → μ9 = μ → ∀ t : State, t.heap = H → s.WarmedH t.vm → QO N0 L D cA o args s (.returned (v.map (lf L))) t := by
    intro v μ9 ho hm t ht hW
    subst hm
    exact ⟨⟨v, by rw [ho], rfl, by rw [ht, ho]; exact hP⟩, hS.F ht⟩
  have hf : ∀ q ∈ locs, jA N0 q.base := hS.2.2
  refine vx_ret (W.widen hc hs ?_)
  rcases pex_inr h with ⟨ix, -, hA⟩ | ⟨ix, -, hA⟩ | ⟨ix, -, hA⟩ | ⟨rfl, hA⟩ | ⟨rfl, hA⟩ | ⟨rfl, hA⟩ | ⟨rfl, hA⟩ | ⟨rfl, hA⟩
  · exact (ivV_ret hA).elim
  · exact (ivS_ret hA).elim
  · obtain ⟨k, z, -, -, q⟩ := thr_inv hA
    cases q
    cases hv
  · have q := Nat.eq_of_beq_eq_true hl; subst q
    clear h
    unfold art at hA
    split at hA
    · rename_i h5
      rw [h5] at hrt
      obtain ⟨nm, hn⟩ := rt5 hrt
      cases hA
      exact W.aret hx hb (hr.trans hn) (Or.inl ⟨_, rfl⟩) (Or.inr ⟨_, rfl⟩) (hq _ _ rfl rfl) hf hdg hlocks
    · rename_i h5
      rw [h5] at hrt
      obtain ⟨nm, hn⟩ := rt5 hrt
      cases hA
      exact W.aret hx hb (hr.trans hn) (Or.inl ⟨_, rfl⟩) (Or.inl rfl) (hq _ _ rfl rfl) hf hdg hlocks
    · cases hA
  · have q := Nat.eq_of_beq_eq_true hl; subst q
    clear h
    unfold drt at hA
    split at hA
    · rename_i h5
      rw [h5] at hrt
      cases hA
      exact W.dret hx hb (hr.trans (rt4 hrt)) (hq _ _ rfl rfl) hf hdg hlocks
    · cases hA
  · have q := Nat.eq_of_beq_eq_true hl; subst q
    clear h
    unfold irt at hA
    split at hA
    · split at hA
      · rename_i h5
        rw [h5] at hrt
        cases hA
        exact W.iret hx hb (hr.trans (rt1 hrt)) (hq _ _ rfl rfl) hf hdg hlocks
      · rename_i h5
        rw [h5] at hrt
        split at hA
        · rename_i h01
          cases hA
          exact W.zret hx hb (hr.trans (rt2 hrt)) (nar_Z h01) (hq _ _ rfl rfl) hf hdg hlocks
        · cases hA
      · cases hA
    · cases hA
  · have q := Nat.eq_of_beq_eq_true hl; subst q
    clear h
    unfold jrt at hA
    split at hA
    · rename_i h5
      rw [h5] at hrt
      cases hA
      exact W.lret hx hb (hr.trans (rt3 hrt)) (hq _ _ rfl rfl) hf hdg hlocks
    · cases hA
  · have q := Nat.eq_of_beq_eq_true hl; subst q
    clear h
    unfold vrt at hA
    split at hA
    · rename_i h5
      rw [h5] at hrt
      cases hA
      exact W.vret hx hb (hr.trans (rt0 hrt)) (hq _ _ rfl rfl) hf hdg hlocks
    · cases hA
/-- where the system's own code throws -/
theorem thr_sites : ((List.range 222).all fun n => match mtab n with | some M => M.1.all (fun c => c.all fun z => match z.2.1 with | .new ix => decide ((n, z.1, ix) ∈ [(74, 10, 171), (89, 9, 344), (90, 10, 171), (91, 4, 351), (221, 0, 8), (221, 8, 94)]) | _ => true) | none => true) = true := by decide +kernel
theorem mtab_lt (h : mtab n = some M) : n < 222 := by
  unfold mtab at h
  have h1 : M ∈ mtabs.getD (n / 16) [] := List.mem_of_getElem? h
  have h2 := (List.getElem?_eq_some_iff.mp h).1
  by_cases hq : n / 16 < 14
  · by_cases h9 : n / 16 = 13
    · rw [h9] at h2
      have : (mtabs.getD 13 []).length = 14 := rfl
      omega
    · omega
  · exfalso
    have hl : mtabs.length = 14 := rfl
    rw [List.getD_eq_getElem?_getD, List.getElem?_eq_none (by omega)] at h1
    exact absurd h1 List.not_mem_nil
theorem thr_site {ln : Nat} (hM : mtab n = some M) (hlk : lk2 M.1 pc = some (.new ix, ln)) : (n, pc, ix) ∈ [(74, 10, 171), (89, 9, 344), (90, 10, 171), (91, 4, 351), (221, 0, 8), (221, 8, 94)] := by
  have h1 := List.all_eq_true.mp thr_sites n (List.mem_range.mpr (mtab_lt hM))
  rw [hM] at h1
  simp only at h1
  unfold lk2 at hlk
  have hm := lk_mem hlk
  by_cases hq : pc / 32 < M.1.length
  · rw [List.getD_eq_getElem?_getD, List.getElem?_eq_getElem hq, Option.getD_some] at hm
    have h2 := List.all_eq_true.mp (List.all_eq_true.mp h1 _ (List.getElem_mem hq)) _ hm
    exact of_decide_eq_true h2
  · rw [List.getD_eq_getElem?_getD, List.getElem?_eq_none (Nat.le_of_not_lt hq)] at hm
    exact absurd hm List.not_mem_nil
theorem fit_all : (∀ k, 1 ≤ k → k ≤ 3 → Bundle.fit (exn k) = true) ∧ ∀ n ∈ xnm, Bundle.fit n = true := by
  refine ⟨fun k h1 h2 => ?_, by decide⟩
  match k, h1, h2 with
  | 1, _, _ => decide
  | 2, _, _ => decide
  | 3, _, _ => decide
theorem sim_thr {ln : Nat} (hst : l.stackTraces = false) (cx : Ctx p s m args meth c N0 L D cA n μ0) (hM : mtab n = some M) (hlk : lk2 M.1 pc = some (.new ix, ln)) (h : thr M.1 M.2.1 pc ix st μ = some (.inr (.inr o))) (hnL : nL = mxl n) (hRf : 6 ≤ R.frames) (hRl : 200 ≤ R.locals) (hRc : cells + 1 ≤ R.cells) (hRs : slots + 6 ≤ R.slots) (hc : cells + 1 ≤ mc) (hs : slots + 6 ≤ ms) (ha : At_ s.heap L D cA (jA N0) nL H locs ls pl μ) :
    W p l e R s m args below meth c H locs cells slots (vx_MQ below (QO N0 L D cA o) (XO N0 L D cA o) args s mc ms (jA N0)) (F0 m pc ls (st.map (lf L))) := by
  obtain ⟨hx, hb, hml, hr, hlocks, hown, hts, htab, hK, hF, hX, hXN⟩ := cx
  obtain ⟨hdc, -, -, -, -⟩ := mok hM
  obtain ⟨hLR, hP, hD, hS⟩ := ha
  obtain ⟨k, z, he, rfl, hq⟩ := thr_inv h
  cases hq
  have hsz : ls.size = c.maxLocals := by rw [hml, ← hnL]; exact hLR.2.1
  have hXO : ∀ (k : Nat) (t : State), s.vm.Alike t.vm → H.size ≤ t.heap.size → (∀ q : Nat, q < H.size → t.heap[q]? = H[q]?) → XO N0 L D cA (.inr k, exM μ) (exn k) s t := fun k t _ hz hk =>
    ⟨⟨k, rfl, rfl, P_keep hP hk⟩, ⟨Nat.le_trans hS.1 hz, fun q h1 h2 => (hk q (Nat.lt_of_lt_of_le h1 hS.1)).trans (hS.2.1 q h1 h2)⟩⟩
  have hU := hF.2.1.2.2.2.1
  have hN := hF.2.1.2.2.2.2.1
  have hsite := thr_site hM hlk
  simp only [List.mem_cons, List.not_mem_nil, or_false, Prod.mk.injEq] at hsite
  rcases hsite with ⟨rfl, rfl, rfl⟩ | ⟨rfl, rfl, rfl⟩ | ⟨rfl, rfl, rfl⟩ | ⟨rfl, rfl, rfl⟩ | ⟨rfl, rfl, rfl⟩ | ⟨rfl, rfl, rfl⟩
  · cases hM
    cases he
    obtain ⟨sa, hstr⟩ := hF.2.2.1.2.2.2.2.2.1
    exact vx_throwS (cls := exn 1) (names := xnm) (sa := sa) (ik := 171) (ic := 175) hx hb hst hown (fit_all.1 1 (by decide) (by decide)) fit_all.2 (hts _ xl_1) (hts _ xi_1) hstr (xat_1 hts hF) (List.all_eq_true.mp xo_1) hU hN hS hsz (hdc.at (pc := 10) rfl).1 (hdc.at (pc := 13) rfl).1 (hdc.at (pc := 14) rfl).1 (hdc.at (pc := 16) rfl).1 (hdc.at (pc := 19) rfl).1
      (fun x hx => by rw [htab] at hx; exact absurd hx List.not_mem_nil) (by show 2 + 3 < _; omega) (by show 0 + (13 * (2 + 1) + 43) ≤ _; omega) hRc hRs hlocks (hXO 1) hS.2.2 hc hs
  · cases hM
    cases he
    obtain ⟨sa, hstr⟩ := hF.2.2.1.2.2.2.2.2.2.1
    exact vx_throwSW (cls := exn 3) (names := xnm) (sa := sa) (ik := 344) (ic := 348) hx hb hst hown (fit_all.1 3 (by decide) (by decide)) fit_all.2 (hts _ xl_3) (hts _ xi_3) hstr (xat_3 hts hF) (List.all_eq_true.mp xo_3) hU hN hS hsz (hdc.at (pc := 9) rfl).1 (hdc.at (pc := 12) rfl).1 (hdc.at (pc := 13) rfl).1 (hdc.at (pc := 16) rfl).1 (hdc.at (pc := 19) rfl).1
      (fun x hx => by rw [htab] at hx; exact absurd hx List.not_mem_nil) (by show 2 + 3 < _; omega) (by show 0 + (13 * (2 + 1) + 43) ≤ _; omega) hRc hRs hlocks (hXO 3) hS.2.2 hc hs
  · cases hM
    cases he
    obtain ⟨sa, hstr⟩ := hF.2.2.1.2.2.2.2.2.2.2.1
    exact vx_throwSW (cls := exn 1) (names := xnm) (sa := sa) (ik := 171) (ic := 175) hx hb hst hown (fit_all.1 1 (by decide) (by decide)) fit_all.2 (hts _ xl_1) (hts _ xi_1) hstr (xat_1 hts hF) (List.all_eq_true.mp xo_1) hU hN hS hsz (hdc.at (pc := 10) rfl).1 (hdc.at (pc := 13) rfl).1 (hdc.at (pc := 14) rfl).1 (hdc.at (pc := 17) rfl).1 (hdc.at (pc := 20) rfl).1
      (fun x hx => by rw [htab] at hx; exact absurd hx List.not_mem_nil) (by show 2 + 3 < _; omega) (by show 0 + (13 * (2 + 1) + 43) ≤ _; omega) hRc hRs hlocks (hXO 1) hS.2.2 hc hs
  · cases hM
    cases he
    obtain ⟨sa, hstr⟩ := hF.2.2.1.2.2.2.2.2.2.2.2.1
    exact vx_throwSW (cls := exn 2) (names := xnm) (sa := sa) (ik := 351) (ic := 355) hx hb hst hown (fit_all.1 2 (by decide) (by decide)) fit_all.2 (hts _ xl_2) (hts _ xi_2) hstr (xat_2 hts hF) (List.all_eq_true.mp xo_2) hU hN hS hsz (hdc.at (pc := 4) rfl).1 (hdc.at (pc := 7) rfl).1 (hdc.at (pc := 8) rfl).1 (hdc.at (pc := 11) rfl).1 (hdc.at (pc := 14) rfl).1
      (fun x hx => by rw [htab] at hx; exact absurd hx List.not_mem_nil) (by show 2 + 3 < _; omega) (by show 0 + (13 * (2 + 1) + 43) ≤ _; omega) hRc hRs hlocks (hXO 2) hS.2.2 hc hs
  · cases hM; cases he
  · cases hM; cases he
end RUN
