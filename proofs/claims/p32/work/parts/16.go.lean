/-! A CALL, BY ITS LINK -/
section GO
variable {p : Program} {l : Launch} {e : Env} {R : Room} {s : State} {m : MethodId} {args : Array Value} {below : List Frame} {meth : Method} {c : Code} {H H0 : Heap} {locs : List Loc} {cells slots : Nat} {Q : State → Prop} {nL : Nat}
variable {N0 : Nat} {L : Nat → Nat} {D : va_G} {cA : Nat → ClassId} {pc pc' : Nat} {ls : Array Slot} {pl pl' st st' as : List Value} {μ μ' μ0 : PM} {n d lvd ix : Nat} {M Md : MI} {o : PO}
theorem go_V (cx : Ctx p s m args meth c N0 L D cA n μ0) (hM : mtab n = some M) (hMd : mtab d = some Md) (h : ivV M.2.1 pc ix pl st μ = some (.inr (.inl (d, as, pc', pl', st', μ')))) (hdg : decode (mrec n).2.1 pc = .ok (.invokevirtual ix, 3)) (hm : MetO l N0 L D cA d lvd as μ o) (hf : 13 + lvd ≤ R.frames) (hlo : 300 + 60 * lvd ≤ R.locals)
    (hc : cells + (o.2.2.2.2 - μ.2.2.2) ≤ R.cells) (hs : slots + 30 * (o.2.2.2.2 - μ.2.2.2) ≤ R.slots) (hsc : Sc μ0 μ) (hnL : nL = mxl n) (hz : H.size ≤ L 430 + μ.2.2.2) (ha : At_ s.heap L D cA (jA N0) nL H locs ls pl μ) :
    vx_Run p l e R s m args below meth c H locs cells slots (o.2.2.2.2 - μ.2.2.2) (30 * (o.2.2.2.2 - μ.2.2.2)) (F0 m pc ls (st.map (lf L))) (st'.map (lf L)) (QO N0 L D cA o (as.map (lf L)).toArray) (XO N0 L D cA o) (jA N0) := by
  obtain ⟨hx, hb, hml, hr, hlocks, hown, hts, htab, hK, hF, hX, hXN⟩ := cx
  obtain ⟨-, hpf, -, -, -⟩ := mok hM
  obtain ⟨-, -, -, -, -, hy1, hy2⟩ := mok hMd
  obtain ⟨na, ci, k, he, hk, hcat, hcls, has, rfl, rfl, rfl, rfl⟩ := ivV_call h
  obtain ⟨hok, hw, -⟩ := hpf ix
  rw [he] at hok hw
  simp only [entOK, Bool.and_eq_true, decide_eq_true_eq] at hok
  obtain ⟨⟨⟨⟨hci, hdl⟩, hna⟩, hpar⟩, hemp⟩ := hok
  have hci : ci < 9 ∨ ci = 29 := by
    rw [Bool.or_eq_true] at hci
    rcases hci with q | q
    · exact Or.inl (Nat.blt_eq.mp q)
    · exact Or.inr (Nat.eq_of_beq_eq_true q)
  have hna := Nat.blt_eq.mp hna
  obtain ⟨As, rfl, hAl⟩ := as_cons has hna hk
  have hX : va_X (L 390) μ.2.2.1 (mI μ 390) s s.heap := by rw [hsc.1, hsc.2]; exact hX
  have hw1 : Cond.methodLink (yN n).cls ix (yN d) ∈ lwG := hw _ List.mem_cons_self
  have hw2 : Cond.instanceMethod (yN d) ∈ lwG := hw _ (List.mem_cons_of_mem _ List.mem_cons_self)
  have hw3 : Cond.selects (clT ci).1 (yN d) (yN d) ∈ lwG := hw _ (List.mem_cons_of_mem _ (List.mem_cons_of_mem _ List.mem_cons_self))
  have hw4 : Cond.initialized (yN d).cls ∈ lwG := hw _ (List.mem_cons_of_mem _ (List.mem_cons_of_mem _ (List.mem_cons_of_mem _ List.mem_cons_self)))
  have hw5 : cwN d ∈ lwG := hw _ (List.mem_cons_of_mem _ (List.mem_cons_of_mem _ (List.mem_cons_of_mem _ (List.mem_cons_of_mem _ List.mem_cons_self))))
  have hcw := cwN_code hMd hemp
  have hpar2 : (parseMethodDescriptor (yN d).desc).map (fun d => d.parameters.length) = some (na - 1) := by
    cases hq : parseMethodDescriptor (yN d).desc with
    | none => rw [hq] at hpar; cases hpar
    | some g =>
      rw [hq] at hpar
      simp only [Option.map_some, Option.some.injEq] at hpar ⊢
      omega
  have hstk := map_rev (L := L) has
  have hxl := mxl_le d
  refine vx_runV (C := (clT ci).1) (b := L k) (As := As.map (lf L)) (n := na - 1) (Ts := lwG) (own := (yN n).cls) (nL := ls.size) (cc := (mrec n).2.1) (maxL := mxl d) ⟨hx, hb, by rw [hml, ha.1.2.1, hnL], hown, hts⟩ hm
    ⟨callB_of (na - 1) hts (cw_in hw5) (by rw [hcw]) rfl rfl (hts _ hw4) (hts _ hw1) ⟨hy1, hy2, hpar2⟩ ⟨by show 12 + lvd + 1 ≤ _; omega, by show 8 + (mxl d + 11) + (260 + 60 * lvd) ≤ _; omega⟩, hts _ hw2, hts _ hw3⟩
    ⟨fun a U g mk q => ⟨q.1, Wd.call q.2⟩, recv_ok hci hcls hK hF ha.2.1 ha.2.2.2, fun U hU hW => ⟨rfl, Wd.pre hK hF hX hXN ha.2.1 ha.2.2.2 hz hU hW⟩⟩ rfl (by rw [List.length_map]; exact hAl) rfl ?_ (by show 2 * 0 + _ ≤ _; rw [catS_lf]; omega) hdg ⟨hc, hs⟩
  rw [hstk]
  show ((lf L (.ref k) :: As.map (lf L))).reverse ++ _ = _
  rw [List.reverse_cons, List.append_assoc]; rfl
theorem go_S9 (cx : Ctx p s m args meth c N0 L D cA n μ0) (hM : mtab n = some M) (hMd : mtab d = some Md) {na : Nat} {z : Value} (he : M.2.1 ix = (9, d, na, z)) (hna : na ≤ st.length) (hcat : catS (st.drop na) ≤ 8) (has : as = (st.take na).reverse) (hdg : decode (mrec n).2.1 pc = .ok (.invokestatic ix, 3)) (hm : MetO l N0 L D cA d lvd as μ o) (hf : 13 + lvd ≤ R.frames) (hlo : 300 + 60 * lvd ≤ R.locals)
    (hc : cells + (o.2.2.2.2 - μ.2.2.2) ≤ R.cells) (hs : slots + 30 * (o.2.2.2.2 - μ.2.2.2) ≤ R.slots) (hsc : Sc μ0 μ) (hnL : nL = mxl n) (hz : H.size ≤ L 430 + μ.2.2.2) (ha : At_ s.heap L D cA (jA N0) nL H locs ls pl μ) :
    vx_Run p l e R s m args below meth c H locs cells slots (o.2.2.2.2 - μ.2.2.2) (30 * (o.2.2.2.2 - μ.2.2.2)) (F0 m pc ls (st.map (lf L))) ((st.drop na).map (lf L)) (QO N0 L D cA o (as.map (lf L)).toArray) (XO N0 L D cA o) (jA N0) := by
  obtain ⟨hx, hb, hml, hr, hlocks, hown, hts, htab, hK, hF, hX, hXN⟩ := cx
  obtain ⟨-, hpf, -, -, -⟩ := mok hM
  obtain ⟨-, -, -, -, -, hy1, hy2⟩ := mok hMd
  obtain ⟨hok, hw, -⟩ := hpf ix
  rw [he] at hok hw
  simp only [entOK, Bool.and_eq_true, decide_eq_true_eq] at hok
  obtain ⟨hdl, hpar⟩ := hok
  have hX : va_X (L 390) μ.2.2.1 (mI μ 390) s s.heap := by rw [hsc.1, hsc.2]; exact hX
  have hw1 : Cond.methodLink (yN n).cls ix (yN d) ∈ lwG := hw _ List.mem_cons_self
  have hw2 : Cond.static (yN d) ∈ lwG := hw _ (List.mem_cons_of_mem _ List.mem_cons_self)
  have hw4 : Cond.initialized (yN d).cls ∈ lwG := hw _ (List.mem_cons_of_mem _ (List.mem_cons_of_mem _ List.mem_cons_self))
  have hw5 : cwN d ∈ lwG := hw _ (List.mem_cons_of_mem _ (List.mem_cons_of_mem _ (List.mem_cons_of_mem _ List.mem_cons_self)))
  have hstk := map_rev (L := L) has
  have hxl := mxl_le d
  have hasl : (as.map (lf L)).length = na := by rw [List.length_map, has, List.length_reverse, List.length_take]; omega
  have hS : CallFix p m c (mrec n).2.1 ls.size s args lwG (yN n).cls := ⟨hx, hb, by rw [hml, ha.1.2.1, hnL], hown, hts⟩
  have hPS : PreS s H (va_Pc (as.map (lf L)) (Wd N0 L D cA μ)) (as.map (lf L)) := ⟨fun a U g mk q => ⟨q.1, Wd.call q.2⟩, fun U hU hW => ⟨rfl, Wd.pre hK hF hX hXN ha.2.1 ha.2.2.2 hz hU hW⟩⟩
  cases hemp : (mrec d).2.2.2.isEmpty
  · have hcw := cwN_with hMd hemp
    rw [hcw] at hw5
    have hp2 : ∀ sig, parseMethodDescriptor (yN d).desc = some sig → na = sig.parameters.length := fun sig hq => by
      rw [hq] at hpar
      simp only [Option.map_some, Option.some.injEq] at hpar
      exact hpar.symm
    exact vx_runSX (hh := (mrec d).2.2.2) (maxL := mxl d) hS hm ⟨⟨rfl, rfl, by show 12 + lvd + 1 ≤ _; omega, by show 8 + (mxl d + 11) + (260 + 60 * lvd) ≤ _; omega, pay_in hts (cw_in (by rw [hcw]; exact hw5)), by rw [hcw]; exact List.mem_cons_self⟩, hts _ hw5, hts _ hw4, ⟨hy1, hy2⟩, hp2, hts _ hw1, hts _ hw2⟩ hPS rfl hasl rfl hstk (by show 2 * 0 + _ ≤ _; rw [catS_lf]; omega) hdg ⟨hc, hs⟩
  · have hcw := cwN_code hMd hemp
    exact vx_runS (maxL := mxl d) hS hm ⟨callB_of na hts (cw_in hw5) (by rw [hcw]) rfl rfl (hts _ hw4) (hts _ hw1) ⟨hy1, hy2, hpar⟩ ⟨by show 12 + lvd + 1 ≤ _; omega, by show 8 + (mxl d + 11) + (260 + 60 * lvd) ≤ _; omega⟩, hts _ hw2⟩ hPS rfl hasl rfl hstk (by show 2 * 0 + _ ≤ _; rw [catS_lf]; omega) hdg ⟨hc, hs⟩
/-- a call that doesn't throw -/
theorem MetO.met {v : Option Value} {μ1 : PM} {as : List Value} (hm : MetO l N0 L D cA d lvd as μ (.inl v, μ1)) : Met l (yN d) (cwN d :: lwG) (rmL lvd (μ1.2.2.2 - μ.2.2.2)) (va_Pc (as.map (lf L)) (Wd N0 L D cA μ)) (QO N0 L D cA (.inl v, μ1)) (μ1.2.2.2 - μ.2.2.2) (30 * (μ1.2.2.2 - μ.2.2.2)) (jA N0) := by
  intro p e ha hc hk s m args below hf happ hP hK
  obtain ⟨n, o, h1, h2, h3, h4⟩ := hm p e ha hc hk s m args below hf happ hP hK
  refine ⟨n, o, h1, h2, h3, ?_⟩
  rcases h4 with h4 | ⟨q, -, E, ce, L9, ⟨⟨k, h5, -⟩, -⟩, -⟩
  · exact h4
  · cases h5
theorem go_S10 (cx : Ctx p s m args meth c N0 L D cA n μ0) (hM : mtab n = some M) (hMd : mtab d = some Md) {na : Nat} {z : Value} {v : Option Value} {μ1 : PM} (he : M.2.1 ix = (10, d, na, z)) (hna : na ≤ st.length) (hcat : catS (st.drop na) ≤ 8) (has : as = (st.take na).reverse) (hdg : decode (mrec n).2.1 pc = .ok (.invokestatic ix, 3)) (hm : MetO l N0 L D cA d lvd as μ (.inl v, μ1)) (hf : 13 + lvd ≤ R.frames) (hlo : 300 + 60 * lvd ≤ R.locals)
    (hc : cells + (μ1.2.2.2 - μ.2.2.2) ≤ R.cells) (hs : slots + 30 * (μ1.2.2.2 - μ.2.2.2) ≤ R.slots) (hsc : Sc μ0 μ) (hnL : nL = mxl n) (hz : H.size ≤ L 430 + μ.2.2.2) (ha : At_ s.heap L D cA (jA N0) nL H locs ls pl μ) :
    vx_Run p l e R s m args below meth c H locs cells slots (μ1.2.2.2 - μ.2.2.2) (30 * (μ1.2.2.2 - μ.2.2.2)) (F0 m pc ls (st.map (lf L))) ((st.drop na).map (lf L)) (QO N0 L D cA (.inl v, μ1) (as.map (lf L)).toArray) (XO N0 L D cA (.inl v, μ1)) (jA N0) := by
  obtain ⟨hx, hb, hml, hr, hlocks, hown, hts, htab, hK, hF, hX, hXN⟩ := cx
  obtain ⟨-, hpf, -, -, -⟩ := mok hM
  obtain ⟨-, -, -, -, -, hy1, hy2⟩ := mok hMd
  obtain ⟨hok, hw, hnest⟩ := hpf ix
  rw [he] at hok hw hnest
  simp only [entOK, Bool.and_eq_true, decide_eq_true_eq] at hok
  obtain ⟨⟨hdl, hpar⟩, hemp⟩ := hok
  have hX : va_X (L 390) μ.2.2.1 (mI μ 390) s s.heap := by rw [hsc.1, hsc.2]; exact hX
  have hw2 : Cond.static (yN d) ∈ lwG := hw _ List.mem_cons_self
  have hw4 : Cond.initialized (yN d).cls ∈ lwG := hw _ (List.mem_cons_of_mem _ List.mem_cons_self)
  have hw5 : cwN d ∈ lwG := hw _ (List.mem_cons_of_mem _ (List.mem_cons_of_mem _ List.mem_cons_self))
  have hl1 : va_Nw (.methodLinkNest (yN n).cls ix (yN d) "OrganCorners") s := by
    obtain ⟨h1, h2⟩ := hnest.2 rfl
    simp only at h2
    subst h2
    rcases h1 with ⟨e1, e2⟩ | ⟨e1, e2⟩
    · rw [e1, e2]; exact hF.2.2.1.1
    · rw [e1, e2]; exact hF.2.2.1.2.1
  have hstk := map_rev (L := L) has
  have hxl := mxl_le d
  have hasl : (as.map (lf L)).length = na := by rw [List.length_map, has, List.length_reverse, List.length_take]; omega
  have hcw := cwN_code hMd hemp
  have hr := va_runSN (maxL := mxl d) (host := "OrganCorners") (⟨hx, hb, by rw [hml, ha.1.2.1, hnL], hown, hts⟩ : CallFix p m c (mrec n).2.1 ls.size s args lwG (yN n).cls) hm.met ⟨va_cnB na hts (cw_in hw5) (by rw [hcw]) rfl rfl hl1 (hts _ hw4) ⟨hy1, hy2, hpar⟩ ⟨by show 12 + lvd + 1 ≤ R.frames; omega, by show 8 + (mxl d + 11) + (260 + 60 * lvd) ≤ R.locals; omega⟩, hts _ hw2, trivial⟩ ⟨fun a U g mk q => ⟨q.1, Wd.call q.2⟩, fun U hU hW => ⟨rfl, Wd.pre hK hF hX hXN ha.2.1 ha.2.2.2 hz hU hW⟩⟩ (g := F0 m pc ls (st.map (lf L))) (rest := (st.drop na).map (lf L)) (p := p) (e := e) (R := R) (below := below) (meth := meth) (locs := locs) (cells := cells) (slots := slots) (H := H) rfl hasl rfl hstk (by show 2 * 0 + _ ≤ _; rw [catS_lf]; omega) hdg ⟨hc, hs⟩
  intro T hT X
  exact Or.inl (hr T hT X)
end GO
