/-! THE RUN, BY INDUCTION ON ITS FUEL -/
section RUNP
variable {l : Launch} {N0 : Nat} {L : Nat → Nat} {D : va_G} {cA : Nat → ClassId}
def RunP (l : Launch) (N0 : Nat) (L : Nat → Nat) (D : va_G) (cA : Nat → ClassId) (f : Nat) : Prop :=
  ∀ (n lv pc : Nat) (pl st : List Value) (μ : PM) (o : PO) (M : MI), lv < 1000000 → mtab n = some M → prun f n lv (pc, pl, st, μ) = some o → o.2.2.2.2 < 1000000 →
  ∀ (p : Program) (e : Env) (R : Room) (s : State) (m : MethodId) (args : Array Value) (below : List Frame) (meth : Method) (c : Code) (H : Heap) (locs : List Loc) (Q : State → Prop) (c0 s0 b : Nat) (μ0 : PM) (ls : Array Slot),
  Ctx p s m args meth c N0 L D cA n μ0 → 12 + lv ≤ R.frames → 260 + 60 * lv ≤ R.locals → b ≤ μ.2.2.2 → c0 + (o.2.2.2.2 - b) ≤ R.cells → s0 + 30 * (o.2.2.2.2 - b) ≤ R.slots → s.heap.size + c0 ≤ L 430 + b → Sc μ0 μ → At_ s.heap L D cA (jA N0) (mxl n) H locs ls pl μ →
  (∀ (pc' : Nat) (pl' st' : List Value) (μ' : PM) (ls' : Array Slot) (H' : Heap) (locs' : List Loc) (i : Instr) (ln : Nat), lk2 M.1 pc' = some (i, ln) → pex M i ln pc' pl' st' μ' = some (.inr (.inr o)) → Sc μ0 μ' → b ≤ μ'.2.2.2 → At_ s.heap L D cA (jA N0) (mxl n) H' locs' ls' pl' μ' →
    W p l e R s m args below meth c H' locs' (c0 + (μ'.2.2.2 - b)) (s0 + 30 * (μ'.2.2.2 - b)) Q (F0 m pc' ls' (st'.map (lf L)))) →
  W p l e R s m args below meth c H locs (c0 + (μ.2.2.2 - b)) (s0 + 30 * (μ.2.2.2 - b)) Q (F0 m pc ls (st.map (lf L)))
/-- what is known of the heap's size -/
theorem W_size {p : Program} {e : Env} {R : Room} {s : State} {m : MethodId} {args : Array Value} {below : List Frame} {meth : Method} {c : Code} {H : Heap} {locs : List Loc} {cells slots : Nat} {Q : State → Prop} {g : JFrame} (k : H.size ≤ s.heap.size + cells → W p l e R s m args below meth c H locs cells slots Q g) : W p l e R s m args below meth c H locs cells slots Q g := by
  intro T hT X
  exact k (by rw [← hT]; exact X.heapSize) T hT X
theorem newM_ne {μ : PM} {k : Nat} (h : k ≠ 430 + μ.2.2.2) : mI (newM μ) k = mI μ k := by
  funext b
  have e1 : Nat.beq k (430 + μ.2.2.2) = false := by
    cases hb : Nat.beq k (430 + μ.2.2.2)
    · rfl
    · exact absurd (Nat.eq_of_beq_eq_true hb) h
  simp only [mI, newM, e1, cond_false]
theorem newM_self {μ : PM} : mI (newM μ) (430 + μ.2.2.2) = fun _ => 0 := by
  funext b
  simp only [mI, newM, Nat.beq_refl, cond_true]
theorem cls_dyn (i : Nat) : cls (430 + i) = 31 := by unfold cls; rw [ly_dyn]
theorem len_dyn (i : Nat) : len (430 + i) = dl i := by unfold len; rw [ly_dyn]
theorem dl_le (i : Nat) : dl i ≤ 30 := by
  have h : i % 4 < 4 := Nat.mod_lt _ (by decide)
  unfold dl
  generalize i % 4 = r at h
  match r, h with
  | 0, _ => decide
  | 1, _ => decide
  | 2, _ => decide
  | 3, _ => decide
/-- the last thing made lies at the heap's end -/
theorem last_sz {μ : PM} {H : Heap} (hL : LD N0 L) (hP : va_P D vwCl (WS L cA μ) H) : L 430 + μ.2.2.2 ≤ H.size := by
  by_cases h0 : μ.2.2.2 = 0
  · have h1 : L 18 < H.size := (hP _ _ (WS_get (k := 18) (Or.inl (by decide)))).lt
    have := hL.2.2.2
    omega
  · have h1 : L (430 + (μ.2.2.2 - 1)) < H.size := (hP _ _ (WS_get (k := 430 + (μ.2.2.2 - 1)) (Or.inr (Or.inr ⟨by omega, by omega⟩)))).lt
    have := hL.2.2.1 (μ.2.2.2 - 1)
    omega
theorem P_new {μ : PM} {H H1 : Heap} (hP : va_P D vwCl (WS L cA μ) H) (hL : LD N0 L) (hsz : H.size = L 430 + μ.2.2.2) (h1 : H1[H.size]? = some (vp_cell (cA 20) (dl μ.2.2.2, .inl (fun _ => 0)))) (hk : ∀ q : Nat, q < H.size → H1[q]? = H[q]?) : va_P D vwCl (WS L cA (newM μ)) H1 := by
  intro i q hq
  obtain ⟨hi, rfl⟩ := WS_inv hq
  by_cases hn : nm i = 430 + μ.2.2.2
  · rw [hn, entW_ints (Or.inr (cls_dyn _)), newM_self, len_dyn]
    show H1[L (430 + μ.2.2.2)]? = some (vp_cell _ _)
    rw [hL.2.2.1, ← hsz]
    exact h1
  · have hi' : Inn μ (nm i) := by
      rcases hi with h | h | h
      · exact Or.inl h
      · exact Or.inr (Or.inl h)
      · have e : (newM μ).2.2.2 = μ.2.2.2 + 1 := rfl
        exact Or.inr (Or.inr ⟨h.1, by omega⟩)
    rw [entW_congr (newM_ne hn) rfl]
    exact (hP.kept (H1 := H1) fun k q hq => hk q.1 ((hP k q hq).lt)) _ _ (WS_get hi')
/-- a new array -/
theorem sim_newa {p : Program} {e : Env} {R : Room} {s : State} {m : MethodId} {args : Array Value} {below : List Frame} {meth : Method} {c : Code} {H : Heap} {locs : List Loc} {cells slots : Nat} {Q : State → Prop} {n pc pc' ln nL : Nat} {M : MI} {μ0 μ μ' : PM} {pl st pl' st' : List Value} {ls : Array Slot}
    (cx : Ctx p s m args meth c N0 L D cA n μ0) (hM : mtab n = some M) (hlk : lk2 M.1 pc = some (.newarray .int, ln)) (h : nwA pc pl st μ = some (.inl (pc', pl', st', μ'))) (hL : LD N0 L) (hz : H.size ≤ L 430 + μ.2.2.2) (hc : cells + 1 ≤ R.cells) (hs : slots + 30 ≤ R.slots) (ha : At_ s.heap L D cA (jA N0) nL H locs ls pl μ)
    (k : Kt p l e R s m args below meth c s.heap (cells + 1) (slots + 30) Q L D cA (jA N0) nL pc' pl' st' μ') : Wg p l e R s m args below meth c H locs cells slots Q L pc ls st := by
  obtain ⟨hx, hb, hml, hr, hlocks, hown, hts, htab, hK, hF, hX, hXN⟩ := cx
  obtain ⟨hdc, -, -, -, -⟩ := mok hM
  obtain ⟨hdg, hl⟩ := hdc.at hlk
  have hq := Nat.eq_of_beq_eq_true hl
  subst hq
  obtain ⟨r, rfl, rfl, rfl, rfl, rfl⟩ := nwA_inv h
  have hsz : H.size = L 430 + μ.2.2.2 := Nat.le_antisymm hz (last_sz hL ha.2.1)
  have hd30 := dl_le μ.2.2.2
  have hn0 : ¬ Int32.ofNat (dl μ.2.2.2) < 0 := by
    generalize dl μ.2.2.2 = d at hd30
    exact (by decide +kernel : ∀ d, d < 31 → ¬ Int32.ofNat d < 0) d (by omega)
  have hnN : (Int32.ofNat (dl μ.2.2.2)).toNatClampNeg = dl μ.2.2.2 := by
    generalize dl μ.2.2.2 = d at hd30
    exact (by decide +kernel : ∀ d, d < 31 → (Int32.ofNat d).toNatClampNeg = d) d (by omega)
  show W p l e R s m args below meth c H locs cells slots Q (F0 m pc ls (.int (Int32.ofNat (dl μ.2.2.2)) :: r.map (lf L)))
  refine va_newaK (atype := .int) (N := dl μ.2.2.2) hx hb (hts _ aw_int) rfl hdg rfl hn0 hnN (by show _ * 4 ≤ _; omega) hc (by omega) rfl (fun H1 cA1 e1 z1 o1 hAr hNm => ?_)
  have ec : cA1 = cA 20 := Option.some.inj (Eq.trans (Eq.symm hNm) (hK.2 0 (cA 20, .int) rfl).2)
  subst ec
  have hP1 := P_new ha.2.1 hL hsz e1 o1
  have hS1 : va_S (jA N0) s.heap H1 locs := ⟨Nat.le_trans ha.2.2.2.1 (by omega), fun x h1 h2 => (o1 x (Nat.lt_of_lt_of_le h1 ha.2.2.2.1)).trans (ha.2.2.2.2.1 x h1 h2), ha.2.2.2.2.2⟩
  have key := k ls H1 locs ha.1 hP1 (WS_D hL) hS1
  rw [List.map_cons, show lf L (.ref (430 + μ.2.2.2)) = .ref H.size from by show Value.ref _ = _; rw [hL.2.2.1, hsz]] at key
  exact W.widen (Nat.le_refl _) (by omega) key
theorem metO_of {f d : Nat} {Md : MI} {as : List Value} {μ : PM} {o : PO} (hst : l.stackTraces = false) (hL : LD N0 L) (hXN : L 390 < N0) (ih : RunP l N0 L D cA f) (hMd : mtab d = some Md) (hlv : lvl d as < 1000000) (hoB : o.2.2.2.2 < 1000000) (h : prun f d (lvl d as) (0, entryL (mxl d) as, [], μ) = some o) : MetO l N0 L D cA d (lvl d as) as μ o := by
  have hlen : (layA as).length ≤ mxl d := by
    unfold lvl at hlv
    cases hq : Nat.ble (layA as).length (mxl d)
    · rw [hq] at hlv; exact absurd hlv (Nat.lt_irrefl _)
    · exact Nat.ble_eq.mp hq
  have hok := prun_ok _ _ _ _ _ h
  have body : ∀ (p : Program) (e : Env) (s : State) (m : MethodId) (args : Array Value) (below : List Frame) (meth : Method) (c : Code), p.tables.exec = Jvm.exec → c.code = (mrec d).2.1 → c.maxLocals = mxl d → meth.sig.returnType = (mrec d).2.2.1 → meth.locks = false → s.vm.findClass (yN d).cls = some m.cls → (∀ w ∈ lwG, w.before args s = true) → c.exceptionTable.toList = tableOf (mrec d).2.2.2 → args = (as.map (lf L)).toArray → Wd N0 L D cA μ s →
      W p l e (rmL (lvl d as) (o.2.2.2.2 - μ.2.2.2)) s m args below meth c s.heap [] 0 0 (vx_MQ below (QO N0 L D cA o) (XO N0 L D cA o) args s (o.2.2.2.2 - μ.2.2.2) (30 * (o.2.2.2.2 - μ.2.2.2)) (jA N0)) (entryFrame m args (mxl d)) := by
    intro p e s m args below meth c hx hb hml hr hlocks hown hts htab hv hW
    subst hv
    obtain ⟨hP, hK, hF, hX, hZ⟩ := hW
    have cx : Ctx p s m (as.map (lf L)).toArray meth c N0 L D cA d μ := ⟨hx, hb, hml, hr, hlocks, hown, hts, htab, hK, hF, hX, hXN⟩
    have hLR := entry_LR (L := L) hlen
    rw [lg_entry_eq]
    generalize (lg_sl (as.map (lf L)) ++ List.replicate (mxl d - (lg_sl (as.map (lf L))).length) Slot.unset).toArray = ls at hLR ⊢
    have ha : At_ s.heap L D cA (jA N0) (mxl d) s.heap [] ls (entryL (mxl d) as) μ := ⟨hLR, hP, WS_D hL, va_S.rf⟩
    have key := ih d (lvl d as) 0 (entryL (mxl d) as) [] μ o Md hlv hMd h hoB p e (rmL (lvl d as) (o.2.2.2.2 - μ.2.2.2)) s m (as.map (lf L)).toArray below meth c s.heap [] (vx_MQ below (QO N0 L D cA o) (XO N0 L D cA o) (as.map (lf L)).toArray s (o.2.2.2.2 - μ.2.2.2) (30 * (o.2.2.2.2 - μ.2.2.2)) (jA N0)) 0 0 μ.2.2.2 μ ls cx (Nat.le_refl _) (Nat.le_refl _) (Nat.le_refl _) (by show 0 + _ ≤ _; rw [Nat.zero_add]; exact Nat.le_refl _) (by show 0 + _ ≤ _; rw [Nat.zero_add]; exact Nat.le_refl _) (by rw [Nat.add_zero]; exact hZ) Sc.rf ha ?_
    · rw [Nat.sub_self] at key; exact key
    · intro pc' pl' st' μ' ls' H' locs' i ln hlk hp hsc hb' ha'
      have hle := (end_ok hMd hp).2.1
      cases ho : o.1 with
      | inl v => exact sim_ret cx hMd hlk hp ho (by omega) (by omega) ha'
      | inr k =>
        have := hok.2.2 k ho
        omega
  cases hemp : (mrec d).2.2.2.isEmpty
  · have hcw := cwN_with hMd hemp
    refine vx_ofWH (cc := (mrec d).2.1) (maxL := mxl d) (ret := (mrec d).2.2.1) (hh := (mrec d).2.2.2) (mok hMd).2.2.2.2.1 (by rw [hcw]) ?_
    intro p e s m args below meth c s₁ B hml hv
    have hts0 := atoms_spec (ws := cwN d :: lwG) B.pre
    have hcb : (Cond.codeWith (yN d) (mrec d).2.1 (mxl d) (mrec d).2.2.1 (mrec d).2.2.2).before args s = true := by
      rw [← hcw]; exact hts0 _ List.mem_cons_self
    exact body p e s m args below meth c B.exec B.bytes hml B.returns B.notSynchronized (findClass_of_methodNamed B.named) (fun w hw => hts0 w (List.mem_cons_of_mem _ hw)) (vx_table (x := yN d) B hcb) hv.1 hv.2
  · have hcw := cwN_code hMd hemp
    refine vx_ofW (cc := (mrec d).2.1) (maxL := mxl d) (ret := (mrec d).2.2.1) (mok hMd).2.2.2.2.1 (by rw [hcw]) ?_
    intro p e s m args below meth c s₁ B hml ht hv
    have hts0 := atoms_spec (ws := cwN d :: lwG) B.pre
    have htab : c.exceptionTable.toList = tableOf (mrec d).2.2.2 := by
      rw [List.isEmpty_iff.mp hemp]
      cases hq : c.exceptionTable.toList with
      | nil => rfl
      | cons x r => exact (ht x (by rw [hq]; exact List.mem_cons_self)).elim
    exact body p e s m args below meth c B.exec B.bytes hml B.returns B.notSynchronized (findClass_of_methodNamed B.named) (fun w hw => hts0 w (List.mem_cons_of_mem _ hw)) htab hv.1 hv.2
/-- methods without calls don't throw -/
def quiet (i : Instr) : Bool := match i with | .new _ => false | .invokestatic _ => false | .invokevirtual _ => false | _ => true
theorem holds_quiet : (mi_X10_holds.1.all fun c => c.all fun z => quiet z.2.1) = true := by decide +kernel
theorem holds_inl : ∀ (f lv : Nat) (ps : PS) (o : PO), prun f nX10_holds lv ps = some o → ∃ v, o.1 = .inl v := by
  intro f
  induction f with
  | zero => intro lv ps o h; cases h
  | succ f ih =>
    intro lv ps o h
    obtain ⟨pc, pl, st, μ⟩ := ps
    have hM : mtab nX10_holds = some mi_X10_holds := rfl
    rw [prun, hM] at h
    simp only at h
    have hstep : ∀ r, pstep mi_X10_holds (pc, pl, st, μ) = some (.inr r) → ∃ v, r = .inr (.inl v, μ) := by
      intro r hr
      unfold pstep at hr
      simp only at hr
      split at hr
      · cases hr
      · rename_i i ln hl
        have hq : quiet i = true := by
          unfold lk2 at hl
          have hm := lk_mem hl
          by_cases hq : pc / 32 < mi_X10_holds.1.length
          · rw [List.getD_eq_getElem?_getD, List.getElem?_eq_getElem hq, Option.getD_some] at hm
            exact List.all_eq_true.mp (List.all_eq_true.mp holds_quiet _ (List.getElem_mem hq)) _ hm
          · rw [List.getD_eq_getElem?_getD, List.getElem?_eq_none (Nat.le_of_not_lt hq)] at hm
            exact absurd hm List.not_mem_nil
        have fin : ∀ r2 : PCl ⊕ PO, r2 = r → (∀ o9 : PO, r2 = .inr o9 → ∃ v, o9 = (.inl v, μ)) → (∀ x, r2 = .inl x → False) → ∃ v, r = .inr (.inl v, μ) := by
          intro r2 e1 e2 e3
          subst e1
          cases r2 with
          | inl x => exact (e3 x rfl).elim
          | inr o9 => obtain ⟨v, rfl⟩ := e2 o9 rfl; exact ⟨v, rfl⟩
        rcases pex_inr hr with ⟨ix, rfl, hA⟩ | ⟨ix, rfl, hA⟩ | ⟨ix, rfl, hA⟩ | ⟨-, hA⟩ | ⟨-, hA⟩ | ⟨-, hA⟩ | ⟨-, hA⟩ | ⟨-, hA⟩
        · cases hq
        · cases hq
        · cases hq
        · refine fin r rfl (fun o9 q => art_mu (by rw [← q]; exact hA)) (fun x q => ?_)
          subst q
          unfold art at hA; split at hA <;> cases hA
        · refine fin r rfl (fun o9 q => drt_mu (by rw [← q]; exact hA)) (fun x q => ?_)
          subst q
          unfold drt at hA; split at hA <;> cases hA
        · refine fin r rfl (fun o9 q => irt_mu (by rw [← q]; exact hA)) (fun x q => ?_)
          subst q
          unfold irt at hA
          split at hA
          · split at hA
            · cases hA
            · split at hA <;> cases hA
            · cases hA
          · cases hA
        · refine fin r rfl (fun o9 q => jrt_mu (by rw [← q]; exact hA)) (fun x q => ?_)
          subst q
          unfold jrt at hA; split at hA <;> cases hA
        · refine fin r rfl (fun o9 q => vrt_mu (by rw [← q]; exact hA)) (fun x q => ?_)
          subst q
          unfold vrt at hA; split at hA <;> cases hA
    split at h
    · cases h
    · exact ih _ _ _ h
    · rename_i o1 hs
      obtain ⟨v, hv⟩ := hstep _ hs
      cases hv; cases h
      exact ⟨v, rfl⟩
    · rename_i hs
      obtain ⟨v, hv⟩ := hstep _ hs
      cases hv
theorem lvl_big {n lv : Nat} {as : List Value} (h : lvl n as < lv) (hb : lv ≤ 1000000) : lvl n as < 1000000 := Nat.lt_of_lt_of_le h hb
theorem runP (hst : l.stackTraces = false) (hL : LD N0 L) (hXN : L 390 < N0) : ∀ f, RunP l N0 L D cA f := by
  intro f
  induction f with
  | zero => intro n lv pc pl st μ o M _ hM h; cases h
  | succ f ih =>
    intro n lv pc pl st μ o M hlb hM h hoB p e R s m args below meth c H locs Q c0 s0 b μ0 ls cx hRf hRl hb hRc hRs hz0 hsc ha kE
    refine W_size (fun hzz => ?_)
    have hz : H.size ≤ L 430 + μ.2.2.2 := by omega
    have hok := prun_ok _ _ _ _ _ h
    rw [prun, hM] at h
    simp only at h
    have hstep : ∀ r, pstep M (pc, pl, st, μ) = some r → ∃ i ln, lk2 M.1 pc = some (i, ln) ∧ pex M i ln pc pl st μ = some r := by
      intro r hr
      unfold pstep at hr
      simp only at hr
      split at hr
      · cases hr
      · rename_i i ln hl
        exact ⟨i, ln, hl, hr⟩
    have hle : μ.2.2.2 ≤ o.2.2.2.2 := hok.2.1
    split at h
    · cases h
    · -- a step
      rename_i s' hs
      obtain ⟨pc1, pl1, st1, μ1⟩ := s'
      obtain ⟨i, ln, hlk, hp⟩ := hstep _ hs
      obtain ⟨k1, k2⟩ := pstep_sc hs
      simp only at k1 k2
      have hle1 := (prun_ok _ _ _ _ _ h).2.1
      simp only at hle1
      by_cases hnw : i = .newarray .int
      · subst hnw
        obtain ⟨r, e1, e2, e3, e4, e5⟩ := nwA_inv (show nwA pc pl st μ = some (.inl (pc1, pl1, st1, μ1)) from hp)
        have em : μ1.2.2.2 = μ.2.2.2 + 1 := by rw [e5]; rfl
        refine sim_newa cx hM hlk (show nwA pc pl st μ = some (.inl (pc1, pl1, st1, μ1)) from hp) hL hz (by omega) (by omega) ha (fun ls' H' locs' hLR hP hD hS => ?_)
        have := ih n lv pc1 pl1 st1 μ1 o M hlb hM h hoB p e R s m args below meth c H' locs' Q c0 s0 b μ0 ls' cx hRf hRl (by omega) hRc hRs hz0 (hsc.tr k1) ⟨hLR, hP, hD, hS⟩ kE
        have ec : c0 + (μ.2.2.2 - b) + 1 = c0 + (μ1.2.2.2 - b) := by omega
        have es : s0 + 30 * (μ.2.2.2 - b) + 30 = s0 + 30 * (μ1.2.2.2 - b) := by omega
        rw [ec, es]
        exact this
      · have k2 : μ1.2.2.2 = μ.2.2.2 := (pex_sc hnw hp).2
        refine sim_step cx hM hlk hp hnw hsc (by omega) (by omega) (by omega) (by omega) rfl ha (fun ls' H' locs' hLR hP hD hS => ?_)
        have := ih n lv pc1 pl1 st1 μ1 o M hlb hM h hoB p e R s m args below meth c H' locs' Q c0 s0 b μ0 ls' cx hRf hRl (by rw [k2]; exact hb) hRc hRs hz0 (hsc.tr k1) ⟨hLR, hP, hD, hS⟩ kE
        rw [k2] at this
        exact this
    · -- the end
      rename_i o1 hs
      cases h
      obtain ⟨i, ln, hlk, hp⟩ := hstep _ hs
      exact kE pc pl st μ ls H locs i ln hlk hp hsc hb ha
    · -- a call
      rename_i d as pc1 ls1 st1 μ1 hs
      obtain ⟨i, ln, hlk, hp⟩ := hstep _ hs
      have hμ := call_mu hp
      subst hμ
      by_cases hlv : lvl d as < lv
      · rw [if_pos hlv] at h
        split at h
        · cases h
        · rename_i o1 ho
          have hok1 := prun_ok _ _ _ _ _ ho
          obtain ⟨Md, hMd⟩ : ∃ Md, mtab d = some Md := by
            cases hq : mtab d with
            | some Md => exact ⟨Md, rfl⟩
            | none =>
              cases f with
              | zero => cases ho
              | succ f => rw [prun, hq] at ho; cases ho
          have hbig : lvl d as < 1000000 := Nat.lt_trans hlv hlb
          have hsc1 : Sc μ0 o1.2 := hsc.tr hok1.1
          have hex1 : μ1.2.2.2 ≤ o1.2.2.2.2 := hok1.2.1
          -- behind it
          have hend : o1.2.2.2.2 ≤ o.2.2.2.2 := by
            split at h
            · rename_i s' ha9
              have := (prun_ok _ _ _ _ _ h).2.1
              rw [aft_mu ha9] at this
              exact this
            · rename_i o2 ha9
              cases h
              obtain ⟨k, hk, rfl, -⟩ := aft_end ha9
              exact Nat.le_refl _
            · cases h
          have hoB1 : o1.2.2.2.2 < 1000000 := Nat.lt_of_le_of_lt hend hoB
          have hm := metO_of hst hL hXN ih hMd hbig hoB1 ho
          have hdlk := (mok hM).1.at hlk
          have fin : pc1 = pc → ls1 = pl → (hr : vx_Run p l e R s m args below meth c H locs (c0 + (μ1.2.2.2 - b)) (s0 + 30 * (μ1.2.2.2 - b)) (o1.2.2.2.2 - μ1.2.2.2) (30 * (o1.2.2.2.2 - μ1.2.2.2)) (F0 m pc ls (st.map (lf L))) (st1.map (lf L)) (QO N0 L D cA o1 (as.map (lf L)).toArray) (XO N0 L D cA o1) (jA N0)) →
              W p l e R s m args below meth c H locs (c0 + (μ1.2.2.2 - b)) (s0 + 30 * (μ1.2.2.2 - b)) Q (F0 m pc ls (st.map (lf L))) := by
            intro e1 e2 hr
            subst e1; subst e2
            have ec : c0 + (μ1.2.2.2 - b) + (o1.2.2.2.2 - μ1.2.2.2) = c0 + (o1.2.2.2.2 - b) := by omega
            have es : s0 + 30 * (μ1.2.2.2 - b) + 30 * (o1.2.2.2.2 - μ1.2.2.2) = s0 + 30 * (o1.2.2.2.2 - b) := by omega
            refine sim_call hr ha.2.2.2 ?_ ?_
            · intro v H1 locs1 hv hP1 hS1
              rw [ec, es]
              obtain ⟨o1a, μ2⟩ := o1
              simp only at hv
              subst hv
              have haft : aft M pc1 ls1 st1 (.inl v, μ2) = some (.inl (pc1 + 3, ls1, v.toList ++ st1, μ2)) := by cases v <;> rfl
              rw [haft] at h
              simp only at h
              have := ih n lv (pc1 + 3) ls1 (v.toList ++ st1) μ2 o M hlb hM h hoB p e R s m args below meth c H1 locs1 Q c0 s0 b μ0 ls cx hRf hRl (Nat.le_trans hb hex1) hRc hRs hz0 hsc1 ⟨ha.1, hP1, WS_D hL, hS1⟩ kE
              have e9 : (v.toList ++ st1).map (lf L) = (v.map (lf L)).toList ++ st1.map (lf L) := by cases v <;> simp
              rw [e9] at this
              exact this
            · intro k H1 locs1 q ce hk hP1 hS1 hc1 hc2 hc3
              have := hok1.2.2 k hk
              omega
          have c1 : c0 + (μ1.2.2.2 - b) + (o1.2.2.2.2 - μ1.2.2.2) ≤ R.cells := by omega
          have c2 : s0 + 30 * (μ1.2.2.2 - b) + 30 * (o1.2.2.2.2 - μ1.2.2.2) ≤ R.slots := by omega
          rcases pex_inr hp with ⟨ix, rfl, hA⟩ | ⟨ix, rfl, hA⟩ | ⟨ix, -, hA⟩ | ⟨-, hA⟩ | ⟨-, hA⟩ | ⟨-, hA⟩ | ⟨-, hA⟩ | ⟨-, hA⟩
          · have hq := Nat.eq_of_beq_eq_true hdlk.2
            subst hq
            obtain ⟨na, ci, k, he, hk, hcat, hcls, has, e1, e2, e3, -⟩ := ivV_call hA
            exact fin e1.symm e2.symm (go_V cx hM hMd hA hdlk.1 hm (by omega) (by omega) c1 c2 hsc rfl hz ha)
          · have hq := Nat.eq_of_beq_eq_true hdlk.2
            subst hq
            obtain ⟨tg, na, z, htg, he, hna, hcat, has, e1, e2, e3, -⟩ := ivS_call hA
            subst e3
            rcases htg with rfl | rfl
            · exact fin e1.symm e2.symm (go_S9 cx hM hMd he hna hcat has hdlk.1 hm (by omega) (by omega) c1 c2 hsc rfl hz ha)
            · have hd : d = nX10_holds := by
                have := ((mok hM).2.1 ix).2.2
                rw [he] at this
                exact (this.2 rfl).2
              subst hd
              obtain ⟨v, hv⟩ := holds_inl _ _ _ _ ho
              obtain ⟨o1a, μ2⟩ := o1
              simp only at hv
              subst hv
              exact fin e1.symm e2.symm (go_S10 cx hM hMd he hna hcat has hdlk.1 hm (by omega) (by omega) c1 c2 hsc rfl hz ha)
          · obtain ⟨_, _, _, _, q⟩ := thr_inv hA; cases q
          · unfold art at hA; split at hA <;> cases hA
          · unfold drt at hA; split at hA <;> cases hA
          · unfold irt at hA
            split at hA
            · split at hA
              · cases hA
              · split at hA <;> cases hA
              · cases hA
            · cases hA
          · unfold jrt at hA; split at hA <;> cases hA
          · unfold vrt at hA; split at hA <;> cases hA
      · rw [if_neg hlv] at h; cases h
end RUNP
