/-! THE RUN, BY INDUCTION ON ITS FUEL -/
section RUNP
variable {l : Launch} {N0 : Nat} {L : Nat → Nat} {D : va_G} {cA : Nat → ClassId}
def RunP (l : Launch) (N0 : Nat) (L : Nat → Nat) (D : va_G) (cA : Nat → ClassId) (f : Nat) : Prop :=
  ∀ (n lv pc : Nat) (pl st : List Value) (μ : PM) (o : PO) (M : MI), lv < 1000000 → mtab n = some M → prun f n lv (pc, pl, st, μ) = some o →
  ∀ (p : Program) (e : Env) (R : Room) (s : State) (m : MethodId) (args : Array Value) (below : List Frame) (meth : Method) (c : Code) (H : Heap) (locs : List Loc) (Q : State → Prop) (c0 s0 b : Nat) (μ0 : PM) (ls : Array Slot),
  Ctx p s m args meth c N0 L D cA n μ0 → 12 + lv ≤ R.frames → 260 + 60 * lv ≤ R.locals → b ≤ μ.2.2.2 → c0 + (o.2.2.2.2 - b) ≤ R.cells → s0 + 6 * (o.2.2.2.2 - b) ≤ R.slots → Sc μ0 μ → At_ s.heap L D cA (jA N0) (mxl n) H locs ls pl μ →
  (∀ (pc' : Nat) (pl' st' : List Value) (μ' : PM) (ls' : Array Slot) (H' : Heap) (locs' : List Loc) (i : Instr) (ln : Nat), lk2 M.1 pc' = some (i, ln) → pex M i ln pc' pl' st' μ' = some (.inr (.inr o)) → Sc μ0 μ' → b ≤ μ'.2.2.2 → At_ s.heap L D cA (jA N0) (mxl n) H' locs' ls' pl' μ' →
    W p l e R s m args below meth c H' locs' (c0 + (μ'.2.2.2 - b)) (s0 + 6 * (μ'.2.2.2 - b)) Q (F0 m pc' ls' (st'.map (lf L)))) →
  (∀ (k pc' : Nat) (ls' : Array Slot) (st' : List Value) (H' : Heap) (locs' : List Loc) (q : Addr) (ce : Cell), o.1 = .inr k → hfind M.2.2.2.2 pc' k = none → va_P D vwCl (WS L cA o.2) H' → va_S (jA N0) s.heap H' locs' → H'[q]? = some ce → ce.vm = .none → s.vm.findClass (exn k) = some ce.cls →
    vx_W p l e R s m args below meth c H' locs' (c0 + (o.2.2.2.2 - b)) (s0 + 6 * (o.2.2.2.2 - b)) Q (F0 m pc' ls' (st'.map (lf L))) q) →
  W p l e R s m args below meth c H locs (c0 + (μ.2.2.2 - b)) (s0 + 6 * (μ.2.2.2 - b)) Q (F0 m pc ls (st.map (lf L)))
theorem metO_of {f d : Nat} {Md : MI} {as : List Value} {μ : PM} {o : PO} (hst : l.stackTraces = false) (hL : LD N0 L) (hXN : L 390 < N0) (ih : RunP l N0 L D cA f) (hMd : mtab d = some Md) (hlv : lvl d as < 1000000) (h : prun f d (lvl d as) (0, entryL (mxl d) as, [], μ) = some o) : MetO l N0 L D cA d (lvl d as) as μ o := by
  have hlen : (layA as).length ≤ mxl d := by
    unfold lvl at hlv
    cases hq : Nat.ble (layA as).length (mxl d)
    · rw [hq] at hlv; exact absurd hlv (Nat.lt_irrefl _)
    · exact Nat.ble_eq.mp hq
  have hok := prun_ok _ _ _ _ _ h
  have body : ∀ (p : Program) (e : Env) (s : State) (m : MethodId) (args : Array Value) (below : List Frame) (meth : Method) (c : Code), p.tables.exec = Jvm.exec → c.code = (mrec d).2.1 → c.maxLocals = mxl d → meth.sig.returnType = (mrec d).2.2.1 → meth.locks = false → s.vm.findClass (yN d).cls = some m.cls → (∀ w ∈ lwG, w.before args s = true) → c.exceptionTable.toList = tableOf (mrec d).2.2.2 → args = (as.map (lf L)).toArray → Wd N0 L D cA μ s →
      W p l e (rmL (lvl d as) (o.2.2.2.2 - μ.2.2.2)) s m args below meth c s.heap [] 0 0 (vx_MQ below (QO N0 L D cA o) (XO N0 L D cA o) args s (o.2.2.2.2 - μ.2.2.2) (6 * (o.2.2.2.2 - μ.2.2.2)) (jA N0)) (entryFrame m args (mxl d)) := by
    intro p e s m args below meth c hx hb hml hr hlocks hown hts htab hv hW
    subst hv
    obtain ⟨hP, hK, hF, hX⟩ := hW
    have cx : Ctx p s m (as.map (lf L)).toArray meth c N0 L D cA d μ := ⟨hx, hb, hml, hr, hlocks, hown, hts, htab, hK, hF, hX, hXN⟩
    have hLR := entry_LR (L := L) hlen
    rw [lg_entry_eq]
    generalize (lg_sl (as.map (lf L)) ++ List.replicate (mxl d - (lg_sl (as.map (lf L))).length) Slot.unset).toArray = ls at hLR ⊢
    have ha : At_ s.heap L D cA (jA N0) (mxl d) s.heap [] ls (entryL (mxl d) as) μ := ⟨hLR, hP, WS_D hL, va_S.rf⟩
    have key := ih d (lvl d as) 0 (entryL (mxl d) as) [] μ o Md hlv hMd h p e (rmL (lvl d as) (o.2.2.2.2 - μ.2.2.2)) s m (as.map (lf L)).toArray below meth c s.heap [] (vx_MQ below (QO N0 L D cA o) (XO N0 L D cA o) (as.map (lf L)).toArray s (o.2.2.2.2 - μ.2.2.2) (6 * (o.2.2.2.2 - μ.2.2.2)) (jA N0)) 0 0 μ.2.2.2 μ ls cx (Nat.le_refl _) (Nat.le_refl _) (Nat.le_refl _) (by show 0 + _ ≤ _; rw [Nat.zero_add]; exact Nat.le_refl _) (by show 0 + _ ≤ _; rw [Nat.zero_add]; exact Nat.le_refl _) Sc.rf ha ?_ ?_
    · rw [Nat.sub_self] at key; exact key
    · intro pc' pl' st' μ' ls' H' locs' i ln hlk hp hsc hb' ha'
      have hle := (end_ok hMd hp).2.1
      cases ho : o.1 with
      | inl v => exact sim_ret cx hMd hlk hp ho (by omega) (by omega) ha'
      | inr k =>
        have hno : ∀ v, o ≠ (.inl v, μ') := fun v q => by rw [q] at ho; cases ho
        rcases pex_inr hp with ⟨ix, -, hA⟩ | ⟨ix, -, hA⟩ | ⟨ix, rfl, hA⟩ | ⟨-, hA⟩ | ⟨-, hA⟩ | ⟨-, hA⟩ | ⟨-, hA⟩ | ⟨-, hA⟩
        · exact (ivV_ret hA).elim
        · exact (ivS_ret hA).elim
        · obtain ⟨k9, z, he, hst9, hq⟩ := thr_inv hA
          have e1 : o.2.2.2.2 = μ'.2.2.2 + 1 := by cases hq; rfl
          refine sim_thr hst cx hMd hlk hA rfl (by show 6 ≤ 12 + _; omega) (by show 200 ≤ 260 + _; omega) ?_ ?_ ?_ ?_ ha'
          · show 0 + (μ'.2.2.2 - μ.2.2.2) + 1 ≤ o.2.2.2.2 - μ.2.2.2; omega
          · show 0 + 6 * (μ'.2.2.2 - μ.2.2.2) + 6 ≤ 6 * (o.2.2.2.2 - μ.2.2.2); omega
          · omega
          · omega
        · obtain ⟨v, q⟩ := art_mu hA; exact absurd q (hno v)
        · obtain ⟨v, q⟩ := drt_mu hA; exact absurd q (hno v)
        · obtain ⟨v, q⟩ := irt_mu hA; exact absurd q (hno v)
        · obtain ⟨v, q⟩ := jrt_mu hA; exact absurd q (hno v)
        · obtain ⟨v, q⟩ := vrt_mu hA; exact absurd q (hno v)
    · intro k pc' ls' st' H' locs' q ce ho hn hP' hS' hc1 hc2 hc3
      have hk := hok.2.2 k ho
      refine vx_outP hown hlocks (fun z hz => ?_) hc1 hc2 hc3 (fun t ht hW => ⟨⟨k, ho, rfl, by rw [ht]; exact hP'⟩, hS'.F ht⟩) hS'.2.2 (by omega) (by omega)
      rw [htab] at hz
      rcases hf_none _ _ pc' k (mok hMd).2.2.2.1 hn z hz with h | ⟨h1, j, hj, hkj, hcl⟩
      · exact Or.inl h
      · exact Or.inr ⟨h1, exn j, hts _ hcl, hF.2.2.1.2.2.2.2.1 k j hk.1 hk.2 hj.1 hj.2 hkj⟩
  cases hemp : (mrec d).2.2.2.isEmpty
  · have hcw := cwN_with hMd hemp
    refine vx_ofWH (cc := (mrec d).2.1) (maxL := mxl d) (ret := (mrec d).2.2.1) (hh := (mrec d).2.2.2) (mok hMd).2.2.2.2.1 (by rw [hcw]) ?_
    intro p e s m args below meth c s₁ B hml hv
    have hts0 := atoms_spec (ws := cwN d :: lwG) B.pre
    have hcb : (Cond.codeWith (yN d) (mrec d).2.1 (mxl d) (mrec d).2.2.1 (mrec d).2.2.2).before args s = true := by
      rw [← hcw]; exact hts0 _ List.mem_cons_self
    exact body p e s m args below meth c B.exec B.bytes hml B.returns B.notSynchronized (findClass_of_methodNamed B.named) (fun w hw => hts0 w (List.mem_cons_of_mem _ hw)) (vx_table (x := yN d) B hcb) hv.1 hv.2
  · have hcw := cwN_code hMd hemp
    refine vx_ofW (cc := (mrec d).2.1) (maxL := mxl d) (ret := (mrec d).2.2.1) (mok hMd).2.2.2.2.1 (by rw [hcw]) ?_
    intro p e s m args below meth c s₁ B hml ht hv
    have hts0 := atoms_spec (ws := cwN d :: lwG) B.pre
    have htab : c.exceptionTable.toList = tableOf (mrec d).2.2.2 := by
      rw [List.isEmpty_iff.mp hemp]
      cases hq : c.exceptionTable.toList with
      | nil => rfl
      | cons x r => exact (ht x (by rw [hq]; exact List.mem_cons_self)).elim
    exact body p e s m args below meth c B.exec B.bytes hml B.returns B.notSynchronized (findClass_of_methodNamed B.named) (fun w hw => hts0 w (List.mem_cons_of_mem _ hw)) htab hv.1 hv.2
theorem st1_inv {pc l i : Nat} {v : Value} {ls st : List Value} {μ : PM} {s' : PS} (h : st1 pc l i v ls st μ = some (.inl s')) : i < ls.length ∧ okS ls i = true ∧ s' = (pc + l, ls.set i v, st, μ) := by
  unfold st1 at h
  cases hq : Nat.blt i ls.length && okS ls i <;> rw [hq] at h
  · cases h
  · rw [Bool.and_eq_true] at hq
    cases h
    exact ⟨Nat.blt_eq.mp hq.1, hq.2, rfl⟩
/-- the handler of an exception, in the machine -/
theorem sim_catch {p : Program} {e : Env} {R : Room} {s : State} {m : MethodId} {args : Array Value} {below : List Frame} {meth : Method} {c : Code} {H : Heap} {locs : List Loc} {cells slots : Nat} {Q : State → Prop} {n pc k : Nat} {M : MI} {μ0 μ : PM} {pl : List Value} {st st9 : List Value} {ls : Array Slot} {s' : PS} {q : Addr} {ce : Cell}
    (cx : Ctx p s m args meth c N0 L D cA n μ0) (hM : mtab n = some M) (hk : 1 ≤ k ∧ k ≤ 3) (ha : At_ s.heap L D cA (jA N0) (mxl n) H locs ls pl μ) (haft : aft M pc pl st (.inr k, μ) = some (.inl s')) (hc1 : H[q]? = some ce) (hc2 : ce.vm = .none) (hc3 : s.vm.findClass (exn k) = some ce.cls)
    (kk : ∀ ls' : Array Slot, LR L (mxl n) s'.2.1 ls' → W p l e R s m args below meth c H locs cells slots Q (F0 m s'.1 ls' (s'.2.2.1.map (lf L)))) :
    vx_W p l e R s m args below meth c H locs cells slots Q (F0 m pc ls st9) q := by
  obtain ⟨hx, hb, hml, hr, hlocks, hown, hts, htab, hK, hF, hX, hXN⟩ := cx
  obtain ⟨hdc, -, -, hhok, -⟩ := mok hM
  unfold aft at haft
  simp only at haft
  split at haft
  · cases haft
  · rename_i h hfd
    obtain ⟨pre, x, suf, e1, e2, e3, e4, e5, e6⟩ := hf_some _ _ pc k h hhok hfd
    refine vx_catch hown pre x suf (by rw [htab, e1]) (fun z hz => ?_) e2 e3 (hts _ e5) (va_Nw.use rfl (hF.2.2.1.2.2.2.1 k hk.1 hk.2)) hc1 hc2 hc3 ?_
    · rcases e6 z hz with h6 | ⟨h1, j, hj, hkj, hcl⟩
      · exact Or.inl h6
      · exact Or.inr ⟨h1, exn j, hts _ hcl, hF.2.2.1.2.2.2.2.1 k j hk.1 hk.2 hj.1 hj.2 hkj⟩
    · rw [e4]
      split at haft
      · rename_i j ln hlk
        obtain ⟨hdg, hl⟩ := hdc.at hlk
        have hq := Nat.eq_of_beq_eq_true hl
        subst hq
        obtain ⟨i1, i2, rfl⟩ := st1_inv haft
        exact lv_astore hx hb hdg ha.1.has (by rw [← ha.1.1]; exact i1) rfl (fun ls' hl' => kk ls' (ha.1.st1 (v := pU) (w := .ref q) i1 i2 (fun hv => absurd rfl (hv 0)) hl'))
      · rename_i j ln hlk
        obtain ⟨hdg, hl⟩ := hdc.at hlk
        have hq := Nat.eq_of_beq_eq_true hl
        subst hq
        obtain ⟨i1, i2, rfl⟩ := st1_inv haft
        exact lv_astore_n hx hb hdg rfl ha.1.has (by rw [← ha.1.1]; exact i1) rfl (fun ls' hl' => kk ls' (ha.1.st1 (v := pU) (w := .ref q) i1 i2 (fun hv => absurd rfl (hv 0)) hl'))
      · cases haft
/-- methods without calls don't throw -/
def quiet (i : Instr) : Bool := match i with | .new _ => false | .invokestatic _ => false | .invokevirtual _ => false | _ => true
theorem holds_quiet : (mi_X10_holds.1.all fun c => c.all fun z => quiet z.2.1) = true := by decide +kernel
theorem holds_inl : ∀ (f lv : Nat) (ps : PS) (o : PO), prun f nX10_holds lv ps = some o → ∃ v, o.1 = .inl v := by
  intro f
  induction f with
  | zero => intro lv ps o h; cases h
  | succ f ih =>
    intro lv ps o h
    obtain ⟨pc, pl, st, μ⟩ := ps
    have hM : mtab nX10_holds = some mi_X10_holds := rfl
    rw [prun, hM] at h
    simp only at h
    have hstep : ∀ r, pstep mi_X10_holds (pc, pl, st, μ) = some (.inr r) → ∃ v, r = .inr (.inl v, μ) := by
      intro r hr
      unfold pstep at hr
      simp only at hr
      split at hr
      · cases hr
      · rename_i i ln hl
        have hq : quiet i = true := by
          unfold lk2 at hl
          have hm := lk_mem hl
          by_cases hq : pc / 32 < mi_X10_holds.1.length
          · rw [List.getD_eq_getElem?_getD, List.getElem?_eq_getElem hq, Option.getD_some] at hm
            exact List.all_eq_true.mp (List.all_eq_true.mp holds_quiet _ (List.getElem_mem hq)) _ hm
          · rw [List.getD_eq_getElem?_getD, List.getElem?_eq_none (Nat.le_of_not_lt hq)] at hm
            exact absurd hm List.not_mem_nil
        have fin : ∀ r2 : PCl ⊕ PO, r2 = r → (∀ o9 : PO, r2 = .inr o9 → ∃ v, o9 = (.inl v, μ)) → (∀ x, r2 = .inl x → False) → ∃ v, r = .inr (.inl v, μ) := by
          intro r2 e1 e2 e3
          subst e1
          cases r2 with
          | inl x => exact (e3 x rfl).elim
          | inr o9 => obtain ⟨v, rfl⟩ := e2 o9 rfl; exact ⟨v, rfl⟩
        rcases pex_inr hr with ⟨ix, rfl, hA⟩ | ⟨ix, rfl, hA⟩ | ⟨ix, rfl, hA⟩ | ⟨-, hA⟩ | ⟨-, hA⟩ | ⟨-, hA⟩ | ⟨-, hA⟩ | ⟨-, hA⟩
        · cases hq
        · cases hq
        · cases hq
        · refine fin r rfl (fun o9 q => art_mu (by rw [← q]; exact hA)) (fun x q => ?_)
          subst q
          unfold art at hA; split at hA <;> cases hA
        · refine fin r rfl (fun o9 q => drt_mu (by rw [← q]; exact hA)) (fun x q => ?_)
          subst q
          unfold drt at hA; split at hA <;> cases hA
        · refine fin r rfl (fun o9 q => irt_mu (by rw [← q]; exact hA)) (fun x q => ?_)
          subst q
          unfold irt at hA
          split at hA
          · split at hA
            · cases hA
            · split at hA <;> cases hA
            · cases hA
          · cases hA
        · refine fin r rfl (fun o9 q => jrt_mu (by rw [← q]; exact hA)) (fun x q => ?_)
          subst q
          unfold jrt at hA; split at hA <;> cases hA
        · refine fin r rfl (fun o9 q => vrt_mu (by rw [← q]; exact hA)) (fun x q => ?_)
          subst q
          unfold vrt at hA; split at hA <;> cases hA
    split at h
    · cases h
    · exact ih _ _ _ h
    · rename_i o1 hs
      obtain ⟨v, hv⟩ := hstep _ hs
      cases hv; cases h
      exact ⟨v, rfl⟩
    · rename_i hs
      obtain ⟨v, hv⟩ := hstep _ hs
      cases hv
theorem lvl_big {n lv : Nat} {as : List Value} (h : lvl n as < lv) (hb : lv ≤ 1000000) : lvl n as < 1000000 := Nat.lt_of_lt_of_le h hb
theorem runP (hst : l.stackTraces = false) (hL : LD N0 L) (hXN : L 390 < N0) : ∀ f, RunP l N0 L D cA f := by
  intro f
  induction f with
  | zero => intro n lv pc pl st μ o M _ hM h; cases h
  | succ f ih =>
    intro n lv pc pl st μ o M hlb hM h p e R s m args below meth c H locs Q c0 s0 b μ0 ls cx hRf hRl hb hRc hRs hsc ha kE kX
    have hok := prun_ok _ _ _ _ _ h
    rw [prun, hM] at h
    simp only at h
    have hstep : ∀ r, pstep M (pc, pl, st, μ) = some r → ∃ i ln, lk2 M.1 pc = some (i, ln) ∧ pex M i ln pc pl st μ = some r := by
      intro r hr
      unfold pstep at hr
      simp only at hr
      split at hr
      · cases hr
      · rename_i i ln hl
        exact ⟨i, ln, hl, hr⟩
    have hle : μ.2.2.2 ≤ o.2.2.2.2 := hok.2.1
    split at h
    · cases h
    · -- a step
      rename_i s' hs
      obtain ⟨pc1, pl1, st1, μ1⟩ := s'
      obtain ⟨i, ln, hlk, hp⟩ := hstep _ hs
      obtain ⟨k1, k2⟩ := pstep_sc hs
      simp only at k1 k2
      refine sim_step cx hM hlk hp hsc (by omega) (by omega) (by omega) (by omega) rfl ha (fun ls' H' locs' hLR hP hD hS => ?_)
      have := ih n lv pc1 pl1 st1 μ1 o M hlb hM h p e R s m args below meth c H' locs' Q c0 s0 b μ0 ls' cx hRf hRl (by rw [k2]; exact hb) hRc hRs (hsc.tr k1) ⟨hLR, hP, hD, hS⟩ kE kX
      rw [k2] at this
      exact this
    · -- the end
      rename_i o1 hs
      cases h
      obtain ⟨i, ln, hlk, hp⟩ := hstep _ hs
      exact kE pc pl st μ ls H locs i ln hlk hp hsc hb ha
    · -- a call
      rename_i d as pc1 ls1 st1 μ1 hs
      obtain ⟨i, ln, hlk, hp⟩ := hstep _ hs
      have hμ := call_mu hp
      subst hμ
      by_cases hlv : lvl d as < lv
      · rw [if_pos hlv] at h
        split at h
        · cases h
        · rename_i o1 ho
          have hok1 := prun_ok _ _ _ _ _ ho
          obtain ⟨Md, hMd⟩ : ∃ Md, mtab d = some Md := by
            cases hq : mtab d with
            | some Md => exact ⟨Md, rfl⟩
            | none =>
              cases f with
              | zero => cases ho
              | succ f => rw [prun, hq] at ho; cases ho
          have hbig : lvl d as < 1000000 := Nat.lt_trans hlv hlb
          have hm := metO_of hst hL hXN ih hMd hbig ho
          have hsc1 : Sc μ0 o1.2 := hsc.tr hok1.1
          have hex1 : μ1.2.2.2 ≤ o1.2.2.2.2 := hok1.2.1
          -- behind it
          have hend : o1.2.2.2.2 ≤ o.2.2.2.2 := by
            split at h
            · rename_i s' ha9
              have := (prun_ok _ _ _ _ _ h).2.1
              rw [aft_mu ha9] at this
              exact this
            · rename_i o2 ha9
              cases h
              obtain ⟨k, hk, rfl, -⟩ := aft_end ha9
              exact Nat.le_refl _
            · cases h
          have hdlk := (mok hM).1.at hlk
          have fin : pc1 = pc → ls1 = pl → (hr : vx_Run p l e R s m args below meth c H locs (c0 + (μ1.2.2.2 - b)) (s0 + 6 * (μ1.2.2.2 - b)) (o1.2.2.2.2 - μ1.2.2.2) (6 * (o1.2.2.2.2 - μ1.2.2.2)) (F0 m pc ls (st.map (lf L))) (st1.map (lf L)) (QO N0 L D cA o1 (as.map (lf L)).toArray) (XO N0 L D cA o1) (jA N0)) →
              W p l e R s m args below meth c H locs (c0 + (μ1.2.2.2 - b)) (s0 + 6 * (μ1.2.2.2 - b)) Q (F0 m pc ls (st.map (lf L))) := by
            intro e1 e2 hr
            subst e1; subst e2
            have ec : c0 + (μ1.2.2.2 - b) + (o1.2.2.2.2 - μ1.2.2.2) = c0 + (o1.2.2.2.2 - b) := by omega
            have es : s0 + 6 * (μ1.2.2.2 - b) + 6 * (o1.2.2.2.2 - μ1.2.2.2) = s0 + 6 * (o1.2.2.2.2 - b) := by omega
            refine sim_call hr ha.2.2.2 ?_ ?_
            · intro v H1 locs1 hv hP1 hS1
              rw [ec, es]
              obtain ⟨o1a, μ2⟩ := o1
              simp only at hv
              subst hv
              have haft : aft M pc1 ls1 st1 (.inl v, μ2) = some (.inl (pc1 + 3, ls1, v.toList ++ st1, μ2)) := by cases v <;> rfl
              rw [haft] at h
              simp only at h
              have := ih n lv (pc1 + 3) ls1 (v.toList ++ st1) μ2 o M hlb hM h p e R s m args below meth c H1 locs1 Q c0 s0 b μ0 ls cx hRf hRl (Nat.le_trans hb hex1) hRc hRs hsc1 ⟨ha.1, hP1, WS_D hL, hS1⟩ kE kX
              have e9 : (v.toList ++ st1).map (lf L) = (v.map (lf L)).toList ++ st1.map (lf L) := by cases v <;> simp
              rw [e9] at this
              exact this
            · intro k H1 locs1 q ce hk hP1 hS1 hc1 hc2 hc3
              rw [ec, es]
              obtain ⟨o1a, μ2⟩ := o1
              simp only at hk
              subst hk
              have hkk := hok1.2.2 k rfl
              split at h
              · rename_i s' haft
                have hmu := aft_mu haft
                refine sim_catch cx hM hkk ⟨ha.1, hP1, WS_D hL, hS1⟩ haft hc1 hc2 hc3 (fun ls' hLR => ?_)
                obtain ⟨pc2, pl2, st2, μ3⟩ := s'
                simp only at hmu
                subst hmu
                exact ih n lv pc2 pl2 st2 μ3 o M hlb hM h p e R s m args below meth c H1 locs1 Q c0 s0 b μ0 ls' cx hRf hRl (Nat.le_trans hb hex1) hRc hRs hsc1 ⟨hLR, hP1, WS_D hL, hS1⟩ kE kX
              · rename_i o2 haft
                cases h
                obtain ⟨k2, hk2, rfl, hn⟩ := aft_end haft
                cases hk2
                exact kX k pc1 ls st1 H1 locs1 q ce rfl hn hP1 hS1 hc1 hc2 hc3
              · cases h
          have c1 : c0 + (μ1.2.2.2 - b) + (o1.2.2.2.2 - μ1.2.2.2) ≤ R.cells := by omega
          have c2 : s0 + 6 * (μ1.2.2.2 - b) + 6 * (o1.2.2.2.2 - μ1.2.2.2) ≤ R.slots := by omega
          rcases pex_inr hp with ⟨ix, rfl, hA⟩ | ⟨ix, rfl, hA⟩ | ⟨ix, -, hA⟩ | ⟨-, hA⟩ | ⟨-, hA⟩ | ⟨-, hA⟩ | ⟨-, hA⟩ | ⟨-, hA⟩
          · have hq := Nat.eq_of_beq_eq_true hdlk.2
            subst hq
            obtain ⟨na, ci, k, he, hk, hcat, hcls, has, e1, e2, e3, -⟩ := ivV_call hA
            exact fin e1.symm e2.symm (go_V cx hM hMd hA hdlk.1 hm (by omega) (by omega) c1 c2 hsc rfl ha)
          · have hq := Nat.eq_of_beq_eq_true hdlk.2
            subst hq
            obtain ⟨tg, na, z, htg, he, hna, hcat, has, e1, e2, e3, -⟩ := ivS_call hA
            subst e3
            rcases htg with rfl | rfl
            · exact fin e1.symm e2.symm (go_S9 cx hM hMd he hna hcat has hdlk.1 hm (by omega) (by omega) c1 c2 hsc rfl ha)
            · have hd : d = nX10_holds := by
                have := ((mok hM).2.1 ix).2.2
                rw [he] at this
                exact (this.2 rfl).2
              subst hd
              obtain ⟨v, hv⟩ := holds_inl _ _ _ _ ho
              obtain ⟨o1a, μ2⟩ := o1
              simp only at hv
              subst hv
              exact fin e1.symm e2.symm (go_S10 cx hM hMd he hna hcat has hdlk.1 hm (by omega) (by omega) c1 c2 hsc rfl ha)
          · obtain ⟨_, _, _, _, q⟩ := thr_inv hA; cases q
          · unfold art at hA; split at hA <;> cases hA
          · unfold drt at hA; split at hA <;> cases hA
          · unfold irt at hA
            split at hA
            · split at hA
              · cases hA
              · split at hA <;> cases hA
              · cases hA
            · cases hA
          · unfold jrt at hA; split at hA <;> cases hA
          · unfold vrt at hA; split at hA <;> cases hA
      · rw [if_neg hlv] at h; cases h
end RUNP
