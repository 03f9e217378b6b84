/-! FROM THE LAW'S ENTRY TO ITS LOOP (wip/whole/genent.py) -/
section ENT
variable {s : State} {b : Nat}
theorem ci_inst : ∀ ci, ci < 10 → Cond.instantiable (clT ci).1 (clT ci).2.2 ∈ lwG := by
  intro ci hci
  match ci, hci with
  | 0, _ => exact tix_in (q := (1, 47)) rfl rfl
  | 1, _ => exact tix_in (q := (2, 9)) rfl rfl
  | 2, _ => exact tix_in (q := (1, 75)) rfl rfl
  | 3, _ => exact tix_in (q := (2, 44)) rfl rfl
  | 4, _ => exact tix_in (q := (2, 24)) rfl rfl
  | 5, _ => exact tix_in (q := (1, 122)) rfl rfl
  | 6, _ => exact tix_in (q := (1, 229)) rfl rfl
  | 7, _ => exact tix_in (q := (1, 36)) rfl rfl
  | 8, _ => exact tix_in (q := (1, 28)) rfl rfl
  | 9, _ => exact tix_in (q := (5, 46)) rfl rfl
theorem st_prim {args : Array Value} {ty : FieldType} (hp : refKind ty = false) (h : (Cond.arrayClass ty).before args s = true) : ∃ c, ArrOfT s c ty ∧ va_RA s c ty := by
  obtain ⟨c, k, comp, h1, h2, h3⟩ := Cond.arrayClass_spec h
  refine ⟨c, fun n z => ⟨(fun k h => by cases h), k, h2, comp, h3⟩, ?_⟩
  cases ty with
  | object C => cases hp
  | _ => exact h1
theorem st_obj {C : String} (h : va_AO C s) : ∃ c, ArrOfT s c (.object C) ∧ va_RA s c (.object C) := by
  obtain ⟨comp, c, k, h1, h2, h3, h4, h5⟩ := Cond.arrayOver_spec h
  exact ⟨c, fun n z => ⟨(fun k h => by cases h), k, h3, comp, h4⟩, k, comp, h3, h4, h1, h5⟩
theorem st_K (hts : ∀ w ∈ lw_tbl, w.before #[Value.ref b] s = true) : ∃ (D : va_G) (cA : Nat → ClassId), va_K D vwCl (tyL cA) s := by
  have htg : ∀ w ∈ lwG, w.before #[Value.ref b] s = true := fun w hw => hts w (List.mem_filter.mp hw).1
  obtain ⟨c20, a20, b20⟩ := st_prim (s := s) (ty := .int) rfl (hts _ (tix_mem (q := (1, 74)) rfl))
  obtain ⟨c21, a21, b21⟩ := st_prim (s := s) (ty := .long) rfl (hts _ (tix_mem (q := (7, 19)) rfl))
  obtain ⟨c22, a22, b22⟩ := st_obj (s := s) (C := "OrganCorners$Corner") (va_AO.of (hts _ (tix_mem (q := (1, 42)) rfl)))
  obtain ⟨c23, a23, b23⟩ := st_obj (s := s) (C := "OrganCorners$Organ") (va_AO.of (hts _ (tix_mem (q := (1, 44)) rfl)))
  obtain ⟨c24, a24, b24⟩ := st_obj (s := s) (C := "OrganCorners$Player") (va_AO.of (hts _ (tix_mem (q := (1, 46)) rfl)))
  obtain ⟨c26, a26, b26⟩ := st_obj (s := s) (C := "OrganCorners$Town") (va_AO.of (hts _ (tix_mem (q := (1, 235)) rfl)))
  have hk : ∀ ci, ∃ z : ClassId × (Nat → Nat), ci < 10 → u_Kn s (clT ci).1 (clT ci).2.1 (clT ci).2.2 z.1 z.2 := by
    intro ci
    by_cases h : ci < 10
    · obtain ⟨cC, iS, h1⟩ := u_known htg (cl_in ci _ (cl_get h)) (htg _ (ci_inst ci h))
      exact ⟨(cC, iS), fun _ => h1⟩
    · exact ⟨(0, fun _ => 0), fun z => absurd z h⟩
  refine ⟨(fun c => (hk c).choose.1, fun c => (hk c).choose.2), fun k => match k with | 20 => c20 | 21 => c21 | 22 => c22 | 23 => c23 | 24 => c24 | _ => c26, fun c q hq => ?_, fun k q hq => ?_⟩
  · have h1 : c < 10 := (List.getElem?_eq_some_iff.mp hq).1
    have h2 := (hk c).choose_spec h1
    cases Option.some.inj ((cl_get h1).symm.trans hq)
    exact h2
  · match k, hq with
    | 0, hq => cases hq; exact ⟨a20, b20⟩
    | 1, hq => cases hq; exact ⟨a21, b21⟩
    | 2, hq => cases hq; exact ⟨a22, b22⟩
    | 3, hq => cases hq; exact ⟨a23, b23⟩
    | 4, hq => cases hq; exact ⟨a24, b24⟩
    | 5, hq => cases hq; exact ⟨a26, b26⟩
    | k + 6, hq => cases hq
theorem SF.congr {L L' : Nat → Nat} {A : Nat → Prop} {U : State} {H : Heap} (h : SF L A U H) (e : ∀ k, 400 ≤ k → L' k = L k) : SF L' A U H := by
  have e0 := e 400 (by decide)
  have e1 := e 401 (by decide)
  have e2 := e 402 (by decide)
  have e3 := e 411 (by decide)
  have e4 : ∀ j, L' (410 + j) = L (410 + j) := fun j => e _ (by omega)
  have e5 : ∀ j, L' (420 + j) = L (420 + j) := fun j => e _ (by omega)
  have e6 : ∀ j, L' (421 + j) = L (421 + j) := fun j => e _ (by omega)
  unfold SF SF1 SF2 at h ⊢
  simp only [e0, e1, e2, e3, e4, e5, e6]
  exact h
theorem st_WI {D : va_G} {cA : Nat → ClassId} (hts : ∀ w ∈ lw_tbl, w.before #[Value.ref b] s = true) (hK : va_K D vwCl (tyL cA) s) (hf : ∃ t, va_Z "OrganCorners" "FIRST_SETTINGS" "[I" (.ref t) (jA s.heap.size) s s.heap ∧ va_T .int t 5 (fun j => .int (([20, 2, 20, 25, 5] : List Int32).getD j 0)) (jA s.heap.size) s s.heap) : WI s.heap.size D cA s :=
  ⟨hK, hf, ⟨va_AO.of (hts _ (tix_mem (q := (1, 42)) rfl)), va_AO.of (hts _ (tix_mem (q := (1, 44)) rfl)), va_AO.of (hts _ (tix_mem (q := (1, 46)) rfl)), va_AO.of (hts _ (tix_mem (q := (1, 235)) rfl))⟩,
   va_Nw.of rfl (hts _ (tix_mem (q := (1, 48)) rfl)), va_Nw.of rfl (hts _ (tix_mem (q := (1, 76)) rfl)), va_Nw.of rfl (hts _ (tix_mem (q := (1, 123)) rfl)), va_Nw.of rfl (hts _ (tix_mem (q := (2, 10)) rfl)), va_Nw.of rfl (hts _ (tix_mem (q := (2, 25)) rfl)), va_Nw.of rfl (hts _ (tix_mem (q := (2, 45)) rfl)), va_Nw.of rfl (hts _ (tix_mem (q := (1, 154)) rfl))⟩
theorem dL_law_0 : decode cL_law 0 = .ok (.new 8, 3) := by decide +kernel
theorem dL_law_3 : decode cL_law 3 = .ok (.dup, 1) := by decide +kernel
theorem dL_law_4 : decode cL_law 4 = .ok (.invokespecial 93, 3) := by decide +kernel
theorem dL_law_7 : decode cL_law 7 = .ok (.astore_n 1, 1) := by decide +kernel
theorem dL_law_8 : decode cL_law 8 = .ok (.new 94, 3) := by decide +kernel
theorem dL_law_11 : decode cL_law 11 = .ok (.dup, 1) := by decide +kernel
theorem dL_law_12 : decode cL_law 12 = .ok (.invokespecial 96, 3) := by decide +kernel
theorem dL_law_15 : decode cL_law 15 = .ok (.astore_n 2, 1) := by decide +kernel
theorem dL_law_16 : decode cL_law 16 = .ok (.iconst 1, 1) := by decide +kernel
theorem dL_law_17 : decode cL_law 17 = .ok (.newarray .long, 2) := by decide +kernel
theorem dL_law_19 : decode cL_law 19 = .ok (.astore_n 3, 1) := by decide +kernel
theorem dL_law_20 : decode cL_law 20 = .ok (.iconst 0, 1) := by decide +kernel
theorem dL_law_21 : decode cL_law 21 = .ok (.istore 4, 2) := by decide +kernel
set_option maxHeartbeats 4000000 in
set_option maxRecDepth 100000 in
/-- the room has place, whatever it is to the unit -/
theorem rm_c : 400000 ≤ room_1.cells := by decide +kernel
theorem rm_s : 400000 ≤ room_1.slots := by decide +kernel
theorem law_entry {p : Program} {e : Env} {m : MethodId} {below : List Frame} {meth : Method} {c : Code} {Q : State → Prop} (l : Launch) (hst : l.stackTraces = false) {n : Nat} {xs : Nat → Int32} (hx : p.tables.exec = Jvm.exec) (hb : c.code = cL_law) (hr : meth.sig.returnType = (mrec 221).2.2.1) (hml : c.maxLocals = 9) (hlocks : meth.locks = false) (hown : s.vm.findClass "OrganCornersLaw" = some m.cls) (hts : ∀ w ∈ lw_tbl, w.before #[Value.ref b] s = true) (hgv : gvC.before #[Value.ref b] s = true) (htab : c.exceptionTable.toList = []) (hX : va_X b n xs s s.heap) (hbl : b < s.heap.size)
    (hsem : ∃ f o, prun f 221 13 (23, [.ref 390, .ref 0, .ref 12, .ref 22, .int 0, pU, pU, pU, pU], [], mu0 xs n) = some o ∧ o.1 = .inl (some (.int 1)) ∧ o.2.2.2.2 ≤ 20000)
    (kend : ∀ (pc : Nat) (ls : Array Slot) (H : Heap) (cells slots : Nat), decode cL_law pc = .ok (.ireturn, 1) → cells ≤ room_1.cells → slots ≤ room_1.slots → W p l e room_1 s m #[Value.ref b] below meth c H [] cells slots Q (F0 m pc ls [.int 1])) :
    W p l e room_1 s m #[Value.ref b] below meth c s.heap [] 0 0 Q (entryFrame m ([Value.ref b] : List Value).toArray 9) := by
  obtain ⟨ad, hSF, hFS⟩ := SF_start hts hgv
  obtain ⟨D, cA, hK⟩ := st_K hts
  have hWI := st_WI hts hK hFS
  have htg : ∀ w ∈ lwG, w.before #[Value.ref b] s = true := fun w hw => hts w (List.mem_filter.mp hw).1
  have hA : ∀ z, s.heap.size ≤ z → jA s.heap.size z := fun z h => h
  have hA1 : ∀ z, jA s.heap.size z → jA s.heap.size z := fun z h => h
  have hS : va_S (jA s.heap.size) s.heap s.heap [] := va_S.rf
  have hP : va_P D vwCl [] s.heap := fun k q h => by simp at h
  have hD : va_D (jA s.heap.size) [] := ⟨fun i j p q h => by simp at h, fun k q h => by simp at h⟩
  have hl := lv_entry ([.ref b]) (n := 9) (Nat.le_of_ble_eq_true rfl)
  rw [lg_entry_eq]
  generalize (lg_sl ([.ref b]) ++ List.replicate (9 - (lg_sl ([.ref b])).length) Slot.unset).toArray = ls at hl ⊢
  have hl : lv_has ls 9 [(0, .ref b)] := hl
  refine k_new (own := "OrganCornersLaw") (ci := 8) (N := 5) hx hb hown htg hK hP hD hS hA (by decide) (tix_in (q := (1, 27)) rfl rfl) (tix_in (q := (1, 28)) rfl rfl) (tix_in (q := (1, 1)) rfl rfl) rfl (Nat.le_of_ble_eq_true rfl) (Nat.le_of_ble_eq_true rfl) dL_law_0 ?_
  intro q1 H1 hq1 hAq1 hP hD hS
  refine lv_dup hx hb dL_law_3 rfl ?_
  refine k_ctor (own := "OrganCornersLaw") (k := 3) (maxL := 1) (grp := grpA cA) cm_oc hx hb hml hl.1 hown htg hWI hP hD hS hA1 hA hq1 hAq1 (tix_in (q := (1, 29)) rfl rfl) (tix_in (q := (1, 30)) rfl rfl) (tix_in (q := (1, 1)) rfl rfl) (tix_in (q := (1, 31)) rfl rfl) rfl (by decide +kernel) ⟨(Nat.le_of_ble_eq_true rfl), (Nat.le_of_ble_eq_true rfl)⟩ (Nat.le_of_ble_eq_true rfl) dL_law_4 ⟨(Nat.le_of_ble_eq_true rfl), (Nat.le_of_ble_eq_true rfl)⟩ ?_
  intro g1 H1_ L1 hg1 hP hD hS
  refine lv_astore_n hx hb dL_law_7 rfl hl (by decide) rfl (fun ls hl => ?_)
  refine k_new (own := "OrganCornersLaw") (ci := 9) (N := 18) hx hb hown htg hK hP hD hS hA (by decide) (tix_in (q := (5, 45)) rfl rfl) (tix_in (q := (5, 46)) rfl rfl) (tix_in (q := (1, 11)) rfl rfl) rfl (Nat.le_of_ble_eq_true rfl) (Nat.le_of_ble_eq_true rfl) dL_law_8 ?_
  intro q2 H2 hq2 hAq2 hP hD hS
  refine lv_dup hx hb dL_law_11 rfl ?_
  refine k_ctor (own := "OrganCornersLaw") (k := 0) (maxL := 1) (grp := grpM cA) cm_mdl hx hb hml hl.1 hown htg hWI hP hD hS hA1 hA hq2 hAq2 (tix_in (q := (5, 47)) rfl rfl) (tix_in (q := (5, 48)) rfl rfl) (tix_in (q := (1, 11)) rfl rfl) (tix_in (q := (5, 49)) rfl rfl) rfl (by decide +kernel) ⟨(Nat.le_of_ble_eq_true rfl), (Nat.le_of_ble_eq_true rfl)⟩ (Nat.le_of_ble_eq_true rfl) dL_law_12 ⟨(Nat.le_of_ble_eq_true rfl), (Nat.le_of_ble_eq_true rfl)⟩ ?_
  intro g2 H2_ L2 hg2 hP hD hS
  refine lv_astore_n hx hb dL_law_15 rfl hl (by decide) rfl (fun ls hl => ?_)
  refine lv_iconst (v := 1) hx hb dL_law_16 rfl ?_
  refine k_newl (N := 1) hx hb htg hK hP hD hS hA (tix_in (q := (7, 19)) rfl rfl) (by decide) rfl (by decide) (Nat.le_of_ble_eq_true rfl) (Nat.le_of_ble_eq_true rfl) dL_law_17 ?_
  intro q3 H3 hP hD hS
  refine lv_astore_n hx hb dL_law_19 rfl hl (by decide) rfl (fun ls hl => ?_)
  refine lv_iconst (v := 0) hx hb dL_law_20 rfl ?_
  refine lv_istore hx hb dL_law_21 hl (by decide) rfl (fun ls hl => ?_)
  have hP : va_P D vwCl (W0 cA g1 g2 q3) H3 := hP
  have hD : va_D (jA s.heap.size) (W0 cA g1 g2 q3) := hD
  obtain ⟨hPW, hDW⟩ := WS_start (b := b) (ad := ad) (xs := xs) (n := n) hP hD
  rw [← hg1, ← hg2] at hl
  generalize hLe : LG g1 g2 q3 b ad = L at hPW hDW
  have hL390 : L 390 = b := by rw [← hLe]; rfl
  have hXN : L 390 < s.heap.size := by rw [hL390]; exact hbl
  have hLD : LD s.heap.size L := by
    refine ⟨fun i j hi hj hij => hDW.1 i j _ _ (WS_get hi) (WS_get hj) hij, fun i hi => ?_⟩
    exact hDW.2 i _ (WS_get hi)
  have hSF' : SF L (jA s.heap.size) s s.heap := hSF.congr (fun k hk => by
    rw [← hLe]
    unfold LG
    rw [if_neg (by omega), if_neg (by omega), if_neg (by omega), if_neg (by omega), if_neg (by omega), if_neg (by omega), if_neg (by omega), if_neg (by omega), if_neg (by omega), if_neg (by omega)])
  have hX' : va_X (L 390) (mu0 xs n).2.2.1 (mI (mu0 xs n) 390) s s.heap := by rw [hL390]; exact hX
  have hC : Ctx p s m #[Value.ref b] meth c s.heap.size L D cA 221 (mu0 xs n) := ⟨hx, hb, hml, hr, hlocks, hown, htg, htab, hK, hSF', hX', hXN⟩
  obtain ⟨f, o, hrun, ho, hex⟩ := hsem
  have hLR : LR L (mxl 221) [.ref 390, .ref 0, .ref 12, .ref 22, .int 0, pU, pU, pU, pU] ls := by
    refine ⟨rfl, hl.1, hl.2.1, fun i v hv hn => ?_⟩
    have k0 := lv_at hl 4 rfl
    have k1 := lv_at hl 3 rfl
    have k2 := lv_at hl 2 rfl
    have k3 := lv_at hl 1 rfl
    have k4 := lv_at hl 0 rfl
    match i, hv with
    | 0, hv => cases hv; refine k0.trans ?_; rw [← hL390]; rfl
    | 1, hv => cases hv; refine k1.trans ?_; rw [← hLe]; rfl
    | 2, hv => cases hv; refine k2.trans ?_; rw [← hLe]; rfl
    | 3, hv => cases hv; refine k3.trans ?_; rw [← hLe]; rfl
    | 4, hv => cases hv; exact k4
    | 5, hv => cases hv; exact absurd rfl (hn _)
    | 6, hv => cases hv; exact absurd rfl (hn _)
    | 7, hv => cases hv; exact absurd rfl (hn _)
    | 8, hv => cases hv; exact absurd rfl (hn _)
    | i + 9, hv => cases hv
  have := runP hst hLD hXN f 221 13 23 _ [] (mu0 xs n) o mi_L_law (by decide) hM_221 hrun p e room_1 s m #[Value.ref b] below meth c H3 L2 Q 345 4148 0 (mu0 xs n) ls hC (Nat.le_of_ble_eq_true rfl) (Nat.le_of_ble_eq_true rfl) (Nat.zero_le _) (by have hq := rm_c; omega) (by have hq := rm_s; omega) Sc.rf ⟨hLR, hPW, hDW, hS⟩ (fun pc' pl' st' μ' ls' H' locs' i ln hi hpex hsc hb' hat => ?_) (fun k pc' ls' st' H' locs' q ce hk => ?_)
  · exact this
  · obtain ⟨hdc, -, -, -, -⟩ := mok hM_221
    obtain ⟨hdg, hl9⟩ := hdc.at hi
    have hfg : ∀ (cells slots : Nat), W p l e room_1 s m #[Value.ref b] below meth c H' [] cells slots Q (F0 m pc' ls' (st'.map (lf L))) → W p l e room_1 s m #[Value.ref b] below meth c H' locs' cells slots Q (F0 m pc' ls' (st'.map (lf L))) := fun cells slots k => W.forget (locs := []) (fun q hq => hat.2.2.2.2.2 q hq) k
    refine hfg _ _ ?_
    rcases pex_inr hpex with ⟨ix, -, hA⟩ | ⟨ix, -, hA⟩ | ⟨ix, -, hA⟩ | ⟨rfl, hA⟩ | ⟨rfl, hA⟩ | ⟨rfl, hA⟩ | ⟨rfl, hA⟩ | ⟨rfl, hA⟩
    · exact (ivV_ret hA).elim
    · exact (ivS_ret hA).elim
    · obtain ⟨k, z, -, -, q⟩ := thr_inv hA
      cases q
      cases ho
    · unfold art at hA
      split at hA
      · cases hA; cases ho
      · cases hA; cases ho
      · cases hA
    · unfold drt at hA
      split at hA
      · cases hA; cases ho
      · cases hA
    · have q := Nat.eq_of_beq_eq_true hl9
      subst q
      unfold irt at hA
      split at hA
      · split at hA
        · rename_i h5
          cases h5
        · split at hA
          · cases hA
            cases ho
            exact kend _ _ _ _ _ hdg (Nat.le_trans (show 345 + (μ'.2.2.2 - 0) ≤ 400000 by have : μ'.2.2.2 ≤ 20000 := hex; omega) rm_c) (Nat.le_trans (show 4148 + 6 * (μ'.2.2.2 - 0) ≤ 400000 by have : μ'.2.2.2 ≤ 20000 := hex; omega) rm_s)
          · cases hA
        · cases hA
      · cases hA
    · unfold jrt at hA
      split at hA
      · cases hA; cases ho
      · cases hA
    · unfold vrt at hA
      split at hA
      · cases hA; cases ho
      · cases hA
  · rw [ho] at hk
    cases hk
end ENT
