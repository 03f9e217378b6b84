/-! CONSTRUCTORS: the saved towns, OrganCorners (wip/p32/genctor28.py) -/
section CTORH
set_option maxHeartbeats 4000000 in
set_option maxRecDepth 100000 in
theorem lp_sav {p : Program} {l : Launch} {e : Env} {R : Room} {s : State} {m : MethodId} {args : Array Value} {below : List Frame} {meth : Method} {c : Code} {Q : State → Prop} {N0 : Nat} {D : va_G} {cA : Nat → ClassId} {A : Nat → Prop} {q a : Nat} {fs : List Value} {tl : va_W} (hx : p.tables.exec = Jvm.exec) (hb : c.code = cX8_init) (hml : c.maxLocals = 2) (hown : s.vm.findClass "OrganCorners$SavedTowns" = some m.cls) (hts : ∀ w ∈ lwG, w.before args s = true) (hWI : WI N0 D cA s) (hA : ∀ z, s.heap.size ≤ z → A z) (hA1 : ∀ z, A z → jA N0 z) (hR1 : 4 ≤ R.frames) (hR2 : 181 ≤ R.locals) (hfs : fs[0]? = some (.ref a)) :
    ∀ n k, k + n = 6 → ∀ (h : Nat → Nat → Nat) (ls : Array Slot) (H : Heap) (locs : List Loc) (cells slots : Nat), lv_has ls 2 [(1, .int (Int32.ofNat k)), (0, .ref q)] → va_P D vwCl ((q, .inr (6, fs)) :: (a, .inl (cA 26, 6, .inr (.inr (.inr (.inr (ar k h)))))) :: (tl ++ fl (grpT cA) k h)) H → va_D A ((q, .inr (6, fs)) :: (a, .inl (cA 26, 6, .inr (.inr (.inr (.inr (ar k h)))))) :: (tl ++ fl (grpT cA) k h)) → va_S A s.heap H locs → cells + 46 * n ≤ R.cells → slots + 313 * n ≤ R.slots →
      (∀ (h : Nat → Nat → Nat) (ls : Array Slot) (H : Heap) (locs : List Loc), lv_has ls 2 [(1, .int (Int32.ofNat 6)), (0, .ref q)] → va_P D vwCl ((q, .inr (6, fs)) :: (a, .inl (cA 26, 6, .inr (.inr (.inr (.inr (ar 6 h)))))) :: (tl ++ fl (grpT cA) 6 h)) H → va_D A ((q, .inr (6, fs)) :: (a, .inl (cA 26, 6, .inr (.inr (.inr (.inr (ar 6 h)))))) :: (tl ++ fl (grpT cA) 6 h)) → va_S A s.heap H locs → W p l e R s m args below meth c H locs (cells + 46 * n) (slots + 313 * n) Q (F0 m 40 ls [])) →
      W p l e R s m args below meth c H locs cells slots Q (F0 m 15 ls []) := by
  intro n
  induction n with
  | zero =>
    intro k hk h ls H locs cells slots hl hP hD hS hc hs kx
    have hk9 : k = 6 := by omega
    subst hk9
    refine lv_iload_n hx hb dX8_init_15 rfl (lv_at hl 0 rfl) ?_
    refine lv_bipush (v := 6) hx hb dX8_init_16 rfl ?_
    refine lv_icmp_ge (tgt := 40) hx hb dX8_init_18 (by decide) (fun _ => ?_) (fun z => absurd (by decide) z)
    exact kx h ls H locs hl hP hD hS
  | succ n ih =>
    intro k hk h ls H locs cells slots hl hP hD hS hc hs kx
    have hK := hWI.1
    have hk9 : k < 6 := by omega
    refine lv_iload_n hx hb dX8_init_15 rfl (lv_at hl 0 rfl) ?_
    refine lv_bipush (v := 6) hx hb dX8_init_16 rfl ?_
    refine lv_icmp_ge (tgt := 40) hx hb dX8_init_18 (by decide) (fun z => absurd z (ct_le 6 (by decide) k hk9)) (fun _ => ?_)
    refine lv_aload_n hx hb dX8_init_21 rfl (lv_at hl 1 rfl) ?_
    refine k_get (ci := 6) (j := 0) hx hb hown hts hK hP (by decide) (Nat.le_of_ble_eq_true rfl) (tix_in (q := (1, 235)) rfl rfl) hfs dX8_init_22 ?_
    refine lv_iload_n hx hb dX8_init_25 rfl (lv_at hl 0 rfl) ?_
    refine k_new (ci := 7) (N := 15) hx hb hown hts hK hP hD hS hA (by decide) (tix_in (q := (1, 232)) rfl rfl) (tix_in (q := (1, 34)) rfl rfl) (tix_in (q := (1, 2)) rfl rfl) rfl (by omega) (by omega) dX8_init_26 ?_
    intro q1 H1 hq1 hAq1 hP hD hS
    refine lv_dup hx hb dX8_init_29 rfl ?_
    refine k_ctor (k := 1) (maxL := 2) (grp := grpT cA) cm_twn hx hb hml hl.1 hown hts hWI hP hD hS hA1 hA hq1 hAq1 (tix_in (q := (1, 234)) rfl rfl) (tix_in (q := (1, 36)) rfl rfl) (tix_in (q := (1, 2)) rfl rfl) (tix_in (q := (1, 37)) rfl rfl) rfl (by decide +kernel) ⟨Nat.le_trans (Nat.le_of_ble_eq_true rfl) hR1, Nat.le_trans (Nat.le_of_ble_eq_true rfl) hR2⟩ (Nat.le_of_ble_eq_true rfl) dX8_init_30 ⟨by show _ + 45 ≤ _; omega, by show _ + 298 ≤ _; omega⟩ ?_
    intro g9 H2 L2 hg9 hP hD hS
    rw [← hg9]
    have hlen : (((q, .inr (6, fs)) :: (a, .inl (cA 26, 6, .inr (.inr (.inr (.inr (ar k h)))))) :: (tl ++ fl (grpT cA) k h)) ++ grpT cA g9)[((q, .inr (6, fs)) :: (a, .inl (cA 26, 6, .inr (.inr (.inr (.inr (ar k h)))))) :: (tl ++ fl (grpT cA) k h) : va_W).length]? = some (g9 0, .inr (7, flds (fun k => g9 (k - 23)) m0 23 7)) := by
      rw [List.getElem?_append_right (Nat.le_refl _), Nat.sub_self]
      rfl
    refine va_astq hx hb hK hP hD hS 1 5 _ 7 rfl rfl hlen rfl (ct_in 6 (by decide) k hk9) dX8_init_33 ?_
    rw [ct_nat k (by omega), ar_succ]
    intro H3 L3 hP hD hS
    have hP : va_P D vwCl ((q, .inr (6, fs)) :: (a, .inl (cA 26, 6, .inr (.inr (.inr (.inr (ar (k + 1) (sw h k g9))))))) :: ((tl ++ fl (grpT cA) k h) ++ grpT cA g9)) H3 := hP
    have hD : va_D A ((q, .inr (6, fs)) :: (a, .inl (cA 26, 6, .inr (.inr (.inr (.inr (ar (k + 1) (sw h k g9))))))) :: ((tl ++ fl (grpT cA) k h) ++ grpT cA g9)) := hD
    rw [List.append_assoc, fl_succ] at hP hD
    refine lv_iinc (k := 0) hx hb dX8_init_34 hl rfl (ct_succ k (by omega)) (by decide) rfl (fun ls2 hl2 => ?_)
    refine lv_goto (tgt := 15) hx hb dX8_init_37 (by decide) ?_
    refine ih (k + 1) (by omega) (sw h k g9) ls2 H3 L3 _ _ hl2 hP hD hS (by show _ + 45 + _ ≤ _; omega) (by show _ + 298 + _ ≤ _; omega) (fun h ls H locs a1 a2 a3 a4 => ?_)
    have := kx h ls H locs a1 a2 a3 a4
    have e1 : cells + 46 * (n + 1) = cells + 1 + 45 + 46 * n := by omega
    have e2 : slots + 313 * (n + 1) = slots + 15 + 298 + 313 * n := by omega
    rw [e1, e2] at this
    exact this
variable {l : Launch} {N0 : Nat} {D : va_G} {cA : Nat → ClassId}
set_option maxHeartbeats 4000000 in
set_option maxRecDepth 100000 in
theorem cm_sav : CM l N0 D cA yX8_init cX8_init 2 2 277 1884 6 (grpS cA) := by
  refine c_of (by decide +kernel) rfl ?_
  intro q p e s m args below meth c hx hb hml hr hlocks hown hts hin hWI hN hz hP hD
  have hK := hWI.1
  have hA : ∀ z, s.heap.size ≤ z → oA q s.heap.size z := fun z h => Or.inr h
  have hA1 : ∀ z, oA q s.heap.size z → jA N0 z := fun z h => by
    rcases h with h | h
    · rw [h]; exact hN
    · exact Nat.le_trans (Nat.le_trans hN (Nat.le_of_lt hz)) h
  have hS : va_S (oA q s.heap.size) s.heap s.heap [] := va_S.rf
  have hl := lv_entry ([.ref q]) (n := 2) (Nat.le_of_ble_eq_true rfl)
  rw [lg_entry_eq]
  generalize (lg_sl ([.ref q]) ++ List.replicate (2 - (lg_sl ([.ref q])).length) Slot.unset).toArray = ls at hl ⊢
  have hl : lv_has ls 2 [(0, .ref q)] := hl
  refine lv_aload_n hx hb dX8_init_0 rfl (lv_at hl 0 rfl) ?_
  refine W.objInit hx hb hown (hts _ (tix_in (q := (1, 231)) rfl rfl)) (hts _ (tix_in (q := (1, 31)) rfl rfl)) (hts _ (tix_in (q := (1, 32)) rfl rfl)) rfl (by rw [hml]; exact hl.1) rfl dX8_init_1 (Nat.le_of_ble_eq_true rfl) (Nat.le_of_ble_eq_true rfl) ?_
  refine W.eq (g2 := F0 m 4 ls []) rfl ?_
  have hP : va_P D vwCl ((q, .inr (6, [.null, .int 0, .int 0])) :: []) _ := hP
  have hD : va_D _ ((q, .inr (6, [.null, .int 0, .int 0])) :: []) := hD
  refine lv_aload_n hx hb dX8_init_4 rfl (lv_at hl 0 rfl) ?_
  refine lv_bipush (v := 6) hx hb dX8_init_5 rfl ?_
  refine k_newq (C := "OrganCorners$Town") (t := 5) (k := 26) (N := 6) hx hb hown hts hK hP hD hS hA (tix_in (q := (1, 232)) rfl rfl) hWI.2.2.1.2.2.2 rfl (by decide) rfl (by decide) (Nat.le_of_ble_eq_true rfl) (Nat.le_of_ble_eq_true rfl) dX8_init_7 ?_
  intro q1 H1 hP hD hS
  have hP : va_P D vwCl ((q, .inr (6, [.null, .int 0, .int 0])) :: [(q1, .inl (cA 26, 6, .inr (.inr (.inr (.inr (fun _ => none))))))]) _ := hP
  have hD : va_D _ ((q, .inr (6, [.null, .int 0, .int 0])) :: [(q1, .inl (cA 26, 6, .inr (.inr (.inr (.inr (fun _ => none))))))]) := hD
  refine k_putF (ci := 6) (j := 0) (ty := .array (.object "OrganCorners$Town")) hx hb hown hts hK hP hD hS (by decide) (Nat.le_of_ble_eq_true rfl) (tix_in (q := (1, 235)) rfl rfl) rfl hin rfl (by decide +kernel) rfl rfl (Nat.le_of_ble_eq_true rfl) dX8_init_10 ?_
  intro H10_ L_10 hP hD hS
  have hP : va_P D vwCl ((q, .inr (6, [.ref q1, .int 0, .int 0])) :: [(q1, .inl (cA 26, 6, .inr (.inr (.inr (.inr (fun _ => none))))))]) _ := hP
  have hD : va_D _ ((q, .inr (6, [.ref q1, .int 0, .int 0])) :: [(q1, .inl (cA 26, 6, .inr (.inr (.inr (.inr (fun _ => none))))))]) := hD
  refine lv_iconst (v := 0) hx hb dX8_init_13 rfl ?_
  refine lv_istore_n hx hb dX8_init_14 rfl hl (by decide) rfl (fun ls hl => ?_)
  have hP : va_P D vwCl ((q, .inr (6, [.ref q1, .int 0, .int 0])) :: (q1, .inl (cA 26, 6, .inr (.inr (.inr (.inr (ar 0 (fun _ _ => 0))))))) :: ([] ++ fl (grpT cA) 0 (fun _ _ => 0))) H10_ := by rw [ar_zero]; exact hP
  have hD : va_D (oA q s.heap.size) ((q, .inr (6, [.ref q1, .int 0, .int 0])) :: (q1, .inl (cA 26, 6, .inr (.inr (.inr (.inr (ar 0 (fun _ _ => 0))))))) :: ([] ++ fl (grpT cA) 0 (fun _ _ => 0))) := by rw [ar_zero]; exact hD
  refine lp_sav (a := q1) (tl := []) hx hb hml hown hts hWI hA hA1 (Nat.le_of_ble_eq_true rfl) (Nat.le_of_ble_eq_true rfl) rfl 6 0 rfl (fun _ _ => 0) ls _ _ _ _ hl hP hD hS (Nat.le_of_ble_eq_true rfl) (Nat.le_of_ble_eq_true rfl) ?_
  intro hT ls H5 L5 hl hP hD hS
  exact k_end (g := gSv q q1 hT) hx hb hr hlocks rfl (SW_P hP) (SW_D hD) hS (Nat.le_of_ble_eq_true rfl) (Nat.le_of_ble_eq_true rfl) dX8_init_40
def grpA (cA : Nat → ClassId) (g : Nat → Nat) : va_W := (g 0, .inr (8, [.ref (g 1), .ref (g 2), .ref (g 3), .ref (g 4), .ref (g 5)])) :: ((((grpT cA (fun i => g (6 * i + 1)) ++ grpS cA (fun i => g (6 * i + 2))) ++ grpX cA (fun i => g (6 * i + 3))) ++ grpY cA (fun i => g (6 * i + 4))) ++ grpU cA (fun i => g (6 * i + 5)))
def gAv (q : Nat) (g1 g2 g3 g4 g5 : Nat → Nat) (i : Nat) : Nat := match i % 6 with
  | 0 => q | 1 => g1 (i / 6) | 2 => g2 (i / 6) | 3 => g3 (i / 6) | 4 => g4 (i / 6) | _ => g5 (i / 6)
theorem gAv_eq {q : Nat} {g1 g2 g3 g4 g5 : Nat → Nat} : grpA cA (gAv q g1 g2 g3 g4 g5) = (q, .inr (8, [.ref (g1 0), .ref (g2 0), .ref (g3 0), .ref (g4 0), .ref (g5 0)])) :: ((((grpT cA g1 ++ grpS cA g2) ++ grpX cA g3) ++ grpY cA g4) ++ grpU cA g5) := by
  have key : ∀ r, r < 6 → ∀ i, (6 * i + r) % 6 = r ∧ (6 * i + r) / 6 = i := fun r hr i => ⟨by omega, by omega⟩
  have e1 : (fun i => gAv q g1 g2 g3 g4 g5 (6 * i + 1)) = g1 := funext fun i => by unfold gAv; rw [(key 1 (by decide) i).1, (key 1 (by decide) i).2]; rfl
  have e2 : (fun i => gAv q g1 g2 g3 g4 g5 (6 * i + 2)) = g2 := funext fun i => by unfold gAv; rw [(key 2 (by decide) i).1, (key 2 (by decide) i).2]; rfl
  have e3 : (fun i => gAv q g1 g2 g3 g4 g5 (6 * i + 3)) = g3 := funext fun i => by unfold gAv; rw [(key 3 (by decide) i).1, (key 3 (by decide) i).2]; rfl
  have e4 : (fun i => gAv q g1 g2 g3 g4 g5 (6 * i + 4)) = g4 := funext fun i => by unfold gAv; rw [(key 4 (by decide) i).1, (key 4 (by decide) i).2]; rfl
  have e5 : (fun i => gAv q g1 g2 g3 g4 g5 (6 * i + 5)) = g5 := funext fun i => by unfold gAv; rw [(key 5 (by decide) i).1, (key 5 (by decide) i).2]; rfl
  unfold grpA
  rw [e1, e2, e3, e4, e5]
  rfl
theorem dX10_init_0 : decode cX10_init 0 = .ok (.aload_n 0, 1) := by decide +kernel
theorem dX10_init_1 : decode cX10_init 1 = .ok (.invokespecial 1, 3) := by decide +kernel
theorem dX10_init_4 : decode cX10_init 4 = .ok (.aload_n 0, 1) := by decide +kernel
theorem dX10_init_5 : decode cX10_init 5 = .ok (.new 7, 3) := by decide +kernel
theorem dX10_init_8 : decode cX10_init 8 = .ok (.dup, 1) := by decide +kernel
theorem dX10_init_9 : decode cX10_init 9 = .ok (.invokespecial 9, 3) := by decide +kernel
theorem dX10_init_12 : decode cX10_init 12 = .ok (.putfield 10, 3) := by decide +kernel
theorem dX10_init_15 : decode cX10_init 15 = .ok (.aload_n 0, 1) := by decide +kernel
theorem dX10_init_16 : decode cX10_init 16 = .ok (.new 16, 3) := by decide +kernel
theorem dX10_init_19 : decode cX10_init 19 = .ok (.dup, 1) := by decide +kernel
theorem dX10_init_20 : decode cX10_init 20 = .ok (.invokespecial 18, 3) := by decide +kernel
theorem dX10_init_23 : decode cX10_init 23 = .ok (.putfield 19, 3) := by decide +kernel
theorem dX10_init_26 : decode cX10_init 26 = .ok (.aload_n 0, 1) := by decide +kernel
theorem dX10_init_27 : decode cX10_init 27 = .ok (.new 23, 3) := by decide +kernel
theorem dX10_init_30 : decode cX10_init 30 = .ok (.dup, 1) := by decide +kernel
theorem dX10_init_31 : decode cX10_init 31 = .ok (.invokespecial 25, 3) := by decide +kernel
theorem dX10_init_34 : decode cX10_init 34 = .ok (.putfield 26, 3) := by decide +kernel
theorem dX10_init_37 : decode cX10_init 37 = .ok (.aload_n 0, 1) := by decide +kernel
theorem dX10_init_38 : decode cX10_init 38 = .ok (.new 30, 3) := by decide +kernel
theorem dX10_init_41 : decode cX10_init 41 = .ok (.dup, 1) := by decide +kernel
theorem dX10_init_42 : decode cX10_init 42 = .ok (.invokespecial 32, 3) := by decide +kernel
theorem dX10_init_45 : decode cX10_init 45 = .ok (.putfield 33, 3) := by decide +kernel
theorem dX10_init_48 : decode cX10_init 48 = .ok (.aload_n 0, 1) := by decide +kernel
theorem dX10_init_49 : decode cX10_init 49 = .ok (.new 37, 3) := by decide +kernel
theorem dX10_init_52 : decode cX10_init 52 = .ok (.dup, 1) := by decide +kernel
theorem dX10_init_53 : decode cX10_init 53 = .ok (.invokespecial 39, 3) := by decide +kernel
theorem dX10_init_56 : decode cX10_init 56 = .ok (.putfield 40, 3) := by decide +kernel
theorem dX10_init_59 : decode cX10_init 59 = .ok (.return_, 1) := by decide +kernel
set_option maxHeartbeats 4000000 in
set_option maxRecDepth 100000 in
theorem cm_oc : CM l N0 D cA yX10_init cX10_init 1 3 333 2303 8 (grpA cA) := by
  refine c_of (by decide +kernel) rfl ?_
  intro q p e s m args below meth c hx hb hml hr hlocks hown hts hin hWI hN hz hP hD
  have hK := hWI.1
  have hA : ∀ z, s.heap.size ≤ z → oA q s.heap.size z := fun z h => Or.inr h
  have hA1 : ∀ z, oA q s.heap.size z → jA N0 z := fun z h => by
    rcases h with h | h
    · rw [h]; exact hN
    · exact Nat.le_trans (Nat.le_trans hN (Nat.le_of_lt hz)) h
  have hS : va_S (oA q s.heap.size) s.heap s.heap [] := va_S.rf
  have hl := lv_entry ([.ref q]) (n := 1) (Nat.le_of_ble_eq_true rfl)
  rw [lg_entry_eq]
  generalize (lg_sl ([.ref q]) ++ List.replicate (1 - (lg_sl ([.ref q])).length) Slot.unset).toArray = ls at hl ⊢
  have hl : lv_has ls 1 [(0, .ref q)] := hl
  refine lv_aload_n hx hb dX10_init_0 rfl (lv_at hl 0 rfl) ?_
  refine W.objInit hx hb hown (hts _ (tix_in (q := (1, 30)) rfl rfl)) (hts _ (tix_in (q := (1, 31)) rfl rfl)) (hts _ (tix_in (q := (1, 32)) rfl rfl)) rfl (by rw [hml]; exact hl.1) rfl dX10_init_1 (Nat.le_of_ble_eq_true rfl) (Nat.le_of_ble_eq_true rfl) ?_
  refine W.eq (g2 := F0 m 4 ls []) rfl ?_
  have hP : va_P D vwCl ((q, .inr (8, [.null, .null, .null, .null, .null])) :: []) _ := hP
  have hD : va_D _ ((q, .inr (8, [.null, .null, .null, .null, .null])) :: []) := hD
  refine lv_aload_n hx hb dX10_init_4 rfl (lv_at hl 0 rfl) ?_
  refine k_new (ci := 7) (N := 15) hx hb hown hts hK hP hD hS hA (by decide) (tix_in (q := (1, 33)) rfl rfl) (tix_in (q := (1, 34)) rfl rfl) (tix_in (q := (1, 2)) rfl rfl) rfl (Nat.le_of_ble_eq_true rfl) (Nat.le_of_ble_eq_true rfl) dX10_init_5 ?_
  intro q1 H1 hq1 hAq1 hP hD hS
  refine lv_dup hx hb dX10_init_8 rfl ?_
  refine k_ctor (k := 1) (maxL := 2) (grp := grpT cA) cm_twn hx hb hml hl.1 hown hts hWI hP hD hS hA1 hA hq1 hAq1 (tix_in (q := (1, 35)) rfl rfl) (tix_in (q := (1, 36)) rfl rfl) (tix_in (q := (1, 2)) rfl rfl) (tix_in (q := (1, 37)) rfl rfl) rfl (by decide +kernel) ⟨Nat.le_of_ble_eq_true rfl, Nat.le_of_ble_eq_true rfl⟩ (Nat.le_of_ble_eq_true rfl) dX10_init_9 ⟨Nat.le_of_ble_eq_true rfl, Nat.le_of_ble_eq_true rfl⟩ ?_
  intro g1 H1 L1 hg1 hP hD hS
  have hP : va_P D vwCl ((q, .inr (8, [.null, .null, .null, .null, .null])) :: grpT cA g1) _ := hP
  have hD : va_D _ ((q, .inr (8, [.null, .null, .null, .null, .null])) :: grpT cA g1) := hD
  refine k_putF (ci := 8) (j := 0) (ty := .object "OrganCorners$Town") hx hb hown hts hK hP hD hS (by decide) (Nat.le_of_ble_eq_true rfl) (tix_in (q := (2, 62)) rfl rfl) rfl hin rfl (by decide +kernel) rfl rfl (Nat.le_of_ble_eq_true rfl) dX10_init_12 ?_
  intro H12_ L_12 hP hD hS
  have hP : va_P D vwCl ((q, .inr (8, [.ref q1, .null, .null, .null, .null])) :: grpT cA g1) _ := hP
  have hD : va_D _ ((q, .inr (8, [.ref q1, .null, .null, .null, .null])) :: grpT cA g1) := hD
  refine lv_aload_n hx hb dX10_init_15 rfl (lv_at hl 0 rfl) ?_
  refine k_new (ci := 6) (N := 3) hx hb hown hts hK hP hD hS hA (by decide) (tix_in (q := (1, 226)) rfl rfl) (tix_in (q := (1, 227)) rfl rfl) (tix_in (q := (1, 7)) rfl rfl) rfl (Nat.le_of_ble_eq_true rfl) (Nat.le_of_ble_eq_true rfl) dX10_init_16 ?_
  intro q2 H2 hq2 hAq2 hP hD hS
  refine lv_dup hx hb dX10_init_19 rfl ?_
  refine k_ctor (k := 2) (maxL := 2) (grp := grpS cA) cm_sav hx hb hml hl.1 hown hts hWI hP hD hS hA1 hA hq2 hAq2 (tix_in (q := (1, 228)) rfl rfl) (tix_in (q := (1, 229)) rfl rfl) (tix_in (q := (1, 7)) rfl rfl) (tix_in (q := (1, 230)) rfl rfl) rfl (by decide +kernel) ⟨Nat.le_of_ble_eq_true rfl, Nat.le_of_ble_eq_true rfl⟩ (Nat.le_of_ble_eq_true rfl) dX10_init_20 ⟨Nat.le_of_ble_eq_true rfl, Nat.le_of_ble_eq_true rfl⟩ ?_
  intro g2 H2 L2 hg2 hP hD hS
  have hP : va_P D vwCl ((q, .inr (8, [.ref q1, .null, .null, .null, .null])) :: (grpT cA g1 ++ grpS cA g2)) _ := hP
  have hD : va_D _ ((q, .inr (8, [.ref q1, .null, .null, .null, .null])) :: (grpT cA g1 ++ grpS cA g2)) := hD
  refine k_putF (ci := 8) (j := 1) (ty := .object "OrganCorners$SavedTowns") hx hb hown hts hK hP hD hS (by decide) (Nat.le_of_ble_eq_true rfl) (tix_in (q := (2, 63)) rfl rfl) rfl hin rfl (by decide +kernel) rfl rfl (Nat.le_of_ble_eq_true rfl) dX10_init_23 ?_
  intro H23_ L_23 hP hD hS
  have hP : va_P D vwCl ((q, .inr (8, [.ref q1, .ref q2, .null, .null, .null])) :: (grpT cA g1 ++ grpS cA g2)) _ := hP
  have hD : va_D _ ((q, .inr (8, [.ref q1, .ref q2, .null, .null, .null])) :: (grpT cA g1 ++ grpS cA g2)) := hD
  refine lv_aload_n hx hb dX10_init_26 rfl (lv_at hl 0 rfl) ?_
  refine k_new (ci := 1) (N := 2) hx hb hown hts hK hP hD hS hA (by decide) (tix_in (q := (2, 6)) rfl rfl) (tix_in (q := (2, 7)) rfl rfl) (tix_in (q := (1, 8)) rfl rfl) rfl (Nat.le_of_ble_eq_true rfl) (Nat.le_of_ble_eq_true rfl) dX10_init_27 ?_
  intro q3 H3 hq3 hAq3 hP hD hS
  refine lv_dup hx hb dX10_init_30 rfl ?_
  refine k_ctorN (k := 0) (maxL := 1) (grp := grpX cA) cm_txt hx hb hml hl.1 hown hts hWI hP hD hS hA1 hA hq3 hAq3 hWI.2.2.2.2.2.2.1 (tix_in (q := (2, 9)) rfl rfl) (tix_in (q := (1, 8)) rfl rfl) (tix_in (q := (2, 10)) rfl rfl) rfl (by decide +kernel) ⟨Nat.le_of_ble_eq_true rfl, Nat.le_of_ble_eq_true rfl⟩ (Nat.le_of_ble_eq_true rfl) dX10_init_31 ⟨Nat.le_of_ble_eq_true rfl, Nat.le_of_ble_eq_true rfl⟩ ?_
  intro g3 H3 L3 hg3 hP hD hS
  have hP : va_P D vwCl ((q, .inr (8, [.ref q1, .ref q2, .null, .null, .null])) :: ((grpT cA g1 ++ grpS cA g2) ++ grpX cA g3)) _ := hP
  have hD : va_D _ ((q, .inr (8, [.ref q1, .ref q2, .null, .null, .null])) :: ((grpT cA g1 ++ grpS cA g2) ++ grpX cA g3)) := hD
  refine k_putF (ci := 8) (j := 2) (ty := .object "OrganCorners$OrderText") hx hb hown hts hK hP hD hS (by decide) (Nat.le_of_ble_eq_true rfl) (tix_in (q := (2, 64)) rfl rfl) rfl hin rfl (by decide +kernel) rfl rfl (Nat.le_of_ble_eq_true rfl) dX10_init_34 ?_
  intro H34_ L_34 hP hD hS
  have hP : va_P D vwCl ((q, .inr (8, [.ref q1, .ref q2, .ref q3, .null, .null])) :: ((grpT cA g1 ++ grpS cA g2) ++ grpX cA g3)) _ := hP
  have hD : va_D _ ((q, .inr (8, [.ref q1, .ref q2, .ref q3, .null, .null])) :: ((grpT cA g1 ++ grpS cA g2) ++ grpX cA g3)) := hD
  refine lv_aload_n hx hb dX10_init_37 rfl (lv_at hl 0 rfl) ?_
  refine k_new (ci := 4) (N := 3) hx hb hown hts hK hP hD hS hA (by decide) (tix_in (q := (2, 21)) rfl rfl) (tix_in (q := (2, 22)) rfl rfl) (tix_in (q := (1, 9)) rfl rfl) rfl (Nat.le_of_ble_eq_true rfl) (Nat.le_of_ble_eq_true rfl) dX10_init_38 ?_
  intro q4 H4 hq4 hAq4 hP hD hS
  refine lv_dup hx hb dX10_init_41 rfl ?_
  refine k_ctorN (k := 0) (maxL := 1) (grp := grpY cA) cm_pay hx hb hml hl.1 hown hts hWI hP hD hS hA1 hA hq4 hAq4 hWI.2.2.2.2.2.2.2.1 (tix_in (q := (2, 24)) rfl rfl) (tix_in (q := (1, 9)) rfl rfl) (tix_in (q := (2, 25)) rfl rfl) rfl (by decide +kernel) ⟨Nat.le_of_ble_eq_true rfl, Nat.le_of_ble_eq_true rfl⟩ (Nat.le_of_ble_eq_true rfl) dX10_init_42 ⟨Nat.le_of_ble_eq_true rfl, Nat.le_of_ble_eq_true rfl⟩ ?_
  intro g4 H4 L4 hg4 hP hD hS
  have hP : va_P D vwCl ((q, .inr (8, [.ref q1, .ref q2, .ref q3, .null, .null])) :: (((grpT cA g1 ++ grpS cA g2) ++ grpX cA g3) ++ grpY cA g4)) _ := hP
  have hD : va_D _ ((q, .inr (8, [.ref q1, .ref q2, .ref q3, .null, .null])) :: (((grpT cA g1 ++ grpS cA g2) ++ grpX cA g3) ++ grpY cA g4)) := hD
  refine k_putF (ci := 8) (j := 3) (ty := .object "OrganCorners$Payout") hx hb hown hts hK hP hD hS (by decide) (Nat.le_of_ble_eq_true rfl) (tix_in (q := (2, 65)) rfl rfl) rfl hin rfl (by decide +kernel) rfl rfl (Nat.le_of_ble_eq_true rfl) dX10_init_45 ?_
  intro H45_ L_45 hP hD hS
  have hP : va_P D vwCl ((q, .inr (8, [.ref q1, .ref q2, .ref q3, .ref q4, .null])) :: (((grpT cA g1 ++ grpS cA g2) ++ grpX cA g3) ++ grpY cA g4)) _ := hP
  have hD : va_D _ ((q, .inr (8, [.ref q1, .ref q2, .ref q3, .ref q4, .null])) :: (((grpT cA g1 ++ grpS cA g2) ++ grpX cA g3) ++ grpY cA g4)) := hD
  refine lv_aload_n hx hb dX10_init_48 rfl (lv_at hl 0 rfl) ?_
  refine k_new (ci := 3) (N := 4) hx hb hown hts hK hP hD hS hA (by decide) (tix_in (q := (2, 41)) rfl rfl) (tix_in (q := (2, 42)) rfl rfl) (tix_in (q := (1, 10)) rfl rfl) rfl (Nat.le_of_ble_eq_true rfl) (Nat.le_of_ble_eq_true rfl) dX10_init_49 ?_
  intro q5 H5 hq5 hAq5 hP hD hS
  refine lv_dup hx hb dX10_init_52 rfl ?_
  refine k_ctorN (k := 0) (maxL := 1) (grp := grpU cA) cm_out hx hb hml hl.1 hown hts hWI hP hD hS hA1 hA hq5 hAq5 hWI.2.2.2.2.2.2.2.2.1 (tix_in (q := (2, 44)) rfl rfl) (tix_in (q := (1, 10)) rfl rfl) (tix_in (q := (2, 45)) rfl rfl) rfl (by decide +kernel) ⟨Nat.le_of_ble_eq_true rfl, Nat.le_of_ble_eq_true rfl⟩ (Nat.le_of_ble_eq_true rfl) dX10_init_53 ⟨Nat.le_of_ble_eq_true rfl, Nat.le_of_ble_eq_true rfl⟩ ?_
  intro g5 H5 L5 hg5 hP hD hS
  have hP : va_P D vwCl ((q, .inr (8, [.ref q1, .ref q2, .ref q3, .ref q4, .null])) :: ((((grpT cA g1 ++ grpS cA g2) ++ grpX cA g3) ++ grpY cA g4) ++ grpU cA g5)) _ := hP
  have hD : va_D _ ((q, .inr (8, [.ref q1, .ref q2, .ref q3, .ref q4, .null])) :: ((((grpT cA g1 ++ grpS cA g2) ++ grpX cA g3) ++ grpY cA g4) ++ grpU cA g5)) := hD
  refine k_putF (ci := 8) (j := 4) (ty := .object "OrganCorners$Outlook") hx hb hown hts hK hP hD hS (by decide) (Nat.le_of_ble_eq_true rfl) (tix_in (q := (2, 66)) rfl rfl) rfl hin rfl (by decide +kernel) rfl rfl (Nat.le_of_ble_eq_true rfl) dX10_init_56 ?_
  intro H56_ L_56 hP hD hS
  have hP : va_P D vwCl ((q, .inr (8, [.ref q1, .ref q2, .ref q3, .ref q4, .ref q5])) :: ((((grpT cA g1 ++ grpS cA g2) ++ grpX cA g3) ++ grpY cA g4) ++ grpU cA g5)) _ := hP
  have hD : va_D _ ((q, .inr (8, [.ref q1, .ref q2, .ref q3, .ref q4, .ref q5])) :: ((((grpT cA g1 ++ grpS cA g2) ++ grpX cA g3) ++ grpY cA g4) ++ grpU cA g5)) := hD
  rw [← hg1, ← hg2, ← hg3, ← hg4, ← hg5, ← gAv_eq] at hP hD
  exact k_end (g := gAv q g1 g2 g3 g4 g5) hx hb hr hlocks rfl hP hD hS (Nat.le_of_ble_eq_true rfl) (Nat.le_of_ble_eq_true rfl) dX10_init_59
end CTORH
