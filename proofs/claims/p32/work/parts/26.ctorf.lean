/-! CONSTRUCTORS: the town's own (wip/p32/genctor26.py) -/
section CTORF
variable {l : Launch} {N0 : Nat} {D : va_G} {cA : Nat → ClassId}
set_option maxHeartbeats 4000000 in
set_option maxRecDepth 100000 in
theorem cm_twn : CM l N0 D cA yX9_init cX9_init 2 1 45 298 7 (grpT cA) := by
  refine c_of (by decide +kernel) rfl ?_
  intro q p e s m args below meth c hx hb hml hr hlocks hown hts hin hWI hN hz hP hD
  have hK := hWI.1
  have hA : ∀ z, s.heap.size ≤ z → oA q s.heap.size z := fun z h => Or.inr h
  have hA1 : ∀ z, oA q s.heap.size z → jA N0 z := fun z h => by
    rcases h with h | h
    · rw [h]; exact hN
    · exact Nat.le_trans (Nat.le_trans hN (Nat.le_of_lt hz)) h
  have hS : va_S (oA q s.heap.size) s.heap s.heap [] := va_S.rf
  have hl := lv_entry ([.ref q]) (n := 2) (Nat.le_of_ble_eq_true rfl)
  rw [lg_entry_eq]
  generalize (lg_sl ([.ref q]) ++ List.replicate (2 - (lg_sl ([.ref q])).length) Slot.unset).toArray = ls at hl ⊢
  have hl : lv_has ls 2 [(0, .ref q)] := hl
  refine lv_aload_n hx hb dX9_init_0 rfl (lv_at hl 0 rfl) ?_
  refine W.objInit hx hb hown (hts _ (tix_in (q := (1, 38)) rfl rfl)) (hts _ (tix_in (q := (1, 31)) rfl rfl)) (hts _ (tix_in (q := (1, 32)) rfl rfl)) rfl (by rw [hml]; exact hl.1) rfl dX9_init_1 (Nat.le_of_ble_eq_true rfl) (Nat.le_of_ble_eq_true rfl) ?_
  refine W.eq (g2 := F0 m 4 ls []) rfl ?_
  have hP : va_P D vwCl ((q, .inr (7, [.null, .null, .null, .null, .int 0, .int 0, .int 0, .int 0, .int 0, .int 0, .int 0, .int 0, .int 0, .int 0, .int 0])) :: []) _ := hP
  have hD : va_D _ ((q, .inr (7, [.null, .null, .null, .null, .int 0, .int 0, .int 0, .int 0, .int 0, .int 0, .int 0, .int 0, .int 0, .int 0, .int 0])) :: []) := hD
  refine lv_aload_n hx hb dX9_init_4 rfl (lv_at hl 0 rfl) ?_
  refine lv_bipush (v := 10) hx hb dX9_init_5 rfl ?_
  refine k_newq (C := "OrganCorners$Corner") (t := 2) (k := 22) (N := 10) hx hb hown hts hK hP hD hS hA (tix_in (q := (1, 39)) rfl rfl) hWI.2.2.1.1 rfl (by decide) rfl (by decide) (Nat.le_of_ble_eq_true rfl) (Nat.le_of_ble_eq_true rfl) dX9_init_7 ?_
  intro q1 H1 hP hD hS
  have hP : va_P D vwCl ((q, .inr (7, [.null, .null, .null, .null, .int 0, .int 0, .int 0, .int 0, .int 0, .int 0, .int 0, .int 0, .int 0, .int 0, .int 0])) :: [(q1, .inl (cA 22, 10, .inr (.inr (.inr (.inr (fun _ => none))))))]) _ := hP
  have hD : va_D _ ((q, .inr (7, [.null, .null, .null, .null, .int 0, .int 0, .int 0, .int 0, .int 0, .int 0, .int 0, .int 0, .int 0, .int 0, .int 0])) :: [(q1, .inl (cA 22, 10, .inr (.inr (.inr (.inr (fun _ => none))))))]) := hD
  refine k_putF (ci := 7) (j := 0) (ty := .array (.object "OrganCorners$Corner")) hx hb hown hts hK hP hD hS (by decide) (Nat.le_of_ble_eq_true rfl) (tix_in (q := (1, 157)) rfl rfl) rfl hin rfl (by decide +kernel) rfl rfl (Nat.le_of_ble_eq_true rfl) dX9_init_10 ?_
  intro H10_ L_10 hP hD hS
  have hP : va_P D vwCl ((q, .inr (7, [.ref q1, .null, .null, .null, .int 0, .int 0, .int 0, .int 0, .int 0, .int 0, .int 0, .int 0, .int 0, .int 0, .int 0])) :: [(q1, .inl (cA 22, 10, .inr (.inr (.inr (.inr (fun _ => none))))))]) _ := hP
  have hD : va_D _ ((q, .inr (7, [.ref q1, .null, .null, .null, .int 0, .int 0, .int 0, .int 0, .int 0, .int 0, .int 0, .int 0, .int 0, .int 0, .int 0])) :: [(q1, .inl (cA 22, 10, .inr (.inr (.inr (.inr (fun _ => none))))))]) := hD
  refine lv_aload_n hx hb dX9_init_13 rfl (lv_at hl 0 rfl) ?_
  refine lv_iconst (v := 5) hx hb dX9_init_14 rfl ?_
  refine k_newq (C := "OrganCorners$Organ") (t := 3) (k := 23) (N := 5) hx hb hown hts hK hP hD hS hA (tix_in (q := (1, 41)) rfl rfl) hWI.2.2.1.2.1 rfl (by decide) rfl (by decide) (Nat.le_of_ble_eq_true rfl) (Nat.le_of_ble_eq_true rfl) dX9_init_15 ?_
  intro q2 H2 hP hD hS
  have hP : va_P D vwCl ((q, .inr (7, [.ref q1, .null, .null, .null, .int 0, .int 0, .int 0, .int 0, .int 0, .int 0, .int 0, .int 0, .int 0, .int 0, .int 0])) :: ([(q1, .inl (cA 22, 10, .inr (.inr (.inr (.inr (fun _ => none))))))] ++ [(q2, .inl (cA 23, 5, .inr (.inr (.inr (.inr (fun _ => none))))))])) _ := hP
  have hD : va_D _ ((q, .inr (7, [.ref q1, .null, .null, .null, .int 0, .int 0, .int 0, .int 0, .int 0, .int 0, .int 0, .int 0, .int 0, .int 0, .int 0])) :: ([(q1, .inl (cA 22, 10, .inr (.inr (.inr (.inr (fun _ => none))))))] ++ [(q2, .inl (cA 23, 5, .inr (.inr (.inr (.inr (fun _ => none))))))])) := hD
  refine k_putF (ci := 7) (j := 1) (ty := .array (.object "OrganCorners$Organ")) hx hb hown hts hK hP hD hS (by decide) (Nat.le_of_ble_eq_true rfl) (tix_in (q := (1, 159)) rfl rfl) rfl hin rfl (by decide +kernel) rfl rfl (Nat.le_of_ble_eq_true rfl) dX9_init_18 ?_
  intro H18_ L_18 hP hD hS
  have hP : va_P D vwCl ((q, .inr (7, [.ref q1, .ref q2, .null, .null, .int 0, .int 0, .int 0, .int 0, .int 0, .int 0, .int 0, .int 0, .int 0, .int 0, .int 0])) :: ([(q1, .inl (cA 22, 10, .inr (.inr (.inr (.inr (fun _ => none))))))] ++ [(q2, .inl (cA 23, 5, .inr (.inr (.inr (.inr (fun _ => none))))))])) _ := hP
  have hD : va_D _ ((q, .inr (7, [.ref q1, .ref q2, .null, .null, .int 0, .int 0, .int 0, .int 0, .int 0, .int 0, .int 0, .int 0, .int 0, .int 0, .int 0])) :: ([(q1, .inl (cA 22, 10, .inr (.inr (.inr (.inr (fun _ => none))))))] ++ [(q2, .inl (cA 23, 5, .inr (.inr (.inr (.inr (fun _ => none))))))])) := hD
  refine lv_aload_n hx hb dX9_init_21 rfl (lv_at hl 0 rfl) ?_
  refine lv_bipush (v := 8) hx hb dX9_init_22 rfl ?_
  refine k_newq (C := "OrganCorners$Player") (t := 4) (k := 24) (N := 8) hx hb hown hts hK hP hD hS hA (tix_in (q := (1, 43)) rfl rfl) hWI.2.2.1.2.2.1 rfl (by decide) rfl (by decide) (Nat.le_of_ble_eq_true rfl) (Nat.le_of_ble_eq_true rfl) dX9_init_24 ?_
  intro q3 H3 hP hD hS
  have hP : va_P D vwCl ((q, .inr (7, [.ref q1, .ref q2, .null, .null, .int 0, .int 0, .int 0, .int 0, .int 0, .int 0, .int 0, .int 0, .int 0, .int 0, .int 0])) :: (([(q1, .inl (cA 22, 10, .inr (.inr (.inr (.inr (fun _ => none))))))] ++ [(q2, .inl (cA 23, 5, .inr (.inr (.inr (.inr (fun _ => none))))))]) ++ [(q3, .inl (cA 24, 8, .inr (.inr (.inr (.inr (fun _ => none))))))])) _ := hP
  have hD : va_D _ ((q, .inr (7, [.ref q1, .ref q2, .null, .null, .int 0, .int 0, .int 0, .int 0, .int 0, .int 0, .int 0, .int 0, .int 0, .int 0, .int 0])) :: (([(q1, .inl (cA 22, 10, .inr (.inr (.inr (.inr (fun _ => none))))))] ++ [(q2, .inl (cA 23, 5, .inr (.inr (.inr (.inr (fun _ => none))))))]) ++ [(q3, .inl (cA 24, 8, .inr (.inr (.inr (.inr (fun _ => none))))))])) := hD
  refine k_putF (ci := 7) (j := 2) (ty := .array (.object "OrganCorners$Player")) hx hb hown hts hK hP hD hS (by decide) (Nat.le_of_ble_eq_true rfl) (tix_in (q := (1, 162)) rfl rfl) rfl hin rfl (by decide +kernel) rfl rfl (Nat.le_of_ble_eq_true rfl) dX9_init_27 ?_
  intro H27_ L_27 hP hD hS
  have hP : va_P D vwCl ((q, .inr (7, [.ref q1, .ref q2, .ref q3, .null, .int 0, .int 0, .int 0, .int 0, .int 0, .int 0, .int 0, .int 0, .int 0, .int 0, .int 0])) :: (([(q1, .inl (cA 22, 10, .inr (.inr (.inr (.inr (fun _ => none))))))] ++ [(q2, .inl (cA 23, 5, .inr (.inr (.inr (.inr (fun _ => none))))))]) ++ [(q3, .inl (cA 24, 8, .inr (.inr (.inr (.inr (fun _ => none))))))])) _ := hP
  have hD : va_D _ ((q, .inr (7, [.ref q1, .ref q2, .ref q3, .null, .int 0, .int 0, .int 0, .int 0, .int 0, .int 0, .int 0, .int 0, .int 0, .int 0, .int 0])) :: (([(q1, .inl (cA 22, 10, .inr (.inr (.inr (.inr (fun _ => none))))))] ++ [(q2, .inl (cA 23, 5, .inr (.inr (.inr (.inr (fun _ => none))))))]) ++ [(q3, .inl (cA 24, 8, .inr (.inr (.inr (.inr (fun _ => none))))))])) := hD
  refine lv_aload_n hx hb dX9_init_30 rfl (lv_at hl 0 rfl) ?_
  refine lv_iconst (v := 5) hx hb dX9_init_31 rfl ?_
  refine k_newa (N := 5) hx hb hts hK hP hD hS hA (tix_in (q := (1, 72)) rfl rfl) (by decide) rfl (by decide) (Nat.le_of_ble_eq_true rfl) (Nat.le_of_ble_eq_true rfl) dX9_init_32 ?_
  intro q4 H4 hP hD hS
  have hP : va_P D vwCl ((q, .inr (7, [.ref q1, .ref q2, .ref q3, .null, .int 0, .int 0, .int 0, .int 0, .int 0, .int 0, .int 0, .int 0, .int 0, .int 0, .int 0])) :: ((([(q1, .inl (cA 22, 10, .inr (.inr (.inr (.inr (fun _ => none))))))] ++ [(q2, .inl (cA 23, 5, .inr (.inr (.inr (.inr (fun _ => none))))))]) ++ [(q3, .inl (cA 24, 8, .inr (.inr (.inr (.inr (fun _ => none))))))]) ++ [(q4, .inl (cA 20, 5, .inl (fun _ => 0)))])) _ := hP
  have hD : va_D _ ((q, .inr (7, [.ref q1, .ref q2, .ref q3, .null, .int 0, .int 0, .int 0, .int 0, .int 0, .int 0, .int 0, .int 0, .int 0, .int 0, .int 0])) :: ((([(q1, .inl (cA 22, 10, .inr (.inr (.inr (.inr (fun _ => none))))))] ++ [(q2, .inl (cA 23, 5, .inr (.inr (.inr (.inr (fun _ => none))))))]) ++ [(q3, .inl (cA 24, 8, .inr (.inr (.inr (.inr (fun _ => none))))))]) ++ [(q4, .inl (cA 20, 5, .inl (fun _ => 0)))])) := hD
  refine k_putF (ci := 7) (j := 3) (ty := .array .int) hx hb hown hts hK hP hD hS (by decide) (Nat.le_of_ble_eq_true rfl) (tix_in (q := (1, 165)) rfl rfl) rfl hin rfl (by decide +kernel) rfl rfl (Nat.le_of_ble_eq_true rfl) dX9_init_34 ?_
  intro H34_ L_34 hP hD hS
  have hP : va_P D vwCl ((q, .inr (7, [.ref q1, .ref q2, .ref q3, .ref q4, .int 0, .int 0, .int 0, .int 0, .int 0, .int 0, .int 0, .int 0, .int 0, .int 0, .int 0])) :: ((([(q1, .inl (cA 22, 10, .inr (.inr (.inr (.inr (fun _ => none))))))] ++ [(q2, .inl (cA 23, 5, .inr (.inr (.inr (.inr (fun _ => none))))))]) ++ [(q3, .inl (cA 24, 8, .inr (.inr (.inr (.inr (fun _ => none))))))]) ++ [(q4, .inl (cA 20, 5, .inl (fun _ => 0)))])) _ := hP
  have hD : va_D _ ((q, .inr (7, [.ref q1, .ref q2, .ref q3, .ref q4, .int 0, .int 0, .int 0, .int 0, .int 0, .int 0, .int 0, .int 0, .int 0, .int 0, .int 0])) :: ((([(q1, .inl (cA 22, 10, .inr (.inr (.inr (.inr (fun _ => none))))))] ++ [(q2, .inl (cA 23, 5, .inr (.inr (.inr (.inr (fun _ => none))))))]) ++ [(q3, .inl (cA 24, 8, .inr (.inr (.inr (.inr (fun _ => none))))))]) ++ [(q4, .inl (cA 20, 5, .inl (fun _ => 0)))])) := hD
  refine lv_aload_n hx hb dX9_init_37 rfl (lv_at hl 0 rfl) ?_
  refine lv_iconst (v := 1) hx hb dX9_init_38 rfl ?_
  refine k_put (ci := 7) (j := 10) (ty := .int) hx hb hown hts hK hP hD hS (by decide) (Nat.le_of_ble_eq_true rfl) (tix_in (q := (1, 184)) rfl rfl) rfl  (by decide +kernel) rfl rfl (Nat.le_of_ble_eq_true rfl) dX9_init_39 ?_
  intro H39_ L_39 hP hD hS
  have hP : va_P D vwCl ((q, .inr (7, [.ref q1, .ref q2, .ref q3, .ref q4, .int 0, .int 0, .int 0, .int 0, .int 0, .int 0, .int 1, .int 0, .int 0, .int 0, .int 0])) :: ((([(q1, .inl (cA 22, 10, .inr (.inr (.inr (.inr (fun _ => none))))))] ++ [(q2, .inl (cA 23, 5, .inr (.inr (.inr (.inr (fun _ => none))))))]) ++ [(q3, .inl (cA 24, 8, .inr (.inr (.inr (.inr (fun _ => none))))))]) ++ [(q4, .inl (cA 20, 5, .inl (fun _ => 0)))])) _ := hP
  have hD : va_D _ ((q, .inr (7, [.ref q1, .ref q2, .ref q3, .ref q4, .int 0, .int 0, .int 0, .int 0, .int 0, .int 0, .int 1, .int 0, .int 0, .int 0, .int 0])) :: ((([(q1, .inl (cA 22, 10, .inr (.inr (.inr (.inr (fun _ => none))))))] ++ [(q2, .inl (cA 23, 5, .inr (.inr (.inr (.inr (fun _ => none))))))]) ++ [(q3, .inl (cA 24, 8, .inr (.inr (.inr (.inr (fun _ => none))))))]) ++ [(q4, .inl (cA 20, 5, .inl (fun _ => 0)))])) := hD
  refine lv_iconst (v := 0) hx hb dX9_init_42 rfl ?_
  refine lv_istore_n hx hb dX9_init_43 rfl hl (by decide) rfl (fun ls hl => ?_)
  have hP : va_P D vwCl ((q, .inr (7, [.ref q1, .ref q2, .ref q3, .ref q4, .int 0, .int 0, .int 0, .int 0, .int 0, .int 0, .int 1, .int 0, .int 0, .int 0, .int 0])) :: (q1, .inl (cA 22, 10, .inr (.inr (.inr (.inr (ar 0 (fun _ _ => 0))))))) :: (q2, .inl (cA 23, 5, .inr (.inr (.inr (.inr (fun _ => none)))))) :: (q3, .inl (cA 24, 8, .inr (.inr (.inr (.inr (fun _ => none)))))) :: ([(q4, .inl (cA 20, 5, .inl (fun _ => 0)))] ++ [])) H39_ := by rw [ar_zero]; exact hP
  have hD : va_D (oA q s.heap.size) ((q, .inr (7, [.ref q1, .ref q2, .ref q3, .ref q4, .int 0, .int 0, .int 0, .int 0, .int 0, .int 0, .int 1, .int 0, .int 0, .int 0, .int 0])) :: (q1, .inl (cA 22, 10, .inr (.inr (.inr (.inr (ar 0 (fun _ _ => 0))))))) :: (q2, .inl (cA 23, 5, .inr (.inr (.inr (.inr (fun _ => none)))))) :: (q3, .inl (cA 24, 8, .inr (.inr (.inr (.inr (fun _ => none)))))) :: ([(q4, .inl (cA 20, 5, .inl (fun _ => 0)))] ++ [])) := by rw [ar_zero]; exact hD
  refine lp_twn1 (a := q1) (tl := [(q2, .inl (cA 23, 5, .inr (.inr (.inr (.inr (fun _ => none)))))), (q3, .inl (cA 24, 8, .inr (.inr (.inr (.inr (fun _ => none)))))), (q4, .inl (cA 20, 5, .inl (fun _ => 0)))]) hx hb hml hown hts hWI hA hA1 (Nat.le_of_ble_eq_true rfl) (Nat.le_of_ble_eq_true rfl) rfl 10 0 rfl (fun _ _ => 0) ls _ _ _ _ hl hP hD hS (Nat.le_of_ble_eq_true rfl) (Nat.le_of_ble_eq_true rfl) ?_
  intro hC ls H5 L5 hl hP hD hS
  have hP : va_P D vwCl ((q, .inr (7, [.ref q1, .ref q2, .ref q3, .ref q4, .int 0, .int 0, .int 0, .int 0, .int 0, .int 0, .int 1, .int 0, .int 0, .int 0, .int 0])) :: (q1, .inl (cA 22, 10, .inr (.inr (.inr (.inr (ar 10 hC)))))) :: (q2, .inl (cA 23, 5, .inr (.inr (.inr (.inr (fun _ => none)))))) :: (q3, .inl (cA 24, 8, .inr (.inr (.inr (.inr (fun _ => none)))))) :: ([(q4, .inl (cA 20, 5, .inl (fun _ => 0)))] ++ fl (grpC cA) 10 hC)) _ := hP
  have hD : va_D _ ((q, .inr (7, [.ref q1, .ref q2, .ref q3, .ref q4, .int 0, .int 0, .int 0, .int 0, .int 0, .int 0, .int 1, .int 0, .int 0, .int 0, .int 0])) :: (q1, .inl (cA 22, 10, .inr (.inr (.inr (.inr (ar 10 hC)))))) :: (q2, .inl (cA 23, 5, .inr (.inr (.inr (.inr (fun _ => none)))))) :: (q3, .inl (cA 24, 8, .inr (.inr (.inr (.inr (fun _ => none)))))) :: ([(q4, .inl (cA 20, 5, .inl (fun _ => 0)))] ++ fl (grpC cA) 10 hC)) := hD
  refine lv_iconst (v := 0) hx hb dX9_init_69 rfl ?_
  refine lv_istore_n hx hb dX9_init_70 rfl hl (by decide) rfl (fun ls hl => ?_)
  have hP : va_P D vwCl ((q, .inr (7, [.ref q1, .ref q2, .ref q3, .ref q4, .int 0, .int 0, .int 0, .int 0, .int 0, .int 0, .int 1, .int 0, .int 0, .int 0, .int 0])) :: (q1, .inl (cA 22, 10, .inr (.inr (.inr (.inr (ar 10 hC)))))) :: (q2, .inl (cA 23, 5, .inr (.inr (.inr (.inr (ar 0 (fun _ _ => 0))))))) :: (q3, .inl (cA 24, 8, .inr (.inr (.inr (.inr (fun _ => none)))))) :: (([(q4, .inl (cA 20, 5, .inl (fun _ => 0)))] ++ fl (grpC cA) 10 hC) ++ [])) H5 := by rw [ar_zero, List.append_nil]; exact hP
  have hD : va_D (oA q s.heap.size) ((q, .inr (7, [.ref q1, .ref q2, .ref q3, .ref q4, .int 0, .int 0, .int 0, .int 0, .int 0, .int 0, .int 1, .int 0, .int 0, .int 0, .int 0])) :: (q1, .inl (cA 22, 10, .inr (.inr (.inr (.inr (ar 10 hC)))))) :: (q2, .inl (cA 23, 5, .inr (.inr (.inr (.inr (ar 0 (fun _ _ => 0))))))) :: (q3, .inl (cA 24, 8, .inr (.inr (.inr (.inr (fun _ => none)))))) :: (([(q4, .inl (cA 20, 5, .inl (fun _ => 0)))] ++ fl (grpC cA) 10 hC) ++ [])) := by rw [ar_zero, List.append_nil]; exact hD
  refine lp_twn2 (a := q2) (x1 := (q1, .inl (cA 22, 10, .inr (.inr (.inr (.inr (ar 10 hC))))))) (tl := (q3, .inl (cA 24, 8, .inr (.inr (.inr (.inr (fun _ => none)))))) :: ([(q4, .inl (cA 20, 5, .inl (fun _ => 0)))] ++ fl (grpC cA) 10 hC)) hx hb hml hown hts hWI hA hA1 (Nat.le_of_ble_eq_true rfl) (Nat.le_of_ble_eq_true rfl) rfl 5 0 rfl (fun _ _ => 0) ls _ _ _ _ hl hP hD hS (Nat.le_of_ble_eq_true rfl) (Nat.le_of_ble_eq_true rfl) ?_
  intro hO ls H6 L6 hl hP hD hS
  have hP : va_P D vwCl ((q, .inr (7, [.ref q1, .ref q2, .ref q3, .ref q4, .int 0, .int 0, .int 0, .int 0, .int 0, .int 0, .int 1, .int 0, .int 0, .int 0, .int 0])) :: (q1, .inl (cA 22, 10, .inr (.inr (.inr (.inr (ar 10 hC)))))) :: (q2, .inl (cA 23, 5, .inr (.inr (.inr (.inr (ar 5 hO)))))) :: (q3, .inl (cA 24, 8, .inr (.inr (.inr (.inr (fun _ => none)))))) :: (([(q4, .inl (cA 20, 5, .inl (fun _ => 0)))] ++ fl (grpC cA) 10 hC) ++ fl (grpO cA) 5 hO)) _ := hP
  have hD : va_D _ ((q, .inr (7, [.ref q1, .ref q2, .ref q3, .ref q4, .int 0, .int 0, .int 0, .int 0, .int 0, .int 0, .int 1, .int 0, .int 0, .int 0, .int 0])) :: (q1, .inl (cA 22, 10, .inr (.inr (.inr (.inr (ar 10 hC)))))) :: (q2, .inl (cA 23, 5, .inr (.inr (.inr (.inr (ar 5 hO)))))) :: (q3, .inl (cA 24, 8, .inr (.inr (.inr (.inr (fun _ => none)))))) :: (([(q4, .inl (cA 20, 5, .inl (fun _ => 0)))] ++ fl (grpC cA) 10 hC) ++ fl (grpO cA) 5 hO)) := hD
  refine lv_iconst (v := 0) hx hb dX9_init_95 rfl ?_
  refine lv_istore_n hx hb dX9_init_96 rfl hl (by decide) rfl (fun ls hl => ?_)
  have hP : va_P D vwCl ((q, .inr (7, [.ref q1, .ref q2, .ref q3, .ref q4, .int 0, .int 0, .int 0, .int 0, .int 0, .int 0, .int 1, .int 0, .int 0, .int 0, .int 0])) :: (q1, .inl (cA 22, 10, .inr (.inr (.inr (.inr (ar 10 hC)))))) :: (q2, .inl (cA 23, 5, .inr (.inr (.inr (.inr (ar 5 hO)))))) :: (q3, .inl (cA 24, 8, .inr (.inr (.inr (.inr (ar 0 (fun _ _ => 0))))))) :: ((([(q4, .inl (cA 20, 5, .inl (fun _ => 0)))] ++ fl (grpC cA) 10 hC) ++ fl (grpO cA) 5 hO) ++ [])) H6 := by rw [ar_zero, List.append_nil]; exact hP
  have hD : va_D (oA q s.heap.size) ((q, .inr (7, [.ref q1, .ref q2, .ref q3, .ref q4, .int 0, .int 0, .int 0, .int 0, .int 0, .int 0, .int 1, .int 0, .int 0, .int 0, .int 0])) :: (q1, .inl (cA 22, 10, .inr (.inr (.inr (.inr (ar 10 hC)))))) :: (q2, .inl (cA 23, 5, .inr (.inr (.inr (.inr (ar 5 hO)))))) :: (q3, .inl (cA 24, 8, .inr (.inr (.inr (.inr (ar 0 (fun _ _ => 0))))))) :: ((([(q4, .inl (cA 20, 5, .inl (fun _ => 0)))] ++ fl (grpC cA) 10 hC) ++ fl (grpO cA) 5 hO) ++ [])) := by rw [ar_zero, List.append_nil]; exact hD
  refine lp_twn3 (a := q3) (x1 := (q1, .inl (cA 22, 10, .inr (.inr (.inr (.inr (ar 10 hC))))))) (x2 := (q2, .inl (cA 23, 5, .inr (.inr (.inr (.inr (ar 5 hO))))))) (tl := (([(q4, .inl (cA 20, 5, .inl (fun _ => 0)))] ++ fl (grpC cA) 10 hC) ++ fl (grpO cA) 5 hO)) hx hb hml hown hts hWI hA hA1 (Nat.le_of_ble_eq_true rfl) (Nat.le_of_ble_eq_true rfl) rfl 8 0 rfl (fun _ _ => 0) ls _ _ _ _ hl hP hD hS (Nat.le_of_ble_eq_true rfl) (Nat.le_of_ble_eq_true rfl) ?_
  intro hQ ls H7 L7 hl hP hD hS
  have hP : va_P D vwCl ((q, .inr (7, [.ref q1, .ref q2, .ref q3, .ref q4, .int 0, .int 0, .int 0, .int 0, .int 0, .int 0, .int 1, .int 0, .int 0, .int 0, .int 0])) :: (q1, .inl (cA 22, 10, .inr (.inr (.inr (.inr (ar 10 hC)))))) :: (q2, .inl (cA 23, 5, .inr (.inr (.inr (.inr (ar 5 hO)))))) :: (q3, .inl (cA 24, 8, .inr (.inr (.inr (.inr (ar 8 hQ)))))) :: ((([(q4, .inl (cA 20, 5, .inl (fun _ => 0)))] ++ fl (grpC cA) 10 hC) ++ fl (grpO cA) 5 hO) ++ fl (grpP cA) 8 hQ)) _ := hP
  have hD : va_D _ ((q, .inr (7, [.ref q1, .ref q2, .ref q3, .ref q4, .int 0, .int 0, .int 0, .int 0, .int 0, .int 0, .int 1, .int 0, .int 0, .int 0, .int 0])) :: (q1, .inl (cA 22, 10, .inr (.inr (.inr (.inr (ar 10 hC)))))) :: (q2, .inl (cA 23, 5, .inr (.inr (.inr (.inr (ar 5 hO)))))) :: (q3, .inl (cA 24, 8, .inr (.inr (.inr (.inr (ar 8 hQ)))))) :: ((([(q4, .inl (cA 20, 5, .inl (fun _ => 0)))] ++ fl (grpC cA) 10 hC) ++ fl (grpO cA) 5 hO) ++ fl (grpP cA) 8 hQ)) := hD
  obtain ⟨t0, hZ, hT⟩ := hWI.2.1
  refine va_getsN hx hb hZ (hS.wk hA1) hown (va_Nw.use rfl hWI.2.2.2.2.2.2.2.2.2) (fun _ h => h) dX9_init_122 ?_
  refine lv_iconst (v := 0) hx hb dX9_init_125 rfl ?_
  refine lv_aload_n hx hb dX9_init_126 rfl (lv_at hl 1 rfl) ?_
  refine k_get (ci := 7) (j := 3) hx hb hown hts hK hP (by decide) (Nat.le_of_ble_eq_true rfl) (tix_in (q := (1, 165)) rfl rfl) rfl dX9_init_127 ?_
  refine lv_iconst (v := 0) hx hb dX9_init_130 rfl ?_
  refine lv_iconst (v := 5) hx hb dX9_init_131 rfl ?_
  refine k_copy5 (q1 := 4) hx hb (by rw [hml, hl.1]) hown hts hK hP hD hS hA1 hT rfl (tix_in (q := (1, 154)) rfl rfl) (tix_in (q := (1, 156)) rfl rfl) (tix_in (q := (1, 155)) rfl rfl) (tix_in (q := (1, 6)) rfl rfl) (Nat.le_of_ble_eq_true rfl) (Nat.le_of_ble_eq_true rfl) dX9_init_132 ?_
  intro H8 L8 hP hD hS
  exact k_end (g := TWg q q1 q2 q3 q4 hC hO hQ) hx hb hr hlocks rfl (TW_P (sf := va_cpy (fun j => ([20, 2, 20, 25, 5] : List Int32).getD j 0) (fun _ => 0) 0 0 5) (fun j hj => match j, hj with | 0, _ => rfl | 1, _ => rfl | 2, _ => rfl | 3, _ => rfl | 4, _ => rfl) hP) (TW_D (sf := va_cpy (fun j => ([20, 2, 20, 25, 5] : List Int32).getD j 0) (fun _ => 0) 0 0 5) hD) hS (Nat.le_of_ble_eq_true rfl) (Nat.le_of_ble_eq_true rfl) dX9_init_135
end CTORF
