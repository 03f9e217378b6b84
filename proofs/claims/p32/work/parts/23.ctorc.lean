/-! CONSTRUCTORS: the small ones (wip/p32/genctor23.py) -/
section CTORC
variable {l : Launch} {N0 : Nat} {D : va_G} {cA : Nat → ClassId}
theorem dX1_init_0 : decode cX1_init 0 = .ok (.aload_n 0, 1) := by decide +kernel
theorem dX1_init_1 : decode cX1_init 1 = .ok (.invokespecial 3, 3) := by decide +kernel
theorem dX1_init_4 : decode cX1_init 4 = .ok (.aload_n 0, 1) := by decide +kernel
theorem dX1_init_5 : decode cX1_init 5 = .ok (.bipush 10, 2) := by decide +kernel
theorem dX1_init_7 : decode cX1_init 7 = .ok (.newarray .int, 2) := by decide +kernel
theorem dX1_init_9 : decode cX1_init 9 = .ok (.putfield 9, 3) := by decide +kernel
theorem dX1_init_12 : decode cX1_init 12 = .ok (.return_, 1) := by decide +kernel
def grpC (cA : Nat → ClassId) (g : Nat → Nat) : va_W := [(g 0, .inr (0, [.int 0, .int 0, .int 0, .int 0, .ref (g 1)])), (g 1, .inl (cA 20, 10, .inl (fun _ => 0)))]
set_option maxHeartbeats 4000000 in
set_option maxRecDepth 100000 in
theorem cm_cor : CM l N0 D cA yX1_init cX1_init 1 0 1 10 0 (grpC cA) := by
  refine c_of (by decide +kernel) rfl ?_
  intro q p e s m args below meth c hx hb hml hr hlocks hown hts hin hWI hN hz hP hD
  have hK := hWI.1
  have hA : ∀ z, s.heap.size ≤ z → oA q s.heap.size z := fun z h => Or.inr h
  have hA1 : ∀ z, oA q s.heap.size z → jA N0 z := fun z h => by
    rcases h with h | h
    · rw [h]; exact hN
    · exact Nat.le_trans (Nat.le_trans hN (Nat.le_of_lt hz)) h
  have hS : va_S (oA q s.heap.size) s.heap s.heap [] := va_S.rf
  have hl := lv_entry ([.ref q]) (n := 1) (Nat.le_of_ble_eq_true rfl)
  rw [lg_entry_eq]
  generalize (lg_sl ([.ref q]) ++ List.replicate (1 - (lg_sl ([.ref q])).length) Slot.unset).toArray = ls at hl ⊢
  have hl : lv_has ls 1 [(0, .ref q)] := hl
  refine lv_aload_n hx hb dX1_init_0 rfl (lv_at hl 0 rfl) ?_
  refine W.objInit hx hb hown (hts _ (tix_in (q := (1, 49)) rfl rfl)) (hts _ (tix_in (q := (1, 31)) rfl rfl)) (hts _ (tix_in (q := (1, 32)) rfl rfl)) rfl (by rw [hml]; exact hl.1) rfl dX1_init_1 (Nat.le_of_ble_eq_true rfl) (Nat.le_of_ble_eq_true rfl) ?_
  refine W.eq (g2 := F0 m 4 ls []) rfl ?_
  have hP : va_P D vwCl ((q, .inr (0, [.int 0, .int 0, .int 0, .int 0, .null])) :: []) _ := hP
  have hD : va_D _ ((q, .inr (0, [.int 0, .int 0, .int 0, .int 0, .null])) :: []) := hD
  refine lv_aload_n hx hb dX1_init_4 rfl (lv_at hl 0 rfl) ?_
  refine lv_bipush (v := 10) hx hb dX1_init_5 rfl ?_
  refine k_newa (N := 10) hx hb hts hK hP hD hS hA (tix_in (q := (1, 72)) rfl rfl) (by decide) rfl (by decide) (Nat.le_of_ble_eq_true rfl) (Nat.le_of_ble_eq_true rfl) dX1_init_7 ?_
  intro q1 H1 hP hD hS
  have hP : va_P D vwCl ((q, .inr (0, [.int 0, .int 0, .int 0, .int 0, .null])) :: [(q1, .inl (cA 20, 10, .inl (fun _ => 0)))]) _ := hP
  have hD : va_D _ ((q, .inr (0, [.int 0, .int 0, .int 0, .int 0, .null])) :: [(q1, .inl (cA 20, 10, .inl (fun _ => 0)))]) := hD
  refine k_putF (ci := 0) (j := 4) (ty := .array .int) hx hb hown hts hK hP hD hS (by decide) (Nat.le_of_ble_eq_true rfl) (tix_in (q := (1, 60)) rfl rfl) rfl hin rfl (by decide +kernel) rfl rfl (Nat.le_of_ble_eq_true rfl) dX1_init_9 ?_
  intro H9_ L_9 hP hD hS
  have hP : va_P D vwCl ((q, .inr (0, [.int 0, .int 0, .int 0, .int 0, .ref q1])) :: [(q1, .inl (cA 20, 10, .inl (fun _ => 0)))]) _ := hP
  have hD : va_D _ ((q, .inr (0, [.int 0, .int 0, .int 0, .int 0, .ref q1])) :: [(q1, .inl (cA 20, 10, .inl (fun _ => 0)))]) := hD
  exact k_end (g := fun i => match i with | 0 => q | 1 => q1 | _ => 0) hx hb hr hlocks rfl hP hD hS (Nat.le_of_ble_eq_true rfl) (Nat.le_of_ble_eq_true rfl) dX1_init_12
theorem dX3_init_0 : decode cX3_init 0 = .ok (.aload_n 0, 1) := by decide +kernel
theorem dX3_init_1 : decode cX3_init 1 = .ok (.invokespecial 3, 3) := by decide +kernel
theorem dX3_init_4 : decode cX3_init 4 = .ok (.aload_n 0, 1) := by decide +kernel
theorem dX3_init_5 : decode cX3_init 5 = .ok (.bipush 60, 2) := by decide +kernel
theorem dX3_init_7 : decode cX3_init 7 = .ok (.newarray .int, 2) := by decide +kernel
theorem dX3_init_9 : decode cX3_init 9 = .ok (.putfield 9, 3) := by decide +kernel
theorem dX3_init_12 : decode cX3_init 12 = .ok (.return_, 1) := by decide +kernel
def grpX (cA : Nat → ClassId) (g : Nat → Nat) : va_W := [(g 0, .inr (1, [.ref (g 1), .int 0])), (g 1, .inl (cA 20, 60, .inl (fun _ => 0)))]
set_option maxHeartbeats 4000000 in
set_option maxRecDepth 100000 in
theorem cm_txt : CM l N0 D cA yX3_init cX3_init 1 0 1 60 1 (grpX cA) := by
  refine c_of (by decide +kernel) rfl ?_
  intro q p e s m args below meth c hx hb hml hr hlocks hown hts hin hWI hN hz hP hD
  have hK := hWI.1
  have hA : ∀ z, s.heap.size ≤ z → oA q s.heap.size z := fun z h => Or.inr h
  have hA1 : ∀ z, oA q s.heap.size z → jA N0 z := fun z h => by
    rcases h with h | h
    · rw [h]; exact hN
    · exact Nat.le_trans (Nat.le_trans hN (Nat.le_of_lt hz)) h
  have hS : va_S (oA q s.heap.size) s.heap s.heap [] := va_S.rf
  have hl := lv_entry ([.ref q]) (n := 1) (Nat.le_of_ble_eq_true rfl)
  rw [lg_entry_eq]
  generalize (lg_sl ([.ref q]) ++ List.replicate (1 - (lg_sl ([.ref q])).length) Slot.unset).toArray = ls at hl ⊢
  have hl : lv_has ls 1 [(0, .ref q)] := hl
  refine lv_aload_n hx hb dX3_init_0 rfl (lv_at hl 0 rfl) ?_
  refine W.objInit hx hb hown (hts _ (tix_in (q := (2, 11)) rfl rfl)) (hts _ (tix_in (q := (1, 31)) rfl rfl)) (hts _ (tix_in (q := (1, 32)) rfl rfl)) rfl (by rw [hml]; exact hl.1) rfl dX3_init_1 (Nat.le_of_ble_eq_true rfl) (Nat.le_of_ble_eq_true rfl) ?_
  refine W.eq (g2 := F0 m 4 ls []) rfl ?_
  have hP : va_P D vwCl ((q, .inr (1, [.null, .int 0])) :: []) _ := hP
  have hD : va_D _ ((q, .inr (1, [.null, .int 0])) :: []) := hD
  refine lv_aload_n hx hb dX3_init_4 rfl (lv_at hl 0 rfl) ?_
  refine lv_bipush (v := 60) hx hb dX3_init_5 rfl ?_
  refine k_newa (N := 60) hx hb hts hK hP hD hS hA (tix_in (q := (1, 72)) rfl rfl) (by decide) rfl (by decide) (Nat.le_of_ble_eq_true rfl) (Nat.le_of_ble_eq_true rfl) dX3_init_7 ?_
  intro q1 H1 hP hD hS
  have hP : va_P D vwCl ((q, .inr (1, [.null, .int 0])) :: [(q1, .inl (cA 20, 60, .inl (fun _ => 0)))]) _ := hP
  have hD : va_D _ ((q, .inr (1, [.null, .int 0])) :: [(q1, .inl (cA 20, 60, .inl (fun _ => 0)))]) := hD
  refine k_putF (ci := 1) (j := 0) (ty := .array .int) hx hb hown hts hK hP hD hS (by decide) (Nat.le_of_ble_eq_true rfl) (tix_in (q := (2, 12)) rfl rfl) rfl hin rfl (by decide +kernel) rfl rfl (Nat.le_of_ble_eq_true rfl) dX3_init_9 ?_
  intro H9_ L_9 hP hD hS
  have hP : va_P D vwCl ((q, .inr (1, [.ref q1, .int 0])) :: [(q1, .inl (cA 20, 60, .inl (fun _ => 0)))]) _ := hP
  have hD : va_D _ ((q, .inr (1, [.ref q1, .int 0])) :: [(q1, .inl (cA 20, 60, .inl (fun _ => 0)))]) := hD
  exact k_end (g := fun i => match i with | 0 => q | 1 => q1 | _ => 0) hx hb hr hlocks rfl hP hD hS (Nat.le_of_ble_eq_true rfl) (Nat.le_of_ble_eq_true rfl) dX3_init_12
theorem dX4_init_0 : decode cX4_init 0 = .ok (.aload_n 0, 1) := by decide +kernel
theorem dX4_init_1 : decode cX4_init 1 = .ok (.invokespecial 3, 3) := by decide +kernel
theorem dX4_init_4 : decode cX4_init 4 = .ok (.aload_n 0, 1) := by decide +kernel
theorem dX4_init_5 : decode cX4_init 5 = .ok (.iconst (-1), 1) := by decide +kernel
theorem dX4_init_6 : decode cX4_init 6 = .ok (.putfield 9, 3) := by decide +kernel
theorem dX4_init_9 : decode cX4_init 9 = .ok (.aload_n 0, 1) := by decide +kernel
theorem dX4_init_10 : decode cX4_init 10 = .ok (.iconst (-1), 1) := by decide +kernel
theorem dX4_init_11 : decode cX4_init 11 = .ok (.putfield 15, 3) := by decide +kernel
theorem dX4_init_14 : decode cX4_init 14 = .ok (.return_, 1) := by decide +kernel
def grpO (cA : Nat → ClassId) (g : Nat → Nat) : va_W := [(g 0, .inr (2, [.int 0, .int 0, .int 0, .int (-1), .int 0, .int 0, .int 0, .int (-1)]))]
set_option maxHeartbeats 4000000 in
set_option maxRecDepth 100000 in
theorem cm_org : CM l N0 D cA yX4_init cX4_init 1 0 0 0 2 (grpO cA) := by
  refine c_of (by decide +kernel) rfl ?_
  intro q p e s m args below meth c hx hb hml hr hlocks hown hts hin hWI hN hz hP hD
  have hK := hWI.1
  have hA : ∀ z, s.heap.size ≤ z → oA q s.heap.size z := fun z h => Or.inr h
  have hA1 : ∀ z, oA q s.heap.size z → jA N0 z := fun z h => by
    rcases h with h | h
    · rw [h]; exact hN
    · exact Nat.le_trans (Nat.le_trans hN (Nat.le_of_lt hz)) h
  have hS : va_S (oA q s.heap.size) s.heap s.heap [] := va_S.rf
  have hl := lv_entry ([.ref q]) (n := 1) (Nat.le_of_ble_eq_true rfl)
  rw [lg_entry_eq]
  generalize (lg_sl ([.ref q]) ++ List.replicate (1 - (lg_sl ([.ref q])).length) Slot.unset).toArray = ls at hl ⊢
  have hl : lv_has ls 1 [(0, .ref q)] := hl
  refine lv_aload_n hx hb dX4_init_0 rfl (lv_at hl 0 rfl) ?_
  refine W.objInit hx hb hown (hts _ (tix_in (q := (1, 77)) rfl rfl)) (hts _ (tix_in (q := (1, 31)) rfl rfl)) (hts _ (tix_in (q := (1, 32)) rfl rfl)) rfl (by rw [hml]; exact hl.1) rfl dX4_init_1 (Nat.le_of_ble_eq_true rfl) (Nat.le_of_ble_eq_true rfl) ?_
  refine W.eq (g2 := F0 m 4 ls []) rfl ?_
  have hP : va_P D vwCl ((q, .inr (2, [.int 0, .int 0, .int 0, .int 0, .int 0, .int 0, .int 0, .int 0])) :: []) _ := hP
  have hD : va_D _ ((q, .inr (2, [.int 0, .int 0, .int 0, .int 0, .int 0, .int 0, .int 0, .int 0])) :: []) := hD
  refine lv_aload_n hx hb dX4_init_4 rfl (lv_at hl 0 rfl) ?_
  refine lv_iconst (v := (-1)) hx hb dX4_init_5 rfl ?_
  refine k_put (ci := 2) (j := 3) (ty := .int) hx hb hown hts hK hP hD hS (by decide) (Nat.le_of_ble_eq_true rfl) (tix_in (q := (1, 87)) rfl rfl) rfl  (by decide +kernel) rfl rfl (Nat.le_of_ble_eq_true rfl) dX4_init_6 ?_
  intro H6_ L_6 hP hD hS
  have hP : va_P D vwCl ((q, .inr (2, [.int 0, .int 0, .int 0, .int (-1), .int 0, .int 0, .int 0, .int 0])) :: []) _ := hP
  have hD : va_D _ ((q, .inr (2, [.int 0, .int 0, .int 0, .int (-1), .int 0, .int 0, .int 0, .int 0])) :: []) := hD
  refine lv_aload_n hx hb dX4_init_9 rfl (lv_at hl 0 rfl) ?_
  refine lv_iconst (v := (-1)) hx hb dX4_init_10 rfl ?_
  refine k_put (ci := 2) (j := 7) (ty := .int) hx hb hown hts hK hP hD hS (by decide) (Nat.le_of_ble_eq_true rfl) (tix_in (q := (1, 100)) rfl rfl) rfl  (by decide +kernel) rfl rfl (Nat.le_of_ble_eq_true rfl) dX4_init_11 ?_
  intro H11_ L_11 hP hD hS
  have hP : va_P D vwCl ((q, .inr (2, [.int 0, .int 0, .int 0, .int (-1), .int 0, .int 0, .int 0, .int (-1)])) :: []) _ := hP
  have hD : va_D _ ((q, .inr (2, [.int 0, .int 0, .int 0, .int (-1), .int 0, .int 0, .int 0, .int (-1)])) :: []) := hD
  exact k_end (g := fun i => match i with | 0 => q | _ => 0) hx hb hr hlocks rfl hP hD hS (Nat.le_of_ble_eq_true rfl) (Nat.le_of_ble_eq_true rfl) dX4_init_14
theorem dX5_init_0 : decode cX5_init 0 = .ok (.aload_n 0, 1) := by decide +kernel
theorem dX5_init_1 : decode cX5_init 1 = .ok (.invokespecial 3, 3) := by decide +kernel
theorem dX5_init_4 : decode cX5_init 4 = .ok (.aload_n 0, 1) := by decide +kernel
theorem dX5_init_5 : decode cX5_init 5 = .ok (.iconst 5, 1) := by decide +kernel
theorem dX5_init_6 : decode cX5_init 6 = .ok (.newarray .int, 2) := by decide +kernel
theorem dX5_init_8 : decode cX5_init 8 = .ok (.putfield 9, 3) := by decide +kernel
theorem dX5_init_11 : decode cX5_init 11 = .ok (.aload_n 0, 1) := by decide +kernel
theorem dX5_init_12 : decode cX5_init 12 = .ok (.iconst 5, 1) := by decide +kernel
theorem dX5_init_13 : decode cX5_init 13 = .ok (.newarray .int, 2) := by decide +kernel
theorem dX5_init_15 : decode cX5_init 15 = .ok (.putfield 15, 3) := by decide +kernel
theorem dX5_init_18 : decode cX5_init 18 = .ok (.return_, 1) := by decide +kernel
def grpU (cA : Nat → ClassId) (g : Nat → Nat) : va_W := [(g 0, .inr (3, [.ref (g 1), .ref (g 2), .int 0, .int 0])), (g 1, .inl (cA 20, 5, .inl (fun _ => 0))), (g 2, .inl (cA 20, 5, .inl (fun _ => 0)))]
set_option maxHeartbeats 4000000 in
set_option maxRecDepth 100000 in
theorem cm_out : CM l N0 D cA yX5_init cX5_init 1 0 2 10 3 (grpU cA) := by
  refine c_of (by decide +kernel) rfl ?_
  intro q p e s m args below meth c hx hb hml hr hlocks hown hts hin hWI hN hz hP hD
  have hK := hWI.1
  have hA : ∀ z, s.heap.size ≤ z → oA q s.heap.size z := fun z h => Or.inr h
  have hA1 : ∀ z, oA q s.heap.size z → jA N0 z := fun z h => by
    rcases h with h | h
    · rw [h]; exact hN
    · exact Nat.le_trans (Nat.le_trans hN (Nat.le_of_lt hz)) h
  have hS : va_S (oA q s.heap.size) s.heap s.heap [] := va_S.rf
  have hl := lv_entry ([.ref q]) (n := 1) (Nat.le_of_ble_eq_true rfl)
  rw [lg_entry_eq]
  generalize (lg_sl ([.ref q]) ++ List.replicate (1 - (lg_sl ([.ref q])).length) Slot.unset).toArray = ls at hl ⊢
  have hl : lv_has ls 1 [(0, .ref q)] := hl
  refine lv_aload_n hx hb dX5_init_0 rfl (lv_at hl 0 rfl) ?_
  refine W.objInit hx hb hown (hts _ (tix_in (q := (2, 46)) rfl rfl)) (hts _ (tix_in (q := (1, 31)) rfl rfl)) (hts _ (tix_in (q := (1, 32)) rfl rfl)) rfl (by rw [hml]; exact hl.1) rfl dX5_init_1 (Nat.le_of_ble_eq_true rfl) (Nat.le_of_ble_eq_true rfl) ?_
  refine W.eq (g2 := F0 m 4 ls []) rfl ?_
  have hP : va_P D vwCl ((q, .inr (3, [.null, .null, .int 0, .int 0])) :: []) _ := hP
  have hD : va_D _ ((q, .inr (3, [.null, .null, .int 0, .int 0])) :: []) := hD
  refine lv_aload_n hx hb dX5_init_4 rfl (lv_at hl 0 rfl) ?_
  refine lv_iconst (v := 5) hx hb dX5_init_5 rfl ?_
  refine k_newa (N := 5) hx hb hts hK hP hD hS hA (tix_in (q := (1, 72)) rfl rfl) (by decide) rfl (by decide) (Nat.le_of_ble_eq_true rfl) (Nat.le_of_ble_eq_true rfl) dX5_init_6 ?_
  intro q1 H1 hP hD hS
  have hP : va_P D vwCl ((q, .inr (3, [.null, .null, .int 0, .int 0])) :: [(q1, .inl (cA 20, 5, .inl (fun _ => 0)))]) _ := hP
  have hD : va_D _ ((q, .inr (3, [.null, .null, .int 0, .int 0])) :: [(q1, .inl (cA 20, 5, .inl (fun _ => 0)))]) := hD
  refine k_putF (ci := 3) (j := 0) (ty := .array .int) hx hb hown hts hK hP hD hS (by decide) (Nat.le_of_ble_eq_true rfl) (tix_in (q := (2, 47)) rfl rfl) rfl hin rfl (by decide +kernel) rfl rfl (Nat.le_of_ble_eq_true rfl) dX5_init_8 ?_
  intro H8_ L_8 hP hD hS
  have hP : va_P D vwCl ((q, .inr (3, [.ref q1, .null, .int 0, .int 0])) :: [(q1, .inl (cA 20, 5, .inl (fun _ => 0)))]) _ := hP
  have hD : va_D _ ((q, .inr (3, [.ref q1, .null, .int 0, .int 0])) :: [(q1, .inl (cA 20, 5, .inl (fun _ => 0)))]) := hD
  refine lv_aload_n hx hb dX5_init_11 rfl (lv_at hl 0 rfl) ?_
  refine lv_iconst (v := 5) hx hb dX5_init_12 rfl ?_
  refine k_newa (N := 5) hx hb hts hK hP hD hS hA (tix_in (q := (1, 72)) rfl rfl) (by decide) rfl (by decide) (Nat.le_of_ble_eq_true rfl) (Nat.le_of_ble_eq_true rfl) dX5_init_13 ?_
  intro q2 H2 hP hD hS
  have hP : va_P D vwCl ((q, .inr (3, [.ref q1, .null, .int 0, .int 0])) :: ([(q1, .inl (cA 20, 5, .inl (fun _ => 0)))] ++ [(q2, .inl (cA 20, 5, .inl (fun _ => 0)))])) _ := hP
  have hD : va_D _ ((q, .inr (3, [.ref q1, .null, .int 0, .int 0])) :: ([(q1, .inl (cA 20, 5, .inl (fun _ => 0)))] ++ [(q2, .inl (cA 20, 5, .inl (fun _ => 0)))])) := hD
  refine k_putF (ci := 3) (j := 1) (ty := .array .int) hx hb hown hts hK hP hD hS (by decide) (Nat.le_of_ble_eq_true rfl) (tix_in (q := (2, 48)) rfl rfl) rfl hin rfl (by decide +kernel) rfl rfl (Nat.le_of_ble_eq_true rfl) dX5_init_15 ?_
  intro H15_ L_15 hP hD hS
  have hP : va_P D vwCl ((q, .inr (3, [.ref q1, .ref q2, .int 0, .int 0])) :: ([(q1, .inl (cA 20, 5, .inl (fun _ => 0)))] ++ [(q2, .inl (cA 20, 5, .inl (fun _ => 0)))])) _ := hP
  have hD : va_D _ ((q, .inr (3, [.ref q1, .ref q2, .int 0, .int 0])) :: ([(q1, .inl (cA 20, 5, .inl (fun _ => 0)))] ++ [(q2, .inl (cA 20, 5, .inl (fun _ => 0)))])) := hD
  exact k_end (g := fun i => match i with | 0 => q | 1 => q1 | 2 => q2 | _ => 0) hx hb hr hlocks rfl hP hD hS (Nat.le_of_ble_eq_true rfl) (Nat.le_of_ble_eq_true rfl) dX5_init_18
theorem dX6_init_0 : decode cX6_init 0 = .ok (.aload_n 0, 1) := by decide +kernel
theorem dX6_init_1 : decode cX6_init 1 = .ok (.invokespecial 3, 3) := by decide +kernel
theorem dX6_init_4 : decode cX6_init 4 = .ok (.aload_n 0, 1) := by decide +kernel
theorem dX6_init_5 : decode cX6_init 5 = .ok (.bipush 8, 2) := by decide +kernel
theorem dX6_init_7 : decode cX6_init 7 = .ok (.newarray .int, 2) := by decide +kernel
theorem dX6_init_9 : decode cX6_init 9 = .ok (.putfield 9, 3) := by decide +kernel
theorem dX6_init_12 : decode cX6_init 12 = .ok (.aload_n 0, 1) := by decide +kernel
theorem dX6_init_13 : decode cX6_init 13 = .ok (.bipush 8, 2) := by decide +kernel
theorem dX6_init_15 : decode cX6_init 15 = .ok (.newarray .int, 2) := by decide +kernel
theorem dX6_init_17 : decode cX6_init 17 = .ok (.putfield 15, 3) := by decide +kernel
theorem dX6_init_20 : decode cX6_init 20 = .ok (.aload_n 0, 1) := by decide +kernel
theorem dX6_init_21 : decode cX6_init 21 = .ok (.bipush 8, 2) := by decide +kernel
theorem dX6_init_23 : decode cX6_init 23 = .ok (.newarray .int, 2) := by decide +kernel
theorem dX6_init_25 : decode cX6_init 25 = .ok (.putfield 18, 3) := by decide +kernel
theorem dX6_init_28 : decode cX6_init 28 = .ok (.return_, 1) := by decide +kernel
def grpY (cA : Nat → ClassId) (g : Nat → Nat) : va_W := [(g 0, .inr (4, [.ref (g 1), .ref (g 2), .ref (g 3)])), (g 1, .inl (cA 20, 8, .inl (fun _ => 0))), (g 2, .inl (cA 20, 8, .inl (fun _ => 0))), (g 3, .inl (cA 20, 8, .inl (fun _ => 0)))]
set_option maxHeartbeats 4000000 in
set_option maxRecDepth 100000 in
theorem cm_pay : CM l N0 D cA yX6_init cX6_init 1 0 3 24 4 (grpY cA) := by
  refine c_of (by decide +kernel) rfl ?_
  intro q p e s m args below meth c hx hb hml hr hlocks hown hts hin hWI hN hz hP hD
  have hK := hWI.1
  have hA : ∀ z, s.heap.size ≤ z → oA q s.heap.size z := fun z h => Or.inr h
  have hA1 : ∀ z, oA q s.heap.size z → jA N0 z := fun z h => by
    rcases h with h | h
    · rw [h]; exact hN
    · exact Nat.le_trans (Nat.le_trans hN (Nat.le_of_lt hz)) h
  have hS : va_S (oA q s.heap.size) s.heap s.heap [] := va_S.rf
  have hl := lv_entry ([.ref q]) (n := 1) (Nat.le_of_ble_eq_true rfl)
  rw [lg_entry_eq]
  generalize (lg_sl ([.ref q]) ++ List.replicate (1 - (lg_sl ([.ref q])).length) Slot.unset).toArray = ls at hl ⊢
  have hl : lv_has ls 1 [(0, .ref q)] := hl
  refine lv_aload_n hx hb dX6_init_0 rfl (lv_at hl 0 rfl) ?_
  refine W.objInit hx hb hown (hts _ (tix_in (q := (2, 26)) rfl rfl)) (hts _ (tix_in (q := (1, 31)) rfl rfl)) (hts _ (tix_in (q := (1, 32)) rfl rfl)) rfl (by rw [hml]; exact hl.1) rfl dX6_init_1 (Nat.le_of_ble_eq_true rfl) (Nat.le_of_ble_eq_true rfl) ?_
  refine W.eq (g2 := F0 m 4 ls []) rfl ?_
  have hP : va_P D vwCl ((q, .inr (4, [.null, .null, .null])) :: []) _ := hP
  have hD : va_D _ ((q, .inr (4, [.null, .null, .null])) :: []) := hD
  refine lv_aload_n hx hb dX6_init_4 rfl (lv_at hl 0 rfl) ?_
  refine lv_bipush (v := 8) hx hb dX6_init_5 rfl ?_
  refine k_newa (N := 8) hx hb hts hK hP hD hS hA (tix_in (q := (1, 72)) rfl rfl) (by decide) rfl (by decide) (Nat.le_of_ble_eq_true rfl) (Nat.le_of_ble_eq_true rfl) dX6_init_7 ?_
  intro q1 H1 hP hD hS
  have hP : va_P D vwCl ((q, .inr (4, [.null, .null, .null])) :: [(q1, .inl (cA 20, 8, .inl (fun _ => 0)))]) _ := hP
  have hD : va_D _ ((q, .inr (4, [.null, .null, .null])) :: [(q1, .inl (cA 20, 8, .inl (fun _ => 0)))]) := hD
  refine k_putF (ci := 4) (j := 0) (ty := .array .int) hx hb hown hts hK hP hD hS (by decide) (Nat.le_of_ble_eq_true rfl) (tix_in (q := (2, 27)) rfl rfl) rfl hin rfl (by decide +kernel) rfl rfl (Nat.le_of_ble_eq_true rfl) dX6_init_9 ?_
  intro H9_ L_9 hP hD hS
  have hP : va_P D vwCl ((q, .inr (4, [.ref q1, .null, .null])) :: [(q1, .inl (cA 20, 8, .inl (fun _ => 0)))]) _ := hP
  have hD : va_D _ ((q, .inr (4, [.ref q1, .null, .null])) :: [(q1, .inl (cA 20, 8, .inl (fun _ => 0)))]) := hD
  refine lv_aload_n hx hb dX6_init_12 rfl (lv_at hl 0 rfl) ?_
  refine lv_bipush (v := 8) hx hb dX6_init_13 rfl ?_
  refine k_newa (N := 8) hx hb hts hK hP hD hS hA (tix_in (q := (1, 72)) rfl rfl) (by decide) rfl (by decide) (Nat.le_of_ble_eq_true rfl) (Nat.le_of_ble_eq_true rfl) dX6_init_15 ?_
  intro q2 H2 hP hD hS
  have hP : va_P D vwCl ((q, .inr (4, [.ref q1, .null, .null])) :: ([(q1, .inl (cA 20, 8, .inl (fun _ => 0)))] ++ [(q2, .inl (cA 20, 8, .inl (fun _ => 0)))])) _ := hP
  have hD : va_D _ ((q, .inr (4, [.ref q1, .null, .null])) :: ([(q1, .inl (cA 20, 8, .inl (fun _ => 0)))] ++ [(q2, .inl (cA 20, 8, .inl (fun _ => 0)))])) := hD
  refine k_putF (ci := 4) (j := 1) (ty := .array .int) hx hb hown hts hK hP hD hS (by decide) (Nat.le_of_ble_eq_true rfl) (tix_in (q := (2, 30)) rfl rfl) rfl hin rfl (by decide +kernel) rfl rfl (Nat.le_of_ble_eq_true rfl) dX6_init_17 ?_
  intro H17_ L_17 hP hD hS
  have hP : va_P D vwCl ((q, .inr (4, [.ref q1, .ref q2, .null])) :: ([(q1, .inl (cA 20, 8, .inl (fun _ => 0)))] ++ [(q2, .inl (cA 20, 8, .inl (fun _ => 0)))])) _ := hP
  have hD : va_D _ ((q, .inr (4, [.ref q1, .ref q2, .null])) :: ([(q1, .inl (cA 20, 8, .inl (fun _ => 0)))] ++ [(q2, .inl (cA 20, 8, .inl (fun _ => 0)))])) := hD
  refine lv_aload_n hx hb dX6_init_20 rfl (lv_at hl 0 rfl) ?_
  refine lv_bipush (v := 8) hx hb dX6_init_21 rfl ?_
  refine k_newa (N := 8) hx hb hts hK hP hD hS hA (tix_in (q := (1, 72)) rfl rfl) (by decide) rfl (by decide) (Nat.le_of_ble_eq_true rfl) (Nat.le_of_ble_eq_true rfl) dX6_init_23 ?_
  intro q3 H3 hP hD hS
  have hP : va_P D vwCl ((q, .inr (4, [.ref q1, .ref q2, .null])) :: (([(q1, .inl (cA 20, 8, .inl (fun _ => 0)))] ++ [(q2, .inl (cA 20, 8, .inl (fun _ => 0)))]) ++ [(q3, .inl (cA 20, 8, .inl (fun _ => 0)))])) _ := hP
  have hD : va_D _ ((q, .inr (4, [.ref q1, .ref q2, .null])) :: (([(q1, .inl (cA 20, 8, .inl (fun _ => 0)))] ++ [(q2, .inl (cA 20, 8, .inl (fun _ => 0)))]) ++ [(q3, .inl (cA 20, 8, .inl (fun _ => 0)))])) := hD
  refine k_putF (ci := 4) (j := 2) (ty := .array .int) hx hb hown hts hK hP hD hS (by decide) (Nat.le_of_ble_eq_true rfl) (tix_in (q := (2, 33)) rfl rfl) rfl hin rfl (by decide +kernel) rfl rfl (Nat.le_of_ble_eq_true rfl) dX6_init_25 ?_
  intro H25_ L_25 hP hD hS
  have hP : va_P D vwCl ((q, .inr (4, [.ref q1, .ref q2, .ref q3])) :: (([(q1, .inl (cA 20, 8, .inl (fun _ => 0)))] ++ [(q2, .inl (cA 20, 8, .inl (fun _ => 0)))]) ++ [(q3, .inl (cA 20, 8, .inl (fun _ => 0)))])) _ := hP
  have hD : va_D _ ((q, .inr (4, [.ref q1, .ref q2, .ref q3])) :: (([(q1, .inl (cA 20, 8, .inl (fun _ => 0)))] ++ [(q2, .inl (cA 20, 8, .inl (fun _ => 0)))]) ++ [(q3, .inl (cA 20, 8, .inl (fun _ => 0)))])) := hD
  exact k_end (g := fun i => match i with | 0 => q | 1 => q1 | 2 => q2 | 3 => q3 | _ => 0) hx hb hr hlocks rfl hP hD hS (Nat.le_of_ble_eq_true rfl) (Nat.le_of_ble_eq_true rfl) dX6_init_28
theorem dX7_init_0 : decode cX7_init 0 = .ok (.aload_n 0, 1) := by decide +kernel
theorem dX7_init_1 : decode cX7_init 1 = .ok (.invokespecial 3, 3) := by decide +kernel
theorem dX7_init_4 : decode cX7_init 4 = .ok (.aload_n 0, 1) := by decide +kernel
theorem dX7_init_5 : decode cX7_init 5 = .ok (.iconst (-1), 1) := by decide +kernel
theorem dX7_init_6 : decode cX7_init 6 = .ok (.putfield 9, 3) := by decide +kernel
theorem dX7_init_9 : decode cX7_init 9 = .ok (.aload_n 0, 1) := by decide +kernel
theorem dX7_init_10 : decode cX7_init 10 = .ok (.iconst 5, 1) := by decide +kernel
theorem dX7_init_11 : decode cX7_init 11 = .ok (.newarray .int, 2) := by decide +kernel
theorem dX7_init_13 : decode cX7_init 13 = .ok (.putfield 15, 3) := by decide +kernel
theorem dX7_init_16 : decode cX7_init 16 = .ok (.return_, 1) := by decide +kernel
def grpP (cA : Nat → ClassId) (g : Nat → Nat) : va_W := [(g 0, .inr (5, [.int (-1), .int 0, .int 0, .int 0, .ref (g 1)])), (g 1, .inl (cA 20, 5, .inl (fun _ => 0)))]
set_option maxHeartbeats 4000000 in
set_option maxRecDepth 100000 in
theorem cm_ply : CM l N0 D cA yX7_init cX7_init 1 0 1 5 5 (grpP cA) := by
  refine c_of (by decide +kernel) rfl ?_
  intro q p e s m args below meth c hx hb hml hr hlocks hown hts hin hWI hN hz hP hD
  have hK := hWI.1
  have hA : ∀ z, s.heap.size ≤ z → oA q s.heap.size z := fun z h => Or.inr h
  have hA1 : ∀ z, oA q s.heap.size z → jA N0 z := fun z h => by
    rcases h with h | h
    · rw [h]; exact hN
    · exact Nat.le_trans (Nat.le_trans hN (Nat.le_of_lt hz)) h
  have hS : va_S (oA q s.heap.size) s.heap s.heap [] := va_S.rf
  have hl := lv_entry ([.ref q]) (n := 1) (Nat.le_of_ble_eq_true rfl)
  rw [lg_entry_eq]
  generalize (lg_sl ([.ref q]) ++ List.replicate (1 - (lg_sl ([.ref q])).length) Slot.unset).toArray = ls at hl ⊢
  have hl : lv_has ls 1 [(0, .ref q)] := hl
  refine lv_aload_n hx hb dX7_init_0 rfl (lv_at hl 0 rfl) ?_
  refine W.objInit hx hb hown (hts _ (tix_in (q := (1, 124)) rfl rfl)) (hts _ (tix_in (q := (1, 31)) rfl rfl)) (hts _ (tix_in (q := (1, 32)) rfl rfl)) rfl (by rw [hml]; exact hl.1) rfl dX7_init_1 (Nat.le_of_ble_eq_true rfl) (Nat.le_of_ble_eq_true rfl) ?_
  refine W.eq (g2 := F0 m 4 ls []) rfl ?_
  have hP : va_P D vwCl ((q, .inr (5, [.int 0, .int 0, .int 0, .int 0, .null])) :: []) _ := hP
  have hD : va_D _ ((q, .inr (5, [.int 0, .int 0, .int 0, .int 0, .null])) :: []) := hD
  refine lv_aload_n hx hb dX7_init_4 rfl (lv_at hl 0 rfl) ?_
  refine lv_iconst (v := (-1)) hx hb dX7_init_5 rfl ?_
  refine k_put (ci := 5) (j := 0) (ty := .int) hx hb hown hts hK hP hD hS (by decide) (Nat.le_of_ble_eq_true rfl) (tix_in (q := (1, 125)) rfl rfl) rfl  (by decide +kernel) rfl rfl (Nat.le_of_ble_eq_true rfl) dX7_init_6 ?_
  intro H6_ L_6 hP hD hS
  have hP : va_P D vwCl ((q, .inr (5, [.int (-1), .int 0, .int 0, .int 0, .null])) :: []) _ := hP
  have hD : va_D _ ((q, .inr (5, [.int (-1), .int 0, .int 0, .int 0, .null])) :: []) := hD
  refine lv_aload_n hx hb dX7_init_9 rfl (lv_at hl 0 rfl) ?_
  refine lv_iconst (v := 5) hx hb dX7_init_10 rfl ?_
  refine k_newa (N := 5) hx hb hts hK hP hD hS hA (tix_in (q := (1, 72)) rfl rfl) (by decide) rfl (by decide) (Nat.le_of_ble_eq_true rfl) (Nat.le_of_ble_eq_true rfl) dX7_init_11 ?_
  intro q1 H1 hP hD hS
  have hP : va_P D vwCl ((q, .inr (5, [.int (-1), .int 0, .int 0, .int 0, .null])) :: [(q1, .inl (cA 20, 5, .inl (fun _ => 0)))]) _ := hP
  have hD : va_D _ ((q, .inr (5, [.int (-1), .int 0, .int 0, .int 0, .null])) :: [(q1, .inl (cA 20, 5, .inl (fun _ => 0)))]) := hD
  refine k_putF (ci := 5) (j := 4) (ty := .array .int) hx hb hown hts hK hP hD hS (by decide) (Nat.le_of_ble_eq_true rfl) (tix_in (q := (1, 137)) rfl rfl) rfl hin rfl (by decide +kernel) rfl rfl (Nat.le_of_ble_eq_true rfl) dX7_init_13 ?_
  intro H13_ L_13 hP hD hS
  have hP : va_P D vwCl ((q, .inr (5, [.int (-1), .int 0, .int 0, .int 0, .ref q1])) :: [(q1, .inl (cA 20, 5, .inl (fun _ => 0)))]) _ := hP
  have hD : va_D _ ((q, .inr (5, [.int (-1), .int 0, .int 0, .int 0, .ref q1])) :: [(q1, .inl (cA 20, 5, .inl (fun _ => 0)))]) := hD
  exact k_end (g := fun i => match i with | 0 => q | 1 => q1 | _ => 0) hx hb hr hlocks rfl hP hD hS (Nat.le_of_ble_eq_true rfl) (Nat.le_of_ble_eq_true rfl) dX7_init_16
end CTORC
