/-! CONSTRUCTORS: the model (wip/whole/genctor28.py) -/
section CTORH
variable {l : Launch} {N0 : Nat} {D : va_G} {cA : Nat → ClassId}
theorem dX11_init_0 : decode cX11_init 0 = .ok (.aload_n 0, 1) := by decide +kernel
theorem dX11_init_1 : decode cX11_init 1 = .ok (.invokespecial 1, 3) := by decide +kernel
theorem dX11_init_4 : decode cX11_init 4 = .ok (.aload_n 0, 1) := by decide +kernel
theorem dX11_init_5 : decode cX11_init 5 = .ok (.sipush 213, 3) := by decide +kernel
theorem dX11_init_8 : decode cX11_init 8 = .ok (.newarray .int, 2) := by decide +kernel
theorem dX11_init_10 : decode cX11_init 10 = .ok (.putfield 7, 3) := by decide +kernel
theorem dX11_init_13 : decode cX11_init 13 = .ok (.aload_n 0, 1) := by decide +kernel
theorem dX11_init_14 : decode cX11_init 14 = .ok (.sipush 213, 3) := by decide +kernel
theorem dX11_init_17 : decode cX11_init 17 = .ok (.newarray .int, 2) := by decide +kernel
theorem dX11_init_19 : decode cX11_init 19 = .ok (.putfield 13, 3) := by decide +kernel
theorem dX11_init_22 : decode cX11_init 22 = .ok (.aload_n 0, 1) := by decide +kernel
theorem dX11_init_23 : decode cX11_init 23 = .ok (.sipush 1278, 3) := by decide +kernel
theorem dX11_init_26 : decode cX11_init 26 = .ok (.newarray .int, 2) := by decide +kernel
theorem dX11_init_28 : decode cX11_init 28 = .ok (.putfield 16, 3) := by decide +kernel
theorem dX11_init_31 : decode cX11_init 31 = .ok (.aload_n 0, 1) := by decide +kernel
theorem dX11_init_32 : decode cX11_init 32 = .ok (.bipush 60, 2) := by decide +kernel
theorem dX11_init_34 : decode cX11_init 34 = .ok (.newarray .int, 2) := by decide +kernel
theorem dX11_init_36 : decode cX11_init 36 = .ok (.putfield 19, 3) := by decide +kernel
theorem dX11_init_39 : decode cX11_init 39 = .ok (.aload_n 0, 1) := by decide +kernel
theorem dX11_init_40 : decode cX11_init 40 = .ok (.bipush 32, 2) := by decide +kernel
theorem dX11_init_42 : decode cX11_init 42 = .ok (.newarray .int, 2) := by decide +kernel
theorem dX11_init_44 : decode cX11_init 44 = .ok (.putfield 22, 3) := by decide +kernel
theorem dX11_init_47 : decode cX11_init 47 = .ok (.aload_n 0, 1) := by decide +kernel
theorem dX11_init_48 : decode cX11_init 48 = .ok (.bipush 8, 2) := by decide +kernel
theorem dX11_init_50 : decode cX11_init 50 = .ok (.newarray .int, 2) := by decide +kernel
theorem dX11_init_52 : decode cX11_init 52 = .ok (.putfield 25, 3) := by decide +kernel
theorem dX11_init_55 : decode cX11_init 55 = .ok (.aload_n 0, 1) := by decide +kernel
theorem dX11_init_56 : decode cX11_init 56 = .ok (.iconst 5, 1) := by decide +kernel
theorem dX11_init_57 : decode cX11_init 57 = .ok (.newarray .int, 2) := by decide +kernel
theorem dX11_init_59 : decode cX11_init 59 = .ok (.putfield 28, 3) := by decide +kernel
theorem dX11_init_62 : decode cX11_init 62 = .ok (.aload_n 0, 1) := by decide +kernel
theorem dX11_init_63 : decode cX11_init 63 = .ok (.bipush 6, 2) := by decide +kernel
theorem dX11_init_65 : decode cX11_init 65 = .ok (.newarray .int, 2) := by decide +kernel
theorem dX11_init_67 : decode cX11_init 67 = .ok (.putfield 31, 3) := by decide +kernel
theorem dX11_init_70 : decode cX11_init 70 = .ok (.aload_n 0, 1) := by decide +kernel
theorem dX11_init_71 : decode cX11_init 71 = .ok (.bipush 6, 2) := by decide +kernel
theorem dX11_init_73 : decode cX11_init 73 = .ok (.newarray .int, 2) := by decide +kernel
theorem dX11_init_75 : decode cX11_init 75 = .ok (.putfield 34, 3) := by decide +kernel
theorem dX11_init_78 : decode cX11_init 78 = .ok (.aload_n 0, 1) := by decide +kernel
theorem dX11_init_79 : decode cX11_init 79 = .ok (.getfield 7, 3) := by decide +kernel
theorem dX11_init_82 : decode cX11_init 82 = .ok (.bipush 6, 2) := by decide +kernel
theorem dX11_init_84 : decode cX11_init 84 = .ok (.iconst 1, 1) := by decide +kernel
theorem dX11_init_85 : decode cX11_init 85 = .ok (.iastore, 1) := by decide +kernel
theorem dX11_init_86 : decode cX11_init 86 = .ok (.aload_n 0, 1) := by decide +kernel
theorem dX11_init_87 : decode cX11_init 87 = .ok (.getfield 7, 3) := by decide +kernel
theorem dX11_init_90 : decode cX11_init 90 = .ok (.bipush 11, 2) := by decide +kernel
theorem dX11_init_92 : decode cX11_init 92 = .ok (.bipush 20, 2) := by decide +kernel
theorem dX11_init_94 : decode cX11_init 94 = .ok (.iastore, 1) := by decide +kernel
theorem dX11_init_95 : decode cX11_init 95 = .ok (.aload_n 0, 1) := by decide +kernel
theorem dX11_init_96 : decode cX11_init 96 = .ok (.getfield 7, 3) := by decide +kernel
theorem dX11_init_99 : decode cX11_init 99 = .ok (.bipush 12, 2) := by decide +kernel
theorem dX11_init_101 : decode cX11_init 101 = .ok (.iconst 2, 1) := by decide +kernel
theorem dX11_init_102 : decode cX11_init 102 = .ok (.iastore, 1) := by decide +kernel
theorem dX11_init_103 : decode cX11_init 103 = .ok (.aload_n 0, 1) := by decide +kernel
theorem dX11_init_104 : decode cX11_init 104 = .ok (.getfield 7, 3) := by decide +kernel
theorem dX11_init_107 : decode cX11_init 107 = .ok (.bipush 13, 2) := by decide +kernel
theorem dX11_init_109 : decode cX11_init 109 = .ok (.bipush 20, 2) := by decide +kernel
theorem dX11_init_111 : decode cX11_init 111 = .ok (.iastore, 1) := by decide +kernel
theorem dX11_init_112 : decode cX11_init 112 = .ok (.aload_n 0, 1) := by decide +kernel
theorem dX11_init_113 : decode cX11_init 113 = .ok (.getfield 7, 3) := by decide +kernel
theorem dX11_init_116 : decode cX11_init 116 = .ok (.bipush 14, 2) := by decide +kernel
theorem dX11_init_118 : decode cX11_init 118 = .ok (.bipush 25, 2) := by decide +kernel
theorem dX11_init_120 : decode cX11_init 120 = .ok (.iastore, 1) := by decide +kernel
theorem dX11_init_121 : decode cX11_init 121 = .ok (.aload_n 0, 1) := by decide +kernel
theorem dX11_init_122 : decode cX11_init 122 = .ok (.getfield 7, 3) := by decide +kernel
theorem dX11_init_125 : decode cX11_init 125 = .ok (.bipush 15, 2) := by decide +kernel
theorem dX11_init_127 : decode cX11_init 127 = .ok (.iconst 5, 1) := by decide +kernel
theorem dX11_init_128 : decode cX11_init 128 = .ok (.iastore, 1) := by decide +kernel
theorem dX11_init_129 : decode cX11_init 129 = .ok (.return_, 1) := by decide +kernel
def grpM (cA : Nat → ClassId) (g : Nat → Nat) : va_W := [(g 0, .inr (9, [.ref (g 1), .ref (g 2), .ref (g 3), .ref (g 4), .ref (g 5), .ref (g 6), .ref (g 7), .ref (g 8), .ref (g 9), .int 0, .int 0, .int 0, .int 0, .int 0, .int 0, .int 0, .int 0, .long 0])), (g 1, .inl (cA 20, 213, .inl (upd (upd (upd (upd (upd (upd (fun _ => 0) 6 1) 11 20) 12 2) 13 20) 14 25) 15 5))), (g 2, .inl (cA 20, 213, .inl (fun _ => 0))), (g 3, .inl (cA 20, 1278, .inl (fun _ => 0))), (g 4, .inl (cA 20, 60, .inl (fun _ => 0))), (g 5, .inl (cA 20, 32, .inl (fun _ => 0))), (g 6, .inl (cA 20, 8, .inl (fun _ => 0))), (g 7, .inl (cA 20, 5, .inl (fun _ => 0))), (g 8, .inl (cA 20, 6, .inl (fun _ => 0))), (g 9, .inl (cA 20, 6, .inl (fun _ => 0)))]
set_option maxHeartbeats 4000000 in
set_option maxRecDepth 100000 in
theorem cm_mdl : CM l N0 D cA yX11_init cX11_init 1 0 9 1821 9 (grpM cA) := by
  refine c_of (by decide +kernel) rfl ?_
  intro q p e s m args below meth c hx hb hml hr hlocks hown hts hin hWI hN hz hP hD
  have hK := hWI.1
  have hA : ∀ z, s.heap.size ≤ z → oA q s.heap.size z := fun z h => Or.inr h
  have hA1 : ∀ z, oA q s.heap.size z → jA N0 z := fun z h => by
    rcases h with h | h
    · rw [h]; exact hN
    · exact Nat.le_trans (Nat.le_trans hN (Nat.le_of_lt hz)) h
  have hS : va_S (oA q s.heap.size) s.heap s.heap [] := va_S.rf
  have hl := lv_entry ([.ref q]) (n := 1) (Nat.le_of_ble_eq_true rfl)
  rw [lg_entry_eq]
  generalize (lg_sl ([.ref q]) ++ List.replicate (1 - (lg_sl ([.ref q])).length) Slot.unset).toArray = ls at hl ⊢
  have hl : lv_has ls 1 [(0, .ref q)] := hl
  refine lv_aload_n hx hb dX11_init_0 rfl (lv_at hl 0 rfl) ?_
  refine W.objInit hx hb hown (hts _ (tix_in (q := (5, 50)) rfl rfl)) (hts _ (tix_in (q := (1, 33)) rfl rfl)) (hts _ (tix_in (q := (1, 34)) rfl rfl)) rfl (by rw [hml]; exact hl.1) rfl dX11_init_1 (Nat.le_of_ble_eq_true rfl) (Nat.le_of_ble_eq_true rfl) ?_
  refine W.eq (g2 := F0 m 4 ls []) rfl ?_
  have hP : va_P D vwCl ((q, .inr (9, [.null, .null, .null, .null, .null, .null, .null, .null, .null, .int 0, .int 0, .int 0, .int 0, .int 0, .int 0, .int 0, .int 0, .long 0])) :: []) _ := hP
  have hD : va_D _ ((q, .inr (9, [.null, .null, .null, .null, .null, .null, .null, .null, .null, .int 0, .int 0, .int 0, .int 0, .int 0, .int 0, .int 0, .int 0, .long 0])) :: []) := hD
  refine lv_aload_n hx hb dX11_init_4 rfl (lv_at hl 0 rfl) ?_
  refine lv_sipush (v := 213) hx hb dX11_init_5 rfl ?_
  refine k_newa (N := 213) hx hb hts hK hP hD hS hA (tix_in (q := (1, 74)) rfl rfl) (by decide) rfl (by decide) (Nat.le_of_ble_eq_true rfl) (Nat.le_of_ble_eq_true rfl) dX11_init_8 ?_
  intro q1 H1 hP hD hS
  have hP : va_P D vwCl ((q, .inr (9, [.null, .null, .null, .null, .null, .null, .null, .null, .null, .int 0, .int 0, .int 0, .int 0, .int 0, .int 0, .int 0, .int 0, .long 0])) :: [(q1, .inl (cA 20, 213, .inl (fun _ => 0)))]) _ := hP
  have hD : va_D _ ((q, .inr (9, [.null, .null, .null, .null, .null, .null, .null, .null, .null, .int 0, .int 0, .int 0, .int 0, .int 0, .int 0, .int 0, .int 0, .long 0])) :: [(q1, .inl (cA 20, 213, .inl (fun _ => 0)))]) := hD
  refine k_putF (ci := 9) (j := 0) (ty := .array .int) hx hb hown hts hK hP hD hS (by decide) (Nat.le_of_ble_eq_true rfl) (tix_in (q := (5, 51)) rfl rfl) rfl hin rfl (by decide +kernel) rfl rfl (Nat.le_of_ble_eq_true rfl) dX11_init_10 ?_
  intro H10_ L_10 hP hD hS
  have hP : va_P D vwCl ((q, .inr (9, [.ref q1, .null, .null, .null, .null, .null, .null, .null, .null, .int 0, .int 0, .int 0, .int 0, .int 0, .int 0, .int 0, .int 0, .long 0])) :: [(q1, .inl (cA 20, 213, .inl (fun _ => 0)))]) _ := hP
  have hD : va_D _ ((q, .inr (9, [.ref q1, .null, .null, .null, .null, .null, .null, .null, .null, .int 0, .int 0, .int 0, .int 0, .int 0, .int 0, .int 0, .int 0, .long 0])) :: [(q1, .inl (cA 20, 213, .inl (fun _ => 0)))]) := hD
  refine lv_aload_n hx hb dX11_init_13 rfl (lv_at hl 0 rfl) ?_
  refine lv_sipush (v := 213) hx hb dX11_init_14 rfl ?_
  refine k_newa (N := 213) hx hb hts hK hP hD hS hA (tix_in (q := (1, 74)) rfl rfl) (by decide) rfl (by decide) (Nat.le_of_ble_eq_true rfl) (Nat.le_of_ble_eq_true rfl) dX11_init_17 ?_
  intro q2 H2 hP hD hS
  have hP : va_P D vwCl ((q, .inr (9, [.ref q1, .null, .null, .null, .null, .null, .null, .null, .null, .int 0, .int 0, .int 0, .int 0, .int 0, .int 0, .int 0, .int 0, .long 0])) :: ([(q1, .inl (cA 20, 213, .inl (fun _ => 0)))] ++ [(q2, .inl (cA 20, 213, .inl (fun _ => 0)))])) _ := hP
  have hD : va_D _ ((q, .inr (9, [.ref q1, .null, .null, .null, .null, .null, .null, .null, .null, .int 0, .int 0, .int 0, .int 0, .int 0, .int 0, .int 0, .int 0, .long 0])) :: ([(q1, .inl (cA 20, 213, .inl (fun _ => 0)))] ++ [(q2, .inl (cA 20, 213, .inl (fun _ => 0)))])) := hD
  refine k_putF (ci := 9) (j := 1) (ty := .array .int) hx hb hown hts hK hP hD hS (by decide) (Nat.le_of_ble_eq_true rfl) (tix_in (q := (5, 52)) rfl rfl) rfl hin rfl (by decide +kernel) rfl rfl (Nat.le_of_ble_eq_true rfl) dX11_init_19 ?_
  intro H19_ L_19 hP hD hS
  have hP : va_P D vwCl ((q, .inr (9, [.ref q1, .ref q2, .null, .null, .null, .null, .null, .null, .null, .int 0, .int 0, .int 0, .int 0, .int 0, .int 0, .int 0, .int 0, .long 0])) :: ([(q1, .inl (cA 20, 213, .inl (fun _ => 0)))] ++ [(q2, .inl (cA 20, 213, .inl (fun _ => 0)))])) _ := hP
  have hD : va_D _ ((q, .inr (9, [.ref q1, .ref q2, .null, .null, .null, .null, .null, .null, .null, .int 0, .int 0, .int 0, .int 0, .int 0, .int 0, .int 0, .int 0, .long 0])) :: ([(q1, .inl (cA 20, 213, .inl (fun _ => 0)))] ++ [(q2, .inl (cA 20, 213, .inl (fun _ => 0)))])) := hD
  refine lv_aload_n hx hb dX11_init_22 rfl (lv_at hl 0 rfl) ?_
  refine lv_sipush (v := 1278) hx hb dX11_init_23 rfl ?_
  refine k_newa (N := 1278) hx hb hts hK hP hD hS hA (tix_in (q := (1, 74)) rfl rfl) (by decide) rfl (by decide) (Nat.le_of_ble_eq_true rfl) (Nat.le_of_ble_eq_true rfl) dX11_init_26 ?_
  intro q3 H3 hP hD hS
  have hP : va_P D vwCl ((q, .inr (9, [.ref q1, .ref q2, .null, .null, .null, .null, .null, .null, .null, .int 0, .int 0, .int 0, .int 0, .int 0, .int 0, .int 0, .int 0, .long 0])) :: (([(q1, .inl (cA 20, 213, .inl (fun _ => 0)))] ++ [(q2, .inl (cA 20, 213, .inl (fun _ => 0)))]) ++ [(q3, .inl (cA 20, 1278, .inl (fun _ => 0)))])) _ := hP
  have hD : va_D _ ((q, .inr (9, [.ref q1, .ref q2, .null, .null, .null, .null, .null, .null, .null, .int 0, .int 0, .int 0, .int 0, .int 0, .int 0, .int 0, .int 0, .long 0])) :: (([(q1, .inl (cA 20, 213, .inl (fun _ => 0)))] ++ [(q2, .inl (cA 20, 213, .inl (fun _ => 0)))]) ++ [(q3, .inl (cA 20, 1278, .inl (fun _ => 0)))])) := hD
  refine k_putF (ci := 9) (j := 2) (ty := .array .int) hx hb hown hts hK hP hD hS (by decide) (Nat.le_of_ble_eq_true rfl) (tix_in (q := (5, 53)) rfl rfl) rfl hin rfl (by decide +kernel) rfl rfl (Nat.le_of_ble_eq_true rfl) dX11_init_28 ?_
  intro H28_ L_28 hP hD hS
  have hP : va_P D vwCl ((q, .inr (9, [.ref q1, .ref q2, .ref q3, .null, .null, .null, .null, .null, .null, .int 0, .int 0, .int 0, .int 0, .int 0, .int 0, .int 0, .int 0, .long 0])) :: (([(q1, .inl (cA 20, 213, .inl (fun _ => 0)))] ++ [(q2, .inl (cA 20, 213, .inl (fun _ => 0)))]) ++ [(q3, .inl (cA 20, 1278, .inl (fun _ => 0)))])) _ := hP
  have hD : va_D _ ((q, .inr (9, [.ref q1, .ref q2, .ref q3, .null, .null, .null, .null, .null, .null, .int 0, .int 0, .int 0, .int 0, .int 0, .int 0, .int 0, .int 0, .long 0])) :: (([(q1, .inl (cA 20, 213, .inl (fun _ => 0)))] ++ [(q2, .inl (cA 20, 213, .inl (fun _ => 0)))]) ++ [(q3, .inl (cA 20, 1278, .inl (fun _ => 0)))])) := hD
  refine lv_aload_n hx hb dX11_init_31 rfl (lv_at hl 0 rfl) ?_
  refine lv_bipush (v := 60) hx hb dX11_init_32 rfl ?_
  refine k_newa (N := 60) hx hb hts hK hP hD hS hA (tix_in (q := (1, 74)) rfl rfl) (by decide) rfl (by decide) (Nat.le_of_ble_eq_true rfl) (Nat.le_of_ble_eq_true rfl) dX11_init_34 ?_
  intro q4 H4 hP hD hS
  have hP : va_P D vwCl ((q, .inr (9, [.ref q1, .ref q2, .ref q3, .null, .null, .null, .null, .null, .null, .int 0, .int 0, .int 0, .int 0, .int 0, .int 0, .int 0, .int 0, .long 0])) :: ((([(q1, .inl (cA 20, 213, .inl (fun _ => 0)))] ++ [(q2, .inl (cA 20, 213, .inl (fun _ => 0)))]) ++ [(q3, .inl (cA 20, 1278, .inl (fun _ => 0)))]) ++ [(q4, .inl (cA 20, 60, .inl (fun _ => 0)))])) _ := hP
  have hD : va_D _ ((q, .inr (9, [.ref q1, .ref q2, .ref q3, .null, .null, .null, .null, .null, .null, .int 0, .int 0, .int 0, .int 0, .int 0, .int 0, .int 0, .int 0, .long 0])) :: ((([(q1, .inl (cA 20, 213, .inl (fun _ => 0)))] ++ [(q2, .inl (cA 20, 213, .inl (fun _ => 0)))]) ++ [(q3, .inl (cA 20, 1278, .inl (fun _ => 0)))]) ++ [(q4, .inl (cA 20, 60, .inl (fun _ => 0)))])) := hD
  refine k_putF (ci := 9) (j := 3) (ty := .array .int) hx hb hown hts hK hP hD hS (by decide) (Nat.le_of_ble_eq_true rfl) (tix_in (q := (5, 54)) rfl rfl) rfl hin rfl (by decide +kernel) rfl rfl (Nat.le_of_ble_eq_true rfl) dX11_init_36 ?_
  intro H36_ L_36 hP hD hS
  have hP : va_P D vwCl ((q, .inr (9, [.ref q1, .ref q2, .ref q3, .ref q4, .null, .null, .null, .null, .null, .int 0, .int 0, .int 0, .int 0, .int 0, .int 0, .int 0, .int 0, .long 0])) :: ((([(q1, .inl (cA 20, 213, .inl (fun _ => 0)))] ++ [(q2, .inl (cA 20, 213, .inl (fun _ => 0)))]) ++ [(q3, .inl (cA 20, 1278, .inl (fun _ => 0)))]) ++ [(q4, .inl (cA 20, 60, .inl (fun _ => 0)))])) _ := hP
  have hD : va_D _ ((q, .inr (9, [.ref q1, .ref q2, .ref q3, .ref q4, .null, .null, .null, .null, .null, .int 0, .int 0, .int 0, .int 0, .int 0, .int 0, .int 0, .int 0, .long 0])) :: ((([(q1, .inl (cA 20, 213, .inl (fun _ => 0)))] ++ [(q2, .inl (cA 20, 213, .inl (fun _ => 0)))]) ++ [(q3, .inl (cA 20, 1278, .inl (fun _ => 0)))]) ++ [(q4, .inl (cA 20, 60, .inl (fun _ => 0)))])) := hD
  refine lv_aload_n hx hb dX11_init_39 rfl (lv_at hl 0 rfl) ?_
  refine lv_bipush (v := 32) hx hb dX11_init_40 rfl ?_
  refine k_newa (N := 32) hx hb hts hK hP hD hS hA (tix_in (q := (1, 74)) rfl rfl) (by decide) rfl (by decide) (Nat.le_of_ble_eq_true rfl) (Nat.le_of_ble_eq_true rfl) dX11_init_42 ?_
  intro q5 H5 hP hD hS
  have hP : va_P D vwCl ((q, .inr (9, [.ref q1, .ref q2, .ref q3, .ref q4, .null, .null, .null, .null, .null, .int 0, .int 0, .int 0, .int 0, .int 0, .int 0, .int 0, .int 0, .long 0])) :: (((([(q1, .inl (cA 20, 213, .inl (fun _ => 0)))] ++ [(q2, .inl (cA 20, 213, .inl (fun _ => 0)))]) ++ [(q3, .inl (cA 20, 1278, .inl (fun _ => 0)))]) ++ [(q4, .inl (cA 20, 60, .inl (fun _ => 0)))]) ++ [(q5, .inl (cA 20, 32, .inl (fun _ => 0)))])) _ := hP
  have hD : va_D _ ((q, .inr (9, [.ref q1, .ref q2, .ref q3, .ref q4, .null, .null, .null, .null, .null, .int 0, .int 0, .int 0, .int 0, .int 0, .int 0, .int 0, .int 0, .long 0])) :: (((([(q1, .inl (cA 20, 213, .inl (fun _ => 0)))] ++ [(q2, .inl (cA 20, 213, .inl (fun _ => 0)))]) ++ [(q3, .inl (cA 20, 1278, .inl (fun _ => 0)))]) ++ [(q4, .inl (cA 20, 60, .inl (fun _ => 0)))]) ++ [(q5, .inl (cA 20, 32, .inl (fun _ => 0)))])) := hD
  refine k_putF (ci := 9) (j := 4) (ty := .array .int) hx hb hown hts hK hP hD hS (by decide) (Nat.le_of_ble_eq_true rfl) (tix_in (q := (5, 55)) rfl rfl) rfl hin rfl (by decide +kernel) rfl rfl (Nat.le_of_ble_eq_true rfl) dX11_init_44 ?_
  intro H44_ L_44 hP hD hS
  have hP : va_P D vwCl ((q, .inr (9, [.ref q1, .ref q2, .ref q3, .ref q4, .ref q5, .null, .null, .null, .null, .int 0, .int 0, .int 0, .int 0, .int 0, .int 0, .int 0, .int 0, .long 0])) :: (((([(q1, .inl (cA 20, 213, .inl (fun _ => 0)))] ++ [(q2, .inl (cA 20, 213, .inl (fun _ => 0)))]) ++ [(q3, .inl (cA 20, 1278, .inl (fun _ => 0)))]) ++ [(q4, .inl (cA 20, 60, .inl (fun _ => 0)))]) ++ [(q5, .inl (cA 20, 32, .inl (fun _ => 0)))])) _ := hP
  have hD : va_D _ ((q, .inr (9, [.ref q1, .ref q2, .ref q3, .ref q4, .ref q5, .null, .null, .null, .null, .int 0, .int 0, .int 0, .int 0, .int 0, .int 0, .int 0, .int 0, .long 0])) :: (((([(q1, .inl (cA 20, 213, .inl (fun _ => 0)))] ++ [(q2, .inl (cA 20, 213, .inl (fun _ => 0)))]) ++ [(q3, .inl (cA 20, 1278, .inl (fun _ => 0)))]) ++ [(q4, .inl (cA 20, 60, .inl (fun _ => 0)))]) ++ [(q5, .inl (cA 20, 32, .inl (fun _ => 0)))])) := hD
  refine lv_aload_n hx hb dX11_init_47 rfl (lv_at hl 0 rfl) ?_
  refine lv_bipush (v := 8) hx hb dX11_init_48 rfl ?_
  refine k_newa (N := 8) hx hb hts hK hP hD hS hA (tix_in (q := (1, 74)) rfl rfl) (by decide) rfl (by decide) (Nat.le_of_ble_eq_true rfl) (Nat.le_of_ble_eq_true rfl) dX11_init_50 ?_
  intro q6 H6 hP hD hS
  have hP : va_P D vwCl ((q, .inr (9, [.ref q1, .ref q2, .ref q3, .ref q4, .ref q5, .null, .null, .null, .null, .int 0, .int 0, .int 0, .int 0, .int 0, .int 0, .int 0, .int 0, .long 0])) :: ((((([(q1, .inl (cA 20, 213, .inl (fun _ => 0)))] ++ [(q2, .inl (cA 20, 213, .inl (fun _ => 0)))]) ++ [(q3, .inl (cA 20, 1278, .inl (fun _ => 0)))]) ++ [(q4, .inl (cA 20, 60, .inl (fun _ => 0)))]) ++ [(q5, .inl (cA 20, 32, .inl (fun _ => 0)))]) ++ [(q6, .inl (cA 20, 8, .inl (fun _ => 0)))])) _ := hP
  have hD : va_D _ ((q, .inr (9, [.ref q1, .ref q2, .ref q3, .ref q4, .ref q5, .null, .null, .null, .null, .int 0, .int 0, .int 0, .int 0, .int 0, .int 0, .int 0, .int 0, .long 0])) :: ((((([(q1, .inl (cA 20, 213, .inl (fun _ => 0)))] ++ [(q2, .inl (cA 20, 213, .inl (fun _ => 0)))]) ++ [(q3, .inl (cA 20, 1278, .inl (fun _ => 0)))]) ++ [(q4, .inl (cA 20, 60, .inl (fun _ => 0)))]) ++ [(q5, .inl (cA 20, 32, .inl (fun _ => 0)))]) ++ [(q6, .inl (cA 20, 8, .inl (fun _ => 0)))])) := hD
  refine k_putF (ci := 9) (j := 5) (ty := .array .int) hx hb hown hts hK hP hD hS (by decide) (Nat.le_of_ble_eq_true rfl) (tix_in (q := (5, 56)) rfl rfl) rfl hin rfl (by decide +kernel) rfl rfl (Nat.le_of_ble_eq_true rfl) dX11_init_52 ?_
  intro H52_ L_52 hP hD hS
  have hP : va_P D vwCl ((q, .inr (9, [.ref q1, .ref q2, .ref q3, .ref q4, .ref q5, .ref q6, .null, .null, .null, .int 0, .int 0, .int 0, .int 0, .int 0, .int 0, .int 0, .int 0, .long 0])) :: ((((([(q1, .inl (cA 20, 213, .inl (fun _ => 0)))] ++ [(q2, .inl (cA 20, 213, .inl (fun _ => 0)))]) ++ [(q3, .inl (cA 20, 1278, .inl (fun _ => 0)))]) ++ [(q4, .inl (cA 20, 60, .inl (fun _ => 0)))]) ++ [(q5, .inl (cA 20, 32, .inl (fun _ => 0)))]) ++ [(q6, .inl (cA 20, 8, .inl (fun _ => 0)))])) _ := hP
  have hD : va_D _ ((q, .inr (9, [.ref q1, .ref q2, .ref q3, .ref q4, .ref q5, .ref q6, .null, .null, .null, .int 0, .int 0, .int 0, .int 0, .int 0, .int 0, .int 0, .int 0, .long 0])) :: ((((([(q1, .inl (cA 20, 213, .inl (fun _ => 0)))] ++ [(q2, .inl (cA 20, 213, .inl (fun _ => 0)))]) ++ [(q3, .inl (cA 20, 1278, .inl (fun _ => 0)))]) ++ [(q4, .inl (cA 20, 60, .inl (fun _ => 0)))]) ++ [(q5, .inl (cA 20, 32, .inl (fun _ => 0)))]) ++ [(q6, .inl (cA 20, 8, .inl (fun _ => 0)))])) := hD
  refine lv_aload_n hx hb dX11_init_55 rfl (lv_at hl 0 rfl) ?_
  refine lv_iconst (v := 5) hx hb dX11_init_56 rfl ?_
  refine k_newa (N := 5) hx hb hts hK hP hD hS hA (tix_in (q := (1, 74)) rfl rfl) (by decide) rfl (by decide) (Nat.le_of_ble_eq_true rfl) (Nat.le_of_ble_eq_true rfl) dX11_init_57 ?_
  intro q7 H7 hP hD hS
  have hP : va_P D vwCl ((q, .inr (9, [.ref q1, .ref q2, .ref q3, .ref q4, .ref q5, .ref q6, .null, .null, .null, .int 0, .int 0, .int 0, .int 0, .int 0, .int 0, .int 0, .int 0, .long 0])) :: (((((([(q1, .inl (cA 20, 213, .inl (fun _ => 0)))] ++ [(q2, .inl (cA 20, 213, .inl (fun _ => 0)))]) ++ [(q3, .inl (cA 20, 1278, .inl (fun _ => 0)))]) ++ [(q4, .inl (cA 20, 60, .inl (fun _ => 0)))]) ++ [(q5, .inl (cA 20, 32, .inl (fun _ => 0)))]) ++ [(q6, .inl (cA 20, 8, .inl (fun _ => 0)))]) ++ [(q7, .inl (cA 20, 5, .inl (fun _ => 0)))])) _ := hP
  have hD : va_D _ ((q, .inr (9, [.ref q1, .ref q2, .ref q3, .ref q4, .ref q5, .ref q6, .null, .null, .null, .int 0, .int 0, .int 0, .int 0, .int 0, .int 0, .int 0, .int 0, .long 0])) :: (((((([(q1, .inl (cA 20, 213, .inl (fun _ => 0)))] ++ [(q2, .inl (cA 20, 213, .inl (fun _ => 0)))]) ++ [(q3, .inl (cA 20, 1278, .inl (fun _ => 0)))]) ++ [(q4, .inl (cA 20, 60, .inl (fun _ => 0)))]) ++ [(q5, .inl (cA 20, 32, .inl (fun _ => 0)))]) ++ [(q6, .inl (cA 20, 8, .inl (fun _ => 0)))]) ++ [(q7, .inl (cA 20, 5, .inl (fun _ => 0)))])) := hD
  refine k_putF (ci := 9) (j := 6) (ty := .array .int) hx hb hown hts hK hP hD hS (by decide) (Nat.le_of_ble_eq_true rfl) (tix_in (q := (5, 57)) rfl rfl) rfl hin rfl (by decide +kernel) rfl rfl (Nat.le_of_ble_eq_true rfl) dX11_init_59 ?_
  intro H59_ L_59 hP hD hS
  have hP : va_P D vwCl ((q, .inr (9, [.ref q1, .ref q2, .ref q3, .ref q4, .ref q5, .ref q6, .ref q7, .null, .null, .int 0, .int 0, .int 0, .int 0, .int 0, .int 0, .int 0, .int 0, .long 0])) :: (((((([(q1, .inl (cA 20, 213, .inl (fun _ => 0)))] ++ [(q2, .inl (cA 20, 213, .inl (fun _ => 0)))]) ++ [(q3, .inl (cA 20, 1278, .inl (fun _ => 0)))]) ++ [(q4, .inl (cA 20, 60, .inl (fun _ => 0)))]) ++ [(q5, .inl (cA 20, 32, .inl (fun _ => 0)))]) ++ [(q6, .inl (cA 20, 8, .inl (fun _ => 0)))]) ++ [(q7, .inl (cA 20, 5, .inl (fun _ => 0)))])) _ := hP
  have hD : va_D _ ((q, .inr (9, [.ref q1, .ref q2, .ref q3, .ref q4, .ref q5, .ref q6, .ref q7, .null, .null, .int 0, .int 0, .int 0, .int 0, .int 0, .int 0, .int 0, .int 0, .long 0])) :: (((((([(q1, .inl (cA 20, 213, .inl (fun _ => 0)))] ++ [(q2, .inl (cA 20, 213, .inl (fun _ => 0)))]) ++ [(q3, .inl (cA 20, 1278, .inl (fun _ => 0)))]) ++ [(q4, .inl (cA 20, 60, .inl (fun _ => 0)))]) ++ [(q5, .inl (cA 20, 32, .inl (fun _ => 0)))]) ++ [(q6, .inl (cA 20, 8, .inl (fun _ => 0)))]) ++ [(q7, .inl (cA 20, 5, .inl (fun _ => 0)))])) := hD
  refine lv_aload_n hx hb dX11_init_62 rfl (lv_at hl 0 rfl) ?_
  refine lv_bipush (v := 6) hx hb dX11_init_63 rfl ?_
  refine k_newa (N := 6) hx hb hts hK hP hD hS hA (tix_in (q := (1, 74)) rfl rfl) (by decide) rfl (by decide) (Nat.le_of_ble_eq_true rfl) (Nat.le_of_ble_eq_true rfl) dX11_init_65 ?_
  intro q8 H8 hP hD hS
  have hP : va_P D vwCl ((q, .inr (9, [.ref q1, .ref q2, .ref q3, .ref q4, .ref q5, .ref q6, .ref q7, .null, .null, .int 0, .int 0, .int 0, .int 0, .int 0, .int 0, .int 0, .int 0, .long 0])) :: ((((((([(q1, .inl (cA 20, 213, .inl (fun _ => 0)))] ++ [(q2, .inl (cA 20, 213, .inl (fun _ => 0)))]) ++ [(q3, .inl (cA 20, 1278, .inl (fun _ => 0)))]) ++ [(q4, .inl (cA 20, 60, .inl (fun _ => 0)))]) ++ [(q5, .inl (cA 20, 32, .inl (fun _ => 0)))]) ++ [(q6, .inl (cA 20, 8, .inl (fun _ => 0)))]) ++ [(q7, .inl (cA 20, 5, .inl (fun _ => 0)))]) ++ [(q8, .inl (cA 20, 6, .inl (fun _ => 0)))])) _ := hP
  have hD : va_D _ ((q, .inr (9, [.ref q1, .ref q2, .ref q3, .ref q4, .ref q5, .ref q6, .ref q7, .null, .null, .int 0, .int 0, .int 0, .int 0, .int 0, .int 0, .int 0, .int 0, .long 0])) :: ((((((([(q1, .inl (cA 20, 213, .inl (fun _ => 0)))] ++ [(q2, .inl (cA 20, 213, .inl (fun _ => 0)))]) ++ [(q3, .inl (cA 20, 1278, .inl (fun _ => 0)))]) ++ [(q4, .inl (cA 20, 60, .inl (fun _ => 0)))]) ++ [(q5, .inl (cA 20, 32, .inl (fun _ => 0)))]) ++ [(q6, .inl (cA 20, 8, .inl (fun _ => 0)))]) ++ [(q7, .inl (cA 20, 5, .inl (fun _ => 0)))]) ++ [(q8, .inl (cA 20, 6, .inl (fun _ => 0)))])) := hD
  refine k_putF (ci := 9) (j := 7) (ty := .array .int) hx hb hown hts hK hP hD hS (by decide) (Nat.le_of_ble_eq_true rfl) (tix_in (q := (5, 58)) rfl rfl) rfl hin rfl (by decide +kernel) rfl rfl (Nat.le_of_ble_eq_true rfl) dX11_init_67 ?_
  intro H67_ L_67 hP hD hS
  have hP : va_P D vwCl ((q, .inr (9, [.ref q1, .ref q2, .ref q3, .ref q4, .ref q5, .ref q6, .ref q7, .ref q8, .null, .int 0, .int 0, .int 0, .int 0, .int 0, .int 0, .int 0, .int 0, .long 0])) :: ((((((([(q1, .inl (cA 20, 213, .inl (fun _ => 0)))] ++ [(q2, .inl (cA 20, 213, .inl (fun _ => 0)))]) ++ [(q3, .inl (cA 20, 1278, .inl (fun _ => 0)))]) ++ [(q4, .inl (cA 20, 60, .inl (fun _ => 0)))]) ++ [(q5, .inl (cA 20, 32, .inl (fun _ => 0)))]) ++ [(q6, .inl (cA 20, 8, .inl (fun _ => 0)))]) ++ [(q7, .inl (cA 20, 5, .inl (fun _ => 0)))]) ++ [(q8, .inl (cA 20, 6, .inl (fun _ => 0)))])) _ := hP
  have hD : va_D _ ((q, .inr (9, [.ref q1, .ref q2, .ref q3, .ref q4, .ref q5, .ref q6, .ref q7, .ref q8, .null, .int 0, .int 0, .int 0, .int 0, .int 0, .int 0, .int 0, .int 0, .long 0])) :: ((((((([(q1, .inl (cA 20, 213, .inl (fun _ => 0)))] ++ [(q2, .inl (cA 20, 213, .inl (fun _ => 0)))]) ++ [(q3, .inl (cA 20, 1278, .inl (fun _ => 0)))]) ++ [(q4, .inl (cA 20, 60, .inl (fun _ => 0)))]) ++ [(q5, .inl (cA 20, 32, .inl (fun _ => 0)))]) ++ [(q6, .inl (cA 20, 8, .inl (fun _ => 0)))]) ++ [(q7, .inl (cA 20, 5, .inl (fun _ => 0)))]) ++ [(q8, .inl (cA 20, 6, .inl (fun _ => 0)))])) := hD
  refine lv_aload_n hx hb dX11_init_70 rfl (lv_at hl 0 rfl) ?_
  refine lv_bipush (v := 6) hx hb dX11_init_71 rfl ?_
  refine k_newa (N := 6) hx hb hts hK hP hD hS hA (tix_in (q := (1, 74)) rfl rfl) (by decide) rfl (by decide) (Nat.le_of_ble_eq_true rfl) (Nat.le_of_ble_eq_true rfl) dX11_init_73 ?_
  intro q9 H9 hP hD hS
  have hP : va_P D vwCl ((q, .inr (9, [.ref q1, .ref q2, .ref q3, .ref q4, .ref q5, .ref q6, .ref q7, .ref q8, .null, .int 0, .int 0, .int 0, .int 0, .int 0, .int 0, .int 0, .int 0, .long 0])) :: (((((((([(q1, .inl (cA 20, 213, .inl (fun _ => 0)))] ++ [(q2, .inl (cA 20, 213, .inl (fun _ => 0)))]) ++ [(q3, .inl (cA 20, 1278, .inl (fun _ => 0)))]) ++ [(q4, .inl (cA 20, 60, .inl (fun _ => 0)))]) ++ [(q5, .inl (cA 20, 32, .inl (fun _ => 0)))]) ++ [(q6, .inl (cA 20, 8, .inl (fun _ => 0)))]) ++ [(q7, .inl (cA 20, 5, .inl (fun _ => 0)))]) ++ [(q8, .inl (cA 20, 6, .inl (fun _ => 0)))]) ++ [(q9, .inl (cA 20, 6, .inl (fun _ => 0)))])) _ := hP
  have hD : va_D _ ((q, .inr (9, [.ref q1, .ref q2, .ref q3, .ref q4, .ref q5, .ref q6, .ref q7, .ref q8, .null, .int 0, .int 0, .int 0, .int 0, .int 0, .int 0, .int 0, .int 0, .long 0])) :: (((((((([(q1, .inl (cA 20, 213, .inl (fun _ => 0)))] ++ [(q2, .inl (cA 20, 213, .inl (fun _ => 0)))]) ++ [(q3, .inl (cA 20, 1278, .inl (fun _ => 0)))]) ++ [(q4, .inl (cA 20, 60, .inl (fun _ => 0)))]) ++ [(q5, .inl (cA 20, 32, .inl (fun _ => 0)))]) ++ [(q6, .inl (cA 20, 8, .inl (fun _ => 0)))]) ++ [(q7, .inl (cA 20, 5, .inl (fun _ => 0)))]) ++ [(q8, .inl (cA 20, 6, .inl (fun _ => 0)))]) ++ [(q9, .inl (cA 20, 6, .inl (fun _ => 0)))])) := hD
  refine k_putF (ci := 9) (j := 8) (ty := .array .int) hx hb hown hts hK hP hD hS (by decide) (Nat.le_of_ble_eq_true rfl) (tix_in (q := (5, 59)) rfl rfl) rfl hin rfl (by decide +kernel) rfl rfl (Nat.le_of_ble_eq_true rfl) dX11_init_75 ?_
  intro H75_ L_75 hP hD hS
  have hP : va_P D vwCl ((q, .inr (9, [.ref q1, .ref q2, .ref q3, .ref q4, .ref q5, .ref q6, .ref q7, .ref q8, .ref q9, .int 0, .int 0, .int 0, .int 0, .int 0, .int 0, .int 0, .int 0, .long 0])) :: (((((((([(q1, .inl (cA 20, 213, .inl (fun _ => 0)))] ++ [(q2, .inl (cA 20, 213, .inl (fun _ => 0)))]) ++ [(q3, .inl (cA 20, 1278, .inl (fun _ => 0)))]) ++ [(q4, .inl (cA 20, 60, .inl (fun _ => 0)))]) ++ [(q5, .inl (cA 20, 32, .inl (fun _ => 0)))]) ++ [(q6, .inl (cA 20, 8, .inl (fun _ => 0)))]) ++ [(q7, .inl (cA 20, 5, .inl (fun _ => 0)))]) ++ [(q8, .inl (cA 20, 6, .inl (fun _ => 0)))]) ++ [(q9, .inl (cA 20, 6, .inl (fun _ => 0)))])) _ := hP
  have hD : va_D _ ((q, .inr (9, [.ref q1, .ref q2, .ref q3, .ref q4, .ref q5, .ref q6, .ref q7, .ref q8, .ref q9, .int 0, .int 0, .int 0, .int 0, .int 0, .int 0, .int 0, .int 0, .long 0])) :: (((((((([(q1, .inl (cA 20, 213, .inl (fun _ => 0)))] ++ [(q2, .inl (cA 20, 213, .inl (fun _ => 0)))]) ++ [(q3, .inl (cA 20, 1278, .inl (fun _ => 0)))]) ++ [(q4, .inl (cA 20, 60, .inl (fun _ => 0)))]) ++ [(q5, .inl (cA 20, 32, .inl (fun _ => 0)))]) ++ [(q6, .inl (cA 20, 8, .inl (fun _ => 0)))]) ++ [(q7, .inl (cA 20, 5, .inl (fun _ => 0)))]) ++ [(q8, .inl (cA 20, 6, .inl (fun _ => 0)))]) ++ [(q9, .inl (cA 20, 6, .inl (fun _ => 0)))])) := hD
  refine lv_aload_n hx hb dX11_init_78 rfl (lv_at hl 0 rfl) ?_
  refine k_get (ci := 9) (j := 0) hx hb hown hts hK hP (by decide) (Nat.le_of_ble_eq_true rfl) (tix_in (q := (5, 51)) rfl rfl) rfl dX11_init_79 ?_
  refine lv_bipush (v := 6) hx hb dX11_init_82 rfl ?_
  refine lv_iconst (v := 1) hx hb dX11_init_84 rfl ?_
  refine va_iast hx hb hK hP hD hS 1 0 rfl rfl (inb_in rfl) dX11_init_85 ?_
  intro H85_ L_85 hP hD hS
  have hP : va_P D vwCl ((q, .inr (9, [.ref q1, .ref q2, .ref q3, .ref q4, .ref q5, .ref q6, .ref q7, .ref q8, .ref q9, .int 0, .int 0, .int 0, .int 0, .int 0, .int 0, .int 0, .int 0, .long 0])) :: (((((((([(q1, .inl (cA 20, 213, .inl (upd (fun _ => 0) 6 1)))] ++ [(q2, .inl (cA 20, 213, .inl (fun _ => 0)))]) ++ [(q3, .inl (cA 20, 1278, .inl (fun _ => 0)))]) ++ [(q4, .inl (cA 20, 60, .inl (fun _ => 0)))]) ++ [(q5, .inl (cA 20, 32, .inl (fun _ => 0)))]) ++ [(q6, .inl (cA 20, 8, .inl (fun _ => 0)))]) ++ [(q7, .inl (cA 20, 5, .inl (fun _ => 0)))]) ++ [(q8, .inl (cA 20, 6, .inl (fun _ => 0)))]) ++ [(q9, .inl (cA 20, 6, .inl (fun _ => 0)))])) _ := hP
  have hD : va_D _ ((q, .inr (9, [.ref q1, .ref q2, .ref q3, .ref q4, .ref q5, .ref q6, .ref q7, .ref q8, .ref q9, .int 0, .int 0, .int 0, .int 0, .int 0, .int 0, .int 0, .int 0, .long 0])) :: (((((((([(q1, .inl (cA 20, 213, .inl (upd (fun _ => 0) 6 1)))] ++ [(q2, .inl (cA 20, 213, .inl (fun _ => 0)))]) ++ [(q3, .inl (cA 20, 1278, .inl (fun _ => 0)))]) ++ [(q4, .inl (cA 20, 60, .inl (fun _ => 0)))]) ++ [(q5, .inl (cA 20, 32, .inl (fun _ => 0)))]) ++ [(q6, .inl (cA 20, 8, .inl (fun _ => 0)))]) ++ [(q7, .inl (cA 20, 5, .inl (fun _ => 0)))]) ++ [(q8, .inl (cA 20, 6, .inl (fun _ => 0)))]) ++ [(q9, .inl (cA 20, 6, .inl (fun _ => 0)))])) := hD
  refine lv_aload_n hx hb dX11_init_86 rfl (lv_at hl 0 rfl) ?_
  refine k_get (ci := 9) (j := 0) hx hb hown hts hK hP (by decide) (Nat.le_of_ble_eq_true rfl) (tix_in (q := (5, 51)) rfl rfl) rfl dX11_init_87 ?_
  refine lv_bipush (v := 11) hx hb dX11_init_90 rfl ?_
  refine lv_bipush (v := 20) hx hb dX11_init_92 rfl ?_
  refine va_iast hx hb hK hP hD hS 1 0 rfl rfl (inb_in rfl) dX11_init_94 ?_
  intro H94_ L_94 hP hD hS
  have hP : va_P D vwCl ((q, .inr (9, [.ref q1, .ref q2, .ref q3, .ref q4, .ref q5, .ref q6, .ref q7, .ref q8, .ref q9, .int 0, .int 0, .int 0, .int 0, .int 0, .int 0, .int 0, .int 0, .long 0])) :: (((((((([(q1, .inl (cA 20, 213, .inl (upd (upd (fun _ => 0) 6 1) 11 20)))] ++ [(q2, .inl (cA 20, 213, .inl (fun _ => 0)))]) ++ [(q3, .inl (cA 20, 1278, .inl (fun _ => 0)))]) ++ [(q4, .inl (cA 20, 60, .inl (fun _ => 0)))]) ++ [(q5, .inl (cA 20, 32, .inl (fun _ => 0)))]) ++ [(q6, .inl (cA 20, 8, .inl (fun _ => 0)))]) ++ [(q7, .inl (cA 20, 5, .inl (fun _ => 0)))]) ++ [(q8, .inl (cA 20, 6, .inl (fun _ => 0)))]) ++ [(q9, .inl (cA 20, 6, .inl (fun _ => 0)))])) _ := hP
  have hD : va_D _ ((q, .inr (9, [.ref q1, .ref q2, .ref q3, .ref q4, .ref q5, .ref q6, .ref q7, .ref q8, .ref q9, .int 0, .int 0, .int 0, .int 0, .int 0, .int 0, .int 0, .int 0, .long 0])) :: (((((((([(q1, .inl (cA 20, 213, .inl (upd (upd (fun _ => 0) 6 1) 11 20)))] ++ [(q2, .inl (cA 20, 213, .inl (fun _ => 0)))]) ++ [(q3, .inl (cA 20, 1278, .inl (fun _ => 0)))]) ++ [(q4, .inl (cA 20, 60, .inl (fun _ => 0)))]) ++ [(q5, .inl (cA 20, 32, .inl (fun _ => 0)))]) ++ [(q6, .inl (cA 20, 8, .inl (fun _ => 0)))]) ++ [(q7, .inl (cA 20, 5, .inl (fun _ => 0)))]) ++ [(q8, .inl (cA 20, 6, .inl (fun _ => 0)))]) ++ [(q9, .inl (cA 20, 6, .inl (fun _ => 0)))])) := hD
  refine lv_aload_n hx hb dX11_init_95 rfl (lv_at hl 0 rfl) ?_
  refine k_get (ci := 9) (j := 0) hx hb hown hts hK hP (by decide) (Nat.le_of_ble_eq_true rfl) (tix_in (q := (5, 51)) rfl rfl) rfl dX11_init_96 ?_
  refine lv_bipush (v := 12) hx hb dX11_init_99 rfl ?_
  refine lv_iconst (v := 2) hx hb dX11_init_101 rfl ?_
  refine va_iast hx hb hK hP hD hS 1 0 rfl rfl (inb_in rfl) dX11_init_102 ?_
  intro H102_ L_102 hP hD hS
  have hP : va_P D vwCl ((q, .inr (9, [.ref q1, .ref q2, .ref q3, .ref q4, .ref q5, .ref q6, .ref q7, .ref q8, .ref q9, .int 0, .int 0, .int 0, .int 0, .int 0, .int 0, .int 0, .int 0, .long 0])) :: (((((((([(q1, .inl (cA 20, 213, .inl (upd (upd (upd (fun _ => 0) 6 1) 11 20) 12 2)))] ++ [(q2, .inl (cA 20, 213, .inl (fun _ => 0)))]) ++ [(q3, .inl (cA 20, 1278, .inl (fun _ => 0)))]) ++ [(q4, .inl (cA 20, 60, .inl (fun _ => 0)))]) ++ [(q5, .inl (cA 20, 32, .inl (fun _ => 0)))]) ++ [(q6, .inl (cA 20, 8, .inl (fun _ => 0)))]) ++ [(q7, .inl (cA 20, 5, .inl (fun _ => 0)))]) ++ [(q8, .inl (cA 20, 6, .inl (fun _ => 0)))]) ++ [(q9, .inl (cA 20, 6, .inl (fun _ => 0)))])) _ := hP
  have hD : va_D _ ((q, .inr (9, [.ref q1, .ref q2, .ref q3, .ref q4, .ref q5, .ref q6, .ref q7, .ref q8, .ref q9, .int 0, .int 0, .int 0, .int 0, .int 0, .int 0, .int 0, .int 0, .long 0])) :: (((((((([(q1, .inl (cA 20, 213, .inl (upd (upd (upd (fun _ => 0) 6 1) 11 20) 12 2)))] ++ [(q2, .inl (cA 20, 213, .inl (fun _ => 0)))]) ++ [(q3, .inl (cA 20, 1278, .inl (fun _ => 0)))]) ++ [(q4, .inl (cA 20, 60, .inl (fun _ => 0)))]) ++ [(q5, .inl (cA 20, 32, .inl (fun _ => 0)))]) ++ [(q6, .inl (cA 20, 8, .inl (fun _ => 0)))]) ++ [(q7, .inl (cA 20, 5, .inl (fun _ => 0)))]) ++ [(q8, .inl (cA 20, 6, .inl (fun _ => 0)))]) ++ [(q9, .inl (cA 20, 6, .inl (fun _ => 0)))])) := hD
  refine lv_aload_n hx hb dX11_init_103 rfl (lv_at hl 0 rfl) ?_
  refine k_get (ci := 9) (j := 0) hx hb hown hts hK hP (by decide) (Nat.le_of_ble_eq_true rfl) (tix_in (q := (5, 51)) rfl rfl) rfl dX11_init_104 ?_
  refine lv_bipush (v := 13) hx hb dX11_init_107 rfl ?_
  refine lv_bipush (v := 20) hx hb dX11_init_109 rfl ?_
  refine va_iast hx hb hK hP hD hS 1 0 rfl rfl (inb_in rfl) dX11_init_111 ?_
  intro H111_ L_111 hP hD hS
  have hP : va_P D vwCl ((q, .inr (9, [.ref q1, .ref q2, .ref q3, .ref q4, .ref q5, .ref q6, .ref q7, .ref q8, .ref q9, .int 0, .int 0, .int 0, .int 0, .int 0, .int 0, .int 0, .int 0, .long 0])) :: (((((((([(q1, .inl (cA 20, 213, .inl (upd (upd (upd (upd (fun _ => 0) 6 1) 11 20) 12 2) 13 20)))] ++ [(q2, .inl (cA 20, 213, .inl (fun _ => 0)))]) ++ [(q3, .inl (cA 20, 1278, .inl (fun _ => 0)))]) ++ [(q4, .inl (cA 20, 60, .inl (fun _ => 0)))]) ++ [(q5, .inl (cA 20, 32, .inl (fun _ => 0)))]) ++ [(q6, .inl (cA 20, 8, .inl (fun _ => 0)))]) ++ [(q7, .inl (cA 20, 5, .inl (fun _ => 0)))]) ++ [(q8, .inl (cA 20, 6, .inl (fun _ => 0)))]) ++ [(q9, .inl (cA 20, 6, .inl (fun _ => 0)))])) _ := hP
  have hD : va_D _ ((q, .inr (9, [.ref q1, .ref q2, .ref q3, .ref q4, .ref q5, .ref q6, .ref q7, .ref q8, .ref q9, .int 0, .int 0, .int 0, .int 0, .int 0, .int 0, .int 0, .int 0, .long 0])) :: (((((((([(q1, .inl (cA 20, 213, .inl (upd (upd (upd (upd (fun _ => 0) 6 1) 11 20) 12 2) 13 20)))] ++ [(q2, .inl (cA 20, 213, .inl (fun _ => 0)))]) ++ [(q3, .inl (cA 20, 1278, .inl (fun _ => 0)))]) ++ [(q4, .inl (cA 20, 60, .inl (fun _ => 0)))]) ++ [(q5, .inl (cA 20, 32, .inl (fun _ => 0)))]) ++ [(q6, .inl (cA 20, 8, .inl (fun _ => 0)))]) ++ [(q7, .inl (cA 20, 5, .inl (fun _ => 0)))]) ++ [(q8, .inl (cA 20, 6, .inl (fun _ => 0)))]) ++ [(q9, .inl (cA 20, 6, .inl (fun _ => 0)))])) := hD
  refine lv_aload_n hx hb dX11_init_112 rfl (lv_at hl 0 rfl) ?_
  refine k_get (ci := 9) (j := 0) hx hb hown hts hK hP (by decide) (Nat.le_of_ble_eq_true rfl) (tix_in (q := (5, 51)) rfl rfl) rfl dX11_init_113 ?_
  refine lv_bipush (v := 14) hx hb dX11_init_116 rfl ?_
  refine lv_bipush (v := 25) hx hb dX11_init_118 rfl ?_
  refine va_iast hx hb hK hP hD hS 1 0 rfl rfl (inb_in rfl) dX11_init_120 ?_
  intro H120_ L_120 hP hD hS
  have hP : va_P D vwCl ((q, .inr (9, [.ref q1, .ref q2, .ref q3, .ref q4, .ref q5, .ref q6, .ref q7, .ref q8, .ref q9, .int 0, .int 0, .int 0, .int 0, .int 0, .int 0, .int 0, .int 0, .long 0])) :: (((((((([(q1, .inl (cA 20, 213, .inl (upd (upd (upd (upd (upd (fun _ => 0) 6 1) 11 20) 12 2) 13 20) 14 25)))] ++ [(q2, .inl (cA 20, 213, .inl (fun _ => 0)))]) ++ [(q3, .inl (cA 20, 1278, .inl (fun _ => 0)))]) ++ [(q4, .inl (cA 20, 60, .inl (fun _ => 0)))]) ++ [(q5, .inl (cA 20, 32, .inl (fun _ => 0)))]) ++ [(q6, .inl (cA 20, 8, .inl (fun _ => 0)))]) ++ [(q7, .inl (cA 20, 5, .inl (fun _ => 0)))]) ++ [(q8, .inl (cA 20, 6, .inl (fun _ => 0)))]) ++ [(q9, .inl (cA 20, 6, .inl (fun _ => 0)))])) _ := hP
  have hD : va_D _ ((q, .inr (9, [.ref q1, .ref q2, .ref q3, .ref q4, .ref q5, .ref q6, .ref q7, .ref q8, .ref q9, .int 0, .int 0, .int 0, .int 0, .int 0, .int 0, .int 0, .int 0, .long 0])) :: (((((((([(q1, .inl (cA 20, 213, .inl (upd (upd (upd (upd (upd (fun _ => 0) 6 1) 11 20) 12 2) 13 20) 14 25)))] ++ [(q2, .inl (cA 20, 213, .inl (fun _ => 0)))]) ++ [(q3, .inl (cA 20, 1278, .inl (fun _ => 0)))]) ++ [(q4, .inl (cA 20, 60, .inl (fun _ => 0)))]) ++ [(q5, .inl (cA 20, 32, .inl (fun _ => 0)))]) ++ [(q6, .inl (cA 20, 8, .inl (fun _ => 0)))]) ++ [(q7, .inl (cA 20, 5, .inl (fun _ => 0)))]) ++ [(q8, .inl (cA 20, 6, .inl (fun _ => 0)))]) ++ [(q9, .inl (cA 20, 6, .inl (fun _ => 0)))])) := hD
  refine lv_aload_n hx hb dX11_init_121 rfl (lv_at hl 0 rfl) ?_
  refine k_get (ci := 9) (j := 0) hx hb hown hts hK hP (by decide) (Nat.le_of_ble_eq_true rfl) (tix_in (q := (5, 51)) rfl rfl) rfl dX11_init_122 ?_
  refine lv_bipush (v := 15) hx hb dX11_init_125 rfl ?_
  refine lv_iconst (v := 5) hx hb dX11_init_127 rfl ?_
  refine va_iast hx hb hK hP hD hS 1 0 rfl rfl (inb_in rfl) dX11_init_128 ?_
  intro H128_ L_128 hP hD hS
  have hP : va_P D vwCl ((q, .inr (9, [.ref q1, .ref q2, .ref q3, .ref q4, .ref q5, .ref q6, .ref q7, .ref q8, .ref q9, .int 0, .int 0, .int 0, .int 0, .int 0, .int 0, .int 0, .int 0, .long 0])) :: (((((((([(q1, .inl (cA 20, 213, .inl (upd (upd (upd (upd (upd (upd (fun _ => 0) 6 1) 11 20) 12 2) 13 20) 14 25) 15 5)))] ++ [(q2, .inl (cA 20, 213, .inl (fun _ => 0)))]) ++ [(q3, .inl (cA 20, 1278, .inl (fun _ => 0)))]) ++ [(q4, .inl (cA 20, 60, .inl (fun _ => 0)))]) ++ [(q5, .inl (cA 20, 32, .inl (fun _ => 0)))]) ++ [(q6, .inl (cA 20, 8, .inl (fun _ => 0)))]) ++ [(q7, .inl (cA 20, 5, .inl (fun _ => 0)))]) ++ [(q8, .inl (cA 20, 6, .inl (fun _ => 0)))]) ++ [(q9, .inl (cA 20, 6, .inl (fun _ => 0)))])) _ := hP
  have hD : va_D _ ((q, .inr (9, [.ref q1, .ref q2, .ref q3, .ref q4, .ref q5, .ref q6, .ref q7, .ref q8, .ref q9, .int 0, .int 0, .int 0, .int 0, .int 0, .int 0, .int 0, .int 0, .long 0])) :: (((((((([(q1, .inl (cA 20, 213, .inl (upd (upd (upd (upd (upd (upd (fun _ => 0) 6 1) 11 20) 12 2) 13 20) 14 25) 15 5)))] ++ [(q2, .inl (cA 20, 213, .inl (fun _ => 0)))]) ++ [(q3, .inl (cA 20, 1278, .inl (fun _ => 0)))]) ++ [(q4, .inl (cA 20, 60, .inl (fun _ => 0)))]) ++ [(q5, .inl (cA 20, 32, .inl (fun _ => 0)))]) ++ [(q6, .inl (cA 20, 8, .inl (fun _ => 0)))]) ++ [(q7, .inl (cA 20, 5, .inl (fun _ => 0)))]) ++ [(q8, .inl (cA 20, 6, .inl (fun _ => 0)))]) ++ [(q9, .inl (cA 20, 6, .inl (fun _ => 0)))])) := hD
  exact k_end (g := fun i => match i with | 0 => q | 1 => q1 | 2 => q2 | 3 => q3 | 4 => q4 | 5 => q5 | 6 => q6 | 7 => q7 | 8 => q8 | 9 => q9 | _ => 0) hx hb hr hlocks rfl hP hD hS (Nat.le_of_ble_eq_true rfl) (Nat.le_of_ble_eq_true rfl) dX11_init_129
end CTORH
