/-! THE WORDS OF THE THROWN CLASSES (wip/whole/genthr.py) -/
section THRW
def xnm : List String := ["java/lang/RuntimeException", "java/lang/Exception"]
set_option maxRecDepth 100000 in
theorem xg_1 : (vx_atS "OrganCorners" 175 (exn 1) xnm).filter goodWord = ([(1, 12), (3, 33), (3, 42), (3, 46), (3, 49), (3, 51), (3, 34), (3, 35), (1, 33), (1, 34), (3, 36), (3, 41), (3, 47), (3, 67), (3, 23), (3, 68), (3, 25), (3, 69), (3, 27), (3, 37), (3, 39), (3, 29), (3, 63), (3, 64), (3, 66), (3, 29), (3, 54), (3, 55), (3, 56), (3, 57), (3, 57), (3, 58), (3, 59), (3, 60), (3, 60), (3, 61), (3, 62), (3, 63), (3, 53), (3, 12), (3, 20), (3, 21), (3, 22), (3, 24), (3, 26), (3, 28), (3, 32), (3, 31), (3, 30)] : List (Nat × Nat)).filterMap tix := rfl
set_option maxRecDepth 100000 in
theorem xb_1 : (vx_atS "OrganCorners" 175 (exn 1) xnm).filter (fun w => !goodWord w) = [Cond.declares (Bundle.initS "java/lang/RuntimeException"), Cond.declares (Bundle.initS "java/lang/Exception"), Cond.declares (Bundle.initS "java/lang/Throwable"), Cond.castable (exn 1) (exn 1)] := rfl
set_option maxRecDepth 100000 in
theorem xo_1 : (Cond.classLink "OrganCorners" 171 (exn 1) :: Cond.initialized (exn 1) :: vx_atS "OrganCorners" 175 (exn 1) xnm).all vx_ot = true := rfl
theorem xl_1 : Cond.classLink "OrganCorners" 171 (exn 1) ∈ lwG := tix_in (q := (3, 11)) rfl rfl
theorem xi_1 : Cond.initialized (exn 1) ∈ lwG := tix_in (q := (1, 15)) rfl rfl
theorem xat_1 {N0 : Nat} {L : Nat → Nat} {args : Array Value} {s : State} (hts : ∀ w ∈ lwG, w.before args s = true) (hF : SF L (jA N0) s s.heap) : ∀ w ∈ vx_atS "OrganCorners" 175 (exn 1) xnm, w.before args s = true := by
  refine vx_hat (B := (vx_atS "OrganCorners" 175 (exn 1) xnm).filter (fun w => !goodWord w)) (fun w hw => ?_) (fun w hw => hw) (fun w hw => ?_)
  · exact hts w (tix_all xg_1 (List.all_eq_true.mpr fun w hw => (List.mem_filter.mp hw).2) w hw)
  · rw [xb_1] at hw
    have d1 := va_Nw.use (A := args) rfl hF.2.2.1.2.2.2.2.2.2.2.2.2.1
    have d2 := va_Nw.use (A := args) rfl hF.2.2.1.2.2.2.2.2.2.2.2.2.2.1
    have d3 := va_Nw.use (A := args) rfl hF.2.2.1.2.2.2.2.2.2.2.2.2.2.2
    have d4 := va_Nw.use (A := args) rfl (hF.2.2.1.2.2.2.1 1 (by decide) (by decide))
    simp only [List.mem_cons, List.not_mem_nil, or_false] at hw
    rcases hw with rfl | rfl | rfl | rfl
    · exact d1
    · exact d2
    · exact d3
    · exact d4
set_option maxRecDepth 100000 in
theorem xg_2 : (vx_atS "OrganCorners" 355 (exn 2) xnm).filter goodWord = ([(1, 12), (3, 33), (3, 42), (3, 46), (3, 49), (3, 51), (3, 34), (3, 35), (1, 33), (1, 34), (3, 36), (3, 41), (3, 47), (3, 67), (3, 23), (3, 68), (3, 25), (3, 69), (3, 27), (3, 37), (3, 39), (3, 29), (3, 63), (3, 64), (3, 66), (3, 29), (4, 64), (4, 65), (4, 66), (3, 57), (3, 57), (3, 58), (3, 59), (3, 60), (3, 60), (3, 61), (3, 62), (3, 63), (4, 63), (4, 54), (4, 56), (3, 44), (4, 57), (4, 58), (4, 59), (4, 60), (3, 32), (3, 31), (4, 61)] : List (Nat × Nat)).filterMap tix := rfl
set_option maxRecDepth 100000 in
theorem xb_2 : (vx_atS "OrganCorners" 355 (exn 2) xnm).filter (fun w => !goodWord w) = [Cond.declares (Bundle.initS "java/lang/RuntimeException"), Cond.declares (Bundle.initS "java/lang/Exception"), Cond.declares (Bundle.initS "java/lang/Throwable"), Cond.castable (exn 2) (exn 2)] := rfl
set_option maxRecDepth 100000 in
theorem xo_2 : (Cond.classLink "OrganCorners" 351 (exn 2) :: Cond.initialized (exn 2) :: vx_atS "OrganCorners" 355 (exn 2) xnm).all vx_ot = true := rfl
theorem xl_2 : Cond.classLink "OrganCorners" 351 (exn 2) ∈ lwG := tix_in (q := (4, 53)) rfl rfl
theorem xi_2 : Cond.initialized (exn 2) ∈ lwG := tix_in (q := (1, 16)) rfl rfl
theorem xat_2 {N0 : Nat} {L : Nat → Nat} {args : Array Value} {s : State} (hts : ∀ w ∈ lwG, w.before args s = true) (hF : SF L (jA N0) s s.heap) : ∀ w ∈ vx_atS "OrganCorners" 355 (exn 2) xnm, w.before args s = true := by
  refine vx_hat (B := (vx_atS "OrganCorners" 355 (exn 2) xnm).filter (fun w => !goodWord w)) (fun w hw => ?_) (fun w hw => hw) (fun w hw => ?_)
  · exact hts w (tix_all xg_2 (List.all_eq_true.mpr fun w hw => (List.mem_filter.mp hw).2) w hw)
  · rw [xb_2] at hw
    have d1 := va_Nw.use (A := args) rfl hF.2.2.1.2.2.2.2.2.2.2.2.2.1
    have d2 := va_Nw.use (A := args) rfl hF.2.2.1.2.2.2.2.2.2.2.2.2.2.1
    have d3 := va_Nw.use (A := args) rfl hF.2.2.1.2.2.2.2.2.2.2.2.2.2.2
    have d4 := va_Nw.use (A := args) rfl (hF.2.2.1.2.2.2.1 2 (by decide) (by decide))
    simp only [List.mem_cons, List.not_mem_nil, or_false] at hw
    rcases hw with rfl | rfl | rfl | rfl
    · exact d1
    · exact d2
    · exact d3
    · exact d4
set_option maxRecDepth 100000 in
theorem xg_3 : (vx_atS "OrganCorners" 348 (exn 3) xnm).filter goodWord = ([(1, 12), (3, 33), (3, 42), (3, 46), (3, 49), (3, 51), (3, 34), (3, 35), (1, 33), (1, 34), (3, 36), (3, 41), (3, 47), (3, 67), (3, 23), (3, 68), (3, 25), (3, 69), (3, 27), (3, 37), (3, 39), (3, 29), (3, 63), (3, 64), (3, 66), (3, 29), (3, 112), (3, 113), (3, 114), (3, 57), (3, 57), (3, 58), (3, 59), (3, 60), (3, 60), (3, 61), (3, 62), (3, 63), (3, 111), (3, 102), (3, 104), (3, 45), (3, 105), (3, 106), (3, 107), (3, 108), (3, 32), (3, 31), (3, 109)] : List (Nat × Nat)).filterMap tix := rfl
set_option maxRecDepth 100000 in
theorem xb_3 : (vx_atS "OrganCorners" 348 (exn 3) xnm).filter (fun w => !goodWord w) = [Cond.declares (Bundle.initS "java/lang/RuntimeException"), Cond.declares (Bundle.initS "java/lang/Exception"), Cond.declares (Bundle.initS "java/lang/Throwable"), Cond.castable (exn 3) (exn 3)] := rfl
set_option maxRecDepth 100000 in
theorem xo_3 : (Cond.classLink "OrganCorners" 344 (exn 3) :: Cond.initialized (exn 3) :: vx_atS "OrganCorners" 348 (exn 3) xnm).all vx_ot = true := rfl
theorem xl_3 : Cond.classLink "OrganCorners" 344 (exn 3) ∈ lwG := tix_in (q := (3, 101)) rfl rfl
theorem xi_3 : Cond.initialized (exn 3) ∈ lwG := tix_in (q := (1, 17)) rfl rfl
theorem xat_3 {N0 : Nat} {L : Nat → Nat} {args : Array Value} {s : State} (hts : ∀ w ∈ lwG, w.before args s = true) (hF : SF L (jA N0) s s.heap) : ∀ w ∈ vx_atS "OrganCorners" 348 (exn 3) xnm, w.before args s = true := by
  refine vx_hat (B := (vx_atS "OrganCorners" 348 (exn 3) xnm).filter (fun w => !goodWord w)) (fun w hw => ?_) (fun w hw => hw) (fun w hw => ?_)
  · exact hts w (tix_all xg_3 (List.all_eq_true.mpr fun w hw => (List.mem_filter.mp hw).2) w hw)
  · rw [xb_3] at hw
    have d1 := va_Nw.use (A := args) rfl hF.2.2.1.2.2.2.2.2.2.2.2.2.1
    have d2 := va_Nw.use (A := args) rfl hF.2.2.1.2.2.2.2.2.2.2.2.2.2.1
    have d3 := va_Nw.use (A := args) rfl hF.2.2.1.2.2.2.2.2.2.2.2.2.2.2
    have d4 := va_Nw.use (A := args) rfl (hF.2.2.1.2.2.2.1 3 (by decide) (by decide))
    simp only [List.mem_cons, List.not_mem_nil, or_false] at hw
    rcases hw with rfl | rfl | rfl | rfl
    · exact d1
    · exact d2
    · exact d3
    · exact d4
end THRW
