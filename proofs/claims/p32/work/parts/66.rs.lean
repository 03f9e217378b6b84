/-! SEMANTICS: the town after one number is set (by program: wip/whole/genrs.py) -/
section RS
variable {z : Nat → Nat} {μ : PM}
theorem rs_f4 {v : Nat} (hr : RT 23 z μ) (hb : Bd z) : RT 23 (setN z (0) v) (stI μ (23) (4) (Int32.ofNat v)) := by
  have no := hb.no
  have ne : ∀ j, j ≠ 0 → setN z (0) v j = z j := fun j hj => setN_ne hj
  have e1 : setN z (0) v 1 = z 1 := ne 1 (by omega)
  have e4 : setN z (0) v 4 = z 4 := ne 4 (by omega)
  have en : ∀ c h, c < 10 → h < 10 → noted (setN z (0) v) c h = noted z c h := fun c h hc hh => by
    unfold noted
    rw [e1]
    exact up_congr _ (fun i hi x => by rw [ne _ (by omega), ne _ (by omega)])
  have ep : plyS (setN z (0) v) = plyS z := sum_congr _ (fun i hi => by rw [ne _ (by omega)])
  have fr : ∀ X Y, ¬ (X = 23 ∧ Y = 4) → mI (stI μ (23) (4) (Int32.ofNat v)) X Y = mI μ X Y := fun X Y hq => by rw [st_get, if_neg hq]
  obtain ⟨⟨⟨q4, q5, q6, q7, q8, q9⟩, q10, q11, q12, q13, q14⟩, qs, qc, qo, qp⟩ := hr
  refine ⟨⟨⟨?_, ?_, ?_, ?_, ?_, ?_⟩, ?_, ?_, ?_, ?_, ?_⟩, fun i hi => ?_, fun c hc => ⟨fun w hw => ?_, fun w hw => ?_⟩, fun o ho => ⟨fun w hw h3 => ?_, ?_, ?_⟩, fun p hp => ⟨?_, fun w h1 hw => ?_, fun o ho => ?_⟩⟩
  · rw [st_get, if_pos ⟨rfl, rfl⟩, setN_self]
  · rw [fr _ _ (by omega), ne _ (by omega)]; exact q5
  · rw [fr _ _ (by omega), ne _ (by omega)]; exact q6
  · rw [fr _ _ (by omega), ne _ (by omega)]; exact q7
  · rw [fr _ _ (by omega), ne _ (by omega)]; exact q8
  · rw [fr _ _ (by omega), ne _ (by omega)]; exact q9
  · rw [fr _ _ (by omega), ne _ (by omega)]; exact q10
  · rw [fr _ _ (by omega), ep]; exact q11
  · rw [fr _ _ (by omega), ne _ (by omega)]; exact q12
  · rw [fr _ _ (by omega), ne _ (by omega)]; exact q13
  · rw [fr _ _ (by omega), ne _ (by omega)]; exact q14
  · rw [fr _ _ (by omega), ne _ (by omega)]; exact qs i hi
  · rw [fr _ _ (by omega), ne _ (by omega)]; exact (qc c hc).1 w hw
  · rw [fr _ _ (by omega), en c w hc hw]; exact (qc c hc).2 w hw
  · rw [fr _ _ (by omega), ne _ (by omega)]; exact (qo o ho).1 w hw h3
  · rw [fr _ _ (by omega), ne _ (by omega)]; exact (qo o ho).2.1
  · rw [fr _ _ (by omega), e4, ne _ (by omega)]; exact (qo o ho).2.2
  · rw [fr _ _ (by omega), ne _ (by omega)]; exact (qp p hp).1
  · rw [fr _ _ (by omega), ne _ (by omega)]; exact (qp p hp).2.1 w h1 hw
  · rw [fr _ _ (by omega), ne _ (by omega)]; exact (qp p hp).2.2 o ho
theorem rs_f6 {v : Nat} (hr : RT 23 z μ) (hb : Bd z) : RT 23 (setN z (2) v) (stI μ (23) (6) (Int32.ofNat v)) := by
  have no := hb.no
  have ne : ∀ j, j ≠ 2 → setN z (2) v j = z j := fun j hj => setN_ne hj
  have e1 : setN z (2) v 1 = z 1 := ne 1 (by omega)
  have e4 : setN z (2) v 4 = z 4 := ne 4 (by omega)
  have en : ∀ c h, c < 10 → h < 10 → noted (setN z (2) v) c h = noted z c h := fun c h hc hh => by
    unfold noted
    rw [e1]
    exact up_congr _ (fun i hi x => by rw [ne _ (by omega), ne _ (by omega)])
  have ep : plyS (setN z (2) v) = plyS z := sum_congr _ (fun i hi => by rw [ne _ (by omega)])
  have fr : ∀ X Y, ¬ (X = 23 ∧ Y = 6) → mI (stI μ (23) (6) (Int32.ofNat v)) X Y = mI μ X Y := fun X Y hq => by rw [st_get, if_neg hq]
  obtain ⟨⟨⟨q4, q5, q6, q7, q8, q9⟩, q10, q11, q12, q13, q14⟩, qs, qc, qo, qp⟩ := hr
  refine ⟨⟨⟨?_, ?_, ?_, ?_, ?_, ?_⟩, ?_, ?_, ?_, ?_, ?_⟩, fun i hi => ?_, fun c hc => ⟨fun w hw => ?_, fun w hw => ?_⟩, fun o ho => ⟨fun w hw h3 => ?_, ?_, ?_⟩, fun p hp => ⟨?_, fun w h1 hw => ?_, fun o ho => ?_⟩⟩
  · rw [fr _ _ (by omega), ne _ (by omega)]; exact q4
  · rw [fr _ _ (by omega), ne _ (by omega)]; exact q5
  · rw [st_get, if_pos ⟨rfl, rfl⟩, setN_self]
  · rw [fr _ _ (by omega), ne _ (by omega)]; exact q7
  · rw [fr _ _ (by omega), ne _ (by omega)]; exact q8
  · rw [fr _ _ (by omega), ne _ (by omega)]; exact q9
  · rw [fr _ _ (by omega), ne _ (by omega)]; exact q10
  · rw [fr _ _ (by omega), ep]; exact q11
  · rw [fr _ _ (by omega), ne _ (by omega)]; exact q12
  · rw [fr _ _ (by omega), ne _ (by omega)]; exact q13
  · rw [fr _ _ (by omega), ne _ (by omega)]; exact q14
  · rw [fr _ _ (by omega), ne _ (by omega)]; exact qs i hi
  · rw [fr _ _ (by omega), ne _ (by omega)]; exact (qc c hc).1 w hw
  · rw [fr _ _ (by omega), en c w hc hw]; exact (qc c hc).2 w hw
  · rw [fr _ _ (by omega), ne _ (by omega)]; exact (qo o ho).1 w hw h3
  · rw [fr _ _ (by omega), ne _ (by omega)]; exact (qo o ho).2.1
  · rw [fr _ _ (by omega), e4, ne _ (by omega)]; exact (qo o ho).2.2
  · rw [fr _ _ (by omega), ne _ (by omega)]; exact (qp p hp).1
  · rw [fr _ _ (by omega), ne _ (by omega)]; exact (qp p hp).2.1 w h1 hw
  · rw [fr _ _ (by omega), ne _ (by omega)]; exact (qp p hp).2.2 o ho
theorem rs_f7 {v : Nat} (hr : RT 23 z μ) (hb : Bd z) : RT 23 (setN z (3) v) (stI μ (23) (7) (Int32.ofNat v)) := by
  have no := hb.no
  have ne : ∀ j, j ≠ 3 → setN z (3) v j = z j := fun j hj => setN_ne hj
  have e1 : setN z (3) v 1 = z 1 := ne 1 (by omega)
  have e4 : setN z (3) v 4 = z 4 := ne 4 (by omega)
  have en : ∀ c h, c < 10 → h < 10 → noted (setN z (3) v) c h = noted z c h := fun c h hc hh => by
    unfold noted
    rw [e1]
    exact up_congr _ (fun i hi x => by rw [ne _ (by omega), ne _ (by omega)])
  have ep : plyS (setN z (3) v) = plyS z := sum_congr _ (fun i hi => by rw [ne _ (by omega)])
  have fr : ∀ X Y, ¬ (X = 23 ∧ Y = 7) → mI (stI μ (23) (7) (Int32.ofNat v)) X Y = mI μ X Y := fun X Y hq => by rw [st_get, if_neg hq]
  obtain ⟨⟨⟨q4, q5, q6, q7, q8, q9⟩, q10, q11, q12, q13, q14⟩, qs, qc, qo, qp⟩ := hr
  refine ⟨⟨⟨?_, ?_, ?_, ?_, ?_, ?_⟩, ?_, ?_, ?_, ?_, ?_⟩, fun i hi => ?_, fun c hc => ⟨fun w hw => ?_, fun w hw => ?_⟩, fun o ho => ⟨fun w hw h3 => ?_, ?_, ?_⟩, fun p hp => ⟨?_, fun w h1 hw => ?_, fun o ho => ?_⟩⟩
  · rw [fr _ _ (by omega), ne _ (by omega)]; exact q4
  · rw [fr _ _ (by omega), ne _ (by omega)]; exact q5
  · rw [fr _ _ (by omega), ne _ (by omega)]; exact q6
  · rw [st_get, if_pos ⟨rfl, rfl⟩, setN_self]
  · rw [fr _ _ (by omega), ne _ (by omega)]; exact q8
  · rw [fr _ _ (by omega), ne _ (by omega)]; exact q9
  · rw [fr _ _ (by omega), ne _ (by omega)]; exact q10
  · rw [fr _ _ (by omega), ep]; exact q11
  · rw [fr _ _ (by omega), ne _ (by omega)]; exact q12
  · rw [fr _ _ (by omega), ne _ (by omega)]; exact q13
  · rw [fr _ _ (by omega), ne _ (by omega)]; exact q14
  · rw [fr _ _ (by omega), ne _ (by omega)]; exact qs i hi
  · rw [fr _ _ (by omega), ne _ (by omega)]; exact (qc c hc).1 w hw
  · rw [fr _ _ (by omega), en c w hc hw]; exact (qc c hc).2 w hw
  · rw [fr _ _ (by omega), ne _ (by omega)]; exact (qo o ho).1 w hw h3
  · rw [fr _ _ (by omega), ne _ (by omega)]; exact (qo o ho).2.1
  · rw [fr _ _ (by omega), e4, ne _ (by omega)]; exact (qo o ho).2.2
  · rw [fr _ _ (by omega), ne _ (by omega)]; exact (qp p hp).1
  · rw [fr _ _ (by omega), ne _ (by omega)]; exact (qp p hp).2.1 w h1 hw
  · rw [fr _ _ (by omega), ne _ (by omega)]; exact (qp p hp).2.2 o ho
theorem rs_f9 {v : Nat} (hr : RT 23 z μ) (hb : Bd z) : RT 23 (setN z (5) v) (stI μ (23) (9) (Int32.ofNat v)) := by
  have no := hb.no
  have ne : ∀ j, j ≠ 5 → setN z (5) v j = z j := fun j hj => setN_ne hj
  have e1 : setN z (5) v 1 = z 1 := ne 1 (by omega)
  have e4 : setN z (5) v 4 = z 4 := ne 4 (by omega)
  have en : ∀ c h, c < 10 → h < 10 → noted (setN z (5) v) c h = noted z c h := fun c h hc hh => by
    unfold noted
    rw [e1]
    exact up_congr _ (fun i hi x => by rw [ne _ (by omega), ne _ (by omega)])
  have ep : plyS (setN z (5) v) = plyS z := sum_congr _ (fun i hi => by rw [ne _ (by omega)])
  have fr : ∀ X Y, ¬ (X = 23 ∧ Y = 9) → mI (stI μ (23) (9) (Int32.ofNat v)) X Y = mI μ X Y := fun X Y hq => by rw [st_get, if_neg hq]
  obtain ⟨⟨⟨q4, q5, q6, q7, q8, q9⟩, q10, q11, q12, q13, q14⟩, qs, qc, qo, qp⟩ := hr
  refine ⟨⟨⟨?_, ?_, ?_, ?_, ?_, ?_⟩, ?_, ?_, ?_, ?_, ?_⟩, fun i hi => ?_, fun c hc => ⟨fun w hw => ?_, fun w hw => ?_⟩, fun o ho => ⟨fun w hw h3 => ?_, ?_, ?_⟩, fun p hp => ⟨?_, fun w h1 hw => ?_, fun o ho => ?_⟩⟩
  · rw [fr _ _ (by omega), ne _ (by omega)]; exact q4
  · rw [fr _ _ (by omega), ne _ (by omega)]; exact q5
  · rw [fr _ _ (by omega), ne _ (by omega)]; exact q6
  · rw [fr _ _ (by omega), ne _ (by omega)]; exact q7
  · rw [fr _ _ (by omega), ne _ (by omega)]; exact q8
  · rw [st_get, if_pos ⟨rfl, rfl⟩, setN_self]
  · rw [fr _ _ (by omega), ne _ (by omega)]; exact q10
  · rw [fr _ _ (by omega), ep]; exact q11
  · rw [fr _ _ (by omega), ne _ (by omega)]; exact q12
  · rw [fr _ _ (by omega), ne _ (by omega)]; exact q13
  · rw [fr _ _ (by omega), ne _ (by omega)]; exact q14
  · rw [fr _ _ (by omega), ne _ (by omega)]; exact qs i hi
  · rw [fr _ _ (by omega), ne _ (by omega)]; exact (qc c hc).1 w hw
  · rw [fr _ _ (by omega), en c w hc hw]; exact (qc c hc).2 w hw
  · rw [fr _ _ (by omega), ne _ (by omega)]; exact (qo o ho).1 w hw h3
  · rw [fr _ _ (by omega), ne _ (by omega)]; exact (qo o ho).2.1
  · rw [fr _ _ (by omega), e4, ne _ (by omega)]; exact (qo o ho).2.2
  · rw [fr _ _ (by omega), ne _ (by omega)]; exact (qp p hp).1
  · rw [fr _ _ (by omega), ne _ (by omega)]; exact (qp p hp).2.1 w h1 hw
  · rw [fr _ _ (by omega), ne _ (by omega)]; exact (qp p hp).2.2 o ho
theorem rs_f10 {v : Nat} (hr : RT 23 z μ) (hb : Bd z) : RT 23 (setN z (6) v) (stI μ (23) (10) (Int32.ofNat v)) := by
  have no := hb.no
  have ne : ∀ j, j ≠ 6 → setN z (6) v j = z j := fun j hj => setN_ne hj
  have e1 : setN z (6) v 1 = z 1 := ne 1 (by omega)
  have e4 : setN z (6) v 4 = z 4 := ne 4 (by omega)
  have en : ∀ c h, c < 10 → h < 10 → noted (setN z (6) v) c h = noted z c h := fun c h hc hh => by
    unfold noted
    rw [e1]
    exact up_congr _ (fun i hi x => by rw [ne _ (by omega), ne _ (by omega)])
  have ep : plyS (setN z (6) v) = plyS z := sum_congr _ (fun i hi => by rw [ne _ (by omega)])
  have fr : ∀ X Y, ¬ (X = 23 ∧ Y = 10) → mI (stI μ (23) (10) (Int32.ofNat v)) X Y = mI μ X Y := fun X Y hq => by rw [st_get, if_neg hq]
  obtain ⟨⟨⟨q4, q5, q6, q7, q8, q9⟩, q10, q11, q12, q13, q14⟩, qs, qc, qo, qp⟩ := hr
  refine ⟨⟨⟨?_, ?_, ?_, ?_, ?_, ?_⟩, ?_, ?_, ?_, ?_, ?_⟩, fun i hi => ?_, fun c hc => ⟨fun w hw => ?_, fun w hw => ?_⟩, fun o ho => ⟨fun w hw h3 => ?_, ?_, ?_⟩, fun p hp => ⟨?_, fun w h1 hw => ?_, fun o ho => ?_⟩⟩
  · rw [fr _ _ (by omega), ne _ (by omega)]; exact q4
  · rw [fr _ _ (by omega), ne _ (by omega)]; exact q5
  · rw [fr _ _ (by omega), ne _ (by omega)]; exact q6
  · rw [fr _ _ (by omega), ne _ (by omega)]; exact q7
  · rw [fr _ _ (by omega), ne _ (by omega)]; exact q8
  · rw [fr _ _ (by omega), ne _ (by omega)]; exact q9
  · rw [st_get, if_pos ⟨rfl, rfl⟩, setN_self]
  · rw [fr _ _ (by omega), ep]; exact q11
  · rw [fr _ _ (by omega), ne _ (by omega)]; exact q12
  · rw [fr _ _ (by omega), ne _ (by omega)]; exact q13
  · rw [fr _ _ (by omega), ne _ (by omega)]; exact q14
  · rw [fr _ _ (by omega), ne _ (by omega)]; exact qs i hi
  · rw [fr _ _ (by omega), ne _ (by omega)]; exact (qc c hc).1 w hw
  · rw [fr _ _ (by omega), en c w hc hw]; exact (qc c hc).2 w hw
  · rw [fr _ _ (by omega), ne _ (by omega)]; exact (qo o ho).1 w hw h3
  · rw [fr _ _ (by omega), ne _ (by omega)]; exact (qo o ho).2.1
  · rw [fr _ _ (by omega), e4, ne _ (by omega)]; exact (qo o ho).2.2
  · rw [fr _ _ (by omega), ne _ (by omega)]; exact (qp p hp).1
  · rw [fr _ _ (by omega), ne _ (by omega)]; exact (qp p hp).2.1 w h1 hw
  · rw [fr _ _ (by omega), ne _ (by omega)]; exact (qp p hp).2.2 o ho
theorem rs_f12 {v : Nat} (hr : RT 23 z μ) (hb : Bd z) : RT 23 (setN z (7) v) (stI μ (23) (12) (Int32.ofNat v)) := by
  have no := hb.no
  have ne : ∀ j, j ≠ 7 → setN z (7) v j = z j := fun j hj => setN_ne hj
  have e1 : setN z (7) v 1 = z 1 := ne 1 (by omega)
  have e4 : setN z (7) v 4 = z 4 := ne 4 (by omega)
  have en : ∀ c h, c < 10 → h < 10 → noted (setN z (7) v) c h = noted z c h := fun c h hc hh => by
    unfold noted
    rw [e1]
    exact up_congr _ (fun i hi x => by rw [ne _ (by omega), ne _ (by omega)])
  have ep : plyS (setN z (7) v) = plyS z := sum_congr _ (fun i hi => by rw [ne _ (by omega)])
  have fr : ∀ X Y, ¬ (X = 23 ∧ Y = 12) → mI (stI μ (23) (12) (Int32.ofNat v)) X Y = mI μ X Y := fun X Y hq => by rw [st_get, if_neg hq]
  obtain ⟨⟨⟨q4, q5, q6, q7, q8, q9⟩, q10, q11, q12, q13, q14⟩, qs, qc, qo, qp⟩ := hr
  refine ⟨⟨⟨?_, ?_, ?_, ?_, ?_, ?_⟩, ?_, ?_, ?_, ?_, ?_⟩, fun i hi => ?_, fun c hc => ⟨fun w hw => ?_, fun w hw => ?_⟩, fun o ho => ⟨fun w hw h3 => ?_, ?_, ?_⟩, fun p hp => ⟨?_, fun w h1 hw => ?_, fun o ho => ?_⟩⟩
  · rw [fr _ _ (by omega), ne _ (by omega)]; exact q4
  · rw [fr _ _ (by omega), ne _ (by omega)]; exact q5
  · rw [fr _ _ (by omega), ne _ (by omega)]; exact q6
  · rw [fr _ _ (by omega), ne _ (by omega)]; exact q7
  · rw [fr _ _ (by omega), ne _ (by omega)]; exact q8
  · rw [fr _ _ (by omega), ne _ (by omega)]; exact q9
  · rw [fr _ _ (by omega), ne _ (by omega)]; exact q10
  · rw [fr _ _ (by omega), ep]; exact q11
  · rw [st_get, if_pos ⟨rfl, rfl⟩, setN_self]
  · rw [fr _ _ (by omega), ne _ (by omega)]; exact q13
  · rw [fr _ _ (by omega), ne _ (by omega)]; exact q14
  · rw [fr _ _ (by omega), ne _ (by omega)]; exact qs i hi
  · rw [fr _ _ (by omega), ne _ (by omega)]; exact (qc c hc).1 w hw
  · rw [fr _ _ (by omega), en c w hc hw]; exact (qc c hc).2 w hw
  · rw [fr _ _ (by omega), ne _ (by omega)]; exact (qo o ho).1 w hw h3
  · rw [fr _ _ (by omega), ne _ (by omega)]; exact (qo o ho).2.1
  · rw [fr _ _ (by omega), e4, ne _ (by omega)]; exact (qo o ho).2.2
  · rw [fr _ _ (by omega), ne _ (by omega)]; exact (qp p hp).1
  · rw [fr _ _ (by omega), ne _ (by omega)]; exact (qp p hp).2.1 w h1 hw
  · rw [fr _ _ (by omega), ne _ (by omega)]; exact (qp p hp).2.2 o ho
theorem rs_f13 {v : Nat} (hr : RT 23 z μ) (hb : Bd z) : RT 23 (setN z (9) v) (stI μ (23) (13) (Int32.ofNat v)) := by
  have no := hb.no
  have ne : ∀ j, j ≠ 9 → setN z (9) v j = z j := fun j hj => setN_ne hj
  have e1 : setN z (9) v 1 = z 1 := ne 1 (by omega)
  have e4 : setN z (9) v 4 = z 4 := ne 4 (by omega)
  have en : ∀ c h, c < 10 → h < 10 → noted (setN z (9) v) c h = noted z c h := fun c h hc hh => by
    unfold noted
    rw [e1]
    exact up_congr _ (fun i hi x => by rw [ne _ (by omega), ne _ (by omega)])
  have ep : plyS (setN z (9) v) = plyS z := sum_congr _ (fun i hi => by rw [ne _ (by omega)])
  have fr : ∀ X Y, ¬ (X = 23 ∧ Y = 13) → mI (stI μ (23) (13) (Int32.ofNat v)) X Y = mI μ X Y := fun X Y hq => by rw [st_get, if_neg hq]
  obtain ⟨⟨⟨q4, q5, q6, q7, q8, q9⟩, q10, q11, q12, q13, q14⟩, qs, qc, qo, qp⟩ := hr
  refine ⟨⟨⟨?_, ?_, ?_, ?_, ?_, ?_⟩, ?_, ?_, ?_, ?_, ?_⟩, fun i hi => ?_, fun c hc => ⟨fun w hw => ?_, fun w hw => ?_⟩, fun o ho => ⟨fun w hw h3 => ?_, ?_, ?_⟩, fun p hp => ⟨?_, fun w h1 hw => ?_, fun o ho => ?_⟩⟩
  · rw [fr _ _ (by omega), ne _ (by omega)]; exact q4
  · rw [fr _ _ (by omega), ne _ (by omega)]; exact q5
  · rw [fr _ _ (by omega), ne _ (by omega)]; exact q6
  · rw [fr _ _ (by omega), ne _ (by omega)]; exact q7
  · rw [fr _ _ (by omega), ne _ (by omega)]; exact q8
  · rw [fr _ _ (by omega), ne _ (by omega)]; exact q9
  · rw [fr _ _ (by omega), ne _ (by omega)]; exact q10
  · rw [fr _ _ (by omega), ep]; exact q11
  · rw [fr _ _ (by omega), ne _ (by omega)]; exact q12
  · rw [st_get, if_pos ⟨rfl, rfl⟩, setN_self]
  · rw [fr _ _ (by omega), ne _ (by omega)]; exact q14
  · rw [fr _ _ (by omega), ne _ (by omega)]; exact qs i hi
  · rw [fr _ _ (by omega), ne _ (by omega)]; exact (qc c hc).1 w hw
  · rw [fr _ _ (by omega), en c w hc hw]; exact (qc c hc).2 w hw
  · rw [fr _ _ (by omega), ne _ (by omega)]; exact (qo o ho).1 w hw h3
  · rw [fr _ _ (by omega), ne _ (by omega)]; exact (qo o ho).2.1
  · rw [fr _ _ (by omega), e4, ne _ (by omega)]; exact (qo o ho).2.2
  · rw [fr _ _ (by omega), ne _ (by omega)]; exact (qp p hp).1
  · rw [fr _ _ (by omega), ne _ (by omega)]; exact (qp p hp).2.1 w h1 hw
  · rw [fr _ _ (by omega), ne _ (by omega)]; exact (qp p hp).2.2 o ho
theorem rs_f14 {v : Nat} (hr : RT 23 z μ) (hb : Bd z) : RT 23 (setN z (10) v) (stI μ (23) (14) (Int32.ofNat v)) := by
  have no := hb.no
  have ne : ∀ j, j ≠ 10 → setN z (10) v j = z j := fun j hj => setN_ne hj
  have e1 : setN z (10) v 1 = z 1 := ne 1 (by omega)
  have e4 : setN z (10) v 4 = z 4 := ne 4 (by omega)
  have en : ∀ c h, c < 10 → h < 10 → noted (setN z (10) v) c h = noted z c h := fun c h hc hh => by
    unfold noted
    rw [e1]
    exact up_congr _ (fun i hi x => by rw [ne _ (by omega), ne _ (by omega)])
  have ep : plyS (setN z (10) v) = plyS z := sum_congr _ (fun i hi => by rw [ne _ (by omega)])
  have fr : ∀ X Y, ¬ (X = 23 ∧ Y = 14) → mI (stI μ (23) (14) (Int32.ofNat v)) X Y = mI μ X Y := fun X Y hq => by rw [st_get, if_neg hq]
  obtain ⟨⟨⟨q4, q5, q6, q7, q8, q9⟩, q10, q11, q12, q13, q14⟩, qs, qc, qo, qp⟩ := hr
  refine ⟨⟨⟨?_, ?_, ?_, ?_, ?_, ?_⟩, ?_, ?_, ?_, ?_, ?_⟩, fun i hi => ?_, fun c hc => ⟨fun w hw => ?_, fun w hw => ?_⟩, fun o ho => ⟨fun w hw h3 => ?_, ?_, ?_⟩, fun p hp => ⟨?_, fun w h1 hw => ?_, fun o ho => ?_⟩⟩
  · rw [fr _ _ (by omega), ne _ (by omega)]; exact q4
  · rw [fr _ _ (by omega), ne _ (by omega)]; exact q5
  · rw [fr _ _ (by omega), ne _ (by omega)]; exact q6
  · rw [fr _ _ (by omega), ne _ (by omega)]; exact q7
  · rw [fr _ _ (by omega), ne _ (by omega)]; exact q8
  · rw [fr _ _ (by omega), ne _ (by omega)]; exact q9
  · rw [fr _ _ (by omega), ne _ (by omega)]; exact q10
  · rw [fr _ _ (by omega), ep]; exact q11
  · rw [fr _ _ (by omega), ne _ (by omega)]; exact q12
  · rw [fr _ _ (by omega), ne _ (by omega)]; exact q13
  · rw [st_get, if_pos ⟨rfl, rfl⟩, setN_self]
  · rw [fr _ _ (by omega), ne _ (by omega)]; exact qs i hi
  · rw [fr _ _ (by omega), ne _ (by omega)]; exact (qc c hc).1 w hw
  · rw [fr _ _ (by omega), en c w hc hw]; exact (qc c hc).2 w hw
  · rw [fr _ _ (by omega), ne _ (by omega)]; exact (qo o ho).1 w hw h3
  · rw [fr _ _ (by omega), ne _ (by omega)]; exact (qo o ho).2.1
  · rw [fr _ _ (by omega), e4, ne _ (by omega)]; exact (qo o ho).2.2
  · rw [fr _ _ (by omega), ne _ (by omega)]; exact (qp p hp).1
  · rw [fr _ _ (by omega), ne _ (by omega)]; exact (qp p hp).2.1 w h1 hw
  · rw [fr _ _ (by omega), ne _ (by omega)]; exact (qp p hp).2.2 o ho
theorem rs_set {v i0 : Nat} (hr : RT 23 z μ) (hb : Bd z) (h0 : i0 < 5) : RT 23 (setN z (11 + i0) v) (stI μ (27) (i0) (Int32.ofNat v)) := by
  have no := hb.no
  have ne : ∀ j, j ≠ 11 + i0 → setN z (11 + i0) v j = z j := fun j hj => setN_ne hj
  have e1 : setN z (11 + i0) v 1 = z 1 := ne 1 (by omega)
  have e4 : setN z (11 + i0) v 4 = z 4 := ne 4 (by omega)
  have en : ∀ c h, c < 10 → h < 10 → noted (setN z (11 + i0) v) c h = noted z c h := fun c h hc hh => by
    unfold noted
    rw [e1]
    exact up_congr _ (fun i hi x => by rw [ne _ (by omega), ne _ (by omega)])
  have ep : plyS (setN z (11 + i0) v) = plyS z := sum_congr _ (fun i hi => by rw [ne _ (by omega)])
  have fr : ∀ X Y, ¬ (X = 27 ∧ Y = i0) → mI (stI μ (27) (i0) (Int32.ofNat v)) X Y = mI μ X Y := fun X Y hq => by rw [st_get, if_neg hq]
  obtain ⟨⟨⟨q4, q5, q6, q7, q8, q9⟩, q10, q11, q12, q13, q14⟩, qs, qc, qo, qp⟩ := hr
  refine ⟨⟨⟨?_, ?_, ?_, ?_, ?_, ?_⟩, ?_, ?_, ?_, ?_, ?_⟩, fun i hi => ?_, fun c hc => ⟨fun w hw => ?_, fun w hw => ?_⟩, fun o ho => ⟨fun w hw h3 => ?_, ?_, ?_⟩, fun p hp => ⟨?_, fun w h1 hw => ?_, fun o ho => ?_⟩⟩
  · rw [fr _ _ (by omega), ne _ (by omega)]; exact q4
  · rw [fr _ _ (by omega), ne _ (by omega)]; exact q5
  · rw [fr _ _ (by omega), ne _ (by omega)]; exact q6
  · rw [fr _ _ (by omega), ne _ (by omega)]; exact q7
  · rw [fr _ _ (by omega), ne _ (by omega)]; exact q8
  · rw [fr _ _ (by omega), ne _ (by omega)]; exact q9
  · rw [fr _ _ (by omega), ne _ (by omega)]; exact q10
  · rw [fr _ _ (by omega), ep]; exact q11
  · rw [fr _ _ (by omega), ne _ (by omega)]; exact q12
  · rw [fr _ _ (by omega), ne _ (by omega)]; exact q13
  · rw [fr _ _ (by omega), ne _ (by omega)]; exact q14
  · by_cases e : i = i0
    · subst e; rw [st_get, if_pos ⟨rfl, rfl⟩, setN_self]
    · rw [fr _ _ (by omega), ne _ (by omega)]; exact qs i hi
  · rw [fr _ _ (by omega), ne _ (by omega)]; exact (qc c hc).1 w hw
  · rw [fr _ _ (by omega), en c w hc hw]; exact (qc c hc).2 w hw
  · rw [fr _ _ (by omega), ne _ (by omega)]; exact (qo o ho).1 w hw h3
  · rw [fr _ _ (by omega), ne _ (by omega)]; exact (qo o ho).2.1
  · rw [fr _ _ (by omega), e4, ne _ (by omega)]; exact (qo o ho).2.2
  · rw [fr _ _ (by omega), ne _ (by omega)]; exact (qp p hp).1
  · rw [fr _ _ (by omega), ne _ (by omega)]; exact (qp p hp).2.1 w h1 hw
  · rw [fr _ _ (by omega), ne _ (by omega)]; exact (qp p hp).2.2 o ho
theorem rs_cor {v c0 w0 : Nat} (hr : RT 23 z μ) (hb : Bd z) (h0 : c0 < 10) (g0 : w0 < 4) : RT 23 (setN z (16 + 4 * c0 + w0) v) (stI μ (28 + 2 * c0) (w0) (Int32.ofNat v)) := by
  have no := hb.no
  have ne : ∀ j, j ≠ 16 + 4 * c0 + w0 → setN z (16 + 4 * c0 + w0) v j = z j := fun j hj => setN_ne hj
  have e1 : setN z (16 + 4 * c0 + w0) v 1 = z 1 := ne 1 (by omega)
  have e4 : setN z (16 + 4 * c0 + w0) v 4 = z 4 := ne 4 (by omega)
  have en : ∀ c h, c < 10 → h < 10 → noted (setN z (16 + 4 * c0 + w0) v) c h = noted z c h := fun c h hc hh => by
    unfold noted
    rw [e1]
    exact up_congr _ (fun i hi x => by rw [ne _ (by omega), ne _ (by omega)])
  have ep : plyS (setN z (16 + 4 * c0 + w0) v) = plyS z := sum_congr _ (fun i hi => by rw [ne _ (by omega)])
  have fr : ∀ X Y, ¬ (X = 28 + 2 * c0 ∧ Y = w0) → mI (stI μ (28 + 2 * c0) (w0) (Int32.ofNat v)) X Y = mI μ X Y := fun X Y hq => by rw [st_get, if_neg hq]
  obtain ⟨⟨⟨q4, q5, q6, q7, q8, q9⟩, q10, q11, q12, q13, q14⟩, qs, qc, qo, qp⟩ := hr
  refine ⟨⟨⟨?_, ?_, ?_, ?_, ?_, ?_⟩, ?_, ?_, ?_, ?_, ?_⟩, fun i hi => ?_, fun c hc => ⟨fun w hw => ?_, fun w hw => ?_⟩, fun o ho => ⟨fun w hw h3 => ?_, ?_, ?_⟩, fun p hp => ⟨?_, fun w h1 hw => ?_, fun o ho => ?_⟩⟩
  · rw [fr _ _ (by omega), ne _ (by omega)]; exact q4
  · rw [fr _ _ (by omega), ne _ (by omega)]; exact q5
  · rw [fr _ _ (by omega), ne _ (by omega)]; exact q6
  · rw [fr _ _ (by omega), ne _ (by omega)]; exact q7
  · rw [fr _ _ (by omega), ne _ (by omega)]; exact q8
  · rw [fr _ _ (by omega), ne _ (by omega)]; exact q9
  · rw [fr _ _ (by omega), ne _ (by omega)]; exact q10
  · rw [fr _ _ (by omega), ep]; exact q11
  · rw [fr _ _ (by omega), ne _ (by omega)]; exact q12
  · rw [fr _ _ (by omega), ne _ (by omega)]; exact q13
  · rw [fr _ _ (by omega), ne _ (by omega)]; exact q14
  · rw [fr _ _ (by omega), ne _ (by omega)]; exact qs i hi
  · by_cases e : c = c0 ∧ w = w0
    · obtain ⟨rfl, rfl⟩ := e; rw [st_get, if_pos ⟨rfl, rfl⟩, setN_self]
    · rw [fr _ _ (by omega), ne _ (by omega)]; exact (qc c hc).1 w hw
  · rw [fr _ _ (by omega), en c w hc hw]; exact (qc c hc).2 w hw
  · rw [fr _ _ (by omega), ne _ (by omega)]; exact (qo o ho).1 w hw h3
  · rw [fr _ _ (by omega), ne _ (by omega)]; exact (qo o ho).2.1
  · rw [fr _ _ (by omega), e4, ne _ (by omega)]; exact (qo o ho).2.2
  · rw [fr _ _ (by omega), ne _ (by omega)]; exact (qp p hp).1
  · rw [fr _ _ (by omega), ne _ (by omega)]; exact (qp p hp).2.1 w h1 hw
  · rw [fr _ _ (by omega), ne _ (by omega)]; exact (qp p hp).2.2 o ho
theorem rs_org {v o0 w0 : Nat} (hr : RT 23 z μ) (hb : Bd z) (h0 : o0 < 5) (g0 : w0 < 7) (n0 : w0 ≠ 3) : RT 23 (setN z (56 + 7 * o0 + w0) v) (stI μ (48 + o0) (w0) (Int32.ofNat v)) := by
  have no := hb.no
  have ne : ∀ j, j ≠ 56 + 7 * o0 + w0 → setN z (56 + 7 * o0 + w0) v j = z j := fun j hj => setN_ne hj
  have e1 : setN z (56 + 7 * o0 + w0) v 1 = z 1 := ne 1 (by omega)
  have e4 : setN z (56 + 7 * o0 + w0) v 4 = z 4 := ne 4 (by omega)
  have en : ∀ c h, c < 10 → h < 10 → noted (setN z (56 + 7 * o0 + w0) v) c h = noted z c h := fun c h hc hh => by
    unfold noted
    rw [e1]
    exact up_congr _ (fun i hi x => by rw [ne _ (by omega), ne _ (by omega)])
  have ep : plyS (setN z (56 + 7 * o0 + w0) v) = plyS z := sum_congr _ (fun i hi => by rw [ne _ (by omega)])
  have fr : ∀ X Y, ¬ (X = 48 + o0 ∧ Y = w0) → mI (stI μ (48 + o0) (w0) (Int32.ofNat v)) X Y = mI μ X Y := fun X Y hq => by rw [st_get, if_neg hq]
  obtain ⟨⟨⟨q4, q5, q6, q7, q8, q9⟩, q10, q11, q12, q13, q14⟩, qs, qc, qo, qp⟩ := hr
  refine ⟨⟨⟨?_, ?_, ?_, ?_, ?_, ?_⟩, ?_, ?_, ?_, ?_, ?_⟩, fun i hi => ?_, fun c hc => ⟨fun w hw => ?_, fun w hw => ?_⟩, fun o ho => ⟨fun w hw h3 => ?_, ?_, ?_⟩, fun p hp => ⟨?_, fun w h1 hw => ?_, fun o ho => ?_⟩⟩
  · rw [fr _ _ (by omega), ne _ (by omega)]; exact q4
  · rw [fr _ _ (by omega), ne _ (by omega)]; exact q5
  · rw [fr _ _ (by omega), ne _ (by omega)]; exact q6
  · rw [fr _ _ (by omega), ne _ (by omega)]; exact q7
  · rw [fr _ _ (by omega), ne _ (by omega)]; exact q8
  · rw [fr _ _ (by omega), ne _ (by omega)]; exact q9
  · rw [fr _ _ (by omega), ne _ (by omega)]; exact q10
  · rw [fr _ _ (by omega), ep]; exact q11
  · rw [fr _ _ (by omega), ne _ (by omega)]; exact q12
  · rw [fr _ _ (by omega), ne _ (by omega)]; exact q13
  · rw [fr _ _ (by omega), ne _ (by omega)]; exact q14
  · rw [fr _ _ (by omega), ne _ (by omega)]; exact qs i hi
  · rw [fr _ _ (by omega), ne _ (by omega)]; exact (qc c hc).1 w hw
  · rw [fr _ _ (by omega), en c w hc hw]; exact (qc c hc).2 w hw
  · by_cases e : o = o0 ∧ w = w0
    · obtain ⟨rfl, rfl⟩ := e; rw [st_get, if_pos ⟨rfl, rfl⟩, setN_self]
    · rw [fr _ _ (by omega), ne _ (by omega)]; exact (qo o ho).1 w hw h3
  · rw [fr _ _ (by omega), ne _ (by omega)]; exact (qo o ho).2.1
  · rw [fr _ _ (by omega), e4, ne _ (by omega)]; exact (qo o ho).2.2
  · rw [fr _ _ (by omega), ne _ (by omega)]; exact (qp p hp).1
  · rw [fr _ _ (by omega), ne _ (by omega)]; exact (qp p hp).2.1 w h1 hw
  · rw [fr _ _ (by omega), ne _ (by omega)]; exact (qp p hp).2.2 o ho
theorem rs_ply {v p0 w0 : Nat} (hr : RT 23 z μ) (hb : Bd z) (h0 : p0 < 8) (f0 : 1 ≤ w0) (g0 : w0 < 4) : RT 23 (setN z (91 + 4 * p0 + w0) v) (stI μ (53 + 2 * p0) (w0) (Int32.ofNat v)) := by
  have no := hb.no
  have ne : ∀ j, j ≠ 91 + 4 * p0 + w0 → setN z (91 + 4 * p0 + w0) v j = z j := fun j hj => setN_ne hj
  have e1 : setN z (91 + 4 * p0 + w0) v 1 = z 1 := ne 1 (by omega)
  have e4 : setN z (91 + 4 * p0 + w0) v 4 = z 4 := ne 4 (by omega)
  have en : ∀ c h, c < 10 → h < 10 → noted (setN z (91 + 4 * p0 + w0) v) c h = noted z c h := fun c h hc hh => by
    unfold noted
    rw [e1]
    exact up_congr _ (fun i hi x => by rw [ne _ (by omega), ne _ (by omega)])
  have ep : plyS (setN z (91 + 4 * p0 + w0) v) = plyS z := sum_congr _ (fun i hi => by rw [ne _ (by omega)])
  have fr : ∀ X Y, ¬ (X = 53 + 2 * p0 ∧ Y = w0) → mI (stI μ (53 + 2 * p0) (w0) (Int32.ofNat v)) X Y = mI μ X Y := fun X Y hq => by rw [st_get, if_neg hq]
  obtain ⟨⟨⟨q4, q5, q6, q7, q8, q9⟩, q10, q11, q12, q13, q14⟩, qs, qc, qo, qp⟩ := hr
  refine ⟨⟨⟨?_, ?_, ?_, ?_, ?_, ?_⟩, ?_, ?_, ?_, ?_, ?_⟩, fun i hi => ?_, fun c hc => ⟨fun w hw => ?_, fun w hw => ?_⟩, fun o ho => ⟨fun w hw h3 => ?_, ?_, ?_⟩, fun p hp => ⟨?_, fun w h1 hw => ?_, fun o ho => ?_⟩⟩
  · rw [fr _ _ (by omega), ne _ (by omega)]; exact q4
  · rw [fr _ _ (by omega), ne _ (by omega)]; exact q5
  · rw [fr _ _ (by omega), ne _ (by omega)]; exact q6
  · rw [fr _ _ (by omega), ne _ (by omega)]; exact q7
  · rw [fr _ _ (by omega), ne _ (by omega)]; exact q8
  · rw [fr _ _ (by omega), ne _ (by omega)]; exact q9
  · rw [fr _ _ (by omega), ne _ (by omega)]; exact q10
  · rw [fr _ _ (by omega), ep]; exact q11
  · rw [fr _ _ (by omega), ne _ (by omega)]; exact q12
  · rw [fr _ _ (by omega), ne _ (by omega)]; exact q13
  · rw [fr _ _ (by omega), ne _ (by omega)]; exact q14
  · rw [fr _ _ (by omega), ne _ (by omega)]; exact qs i hi
  · rw [fr _ _ (by omega), ne _ (by omega)]; exact (qc c hc).1 w hw
  · rw [fr _ _ (by omega), en c w hc hw]; exact (qc c hc).2 w hw
  · rw [fr _ _ (by omega), ne _ (by omega)]; exact (qo o ho).1 w hw h3
  · rw [fr _ _ (by omega), ne _ (by omega)]; exact (qo o ho).2.1
  · rw [fr _ _ (by omega), e4, ne _ (by omega)]; exact (qo o ho).2.2
  · rw [fr _ _ (by omega), ne _ (by omega)]; exact (qp p hp).1
  · by_cases e : p = p0 ∧ w = w0
    · obtain ⟨rfl, rfl⟩ := e; rw [st_get, if_pos ⟨rfl, rfl⟩, setN_self]
    · rw [fr _ _ (by omega), ne _ (by omega)]; exact (qp p hp).2.1 w h1 hw
  · rw [fr _ _ (by omega), ne _ (by omega)]; exact (qp p hp).2.2 o ho
theorem rs_tim {v p0 o0 : Nat} (hr : RT 23 z μ) (hb : Bd z) (h0 : p0 < 8) (g0 : o0 < 5) : RT 23 (setN z (123 + 5 * p0 + o0) v) (stI μ (54 + 2 * p0) (o0) (Int32.ofNat v)) := by
  have no := hb.no
  have ne : ∀ j, j ≠ 123 + 5 * p0 + o0 → setN z (123 + 5 * p0 + o0) v j = z j := fun j hj => setN_ne hj
  have e1 : setN z (123 + 5 * p0 + o0) v 1 = z 1 := ne 1 (by omega)
  have e4 : setN z (123 + 5 * p0 + o0) v 4 = z 4 := ne 4 (by omega)
  have en : ∀ c h, c < 10 → h < 10 → noted (setN z (123 + 5 * p0 + o0) v) c h = noted z c h := fun c h hc hh => by
    unfold noted
    rw [e1]
    exact up_congr _ (fun i hi x => by rw [ne _ (by omega), ne _ (by omega)])
  have ep : plyS (setN z (123 + 5 * p0 + o0) v) = plyS z := sum_congr _ (fun i hi => by rw [ne _ (by omega)])
  have fr : ∀ X Y, ¬ (X = 54 + 2 * p0 ∧ Y = o0) → mI (stI μ (54 + 2 * p0) (o0) (Int32.ofNat v)) X Y = mI μ X Y := fun X Y hq => by rw [st_get, if_neg hq]
  obtain ⟨⟨⟨q4, q5, q6, q7, q8, q9⟩, q10, q11, q12, q13, q14⟩, qs, qc, qo, qp⟩ := hr
  refine ⟨⟨⟨?_, ?_, ?_, ?_, ?_, ?_⟩, ?_, ?_, ?_, ?_, ?_⟩, fun i hi => ?_, fun c hc => ⟨fun w hw => ?_, fun w hw => ?_⟩, fun o ho => ⟨fun w hw h3 => ?_, ?_, ?_⟩, fun p hp => ⟨?_, fun w h1 hw => ?_, fun o ho => ?_⟩⟩
  · rw [fr _ _ (by omega), ne _ (by omega)]; exact q4
  · rw [fr _ _ (by omega), ne _ (by omega)]; exact q5
  · rw [fr _ _ (by omega), ne _ (by omega)]; exact q6
  · rw [fr _ _ (by omega), ne _ (by omega)]; exact q7
  · rw [fr _ _ (by omega), ne _ (by omega)]; exact q8
  · rw [fr _ _ (by omega), ne _ (by omega)]; exact q9
  · rw [fr _ _ (by omega), ne _ (by omega)]; exact q10
  · rw [fr _ _ (by omega), ep]; exact q11
  · rw [fr _ _ (by omega), ne _ (by omega)]; exact q12
  · rw [fr _ _ (by omega), ne _ (by omega)]; exact q13
  · rw [fr _ _ (by omega), ne _ (by omega)]; exact q14
  · rw [fr _ _ (by omega), ne _ (by omega)]; exact qs i hi
  · rw [fr _ _ (by omega), ne _ (by omega)]; exact (qc c hc).1 w hw
  · rw [fr _ _ (by omega), en c w hc hw]; exact (qc c hc).2 w hw
  · rw [fr _ _ (by omega), ne _ (by omega)]; exact (qo o ho).1 w hw h3
  · rw [fr _ _ (by omega), ne _ (by omega)]; exact (qo o ho).2.1
  · rw [fr _ _ (by omega), e4, ne _ (by omega)]; exact (qo o ho).2.2
  · rw [fr _ _ (by omega), ne _ (by omega)]; exact (qp p hp).1
  · rw [fr _ _ (by omega), ne _ (by omega)]; exact (qp p hp).2.1 w h1 hw
  · by_cases e : p = p0 ∧ o = o0
    · obtain ⟨rfl, rfl⟩ := e; rw [st_get, if_pos ⟨rfl, rfl⟩, setN_self]
    · rw [fr _ _ (by omega), ne _ (by omega)]; exact (qp p hp).2.2 o ho
theorem rs_crw {v p0 : Nat} (hr : RT 23 z μ) (hb : Bd z) (h0 : p0 < 8) : RT 23 (setN z (91 + 4 * p0) v) (stI μ (53 + 2 * p0) (0) (pm v)) := by
  have no := hb.no
  have ne : ∀ j, j ≠ 91 + 4 * p0 → setN z (91 + 4 * p0) v j = z j := fun j hj => setN_ne hj
  have e1 : setN z (91 + 4 * p0) v 1 = z 1 := ne 1 (by omega)
  have e4 : setN z (91 + 4 * p0) v 4 = z 4 := ne 4 (by omega)
  have en : ∀ c h, c < 10 → h < 10 → noted (setN z (91 + 4 * p0) v) c h = noted z c h := fun c h hc hh => by
    unfold noted
    rw [e1]
    exact up_congr _ (fun i hi x => by rw [ne _ (by omega), ne _ (by omega)])
  have ep : plyS (setN z (91 + 4 * p0) v) = plyS z := sum_congr _ (fun i hi => by rw [ne _ (by omega)])
  have fr : ∀ X Y, ¬ (X = 53 + 2 * p0 ∧ Y = 0) → mI (stI μ (53 + 2 * p0) (0) (pm v)) X Y = mI μ X Y := fun X Y hq => by rw [st_get, if_neg hq]
  obtain ⟨⟨⟨q4, q5, q6, q7, q8, q9⟩, q10, q11, q12, q13, q14⟩, qs, qc, qo, qp⟩ := hr
  refine ⟨⟨⟨?_, ?_, ?_, ?_, ?_, ?_⟩, ?_, ?_, ?_, ?_, ?_⟩, fun i hi => ?_, fun c hc => ⟨fun w hw => ?_, fun w hw => ?_⟩, fun o ho => ⟨fun w hw h3 => ?_, ?_, ?_⟩, fun p hp => ⟨?_, fun w h1 hw => ?_, fun o ho => ?_⟩⟩
  · rw [fr _ _ (by omega), ne _ (by omega)]; exact q4
  · rw [fr _ _ (by omega), ne _ (by omega)]; exact q5
  · rw [fr _ _ (by omega), ne _ (by omega)]; exact q6
  · rw [fr _ _ (by omega), ne _ (by omega)]; exact q7
  · rw [fr _ _ (by omega), ne _ (by omega)]; exact q8
  · rw [fr _ _ (by omega), ne _ (by omega)]; exact q9
  · rw [fr _ _ (by omega), ne _ (by omega)]; exact q10
  · rw [fr _ _ (by omega), ep]; exact q11
  · rw [fr _ _ (by omega), ne _ (by omega)]; exact q12
  · rw [fr _ _ (by omega), ne _ (by omega)]; exact q13
  · rw [fr _ _ (by omega), ne _ (by omega)]; exact q14
  · rw [fr _ _ (by omega), ne _ (by omega)]; exact qs i hi
  · rw [fr _ _ (by omega), ne _ (by omega)]; exact (qc c hc).1 w hw
  · rw [fr _ _ (by omega), en c w hc hw]; exact (qc c hc).2 w hw
  · rw [fr _ _ (by omega), ne _ (by omega)]; exact (qo o ho).1 w hw h3
  · rw [fr _ _ (by omega), ne _ (by omega)]; exact (qo o ho).2.1
  · rw [fr _ _ (by omega), e4, ne _ (by omega)]; exact (qo o ho).2.2
  · by_cases e : p = p0
    · subst e; rw [st_get, if_pos ⟨rfl, rfl⟩, setN_self]
    · rw [fr _ _ (by omega), ne _ (by omega)]; exact (qp p hp).1
  · rw [fr _ _ (by omega), ne _ (by omega)]; exact (qp p hp).2.1 w h1 hw
  · rw [fr _ _ (by omega), ne _ (by omega)]; exact (qp p hp).2.2 o ho
/-- nothing played today -/
def t0 (z : Nat → Nat) : Prop := ∀ o, o < 5 → ∀ h, h < 10 → z (163 + 10 * o + h) = 0
theorem noted0 {c h : Nat} (hn : z 1 ≤ 5) (ht : t0 z) (hh : h < 10) : noted z c h = 0 := by
  refine Nat.eq_of_testBit_eq fun t => ?_
  rw [Nat.zero_testBit]
  cases e : (noted z c h).testBit t with
  | false => rfl
  | true =>
    obtain ⟨o, h1, h2, h3⟩ := noted_bit.mp e
    rw [ht o (by omega) h hh] at h3
    have h4 : (0 : Nat).testBit t = true := h3
    rw [Nat.zero_testBit] at h4
    cases h4
theorem rs_at {v o0 : Nat} (hr : RT 23 z μ) (hb : Bd z) (ht0 : t0 z) (h0 : o0 < 5) : RT 23 (setN z (56 + 7 * o0 + 3) v) (stI μ (48 + o0) (3) (pm v)) := by
  have no := hb.no
  have ne : ∀ j, j ≠ 56 + 7 * o0 + 3 → setN z (56 + 7 * o0 + 3) v j = z j := fun j hj => setN_ne hj
  have e1 : setN z (56 + 7 * o0 + 3) v 1 = z 1 := ne 1 (by omega)
  have e4 : setN z (56 + 7 * o0 + 3) v 4 = z 4 := ne 4 (by omega)
  have ht0' : t0 (setN z (56 + 7 * o0 + 3) v) := fun o ho h hh => by rw [ne _ (by omega)]; exact ht0 o ho h hh
  have en : ∀ c h, c < 10 → h < 10 → noted (setN z (56 + 7 * o0 + 3) v) c h = noted z c h := fun c h hc hh => by rw [noted0 hb.no ht0 hh, noted0 (by rw [e1]; exact hb.no) ht0' hh]
  have ep : plyS (setN z (56 + 7 * o0 + 3) v) = plyS z := sum_congr _ (fun i hi => by rw [ne _ (by omega)])
  have fr : ∀ X Y, ¬ (X = 48 + o0 ∧ Y = 3) → mI (stI μ (48 + o0) (3) (pm v)) X Y = mI μ X Y := fun X Y hq => by rw [st_get, if_neg hq]
  obtain ⟨⟨⟨q4, q5, q6, q7, q8, q9⟩, q10, q11, q12, q13, q14⟩, qs, qc, qo, qp⟩ := hr
  refine ⟨⟨⟨?_, ?_, ?_, ?_, ?_, ?_⟩, ?_, ?_, ?_, ?_, ?_⟩, fun i hi => ?_, fun c hc => ⟨fun w hw => ?_, fun w hw => ?_⟩, fun o ho => ⟨fun w hw h3 => ?_, ?_, ?_⟩, fun p hp => ⟨?_, fun w h1 hw => ?_, fun o ho => ?_⟩⟩
  · rw [fr _ _ (by omega), ne _ (by omega)]; exact q4
  · rw [fr _ _ (by omega), ne _ (by omega)]; exact q5
  · rw [fr _ _ (by omega), ne _ (by omega)]; exact q6
  · rw [fr _ _ (by omega), ne _ (by omega)]; exact q7
  · rw [fr _ _ (by omega), ne _ (by omega)]; exact q8
  · rw [fr _ _ (by omega), ne _ (by omega)]; exact q9
  · rw [fr _ _ (by omega), ne _ (by omega)]; exact q10
  · rw [fr _ _ (by omega), ep]; exact q11
  · rw [fr _ _ (by omega), ne _ (by omega)]; exact q12
  · rw [fr _ _ (by omega), ne _ (by omega)]; exact q13
  · rw [fr _ _ (by omega), ne _ (by omega)]; exact q14
  · rw [fr _ _ (by omega), ne _ (by omega)]; exact qs i hi
  · rw [fr _ _ (by omega), ne _ (by omega)]; exact (qc c hc).1 w hw
  · rw [fr _ _ (by omega), en c w hc hw]; exact (qc c hc).2 w hw
  · rw [fr _ _ (by omega), ne _ (by omega)]; exact (qo o ho).1 w hw h3
  · by_cases e : o = o0
    · subst e; rw [st_get, if_pos ⟨rfl, rfl⟩, setN_self]
    · rw [fr _ _ (by omega), ne _ (by omega)]; exact (qo o ho).2.1
  · rw [fr _ _ (by omega), e4, ne _ (by omega)]; exact (qo o ho).2.2
  · rw [fr _ _ (by omega), ne _ (by omega)]; exact (qp p hp).1
  · rw [fr _ _ (by omega), ne _ (by omega)]; exact (qp p hp).2.1 w h1 hw
  · rw [fr _ _ (by omega), ne _ (by omega)]; exact (qp p hp).2.2 o ho
/-- a value that fits -/
def okV (z : Nat → Nat) (k v : Nat) : Prop :=
  (k = 0 → z 0 ≤ v ∧ v ≤ 10) ∧ (k = 1 → z 1 ≤ v ∧ v ≤ 5) ∧ (k = 2 → v ≤ 8) ∧ (k = 4 → v ≤ 9) ∧ (k = 5 → v ≤ 1) ∧ (k = 11 → v ≤ 99) ∧ (k = 12 → v ≤ 9) ∧ (k = 13 → v ≤ 50) ∧ (k = 14 → v ≤ 100) ∧ (k = 15 → v ≤ 50) ∧
  (16 ≤ k → k < 56 → ((k - 16) % 4 = 0 → v ≤ 99) ∧ ((k - 16) % 4 = 1 → v ≤ 90) ∧ (2 ≤ (k - 16) % 4 → v ≤ 9)) ∧
  (56 ≤ k → k < 91 → ((k - 56) % 7 = 0 → v ≤ 50) ∧ ((k - 56) % 7 = 1 → v ≤ 1) ∧ ((k - 56) % 7 = 2 → v ≤ 1023) ∧ ((k - 56) % 7 = 3 → v ≤ z 0)) ∧
  (91 ≤ k → k < 123 → (k - 91) % 4 = 0 → v ≤ z 1) ∧ (123 ≤ k → k < 213 → v ≤ 10) ∧ v < 2147483648
theorem okV.a0 {k v : Nat} (h : okV z k v) : k = 0 → z 0 ≤ v ∧ v ≤ 10 := h.1
theorem okV.a1 {k v : Nat} (h : okV z k v) : k = 1 → z 1 ≤ v ∧ v ≤ 5 := h.2.1
theorem okV.a2 {k v : Nat} (h : okV z k v) : k = 2 → v ≤ 8 := h.2.2.1
theorem okV.a4 {k v : Nat} (h : okV z k v) : k = 4 → v ≤ 9 := h.2.2.2.1
theorem okV.a5 {k v : Nat} (h : okV z k v) : k = 5 → v ≤ 1 := h.2.2.2.2.1
theorem okV.a11 {k v : Nat} (h : okV z k v) : k = 11 → v ≤ 99 := h.2.2.2.2.2.1
theorem okV.a12 {k v : Nat} (h : okV z k v) : k = 12 → v ≤ 9 := h.2.2.2.2.2.2.1
theorem okV.a13 {k v : Nat} (h : okV z k v) : k = 13 → v ≤ 50 := h.2.2.2.2.2.2.2.1
theorem okV.a14 {k v : Nat} (h : okV z k v) : k = 14 → v ≤ 100 := h.2.2.2.2.2.2.2.2.1
theorem okV.a15 {k v : Nat} (h : okV z k v) : k = 15 → v ≤ 50 := h.2.2.2.2.2.2.2.2.2.1
theorem okV.ac {k v : Nat} (h : okV z k v) : 16 ≤ k → k < 56 → ((k - 16) % 4 = 0 → v ≤ 99) ∧ ((k - 16) % 4 = 1 → v ≤ 90) ∧ (2 ≤ (k - 16) % 4 → v ≤ 9) := h.2.2.2.2.2.2.2.2.2.2.1
theorem okV.ao {k v : Nat} (h : okV z k v) : 56 ≤ k → k < 91 → ((k - 56) % 7 = 0 → v ≤ 50) ∧ ((k - 56) % 7 = 1 → v ≤ 1) ∧ ((k - 56) % 7 = 2 → v ≤ 1023) ∧ ((k - 56) % 7 = 3 → v ≤ z 0) := h.2.2.2.2.2.2.2.2.2.2.2.1
theorem okV.ap {k v : Nat} (h : okV z k v) : 91 ≤ k → k < 123 → (k - 91) % 4 = 0 → v ≤ z 1 := h.2.2.2.2.2.2.2.2.2.2.2.2.1
theorem okV.at {k v : Nat} (h : okV z k v) : 123 ≤ k → k < 213 → v ≤ 10 := h.2.2.2.2.2.2.2.2.2.2.2.2.2.1
theorem okV.big {k v : Nat} (h : okV z k v) : v < 2147483648 := h.2.2.2.2.2.2.2.2.2.2.2.2.2.2
theorem set_key {k v : Nat} (j : Nat) : (j = k ∧ setN z k v j = v) ∨ (j ≠ k ∧ setN z k v j = z j) := by
  by_cases e : j = k
  · exact Or.inl ⟨e, by rw [e, setN_self]⟩
  · exact Or.inr ⟨e, setN_ne e⟩
theorem Bd.set {k v : Nat} (hb : Bd z) (hv : okV z k v) : Bd (setN z k v) := by
  have hb9 := hv.big
  have g0 : z 0 ≤ setN z k v 0 := by
    rcases set_key (z := z) (k := k) (v := v) 0 with ⟨k1, k9⟩ | ⟨_, k9⟩ <;> rw [k9]
    · exact (hv.a0 k1.symm).1
    · exact Nat.le_refl _
  have g1 : z 1 ≤ setN z k v 1 := by
    rcases set_key (z := z) (k := k) (v := v) 1 with ⟨k1, k9⟩ | ⟨_, k9⟩ <;> rw [k9]
    · exact (hv.a1 k1.symm).1
    · exact Nat.le_refl _
  refine ⟨?_, ?_, ?_, ?_, ?_, ?_, ?_, ?_, ?_, ?_, fun c hc => ?_, fun o ho => ?_, fun p hp => ?_, fun p hp o ho => ?_, fun o ho h hh => ?_, fun j hj => ?_⟩
  · rcases set_key (z := z) (k := k) (v := v) 0 with ⟨k1, k9⟩ | ⟨_, k9⟩ <;> rw [k9]
    · exact (hv.a0 k1.symm).2
    · exact hb.nc
  · rcases set_key (z := z) (k := k) (v := v) 1 with ⟨k1, k9⟩ | ⟨_, k9⟩ <;> rw [k9]
    · exact (hv.a1 k1.symm).2
    · exact hb.no
  · rcases set_key (z := z) (k := k) (v := v) 2 with ⟨k1, k9⟩ | ⟨_, k9⟩ <;> rw [k9]
    · exact hv.a2 k1.symm
    · exact hb.np
  · rcases set_key (z := z) (k := k) (v := v) 4 with ⟨k1, k9⟩ | ⟨_, k9⟩ <;> rw [k9]
    · exact hv.a4 k1.symm
    · exact hb.hr
  · rcases set_key (z := z) (k := k) (v := v) 5 with ⟨k1, k9⟩ | ⟨_, k9⟩ <;> rw [k9]
    · exact hv.a5 k1.symm
    · exact hb.wt
  · rcases set_key (z := z) (k := k) (v := v) 11 with ⟨k1, k9⟩ | ⟨_, k9⟩ <;> rw [k9]
    · exact hv.a11 k1.symm
    · exact hb.s0
  · rcases set_key (z := z) (k := k) (v := v) 12 with ⟨k1, k9⟩ | ⟨_, k9⟩ <;> rw [k9]
    · exact hv.a12 k1.symm
    · exact hb.s1
  · rcases set_key (z := z) (k := k) (v := v) 13 with ⟨k1, k9⟩ | ⟨_, k9⟩ <;> rw [k9]
    · exact hv.a13 k1.symm
    · exact hb.s2
  · rcases set_key (z := z) (k := k) (v := v) 14 with ⟨k1, k9⟩ | ⟨_, k9⟩ <;> rw [k9]
    · exact hv.a14 k1.symm
    · exact hb.s3
  · rcases set_key (z := z) (k := k) (v := v) 15 with ⟨k1, k9⟩ | ⟨_, k9⟩ <;> rw [k9]
    · exact hv.a15 k1.symm
    · exact hb.s4
  · have c9 := hb.cor c hc
    refine ⟨?_, ?_, ?_, ?_⟩
    · rcases set_key (z := z) (k := k) (v := v) (16 + 4 * c) with ⟨k1, k9⟩ | ⟨_, k9⟩ <;> rw [k9]
      · exact (hv.ac (by omega) (by omega)).1 (by omega)
      · exact c9.1
    · rcases set_key (z := z) (k := k) (v := v) (16 + 4 * c + 1) with ⟨k1, k9⟩ | ⟨_, k9⟩ <;> rw [k9]
      · exact (hv.ac (by omega) (by omega)).2.1 (by omega)
      · exact c9.2.1
    · rcases set_key (z := z) (k := k) (v := v) (16 + 4 * c + 2) with ⟨k1, k9⟩ | ⟨_, k9⟩ <;> rw [k9]
      · exact (hv.ac (by omega) (by omega)).2.2 (by omega)
      · exact c9.2.2.1
    · rcases set_key (z := z) (k := k) (v := v) (16 + 4 * c + 3) with ⟨k1, k9⟩ | ⟨_, k9⟩ <;> rw [k9]
      · exact (hv.ac (by omega) (by omega)).2.2 (by omega)
      · exact c9.2.2.2
  · have c9 := hb.org o ho
    refine ⟨?_, ?_, ?_, ?_⟩
    · rcases set_key (z := z) (k := k) (v := v) (56 + 7 * o) with ⟨k1, k9⟩ | ⟨_, k9⟩ <;> rw [k9]
      · exact (hv.ao (by omega) (by omega)).1 (by omega)
      · exact c9.1
    · rcases set_key (z := z) (k := k) (v := v) (56 + 7 * o + 1) with ⟨k1, k9⟩ | ⟨_, k9⟩ <;> rw [k9]
      · exact (hv.ao (by omega) (by omega)).2.1 (by omega)
      · exact c9.2.1
    · rcases set_key (z := z) (k := k) (v := v) (56 + 7 * o + 2) with ⟨k1, k9⟩ | ⟨_, k9⟩ <;> rw [k9]
      · exact (hv.ao (by omega) (by omega)).2.2.1 (by omega)
      · exact c9.2.2.1
    · rcases set_key (z := z) (k := k) (v := v) (56 + 7 * o + 3) with ⟨k1, k9⟩ | ⟨_, k9⟩ <;> rw [k9]
      · exact Nat.le_trans ((hv.ao (by omega) (by omega)).2.2.2 (by omega)) g0
      · exact Nat.le_trans c9.2.2.2 g0
  · rcases set_key (z := z) (k := k) (v := v) (91 + 4 * p) with ⟨k1, k9⟩ | ⟨_, k9⟩ <;> rw [k9]
    · exact Nat.le_trans (hv.ap (by omega) (by omega) (by omega)) g1
    · exact Nat.le_trans (hb.crw p hp) g1
  · rcases set_key (z := z) (k := k) (v := v) (123 + 5 * p + o) with ⟨k1, k9⟩ | ⟨_, k9⟩ <;> rw [k9]
    · exact hv.at (by omega) (by omega)
    · exact hb.tim p hp o ho
  · rcases set_key (z := z) (k := k) (v := v) (163 + 10 * o + h) with ⟨k1, k9⟩ | ⟨_, k9⟩ <;> rw [k9]
    · exact hv.at (by omega) (by omega)
    · exact hb.tun o ho h hh
  · rcases set_key (z := z) (k := k) (v := v) j with ⟨k1, k9⟩ | ⟨_, k9⟩ <;> rw [k9]
    · exact hb9
    · exact hb.big j hj
/-- the numbers that are bounded alone, and the corners -/
theorem Okz.setA {N : Nat} {z' : Nat → Nat} (hk : Okz N z) (hb' : Bd z') (hpl' : Pl z') (hdj' : Dj z') (hs : ∀ j, (j = 1 ∨ j = 2 ∨ j = 3 ∨ j = 4 ∨ (7 ≤ j ∧ j ≤ 10) ∨ (56 ≤ j ∧ j < 91 ∧ 4 ≤ (j - 56) % 7) ∨ (91 ≤ j ∧ j < 123 ∧ 1 ≤ (j - 91) % 4) ∨ (123 ≤ j ∧ j < 213)) → z' j = z j)
    (ho : ∀ o, z 1 ≤ o → o < 5 → ∀ w, w < 4 → z' (56 + 7 * o + w) = 0) (hp : ∀ p, z 2 ≤ p → p < 8 → z' (91 + 4 * p) = 0) : Okz N z' := by
  obtain ⟨hb, hpl, hdj, ht, hfu, hor, hpy, htm, hpt, hph, hcs, a, b, c, d, e⟩ := hk
  have n1 := hb.no
  have n2 := hb.np
  have e1 : z' 1 = z 1 := hs 1 (by decide)
  have e2 : z' 2 = z 2 := hs 2 (by decide)
  have e4 : z' 4 = z 4 := hs 4 (by decide)
  have eo : ∀ w, 4 ≤ w → w < 7 → orgS z' w = orgS z w := fun w h1 h2 => by
    unfold orgS
    rw [e1]
    exact sum_congr _ (fun i hi => hs _ (by omega))
  have ec : ∀ o, o < 5 → cntT z' o = cntT z o := fun o ho => sum_congr _ (fun i hi => by rw [hs _ (by omega)])
  have eg : gotS z' = gotS z := by
    unfold gotS
    rw [e2]
    exact sum_congr _ (fun i hi => hs _ (by omega))
  refine ⟨hb', hpl', hdj', ?_, fun o ho h h1 h2 => ?_, fun o h1 h2 => ⟨fun w hw => ?_, fun h hh => ?_⟩, fun p h1 h2 => ⟨fun w hw => ?_, fun o ho => ?_⟩, fun p hp o ho => ?_, fun o ho => ?_, fun o ho q => ?_, ?_, ?_, ?_, ?_, fun p hp => ?_, fun p hp => ?_⟩
  · rw [eo _ (by decide) (by decide), hs _ (by decide)]; exact ht
  · rw [e4] at h1
    rw [hs _ (by omega)]
    exact hfu o ho h h1 h2
  · rw [e1] at h1
    by_cases w3 : w < 4
    · exact ho o h1 h2 w w3
    · rw [hs _ (by omega)]
      exact (hor o h1 h2).1 w hw
  · rw [e1] at h1
    rw [hs _ (by omega)]
    exact (hor o h1 h2).2 h hh
  · rw [e2] at h1
    by_cases w0 : w = 0
    · subst w0; exact hp p h1 h2
    · rw [hs _ (by omega)]
      exact (hpy p h1 h2).1 w hw
  · rw [e2] at h1
    rw [hs _ (by omega)]
    exact (hpy p h1 h2).2 o ho
  · rw [hs _ (by omega), ec o ho]; exact htm p hp o ho
  · rw [hs _ (by omega), ec o ho]; exact hpt o ho
  · rw [hs _ (by omega)] at q
    obtain ⟨p, h1, h2⟩ := hph o ho q
    exact ⟨p, h1, by rw [hs _ (by omega)]; exact h2⟩
  · rw [eg, eo _ (by decide) (by decide), eo _ (by decide) (by decide), hs _ (by decide), hs _ (by decide), hs _ (by decide)]; exact hcs
  · rw [hs _ (by decide)]; omega
  · rw [hs _ (by decide)]; omega
  · rw [hs _ (by decide)]; omega
  · rw [hs _ (by omega)]; exact Nat.le_trans (d p hp) (by omega)
  · rw [hs _ (by omega), hs _ (by omega)]; exact e p hp
theorem Okz.setB {N : Nat} {z' : Nat → Nat} (hk : Okz N z) (hb' : Bd z') (hs : ∀ j, (j = 1 ∨ j = 2 ∨ j = 3 ∨ j = 4 ∨ (7 ≤ j ∧ j ≤ 10) ∨ (56 ≤ j ∧ j < 91 ∧ 3 ≤ (j - 56) % 7) ∨ (91 ≤ j ∧ j < 123 ∧ 1 ≤ (j - 91) % 4) ∨ (123 ≤ j ∧ j < 213)) → z' j = z j)
    (ho : ∀ o, z 1 ≤ o → o < 5 → ∀ w, w < 3 → z' (56 + 7 * o + w) = 0) (hp : ∀ p, z 2 ≤ p → p < 8 → z' (91 + 4 * p) = 0) : Okz N z' := by
  refine hk.setA hb' (fun o ho h hh q => ?_) (fun o x ho hx q r => ?_) (fun j hj => hs j (by omega)) (fun o h1 h2 w hw => ?_) hp
  · rw [hs _ (by omega)] at q ⊢
    exact hk.2.1 o ho h hh q
  · rw [hs _ (by omega)] at q r
    rw [hs _ (by omega)] at r
    exact hk.2.2.1 o x ho hx q r
  · by_cases w3 : w < 3
    · exact ho o h1 h2 w w3
    · rw [hs _ (by omega)]
      exact (hk.2.2.2.2.2.1 o h1 h2).1 w (by omega)
end RS
