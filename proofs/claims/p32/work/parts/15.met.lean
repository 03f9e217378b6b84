/-! CALLS AND ENDS: a run of the pure interpreter is a run of the machine -/
section MET
variable {p : Program} {l : Launch} {e : Env} {R : Room} {s : State} {m : MethodId} {args : Array Value} {below : List Frame} {meth : Method} {c : Code} {H H0 : Heap} {locs : List Loc} {cells slots : Nat} {Q : State → Prop} {nL : Nat}
variable {N0 : Nat} {L : Nat → Nat} {D : va_G} {cA : Nat → ClassId} {pc pc' : Nat} {ls : Array Slot} {pl pl' st st' : List Value} {μ μ' μ0 : PM} {n : Nat} {M : MI}
/-- where things lie: apart; arrays made on the way one behind another, behind the last that was there -/
def LD (N0 : Nat) (L : Nat → Nat) : Prop := (∀ i j, Fx i → Fx j → L i = L j → i = j) ∧ (∀ i, Fx i → N0 ≤ L i) ∧ (∀ i, L (430 + i) = L 430 + i) ∧ L 18 + 1 = L 430
theorem WS_D (h : LD N0 L) : va_D (jA N0) (WS L cA μ) := by
  refine ⟨fun i j x y hx hy hxy => ?_, fun k q hq => ?_⟩
  · obtain ⟨h1, rfl⟩ := WS_inv hx
    obtain ⟨h2, rfl⟩ := WS_inv hy
    exact nm_inj (h.1 _ _ h1.fx h2.fx hxy)
  · obtain ⟨h1, rfl⟩ := WS_inv hq
    exact h.2.1 _ h1.fx
def Wd (N0 : Nat) (L : Nat → Nat) (D : va_G) (cA : Nat → ClassId) (μ : PM) : State → Prop := fun U =>
  va_P D vwCl (WS L cA μ) U.heap ∧ va_K D vwCl (tyL cA) U ∧ SF L (jA N0) U U.heap ∧ va_X (L 390) μ.2.2.1 (mI μ 390) U U.heap ∧ U.heap.size ≤ L 430 + μ.2.2.2
theorem Wd.call {U : State} {g : JFrame} {mk : MethodId} {a : Array Value} (h : Wd N0 L D cA μ U) : Wd N0 L D cA μ (U.calling g mk a) :=
  ⟨h.1, va_K.moved (u := U) (U := U.calling g mk a) (Vm.Alike.refl U.vm) h.2.1, SF.call h.2.2.1, va_X.moved (u := U) (U := U.calling g mk a) (Vm.Alike.refl U.vm) h.2.2.2.1, h.2.2.2.2⟩
def QO (N0 : Nat) (L : Nat → Nat) (D : va_G) (cA : Nat → ClassId) (o : PO) : Array Value → State → Outcome → State → Prop := fun _ st oc t => (∃ v, o.1 = .inl v ∧ oc = .returned (v.map (lf L)) ∧ va_P D vwCl (WS L cA o.2) t.heap) ∧ va_F (jA N0) st t
def XO (N0 : Nat) (L : Nat → Nat) (D : va_G) (cA : Nat → ClassId) (o : PO) : String → State → State → Prop := fun E st t => (∃ k, o.1 = .inr k ∧ E = exn k ∧ va_P D vwCl (WS L cA o.2) t.heap) ∧ va_F (jA N0) st t
def rmL (lv d : Nat) : Room := { frames := 12 + lv, cells := d, slots := 30 * d, locals := 260 + 60 * lv }
abbrev MetO (l : Launch) (N0 : Nat) (L : Nat → Nat) (D : va_G) (cA : Nat → ClassId) (n lv : Nat) (as : List Value) (μ : PM) (o : PO) : Prop :=
  vx_Met l (yN n) (cwN n :: lwG) (rmL lv (o.2.2.2.2 - μ.2.2.2)) (va_Pc (as.map (lf L)) (Wd N0 L D cA μ)) (QO N0 L D cA o) (XO N0 L D cA o) (o.2.2.2.2 - μ.2.2.2) (30 * (o.2.2.2.2 - μ.2.2.2)) (jA N0)
/-- behind a call -/
theorem sim_call {o : PO} {a : Array Value} {st0 rest : List Value} {mc ms : Nat} (hr : vx_Run p l e R s m args below meth c H locs cells slots mc ms (F0 m pc ls st0) rest (QO N0 L D cA o a) (XO N0 L D cA o) (jA N0)) (hS : va_S (jA N0) s.heap H locs)
    (kI : ∀ (v : Option Value) (H1 : Heap) (locs1 : List Loc), o.1 = .inl v → va_P D vwCl (WS L cA o.2) H1 → va_S (jA N0) s.heap H1 locs1 → W p l e R s m args below meth c H1 locs1 (cells + mc) (slots + ms) Q (F0 m (pc + 3) ls ((v.map (lf L)).toList ++ rest)))
    (kX : ∀ (k : Nat) (H1 : Heap) (locs1 : List Loc) (q : Addr) (ce : Cell), o.1 = .inr k → va_P D vwCl (WS L cA o.2) H1 → va_S (jA N0) s.heap H1 locs1 → H1[q]? = some ce → ce.vm = .none → s.vm.findClass (exn k) = some ce.cls → vx_W p l e R s m args below meth c H1 locs1 (cells + mc) (slots + ms) Q (F0 m pc ls rest) q) :
    W p l e R s m args below meth c H locs cells slots Q (F0 m pc ls st0) := by
  intro T hT X
  rcases hr T hT X with ⟨v', st₀, t, T', L9, h0, X', hL, e1, e2, ⟨⟨v, ho, hv, hP⟩, hF⟩, st⟩ | ⟨q, st₀, t, T', L9, E, ce, h0, X', hL, e1, e2, ⟨⟨k, ho, hE, hP⟩, hF⟩, hc1, hc2, hc3, st⟩
  · obtain ⟨hz, hk, hS1⟩ := vx_keep (free := jA N0) h0 e1 hS (fun q _ h => h) (fun q h => h) hL hF
    cases hv
    obtain ⟨t2, a1, b1⟩ := kI v T'.heap (locs ++ L9) ho (by rw [e1]; exact hP) hS1 T' rfl X'
    exact ⟨t2, st t2 a1, b1⟩
  · obtain ⟨hz, hk, hS1⟩ := vx_keep (free := jA N0) h0 e1 hS (fun q _ h => h) (fun q h => h) hL hF
    subst hE
    obtain ⟨t2, a1, b1⟩ := kX k T'.heap (locs ++ L9) q ce ho (by rw [e1]; exact hP) hS1 (by rw [e1]; exact hc1) hc2 hc3 T' rfl X'
    exact ⟨t2, st.trans a1, b1⟩
theorem ivV_call {pl : Nat → Ent} {ix : Nat} {ls st as ls' st' : List Value} {d : Nat} (h : ivV pl pc ix ls st μ = some (.inr (.inl (d, as, pc', ls', st', μ')))) :
    ∃ na ci k, pl ix = (4, d, na, .ref ci) ∧ st[na - 1]? = some (.ref k) ∧ catS st' ≤ 8 ∧ cls k = ci ∧ as = (st.take na).reverse ∧ pc = pc' ∧ ls = ls' ∧ st' = st.drop na ∧ μ = μ' := by
  unfold ivV at h
  split at h
  · rename_i n na ci he
    split at h
    · rename_i k hk
      cases hq : Nat.ble (catS (st.drop na)) 8 <;> rw [hq] at h
      · cases h
      · simp only [cond_true] at h
        split at h
        · rename_i hc
          cases h
          exact ⟨na, ci, k, he, hk, Nat.ble_eq.mp hq, hc, rfl, rfl, rfl, rfl, rfl⟩
        · cases h
    · cases h
  · rename_i id _ _ _
    cases hq : Nat.ble 5 id <;> rw [hq] at h
    · cases h
    · exact (jdk_no h).elim
  · cases h
theorem ivS_call {pl : Nat → Ent} {ix : Nat} {ls st as ls' st' : List Value} {d : Nat} (h : ivS pl pc ix ls st μ = some (.inr (.inl (d, as, pc', ls', st', μ')))) :
    ∃ tg na z, (tg = 9 ∨ tg = 10) ∧ pl ix = (tg, d, na, z) ∧ na ≤ st.length ∧ catS st' ≤ 8 ∧ as = (st.take na).reverse ∧ pc = pc' ∧ ls = ls' ∧ st' = st.drop na ∧ μ = μ' := by
  unfold ivS at h
  split at h
  · rename_i n na z he
    cases hq : Nat.ble na st.length && Nat.ble (catS (st.drop na)) 8 <;> rw [hq] at h
    · cases h
    · rw [Bool.and_eq_true] at hq
      cases h
      exact ⟨9, na, z, Or.inl rfl, he, Nat.ble_eq.mp hq.1, Nat.ble_eq.mp hq.2, rfl, rfl, rfl, rfl, rfl⟩
  · rename_i n na z he
    cases hq : Nat.ble na st.length && Nat.ble (catS (st.drop na)) 8 <;> rw [hq] at h
    · cases h
    · rw [Bool.and_eq_true] at hq
      cases h
      exact ⟨10, na, z, Or.inr rfl, he, Nat.ble_eq.mp hq.1, Nat.ble_eq.mp hq.2, rfl, rfl, rfl, rfl, rfl⟩
  · rename_i id _ _ _
    cases hq : Nat.blt id 5 <;> rw [hq] at h
    · cases h
    · exact (jdk_no h).elim
  · cases h
theorem mxl_le : ∀ n, mxl n ≤ 20 := by
  intro n
  have key : (mtabs.all fun b => b.all fun M => Nat.ble M.2.2.2.1 20) = true := by decide +kernel
  unfold mxl
  cases h : mtab n with
  | none => exact Nat.zero_le _
  | some M =>
    show M.2.2.2.1 ≤ 20
    unfold mtab at h
    have h1 : M ∈ mtabs.getD (n / 16) [] := List.mem_of_getElem? h
    by_cases hq : n / 16 < mtabs.length
    · rw [List.getD_eq_getElem?_getD, List.getElem?_eq_getElem hq] at h1
      exact Nat.ble_eq.mp (List.all_eq_true.mp (List.all_eq_true.mp key _ (List.getElem_mem hq)) _ h1)
    · rw [List.getD_eq_getElem?_getD, List.getElem?_eq_none (Nat.le_of_not_lt hq)] at h1
      exact absurd h1 List.not_mem_nil
theorem cwN_code {d : Nat} {Md : MI} (h : mtab d = some Md) (ht : (mrec d).2.2.2.isEmpty = true) : cwN d = Cond.code (yN d) (mrec d).2.1 (mxl d) (mrec d).2.2.1 := by
  unfold cwN mxl
  rw [h]
  show cw_ Md (mrec d) = _
  unfold cw_
  rw [ht]; rfl
theorem cwN_with {d : Nat} {Md : MI} (h : mtab d = some Md) (ht : (mrec d).2.2.2.isEmpty = false) : cwN d = Cond.codeWith (yN d) (mrec d).2.1 (mxl d) (mrec d).2.2.1 (mrec d).2.2.2 := by
  unfold cwN mxl
  rw [h]
  show cw_ Md (mrec d) = _
  unfold cw_
  rw [ht]; rfl
theorem cw_in {d : Nat} (h : cwN d ∈ lwG) : GoodIn lwG (cwN d :: lwG) := lwG_in fun w hw => by
  rcases List.mem_cons.mp hw with rfl | h1
  · exact h
  · exact h1
theorem Wd.pre {U : State} (hK : va_K D vwCl (tyL cA) s) (hF : SF L (jA N0) s s.heap) (hX : va_X (L 390) μ.2.2.1 (mI μ 390) s s.heap) (hXN : L 390 < N0) (hP : va_P D vwCl (WS L cA μ) H) (hS : va_S (jA N0) s.heap H locs) (hz : H.size ≤ L 430 + μ.2.2.2) (hU : U.heap = H) (hW : s.WarmedH U.vm) : Wd N0 L D cA μ U := by
  refine ⟨by rw [hU]; exact hP, va_K.moved hW.alike hK, hF.at hS hU hW, ?_, by rw [hU]; exact hz⟩
  rw [hU]
  refine (va_X.moved hW.alike hX).kept (hS.2.1 _ ?_ (Nat.not_le.mpr hXN))
  obtain ⟨scr, h1, -⟩ := hX
  exact (Array.getElem?_eq_some_iff.mp h1).1
theorem map_rev {as st : List Value} {na : Nat} (h : as = (st.take na).reverse) : st.map (lf L) = (as.map (lf L)).reverse ++ (st.drop na).map (lf L) := by
  rw [h, List.map_reverse, List.reverse_reverse, ← List.map_append, List.take_append_drop]
theorem as_cons {as st : List Value} {na k : Nat} (h : as = (st.take na).reverse) (h0 : 0 < na) (hk : st[na - 1]? = some (.ref k)) : ∃ As, as = .ref k :: As ∧ As.length = na - 1 := by
  have hlen : na ≤ st.length := by have := (List.getElem?_eq_some_iff.mp hk).1; omega
  have hl : as.length = na := by rw [h, List.length_reverse, List.length_take]; omega
  have h0' : as[0]? = some (.ref k) := by
    rw [h, List.getElem?_reverse (by rw [List.length_take]; omega), List.length_take, List.getElem?_take, if_pos (by omega), ← hk]
    congr 1; omega
  cases as with
  | nil => cases h0'
  | cons a r =>
    simp only [List.getElem?_cons_zero, Option.some.injEq] at h0'
    exact ⟨r, by rw [h0'], by simp only [List.length_cons] at hl; omega⟩
theorem recv_ok {k ci : Nat} (hci : ci < 9 ∨ ci = 29) (hk : cls k = ci) (hK : va_K D vwCl (tyL cA) s) (hF : SF L (jA N0) s s.heap) (hP : va_P D vwCl (WS L cA μ) H) (hS : va_S (jA N0) s.heap H locs) : ∃ cellB : Cell, H[L k]? = some cellB ∧ cellB.vm.isStatics = false ∧ s.vm.findClass (clT ci).1 = some cellB.cls := by
  rcases hci with hci | rfl
  · have hlt := cls_in (μ := μ) (k := k) (Or.inl (by rw [hk]; omega))
    exact va_recv (ci := ci) (q0 := ixN k) hK hP (cl_get hci) ((WS_get hlt).trans (congrArg _ (congrArg _ (entW_obj hk hci))))
  · obtain ⟨j, hj, rfl⟩ := cls29 hk
    obtain ⟨⟨cell, g1, g2, g3, g4⟩, -⟩ := hF.2.1.1 j hj
    refine ⟨cell, ?_, g2, g3⟩
    rw [hS.2.1 _ (Array.getElem?_eq_some_iff.mp g1).1 g4]; exact g1
end MET
