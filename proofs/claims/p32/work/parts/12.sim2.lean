/-! STEPS THAT READ AND WRITE THE HEAP -/
section SIM2
variable {p : Program} {l : Launch} {e : Env} {R : Room} {s : State} {m : MethodId} {args : Array Value} {below : List Frame} {meth : Method} {c : Code} {H H0 : Heap} {locs : List Loc} {cells slots : Nat} {Q : State → Prop} {cc : ByteArray} {nL : Nat}
variable {L : Nat → Nat} {D : va_G} {cA : Nat → ClassId} {A : Nat → Prop} {pc pc' : Nat} {ls : Array Slot} {pl pl' st st' : List Value} {μ μ' : PM} {own : String} {pool : Nat → Ent}
/-- the classes of the arrays -/
def tyL (cA : Nat → ClassId) : List (ClassId × FieldType) := [(cA 20, .int), (cA 20, .int), (cA 22, .object "OrganCorners$Corner"), (cA 23, .object "OrganCorners$Organ"), (cA 24, .object "OrganCorners$Player"), (cA 26, .object "OrganCorners$Town")]
theorem inb_in {i : Int32} {n : Nat} (h : inb i n = true) : vp_in i n := by
  unfold inb at h
  unfold vp_in
  simp only [Bool.not_eq_true', Bool.or_eq_false_iff, decide_eq_false_iff_not] at h
  rintro (q | q)
  · exact h.1 q
  · have := Nat.ble_eq.mpr q
    rw [h.2] at this
    cases this
theorem sn_iast (hx : p.tables.exec = Jvm.exec) (hb : c.code = cc) (ha : At_ H0 L D cA A nL H locs ls pl μ) (hK : va_K D vwCl (tyL cA) s) (hdg : decode cc pc = .ok (.iastore, 1)) (h : asI pc pl st μ = some (.inl (pc', pl', st', μ'))) (k : Kt p l e R s m args below meth c H0 cells slots Q L D cA A nL pc' pl' st' μ') : Wg p l e R s m args below meth c H locs cells slots Q L pc ls st := by
  unfold asI at h
  split at h
  · rename_i v i kk r
    split at h
    · rename_i hc
      obtain ⟨rfl, rfl, rfl, rfl⟩ := nx_inv h
      have hlt := okA_in hc.1
      have hor := okA_or hc.1
      refine va_iast (f := mI μ kk) hx hb hK ha.2.1 ha.2.2.1 ha.2.2.2 (ixN kk) 0 ((WS_get hlt).trans (congrArg _ (congrArg _ (entW_ints hor)))) rfl (inb_in hc.2) hdg (fun H1 locs1 hP hD hS => ?_)
      rw [WS_setI hlt.fx (by rw [entW_ints hor, stI_self])] at hP hD
      exact k _ _ _ ha.1 hP hD hS
    · cases h
  · cases h
theorem cls21 {k : Nat} (h : cls k = 21) : False := by
  by_cases hk : k < 430
  · have key : ∀ k, k < 430 → cls k ≠ 21 := by decide +kernel
    exact key k hk h
  · have := ly_dyn (k - 430)
    rw [show 430 + (k - 430) = k by omega] at this
    unfold cls at h
    rw [this] at h
    cases h
theorem no21L (h : alJ pc pl st μ = some (.inl (pc', pl', st', μ'))) : False := by
  unfold alJ at h
  split at h
  · split at h
    · rename_i hc; exact cls21 hc.1
    · cases h
  · cases h
theorem no21S (h : asJ pc pl st μ = some (.inl (pc', pl', st', μ'))) : False := by
  unfold asJ at h
  split at h
  · split at h
    · rename_i hc; exact cls21 hc.1
    · cases h
  · cases h
/-- fixed objects: arrays of the classes' statics, the kinds, their texts -/
def SF1 (L : Nat → Nat) (A : Nat → Prop) (U : State) (H : Heap) : Prop :=
  (va_Z "OrganCorners" "GREATEST_SETTINGS" "[I" (.ref (L 400)) A U H ∧ va_T .int (L 400) 5 (fun j => .int (cst 400 j)) A U H) ∧
  (va_Z "OrganCorners$1" "$SwitchMap$OrganCorners$OrderKind" "[I" (.ref (L 402)) A U H ∧ va_T .int (L 402) 5 (fun j => .int (cst 402 j)) A U H) ∧
  (va_Z "OrganCorners" "ORDER_KINDS" "[LOrganCorners$OrderKind;" (.ref (L 401)) A U H ∧ va_T (.object "OrganCorners$OrderKind") (L 401) 5 (fun j => .ref (L (410 + j))) A U H) ∧
  va_Z "OrganCorners$OrderKind" "WET" "LOrganCorners$OrderKind;" (.ref (L 411)) A U H
def SF2 (L : Nat → Nat) (A : Nat → Prop) (U : State) (H : Heap) : Prop :=
  (∀ j, j < 5 → va_O "OrganCorners$OrderKind" (L (410 + j)) A U H ∧ va_OF "OrganCorners$OrderKind" "least" "Ljava/lang/String;" (.ref (L (420 + 2 * j))) (L (410 + j)) A U H ∧ va_OF "OrganCorners$OrderKind" "greatest" "Ljava/lang/String;" (.ref (L (421 + 2 * j))) (L (410 + j)) A U H ∧ va_OF "java/lang/Enum" "ordinal" "I" (.int (Int32.ofNat j)) (L (410 + j)) A U H) ∧
  (∀ i, i < 10 → ∃ v, va_O "java/lang/String" (L (420 + i)) A U H ∧ va_OF "java/lang/String" "coder" "B" (.int 0) (L (420 + i)) A U H ∧ va_OF "java/lang/String" "value" "[B" (.ref v) (L (420 + i)) A U H ∧ va_T .byte v (strs.getD i []).length (fun j => .int ((strs.getD i []).getD j 0)) A U H) ∧
  va_Z "java/lang/String" "COMPACT_STRINGS" "Z" (.int 1) A U H ∧
  va_Zq "jdk/internal/util/Preconditions" "SIOOBE_FORMATTER" "Ljava/util/function/BiFunction;" A U H
/-- what the tables say beside the words that stay -/
def SF3 (U : State) : Prop :=
  va_Nw (.methodLinkNest "OrganCorners$Outlook" 28 (yN nX10_holds) "OrganCorners") U ∧ va_Nw (.methodLinkNest "OrganCorners$Town" 162 (yN nX10_holds) "OrganCorners") U ∧ va_Nw (.fieldLinkNest "OrganCorners$OrderText" 19 "OrganCorners" "ORDER_KINDS" "[LOrganCorners$OrderKind;" "OrganCorners") U
def SF (L : Nat → Nat) (A : Nat → Prop) (U : State) (H : Heap) : Prop := SF1 L A U H ∧ SF2 L A U H ∧ SF3 U ∧ (∀ i j, i < 5 → j < 5 → L (410 + i) = L (410 + j) → i = j)
theorem SF.kept {U : State} {H1 : Heap} (h : SF L A U H) (hq : ∀ a : Nat, a < H.size → ¬ A a → H1[a]? = H[a]?) : SF L A U H1 := by
  obtain ⟨h1, h2, h3, h4⟩ := h
  refine ⟨⟨⟨h1.1.1.kept hq, h1.1.2.kept hq⟩, ⟨h1.2.1.1.kept hq, h1.2.1.2.kept hq⟩, ⟨h1.2.2.1.1.kept hq, h1.2.2.1.2.kept hq⟩, h1.2.2.2.kept hq⟩, ⟨fun j hj => ?_, fun i hi => ?_, h2.2.2.1.kept hq, h2.2.2.2.kept hq⟩, h3, h4⟩
  · obtain ⟨a1, a2, a3, a4⟩ := h2.1 j hj
    exact ⟨a1.kept hq, a2.kept hq, a3.kept hq, a4.kept hq⟩
  · obtain ⟨v, a1, a2, a3, a4⟩ := h2.2.1 i hi
    exact ⟨v, a1.kept hq, a2.kept hq, a3.kept hq, a4.kept hq⟩
theorem SF.moved {u U : State} (hW : u.WarmedH U.vm) (h : SF L A u H) : SF L A U H := by
  obtain ⟨h1, h2, h3, h4⟩ := h
  have hvm := hW.alike
  refine ⟨⟨⟨h1.1.1.moved hvm, h1.1.2.moved hvm⟩, ⟨h1.2.1.1.moved hvm, h1.2.1.2.moved hvm⟩, ⟨h1.2.2.1.1.moved hvm, h1.2.2.1.2.moved hvm⟩, h1.2.2.2.moved hvm⟩, ⟨fun j hj => ?_, fun i hi => ?_, h2.2.2.1.moved hvm, h2.2.2.2.moved hvm⟩, ?_, h4⟩
  · obtain ⟨a1, a2, a3, a4⟩ := h2.1 j hj
    exact ⟨a1.moved hvm, a2.moved hvm, a3.moved hvm, a4.moved hvm⟩
  · obtain ⟨v, a1, a2, a3, a4⟩ := h2.2.1 i hi
    exact ⟨v, a1.moved hvm, a2.moved hvm, a3.moved hvm, a4.moved hvm⟩
  · obtain ⟨b1, b2, b3⟩ := h3
    exact ⟨va_Nw.warmM hW b1, va_Nw.warmM hW b2, va_Nw.warmF hW b3⟩
theorem cls27 {k : Nat} (h : cls k = 27) : k = 400 ∨ k = 402 := by
  by_cases hk : k < 345
  · exfalso
    have key : ∀ k, k < 345 → cls k ≠ 27 := by decide +kernel
    exact key k hk h
  · have h1 : Nat.blt k 23 = false := by
      cases hb : Nat.blt k 23
      · rfl
      · have := Nat.blt_eq.mp hb; omega
    have h2 : Nat.blt k 345 = false := by
      cases hb : Nat.blt k 345
      · rfl
      · have := Nat.blt_eq.mp hb; omega
    have h3 : cls k = (lyTop k).1 := by unfold cls ly; rw [h1, h2]; rfl
    by_cases q1 : k = 400
    · exact Or.inl q1
    · by_cases q2 : k = 402
      · exact Or.inr q2
      · exfalso
        have e1 : Nat.beq k 400 = false := by
          cases hb : Nat.beq k 400
          · rfl
          · exact absurd (Nat.eq_of_beq_eq_true hb) q1
        have e2 : Nat.beq k 402 = false := by
          cases hb : Nat.beq k 402
          · rfl
          · exact absurd (Nat.eq_of_beq_eq_true hb) q2
        rw [h3] at h
        unfold lyTop at h
        rw [e1, e2] at h
        simp only [cond_false] at h
        revert h
        cases Nat.beq k 390
        · cases Nat.beq k 401
          · cases Nat.blt k 410
            · cases Nat.blt k 415
              · cases Nat.blt k 420
                · cases Nat.blt k 430 <;> simp
                · simp
              · simp
            · simp
          · simp
        · simp
theorem cls25 {k : Nat} (h : cls k = 25) : k = 390 := by
  by_cases hk : k < 345
  · exfalso
    have key : ∀ k, k < 345 → cls k ≠ 25 := by decide +kernel
    exact key k hk h
  · have h1 : Nat.blt k 23 = false := by
      cases hb : Nat.blt k 23
      · rfl
      · have := Nat.blt_eq.mp hb; omega
    have h2 : Nat.blt k 345 = false := by
      cases hb : Nat.blt k 345
      · rfl
      · have := Nat.blt_eq.mp hb; omega
    have h3 : cls k = (lyTop k).1 := by unfold cls ly; rw [h1, h2]; rfl
    by_cases q1 : k = 390
    · exact q1
    · exfalso
      have e1 : Nat.beq k 390 = false := by
        cases hb : Nat.beq k 390
        · rfl
        · exact absurd (Nat.eq_of_beq_eq_true hb) q1
      rw [h3] at h
      unfold lyTop at h
      rw [e1] at h
      simp only [cond_false] at h
      revert h
      cases Nat.beq k 400
      · cases Nat.beq k 402
        · cases Nat.beq k 401
          · cases Nat.blt k 410
            · cases Nat.blt k 415
              · cases Nat.blt k 420
                · cases Nat.blt k 430 <;> simp
                · simp
              · simp
            · simp
          · simp
        · simp
      · simp
theorem cls28 {k : Nat} (h : cls k = 28) : k = 401 := by
  by_cases hk : k < 345
  · exfalso
    have key : ∀ k, k < 345 → cls k ≠ 28 := by decide +kernel
    exact key k hk h
  · have h1 : Nat.blt k 23 = false := by
      cases hb : Nat.blt k 23
      · rfl
      · have := Nat.blt_eq.mp hb; omega
    have h2 : Nat.blt k 345 = false := by
      cases hb : Nat.blt k 345
      · rfl
      · have := Nat.blt_eq.mp hb; omega
    have h3 : cls k = (lyTop k).1 := by unfold cls ly; rw [h1, h2]; rfl
    by_cases q1 : k = 401
    · exact q1
    · exfalso
      have e1 : Nat.beq k 401 = false := by
        cases hb : Nat.beq k 401
        · rfl
        · exact absurd (Nat.eq_of_beq_eq_true hb) q1
      rw [h3] at h
      unfold lyTop at h
      rw [e1] at h
      simp only [cond_false] at h
      revert h
      cases Nat.beq k 390
      · cases Nat.beq k 400
        · cases Nat.beq k 402
          · cases Nat.blt k 410
            · cases Nat.blt k 415
              · cases Nat.blt k 420
                · cases Nat.blt k 430 <;> simp
                · simp
              · simp
            · simp
          · simp
        · simp
      · simp
theorem sn_iald (hx : p.tables.exec = Jvm.exec) (hb : c.code = cc) (ha : At_ s.heap L D cA A nL H locs ls pl μ) (hK : va_K D vwCl (tyL cA) s) (hF : SF L A s s.heap) (hX : va_X (L 390) μ.2.2.1 (mI μ 390) s s.heap) (hXA : ¬ A (L 390)) (hdg : decode cc pc = .ok (.iaload, 1)) (h : alI pc pl st μ = some (.inl (pc', pl', st', μ'))) (k : Kt p l e R s m args below meth c s.heap cells slots Q L D cA A nL pc' pl' st' μ') : Wg p l e R s m args below meth c H locs cells slots Q L pc ls st := by
  unfold alI at h
  split at h
  · rename_i i kk r
    split at h
    · rename_i hc
      obtain ⟨rfl, rfl, rfl, rfl⟩ := nx_inv h
      have hlt := okA_in hc.1
      exact va_iald (f := mI μ kk) hx hb hK ha.2.1 (ixN kk) 0 ((WS_get hlt).trans (congrArg _ (congrArg _ (entW_ints (okA_or hc.1))))) rfl (inb_in hc.2) hdg (k.go ha)
    · split at h
      · rename_i hc
        have e9 := cls25 hc.1
        subst e9
        obtain ⟨rfl, rfl, rfl, rfl⟩ := nx_inv h
        exact va_sld hx hb hX (by obtain ⟨scr, h1, -⟩ := hX; exact (Array.getElem?_eq_some_iff.mp h1).1) hXA ha.2.2.2 (inb_in hc.2) hdg (k.go ha)
      · split at h
        · rename_i hc
          rcases cls27 hc.1 with e9 | e9
          · subst e9
            obtain ⟨rfl, rfl, rfl, rfl⟩ := nx_inv h
            exact va_ti hx hb hF.1.1.2 ha.2.2.2 (inb_in hc.2) rfl hdg (k.go ha)
          · subst e9
            obtain ⟨rfl, rfl, rfl, rfl⟩ := nx_inv h
            exact va_ti hx hb hF.1.2.1.2 ha.2.2.2 (inb_in hc.2) rfl hdg (k.go ha)
        · cases h
  · cases h
theorem isRA_cases {c : Nat} (h : isRA c = true) : c = 22 ∨ c = 23 ∨ c = 24 ∨ c = 26 ∨ c = 28 := by
  simp only [isRA, Bool.or_eq_true] at h
  rcases h with ((((h | h) | h) | h) | h)
  · exact Or.inl (Nat.eq_of_beq_eq_true h)
  · exact Or.inr (Or.inl (Nat.eq_of_beq_eq_true h))
  · exact Or.inr (Or.inr (Or.inl (Nat.eq_of_beq_eq_true h)))
  · exact Or.inr (Or.inr (Or.inr (Or.inl (Nat.eq_of_beq_eq_true h))))
  · exact Or.inr (Or.inr (Or.inr (Or.inr (Nat.eq_of_beq_eq_true h))))
theorem sn_aald (hx : p.tables.exec = Jvm.exec) (hb : c.code = cc) (ha : At_ s.heap L D cA A nL H locs ls pl μ) (hK : va_K D vwCl (tyL cA) s) (hF : SF L A s s.heap) (hdg : decode cc pc = .ok (.aaload, 1)) (h : alA pc pl st μ = some (.inl (pc', pl', st', μ'))) (k : Kt p l e R s m args below meth c s.heap cells slots Q L D cA A nL pc' pl' st' μ') : Wg p l e R s m args below meth c H locs cells slots Q L pc ls st := by
  unfold alA at h
  split at h
  · rename_i i kk r
    split at h
    · rename_i hc
      obtain ⟨rfl, rfl, rfl, rfl⟩ := nx_inv h
      rcases isRA_cases hc.1 with e | e | e | e | e
      · have hlt := cls_in (μ := μ) (k := kk) (Or.inl (by rw [e]; decide))
        exact va_aldq (f := fun i => some (L (eN kk i))) hx hb hK ha.2.1 (ixN kk) 2 ((WS_get hlt).trans (congrArg _ (congrArg _ (entW_refs e (by decide))))) rfl (inb_in hc.2) hdg (k.go ha)
      · have hlt := cls_in (μ := μ) (k := kk) (Or.inl (by rw [e]; decide))
        exact va_aldq (f := fun i => some (L (eN kk i))) hx hb hK ha.2.1 (ixN kk) 3 ((WS_get hlt).trans (congrArg _ (congrArg _ (entW_refs e (by decide))))) rfl (inb_in hc.2) hdg (k.go ha)
      · have hlt := cls_in (μ := μ) (k := kk) (Or.inl (by rw [e]; decide))
        exact va_aldq (f := fun i => some (L (eN kk i))) hx hb hK ha.2.1 (ixN kk) 4 ((WS_get hlt).trans (congrArg _ (congrArg _ (entW_refs e (by decide))))) rfl (inb_in hc.2) hdg (k.go ha)
      · have hlt := cls_in (μ := μ) (k := kk) (Or.inr e)
        exact va_aldq (f := fun i => some (L (eN kk i))) hx hb hK ha.2.1 (ixN kk) 5 ((WS_get hlt).trans (congrArg _ (congrArg _ (entW_refs e (by decide))))) rfl (inb_in hc.2) hdg (k.go ha)
      · have e9 := cls28 e
        subst e9
        exact vb_tq hx hb hF.1.2.2.1.2 ha.2.2.2 (inb_in hc.2) (show _ = Value.ref (L (410 + i.toNatClampNeg)) from rfl) hdg (k.go ha)
    · cases h
  · cases h
theorem sn_alen (hx : p.tables.exec = Jvm.exec) (hb : c.code = cc) (ha : At_ s.heap L D cA A nL H locs ls pl μ) (hK : va_K D vwCl (tyL cA) s) (hF : SF L A s s.heap) (hX : va_X (L 390) μ.2.2.1 (mI μ 390) s s.heap) (hXA : ¬ A (L 390)) (hdg : decode cc pc = .ok (.arraylength, 1)) (h : arl pc pl st μ = some (.inl (pc', pl', st', μ'))) (k : Kt p l e R s m args below meth c s.heap cells slots Q L D cA A nL pc' pl' st' μ') : Wg p l e R s m args below meth c H locs cells slots Q L pc ls st := by
  unfold arl at h
  split at h
  · rename_i kk r
    split at h
    · rename_i hc
      have e9 := cls25 hc
      subst e9
      obtain ⟨rfl, rfl, rfl, rfl⟩ := nx_inv h
      exact va_slen hx hb hX (by obtain ⟨scr, h1, -⟩ := hX; exact (Array.getElem?_eq_some_iff.mp h1).1) hXA ha.2.2.2 hdg (k.go ha)
    · split at h
      · rename_i hc
        have e9 := cls28 hc
        subst e9
        obtain ⟨rfl, rfl, rfl, rfl⟩ := nx_inv h
        exact va_tlen hx hb hF.1.2.2.1.2 ha.2.2.2 rfl hdg (k.go ha)
      · split at h
        · rename_i hc
          have hlt := okA_in hc
          obtain ⟨rfl, rfl, rfl, rfl⟩ := nx_inv h
          exact va_alen hx hb hK ha.2.1 (ixN kk) 0 ((WS_get hlt).trans (congrArg _ (congrArg _ (entW_ints (okA_or hc))))) rfl rfl hdg (k.go ha)
        · cases h
  · cases h
theorem get_obj (hx : p.tables.exec = Jvm.exec) (hb : c.code = cc) (hown : s.vm.findClass own = some m.cls) (hts : ∀ w ∈ lwG, w.before args s = true) (hK : va_K D vwCl (tyL cA) s) (ha : At_ H0 L D cA A nL H locs ls pl μ) {ix k ci j : Nat} {q : Nat × Nat} {rest : List Value} (hci : ci < 9) (hc : cls k = ci) (hq : (fcode ci)[j]? = some q) (hw : Cond.fieldLink own ix (clT ci).1 ((clT ci).2.1 j).2.1 ((clT ci).2.1 j).2.2.1 ∈ lwG) (hdg : decode cc pc = .ok (.getfield ix, 3))
    (kk : W p l e R s m args below meth c H locs cells slots Q (F0 m (pc + 3) ls (fval L μ k j q :: rest))) : W p l e R s m args below meth c H locs cells slots Q (F0 m pc ls (.ref (L k) :: rest)) := by
  have hjl : j < (clT ci).2.2 := by rw [← fc_N ci hci]; exact (List.getElem?_eq_some_iff.mp hq).1
  have hd : ((clT ci).2.1 j).1 = (clT ci).1 := fc_decl ci hci j (Nat.lt_of_lt_of_le hjl (fc_max ci hci)) hjl
  have hlt := cls_in (μ := μ) (k := k) (Or.inl (by rw [hc]; omega))
  exact va_get (C := (clT ci).1) (T := (clT ci).2.1) (N := (clT ci).2.2) hx hb hts (cl_in ci _ (cl_get hci)) hown hK ha.2.1 (ixN k) ((WS_get hlt).trans (congrArg _ (congrArg _ (entW_obj hc hci)))) (cl_get hci) j hjl (hts _ hw) (fun x h9 => by rw [hd] at h9; exact h9) (flds_get hq) hdg kk
theorem put_obj (hx : p.tables.exec = Jvm.exec) (hb : c.code = cc) (hown : s.vm.findClass own = some m.cls) (hts : ∀ w ∈ lwG, w.before args s = true) (hK : va_K D vwCl (tyL cA) s) (ha : At_ H0 L D cA A nL H locs ls pl μ) {ix k ci j : Nat} {q : Nat × Nat} {rest : List Value} {v : Value} {ty : FieldType} (hci : ci < 9) (hc : cls k = ci) (hq : (fcode ci)[j]? = some q) (hq3 : q.1 < 3) (hw : Cond.fieldLink own ix (clT ci).1 ((clT ci).2.1 j).2.1 ((clT ci).2.1 j).2.2.1 ∈ lwG) (hdg : decode cc pc = .ok (.putfield ix, 3))
    (hty : parseFieldDescriptor (tyK q.1) = some ty) (hn : narrow ty v = v) (hfit : fits ty v = true)
    (kk : ∀ (H1 : Heap) (locs1 : List Loc), va_P D vwCl ((WS L cA μ).set (ixN k) (L k, .inr (ci, (flds L μ k ci).set j v))) H1 → va_D A ((WS L cA μ).set (ixN k) (L k, .inr (ci, (flds L μ k ci).set j v))) → va_S A H0 H1 locs1 → W p l e R s m args below meth c H1 locs1 cells slots Q (F0 m (pc + 3) ls rest)) : W p l e R s m args below meth c H locs cells slots Q (F0 m pc ls (v :: .ref (L k) :: rest)) := by
  have hjl0 : j < (fcode ci).length := (List.getElem?_eq_some_iff.mp hq).1
  have hjl : j < (clT ci).2.2 := by rw [← fc_N ci hci]; exact hjl0
  have hj18 : j < 18 := Nat.lt_of_lt_of_le hjl (fc_max ci hci)
  have hd : ((clT ci).2.1 j).1 = (clT ci).1 := fc_decl ci hci j hj18 hjl
  have hqd : (fcode ci).getD j (9, 0) = q := by rw [List.getD_eq_getElem?_getD, hq]; rfl
  obtain ⟨e1, e2⟩ := fc_desc ci hci j hj18 hjl (by rw [hqd]; exact hq3)
  rw [hqd] at e1
  have hlt := cls_in (μ := μ) (k := k) (Or.inl (by rw [hc]; omega))
  exact va_put (C := (clT ci).1) (T := (clT ci).2.1) (N := (clT ci).2.2) hx hb hts (cl_in ci _ (cl_get hci)) (tyA ci) (ty_all ci hci) (nm_all ci hci) hown hK ha.2.1 ha.2.2.1 ha.2.2.2 (ixN k) ((WS_get hlt).trans (congrArg _ (congrArg _ (entW_obj hc hci)))) (cl_get hci) j hjl (hts _ hw) (fun x h9 => by rw [hd] at h9; exact h9) e2 (by rw [e1]; exact hty) hn hfit (by rw [flds_len]; exact hjl0) hdg kk
theorem nar_Z {v : Int32} (h : v = 0 ∨ v = 1) : narrow .boolean (.int v) = .int v := by
  rcases h with rfl | rfl <;> rfl
theorem sn_put (hx : p.tables.exec = Jvm.exec) (hb : c.code = cc) (ha : At_ H0 L D cA A nL H locs ls pl μ) (hown : s.vm.findClass own = some m.cls) (hts : ∀ w ∈ lwG, w.before args s = true) (hK : va_K D vwCl (tyL cA) s) (hpf : PF own pool) {ix : Nat} (hdg : decode cc pc = .ok (.putfield ix, 3)) (h : ptf pool pc ix pl st μ = some (.inl (pc', pl', st', μ'))) (k : Kt p l e R s m args below meth c H0 cells slots Q L D cA A nL pc' pl' st' μ') : Wg p l e R s m args below meth c H locs cells slots Q L pc ls st := by
  obtain ⟨hok, hw, -⟩ := hpf ix
  unfold ptf at h
  split at h
  · rename_i v kk r
    split at h
    · rename_i ci j z he
      rw [he] at hok hw
      simp only [entOK, Bool.and_eq_true, decide_eq_true_eq] at hok
      have hci := Nat.blt_eq.mp hok.1
      rw [hok.1] at h
      simp only [cond_true] at h
      split at h
      · rename_i hc
        obtain ⟨rfl, rfl, rfl, rfl⟩ := nx_inv h
        refine put_obj (v := .int v) (ty := .int) hx hb hown hts hK ha hci hc hok.2 (by decide) (hw _ List.mem_cons_self) hdg rfl rfl rfl (fun H1 locs1 hP hD hS => ?_)
        have e9 : entW L cA (stI μ kk j v) kk = .inr (ci, (flds L μ kk ci).set j (.int v)) := by rw [entW_obj hc hci, flds_setI hok.2 (Or.inl rfl)]
        rw [WS_setI (cls_in (μ := μ) (k := kk) (Or.inl (by rw [hc]; omega))).fx e9] at hP hD
        exact k _ _ _ ha.1 hP hD hS
      · cases h
    · rename_i ci j z he
      rw [he] at hok hw
      simp only [entOK, Bool.and_eq_true, decide_eq_true_eq] at hok
      have hci := Nat.blt_eq.mp hok.1
      rw [hok.1] at h
      simp only [cond_true] at h
      split at h
      · rename_i hc
        obtain ⟨rfl, rfl, rfl, rfl⟩ := nx_inv h
        refine put_obj (v := .int v) (ty := .boolean) hx hb hown hts hK ha hci hc.1 hok.2 (by decide) (hw _ List.mem_cons_self) hdg rfl (nar_Z hc.2) (by rcases hc.2 with e | e <;> rw [e] <;> rfl) (fun H1 locs1 hP hD hS => ?_)
        have e9 : entW L cA (stI μ kk j v) kk = .inr (ci, (flds L μ kk ci).set j (.int v)) := by rw [entW_obj hc.1 hci, flds_setI hok.2 (Or.inr rfl)]
        rw [WS_setI (cls_in (μ := μ) (k := kk) (Or.inl (by rw [hc.1]; omega))).fx e9] at hP hD
        exact k _ _ _ ha.1 hP hD hS
      · cases h
    · cases h
  · rename_i v kk r
    split at h
    · rename_i ci j z he
      rw [he] at hok hw
      simp only [entOK, Bool.and_eq_true, decide_eq_true_eq] at hok
      have hci := Nat.blt_eq.mp hok.1
      split at h
      · rename_i hc
        obtain ⟨rfl, rfl, rfl, rfl⟩ := nx_inv h
        refine put_obj (v := .long v) (ty := .long) hx hb hown hts hK ha hci hc hok.2 (by decide) (hw _ List.mem_cons_self) hdg rfl rfl rfl (fun H1 locs1 hP hD hS => ?_)
        have e9 : entW L cA (stJ μ kk j v) kk = .inr (ci, (flds L μ kk ci).set j (.long v)) := by rw [entW_obj hc hci, flds_setJ hok.2 rfl]
        rw [WS_setJ (cls_in (μ := μ) (k := kk) (Or.inl (by rw [hc]; omega))).fx e9] at hP hD
        exact k _ _ _ ha.1 hP hD hS
      · cases h
    · cases h
  · cases h
end SIM2
