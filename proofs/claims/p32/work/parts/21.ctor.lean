/-! CONSTRUCTORS: their rows -/
section CTOR
variable {p : Program} {l : Launch} {e : Env} {R : Room} {s : State} {m : MethodId} {args : Array Value} {below : List Frame} {meth : Method} {c : Code} {H H0 : Heap} {locs : List Loc} {cells slots : Nat} {Q : State → Prop} {cc : ByteArray} {pc : Nat} {ls : Array Slot} {rest st0 : List Value} {a : Array Value}
variable {N0 : Nat} {D : va_G} {cA : Nat → ClassId} {A : Nat → Prop} {ws : va_W} {own : String}
theorem K_same {D : va_G} {cl : List vw_C} {tys : List (ClassId × FieldType)} (hK : va_K D cl tys s) {i j : Nat} {c1 c2 : ClassId} {ty : FieldType} (h1 : tys[i]? = some (c1, ty)) (h2 : tys[j]? = some (c2, ty)) : c1 = c2 := by
  have g1 := (hK.2 i _ h1).2
  have g2 := (hK.2 j _ h2).2
  cases ty with
  | object C =>
    obtain ⟨_, _, _, _, _, f1⟩ := g1
    obtain ⟨_, _, _, _, _, f2⟩ := g2
    exact Option.some.inj (f1.symm.trans f2)
  | _ => exact Option.some.inj (Eq.trans (Eq.symm g1) g2)
def dfs (ci : Nat) : List Value := (fcode ci).map fun q => bif Nat.beq q.1 3 then .null else bif Nat.beq q.1 2 then .long 0 else .int 0
def fsv : Nat → Value := fun j => .int (([20, 2, 20, 25, 5] : List Int32).getD j 0)
/-- what constructors ask -/
def WI (N0 : Nat) (D : va_G) (cA : Nat → ClassId) (U : State) : Prop :=
  va_K D vwCl (tyL cA) U ∧ (∃ t, va_Z "OrganCorners" "FIRST_SETTINGS" "[I" (.ref t) (jA N0) U U.heap ∧ va_T .int t 5 fsv (jA N0) U U.heap) ∧ (va_AO "OrganCorners$Corner" U ∧ va_AO "OrganCorners$Organ" U ∧ va_AO "OrganCorners$Player" U ∧ va_AO "OrganCorners$Town" U) ∧
  (va_Nw (.methodLinkNest "OrganCorners$Town" 37 ⟨"OrganCorners$Corner", "<init>", "()V"⟩ "OrganCorners") U ∧ va_Nw (.methodLinkNest "OrganCorners$Town" 38 ⟨"OrganCorners$Organ", "<init>", "()V"⟩ "OrganCorners") U ∧ va_Nw (.methodLinkNest "OrganCorners$Town" 39 ⟨"OrganCorners$Player", "<init>", "()V"⟩ "OrganCorners") U ∧
   va_Nw (.methodLinkNest "OrganCorners" 25 ⟨"OrganCorners$OrderText", "<init>", "()V"⟩ "OrganCorners") U ∧ va_Nw (.methodLinkNest "OrganCorners" 32 ⟨"OrganCorners$Payout", "<init>", "()V"⟩ "OrganCorners") U ∧ va_Nw (.methodLinkNest "OrganCorners" 39 ⟨"OrganCorners$Outlook", "<init>", "()V"⟩ "OrganCorners") U ∧ va_Nw (.fieldLinkNest "OrganCorners$Town" 40 "OrganCorners" "FIRST_SETTINGS" "[I" "OrganCorners") U)
theorem WI.at (h : WI N0 D cA s) (hS : va_S A s.heap H locs) (hA : ∀ q, A q → jA N0 q) {U : State} (hU : U.heap = H) (hW : s.WarmedH U.vm) : WI N0 D cA U := by
  obtain ⟨h1, ⟨t, h2, h3⟩, ⟨h4, h5, h6, h7⟩, g1, g2, g3, g4, g5, g6, g7⟩ := h
  have hvm := hW.alike
  have hk : ∀ q : Nat, q < s.heap.size → ¬ jA N0 q → U.heap[q]? = s.heap[q]? := fun q hq hn => by rw [hU]; exact hS.2.1 q hq (fun z => hn (hA q z))
  exact ⟨va_K.moved hvm h1, ⟨t, (va_Z.moved hvm h2).kept hk, (va_T.moved hvm h3).kept hk⟩, ⟨h4.moved hvm, h5.moved hvm, h6.moved hvm, h7.moved hvm⟩, va_Nw.warmM hW g1, va_Nw.warmM hW g2, va_Nw.warmM hW g3, va_Nw.warmM hW g4, va_Nw.warmM hW g5, va_Nw.warmM hW g6, va_Nw.warmF hW g7⟩
theorem WI.call {U : State} {g : JFrame} {mk : MethodId} {a : Array Value} (h : WI N0 D cA U) : WI N0 D cA (U.calling g mk a) :=
  WI.at (s := U) (A := jA N0) (H := U.heap) (locs := []) h va_S.rf (fun _ q => q) (U := U.calling g mk a) rfl (State.WarmedH.refl U)
abbrev oA (q sz : Nat) : Nat → Prop := fun a => a = q ∨ sz ≤ a
def CQ (D : va_G) (grp : (Nat → Nat) → va_W) (q sz : Nat) : Array Value → State → Outcome → State → Prop := fun _ st oc t => oc = .returned none ∧ (∃ g : Nat → Nat, g 0 = q ∧ va_P D vwCl (grp g) t.heap ∧ va_D (oA q sz) (grp g)) ∧ va_F (oA q sz) st t
def CP (N0 : Nat) (D : va_G) (cA : Nat → ClassId) (ci q sz : Nat) : State → Prop := fun U => WI N0 D cA U ∧ U.heap.size = sz ∧ va_P D vwCl [(q, .inr (ci, dfs ci))] U.heap
def rmC (k mc ms : Nat) : Room := { frames := k + 2, cells := mc, slots := ms, locals := 100 + 60 * k }
abbrev CM (l : Launch) (N0 : Nat) (D : va_G) (cA : Nat → ClassId) (y : MethodName) (b : ByteArray) (maxL k mc ms ci : Nat) (grp : (Nat → Nat) → va_W) : Prop :=
  ∀ q sz : Nat, N0 ≤ q → q < sz → Met l y (.code y b maxL none :: lwG) (rmC k mc ms) (va_Pc [.ref q] (CP N0 D cA ci q sz)) (CQ D grp q sz) mc ms (oA q sz)
theorem c_of {y : MethodName} {b : ByteArray} {maxL k mc ms ci : Nat} {grp : (Nat → Nat) → va_W} (hy : plainName y.cls = true) (hyn : y.name = "<init>")
    (body : ∀ (q : Nat) (p : Program) (e : Env) (s : State) (m : MethodId) (args : Array Value) (below : List Frame) (meth : Method) (c : Code), p.tables.exec = Jvm.exec → c.code = b → c.maxLocals = maxL → meth.sig.returnType = none → meth.locks = false → s.vm.findClass y.cls = some m.cls → (∀ w ∈ lwG, w.before args s = true) → meth.name = "<init>" → WI N0 D cA s → N0 ≤ q → q < s.heap.size → va_P D vwCl [(q, .inr (ci, dfs ci))] s.heap → va_D (oA q s.heap.size) [(q, .inr (ci, dfs ci))] →
      W p l e (rmC k mc ms) s m args below meth c s.heap [] 0 0 (MQ below (CQ D grp q s.heap.size) args s mc ms (oA q s.heap.size)) (entryFrame m ([.ref q] : List Value).toArray maxL)) : CM l N0 D cA y b maxL k mc ms ci grp := by
  intro q sz hq hz
  refine Met.ofW (cc := b) (maxL := maxL) (ret := none) hy rfl ?_
  intro p e s m args below meth c s₁ B hml hv
  obtain ⟨hv, hWI, hsz, hP⟩ := hv
  subst hsz
  have hts0 := atoms_spec (ws := Cond.code y b maxL none :: lwG) B.pre
  have := body q p e s m args below meth c B.exec B.bytes hml B.returns B.notSynchronized (findClass_of_methodNamed B.named) (fun w hw => hts0 w (List.mem_cons_of_mem _ hw)) ((name_of_methodNamed B.named B.method).1.trans hyn) hWI hq hz hP
    (by
      refine ⟨fun i j x z hx hz' _ => ?_, fun k x hx => ?_⟩
      · have h1 := (List.getElem?_eq_some_iff.mp hx).1
        have h2 := (List.getElem?_eq_some_iff.mp hz').1
        simp only [List.length_cons, List.length_nil] at h1 h2
        omega
      · have h1 := (List.getElem?_eq_some_iff.mp hx).1
        simp only [List.length_cons, List.length_nil] at h1
        have h2 : k = 0 := by omega
        subst h2
        cases hx
        exact Or.inl rfl)
  rw [← hv] at this
  exact this
/-- a call of a constructor: the new object stands last -/
theorem ctor_call {mc ms q : Nat} {grp : (Nat → Nat) → va_W} {e0 : va_E} (hr : va_Run p l e R s m args below meth c H locs cells slots mc ms (F0 m pc ls st0) rest (CQ D grp q H.size a) (oA q H.size)) (hP : va_P D vwCl (ws ++ [(q, e0)]) H) (hD : va_D A (ws ++ [(q, e0)])) (hS : va_S A H0 H locs) (hA : ∀ q, H0.size ≤ q → A q)
    (kk : ∀ (g : Nat → Nat) (H1 : Heap) (locs1 : List Loc), g 0 = q → H.size ≤ H1.size → va_P D vwCl (ws ++ grp g) H1 → va_D A (ws ++ grp g) → va_S A H0 H1 locs1 → W p l e R s m args below meth c H1 locs1 (cells + mc) (slots + ms) Q (F0 m (pc + 3) ls rest)) : W p l e R s m args below meth c H locs cells slots Q (F0 m pc ls st0) := by
  intro T hT X
  obtain ⟨v', st₀, t, T', L9, h0, X', hL, e1, e2, ⟨hv, ⟨g, hg, hPg, hDg⟩, hz, hk⟩, st⟩ := hr T hT X
  cases hv
  rw [h0] at hz hk
  have hq0 : (ws ++ [(q, e0)])[ws.length]? = some (q, e0) := by rw [List.getElem?_append_right (Nat.le_refl _), Nat.sub_self]; rfl
  have hAq : A q := hD.2 _ _ hq0
  have hoA : ∀ z, oA q H.size z → A z := fun z hz => by
    rcases hz with rfl | h
    · exact hAq
    · exact hA z (Nat.le_trans hS.1 h)
  have hold : ∀ (i : Nat) (x : Nat × va_E), ws[i]? = some x → x.1 < H.size ∧ x.1 ≠ q := by
    intro i x hx
    have hi : i < ws.length := (List.getElem?_eq_some_iff.mp hx).1
    have h1 : (ws ++ [(q, e0)])[i]? = some x := by rw [List.getElem?_append_left hi]; exact hx
    exact ⟨(hP i x h1).lt, fun q9 => by have := hD.1 i ws.length x _ h1 hq0 q9; omega⟩
  have hP1 : va_P D vwCl (ws ++ grp g) T'.heap := by
    refine va_P.app (fun i x hx => ?_) (by rw [e1]; exact hPg)
    have hi : i < ws.length := (List.getElem?_eq_some_iff.mp hx).1
    have h1 : (ws ++ [(q, e0)])[i]? = some x := by rw [List.getElem?_append_left hi]; exact hx
    obtain ⟨a1, a2⟩ := hold i x hx
    exact (hP i x h1).kept (by rw [e1]; exact hk x.1 a1 (fun z => by rcases z with z | z; exact a2 z; omega))
  have hD1 : va_D A (ws ++ grp g) := by
    refine va_D.app ⟨fun i j x y hx hy hxy => ?_, fun i x hx => ?_⟩ (hDg.weaken (fun k x _ h => hoA x.1 h)) (fun i j x y hx hy hxy => ?_)
    · have hi : i < ws.length := (List.getElem?_eq_some_iff.mp hx).1
      have hj : j < ws.length := (List.getElem?_eq_some_iff.mp hy).1
      exact hD.1 i j x y (by rw [List.getElem?_append_left hi]; exact hx) (by rw [List.getElem?_append_left hj]; exact hy) hxy
    · have hi : i < ws.length := (List.getElem?_eq_some_iff.mp hx).1
      exact hD.2 i x (by rw [List.getElem?_append_left hi]; exact hx)
    · obtain ⟨a1, a2⟩ := hold i x hx
      have := hDg.2 j y hy
      rw [← hxy] at this
      rcases this with z | z
      · exact a2 z
      · omega
  have hS1 : va_S A H0 T'.heap (locs ++ L9) := ⟨Nat.le_trans hS.1 (by rw [e1]; exact hz), fun x h1 h2 => by
      rw [e1, hk x (Nat.lt_of_lt_of_le h1 hS.1) (fun z => h2 (hoA x z))]; exact hS.2.1 x h1 h2, fun x hx => by
      rcases List.mem_append.mp hx with h | h
      · exact hS.2.2 x h
      · exact hoA _ (hL x h)⟩
  obtain ⟨t2, a1, b1⟩ := kk g T'.heap (locs ++ L9) hg (by rw [e1]; exact hz) hP1 hD1 hS1 T' rfl X'
  exact ⟨t2, st t2 a1, b1⟩
/-- a new int array -/
theorem k_newa (hx : p.tables.exec = Jvm.exec) (hb : c.code = cc) (hts : ∀ w ∈ lwG, w.before args s = true) (hK : va_K D vwCl (tyL cA) s) (hP : va_P D vwCl ws H) (hD : va_D A ws) (hS : va_S A H0 H locs) (hA : ∀ q, H0.size ≤ q → A q) (hw : Cond.arrayClass .int ∈ lwG) {n : Int32} {N : Nat} (hn : ¬ n < 0) (hN : n.toNatClampNeg = N) (hN2 : N ≤ 2000) (hc : cells + 1 ≤ R.cells) (hs : slots + N ≤ R.slots) (hdg : decode cc pc = .ok (.newarray .int, 2))
    (kk : ∀ (q : Nat) (H1 : Heap), va_P D vwCl (ws ++ [(q, .inl (cA 20, N, .inl (fun _ => 0)))]) H1 → va_D A (ws ++ [(q, .inl (cA 20, N, .inl (fun _ => 0)))]) → va_S A H0 H1 locs → W p l e R s m args below meth c H1 locs (cells + 1) (slots + N) Q (F0 m (pc + 2) ls (.ref q :: rest))) : W p l e R s m args below meth c H locs cells slots Q (F0 m pc ls (.int n :: rest)) := by
  refine va_newa (atype := .int) (ty := .int) (N' := N) (a0 := (N, .inl (fun _ => 0))) hx hb (hts _ hw) rfl hK hP hD hS hA (fun _ => rfl) hn hN (by show N * 4 ≤ _; omega) hc hs hdg (fun q c1 H1 hK1 hP1 hD1 hS1 => ?_)
  have : c1 = cA 20 := K_same hK1 (i := 6) (j := 0) (ty := .int) rfl rfl
  subst this
  exact kk q H1 hP1 hD1 hS1
/-- a new array of references -/
theorem k_newq {C : String} {ix t k : Nat} (hx : p.tables.exec = Jvm.exec) (hb : c.code = cc) (hown : s.vm.findClass own = some m.cls) (hts : ∀ w ∈ lwG, w.before args s = true) (hK : va_K D vwCl (tyL cA) s) (hP : va_P D vwCl ws H) (hD : va_D A ws) (hS : va_S A H0 H locs) (hA : ∀ q, H0.size ≤ q → A q) (hw : Cond.classLink own ix C ∈ lwG) (ho : va_AO C s) (ht : (tyL cA)[t]? = some (cA k, .object C)) {n : Int32} {N : Nat} (hn : ¬ n < 0) (hN : n.toNatClampNeg = N) (hN2 : N ≤ 2000) (hc : cells + 1 ≤ R.cells) (hs : slots + N ≤ R.slots) (hdg : decode cc pc = .ok (.anewarray ix, 3))
    (kk : ∀ (q : Nat) (H1 : Heap), va_P D vwCl (ws ++ [(q, .inl (cA k, N, .inr (.inr (.inr (.inr (fun _ => none))))))]) H1 → va_D A (ws ++ [(q, .inl (cA k, N, .inr (.inr (.inr (.inr (fun _ => none))))))]) → va_S A H0 H1 locs → W p l e R s m args below meth c H1 locs (cells + 1) (slots + N) Q (F0 m (pc + 3) ls (.ref q :: rest))) : W p l e R s m args below meth c H locs cells slots Q (F0 m pc ls (.int n :: rest)) := by
  refine va_newq (N' := N) hx hb hown (hts _ hw) ho hK hP hD hS hA hn hN (by omega) hc hs hdg (fun q c1 H1 hK1 hP1 hD1 hS1 => ?_)
  have ht6 : t < 6 := (List.getElem?_eq_some_iff.mp ht).1
  have : c1 = cA k := K_same hK1 (i := 6) (j := t) (ty := .object C) rfl (by rw [List.getElem?_append_left ht6]; exact ht)
  subst this
  exact kk q H1 hP1 hD1 hS1
theorem dfs_ok : ∀ ci, ci < 9 → ∀ j, j < 18 → j < (clT ci).2.2 → defaultValue (tyA ci j) = vp_V (dfs ci) j := by decide +kernel
/-- a new object -/
theorem k_new {ci ix N : Nat} (hx : p.tables.exec = Jvm.exec) (hb : c.code = cc) (hown : s.vm.findClass own = some m.cls) (hts : ∀ w ∈ lwG, w.before args s = true) (hK : va_K D vwCl (tyL cA) s) (hP : va_P D vwCl ws H) (hD : va_D A ws) (hS : va_S A H0 H locs) (hA : ∀ q, H0.size ≤ q → A q) (hci : ci < 9) (h1 : Cond.classLink own ix (clT ci).1 ∈ lwG) (h2 : Cond.instantiable (clT ci).1 (clT ci).2.2 ∈ lwG) (h3 : Cond.initialized (clT ci).1 ∈ lwG) (hN : (clT ci).2.2 = N) (hc : cells + 1 ≤ R.cells) (hs : slots + N ≤ R.slots) (hdg : decode cc pc = .ok (.new ix, 3))
    (kk : ∀ (q : Nat) (H1 : Heap), q < H1.size → A q → va_P D vwCl (ws ++ [(q, .inr (ci, dfs ci))]) H1 → va_D A (ws ++ [(q, .inr (ci, dfs ci))]) → va_S A H0 H1 locs → W p l e R s m args below meth c H1 locs (cells + 1) (slots + N) Q (F0 m (pc + 3) ls (.ref q :: rest))) : W p l e R s m args below meth c H locs cells slots Q (F0 m pc ls rest) := by
  subst hN
  intro T hT X
  refine va_new (C := (clT ci).1) (T := (clT ci).2.1) (N := (clT ci).2.2) (fs := dfs ci) hx hb hts (cl_in ci _ (cl_get hci)) (tyA ci) (ty_all ci hci) hown (hts _ h1) (hts _ h2) (hts _ h3) hK hP hD hS hA (cl_get hci) (fun j hj => dfs_ok ci hci j (Nat.lt_of_lt_of_le hj (fc_max ci hci)) hj) hc hs hdg (fun q H1 hP1 hD1 hS1 => ?_) T hT X
  have hq0 : (ws ++ [(q, .inr (ci, dfs ci))])[ws.length]? = some (q, (.inr (ci, dfs ci) : va_E)) := by rw [List.getElem?_append_right (Nat.le_refl _), Nat.sub_self]; rfl
  exact kk q H1 (hP1 _ _ hq0).lt (hD1.2 _ _ hq0) hP1 hD1 hS1
/-- a field of the object under work, not final -/
theorem k_put {ci ix j q : Nat} {fs : List Value} {r : va_W} {ty : FieldType} {v : Value} (hx : p.tables.exec = Jvm.exec) (hb : c.code = cc) (hown : s.vm.findClass own = some m.cls) (hts : ∀ w ∈ lwG, w.before args s = true) (hK : va_K D vwCl (tyL cA) s) (hP : va_P D vwCl ((q, .inr (ci, fs)) :: r) H) (hD : va_D A ((q, .inr (ci, fs)) :: r)) (hS : va_S A H0 H locs) (hci : ci < 9) (hj : j < (clT ci).2.2) (hw : Cond.fieldLink own ix (clT ci).1 ((clT ci).2.1 j).2.1 ((clT ci).2.1 j).2.2.1 ∈ lwG) (hfin : ((clT ci).2.1 j).2.2.2 = false) (hty : parseFieldDescriptor ((clT ci).2.1 j).2.2.1 = some ty) (hn : narrow ty v = v) (hfit : fits ty v = true) (hl : j < fs.length) (hdg : decode cc pc = .ok (.putfield ix, 3))
    (kk : ∀ (H1 : Heap) (locs1 : List Loc), va_P D vwCl ((q, .inr (ci, fs.set j v)) :: r) H1 → va_D A ((q, .inr (ci, fs.set j v)) :: r) → va_S A H0 H1 locs1 → W p l e R s m args below meth c H1 locs1 cells slots Q (F0 m (pc + 3) ls rest)) : W p l e R s m args below meth c H locs cells slots Q (F0 m pc ls (v :: .ref q :: rest)) := by
  have hd : ((clT ci).2.1 j).1 = (clT ci).1 := fc_decl ci hci j (Nat.lt_of_lt_of_le hj (fc_max ci hci)) hj
  exact va_put (C := (clT ci).1) (T := (clT ci).2.1) (N := (clT ci).2.2) hx hb hts (cl_in ci _ (cl_get hci)) (tyA ci) (ty_all ci hci) (nm_all ci hci) hown hK hP hD hS 0 rfl (cl_get hci) j hj (hts _ hw) (fun x h9 => by rw [hd] at h9; exact h9) hfin hty hn hfit hl hdg kk
/-- .. final -/
theorem k_putF {ci ix j q : Nat} {fs : List Value} {r : va_W} {ty : FieldType} {v : Value} (hx : p.tables.exec = Jvm.exec) (hb : c.code = cc) (hown : s.vm.findClass own = some m.cls) (hts : ∀ w ∈ lwG, w.before args s = true) (hK : va_K D vwCl (tyL cA) s) (hP : va_P D vwCl ((q, .inr (ci, fs)) :: r) H) (hD : va_D A ((q, .inr (ci, fs)) :: r)) (hS : va_S A H0 H locs) (hci : ci < 9) (hj : j < (clT ci).2.2) (hw : Cond.fieldLink own ix (clT ci).1 ((clT ci).2.1 j).2.1 ((clT ci).2.1 j).2.2.1 ∈ lwG) (hfin : ((clT ci).2.1 j).2.2.2 = true) (hin : meth.name = "<init>") (ho : (clT ci).1 = own) (hty : parseFieldDescriptor ((clT ci).2.1 j).2.2.1 = some ty) (hn : narrow ty v = v) (hfit : fits ty v = true) (hl : j < fs.length) (hdg : decode cc pc = .ok (.putfield ix, 3))
    (kk : ∀ (H1 : Heap) (locs1 : List Loc), va_P D vwCl ((q, .inr (ci, fs.set j v)) :: r) H1 → va_D A ((q, .inr (ci, fs.set j v)) :: r) → va_S A H0 H1 locs1 → W p l e R s m args below meth c H1 locs1 cells slots Q (F0 m (pc + 3) ls rest)) : W p l e R s m args below meth c H locs cells slots Q (F0 m pc ls (v :: .ref q :: rest)) := by
  have hd : ((clT ci).2.1 j).1 = (clT ci).1 := fc_decl ci hci j (Nat.lt_of_lt_of_le hj (fc_max ci hci)) hj
  exact va_putF (C := (clT ci).1) (T := (clT ci).2.1) (N := (clT ci).2.2) hx hb hts (cl_in ci _ (cl_get hci)) (tyA ci) (ty_all ci hci) (nm_all ci hci) hown hK hP hD hS 0 rfl (cl_get hci) j hj (hts _ hw) (fun x h9 => by rw [hd] at h9; exact h9) hfin hin (hd.trans ho) hty hn hfit hl hdg kk
/-- .. read -/
theorem k_get {ci ix j q : Nat} {fs : List Value} {r : va_W} {v : Value} (hx : p.tables.exec = Jvm.exec) (hb : c.code = cc) (hown : s.vm.findClass own = some m.cls) (hts : ∀ w ∈ lwG, w.before args s = true) (hK : va_K D vwCl (tyL cA) s) (hP : va_P D vwCl ((q, .inr (ci, fs)) :: r) H) (hci : ci < 9) (hj : j < (clT ci).2.2) (hw : Cond.fieldLink own ix (clT ci).1 ((clT ci).2.1 j).2.1 ((clT ci).2.1 j).2.2.1 ∈ lwG) (hv : fs[j]? = some v) (hdg : decode cc pc = .ok (.getfield ix, 3))
    (kk : W p l e R s m args below meth c H locs cells slots Q (F0 m (pc + 3) ls (v :: rest))) : W p l e R s m args below meth c H locs cells slots Q (F0 m pc ls (.ref q :: rest)) := by
  have hd : ((clT ci).2.1 j).1 = (clT ci).1 := fc_decl ci hci j (Nat.lt_of_lt_of_le hj (fc_max ci hci)) hj
  exact va_get (C := (clT ci).1) (T := (clT ci).2.1) (N := (clT ci).2.2) hx hb hts (cl_in ci _ (cl_get hci)) hown hK hP 0 rfl (cl_get hci) j hj (hts _ hw) (fun x h9 => by rw [hd] at h9; exact h9) hv hdg kk
/-- the end -/
theorem k_end {mc ms q : Nat} {grp : (Nat → Nat) → va_W} {g : Nat → Nat} (hx : p.tables.exec = Jvm.exec) (hb : c.code = cc) (hr : meth.sig.returnType = none) (hlocks : meth.locks = false) (hg : g 0 = q) (hP : va_P D vwCl (grp g) H) (hD : va_D (oA q s.heap.size) (grp g)) (hS : va_S (oA q s.heap.size) s.heap H locs) (hc : cells ≤ mc) (hs : slots ≤ ms) (hdg : decode cc pc = .ok (.return_, 1)) :
    W p l e R s m args below meth c H locs cells slots (MQ below (CQ D grp q s.heap.size) args s mc ms (oA q s.heap.size)) (F0 m pc ls []) :=
  W.widen hc hs (W.vret hx hb hr (fun t ht hW => ⟨rfl, ⟨g, hg, by rw [ht]; exact hP, hD⟩, hS.F ht⟩) hS.2.2 hdg hlocks)
end CTOR
