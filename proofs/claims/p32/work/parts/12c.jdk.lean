/-! SMALL METHODS OF THE JDK: their contracts -/
section JDKC
variable {p : Program} {l : Launch} {e : Env} {R : Room} {s : State} {m : MethodId} {args : Array Value} {below : List Frame} {meth : Method} {c : Code} {H : Heap} {locs : List Loc} {cells slots : Nat} {Q : State → Prop} {cc : ByteArray} {nL : Nat} {pc : Nat} {ls : Array Slot} {rest st0 : List Value} {a : Array Value}
variable {N0 : Nat} {L : Nat → Nat}
/-- what the law may write: what was made behind its start -/
abbrev jA (N0 : Nat) : Nat → Prop := fun q => N0 ≤ q
def rmJ (k : Nat) : Room := { frames := k, cells := 0, slots := 0, locals := 40 * k }
def jQ (v : Option Value) : Array Value → State → Outcome → State → Prop := fun _ st oc t => oc = .returned v ∧ va_F (fun _ => False) st t
def jB (N0 : Nat) (L : Nat → Nat) (B : State → Prop) : State → Prop := fun U => SF L (jA N0) U U.heap ∧ B U
abbrev jM (l : Launch) (N0 : Nat) (L : Nat → Nat) (y : MethodName) (b : ByteArray) (maxL : Nat) (ret : Option FieldType) (k : Nat) (B : State → Prop) (as : List Value) (v : Option Value) : Prop :=
  Met l y (.code y b maxL ret :: lwG) (rmJ k) (va_Pc as (jB N0 L B)) (jQ v) 0 0 (fun _ => False)
theorem lwG_good {w : Cond} (h : w ∈ lwG) : goodWord w = true := (List.mem_filter.mp h).2
theorem lwG_in {ws : List Cond} (h : ∀ w ∈ ws, w ∈ lwG) : GoodIn lwG ws := fun w hw => ⟨h w hw, good_of_word (lwG_good (h w hw))⟩
theorem SF.at (h : SF L (jA N0) s s.heap) (hS : va_S (jA N0) s.heap H locs) {U : State} (hU : U.heap = H) (hW : s.WarmedH U.vm) : SF L (jA N0) U U.heap := by
  rw [hU]
  exact (SF.moved hW h).kept hS.2.1
theorem SF.call {U : State} {g : JFrame} {mk : MethodId} {a : Array Value} (h : SF L (jA N0) U U.heap) : SF L (jA N0) (U.calling g mk a) (U.calling g mk a).heap :=
  SF.moved (U := U.calling g mk a) (State.WarmedH.refl U) h
theorem j_call {v : Option Value} (hr : va_Run p l e R s m args below meth c H locs cells slots 0 0 (F0 m pc ls st0) rest (jQ v a) (fun _ => False))
    (kk : ∀ H1 : Heap, H.size ≤ H1.size → (∀ q : Nat, q < H.size → H1[q]? = H[q]?) → W p l e R s m args below meth c H1 locs cells slots Q (F0 m (pc + 3) ls (v.toList ++ rest))) : W p l e R s m args below meth c H locs cells slots Q (F0 m pc ls st0) := by
  intro T hT X
  obtain ⟨v', st₀, t, T', L9, h0, X', hL, e1, e2, ⟨hv, hz, hk⟩, st⟩ := hr T hT X
  cases hv
  have : L9 = [] := by
    cases L9 with
    | nil => rfl
    | cons q r => exact (hL q List.mem_cons_self).elim
  subst this
  rw [List.append_nil] at X'
  rw [h0] at hz hk
  obtain ⟨t2, a1, b1⟩ := kk T'.heap (by rw [e1]; exact hz) (fun q hq => by rw [e1]; exact hk q hq (fun z => z)) T' rfl X'
  exact ⟨t2, st t2 a1, b1⟩
theorem jS (hS : va_S (jA N0) s.heap H locs) {H1 : Heap} (hz : H.size ≤ H1.size) (hk : ∀ q : Nat, q < H.size → H1[q]? = H[q]?) : va_S (jA N0) s.heap H1 locs :=
  ⟨Nat.le_trans hS.1 hz, fun q h1 h2 => (hk q (Nat.lt_of_lt_of_le h1 hS.1)).trans (hS.2.1 q h1 h2), hS.2.2⟩
theorem jwsV {own C : String} {ix maxL : Nat} {y : MethodName} {b : ByteArray} {ret : Option FieldType} (h1 : Cond.methodLink own ix y ∈ lwG) (h2 : Cond.instanceMethod y ∈ lwG) (h3 : Cond.selects C y y ∈ lwG) (h4 : Cond.initialized C ∈ lwG) (h5 : Cond.code y b maxL ret ∈ lwG) : GoodIn lwG (wsV own ix C y (.code y b maxL ret :: lwG)) := by
  refine lwG_in fun w hw => ?_
  unfold wsV at hw
  simp only [List.cons_append, List.nil_append, List.mem_cons] at hw
  rcases hw with rfl | rfl | rfl | rfl | rfl | h
  · exact h1
  · exact h2
  · exact h3
  · exact h4
  · exact h5
  · exact h
theorem jwsS {own : String} {ix maxL : Nat} {y : MethodName} {b : ByteArray} {ret : Option FieldType} (h1 : Cond.methodLink own ix y ∈ lwG) (h2 : Cond.static y ∈ lwG) (h4 : Cond.initialized y.cls ∈ lwG) (h5 : Cond.code y b maxL ret ∈ lwG) : GoodIn lwG (va_wsS own ix y (.code y b maxL ret :: lwG)) := by
  refine lwG_in fun w hw => ?_
  unfold va_wsS at hw
  simp only [List.cons_append, List.nil_append, List.mem_cons] at hw
  rcases hw with rfl | rfl | rfl | rfl | h
  · exact h1
  · exact h2
  · exact h4
  · exact h5
  · exact h
/-- an instance call of a small method, on a text -/
theorem j_V {own C : String} {ix maxL k n b : Nat} {y : MethodName} {bytes : ByteArray} {ret : Option FieldType} {As : List Value} {v : Option Value} {B : State → Prop} (hx : p.tables.exec = Jvm.exec) (hb : c.code = cc) (hml : c.maxLocals = ls.size) (hown : s.vm.findClass own = some m.cls) (hts : ∀ w ∈ lwG, w.before args s = true) (hF : SF L (jA N0) s s.heap) (hS : va_S (jA N0) s.heap H locs)
    (hM : jM l N0 L y bytes maxL ret k B (.ref b :: As) v) (hO : va_O C b (jA N0) s s.heap) (hBc : ∀ (U : State) (g : JFrame) (mk : MethodId) (a : Array Value), B U → B (U.calling g mk a)) (hBU : ∀ U : State, U.heap = H → s.WarmedH U.vm → B U)
    (h1 : Cond.methodLink own ix y ∈ lwG) (h2 : Cond.instanceMethod y ∈ lwG) (h3 : Cond.selects C y y ∈ lwG) (h4 : Cond.initialized C ∈ lwG) (h5 : Cond.code y bytes maxL ret ∈ lwG) (hd : y.cls = C ∧ y.cls ≠ "java/lang/invoke/MethodHandle" ∧ y.cls ≠ "java/lang/invoke/VarHandle" ∧ (parseMethodDescriptor y.desc).map (fun d => d.parameters.length) = some n) (hn : As.length = n)
    (hRf : k + 1 ≤ R.frames) (hRl : 19 + maxL + 40 * k ≤ R.locals) (hc : cells ≤ R.cells) (hs : slots ≤ R.slots) (hst : st0 = As.reverse ++ .ref b :: rest) (hW : (rest.map fun v => v.category).sum ≤ 8) (hdg : decode cc pc = .ok (.invokevirtual ix, 3))
    (kk : ∀ H1 : Heap, H.size ≤ H1.size → (∀ q : Nat, q < H.size → H1[q]? = H[q]?) → W p l e R s m args below meth c H1 locs cells slots Q (F0 m (pc + 3) ls (v.toList ++ rest))) : W p l e R s m args below meth c H locs cells slots Q (F0 m pc ls st0) := by
  refine j_call (rest := rest) (va_runV (Ts := lwG) (C := C) (b := b) (As := As) (n := n) ⟨hx, hb, hml, hown, hts⟩ hM (cwV n hts (jwsV h1 h2 h3 h4 h5) rfl rfl rfl hd ⟨hRf, by show 8 + (maxL + 11) + 40 * k ≤ _; omega⟩) ⟨?_, ?_, ?_⟩ rfl hn rfl hst (by show 2 * 0 + _ ≤ _; omega) hdg ⟨hc, hs⟩) kk
  · intro a U g mk ⟨h1, h2, h3⟩
    exact ⟨h1, SF.call h2, hBc _ _ _ _ h3⟩
  · obtain ⟨cell, g1, g2, g3, g4⟩ := hO
    refine ⟨cell, ?_, g2, g3⟩
    rw [hS.2.1 b (Array.getElem?_eq_some_iff.mp g1).1 g4]; exact g1
  · intro U hU hW
    exact ⟨rfl, hF.at hS hU hW, hBU U hU hW⟩
theorem j_S {own : String} {ix maxL k n : Nat} {y : MethodName} {bytes : ByteArray} {ret : Option FieldType} {As : List Value} {v : Option Value} {B : State → Prop} (hx : p.tables.exec = Jvm.exec) (hb : c.code = cc) (hml : c.maxLocals = ls.size) (hown : s.vm.findClass own = some m.cls) (hts : ∀ w ∈ lwG, w.before args s = true) (hF : SF L (jA N0) s s.heap) (hS : va_S (jA N0) s.heap H locs)
    (hM : jM l N0 L y bytes maxL ret k B As v) (hBc : ∀ (U : State) (g : JFrame) (mk : MethodId) (a : Array Value), B U → B (U.calling g mk a)) (hBU : ∀ U : State, U.heap = H → s.WarmedH U.vm → B U)
    (h1 : Cond.methodLink own ix y ∈ lwG) (h2 : Cond.static y ∈ lwG) (h4 : Cond.initialized y.cls ∈ lwG) (h5 : Cond.code y bytes maxL ret ∈ lwG) (hd : y.cls ≠ "java/lang/invoke/MethodHandle" ∧ y.cls ≠ "java/lang/invoke/VarHandle" ∧ (parseMethodDescriptor y.desc).map (fun d => d.parameters.length) = some n) (hn : As.length = n)
    (hRf : k + 1 ≤ R.frames) (hRl : 19 + maxL + 40 * k ≤ R.locals) (hc : cells ≤ R.cells) (hs : slots ≤ R.slots) (hst : st0 = As.reverse ++ rest) (hW : (rest.map fun v => v.category).sum ≤ 8) (hdg : decode cc pc = .ok (.invokestatic ix, 3))
    (kk : ∀ H1 : Heap, H.size ≤ H1.size → (∀ q : Nat, q < H.size → H1[q]? = H[q]?) → W p l e R s m args below meth c H1 locs cells slots Q (F0 m (pc + 3) ls (v.toList ++ rest))) : W p l e R s m args below meth c H locs cells slots Q (F0 m pc ls st0) := by
  refine j_call (rest := rest) (va_runS (Ts := lwG) (As := As) (n := n) ⟨hx, hb, hml, hown, hts⟩ hM (va_cwS n hts (jwsS h1 h2 h4 h5) rfl rfl rfl hd ⟨hRf, by show 8 + (maxL + 11) + 40 * k ≤ _; omega⟩) ⟨?_, ?_⟩ rfl hn rfl hst (by show 2 * 0 + _ ≤ _; omega) hdg ⟨hc, hs⟩) kk
  · intro a U g mk ⟨h1, h2, h3⟩
    exact ⟨h1, SF.call h2, hBc _ _ _ _ h3⟩
  · intro U hU hW
    exact ⟨rfl, hF.at hS hU hW, hBU U hU hW⟩
theorem jEnd {t : State} (ht : t.heap = s.heap) : va_F (fun _ => False) s t := ⟨by rw [ht]; exact Nat.le_refl _, fun q _ _ => by rw [ht]⟩
theorem jF0 {q : Loc} (h : q ∈ ([] : List Loc)) : False := by cases h
/-- from a start -/
theorem j_of {y : MethodName} {b : ByteArray} {maxL k : Nat} {ret : Option FieldType} {B : State → Prop} {as : List Value} {v : Option Value} (hy : plainName y.cls = true)
    (body : ∀ (p : Program) (e : Env) (s : State) (m : MethodId) (args : Array Value) (below : List Frame) (meth : Method) (c : Code), p.tables.exec = Jvm.exec → c.code = b → c.maxLocals = maxL → meth.sig.returnType = ret → meth.locks = false → s.vm.findClass y.cls = some m.cls → (∀ w ∈ lwG, w.before args s = true) → SF L (jA N0) s s.heap → B s → args = as.toArray →
      W p l e (rmJ k) s m args below meth c s.heap [] 0 0 (MQ below (jQ v) args s 0 0 (fun _ => False)) (entryFrame m as.toArray maxL)) : jM l N0 L y b maxL ret k B as v := by
  refine Met.ofW (cc := b) (maxL := maxL) (ret := ret) hy rfl ?_
  intro p e s m args below meth c s₁ B0 hml hv
  obtain ⟨hv, hF, hB⟩ := hv
  have hts0 := atoms_spec (ws := Cond.code y b maxL ret :: lwG) B0.pre
  have := body p e s m args below meth c B0.exec B0.bytes hml B0.returns B0.notSynchronized (findClass_of_methodNamed B0.named) (fun w hw => hts0 w (List.mem_cons_of_mem _ hw)) hF hB hv
  rw [← hv] at this
  exact this
end JDKC
