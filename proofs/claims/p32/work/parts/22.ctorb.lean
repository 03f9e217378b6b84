/-! CONSTRUCTORS: their calls -/
section CTORB
variable {p : Program} {l : Launch} {e : Env} {R : Room} {s : State} {m : MethodId} {args : Array Value} {below : List Frame} {meth : Method} {c : Code} {H : Heap} {locs : List Loc} {cells slots : Nat} {Q : State → Prop} {cc : ByteArray} {pc : Nat} {ls : Array Slot} {rest : List Value}
variable {N0 : Nat} {D : va_G} {cA : Nat → ClassId} {A : Nat → Prop} {ws : va_W} {own : String}
theorem CP.pre {q1 ci : Nat} (hWI : WI N0 D cA s) (hS : va_S A s.heap H locs) (hA1 : ∀ z, A z → jA N0 z) (hP : va_P D vwCl (ws ++ [(q1, .inr (ci, dfs ci))]) H) : PreS s H (va_Pc [.ref q1] (CP N0 D cA ci q1 H.size)) [.ref q1] := by
  refine ⟨fun a U g mk z => ⟨z.1, WI.call z.2.1, z.2.2.1, z.2.2.2⟩, fun U hU hW => ⟨rfl, WI.at hWI hS hA1 hU hW, by rw [hU], ?_⟩⟩
  rw [hU]
  intro i x hx
  have h1 := (List.getElem?_eq_some_iff.mp hx).1
  simp only [List.length_cons, List.length_nil] at h1
  have h2 : i = 0 := by omega
  subst h2
  cases hx
  refine hP ws.length _ ?_
  rw [List.getElem?_append_right (Nat.le_refl _), Nat.sub_self]
  rfl
/-- a call of a constructor of the same class's nest, by a public link -/
theorem k_ctor {y : MethodName} {b : ByteArray} {maxL k mc ms ci ix q1 nL : Nat} {grp : (Nat → Nat) → va_W} (hM : CM l N0 D cA y b maxL k mc ms ci grp) (hx : p.tables.exec = Jvm.exec) (hb : c.code = cc) (hml : c.maxLocals = nL) (hls : ls.size = nL) (hown : s.vm.findClass own = some m.cls) (hts : ∀ w ∈ lwG, w.before args s = true) (hWI : WI N0 D cA s) (hP : va_P D vwCl (ws ++ [(q1, .inr (ci, dfs ci))]) H) (hD : va_D A (ws ++ [(q1, .inr (ci, dfs ci))])) (hS : va_S A s.heap H locs) (hA1 : ∀ z, A z → jA N0 z) (hA : ∀ z, s.heap.size ≤ z → A z) (hq : q1 < H.size) (hAq : A q1)
    (h1 : Cond.methodLink own ix y ∈ lwG) (h2 : Cond.instanceMethod y ∈ lwG) (h3 : Cond.initialized y.cls ∈ lwG) (h4 : Cond.code y b maxL none ∈ lwG) (hy : y.name = "<init>") (hd : y.cls ≠ "java/lang/invoke/MethodHandle" ∧ y.cls ≠ "java/lang/invoke/VarHandle" ∧ (parseMethodDescriptor y.desc).map (fun d => d.parameters.length) = some 0)
    (hR : k + 2 + 1 ≤ R.frames ∧ 8 + (maxL + 11) + (100 + 60 * k) ≤ R.locals) (hst : (rest.map fun v => v.category).sum ≤ 8) (hdg : decode cc pc = .ok (.invokespecial ix, 3)) (hf : cells + mc ≤ R.cells ∧ slots + ms ≤ R.slots)
    (kk : ∀ (g : Nat → Nat) (H1 : Heap) (locs1 : List Loc), g 0 = q1 → va_P D vwCl (ws ++ grp g) H1 → va_D A (ws ++ grp g) → va_S A s.heap H1 locs1 → W p l e R s m args below meth c H1 locs1 (cells + mc) (slots + ms) Q (F0 m (pc + 3) ls rest)) : W p l e R s m args below meth c H locs cells slots Q (F0 m pc ls (.ref q1 :: rest)) := by
  have hr := va_runI (y := y) (bytes := b) (maxL := maxL) (As := []) (b := q1) (n := 0) (Ts := lwG) (H := H) (locs := locs) (cells := cells) (slots := slots) (below := below) (meth := meth) (p := p) (e := e) (R := R) (g := F0 m pc ls (.ref q1 :: rest)) (rest := rest) ⟨hx, hb, hml, hown, hts⟩ (hM q1 H.size (hA1 _ hAq) hq) (cwI 0 hts (lwG_in (List.forall_mem_cons.mpr ⟨h4, fun w h => h⟩)) rfl rfl rfl (hts _ h3) (hts _ h1) (hts _ h2) hy hd hR) (CP.pre hWI hS hA1 hP) rfl rfl hls rfl (by show 2 * 0 + _ ≤ _; omega) hdg hf
  exact ctor_call hr hP hD hS hA (fun g H1 locs1 a1 _ a3 a4 a5 => kk g H1 locs1 a1 a3 a4 a5)
/-- .. by a private link -/
theorem k_ctorN {y : MethodName} {b : ByteArray} {maxL k mc ms ci ix q1 nL : Nat} {grp : (Nat → Nat) → va_W} (hM : CM l N0 D cA y b maxL k mc ms ci grp) (hx : p.tables.exec = Jvm.exec) (hb : c.code = cc) (hml : c.maxLocals = nL) (hls : ls.size = nL) (hown : s.vm.findClass own = some m.cls) (hts : ∀ w ∈ lwG, w.before args s = true) (hWI : WI N0 D cA s) (hP : va_P D vwCl (ws ++ [(q1, .inr (ci, dfs ci))]) H) (hD : va_D A (ws ++ [(q1, .inr (ci, dfs ci))])) (hS : va_S A s.heap H locs) (hA1 : ∀ z, A z → jA N0 z) (hA : ∀ z, s.heap.size ≤ z → A z) (hq : q1 < H.size) (hAq : A q1)
    (h1 : va_Nw (.methodLinkNest own ix y "OrganCorners") s) (h2 : Cond.instanceMethod y ∈ lwG) (h3 : Cond.initialized y.cls ∈ lwG) (h4 : Cond.code y b maxL none ∈ lwG) (hy : y.name = "<init>") (hd : y.cls ≠ "java/lang/invoke/MethodHandle" ∧ y.cls ≠ "java/lang/invoke/VarHandle" ∧ (parseMethodDescriptor y.desc).map (fun d => d.parameters.length) = some 0)
    (hR : k + 2 + 1 ≤ R.frames ∧ 8 + (maxL + 11) + (100 + 60 * k) ≤ R.locals) (hst : (rest.map fun v => v.category).sum ≤ 8) (hdg : decode cc pc = .ok (.invokespecial ix, 3)) (hf : cells + mc ≤ R.cells ∧ slots + ms ≤ R.slots)
    (kk : ∀ (g : Nat → Nat) (H1 : Heap) (locs1 : List Loc), g 0 = q1 → va_P D vwCl (ws ++ grp g) H1 → va_D A (ws ++ grp g) → va_S A s.heap H1 locs1 → W p l e R s m args below meth c H1 locs1 (cells + mc) (slots + ms) Q (F0 m (pc + 3) ls rest)) : W p l e R s m args below meth c H locs cells slots Q (F0 m pc ls (.ref q1 :: rest)) := by
  have hr := va_runIN (y := y) (bytes := b) (maxL := maxL) (As := []) (b := q1) (n := 0) (Ts := lwG) (H := H) (locs := locs) (cells := cells) (slots := slots) (below := below) (meth := meth) (p := p) (e := e) (R := R) (g := F0 m pc ls (.ref q1 :: rest)) (rest := rest) ⟨hx, hb, hml, hown, hts⟩ (hM q1 H.size (hA1 _ hAq) hq) ⟨va_cnB 0 hts (lwG_in (List.forall_mem_cons.mpr ⟨h4, fun w h => h⟩)) rfl rfl rfl h1 (hts _ h3) hd hR, hy, hts _ h2⟩ (CP.pre hWI hS hA1 hP) rfl rfl hls rfl (by show 2 * 0 + _ ≤ _; omega) hdg hf
  exact ctor_call hr hP hD hS hA (fun g H1 locs1 a1 _ a3 a4 a5 => kk g H1 locs1 a1 a3 a4 a5)
/-- what a slice of the heap holds of five fixed ints, laid into an array of the world -/
theorem k_copy5 {t0 q1 ta ix : Nat} {fv : Nat → Int32} {g : Nat → Int32} (hx : p.tables.exec = Jvm.exec) (hb : c.code = cc) (hml : c.maxLocals = ls.size) (hown : s.vm.findClass own = some m.cls) (hts : ∀ w ∈ lwG, w.before args s = true) (hK : va_K D vwCl (tyL cA) s) (hP : va_P D vwCl ws H) (hD : va_D A ws) (hS : va_S A s.heap H locs) (hA1 : ∀ z, A z → jA N0 z)
    (hT : va_T .int t0 5 (fun j => .int (fv j)) (jA N0) s s.heap) (ha1 : ws[q1]? = some (ta, .inl (cA 20, 5, .inl g))) (h1 : Cond.methodLink own ix arraycopyName ∈ lwG) (h2 : Cond.native arraycopyName ∈ lwG) (h3 : Cond.static arraycopyName ∈ lwG) (h4 : Cond.initialized "java/lang/System" ∈ lwG) (hfr : 1 ≤ R.frames) (hlo : (rest.map fun v => v.category).sum + 60 ≤ R.locals) (hdg : decode cc pc = .ok (.invokestatic ix, 3))
    (kk : ∀ (H1 : Heap) (locs1 : List Loc), va_P D vwCl (ws.set q1 (ta, .inl (cA 20, 5, .inl (va_cpy fv g 0 0 5)))) H1 → va_D A (ws.set q1 (ta, .inl (cA 20, 5, .inl (va_cpy fv g 0 0 5)))) → va_S A s.heap H1 locs1 → W p l e R s m args below meth c H1 locs1 cells slots Q (F0 m (pc + 3) ls rest)) : W p l e R s m args below meth c H locs cells slots Q (F0 m pc ls (.int 5 :: .int 0 :: .ref ta :: .int 0 :: .ref t0 :: rest)) := by
  obtain ⟨cl0, e1, ⟨e2, kc, ek, cm, ec⟩, e3, e4, -, e5, e6⟩ := hT
  have hlt : t0 < s.heap.size := (Array.getElem?_eq_some_iff.mp e1).1
  have hc0 : H[t0]? = some cl0 := by rw [hS.2.1 t0 hlt (fun z => e6 (hA1 _ z))]; exact e1
  have hc1 : H[ta]? = some (vp_cell (cA 20) (5, .inl g)) := hP q1 _ ha1
  obtain ⟨-, kd, ed, cd, ecd⟩ := (hK.2 0 (cA 20, .int) rfl).1 5 (fun j => .int (g j))
  have z0 : (0 : Int32).toNatClampNeg = 0 := rfl
  have z5 : (5 : Int32).toNatClampNeg = 5 := rfl
  intro T hTh X
  obtain ⟨vm', X', step⟩ := X.arraycopy hx hown (hts _ h1) (hts _ h2) (hts _ h3) (hts _ h4) (src := t0) (dst := ta) (cs := cl0) (cd := vp_cell (cA 20) (5, .inl g)) (srcPos := 0) (destPos := 0) (n := 5) (by rw [hTh]; exact hc0) (by rw [hTh]; exact hc1) e2 (fun _ h => by cases h) e3 (fun h => by cases h) ek ed ec ecd (by simp [refKind]) (by decide) (by decide) (by decide)
    (by have i0 : (0 : Int32).toInt = 0 := rfl
        have i5 : (5 : Int32).toInt = 5 := rfl
        rw [i0, i5]; omega)
    (by have i0 : (0 : Int32).toInt = 0 := rfl
        have i5 : (5 : Int32).toInt = 5 := rfl
        rw [i0, i5]; show ¬ _ > ((arrV (cA 20) 5 (fun j => .int (g j))).slots.size : Int); rw [arrV_size]; omega)
    (fun vm₁ _ i hi => by
      have h9 : cl0.slots.getD ((0 : Int32).toNatClampNeg + i) .null = .int (fv i) := by
        rw [z0, Nat.zero_add, Array.getD_eq_getD_getElem?, e5 i (by rw [z5] at hi; exact hi)]
        rfl
      rw [h9]
      exact ⟨rfl, trivial⟩)
    (g := F0 m pc ls (.int 5 :: .int 0 :: .ref ta :: .int 0 :: .ref t0 :: rest)) rfl (by rw [hml]) (rest := rest) rfl (by rw [hb]; exact hdg) hfr (by have := nfw_ok; show 2 * 0 + _ + _ ≤ _; omega)
  have ecp : copied cl0 (vp_cell (cA 20) (5, .inl g)) 0 0 5 = vp_cell (cA 20) (5, .inl (va_cpy fv g 0 0 5)) := va_copiedX (fun z => .int z) cl0 (cA 20) fv g e5 (by decide)
  rw [ecp] at X' step
  have hl : ta < H.size := (Array.getElem?_eq_some_iff.mp hc1).1
  have hheap : ((T.setVm vm').setCell ta (vp_cell (cA 20) (5, .inl (va_cpy fv g 0 0 5)))).heap = H.setIfInBounds ta (vp_cell (cA 20) (5, .inl (va_cpy fv g 0 0 5))) := by rw [← hTh]; rfl
  have oq : ∀ q : Nat, q ≠ ta → (H.setIfInBounds ta (vp_cell (cA 20) (5, .inl (va_cpy fv g 0 0 5))))[q]? = H[q]? := fun q hq => by simp [Array.getElem?_setIfInBounds, Ne.symm hq]
  have hat : A ta := hD.2 q1 _ ha1
  obtain ⟨t, b1, b2⟩ := kk _ _ (hP.set hD ha1 (show (H.setIfInBounds ta _)[ta]? = some _ by simp [Array.getElem?_setIfInBounds, hl]) oq) (hD.set ha1) ⟨by simp; exact hS.1, fun q g1 g2 => by
      rw [oq q (fun h => g2 (h ▸ hat))]
      exact hS.2.1 q g1 g2, fun q hq => by
      rcases List.mem_append.mp hq with h | h
      · exact hS.2.2 q h
      · obtain ⟨z, -, hz⟩ := List.mem_map.mp h
        rw [← hz]
        exact hat⟩ _ hheap X'
  exact ⟨t, step t b1, b2⟩
end CTORB
