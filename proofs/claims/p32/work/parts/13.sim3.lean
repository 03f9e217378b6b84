/-! STEPS BY THE POOL: fields, constants, statics, the JDK's small methods -/
section SIM3
variable {p : Program} {l : Launch} {e : Env} {R : Room} {s : State} {m : MethodId} {args : Array Value} {below : List Frame} {meth : Method} {c : Code} {H H0 : Heap} {locs : List Loc} {cells slots : Nat} {Q : State → Prop} {cc : ByteArray} {nL : Nat}
variable {L : Nat → Nat} {D : va_G} {cA : Nat → ClassId} {A : Nat → Prop} {pc pc' : Nat} {ls : Array Slot} {pl pl' st st' : List Value} {μ μ' : PM} {own : String} {pool : Nat → Ent}
theorem cls29 {k : Nat} (h : cls k = 29) : ∃ j, j < 5 ∧ k = 410 + j := by
  by_cases hk : k < 430
  · have key : ∀ k, k < 430 → cls k = 29 → 410 ≤ k ∧ k < 415 := by decide +kernel
    obtain ⟨h1, h2⟩ := key k hk h
    exact ⟨k - 410, by omega, by omega⟩
  · exfalso
    have bl : ∀ n, n ≤ 430 → Nat.blt k n = false := by
      intro n hn
      cases hb : Nat.blt k n
      · rfl
      · have := Nat.blt_eq.mp hb; omega
    have be : ∀ n, n < 430 → Nat.beq k n = false := by
      intro n hn
      cases hb : Nat.beq k n
      · rfl
      · have := Nat.eq_of_beq_eq_true hb; omega
    unfold cls ly lyTop at h
    rw [bl 23 (by decide), bl 345 (by decide), be 390 (by decide), be 400 (by decide), be 402 (by decide), be 401 (by decide), bl 410 (by decide), bl 415 (by decide), bl 420 (by decide), bl 430 (by decide)] at h
    simp at h
theorem cls30 {k : Nat} (h : cls k = 30) : ∃ j, j < 10 ∧ k = 420 + j := by
  by_cases hk : k < 430
  · have key : ∀ k, k < 430 → cls k = 30 → 420 ≤ k := by decide +kernel
    have h1 := key k hk h
    exact ⟨k - 420, by omega, by omega⟩
  · exfalso
    have bl : ∀ n, n ≤ 430 → Nat.blt k n = false := by
      intro n hn
      cases hb : Nat.blt k n
      · rfl
      · have := Nat.blt_eq.mp hb; omega
    have be : ∀ n, n < 430 → Nat.beq k n = false := by
      intro n hn
      cases hb : Nat.beq k n
      · rfl
      · have := Nat.eq_of_beq_eq_true hb; omega
    unfold cls ly lyTop at h
    rw [bl 23 (by decide), bl 345 (by decide), be 390 (by decide), be 400 (by decide), be 402 (by decide), be 401 (by decide), bl 410 (by decide), bl 415 (by decide), bl 420 (by decide), bl 430 (by decide)] at h
    simp at h
theorem sn_get (hx : p.tables.exec = Jvm.exec) (hb : c.code = cc) (ha : At_ s.heap L D cA A nL H locs ls pl μ) (hown : s.vm.findClass own = some m.cls) (hts : ∀ w ∈ lwG, w.before args s = true) (hK : va_K D vwCl (tyL cA) s) (hF : SF L A s s.heap) (hpf : PF own pool) {ix : Nat} (hdg : decode cc pc = .ok (.getfield ix, 3)) (h : gtf pool pc ix pl st μ = some (.inl (pc', pl', st', μ'))) (k : Kt p l e R s m args below meth c s.heap cells slots Q L D cA A nL pc' pl' st' μ') : Wg p l e R s m args below meth c H locs cells slots Q L pc ls st := by
  obtain ⟨hok, hw, -⟩ := hpf ix
  unfold gtf at h
  split at h
  · rename_i kk r
    split at h
    · rename_i ci j z he
      rw [he] at hok hw
      simp only [entOK, Bool.and_eq_true, decide_eq_true_eq] at hok
      split at h
      · rename_i hc
        obtain ⟨rfl, rfl, rfl, rfl⟩ := nx_inv h
        exact get_obj hx hb hown hts hK ha (Nat.blt_eq.mp hok.1) hc hok.2 (hw _ List.mem_cons_self) hdg (k.go ha)
      · cases h
    · rename_i ci j z he
      rw [he] at hok hw
      simp only [entOK, Bool.and_eq_true, decide_eq_true_eq] at hok
      split at h
      · rename_i hc
        obtain ⟨rfl, rfl, rfl, rfl⟩ := nx_inv h
        exact get_obj hx hb hown hts hK ha (Nat.blt_eq.mp hok.1) hc hok.2 (hw _ List.mem_cons_self) hdg (k.go ha)
      · cases h
    · rename_i ci j z he
      rw [he] at hok hw
      simp only [entOK, Bool.and_eq_true, decide_eq_true_eq] at hok
      split at h
      · rename_i hc
        obtain ⟨rfl, rfl, rfl, rfl⟩ := nx_inv h
        exact get_obj hx hb hown hts hK ha (Nat.blt_eq.mp hok.1) hc hok.2 (hw _ List.mem_cons_self) hdg (k.go ha)
      · cases h
    · rename_i ci j o he
      rw [he] at hok hw
      simp only [entOK, Bool.and_eq_true, decide_eq_true_eq] at hok
      split at h
      · rename_i hc
        obtain ⟨rfl, rfl, rfl, rfl⟩ := nx_inv h
        exact get_obj hx hb hown hts hK ha (Nat.blt_eq.mp hok.1) hc hok.2 (hw _ List.mem_cons_self) hdg (k.go ha)
      · cases h
    · rename_i ci j z he
      rw [he] at hok hw
      simp only [entOK, decide_eq_true_eq] at hok
      obtain ⟨rfl, hj⟩ := hok
      split at h
      · rename_i hc
        obtain ⟨rfl, rfl, rfl, rfl⟩ := nx_inv h
        obtain ⟨i, hi, rfl⟩ := cls29 hc
        obtain ⟨f1, f2, f3, f4⟩ := hF.2.1.1 i hi
        rcases hj with rfl | rfl
        · have e1 : 420 + 2 * (410 + i - 410) + 0 = 420 + 2 * i := by omega
          rw [e1] at k
          exact vk_getf hx hb f2 ha.2.2.2 hown (hts _ (hw _ List.mem_cons_self)) (fun _ h9 => h9) hdg (k.go ha)
        · have e1 : 420 + 2 * (410 + i - 410) + 1 = 421 + 2 * i := by omega
          rw [e1] at k
          exact vk_getf hx hb f3 ha.2.2.2 hown (hts _ (hw _ List.mem_cons_self)) (fun _ h9 => h9) hdg (k.go ha)
      · cases h
    · cases h
  · cases h
theorem sn_ldcI2 (hx : p.tables.exec = Jvm.exec) (hb : c.code = cc) (ha : At_ s.heap L D cA A nL H locs ls pl μ) (hown : s.vm.findClass own = some m.cls) (hts : ∀ w ∈ lwG, w.before args s = true) (hpf : PF own pool) {ix : Nat} (hdg : decode cc pc = .ok (.ldc ix, 2)) (h : ldcI pool pc 2 ix pl st μ = some (.inl (pc', pl', st', μ'))) (k : Kt p l e R s m args below meth c s.heap cells slots Q L D cA A nL pc' pl' st' μ') : Wg p l e R s m args below meth c H locs cells slots Q L pc ls st := by
  obtain ⟨hok, hw, -⟩ := hpf ix
  unfold ldcI at h
  split at h
  · rename_i v he
    rw [he] at hw
    obtain ⟨rfl, rfl, rfl, rfl⟩ := nx_inv h
    exact lv_ldc hx hb hown (hts _ (hw _ List.mem_cons_self)) hdg (k.go ha)
  · cases h
theorem sn_ldcI3 (hx : p.tables.exec = Jvm.exec) (hb : c.code = cc) (ha : At_ s.heap L D cA A nL H locs ls pl μ) (hown : s.vm.findClass own = some m.cls) (hts : ∀ w ∈ lwG, w.before args s = true) (hpf : PF own pool) {ix : Nat} (hdg : decode cc pc = .ok (.ldc_w ix, 3)) (h : ldcI pool pc 3 ix pl st μ = some (.inl (pc', pl', st', μ'))) (k : Kt p l e R s m args below meth c s.heap cells slots Q L D cA A nL pc' pl' st' μ') : Wg p l e R s m args below meth c H locs cells slots Q L pc ls st := by
  obtain ⟨hok, hw, -⟩ := hpf ix
  unfold ldcI at h
  split at h
  · rename_i v he
    rw [he] at hw
    obtain ⟨rfl, rfl, rfl, rfl⟩ := nx_inv h
    exact lv_ldcw hx hb hown (hts _ (hw _ List.mem_cons_self)) hdg (k.go ha)
  · cases h
theorem sn_ldc2 (hx : p.tables.exec = Jvm.exec) (hb : c.code = cc) (ha : At_ s.heap L D cA A nL H locs ls pl μ) (hown : s.vm.findClass own = some m.cls) (hts : ∀ w ∈ lwG, w.before args s = true) (hpf : PF own pool) {ix : Nat} (hdg : decode cc pc = .ok (.ldc2_w ix, 3)) (h : ldc2 pool pc ix pl st μ = some (.inl (pc', pl', st', μ'))) (k : Kt p l e R s m args below meth c s.heap cells slots Q L D cA A nL pc' pl' st' μ') : Wg p l e R s m args below meth c H locs cells slots Q L pc ls st := by
  obtain ⟨hok, hw, -⟩ := hpf ix
  unfold ldc2 at h
  split at h
  · rename_i v he
    rw [he] at hw
    obtain ⟨rfl, rfl, rfl, rfl⟩ := nx_inv h
    exact lv_ldc2 hx hb hown (hts _ (hw _ List.mem_cons_self)) hdg (k.go ha)
  · rename_i v he
    rw [he] at hw
    obtain ⟨rfl, rfl, rfl, rfl⟩ := nx_inv h
    exact lv_ldc2d hx hb hown (hts _ (hw _ List.mem_cons_self)) hdg (k.go ha)
  · cases h
theorem sn_gst (hx : p.tables.exec = Jvm.exec) (hb : c.code = cc) (ha : At_ s.heap L D cA A nL H locs ls pl μ) (hown : s.vm.findClass own = some m.cls) (hts : ∀ w ∈ lwG, w.before args s = true) (hF : SF L A s s.heap) (hpf : PF own pool) {ix : Nat} (hdg : decode cc pc = .ok (.getstatic ix, 3)) (h : gst pool pc ix pl st μ = some (.inl (pc', pl', st', μ'))) (k : Kt p l e R s m args below meth c s.heap cells slots Q L D cA A nL pc' pl' st' μ') : Wg p l e R s m args below meth c H locs cells slots Q L pc ls st := by
  obtain ⟨hok, hw, hn⟩ := hpf ix
  unfold gst at h
  split at h
  · rename_i kk a b he
    rw [he] at hok hw
    simp only [entOK, decide_eq_true_eq] at hok
    obtain ⟨rfl, rfl, rfl, rfl⟩ := nx_inv h
    rcases hok with rfl | rfl | rfl
    · exact va_gets hx hb hF.1.1.1 ha.2.2.2 hown (hts _ (hw _ List.mem_cons_self)) (fun _ h9 => h9) hdg (k.go ha)
    · exact va_gets hx hb hF.1.2.1.1 ha.2.2.2 hown (hts _ (hw _ List.mem_cons_self)) (fun _ h9 => h9) hdg (k.go ha)
    · exact va_gets hx hb hF.1.2.2.2 ha.2.2.2 hown (hts _ (hw _ List.mem_cons_self)) (fun _ h9 => h9) hdg (k.go ha)
  · rename_i kk a b he
    rw [he] at hn
    obtain ⟨e1, e2, e3⟩ := hn.1 rfl
    simp only at e3
    subst e1; subst e2; subst e3
    obtain ⟨rfl, rfl, rfl, rfl⟩ := nx_inv h
    exact va_getsN hx hb hF.1.2.2.1.1 ha.2.2.2 hown (va_Nw.use rfl hF.2.2.1.2.2) (fun _ h9 => h9) hdg (k.go ha)
  · cases h
theorem sn_ifa (hx : p.tables.exec = Jvm.exec) (hb : c.code = cc) (ha : At_ s.heap L D cA A nL H locs ls pl μ) (hF : SF L A s s.heap) {off : Int} (hdg : decode cc pc = .ok (.if_acmp .ne off, 3)) (h : ifa pc off pl st μ = some (.inl (pc', pl', st', μ'))) (k : Kt p l e R s m args below meth c s.heap cells slots Q L D cA A nL pc' pl' st' μ') : Wg p l e R s m args below meth c H locs cells slots Q L pc ls st := by
  unfold ifa at h
  split at h
  · rename_i y x r
    split at h
    · rename_i hc
      obtain ⟨i, hi, rfl⟩ := cls29 hc.1
      obtain ⟨j, hj, rfl⟩ := cls29 hc.2
      split at h
      · rename_i hne
        obtain ⟨ht, rfl, rfl, rfl⟩ := jp_inv h
        refine lv_acmp_ne (rx := some (L (410 + i))) (ry := some (L (410 + j))) hx hb hdg ht (fun _ => k.go ha) (fun q => ?_)
        exact absurd (congrArg (410 + ·) (hF.2.2.2 i j hi hj (Option.some.inj q))) hne
      · rename_i hne
        have he := Classical.not_not.mp hne
        obtain ⟨rfl, rfl, rfl, rfl⟩ := nx_inv h
        intro T hT X
        obtain ⟨t, a, b⟩ := k.go ha T hT X
        refine ⟨t, ?_, b⟩
        rw [he]
        show Steps p.tables e below (T.setTop (F0 m pc ls (.ref (L (410 + j)) :: .ref (L (410 + j)) :: r.map (lf L)))) t
        jvm_step X.here [X.here.top, hx, hb, hdg, Op.if_acmp.holds]
        exact ⟨_, rfl, _, rfl, by rw [if_pos rfl]; exact a⟩
    · cases h
  · cases h
theorem catS_lf (st : List Value) : ((st.map (lf L)).map fun v => v.category).sum = catS st := by
  unfold catS
  rw [List.map_map]
  congr 1
  apply List.map_congr_left
  intro v _
  cases v <;> rfl
theorem catS_cons (v : Value) (st : List Value) : catS (v :: st) = v.category + catS st := by simp [catS]
theorem nfw_ok : nativeFrameWords "java/lang/System" "arraycopy" 5 + 11 ≤ 60 := by decide +kernel
theorem sn_jdkS (hx : p.tables.exec = Jvm.exec) (hb : c.code = cc) (hml : c.maxLocals = nL) (ha : At_ s.heap L D cA A nL H locs ls pl μ) (hown : s.vm.findClass own = some m.cls) (hts : ∀ w ∈ lwG, w.before args s = true) (hK : va_K D vwCl (tyL cA) s) (hF : SF L A s s.heap) (hpf : PF own pool) (hRf : 8 ≤ R.frames) (hRl : 100 ≤ R.locals) (hcl : cells ≤ R.cells) (hsl : slots ≤ R.slots) {ix id : Nat} {z : Nat × Value} (he : pool ix = (5, id, z)) (hdg : decode cc pc = .ok (.invokestatic ix, 3)) (h : jdk id pc pl st μ = some (.inl (pc', pl', st', μ'))) (hid : id < 4) (k : Kt p l e R s m args below meth c s.heap cells slots Q L D cA A nL pc' pl' st' μ') : Wg p l e R s m args below meth c H locs cells slots Q L pc ls st := by
  obtain ⟨hok, hw, -⟩ := hpf ix
  rw [he] at hw
  obtain ⟨z1, z2⟩ := z
  have hml' : c.maxLocals = ls.size := by rw [hml]; exact ha.1.2.1.symm
  unfold jdk at h
  cases hcat : Nat.ble (catS st) 8
  · rw [hcat] at h; cases h
  · rw [hcat] at h
    simp only [cond_true] at h
    have hcat := Nat.ble_eq.mp hcat
    match id, hid, hw, h with
    | 0, _, hw, h =>
      unfold jdk0 at h
      simp only at h
      split at h
      · rename_i y x r
        obtain ⟨rfl, rfl, rfl, rfl⟩ := nx_inv h
        rw [catS_cons, catS_cons] at hcat
        exact va_mmax hx hb hml' hown (hts _ (hw _ List.mem_cons_self)) (hts _ (hw _ (List.mem_cons_of_mem _ List.mem_cons_self))) (hts _ (hw _ (List.mem_cons_of_mem _ (List.mem_cons_of_mem _ List.mem_cons_self)))) (hts _ (hw _ (List.mem_cons_of_mem _ (List.mem_cons_of_mem _ (List.mem_cons_of_mem _ List.mem_cons_self))))) (by omega) (by rw [catS_lf]; omega) hcl hsl hdg (k.go ha)
      · cases h
    | 1, _, hw, h =>
      unfold jdk0 at h
      simp only at h
      split at h
      · rename_i y x r
        obtain ⟨rfl, rfl, rfl, rfl⟩ := nx_inv h
        rw [catS_cons, catS_cons] at hcat
        exact va_mmin hx hb hml' hown (hts _ (hw _ List.mem_cons_self)) (hts _ (hw _ (List.mem_cons_of_mem _ List.mem_cons_self))) (hts _ (hw _ (List.mem_cons_of_mem _ (List.mem_cons_of_mem _ List.mem_cons_self)))) (hts _ (hw _ (List.mem_cons_of_mem _ (List.mem_cons_of_mem _ (List.mem_cons_of_mem _ List.mem_cons_self))))) (by omega) (by rw [catS_lf]; omega) hcl hsl hdg (k.go ha)
      · cases h
    | 2, _, hw, h =>
      unfold jdk0 at h
      simp only at h
      split at h
      · rename_i x r
        obtain ⟨rfl, rfl, rfl, rfl⟩ := nx_inv h
        rw [catS_cons] at hcat
        exact va_mabs hx hb hml' hown (hts _ (hw _ List.mem_cons_self)) (hts _ (hw _ (List.mem_cons_of_mem _ List.mem_cons_self))) (hts _ (hw _ (List.mem_cons_of_mem _ (List.mem_cons_of_mem _ List.mem_cons_self)))) (hts _ (hw _ (List.mem_cons_of_mem _ (List.mem_cons_of_mem _ (List.mem_cons_of_mem _ List.mem_cons_self))))) (by omega) (by rw [catS_lf]; omega) hcl hsl hdg (k.go ha)
      · cases h
    | 3, _, hw, h =>
      unfold jdk0 at h
      simp only at h
      split at h
      · rename_i n j bb i aa r _ _
        split at h
        · rename_i hc
          obtain ⟨c1, c2, c3, rfl, rfl, c4, c5, c6⟩ := hc
          have h9 : nx (pc + 3) pl r (cpI μ aa 0 bb 0 n.toNatClampNeg) = some (.inl (pc', pl', st', μ')) := by assumption
          obtain ⟨rfl, rfl, rfl, rfl⟩ := nx_inv h9
          rw [catS_cons, catS_cons, catS_cons, catS_cons, catS_cons] at hcat
          have h1 := cls_in (μ := μ) (k := aa) (Or.inl (by rw [c1]; decide))
          have h2 := cls_in (μ := μ) (k := bb) (Or.inl (by rw [c2]; decide))
          have hnf := nfw_ok
          refine va_copyi (f := mI μ aa) (g := mI μ bb) hx hb hml' hown (hts _ (hw _ List.mem_cons_self)) (hts _ (hw _ (List.mem_cons_of_mem _ List.mem_cons_self))) (hts _ (hw _ (List.mem_cons_of_mem _ (List.mem_cons_of_mem _ List.mem_cons_self)))) (hts _ (hw _ (List.mem_cons_of_mem _ (List.mem_cons_of_mem _ (List.mem_cons_of_mem _ List.mem_cons_self))))) hK ha.2.1 ha.2.2.1 ha.2.2.2 (ixN aa) (ixN bb) 0 0 ((WS_get h1).trans (congrArg _ (congrArg _ (entW_ints (Or.inl c1))))) ((WS_get h2).trans (congrArg _ (congrArg _ (entW_ints (Or.inl c2))))) rfl rfl rfl (by decide) (by decide) c4 (by show 0 + _ ≤ _; omega) (by show 0 + _ ≤ _; omega) (fun _ _ => rfl) (by omega) (by rw [catS_lf]; omega) hdg (fun H1 locs1 hP hD hS => ?_)
          have eI : mI (cpI μ aa 0 bb 0 n.toNatClampNeg) bb = va_cpy (mI μ aa) (mI μ bb) 0 0 n.toNatClampNeg := by
            funext q
            have e1 : Nat.beq bb bb = true := Nat.beq_refl bb
            simp only [mI, cpI, va_cpy, e1, Bool.true_and]
            by_cases hq : q < n.toNatClampNeg
            · have e2 : Nat.ble 0 q = true := Nat.ble_eq.mpr (Nat.zero_le q)
              have e3 : Nat.blt q (0 + n.toNatClampNeg) = true := Nat.blt_eq.mpr (by omega)
              rw [e2, e3]
              simp [hq]
            · have e3 : Nat.blt q (0 + n.toNatClampNeg) = false := by
                cases hb : Nat.blt q (0 + n.toNatClampNeg)
                · rfl
                · have := Nat.blt_eq.mp hb; omega
              rw [e3]
              simp [hq]
          have eO : ∀ i, i ≠ bb → mI (cpI μ aa 0 bb 0 n.toNatClampNeg) i = mI μ i := by
            intro i hi
            funext q
            have e1 : Nat.beq i bb = false := by
              cases hb : Nat.beq i bb
              · rfl
              · exact absurd (Nat.eq_of_beq_eq_true hb) hi
            simp only [mI, cpI, e1, Bool.false_and, cond_false]
          have e9 : (WS L cA μ).set (ixN bb) (L bb, .inl (cA 20, len bb, .inl (va_cpy (mI μ aa) (mI μ bb) 0 0 n.toNatClampNeg))) = WS L cA (cpI μ aa 0 bb 0 n.toNatClampNeg) :=
            WS_set h2.fx rfl (by rw [entW_ints (Or.inl c2), eI]) (fun i hi => entW_congr (eO i hi) rfl)
          change va_P D vwCl ((WS L cA μ).set (ixN bb) (L bb, .inl (cA 20, len bb, .inl (va_cpy (mI μ aa) (mI μ bb) 0 0 n.toNatClampNeg)))) H1 at hP
          change va_D A ((WS L cA μ).set (ixN bb) (L bb, .inl (cA 20, len bb, .inl (va_cpy (mI μ aa) (mI μ bb) 0 0 n.toNatClampNeg)))) at hD
          rw [e9] at hP hD
          exact k _ _ _ ha.1 hP hD hS
        · cases h
      · cases h
theorem P_keep {H1 : Heap} (hP : va_P D vwCl (WS L cA μ) H) (hk : ∀ q : Nat, q < H.size → H1[q]? = H[q]?) : va_P D vwCl (WS L cA μ) H1 := hP.kept fun k q hq => hk q.1 ((hP k q hq).lt)
theorem Kt.at1 {N0 : Nat} (k : Kt p l e R s m args below meth c s.heap cells slots Q L D cA (jA N0) nL pc' pl' st' μ') (ha : At_ s.heap L D cA (jA N0) nL H locs ls pl' μ') {H1 : Heap} (hz : H.size ≤ H1.size) (hk : ∀ q : Nat, q < H.size → H1[q]? = H[q]?) : W p l e R s m args below meth c H1 locs cells slots Q (F0 m pc' ls (st'.map (lf L))) :=
  k ls H1 locs ha.1 (P_keep ha.2.1 hk) ha.2.2.1 (jS ha.2.2.2 hz hk)
theorem sn_jdkV {N0 : Nat} (hx : p.tables.exec = Jvm.exec) (hb : c.code = cc) (hml : c.maxLocals = nL) (ha : At_ s.heap L D cA (jA N0) nL H locs ls pl μ) (hown : s.vm.findClass own = some m.cls) (hts : ∀ w ∈ lwG, w.before args s = true) (hF : SF L (jA N0) s s.heap) (hpf : PF own pool) (hRf : 8 ≤ R.frames) (hRl : 200 ≤ R.locals) (hcl : cells ≤ R.cells) (hsl : slots ≤ R.slots) {ix id : Nat} {z : Nat × Value} (he : pool ix = (13, id, z)) (hdg : decode cc pc = .ok (.invokevirtual ix, 3)) (h : jdk id pc pl st μ = some (.inl (pc', pl', st', μ'))) (hid : 5 ≤ id) (k : Kt p l e R s m args below meth c s.heap cells slots Q L D cA (jA N0) nL pc' pl' st' μ') : Wg p l e R s m args below meth c H locs cells slots Q L pc ls st := by
  obtain ⟨hok, hw, -⟩ := hpf ix
  rw [he] at hw
  obtain ⟨z1, z2⟩ := z
  have hml' : c.maxLocals = ls.size := by rw [hml]; exact ha.1.2.1.symm
  unfold jdk at h
  cases hcat : Nat.ble (catS st) 8
  · rw [hcat] at h; cases h
  · rw [hcat] at h
    simp only [cond_true] at h
    have hcat := Nat.ble_eq.mp hcat
    match id, hid, hw, h with
    | 5, _, hw, h =>
      unfold jdk0 at h
      simp only at h
      split at h
      · rename_i q r _ _
        split at h
        · rename_i hc
          obtain ⟨rfl, rfl, rfl, rfl⟩ := nx_inv h
          obtain ⟨i, hi, rfl⟩ := cls30 hc
          obtain ⟨v, f1, -⟩ := hF.2.1.2.1 i hi
          exact j_V (n := 0) (k := 1) (maxL := 1) (C := "java/lang/String") (As := []) (b := L (420 + i)) (rest := r.map (lf L)) hx hb hml' hown hts hF ha.2.2.2 (c_length hi) f1 jT_call (fun _ _ _ => trivial) (hw _ List.mem_cons_self) jw_inst_length jw_sel_length jw_ini_S jw_code_length ⟨rfl, by decide, by decide, by decide +kernel⟩ rfl (by omega) (by omega) hcl hsl rfl (by rw [catS_lf]; simp only [catS_cons] at hcat; omega) hdg (fun H1 hz hk => k.at1 ha hz hk)
        · cases h
      · cases h
    | 6, _, hw, h =>
      unfold jdk0 at h
      simp only at h
      split at h
      · rename_i x q r _ _
        split at h
        · rename_i hc
          obtain ⟨rfl, rfl, rfl, rfl⟩ := nx_inv h
          obtain ⟨i, hi, rfl⟩ := cls30 hc.1
          obtain ⟨v, f1, -⟩ := hF.2.1.2.1 i hi
          have hin := hc.2
          rw [show 420 + i - 420 = i by omega] at hin
          have hv := inb_in hin
          exact j_V (n := 1) (k := 3) (maxL := 2) (C := "java/lang/String") (As := [.int x]) (b := L (420 + i)) (rest := r.map (lf L)) hx hb hml' hown hts hF ha.2.2.2 (c_charAt hi (fun z => hv (Or.inl z)) (inb_lt hin)) f1 jT_call (fun _ _ _ => trivial) (hw _ List.mem_cons_self) jw_inst_charAt jw_sel_charAt jw_ini_S jw_code_charAt ⟨rfl, by decide, by decide, by decide +kernel⟩ rfl (by omega) (by omega) hcl hsl rfl (by rw [catS_lf]; simp only [catS_cons] at hcat; omega) hdg (fun H1 hz hk => k.at1 ha hz hk)
        · cases h
      · cases h
    | 7, _, hw, h =>
      unfold jdk0 at h
      simp only at h
      split at h
      · rename_i q r _ _
        split at h
        · rename_i hc
          obtain ⟨rfl, rfl, rfl, rfl⟩ := nx_inv h
          obtain ⟨j, hj, rfl⟩ := cls29 hc
          obtain ⟨f1, -, -, -⟩ := hF.2.1.1 j hj
          have e9 : Int32.ofNat (410 + j - 410) = Int32.ofNat j := by rw [show 410 + j - 410 = j by omega]
          rw [e9] at k
          refine j_call (v := some (.int (Int32.ofNat j))) (rest := r.map (lf L)) (va_runU (Ts := lwG) (x := jy_kord) (y := jy_ordinal) (owner := "java/lang/Enum") (C := "OrganCorners$OrderKind") (b := L (410 + j)) (As := []) (n := 0) ⟨hx, hb, hml', hown, hts⟩ (c_ordinal (l := l) (N0 := N0) (L := L) hj) (va_cwU 0 hts (lwG_in fun w hw9 => ?_) rfl rfl rfl rfl ⟨by decide, by decide, by decide +kernel⟩ ⟨by show 0 + 1 ≤ _; omega, by show 8 + (1 + 11) + 40 * 0 ≤ _; omega⟩) ⟨?_, ?_, ?_⟩ rfl rfl rfl rfl (by show 2 * 0 + _ ≤ _; rw [catS_lf]; simp only [catS_cons] at hcat; omega) hdg ⟨hcl, hsl⟩) (fun H1 hz hk => k.at1 ha hz hk)
          · unfold va_wsU at hw9
            simp only [List.cons_append, List.nil_append, List.mem_cons] at hw9
            rcases hw9 with rfl | rfl | rfl | rfl | rfl | rfl | h9
            · exact hw _ List.mem_cons_self
            · exact jw_same
            · exact jw_sel_ord
            · exact jw_inst_ordinal
            · exact jw_ini_EN
            · exact jw_code_ordinal
            · exact h9
          · intro a U g mk ⟨h1, h2, h3⟩
            exact ⟨h1, SF.call h2, trivial⟩
          · obtain ⟨cell, g1, g2, g3, g4⟩ := f1
            refine ⟨cell, ?_, g2, g3⟩
            rw [ha.2.2.2.2.1 _ (Array.getElem?_eq_some_iff.mp g1).1 g4]; exact g1
          · intro U hU hW
            exact ⟨rfl, hF.at ha.2.2.2 hU hW, trivial⟩
        · cases h
      · cases h
    | n + 8, _, hw, h => cases h
end SIM3
