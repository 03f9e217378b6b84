/-! ONE STEP OF THE PURE INTERPRETER IS A STEP OF THE MACHINE (laid by wip/p32/gensim.py) -/
section SIM1
variable {p : Program} {l : Launch} {e : Env} {R : Room} {s : State} {m : MethodId} {args : Array Value} {below : List Frame} {meth : Method} {c : Code} {H H0 : Heap} {locs : List Loc} {cells slots : Nat} {Q : State → Prop} {cc : ByteArray} {nL : Nat}
variable {L : Nat → Nat} {D : va_G} {cA : Nat → ClassId} {A : Nat → Prop} {pc pc' : Nat} {ls : Array Slot} {pl pl' st st' : List Value} {μ μ' : PM}
/-- what is to be shown behind the step -/
def Kt (p : Program) (l : Launch) (e : Env) (R : Room) (s : State) (m : MethodId) (args : Array Value) (below : List Frame) (meth : Method) (c : Code) (H0 : Heap) (cells slots : Nat) (Q : State → Prop) (L : Nat → Nat) (D : va_G) (cA : Nat → ClassId) (A : Nat → Prop) (nL pc' : Nat) (pl' st' : List Value) (μ' : PM) : Prop :=
  ∀ (ls' : Array Slot) (H' : Heap) (locs' : List Loc), LR L nL pl' ls' → va_P D vwCl (WS L cA μ') H' → va_D A (WS L cA μ') → va_S A H0 H' locs' → W p l e R s m args below meth c H' locs' cells slots Q (F0 m pc' ls' (st'.map (lf L)))
/-- where the machine stands -/
def At_ (H0 : Heap) (L : Nat → Nat) (D : va_G) (cA : Nat → ClassId) (A : Nat → Prop) (nL : Nat) (H : Heap) (locs : List Loc) (ls : Array Slot) (pl : List Value) (μ : PM) : Prop :=
  LR L nL pl ls ∧ va_P D vwCl (WS L cA μ) H ∧ va_D A (WS L cA μ) ∧ va_S A H0 H locs
abbrev Wg (p : Program) (l : Launch) (e : Env) (R : Room) (s : State) (m : MethodId) (args : Array Value) (below : List Frame) (meth : Method) (c : Code) (H : Heap) (locs : List Loc) (cells slots : Nat) (Q : State → Prop) (L : Nat → Nat) (pc : Nat) (ls : Array Slot) (st : List Value) : Prop := W p l e R s m args below meth c H locs cells slots Q (F0 m pc ls (st.map (lf L)))
theorem Kt.go (h : Kt p l e R s m args below meth c H0 cells slots Q L D cA A nL pc' pl' st' μ') (ha : At_ H0 L D cA A nL H locs ls pl' μ') : Wg p l e R s m args below meth c H locs cells slots Q L pc' ls st' := h _ _ _ ha.1 ha.2.1 ha.2.2.1 ha.2.2.2
theorem noNaN_n {r : UInt64} (h : noNaN r = true) : vf_n64 r := by
  unfold noNaN at h
  exact (of_decide_eq_true h : r &&& 0x7fffffffffffffff ≤ 0x7ff0000000000000)
theorem cat1_lf {L : Nat → Nat} {v : Value} (h : cat1 v = true) : (lf L v).category = 1 := by
  cases v <;> first | rfl | cases h
theorem lv_if_eq_f (hexec : p.tables.exec = Jvm.exec) (hb : c.code = cc) {rest : List Value} {x : Int32} {off : Int} (hdg : decode cc pc = .ok (.ifCond .eq off, 3)) (hc : ¬ (x = 0)) (kf : W p l e R s m args below meth c H locs cells slots Q (F0 m (pc + 3) ls rest)) : W p l e R s m args below meth c H locs cells slots Q (F0 m pc ls (.int x :: rest)) := by
  intro T hT X
  obtain ⟨t, a, b⟩ := kf T hT X
  refine ⟨t, ?_, b⟩
  jvm_step X.here [X.here.top, hexec, hb, hdg, Op.ifCond.holds, hc]
  exact a
theorem lv_icmp_eq_f (hexec : p.tables.exec = Jvm.exec) (hb : c.code = cc) {rest : List Value} {x y : Int32} {off : Int} (hdg : decode cc pc = .ok (.if_icmp .eq off, 3)) (hc : ¬ (x = y)) (kf : W p l e R s m args below meth c H locs cells slots Q (F0 m (pc + 3) ls rest)) : W p l e R s m args below meth c H locs cells slots Q (F0 m pc ls (.int y :: .int x :: rest)) := by
  intro T hT X
  obtain ⟨t, a, b⟩ := kf T hT X
  refine ⟨t, ?_, b⟩
  jvm_step X.here [X.here.top, hexec, hb, hdg, Op.if_icmp.holds, hc]
  exact a
theorem lv_if_ne_f (hexec : p.tables.exec = Jvm.exec) (hb : c.code = cc) {rest : List Value} {x : Int32} {off : Int} (hdg : decode cc pc = .ok (.ifCond .ne off, 3)) (hc : ¬ (¬ x = 0)) (kf : W p l e R s m args below meth c H locs cells slots Q (F0 m (pc + 3) ls rest)) : W p l e R s m args below meth c H locs cells slots Q (F0 m pc ls (.int x :: rest)) := by
  intro T hT X
  obtain ⟨t, a, b⟩ := kf T hT X
  refine ⟨t, ?_, b⟩
  have hc := Classical.not_not.mp hc
  jvm_step X.here [X.here.top, hexec, hb, hdg, Op.ifCond.holds, hc]
  exact a
theorem lv_icmp_ne_f (hexec : p.tables.exec = Jvm.exec) (hb : c.code = cc) {rest : List Value} {x y : Int32} {off : Int} (hdg : decode cc pc = .ok (.if_icmp .ne off, 3)) (hc : ¬ (¬ x = y)) (kf : W p l e R s m args below meth c H locs cells slots Q (F0 m (pc + 3) ls rest)) : W p l e R s m args below meth c H locs cells slots Q (F0 m pc ls (.int y :: .int x :: rest)) := by
  intro T hT X
  obtain ⟨t, a, b⟩ := kf T hT X
  refine ⟨t, ?_, b⟩
  have hc := Classical.not_not.mp hc
  jvm_step X.here [X.here.top, hexec, hb, hdg, Op.if_icmp.holds, hc]
  exact a
theorem lv_if_lt_f (hexec : p.tables.exec = Jvm.exec) (hb : c.code = cc) {rest : List Value} {x : Int32} {off : Int} (hdg : decode cc pc = .ok (.ifCond .lt off, 3)) (hc : ¬ (x < 0)) (kf : W p l e R s m args below meth c H locs cells slots Q (F0 m (pc + 3) ls rest)) : W p l e R s m args below meth c H locs cells slots Q (F0 m pc ls (.int x :: rest)) := by
  intro T hT X
  obtain ⟨t, a, b⟩ := kf T hT X
  refine ⟨t, ?_, b⟩
  jvm_step X.here [X.here.top, hexec, hb, hdg, Op.ifCond.holds, hc]
  exact a
theorem lv_icmp_lt_f (hexec : p.tables.exec = Jvm.exec) (hb : c.code = cc) {rest : List Value} {x y : Int32} {off : Int} (hdg : decode cc pc = .ok (.if_icmp .lt off, 3)) (hc : ¬ (x < y)) (kf : W p l e R s m args below meth c H locs cells slots Q (F0 m (pc + 3) ls rest)) : W p l e R s m args below meth c H locs cells slots Q (F0 m pc ls (.int y :: .int x :: rest)) := by
  intro T hT X
  obtain ⟨t, a, b⟩ := kf T hT X
  refine ⟨t, ?_, b⟩
  jvm_step X.here [X.here.top, hexec, hb, hdg, Op.if_icmp.holds, hc]
  exact a
theorem lv_if_ge_f (hexec : p.tables.exec = Jvm.exec) (hb : c.code = cc) {rest : List Value} {x : Int32} {off : Int} (hdg : decode cc pc = .ok (.ifCond .ge off, 3)) (hc : ¬ (0 ≤ x)) (kf : W p l e R s m args below meth c H locs cells slots Q (F0 m (pc + 3) ls rest)) : W p l e R s m args below meth c H locs cells slots Q (F0 m pc ls (.int x :: rest)) := by
  intro T hT X
  obtain ⟨t, a, b⟩ := kf T hT X
  refine ⟨t, ?_, b⟩
  jvm_step X.here [X.here.top, hexec, hb, hdg, Op.ifCond.holds, hc]
  exact a
theorem lv_icmp_ge_f (hexec : p.tables.exec = Jvm.exec) (hb : c.code = cc) {rest : List Value} {x y : Int32} {off : Int} (hdg : decode cc pc = .ok (.if_icmp .ge off, 3)) (hc : ¬ (y ≤ x)) (kf : W p l e R s m args below meth c H locs cells slots Q (F0 m (pc + 3) ls rest)) : W p l e R s m args below meth c H locs cells slots Q (F0 m pc ls (.int y :: .int x :: rest)) := by
  intro T hT X
  obtain ⟨t, a, b⟩ := kf T hT X
  refine ⟨t, ?_, b⟩
  jvm_step X.here [X.here.top, hexec, hb, hdg, Op.if_icmp.holds, hc]
  exact a
theorem lv_if_gt_f (hexec : p.tables.exec = Jvm.exec) (hb : c.code = cc) {rest : List Value} {x : Int32} {off : Int} (hdg : decode cc pc = .ok (.ifCond .gt off, 3)) (hc : ¬ (0 < x)) (kf : W p l e R s m args below meth c H locs cells slots Q (F0 m (pc + 3) ls rest)) : W p l e R s m args below meth c H locs cells slots Q (F0 m pc ls (.int x :: rest)) := by
  intro T hT X
  obtain ⟨t, a, b⟩ := kf T hT X
  refine ⟨t, ?_, b⟩
  jvm_step X.here [X.here.top, hexec, hb, hdg, Op.ifCond.holds, hc]
  exact a
theorem lv_icmp_gt_f (hexec : p.tables.exec = Jvm.exec) (hb : c.code = cc) {rest : List Value} {x y : Int32} {off : Int} (hdg : decode cc pc = .ok (.if_icmp .gt off, 3)) (hc : ¬ (y < x)) (kf : W p l e R s m args below meth c H locs cells slots Q (F0 m (pc + 3) ls rest)) : W p l e R s m args below meth c H locs cells slots Q (F0 m pc ls (.int y :: .int x :: rest)) := by
  intro T hT X
  obtain ⟨t, a, b⟩ := kf T hT X
  refine ⟨t, ?_, b⟩
  jvm_step X.here [X.here.top, hexec, hb, hdg, Op.if_icmp.holds, hc]
  exact a
theorem lv_if_le_f (hexec : p.tables.exec = Jvm.exec) (hb : c.code = cc) {rest : List Value} {x : Int32} {off : Int} (hdg : decode cc pc = .ok (.ifCond .le off, 3)) (hc : ¬ (x ≤ 0)) (kf : W p l e R s m args below meth c H locs cells slots Q (F0 m (pc + 3) ls rest)) : W p l e R s m args below meth c H locs cells slots Q (F0 m pc ls (.int x :: rest)) := by
  intro T hT X
  obtain ⟨t, a, b⟩ := kf T hT X
  refine ⟨t, ?_, b⟩
  jvm_step X.here [X.here.top, hexec, hb, hdg, Op.ifCond.holds, hc]
  exact a
theorem lv_icmp_le_f (hexec : p.tables.exec = Jvm.exec) (hb : c.code = cc) {rest : List Value} {x y : Int32} {off : Int} (hdg : decode cc pc = .ok (.if_icmp .le off, 3)) (hc : ¬ (x ≤ y)) (kf : W p l e R s m args below meth c H locs cells slots Q (F0 m (pc + 3) ls rest)) : W p l e R s m args below meth c H locs cells slots Q (F0 m pc ls (.int y :: .int x :: rest)) := by
  intro T hT X
  obtain ⟨t, a, b⟩ := kf T hT X
  refine ⟨t, ?_, b⟩
  jvm_step X.here [X.here.top, hexec, hb, hdg, Op.if_icmp.holds, hc]
  exact a

theorem sn_aconst_null (hx : p.tables.exec = Jvm.exec) (hb : c.code = cc) (ha : At_ H0 L D cA A nL H locs ls pl μ)  (hdg : decode cc pc = .ok (.aconst_null, 1)) (h : nx (pc + 1) pl (.null :: st) μ = some (.inl (pc', pl', st', μ'))) (k : Kt p l e R s m args below meth c H0 cells slots Q L D cA A nL pc' pl' st' μ') : Wg p l e R s m args below meth c H locs cells slots Q L pc ls st := by
  obtain ⟨rfl, rfl, rfl, rfl⟩ := nx_inv h
  exact lv_null hx hb hdg (k.go ha)
theorem sn_bipush (hx : p.tables.exec = Jvm.exec) (hb : c.code = cc) (ha : At_ H0 L D cA A nL H locs ls pl μ) {n : Int} (hdg : decode cc pc = .ok (.bipush n, 2)) (h : nx (pc + 2) pl (.int (Int8.ofInt n).toInt32 :: st) μ = some (.inl (pc', pl', st', μ'))) (k : Kt p l e R s m args below meth c H0 cells slots Q L D cA A nL pc' pl' st' μ') : Wg p l e R s m args below meth c H locs cells slots Q L pc ls st := by
  obtain ⟨rfl, rfl, rfl, rfl⟩ := nx_inv h
  exact lv_bipush hx hb hdg rfl (k.go ha)
theorem sn_sipush (hx : p.tables.exec = Jvm.exec) (hb : c.code = cc) (ha : At_ H0 L D cA A nL H locs ls pl μ) {n : Int} (hdg : decode cc pc = .ok (.sipush n, 3)) (h : nx (pc + 3) pl (.int (Int16.ofInt n).toInt32 :: st) μ = some (.inl (pc', pl', st', μ'))) (k : Kt p l e R s m args below meth c H0 cells slots Q L D cA A nL pc' pl' st' μ') : Wg p l e R s m args below meth c H locs cells slots Q L pc ls st := by
  obtain ⟨rfl, rfl, rfl, rfl⟩ := nx_inv h
  exact lv_sipush hx hb hdg rfl (k.go ha)
theorem sn_iconst (hx : p.tables.exec = Jvm.exec) (hb : c.code = cc) (ha : At_ H0 L D cA A nL H locs ls pl μ) {n : Int} (hdg : decode cc pc = .ok (.iconst n, 1)) (h : nx (pc + 1) pl (.int (Int32.ofInt n) :: st) μ = some (.inl (pc', pl', st', μ'))) (k : Kt p l e R s m args below meth c H0 cells slots Q L D cA A nL pc' pl' st' μ') : Wg p l e R s m args below meth c H locs cells slots Q L pc ls st := by
  obtain ⟨rfl, rfl, rfl, rfl⟩ := nx_inv h
  exact lv_iconst hx hb hdg rfl (k.go ha)
theorem sn_lconst (hx : p.tables.exec = Jvm.exec) (hb : c.code = cc) (ha : At_ H0 L D cA A nL H locs ls pl μ) {n : Fin 2} (hdg : decode cc pc = .ok (.lconst n, 1)) (h : nx (pc + 1) pl (.long (Int64.ofNat (n : Nat)) :: st) μ = some (.inl (pc', pl', st', μ'))) (k : Kt p l e R s m args below meth c H0 cells slots Q L D cA A nL pc' pl' st' μ') : Wg p l e R s m args below meth c H locs cells slots Q L pc ls st := by
  obtain ⟨rfl, rfl, rfl, rfl⟩ := nx_inv h
  exact lv_lconst hx hb hdg rfl (k.go ha)
theorem sn_dconst0 (hx : p.tables.exec = Jvm.exec) (hb : c.code = cc) (ha : At_ H0 L D cA A nL H locs ls pl μ)  (hdg : decode cc pc = .ok (.dconst 0, 1)) (h : nx (pc + 1) pl (.double FP.dconst0 :: st) μ = some (.inl (pc', pl', st', μ'))) (k : Kt p l e R s m args below meth c H0 cells slots Q L D cA A nL pc' pl' st' μ') : Wg p l e R s m args below meth c H locs cells slots Q L pc ls st := by
  obtain ⟨rfl, rfl, rfl, rfl⟩ := nx_inv h
  exact lv_dconst0 hx hb hdg (k.go ha)
theorem sn_dconst1 (hx : p.tables.exec = Jvm.exec) (hb : c.code = cc) (ha : At_ H0 L D cA A nL H locs ls pl μ)  (hdg : decode cc pc = .ok (.dconst 1, 1)) (h : nx (pc + 1) pl (.double FP.dconst1 :: st) μ = some (.inl (pc', pl', st', μ'))) (k : Kt p l e R s m args below meth c H0 cells slots Q L D cA A nL pc' pl' st' μ') : Wg p l e R s m args below meth c H locs cells slots Q L pc ls st := by
  obtain ⟨rfl, rfl, rfl, rfl⟩ := nx_inv h
  exact lv_dconst1 hx hb hdg (k.go ha)
theorem sn_iload_n (hx : p.tables.exec = Jvm.exec) (hb : c.code = cc) (ha : At_ H0 L D cA A nL H locs ls pl μ) {i : Fin 4} (hdg : decode cc pc = .ok (.iload_n i, 1)) (h : ldI pc 1 i pl st μ = some (.inl (pc', pl', st', μ'))) (k : Kt p l e R s m args below meth c H0 cells slots Q L D cA A nL pc' pl' st' μ') : Wg p l e R s m args below meth c H locs cells slots Q L pc ls st := by
  unfold ldI at h
  split at h
  · rename_i x hi
    obtain ⟨rfl, rfl, rfl, rfl⟩ := nx_inv h
    exact lv_iload_n hx hb hdg rfl (ha.1.at hi (fun _ q => nomatch q)) (k.go ha)
  · cases h
theorem sn_iload (hx : p.tables.exec = Jvm.exec) (hb : c.code = cc) (ha : At_ H0 L D cA A nL H locs ls pl μ) {i : Nat} (hdg : decode cc pc = .ok (.iload i, 2)) (h : ldI pc 2 i pl st μ = some (.inl (pc', pl', st', μ'))) (k : Kt p l e R s m args below meth c H0 cells slots Q L D cA A nL pc' pl' st' μ') : Wg p l e R s m args below meth c H locs cells slots Q L pc ls st := by
  unfold ldI at h
  split at h
  · rename_i x hi
    obtain ⟨rfl, rfl, rfl, rfl⟩ := nx_inv h
    exact lv_iload hx hb hdg (ha.1.at hi (fun _ q => nomatch q)) (k.go ha)
  · cases h
theorem sn_lload_n (hx : p.tables.exec = Jvm.exec) (hb : c.code = cc) (ha : At_ H0 L D cA A nL H locs ls pl μ) {i : Fin 4} (hdg : decode cc pc = .ok (.lload_n i, 1)) (h : ldJ pc 1 i pl st μ = some (.inl (pc', pl', st', μ'))) (k : Kt p l e R s m args below meth c H0 cells slots Q L D cA A nL pc' pl' st' μ') : Wg p l e R s m args below meth c H locs cells slots Q L pc ls st := by
  unfold ldJ at h
  split at h
  · rename_i x hi
    obtain ⟨rfl, rfl, rfl, rfl⟩ := nx_inv h
    exact lv_lload_n hx hb hdg rfl (ha.1.at hi (fun _ q => nomatch q)) (k.go ha)
  · cases h
theorem sn_lload (hx : p.tables.exec = Jvm.exec) (hb : c.code = cc) (ha : At_ H0 L D cA A nL H locs ls pl μ) {i : Nat} (hdg : decode cc pc = .ok (.lload i, 2)) (h : ldJ pc 2 i pl st μ = some (.inl (pc', pl', st', μ'))) (k : Kt p l e R s m args below meth c H0 cells slots Q L D cA A nL pc' pl' st' μ') : Wg p l e R s m args below meth c H locs cells slots Q L pc ls st := by
  unfold ldJ at h
  split at h
  · rename_i x hi
    obtain ⟨rfl, rfl, rfl, rfl⟩ := nx_inv h
    exact lv_lload hx hb hdg (ha.1.at hi (fun _ q => nomatch q)) (k.go ha)
  · cases h
theorem sn_dload_n (hx : p.tables.exec = Jvm.exec) (hb : c.code = cc) (ha : At_ H0 L D cA A nL H locs ls pl μ) {i : Fin 4} (hdg : decode cc pc = .ok (.dload_n i, 1)) (h : ldD pc 1 i pl st μ = some (.inl (pc', pl', st', μ'))) (k : Kt p l e R s m args below meth c H0 cells slots Q L D cA A nL pc' pl' st' μ') : Wg p l e R s m args below meth c H locs cells slots Q L pc ls st := by
  unfold ldD at h
  split at h
  · rename_i x hi
    obtain ⟨rfl, rfl, rfl, rfl⟩ := nx_inv h
    exact lv_dload_n hx hb hdg rfl (ha.1.at hi (fun _ q => nomatch q)) (k.go ha)
  · cases h
theorem sn_dload (hx : p.tables.exec = Jvm.exec) (hb : c.code = cc) (ha : At_ H0 L D cA A nL H locs ls pl μ) {i : Nat} (hdg : decode cc pc = .ok (.dload i, 2)) (h : ldD pc 2 i pl st μ = some (.inl (pc', pl', st', μ'))) (k : Kt p l e R s m args below meth c H0 cells slots Q L D cA A nL pc' pl' st' μ') : Wg p l e R s m args below meth c H locs cells slots Q L pc ls st := by
  unfold ldD at h
  split at h
  · rename_i x hi
    obtain ⟨rfl, rfl, rfl, rfl⟩ := nx_inv h
    exact lv_dload hx hb hdg (ha.1.at hi (fun _ q => nomatch q)) (k.go ha)
  · cases h
theorem sn_aload_n (hx : p.tables.exec = Jvm.exec) (hb : c.code = cc) (ha : At_ H0 L D cA A nL H locs ls pl μ) {i : Fin 4} (hdg : decode cc pc = .ok (.aload_n i, 1)) (h : ldA pc 1 i pl st μ = some (.inl (pc', pl', st', μ'))) (k : Kt p l e R s m args below meth c H0 cells slots Q L D cA A nL pc' pl' st' μ') : Wg p l e R s m args below meth c H locs cells slots Q L pc ls st := by
  unfold ldA at h
  split at h
  · rename_i x hi
    obtain ⟨rfl, rfl, rfl, rfl⟩ := nx_inv h
    exact lv_aload_n hx hb hdg rfl (ha.1.at hi (fun _ q => nomatch q)) (k.go ha)
  · rename_i hi
    obtain ⟨rfl, rfl, rfl, rfl⟩ := nx_inv h
    exact lv_aload_nN hx hb hdg rfl (ha.1.at hi (fun _ q => nomatch q)) (k.go ha)
  · cases h
theorem sn_aload (hx : p.tables.exec = Jvm.exec) (hb : c.code = cc) (ha : At_ H0 L D cA A nL H locs ls pl μ) {i : Nat} (hdg : decode cc pc = .ok (.aload i, 2)) (h : ldA pc 2 i pl st μ = some (.inl (pc', pl', st', μ'))) (k : Kt p l e R s m args below meth c H0 cells slots Q L D cA A nL pc' pl' st' μ') : Wg p l e R s m args below meth c H locs cells slots Q L pc ls st := by
  unfold ldA at h
  split at h
  · rename_i x hi
    obtain ⟨rfl, rfl, rfl, rfl⟩ := nx_inv h
    exact lv_aload hx hb hdg (ha.1.at hi (fun _ q => nomatch q)) (k.go ha)
  · rename_i hi
    obtain ⟨rfl, rfl, rfl, rfl⟩ := nx_inv h
    exact lv_aloadN hx hb hdg (ha.1.at hi (fun _ q => nomatch q)) (k.go ha)
  · cases h
theorem sn_istore_n (hx : p.tables.exec = Jvm.exec) (hb : c.code = cc) (ha : At_ H0 L D cA A nL H locs ls pl μ) {i : Fin 4} (hdg : decode cc pc = .ok (.istore_n i, 1)) (h : stoI pc 1 i pl st μ = some (.inl (pc', pl', st', μ'))) (k : Kt p l e R s m args below meth c H0 cells slots Q L D cA A nL pc' pl' st' μ') : Wg p l e R s m args below meth c H locs cells slots Q L pc ls st := by
  unfold stoI at h
  split at h
  · rename_i x r
    unfold st1 at h
    cases hq : Nat.blt (i : Nat) pl.length && okS pl i
    · rw [hq] at h; cases h
    · rw [hq] at h
      rw [Bool.and_eq_true] at hq
      have hlt := Nat.blt_eq.mp hq.1
      obtain ⟨rfl, rfl, rfl, rfl⟩ := nx_inv h
      exact lv_istore_n (x := x) hx hb hdg rfl ha.1.has (by rw [← ha.1.1]; exact hlt) rfl (fun ls' hl' => k.go ⟨ha.1.st1 hlt hq.2 (fun _ => rfl) hl', ha.2⟩)
  · cases h
theorem sn_istore (hx : p.tables.exec = Jvm.exec) (hb : c.code = cc) (ha : At_ H0 L D cA A nL H locs ls pl μ) {i : Nat} (hdg : decode cc pc = .ok (.istore i, 2)) (h : stoI pc 2 i pl st μ = some (.inl (pc', pl', st', μ'))) (k : Kt p l e R s m args below meth c H0 cells slots Q L D cA A nL pc' pl' st' μ') : Wg p l e R s m args below meth c H locs cells slots Q L pc ls st := by
  unfold stoI at h
  split at h
  · rename_i x r
    unfold st1 at h
    cases hq : Nat.blt (i : Nat) pl.length && okS pl i
    · rw [hq] at h; cases h
    · rw [hq] at h
      rw [Bool.and_eq_true] at hq
      have hlt := Nat.blt_eq.mp hq.1
      obtain ⟨rfl, rfl, rfl, rfl⟩ := nx_inv h
      exact lv_istore (x := x) hx hb hdg ha.1.has (by rw [← ha.1.1]; exact hlt) rfl (fun ls' hl' => k.go ⟨ha.1.st1 hlt hq.2 (fun _ => rfl) hl', ha.2⟩)
  · cases h
theorem sn_lstore_n (hx : p.tables.exec = Jvm.exec) (hb : c.code = cc) (ha : At_ H0 L D cA A nL H locs ls pl μ) {i : Fin 4} (hdg : decode cc pc = .ok (.lstore_n i, 1)) (h : stoJ pc 1 i pl st μ = some (.inl (pc', pl', st', μ'))) (k : Kt p l e R s m args below meth c H0 cells slots Q L D cA A nL pc' pl' st' μ') : Wg p l e R s m args below meth c H locs cells slots Q L pc ls st := by
  unfold stoJ at h
  split at h
  · rename_i x r
    unfold st2 at h
    cases hq : Nat.blt ((i : Nat) + 1) pl.length && okS pl i
    · rw [hq] at h; cases h
    · rw [hq] at h
      rw [Bool.and_eq_true] at hq
      have hlt := Nat.blt_eq.mp hq.1
      obtain ⟨rfl, rfl, rfl, rfl⟩ := nx_inv h
      exact lv_lstore_n (x := x) hx hb hdg rfl ha.1.has (by rw [← ha.1.1]; exact hlt) rfl (fun ls' hl' => k.go ⟨ha.1.st2 (v := .long x) hlt hq.2 hl', ha.2⟩)
  · cases h
theorem sn_lstore (hx : p.tables.exec = Jvm.exec) (hb : c.code = cc) (ha : At_ H0 L D cA A nL H locs ls pl μ) {i : Nat} (hdg : decode cc pc = .ok (.lstore i, 2)) (h : stoJ pc 2 i pl st μ = some (.inl (pc', pl', st', μ'))) (k : Kt p l e R s m args below meth c H0 cells slots Q L D cA A nL pc' pl' st' μ') : Wg p l e R s m args below meth c H locs cells slots Q L pc ls st := by
  unfold stoJ at h
  split at h
  · rename_i x r
    unfold st2 at h
    cases hq : Nat.blt ((i : Nat) + 1) pl.length && okS pl i
    · rw [hq] at h; cases h
    · rw [hq] at h
      rw [Bool.and_eq_true] at hq
      have hlt := Nat.blt_eq.mp hq.1
      obtain ⟨rfl, rfl, rfl, rfl⟩ := nx_inv h
      exact lv_lstore (x := x) hx hb hdg ha.1.has (by rw [← ha.1.1]; exact hlt) rfl (fun ls' hl' => k.go ⟨ha.1.st2 (v := .long x) hlt hq.2 hl', ha.2⟩)
  · cases h
theorem sn_dstore_n (hx : p.tables.exec = Jvm.exec) (hb : c.code = cc) (ha : At_ H0 L D cA A nL H locs ls pl μ) {i : Fin 4} (hdg : decode cc pc = .ok (.dstore_n i, 1)) (h : stoD pc 1 i pl st μ = some (.inl (pc', pl', st', μ'))) (k : Kt p l e R s m args below meth c H0 cells slots Q L D cA A nL pc' pl' st' μ') : Wg p l e R s m args below meth c H locs cells slots Q L pc ls st := by
  unfold stoD at h
  split at h
  · rename_i x r
    unfold st2 at h
    cases hq : Nat.blt ((i : Nat) + 1) pl.length && okS pl i
    · rw [hq] at h; cases h
    · rw [hq] at h
      rw [Bool.and_eq_true] at hq
      have hlt := Nat.blt_eq.mp hq.1
      obtain ⟨rfl, rfl, rfl, rfl⟩ := nx_inv h
      exact lv_dstore_n (x := x) hx hb hdg rfl ha.1.has (by rw [← ha.1.1]; exact hlt) rfl (fun ls' hl' => k.go ⟨ha.1.st2 (v := .double x) hlt hq.2 hl', ha.2⟩)
  · cases h
theorem sn_dstore (hx : p.tables.exec = Jvm.exec) (hb : c.code = cc) (ha : At_ H0 L D cA A nL H locs ls pl μ) {i : Nat} (hdg : decode cc pc = .ok (.dstore i, 2)) (h : stoD pc 2 i pl st μ = some (.inl (pc', pl', st', μ'))) (k : Kt p l e R s m args below meth c H0 cells slots Q L D cA A nL pc' pl' st' μ') : Wg p l e R s m args below meth c H locs cells slots Q L pc ls st := by
  unfold stoD at h
  split at h
  · rename_i x r
    unfold st2 at h
    cases hq : Nat.blt ((i : Nat) + 1) pl.length && okS pl i
    · rw [hq] at h; cases h
    · rw [hq] at h
      rw [Bool.and_eq_true] at hq
      have hlt := Nat.blt_eq.mp hq.1
      obtain ⟨rfl, rfl, rfl, rfl⟩ := nx_inv h
      exact lv_dstore (x := x) hx hb hdg ha.1.has (by rw [← ha.1.1]; exact hlt) rfl (fun ls' hl' => k.go ⟨ha.1.st2 (v := .double x) hlt hq.2 hl', ha.2⟩)
  · cases h
theorem sn_astore_n (hx : p.tables.exec = Jvm.exec) (hb : c.code = cc) (ha : At_ H0 L D cA A nL H locs ls pl μ) {i : Fin 4} (hdg : decode cc pc = .ok (.astore_n i, 1)) (h : stoA pc 1 i pl st μ = some (.inl (pc', pl', st', μ'))) (k : Kt p l e R s m args below meth c H0 cells slots Q L D cA A nL pc' pl' st' μ') : Wg p l e R s m args below meth c H locs cells slots Q L pc ls st := by
  unfold stoA at h
  split at h
  · rename_i x r
    unfold st1 at h
    cases hq : Nat.blt (i : Nat) pl.length && okS pl i
    · rw [hq] at h; cases h
    · rw [hq] at h
      rw [Bool.and_eq_true] at hq
      have hlt := Nat.blt_eq.mp hq.1
      obtain ⟨rfl, rfl, rfl, rfl⟩ := nx_inv h
      exact lv_astore_n (x := L x) hx hb hdg rfl ha.1.has (by rw [← ha.1.1]; exact hlt) rfl (fun ls' hl' => k.go ⟨ha.1.st1 hlt hq.2 (fun _ => rfl) hl', ha.2⟩)
  · rename_i r
    unfold st1 at h
    cases hq : Nat.blt (i : Nat) pl.length && okS pl i
    · rw [hq] at h; cases h
    · rw [hq] at h
      rw [Bool.and_eq_true] at hq
      have hlt := Nat.blt_eq.mp hq.1
      obtain ⟨rfl, rfl, rfl, rfl⟩ := nx_inv h
      exact lv_astore_nN hx hb hdg rfl ha.1.has (by rw [← ha.1.1]; exact hlt) rfl (fun ls' hl' => k.go ⟨ha.1.st1 hlt hq.2 (fun _ => rfl) hl', ha.2⟩)
  · cases h
theorem sn_astore (hx : p.tables.exec = Jvm.exec) (hb : c.code = cc) (ha : At_ H0 L D cA A nL H locs ls pl μ) {i : Nat} (hdg : decode cc pc = .ok (.astore i, 2)) (h : stoA pc 2 i pl st μ = some (.inl (pc', pl', st', μ'))) (k : Kt p l e R s m args below meth c H0 cells slots Q L D cA A nL pc' pl' st' μ') : Wg p l e R s m args below meth c H locs cells slots Q L pc ls st := by
  unfold stoA at h
  split at h
  · rename_i x r
    unfold st1 at h
    cases hq : Nat.blt (i : Nat) pl.length && okS pl i
    · rw [hq] at h; cases h
    · rw [hq] at h
      rw [Bool.and_eq_true] at hq
      have hlt := Nat.blt_eq.mp hq.1
      obtain ⟨rfl, rfl, rfl, rfl⟩ := nx_inv h
      exact lv_astore (x := L x) hx hb hdg ha.1.has (by rw [← ha.1.1]; exact hlt) rfl (fun ls' hl' => k.go ⟨ha.1.st1 hlt hq.2 (fun _ => rfl) hl', ha.2⟩)
  · rename_i r
    unfold st1 at h
    cases hq : Nat.blt (i : Nat) pl.length && okS pl i
    · rw [hq] at h; cases h
    · rw [hq] at h
      rw [Bool.and_eq_true] at hq
      have hlt := Nat.blt_eq.mp hq.1
      obtain ⟨rfl, rfl, rfl, rfl⟩ := nx_inv h
      exact lv_astoreN hx hb hdg ha.1.has (by rw [← ha.1.1]; exact hlt) rfl (fun ls' hl' => k.go ⟨ha.1.st1 hlt hq.2 (fun _ => rfl) hl', ha.2⟩)
  · cases h
theorem sn_iinc (hx : p.tables.exec = Jvm.exec) (hb : c.code = cc) (ha : At_ H0 L D cA A nL H locs ls pl μ) {i : Nat} {n : Int} (hdg : decode cc pc = .ok (.iinc i n, 3)) (h : incI pc i n pl st μ = some (.inl (pc', pl', st', μ'))) (k : Kt p l e R s m args below meth c H0 cells slots Q L D cA A nL pc' pl' st' μ') : Wg p l e R s m args below meth c H locs cells slots Q L pc ls st := by
  unfold incI at h
  split at h
  · rename_i x hi
    unfold st1 at h
    cases hq : Nat.blt i pl.length && okS pl i
    · rw [hq] at h; cases h
    · rw [hq] at h
      rw [Bool.and_eq_true] at hq
      have hlt := Nat.blt_eq.mp hq.1
      obtain ⟨rfl, rfl, rfl, rfl⟩ := nx_inv h
      have hm : (i, Value.int x) ∈ prs L pl := prs_mem.mpr ⟨.int x, hi, rfl, rfl⟩
      obtain ⟨kk, hkk⟩ := List.getElem?_of_mem hm
      exact lv_iinc hx hb hdg ha.1.has hkk rfl (by rw [← ha.1.1]; exact hlt) rfl (fun ls' hl' => k.go ⟨ha.1.st1 hlt hq.2 (fun _ => rfl) hl', ha.2⟩)
  · cases h
theorem sn_iadd (hx : p.tables.exec = Jvm.exec) (hb : c.code = cc) (ha : At_ H0 L D cA A nL H locs ls pl μ)  (hdg : decode cc pc = .ok (.iadd, 1)) (h : b32 (fun x y => x + y) pc pl st μ = some (.inl (pc', pl', st', μ'))) (k : Kt p l e R s m args below meth c H0 cells slots Q L D cA A nL pc' pl' st' μ') : Wg p l e R s m args below meth c H locs cells slots Q L pc ls st := by
  unfold b32 at h
  split at h
  · obtain ⟨rfl, rfl, rfl, rfl⟩ := nx_inv h
    exact lv_iadd hx hb hdg (k.go ha)
  · cases h
theorem sn_isub (hx : p.tables.exec = Jvm.exec) (hb : c.code = cc) (ha : At_ H0 L D cA A nL H locs ls pl μ)  (hdg : decode cc pc = .ok (.isub, 1)) (h : b32 (fun x y => x - y) pc pl st μ = some (.inl (pc', pl', st', μ'))) (k : Kt p l e R s m args below meth c H0 cells slots Q L D cA A nL pc' pl' st' μ') : Wg p l e R s m args below meth c H locs cells slots Q L pc ls st := by
  unfold b32 at h
  split at h
  · obtain ⟨rfl, rfl, rfl, rfl⟩ := nx_inv h
    exact lv_isub hx hb hdg (k.go ha)
  · cases h
theorem sn_imul (hx : p.tables.exec = Jvm.exec) (hb : c.code = cc) (ha : At_ H0 L D cA A nL H locs ls pl μ)  (hdg : decode cc pc = .ok (.imul, 1)) (h : b32 (fun x y => x * y) pc pl st μ = some (.inl (pc', pl', st', μ'))) (k : Kt p l e R s m args below meth c H0 cells slots Q L D cA A nL pc' pl' st' μ') : Wg p l e R s m args below meth c H locs cells slots Q L pc ls st := by
  unfold b32 at h
  split at h
  · obtain ⟨rfl, rfl, rfl, rfl⟩ := nx_inv h
    exact lv_imul hx hb hdg (k.go ha)
  · cases h
theorem sn_iand (hx : p.tables.exec = Jvm.exec) (hb : c.code = cc) (ha : At_ H0 L D cA A nL H locs ls pl μ)  (hdg : decode cc pc = .ok (.iand, 1)) (h : b32 (fun x y => x &&& y) pc pl st μ = some (.inl (pc', pl', st', μ'))) (k : Kt p l e R s m args below meth c H0 cells slots Q L D cA A nL pc' pl' st' μ') : Wg p l e R s m args below meth c H locs cells slots Q L pc ls st := by
  unfold b32 at h
  split at h
  · obtain ⟨rfl, rfl, rfl, rfl⟩ := nx_inv h
    exact lv_iand hx hb hdg (k.go ha)
  · cases h
theorem sn_ior (hx : p.tables.exec = Jvm.exec) (hb : c.code = cc) (ha : At_ H0 L D cA A nL H locs ls pl μ)  (hdg : decode cc pc = .ok (.ior, 1)) (h : b32 (fun x y => x ||| y) pc pl st μ = some (.inl (pc', pl', st', μ'))) (k : Kt p l e R s m args below meth c H0 cells slots Q L D cA A nL pc' pl' st' μ') : Wg p l e R s m args below meth c H locs cells slots Q L pc ls st := by
  unfold b32 at h
  split at h
  · obtain ⟨rfl, rfl, rfl, rfl⟩ := nx_inv h
    exact lv_ior hx hb hdg (k.go ha)
  · cases h
theorem sn_ixor (hx : p.tables.exec = Jvm.exec) (hb : c.code = cc) (ha : At_ H0 L D cA A nL H locs ls pl μ)  (hdg : decode cc pc = .ok (.ixor, 1)) (h : b32 (fun x y => x ^^^ y) pc pl st μ = some (.inl (pc', pl', st', μ'))) (k : Kt p l e R s m args below meth c H0 cells slots Q L D cA A nL pc' pl' st' μ') : Wg p l e R s m args below meth c H locs cells slots Q L pc ls st := by
  unfold b32 at h
  split at h
  · obtain ⟨rfl, rfl, rfl, rfl⟩ := nx_inv h
    exact lv_ixor hx hb hdg (k.go ha)
  · cases h
theorem sn_ishl (hx : p.tables.exec = Jvm.exec) (hb : c.code = cc) (ha : At_ H0 L D cA A nL H locs ls pl μ)  (hdg : decode cc pc = .ok (.ishl, 1)) (h : b32 (fun x y => x <<< (y &&& 31)) pc pl st μ = some (.inl (pc', pl', st', μ'))) (k : Kt p l e R s m args below meth c H0 cells slots Q L D cA A nL pc' pl' st' μ') : Wg p l e R s m args below meth c H locs cells slots Q L pc ls st := by
  unfold b32 at h
  split at h
  · obtain ⟨rfl, rfl, rfl, rfl⟩ := nx_inv h
    exact lv_ishl hx hb hdg (k.go ha)
  · cases h
theorem sn_ishr (hx : p.tables.exec = Jvm.exec) (hb : c.code = cc) (ha : At_ H0 L D cA A nL H locs ls pl μ)  (hdg : decode cc pc = .ok (.ishr, 1)) (h : b32 (fun x y => x >>> (y &&& 31)) pc pl st μ = some (.inl (pc', pl', st', μ'))) (k : Kt p l e R s m args below meth c H0 cells slots Q L D cA A nL pc' pl' st' μ') : Wg p l e R s m args below meth c H locs cells slots Q L pc ls st := by
  unfold b32 at h
  split at h
  · obtain ⟨rfl, rfl, rfl, rfl⟩ := nx_inv h
    exact lv_ishr hx hb hdg (k.go ha)
  · cases h
theorem sn_iushr (hx : p.tables.exec = Jvm.exec) (hb : c.code = cc) (ha : At_ H0 L D cA A nL H locs ls pl μ)  (hdg : decode cc pc = .ok (.iushr, 1)) (h : b32 (fun x y => (x.toUInt32 >>> (y.toUInt32 &&& Int32.toUInt32 31)).toInt32) pc pl st μ = some (.inl (pc', pl', st', μ'))) (k : Kt p l e R s m args below meth c H0 cells slots Q L D cA A nL pc' pl' st' μ') : Wg p l e R s m args below meth c H locs cells slots Q L pc ls st := by
  unfold b32 at h
  split at h
  · obtain ⟨rfl, rfl, rfl, rfl⟩ := nx_inv h
    exact lv_iushr hx hb hdg rfl (k.go ha)
  · cases h
theorem sn_idiv (hx : p.tables.exec = Jvm.exec) (hb : c.code = cc) (ha : At_ H0 L D cA A nL H locs ls pl μ)  (hdg : decode cc pc = .ok (.idiv, 1)) (h : b32n (fun x y => x / y) pc pl st μ = some (.inl (pc', pl', st', μ'))) (k : Kt p l e R s m args below meth c H0 cells slots Q L D cA A nL pc' pl' st' μ') : Wg p l e R s m args below meth c H locs cells slots Q L pc ls st := by
  unfold b32n at h
  split at h
  · split at h
    · rename_i hy
      obtain ⟨rfl, rfl, rfl, rfl⟩ := nx_inv h
      exact lv_idiv hx hb hdg hy (k.go ha)
    · cases h
  · cases h
theorem sn_irem (hx : p.tables.exec = Jvm.exec) (hb : c.code = cc) (ha : At_ H0 L D cA A nL H locs ls pl μ)  (hdg : decode cc pc = .ok (.irem, 1)) (h : b32n (fun x y => x - x / y * y) pc pl st μ = some (.inl (pc', pl', st', μ'))) (k : Kt p l e R s m args below meth c H0 cells slots Q L D cA A nL pc' pl' st' μ') : Wg p l e R s m args below meth c H locs cells slots Q L pc ls st := by
  unfold b32n at h
  split at h
  · split at h
    · rename_i hy
      obtain ⟨rfl, rfl, rfl, rfl⟩ := nx_inv h
      exact lv_irem hx hb hdg hy (k.go ha)
    · cases h
  · cases h
theorem sn_ladd (hx : p.tables.exec = Jvm.exec) (hb : c.code = cc) (ha : At_ H0 L D cA A nL H locs ls pl μ)  (hdg : decode cc pc = .ok (.ladd, 1)) (h : b64 (fun x y => .long (x + y)) pc pl st μ = some (.inl (pc', pl', st', μ'))) (k : Kt p l e R s m args below meth c H0 cells slots Q L D cA A nL pc' pl' st' μ') : Wg p l e R s m args below meth c H locs cells slots Q L pc ls st := by
  unfold b64 at h
  split at h
  · obtain ⟨rfl, rfl, rfl, rfl⟩ := nx_inv h
    exact lv_ladd hx hb hdg (k.go ha)
  · cases h
theorem sn_lsub (hx : p.tables.exec = Jvm.exec) (hb : c.code = cc) (ha : At_ H0 L D cA A nL H locs ls pl μ)  (hdg : decode cc pc = .ok (.lsub, 1)) (h : b64 (fun x y => .long (x - y)) pc pl st μ = some (.inl (pc', pl', st', μ'))) (k : Kt p l e R s m args below meth c H0 cells slots Q L D cA A nL pc' pl' st' μ') : Wg p l e R s m args below meth c H locs cells slots Q L pc ls st := by
  unfold b64 at h
  split at h
  · obtain ⟨rfl, rfl, rfl, rfl⟩ := nx_inv h
    exact lv_lsub hx hb hdg (k.go ha)
  · cases h
theorem sn_lmul (hx : p.tables.exec = Jvm.exec) (hb : c.code = cc) (ha : At_ H0 L D cA A nL H locs ls pl μ)  (hdg : decode cc pc = .ok (.lmul, 1)) (h : b64 (fun x y => .long (x * y)) pc pl st μ = some (.inl (pc', pl', st', μ'))) (k : Kt p l e R s m args below meth c H0 cells slots Q L D cA A nL pc' pl' st' μ') : Wg p l e R s m args below meth c H locs cells slots Q L pc ls st := by
  unfold b64 at h
  split at h
  · obtain ⟨rfl, rfl, rfl, rfl⟩ := nx_inv h
    exact lv_lmul hx hb hdg (k.go ha)
  · cases h
theorem sn_lcmp (hx : p.tables.exec = Jvm.exec) (hb : c.code = cc) (ha : At_ H0 L D cA A nL H locs ls pl μ)  (hdg : decode cc pc = .ok (.lcmp, 1)) (h : b64 (fun x y => .int (lg_cmp x y)) pc pl st μ = some (.inl (pc', pl', st', μ'))) (k : Kt p l e R s m args below meth c H0 cells slots Q L D cA A nL pc' pl' st' μ') : Wg p l e R s m args below meth c H locs cells slots Q L pc ls st := by
  unfold b64 at h
  split at h
  · obtain ⟨rfl, rfl, rfl, rfl⟩ := nx_inv h
    exact W.lcmp hx hb hdg (k.go ha)
  · cases h
theorem sn_lrem (hx : p.tables.exec = Jvm.exec) (hb : c.code = cc) (ha : At_ H0 L D cA A nL H locs ls pl μ)  (hdg : decode cc pc = .ok (.lrem, 1)) (h : b64n (fun x y => .long (x - x / y * y)) pc pl st μ = some (.inl (pc', pl', st', μ'))) (k : Kt p l e R s m args below meth c H0 cells slots Q L D cA A nL pc' pl' st' μ') : Wg p l e R s m args below meth c H locs cells slots Q L pc ls st := by
  unfold b64n at h
  split at h
  · split at h
    · rename_i hy
      obtain ⟨rfl, rfl, rfl, rfl⟩ := nx_inv h
      exact lv_lrem hx hb hdg hy (k.go ha)
    · cases h
  · cases h
theorem sn_ddiv (hx : p.tables.exec = Jvm.exec) (hb : c.code = cc) (ha : At_ H0 L D cA A nL H locs ls pl μ)  (hdg : decode cc pc = .ok (.ddiv, 1)) (h : bD FP.ddiv pc pl st μ = some (.inl (pc', pl', st', μ'))) (k : Kt p l e R s m args below meth c H0 cells slots Q L D cA A nL pc' pl' st' μ') : Wg p l e R s m args below meth c H locs cells slots Q L pc ls st := by
  unfold bD at h
  split at h
  · split at h
    · rename_i hy
      obtain ⟨rfl, rfl, rfl, rfl⟩ := nx_inv h
      exact lv_ddiv hx hb hdg (noNaN_n hy) (k.go ha)
    · cases h
  · cases h
theorem sn_dmul (hx : p.tables.exec = Jvm.exec) (hb : c.code = cc) (ha : At_ H0 L D cA A nL H locs ls pl μ)  (hdg : decode cc pc = .ok (.dmul, 1)) (h : bD FP.dmul pc pl st μ = some (.inl (pc', pl', st', μ'))) (k : Kt p l e R s m args below meth c H0 cells slots Q L D cA A nL pc' pl' st' μ') : Wg p l e R s m args below meth c H locs cells slots Q L pc ls st := by
  unfold bD at h
  split at h
  · split at h
    · rename_i hy
      obtain ⟨rfl, rfl, rfl, rfl⟩ := nx_inv h
      exact lv_dmul hx hb hdg (noNaN_n hy) (k.go ha)
    · cases h
  · cases h
theorem sn_dsub (hx : p.tables.exec = Jvm.exec) (hb : c.code = cc) (ha : At_ H0 L D cA A nL H locs ls pl μ)  (hdg : decode cc pc = .ok (.dsub, 1)) (h : bD FP.dsub pc pl st μ = some (.inl (pc', pl', st', μ'))) (k : Kt p l e R s m args below meth c H0 cells slots Q L D cA A nL pc' pl' st' μ') : Wg p l e R s m args below meth c H locs cells slots Q L pc ls st := by
  unfold bD at h
  split at h
  · split at h
    · rename_i hy
      obtain ⟨rfl, rfl, rfl, rfl⟩ := nx_inv h
      exact lv_dsub hx hb hdg (noNaN_n hy) (k.go ha)
    · cases h
  · cases h
theorem sn_i2d (hx : p.tables.exec = Jvm.exec) (hb : c.code = cc) (ha : At_ H0 L D cA A nL H locs ls pl μ)  (hdg : decode cc pc = .ok (.i2d, 1)) (h : un32 (fun x => .double (FP.i2d x)) pc pl st μ = some (.inl (pc', pl', st', μ'))) (k : Kt p l e R s m args below meth c H0 cells slots Q L D cA A nL pc' pl' st' μ') : Wg p l e R s m args below meth c H locs cells slots Q L pc ls st := by
  unfold un32 at h
  split at h
  · obtain ⟨rfl, rfl, rfl, rfl⟩ := nx_inv h
    exact lv_i2d hx hb hdg (k.go ha)
  · cases h
theorem sn_i2l (hx : p.tables.exec = Jvm.exec) (hb : c.code = cc) (ha : At_ H0 L D cA A nL H locs ls pl μ)  (hdg : decode cc pc = .ok (.i2l, 1)) (h : un32 (fun x => .long x.toInt64) pc pl st μ = some (.inl (pc', pl', st', μ'))) (k : Kt p l e R s m args below meth c H0 cells slots Q L D cA A nL pc' pl' st' μ') : Wg p l e R s m args below meth c H locs cells slots Q L pc ls st := by
  unfold un32 at h
  split at h
  · obtain ⟨rfl, rfl, rfl, rfl⟩ := nx_inv h
    exact lv_i2l hx hb hdg rfl (k.go ha)
  · cases h
theorem sn_ineg (hx : p.tables.exec = Jvm.exec) (hb : c.code = cc) (ha : At_ H0 L D cA A nL H locs ls pl μ)  (hdg : decode cc pc = .ok (.ineg, 1)) (h : un32 (fun x => .int (-x)) pc pl st μ = some (.inl (pc', pl', st', μ'))) (k : Kt p l e R s m args below meth c H0 cells slots Q L D cA A nL pc' pl' st' μ') : Wg p l e R s m args below meth c H locs cells slots Q L pc ls st := by
  unfold un32 at h
  split at h
  · obtain ⟨rfl, rfl, rfl, rfl⟩ := nx_inv h
    exact lv_ineg hx hb hdg (k.go ha)
  · cases h
theorem sn_l2d (hx : p.tables.exec = Jvm.exec) (hb : c.code = cc) (ha : At_ H0 L D cA A nL H locs ls pl μ)  (hdg : decode cc pc = .ok (.l2d, 1)) (h : un64 (fun x => .double (FP.l2d x)) pc pl st μ = some (.inl (pc', pl', st', μ'))) (k : Kt p l e R s m args below meth c H0 cells slots Q L D cA A nL pc' pl' st' μ') : Wg p l e R s m args below meth c H locs cells slots Q L pc ls st := by
  unfold un64 at h
  split at h
  · obtain ⟨rfl, rfl, rfl, rfl⟩ := nx_inv h
    exact lv_l2d hx hb hdg (k.go ha)
  · cases h
theorem sn_l2i (hx : p.tables.exec = Jvm.exec) (hb : c.code = cc) (ha : At_ H0 L D cA A nL H locs ls pl μ)  (hdg : decode cc pc = .ok (.l2i, 1)) (h : un64 (fun x => .int x.toInt32) pc pl st μ = some (.inl (pc', pl', st', μ'))) (k : Kt p l e R s m args below meth c H0 cells slots Q L D cA A nL pc' pl' st' μ') : Wg p l e R s m args below meth c H locs cells slots Q L pc ls st := by
  unfold un64 at h
  split at h
  · obtain ⟨rfl, rfl, rfl, rfl⟩ := nx_inv h
    exact lv_l2i hx hb hdg rfl (k.go ha)
  · cases h
theorem sn_d2l (hx : p.tables.exec = Jvm.exec) (hb : c.code = cc) (ha : At_ H0 L D cA A nL H locs ls pl μ)  (hdg : decode cc pc = .ok (.d2l, 1)) (h : (match st with | .double x :: r => nx (pc + 1) pl (.long (FP.d2l x) :: r) μ | _ => none) = some (.inl (pc', pl', st', μ'))) (k : Kt p l e R s m args below meth c H0 cells slots Q L D cA A nL pc' pl' st' μ') : Wg p l e R s m args below meth c H locs cells slots Q L pc ls st := by
  split at h
  · obtain ⟨rfl, rfl, rfl, rfl⟩ := nx_inv h
    exact lv_d2l hx hb hdg (k.go ha)
  · cases h
theorem sn_dcmp (hx : p.tables.exec = Jvm.exec) (hb : c.code = cc) (ha : At_ H0 L D cA A nL H locs ls pl μ) {op : CmpOp} (hdg : decode cc pc = .ok (.dcmp op, 1)) (h : (match st with | .double y :: .double x :: r => nx (pc + 1) pl (.int (Op.cmpValue (FP.dcmp x y) op) :: r) μ | _ => none) = some (.inl (pc', pl', st', μ'))) (k : Kt p l e R s m args below meth c H0 cells slots Q L D cA A nL pc' pl' st' μ') : Wg p l e R s m args below meth c H locs cells slots Q L pc ls st := by
  split at h
  · obtain ⟨rfl, rfl, rfl, rfl⟩ := nx_inv h
    exact lv_dcmp hx hb hdg (k.go ha)
  · cases h
theorem sn_lshl (hx : p.tables.exec = Jvm.exec) (hb : c.code = cc) (ha : At_ H0 L D cA A nL H locs ls pl μ)  (hdg : decode cc pc = .ok (.lshl, 1)) (h : (match st with | .int y :: .long x :: r => nx (pc + 1) pl (.long (x <<< (y.toInt64 &&& 63)) :: r) μ | _ => none) = some (.inl (pc', pl', st', μ'))) (k : Kt p l e R s m args below meth c H0 cells slots Q L D cA A nL pc' pl' st' μ') : Wg p l e R s m args below meth c H locs cells slots Q L pc ls st := by
  split at h
  · obtain ⟨rfl, rfl, rfl, rfl⟩ := nx_inv h
    exact lv_lshl hx hb hdg rfl (k.go ha)
  · cases h
theorem sn_goto (hx : p.tables.exec = Jvm.exec) (hb : c.code = cc) (ha : At_ H0 L D cA A nL H locs ls pl μ) {off : Int} (hdg : decode cc pc = .ok (.goto off, 3)) (h : jp pc off pl st μ = some (.inl (pc', pl', st', μ'))) (k : Kt p l e R s m args below meth c H0 cells slots Q L D cA A nL pc' pl' st' μ') : Wg p l e R s m args below meth c H locs cells slots Q L pc ls st := by
  obtain ⟨ht, rfl, rfl, rfl⟩ := jp_inv h
  exact lv_goto hx hb hdg ht (k.go ha)
theorem sn_if_eq (hx : p.tables.exec = Jvm.exec) (hb : c.code = cc) (ha : At_ H0 L D cA A nL H locs ls pl μ) {off : Int} (hdg : decode cc pc = .ok (.ifCond .eq off, 3)) (h : if1 .eq pc off pl st μ = some (.inl (pc', pl', st', μ'))) (k : Kt p l e R s m args below meth c H0 cells slots Q L D cA A nL pc' pl' st' μ') : Wg p l e R s m args below meth c H locs cells slots Q L pc ls st := by
  unfold if1 at h
  split at h
  · simp only at h
    split at h
    · rename_i hc
      obtain ⟨ht, rfl, rfl, rfl⟩ := jp_inv h
      exact lv_if_eq hx hb hdg ht (fun _ => k.go ha) (fun q => absurd hc q)
    · rename_i hc
      obtain ⟨rfl, rfl, rfl, rfl⟩ := nx_inv h
      exact lv_if_eq_f hx hb hdg hc (k.go ha)
  · cases h
theorem sn_icmp_eq (hx : p.tables.exec = Jvm.exec) (hb : c.code = cc) (ha : At_ H0 L D cA A nL H locs ls pl μ) {off : Int} (hdg : decode cc pc = .ok (.if_icmp .eq off, 3)) (h : if2 .eq pc off pl st μ = some (.inl (pc', pl', st', μ'))) (k : Kt p l e R s m args below meth c H0 cells slots Q L D cA A nL pc' pl' st' μ') : Wg p l e R s m args below meth c H locs cells slots Q L pc ls st := by
  unfold if2 at h
  split at h
  · simp only at h
    split at h
    · rename_i hc
      obtain ⟨ht, rfl, rfl, rfl⟩ := jp_inv h
      exact lv_icmp_eq hx hb hdg ht (fun _ => k.go ha) (fun q => absurd hc q)
    · rename_i hc
      obtain ⟨rfl, rfl, rfl, rfl⟩ := nx_inv h
      exact lv_icmp_eq_f hx hb hdg hc (k.go ha)
  · cases h
theorem sn_if_ne (hx : p.tables.exec = Jvm.exec) (hb : c.code = cc) (ha : At_ H0 L D cA A nL H locs ls pl μ) {off : Int} (hdg : decode cc pc = .ok (.ifCond .ne off, 3)) (h : if1 .ne pc off pl st μ = some (.inl (pc', pl', st', μ'))) (k : Kt p l e R s m args below meth c H0 cells slots Q L D cA A nL pc' pl' st' μ') : Wg p l e R s m args below meth c H locs cells slots Q L pc ls st := by
  unfold if1 at h
  split at h
  · simp only at h
    split at h
    · rename_i hc
      obtain ⟨ht, rfl, rfl, rfl⟩ := jp_inv h
      exact lv_if_ne hx hb hdg ht (fun _ => k.go ha) (fun q => absurd q hc)
    · rename_i hc
      obtain ⟨rfl, rfl, rfl, rfl⟩ := nx_inv h
      exact lv_if_ne_f hx hb hdg hc (k.go ha)
  · cases h
theorem sn_icmp_ne (hx : p.tables.exec = Jvm.exec) (hb : c.code = cc) (ha : At_ H0 L D cA A nL H locs ls pl μ) {off : Int} (hdg : decode cc pc = .ok (.if_icmp .ne off, 3)) (h : if2 .ne pc off pl st μ = some (.inl (pc', pl', st', μ'))) (k : Kt p l e R s m args below meth c H0 cells slots Q L D cA A nL pc' pl' st' μ') : Wg p l e R s m args below meth c H locs cells slots Q L pc ls st := by
  unfold if2 at h
  split at h
  · simp only at h
    split at h
    · rename_i hc
      obtain ⟨ht, rfl, rfl, rfl⟩ := jp_inv h
      exact lv_icmp_ne hx hb hdg ht (fun _ => k.go ha) (fun q => absurd q hc)
    · rename_i hc
      obtain ⟨rfl, rfl, rfl, rfl⟩ := nx_inv h
      exact lv_icmp_ne_f hx hb hdg hc (k.go ha)
  · cases h
theorem sn_if_lt (hx : p.tables.exec = Jvm.exec) (hb : c.code = cc) (ha : At_ H0 L D cA A nL H locs ls pl μ) {off : Int} (hdg : decode cc pc = .ok (.ifCond .lt off, 3)) (h : if1 .lt pc off pl st μ = some (.inl (pc', pl', st', μ'))) (k : Kt p l e R s m args below meth c H0 cells slots Q L D cA A nL pc' pl' st' μ') : Wg p l e R s m args below meth c H locs cells slots Q L pc ls st := by
  unfold if1 at h
  split at h
  · simp only at h
    split at h
    · rename_i hc
      obtain ⟨ht, rfl, rfl, rfl⟩ := jp_inv h
      exact lv_if_lt hx hb hdg ht (fun _ => k.go ha) (fun q => absurd hc q)
    · rename_i hc
      obtain ⟨rfl, rfl, rfl, rfl⟩ := nx_inv h
      exact lv_if_lt_f hx hb hdg hc (k.go ha)
  · cases h
theorem sn_icmp_lt (hx : p.tables.exec = Jvm.exec) (hb : c.code = cc) (ha : At_ H0 L D cA A nL H locs ls pl μ) {off : Int} (hdg : decode cc pc = .ok (.if_icmp .lt off, 3)) (h : if2 .lt pc off pl st μ = some (.inl (pc', pl', st', μ'))) (k : Kt p l e R s m args below meth c H0 cells slots Q L D cA A nL pc' pl' st' μ') : Wg p l e R s m args below meth c H locs cells slots Q L pc ls st := by
  unfold if2 at h
  split at h
  · simp only at h
    split at h
    · rename_i hc
      obtain ⟨ht, rfl, rfl, rfl⟩ := jp_inv h
      exact lv_icmp_lt hx hb hdg ht (fun _ => k.go ha) (fun q => absurd hc q)
    · rename_i hc
      obtain ⟨rfl, rfl, rfl, rfl⟩ := nx_inv h
      exact lv_icmp_lt_f hx hb hdg hc (k.go ha)
  · cases h
theorem sn_if_ge (hx : p.tables.exec = Jvm.exec) (hb : c.code = cc) (ha : At_ H0 L D cA A nL H locs ls pl μ) {off : Int} (hdg : decode cc pc = .ok (.ifCond .ge off, 3)) (h : if1 .ge pc off pl st μ = some (.inl (pc', pl', st', μ'))) (k : Kt p l e R s m args below meth c H0 cells slots Q L D cA A nL pc' pl' st' μ') : Wg p l e R s m args below meth c H locs cells slots Q L pc ls st := by
  unfold if1 at h
  split at h
  · simp only at h
    split at h
    · rename_i hc
      obtain ⟨ht, rfl, rfl, rfl⟩ := jp_inv h
      exact lv_if_ge hx hb hdg ht (fun _ => k.go ha) (fun q => absurd hc q)
    · rename_i hc
      obtain ⟨rfl, rfl, rfl, rfl⟩ := nx_inv h
      exact lv_if_ge_f hx hb hdg hc (k.go ha)
  · cases h
theorem sn_icmp_ge (hx : p.tables.exec = Jvm.exec) (hb : c.code = cc) (ha : At_ H0 L D cA A nL H locs ls pl μ) {off : Int} (hdg : decode cc pc = .ok (.if_icmp .ge off, 3)) (h : if2 .ge pc off pl st μ = some (.inl (pc', pl', st', μ'))) (k : Kt p l e R s m args below meth c H0 cells slots Q L D cA A nL pc' pl' st' μ') : Wg p l e R s m args below meth c H locs cells slots Q L pc ls st := by
  unfold if2 at h
  split at h
  · simp only at h
    split at h
    · rename_i hc
      obtain ⟨ht, rfl, rfl, rfl⟩ := jp_inv h
      exact lv_icmp_ge hx hb hdg ht (fun _ => k.go ha) (fun q => absurd hc q)
    · rename_i hc
      obtain ⟨rfl, rfl, rfl, rfl⟩ := nx_inv h
      exact lv_icmp_ge_f hx hb hdg hc (k.go ha)
  · cases h
theorem sn_if_gt (hx : p.tables.exec = Jvm.exec) (hb : c.code = cc) (ha : At_ H0 L D cA A nL H locs ls pl μ) {off : Int} (hdg : decode cc pc = .ok (.ifCond .gt off, 3)) (h : if1 .gt pc off pl st μ = some (.inl (pc', pl', st', μ'))) (k : Kt p l e R s m args below meth c H0 cells slots Q L D cA A nL pc' pl' st' μ') : Wg p l e R s m args below meth c H locs cells slots Q L pc ls st := by
  unfold if1 at h
  split at h
  · simp only at h
    split at h
    · rename_i hc
      obtain ⟨ht, rfl, rfl, rfl⟩ := jp_inv h
      exact lv_if_gt hx hb hdg ht (fun _ => k.go ha) (fun q => absurd hc q)
    · rename_i hc
      obtain ⟨rfl, rfl, rfl, rfl⟩ := nx_inv h
      exact lv_if_gt_f hx hb hdg hc (k.go ha)
  · cases h
theorem sn_icmp_gt (hx : p.tables.exec = Jvm.exec) (hb : c.code = cc) (ha : At_ H0 L D cA A nL H locs ls pl μ) {off : Int} (hdg : decode cc pc = .ok (.if_icmp .gt off, 3)) (h : if2 .gt pc off pl st μ = some (.inl (pc', pl', st', μ'))) (k : Kt p l e R s m args below meth c H0 cells slots Q L D cA A nL pc' pl' st' μ') : Wg p l e R s m args below meth c H locs cells slots Q L pc ls st := by
  unfold if2 at h
  split at h
  · simp only at h
    split at h
    · rename_i hc
      obtain ⟨ht, rfl, rfl, rfl⟩ := jp_inv h
      exact lv_icmp_gt hx hb hdg ht (fun _ => k.go ha) (fun q => absurd hc q)
    · rename_i hc
      obtain ⟨rfl, rfl, rfl, rfl⟩ := nx_inv h
      exact lv_icmp_gt_f hx hb hdg hc (k.go ha)
  · cases h
theorem sn_if_le (hx : p.tables.exec = Jvm.exec) (hb : c.code = cc) (ha : At_ H0 L D cA A nL H locs ls pl μ) {off : Int} (hdg : decode cc pc = .ok (.ifCond .le off, 3)) (h : if1 .le pc off pl st μ = some (.inl (pc', pl', st', μ'))) (k : Kt p l e R s m args below meth c H0 cells slots Q L D cA A nL pc' pl' st' μ') : Wg p l e R s m args below meth c H locs cells slots Q L pc ls st := by
  unfold if1 at h
  split at h
  · simp only at h
    split at h
    · rename_i hc
      obtain ⟨ht, rfl, rfl, rfl⟩ := jp_inv h
      exact lv_if_le hx hb hdg ht (fun _ => k.go ha) (fun q => absurd hc q)
    · rename_i hc
      obtain ⟨rfl, rfl, rfl, rfl⟩ := nx_inv h
      exact lv_if_le_f hx hb hdg hc (k.go ha)
  · cases h
theorem sn_icmp_le (hx : p.tables.exec = Jvm.exec) (hb : c.code = cc) (ha : At_ H0 L D cA A nL H locs ls pl μ) {off : Int} (hdg : decode cc pc = .ok (.if_icmp .le off, 3)) (h : if2 .le pc off pl st μ = some (.inl (pc', pl', st', μ'))) (k : Kt p l e R s m args below meth c H0 cells slots Q L D cA A nL pc' pl' st' μ') : Wg p l e R s m args below meth c H locs cells slots Q L pc ls st := by
  unfold if2 at h
  split at h
  · simp only at h
    split at h
    · rename_i hc
      obtain ⟨ht, rfl, rfl, rfl⟩ := jp_inv h
      exact lv_icmp_le hx hb hdg ht (fun _ => k.go ha) (fun q => absurd hc q)
    · rename_i hc
      obtain ⟨rfl, rfl, rfl, rfl⟩ := nx_inv h
      exact lv_icmp_le_f hx hb hdg hc (k.go ha)
  · cases h
theorem sn_ifnull (hx : p.tables.exec = Jvm.exec) (hb : c.code = cc) (ha : At_ H0 L D cA A nL H locs ls pl μ) {off : Int} (hdg : decode cc pc = .ok (.ifnull off, 3)) (h : ifn false pc off pl st μ = some (.inl (pc', pl', st', μ'))) (k : Kt p l e R s m args below meth c H0 cells slots Q L D cA A nL pc' pl' st' μ') : Wg p l e R s m args below meth c H locs cells slots Q L pc ls st := by
  unfold ifn at h
  split at h
  · simp only [cond_false] at h
    obtain ⟨rfl, rfl, rfl, rfl⟩ := nx_inv h
    exact lv_ifnull hx hb hdg (k.go ha)
  · simp only [cond_false] at h
    obtain ⟨ht, rfl, rfl, rfl⟩ := jp_inv h
    exact lv_ifnullN hx hb hdg ht (k.go ha)
  · cases h
theorem sn_ifnonnull (hx : p.tables.exec = Jvm.exec) (hb : c.code = cc) (ha : At_ H0 L D cA A nL H locs ls pl μ) {off : Int} (hdg : decode cc pc = .ok (.ifnonnull off, 3)) (h : ifn true pc off pl st μ = some (.inl (pc', pl', st', μ'))) (k : Kt p l e R s m args below meth c H0 cells slots Q L D cA A nL pc' pl' st' μ') : Wg p l e R s m args below meth c H locs cells slots Q L pc ls st := by
  unfold ifn at h
  split at h
  · simp only [cond_true] at h
    obtain ⟨ht, rfl, rfl, rfl⟩ := jp_inv h
    exact lv_ifnonnull hx hb hdg ht (k.go ha)
  · simp only [cond_true] at h
    obtain ⟨rfl, rfl, rfl, rfl⟩ := nx_inv h
    exact lv_ifnonnullN hx hb hdg (k.go ha)
  · cases h
theorem sn_dup (hx : p.tables.exec = Jvm.exec) (hb : c.code = cc) (ha : At_ H0 L D cA A nL H locs ls pl μ)  (hdg : decode cc pc = .ok (.dup, 1)) (h : dp pc pl st μ = some (.inl (pc', pl', st', μ'))) (k : Kt p l e R s m args below meth c H0 cells slots Q L D cA A nL pc' pl' st' μ') : Wg p l e R s m args below meth c H locs cells slots Q L pc ls st := by
  unfold dp at h
  split at h
  · rename_i a r
    cases hq : cat1 a
    · rw [hq] at h; cases h
    · rw [hq] at h
      simp only [cond_true] at h
      obtain ⟨rfl, rfl, rfl, rfl⟩ := nx_inv h
      exact lv_dup hx hb hdg (cat1_lf hq) (k.go ha)
  · cases h
theorem sn_dup2 (hx : p.tables.exec = Jvm.exec) (hb : c.code = cc) (ha : At_ H0 L D cA A nL H locs ls pl μ)  (hdg : decode cc pc = .ok (.dup2, 1)) (h : dp2 pc pl st μ = some (.inl (pc', pl', st', μ'))) (k : Kt p l e R s m args below meth c H0 cells slots Q L D cA A nL pc' pl' st' μ') : Wg p l e R s m args below meth c H locs cells slots Q L pc ls st := by
  unfold dp2 at h
  split at h
  · rename_i a b r
    cases hq : cat1 a && cat1 b
    · rw [hq] at h; cases h
    · rw [hq] at h
      simp only [cond_true] at h
      rw [Bool.and_eq_true] at hq
      obtain ⟨rfl, rfl, rfl, rfl⟩ := nx_inv h
      exact lv_dup2_11 hx hb hdg (cat1_lf hq.1) (cat1_lf hq.2) (k.go ha)
  · cases h
theorem sn_pop (hx : p.tables.exec = Jvm.exec) (hb : c.code = cc) (ha : At_ H0 L D cA A nL H locs ls pl μ)  (hdg : decode cc pc = .ok (.pop, 1)) (h : pp pc pl st μ = some (.inl (pc', pl', st', μ'))) (k : Kt p l e R s m args below meth c H0 cells slots Q L D cA A nL pc' pl' st' μ') : Wg p l e R s m args below meth c H locs cells slots Q L pc ls st := by
  unfold pp at h
  split at h
  · rename_i a r
    cases hq : cat1 a
    · rw [hq] at h; cases h
    · rw [hq] at h
      simp only [cond_true] at h
      obtain ⟨rfl, rfl, rfl, rfl⟩ := nx_inv h
      exact lv_pop hx hb hdg (cat1_lf hq) (k.go ha)
  · cases h
theorem sn_tsw (hx : p.tables.exec = Jvm.exec) (hb : c.code = cc) (ha : At_ H0 L D cA A nL H locs ls pl μ) {d lo hi : Int} {os : Array Int} {ln : Nat} (hdg : decode cc pc = .ok (.tableswitch d lo hi os, ln)) (h : tsw pc d lo hi os pl st μ = some (.inl (pc', pl', st', μ'))) (k : Kt p l e R s m args below meth c H0 cells slots Q L D cA A nL pc' pl' st' μ') : Wg p l e R s m args below meth c H locs cells slots Q L pc ls st := by
  unfold tsw at h
  split at h
  · rename_i x r
    split at h
    · rename_i hq
      obtain ⟨ht, rfl, rfl, rfl⟩ := jp_inv h
      exact lv_tableOut hx hb hdg hq ht (k.go ha)
    · rename_i hq
      split at h
      · rename_i off ho
        obtain ⟨ht, rfl, rfl, rfl⟩ := jp_inv h
        rw [Array.getElem?_toList] at ho
        exact lv_tableIn hx hb hdg (fun z => hq (Or.inl z)) (fun z => hq (Or.inr z)) ho ht (k.go ha)
      · cases h
  · cases h
theorem sn_lsw (hx : p.tables.exec = Jvm.exec) (hb : c.code = cc) (ha : At_ H0 L D cA A nL H locs ls pl μ)  {d : Int} {ps : Array (Int × Int)} {ln : Nat} (hdg : decode cc pc = .ok (.lookupswitch d ps, ln)) (h : lsw pc d ps pl st μ = some (.inl (pc', pl', st', μ'))) (k : Kt p l e R s m args below meth c H0 cells slots Q L D cA A nL pc' pl' st' μ') : Wg p l e R s m args below meth c H locs cells slots Q L pc ls st := by
  unfold lsw at h
  split at h
  · cases hp : (ps.toList.zip (ps.toList.drop 1)).all (fun (a, next) => a.1 < next.1)
    · rw [hp] at h; cases h
    · rw [hp] at h
      simp only [cond_true] at h
      obtain ⟨ht, rfl, rfl, rfl⟩ := jp_inv h
      exact lv_lookup hx hb hdg hp rfl ht (k.go ha)
  · cases h
end SIM1
