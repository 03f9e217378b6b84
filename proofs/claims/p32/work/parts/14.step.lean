/-! EVERY STEP OF THE PURE INTERPRETER IS A STEP OF THE MACHINE (wip/p32/genstep.py) -/
section STEP
variable {p : Program} {l : Launch} {e : Env} {R : Room} {s : State} {m : MethodId} {args : Array Value} {below : List Frame} {meth : Method} {c : Code} {H H0 : Heap} {locs : List Loc} {cells slots : Nat} {Q : State → Prop} {nL : Nat}
variable {N0 : Nat} {L : Nat → Nat} {D : va_G} {cA : Nat → ClassId} {pc pc' : Nat} {ls : Array Slot} {pl pl' st st' : List Value} {μ μ' μ0 : PM}
/-- a method's body, from its start s on -/
def Ctx (p : Program) (s : State) (m : MethodId) (args : Array Value) (meth : Method) (c : Code) (N0 : Nat) (L : Nat → Nat) (D : va_G) (cA : Nat → ClassId) (n : Nat) (μ0 : PM) : Prop :=
  p.tables.exec = Jvm.exec ∧ c.code = (mrec n).2.1 ∧ c.maxLocals = mxl n ∧ meth.sig.returnType = (mrec n).2.2.1 ∧ meth.locks = false ∧ s.vm.findClass (yN n).cls = some m.cls ∧ (∀ w ∈ lwG, w.before args s = true) ∧ c.exceptionTable.toList = tableOf (mrec n).2.2.2 ∧
  va_K D vwCl (tyL cA) s ∧ SF L (jA N0) s s.heap ∧ va_X (L 390) μ0.2.2.1 (mI μ0 390) s s.heap ∧ L 390 < N0
theorem ivS_inl {pl : Nat → Ent} {ix : Nat} {ls st : List Value} {s' : PS} (h : ivS pl pc ix ls st μ = some (.inl s')) : ∃ id z, pl ix = (5, id, z) ∧ id < 5 ∧ jdk id pc ls st μ = some (.inl s') := by
  unfold ivS at h
  split at h
  · rename_i n na _ _
    cases hq : Nat.ble na st.length && Nat.ble (catS (st.drop na)) 8 <;> rw [hq] at h <;> cases h
  · rename_i n na _ _
    cases hq : Nat.ble na st.length && Nat.ble (catS (st.drop na)) 8 <;> rw [hq] at h <;> cases h
  · rename_i id a b he
    cases hq : Nat.blt id 5 <;> rw [hq] at h
    · cases h
    · exact ⟨id, (a, b), he, Nat.blt_eq.mp hq, h⟩
  · cases h
theorem ivV_inl {pl : Nat → Ent} {ix : Nat} {ls st : List Value} {s' : PS} (h : ivV pl pc ix ls st μ = some (.inl s')) : ∃ id z, pl ix = (13, id, z) ∧ 5 ≤ id ∧ jdk id pc ls st μ = some (.inl s') := by
  unfold ivV at h
  split at h
  · split at h
    · rename_i n na ci _ _ k _
      cases hq : Nat.ble (catS (st.drop na)) 8 <;> rw [hq] at h
      · cases h
      · simp only [cond_true] at h
        split at h <;> cases h
    · cases h
  · rename_i id a b he
    cases hq : Nat.ble 5 id <;> rw [hq] at h
    · cases h
    · exact ⟨id, (a, b), he, Nat.ble_eq.mp hq, h⟩
  · cases h
theorem irt_ni {rt : Nat} {s' : PS} (h : irt rt st μ = some (.inl s')) : False := by
  unfold irt at h
  split at h
  · split at h
    · cases h
    · split at h <;> cases h
    · cases h
  · cases h
theorem jrt_ni {rt : Nat} {s' : PS} (h : jrt rt st μ = some (.inl s')) : False := by
  unfold jrt at h
  split at h <;> cases h
theorem drt_ni {rt : Nat} {s' : PS} (h : drt rt st μ = some (.inl s')) : False := by
  unfold drt at h
  split at h <;> cases h
theorem art_ni {rt : Nat} {s' : PS} (h : art rt st μ = some (.inl s')) : False := by
  unfold art at h
  split at h <;> cases h
theorem vrt_ni {rt : Nat} {s' : PS} (h : vrt rt st μ = some (.inl s')) : False := by
  unfold vrt at h
  split at h <;> cases h
set_option maxHeartbeats 4000000 in
theorem sim_step {n : Nat} {M : MI} {i : Instr} {ln : Nat} (cx : Ctx p s m args meth c N0 L D cA n μ0) (hM : mtab n = some M) (hlk : lk2 M.1 pc = some (i, ln)) (h : pex M i ln pc pl st μ = some (.inl (pc', pl', st', μ'))) (hnw : i ≠ .newarray .int) (hsc : Sc μ0 μ) (hRf : 8 ≤ R.frames) (hRl : 200 ≤ R.locals) (hcl : cells ≤ R.cells) (hsl : slots ≤ R.slots) (hnL : nL = mxl n) (ha : At_ s.heap L D cA (jA N0) nL H locs ls pl μ)
    (k : Kt p l e R s m args below meth c s.heap cells slots Q L D cA (jA N0) nL pc' pl' st' μ') : Wg p l e R s m args below meth c H locs cells slots Q L pc ls st := by
  obtain ⟨hx, hb, hml, hr, hlocks, hown, hts, htab, hK, hF, hX, hXN⟩ := cx
  obtain ⟨hdc, hpf, -, -, -⟩ := mok hM
  obtain ⟨hdg, hl⟩ := hdc.at hlk
  have hml : c.maxLocals = nL := by rw [hml, hnL]
  have hX : va_X (L 390) μ.2.2.1 (mI μ 390) s s.heap := by rw [hsc.1, hsc.2]; exact hX
  have hXA : ¬ jA N0 (L 390) := Nat.not_le.mpr hXN
  cases i with
  | aaload => have q := Nat.eq_of_beq_eq_true hl; subst q; exact sn_aald hx hb ha hK hF hdg h k
  | aconst_null => have q := Nat.eq_of_beq_eq_true hl; subst q; exact sn_aconst_null hx hb ha hdg h k
  | aload a => have q := Nat.eq_of_beq_eq_true hl; subst q; exact sn_aload hx hb ha hdg h k
  | aload_n a => have q := Nat.eq_of_beq_eq_true hl; subst q; exact sn_aload_n hx hb ha hdg h k
  | astore a => have q := Nat.eq_of_beq_eq_true hl; subst q; exact sn_astore hx hb ha hdg h k
  | astore_n a => have q := Nat.eq_of_beq_eq_true hl; subst q; exact sn_astore_n hx hb ha hdg h k
  | bipush a => have q := Nat.eq_of_beq_eq_true hl; subst q; exact sn_bipush hx hb ha hdg h k
  | dload a => have q := Nat.eq_of_beq_eq_true hl; subst q; exact sn_dload hx hb ha hdg h k
  | dload_n a => have q := Nat.eq_of_beq_eq_true hl; subst q; exact sn_dload_n hx hb ha hdg h k
  | dstore a => have q := Nat.eq_of_beq_eq_true hl; subst q; exact sn_dstore hx hb ha hdg h k
  | dstore_n a => have q := Nat.eq_of_beq_eq_true hl; subst q; exact sn_dstore_n hx hb ha hdg h k
  | iconst a => have q := Nat.eq_of_beq_eq_true hl; subst q; exact sn_iconst hx hb ha hdg h k
  | iload a => have q := Nat.eq_of_beq_eq_true hl; subst q; exact sn_iload hx hb ha hdg h k
  | iload_n a => have q := Nat.eq_of_beq_eq_true hl; subst q; exact sn_iload_n hx hb ha hdg h k
  | istore a => have q := Nat.eq_of_beq_eq_true hl; subst q; exact sn_istore hx hb ha hdg h k
  | istore_n a => have q := Nat.eq_of_beq_eq_true hl; subst q; exact sn_istore_n hx hb ha hdg h k
  | lconst a => have q := Nat.eq_of_beq_eq_true hl; subst q; exact sn_lconst hx hb ha hdg h k
  | lload a => have q := Nat.eq_of_beq_eq_true hl; subst q; exact sn_lload hx hb ha hdg h k
  | lload_n a => have q := Nat.eq_of_beq_eq_true hl; subst q; exact sn_lload_n hx hb ha hdg h k
  | lstore a => have q := Nat.eq_of_beq_eq_true hl; subst q; exact sn_lstore hx hb ha hdg h k
  | lstore_n a => have q := Nat.eq_of_beq_eq_true hl; subst q; exact sn_lstore_n hx hb ha hdg h k
  | sipush a => have q := Nat.eq_of_beq_eq_true hl; subst q; exact sn_sipush hx hb ha hdg h k
  | goto a => have q := Nat.eq_of_beq_eq_true hl; subst q; exact sn_goto hx hb ha hdg h k
  | ifnonnull a => have q := Nat.eq_of_beq_eq_true hl; subst q; exact sn_ifnonnull hx hb ha hdg h k
  | ifnull a => have q := Nat.eq_of_beq_eq_true hl; subst q; exact sn_ifnull hx hb ha hdg h k
  | d2l => have q := Nat.eq_of_beq_eq_true hl; subst q; exact sn_d2l hx hb ha hdg h k
  | ddiv => have q := Nat.eq_of_beq_eq_true hl; subst q; exact sn_ddiv hx hb ha hdg h k
  | dmul => have q := Nat.eq_of_beq_eq_true hl; subst q; exact sn_dmul hx hb ha hdg h k
  | dsub => have q := Nat.eq_of_beq_eq_true hl; subst q; exact sn_dsub hx hb ha hdg h k
  | dup => have q := Nat.eq_of_beq_eq_true hl; subst q; exact sn_dup hx hb ha hdg h k
  | dup2 => have q := Nat.eq_of_beq_eq_true hl; subst q; exact sn_dup2 hx hb ha hdg h k
  | i2d => have q := Nat.eq_of_beq_eq_true hl; subst q; exact sn_i2d hx hb ha hdg h k
  | i2l => have q := Nat.eq_of_beq_eq_true hl; subst q; exact sn_i2l hx hb ha hdg h k
  | iadd => have q := Nat.eq_of_beq_eq_true hl; subst q; exact sn_iadd hx hb ha hdg h k
  | iand => have q := Nat.eq_of_beq_eq_true hl; subst q; exact sn_iand hx hb ha hdg h k
  | idiv => have q := Nat.eq_of_beq_eq_true hl; subst q; exact sn_idiv hx hb ha hdg h k
  | imul => have q := Nat.eq_of_beq_eq_true hl; subst q; exact sn_imul hx hb ha hdg h k
  | ineg => have q := Nat.eq_of_beq_eq_true hl; subst q; exact sn_ineg hx hb ha hdg h k
  | ior => have q := Nat.eq_of_beq_eq_true hl; subst q; exact sn_ior hx hb ha hdg h k
  | irem => have q := Nat.eq_of_beq_eq_true hl; subst q; exact sn_irem hx hb ha hdg h k
  | ishl => have q := Nat.eq_of_beq_eq_true hl; subst q; exact sn_ishl hx hb ha hdg h k
  | ishr => have q := Nat.eq_of_beq_eq_true hl; subst q; exact sn_ishr hx hb ha hdg h k
  | iushr => have q := Nat.eq_of_beq_eq_true hl; subst q; exact sn_iushr hx hb ha hdg h k
  | isub => have q := Nat.eq_of_beq_eq_true hl; subst q; exact sn_isub hx hb ha hdg h k
  | ixor => have q := Nat.eq_of_beq_eq_true hl; subst q; exact sn_ixor hx hb ha hdg h k
  | l2d => have q := Nat.eq_of_beq_eq_true hl; subst q; exact sn_l2d hx hb ha hdg h k
  | l2i => have q := Nat.eq_of_beq_eq_true hl; subst q; exact sn_l2i hx hb ha hdg h k
  | ladd => have q := Nat.eq_of_beq_eq_true hl; subst q; exact sn_ladd hx hb ha hdg h k
  | lcmp => have q := Nat.eq_of_beq_eq_true hl; subst q; exact sn_lcmp hx hb ha hdg h k
  | lmul => have q := Nat.eq_of_beq_eq_true hl; subst q; exact sn_lmul hx hb ha hdg h k
  | lrem => have q := Nat.eq_of_beq_eq_true hl; subst q; exact sn_lrem hx hb ha hdg h k
  | lshl => have q := Nat.eq_of_beq_eq_true hl; subst q; exact sn_lshl hx hb ha hdg h k
  | lsub => have q := Nat.eq_of_beq_eq_true hl; subst q; exact sn_lsub hx hb ha hdg h k
  | pop => have q := Nat.eq_of_beq_eq_true hl; subst q; exact sn_pop hx hb ha hdg h k
  | dcmp a => have q := Nat.eq_of_beq_eq_true hl; subst q; exact sn_dcmp hx hb ha hdg h k
  | dconst a =>
    have q := Nat.eq_of_beq_eq_true hl; subst q
    match a, hdg, h with
    | 0, hdg, h => exact sn_dconst0 hx hb ha hdg h k
    | 1, hdg, h => exact sn_dconst1 hx hb ha hdg h k
  | arraylength => have q := Nat.eq_of_beq_eq_true hl; subst q; exact sn_alen hx hb ha hK hF hX hXA hdg h k
  | iaload => have q := Nat.eq_of_beq_eq_true hl; subst q; exact sn_iald hx hb ha hK hF hX hXA hdg h k
  | iastore => have q := Nat.eq_of_beq_eq_true hl; subst q; exact sn_iast hx hb ha hK hdg h k
  | laload => have q := Nat.eq_of_beq_eq_true hl; subst q; exact (no21L h).elim
  | lastore => have q := Nat.eq_of_beq_eq_true hl; subst q; exact (no21S h).elim
  | getfield ix => have q := Nat.eq_of_beq_eq_true hl; subst q; exact sn_get hx hb ha hown hts hK hF hpf hdg h k
  | putfield ix => have q := Nat.eq_of_beq_eq_true hl; subst q; exact sn_put hx hb ha hown hts hK hpf hdg h k
  | getstatic ix => have q := Nat.eq_of_beq_eq_true hl; subst q; exact sn_gst hx hb ha hown hts hF hpf hdg h k
  | ldc ix => have q := Nat.eq_of_beq_eq_true hl; subst q; exact sn_ldcI2 hx hb ha hown hts hpf hdg h k
  | ldc_w ix => have q := Nat.eq_of_beq_eq_true hl; subst q; exact sn_ldcI3 hx hb ha hown hts hpf hdg h k
  | ldc2_w ix => have q := Nat.eq_of_beq_eq_true hl; subst q; exact sn_ldc2 hx hb ha hown hts hpf hdg h k
  | iinc a b => have q := Nat.eq_of_beq_eq_true hl; subst q; exact sn_iinc hx hb ha hdg h k
  | ifCond a off =>
    have q := Nat.eq_of_beq_eq_true hl; subst q
    cases a with
    | eq => exact sn_if_eq hx hb ha hdg h k
    | ne => exact sn_if_ne hx hb ha hdg h k
    | lt => exact sn_if_lt hx hb ha hdg h k
    | ge => exact sn_if_ge hx hb ha hdg h k
    | gt => exact sn_if_gt hx hb ha hdg h k
    | le => exact sn_if_le hx hb ha hdg h k
  | if_icmp a off =>
    have q := Nat.eq_of_beq_eq_true hl; subst q
    cases a with
    | eq => exact sn_icmp_eq hx hb ha hdg h k
    | ne => exact sn_icmp_ne hx hb ha hdg h k
    | lt => exact sn_icmp_lt hx hb ha hdg h k
    | ge => exact sn_icmp_ge hx hb ha hdg h k
    | gt => exact sn_icmp_gt hx hb ha hdg h k
    | le => exact sn_icmp_le hx hb ha hdg h k
  | if_acmp a off =>
    have q := Nat.eq_of_beq_eq_true hl; subst q
    cases a with
    | ne => exact sn_ifa hx hb ha hF hdg h k
    | _ => exact nomatch (show (none : Option SR) = some _ from h)
  | tableswitch a b d f => exact sn_tsw hx hb ha hdg h k
  | lookupswitch a b => exact sn_lsw hx hb ha hdg h k
  | invokestatic ix =>
    have q := Nat.eq_of_beq_eq_true hl; subst q
    obtain ⟨id, z, he, hid, hj⟩ := ivS_inl (show ivS M.2.1 pc ix pl st μ = some (.inl (pc', pl', st', μ')) from h)
    have h4 := (hpf ix).1
    rw [he] at h4
    have h4 := Nat.blt_eq.mp h4
    exact sn_jdkS hx hb hml ha hown hts hK hF hpf hRf (by omega) hcl hsl he hdg hj h4 k
  | invokevirtual ix =>
    have q := Nat.eq_of_beq_eq_true hl; subst q
    obtain ⟨id, z, he, hid, hj⟩ := ivV_inl (show ivV M.2.1 pc ix pl st μ = some (.inl (pc', pl', st', μ')) from h)
    exact sn_jdkV hx hb hml ha hown hts hF hpf hRf hRl hcl hsl he hdg hj hid k
  | new ix => exact (thr_sc (show thr M.1 M.2.1 pc ix st μ = some (.inl (pc', pl', st', μ')) from h)).elim
  | newarray a =>
    cases a with
    | int => exact absurd rfl hnw
    | _ => exact nomatch (show (none : Option SR) = some _ from h)
  | areturn => exact (art_ni (show art M.2.2.1 st μ = some (.inl (pc', pl', st', μ')) from h)).elim
  | dreturn => exact (drt_ni (show drt M.2.2.1 st μ = some (.inl (pc', pl', st', μ')) from h)).elim
  | ireturn => exact (irt_ni (show irt M.2.2.1 st μ = some (.inl (pc', pl', st', μ')) from h)).elim
  | lreturn => exact (jrt_ni (show jrt M.2.2.1 st μ = some (.inl (pc', pl', st', μ')) from h)).elim
  | return_ => exact (vrt_ni (show vrt M.2.2.1 st μ = some (.inl (pc', pl', st', μ')) from h)).elim
  | _ => exact nomatch (show (none : Option SR) = some _ from h)
end STEP
