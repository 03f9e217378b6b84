/-! WHAT IS KNOWN OF EACH METHOD, by program (wip/p32/genmok.py) -/
section MOK
def lnOK (i : Instr) (l : Nat) : Bool := match i with
  | .aaload => Nat.beq l 1
  | .aconst_null => Nat.beq l 1
  | .aload _ => Nat.beq l 2
  | .aload_n _ => Nat.beq l 1
  | .areturn => Nat.beq l 1
  | .arraylength => Nat.beq l 1
  | .astore _ => Nat.beq l 2
  | .astore_n _ => Nat.beq l 1
  | .bipush _ => Nat.beq l 2
  | .d2l => Nat.beq l 1
  | .dcmp _ => Nat.beq l 1
  | .dconst _ => Nat.beq l 1
  | .ddiv => Nat.beq l 1
  | .dload _ => Nat.beq l 2
  | .dload_n _ => Nat.beq l 1
  | .dmul => Nat.beq l 1
  | .dreturn => Nat.beq l 1
  | .dstore _ => Nat.beq l 2
  | .dstore_n _ => Nat.beq l 1
  | .dsub => Nat.beq l 1
  | .dup => Nat.beq l 1
  | .dup2 => Nat.beq l 1
  | .getfield _ => Nat.beq l 3
  | .getstatic _ => Nat.beq l 3
  | .goto _ => Nat.beq l 3
  | .i2d => Nat.beq l 1
  | .i2l => Nat.beq l 1
  | .iadd => Nat.beq l 1
  | .iaload => Nat.beq l 1
  | .iand => Nat.beq l 1
  | .iastore => Nat.beq l 1
  | .iconst _ => Nat.beq l 1
  | .idiv => Nat.beq l 1
  | .ifCond _ _ => Nat.beq l 3
  | .if_acmp _ _ => Nat.beq l 3
  | .if_icmp _ _ => Nat.beq l 3
  | .ifnonnull _ => Nat.beq l 3
  | .ifnull _ => Nat.beq l 3
  | .iinc _ _ => Nat.beq l 3
  | .iload _ => Nat.beq l 2
  | .iload_n _ => Nat.beq l 1
  | .imul => Nat.beq l 1
  | .ineg => Nat.beq l 1
  | .invokestatic _ => Nat.beq l 3
  | .invokevirtual _ => Nat.beq l 3
  | .ior => Nat.beq l 1
  | .irem => Nat.beq l 1
  | .ireturn => Nat.beq l 1
  | .ishl => Nat.beq l 1
  | .ishr => Nat.beq l 1
  | .istore _ => Nat.beq l 2
  | .istore_n _ => Nat.beq l 1
  | .isub => Nat.beq l 1
  | .iushr => Nat.beq l 1
  | .ixor => Nat.beq l 1
  | .l2d => Nat.beq l 1
  | .l2i => Nat.beq l 1
  | .ladd => Nat.beq l 1
  | .laload => Nat.beq l 1
  | .lastore => Nat.beq l 1
  | .lcmp => Nat.beq l 1
  | .lconst _ => Nat.beq l 1
  | .ldc _ => Nat.beq l 2
  | .ldc2_w _ => Nat.beq l 3
  | .ldc_w _ => Nat.beq l 3
  | .lload _ => Nat.beq l 2
  | .lload_n _ => Nat.beq l 1
  | .lmul => Nat.beq l 1
  | .lookupswitch _ _ => true
  | .lrem => Nat.beq l 1
  | .lreturn => Nat.beq l 1
  | .lshl => Nat.beq l 1
  | .lstore _ => Nat.beq l 2
  | .lstore_n _ => Nat.beq l 1
  | .lsub => Nat.beq l 1
  | .newarray _ => Nat.beq l 2
  | .pop => Nat.beq l 1
  | .putfield _ => Nat.beq l 3
  | .return_ => Nat.beq l 1
  | .sipush _ => Nat.beq l 3
  | .tableswitch _ _ _ _ => true
  | _ => true
def DC (cs : Chunks) (b : ByteArray) : Prop := ∀ c ∈ cs, ∀ z ∈ c, decode b z.1 = .ok (z.2.1, z.2.2) ∧ lnOK z.2.1 z.2.2 = true
theorem DC_nil {b : ByteArray} : DC [] b := fun c h => absurd h List.not_mem_nil
theorem DC_cons {b : ByteArray} {c : List (Nat × Instr × Nat)} {cs : Chunks} (h : ∀ z ∈ c, decode b z.1 = .ok (z.2.1, z.2.2)) (hl : c.all (fun z => lnOK z.2.1 z.2.2) = true) (h2 : DC cs b) : DC (c :: cs) b := by
  intro d hd z hz
  rcases List.mem_cons.mp hd with rfl | hd
  · exact ⟨h z hz, List.all_eq_true.mp hl z hz⟩
  · exact h2 d hd z hz
theorem lk_mem {c : List (Nat × Instr × Nat)} {pc : Nat} {i : Instr} {l : Nat} (h : lk c pc = some (i, l)) : (pc, i, l) ∈ c := by
  induction c with
  | nil => cases h
  | cons a r ih =>
    obtain ⟨p, j, n⟩ := a
    unfold lk at h
    cases hb : Nat.beq p pc
    · rw [hb] at h; exact List.mem_cons_of_mem _ (ih h)
    · rw [hb] at h
      simp only [cond_true, Option.some.injEq, Prod.mk.injEq] at h
      obtain ⟨rfl, rfl⟩ := h
      rw [Nat.eq_of_beq_eq_true hb]
      exact List.mem_cons_self
theorem DC.at {cs : Chunks} {b : ByteArray} (h : DC cs b) {pc : Nat} {i : Instr} {l : Nat} (hk : lk2 cs pc = some (i, l)) : decode b pc = .ok (i, l) ∧ lnOK i l = true := by
  unfold lk2 at hk
  have hm := lk_mem hk
  by_cases hq : pc / 32 < cs.length
  · rw [List.getD_eq_getElem?_getD, List.getElem?_eq_getElem hq, Option.getD_some] at hm
    have h2 := h cs[pc / 32] (List.getElem_mem hq) (pc, i, l) hm
    exact h2
  · rw [List.getD_eq_getElem?_getD, List.getElem?_eq_none (Nat.le_of_not_lt hq)] at hm
    exact absurd hm List.not_mem_nil
/-- the type of the answer -/
def rtO (r : Nat) (t : Option FieldType) : Prop := match r, t with
  | 0, none => True
  | 1, some .int => True
  | 2, some .boolean => True
  | 3, some .long => True
  | 4, some .double => True
  | 5, some (.object _) => True
  | _, _ => False
/-- the handlers -/
def HOK (own : String) : List (Nat × Nat × Nat × Nat) → List (Nat × Nat × Nat × Nat) → Prop
  | [], [] => True
  | (a, b, h, k) :: r, (a', b', h', ct) :: r' => (a = a' ∧ b = b' ∧ h = h') ∧ ct ≠ 0 ∧ (1 ≤ k ∧ k ≤ 3) ∧ Cond.classLink own ct (exn k) ∈ lwG ∧ HOK own r r'
  | _, _ => False
def MOK (n : Nat) (M : MI) : Prop := DC M.1 (mrec n).2.1 ∧ PF (yN n).cls M.2.1 ∧ rtO M.2.2.1 (mrec n).2.2.1 ∧ HOK (yN n).cls M.2.2.2.2 (mrec n).2.2.2 ∧ (plainName (yN n).cls = true ∧ (yN n).cls ≠ "java/lang/invoke/MethodHandle" ∧ (yN n).cls ≠ "java/lang/invoke/VarHandle")
theorem tix_in {q : Nat × Nat} {w : Cond} (h : tix q = some w) (hg : goodWord w = true) : w ∈ lwG := List.mem_filter.mpr ⟨tix_mem h, hg⟩
theorem aw_int : Cond.arrayClass .int ∈ lwG := tix_in (q := (1, 72)) rfl rfl
theorem mok_0 : MOK 0 mi_X1_copyFrom := ⟨(DC_cons dk_X1_copyFrom_0 (by decide +kernel) (DC_cons dk_X1_copyFrom_1 (by decide +kernel) DC_nil)), pf_X1, trivial, trivial, by decide +kernel⟩
theorem mok_1 : MOK 1 mi_X1_isQuietAt := ⟨(DC_cons dk_X1_isQuietAt_0 (by decide +kernel) DC_nil), pf_X1, trivial, trivial, by decide +kernel⟩
theorem mok_2 : MOK 2 mi_X1_distanceTo := ⟨(DC_cons dk_X1_distanceTo_0 (by decide +kernel) DC_nil), pf_X1, trivial, trivial, by decide +kernel⟩
theorem mok_3 : MOK 3 mi_X1_tunesPlayed := ⟨(DC_cons dk_X1_tunesPlayed_0 (by decide +kernel) (DC_cons dk_X1_tunesPlayed_1 (by decide +kernel) DC_nil)), pf_X1, trivial, trivial, by decide +kernel⟩
theorem mok_4 : MOK 4 mi_X1_noteTune := ⟨(DC_cons dk_X1_noteTune_0 (by decide +kernel) DC_nil), pf_X1, trivial, trivial, by decide +kernel⟩
theorem mok_5 : MOK 5 mi_X1_forgetDay := ⟨(DC_cons dk_X1_forgetDay_0 (by decide +kernel) DC_nil), pf_X1, trivial, trivial, by decide +kernel⟩
theorem mok_6 : MOK 6 mi_X2_signCount := ⟨(DC_cons dk_X2_signCount_0 (by decide +kernel) DC_nil), pf_X2, trivial, trivial, by decide +kernel⟩
theorem mok_7 : MOK 7 mi_X2_fits := ⟨(DC_cons dk_X2_fits_0 (by decide +kernel) (DC_cons dk_X2_fits_1 (by decide +kernel) DC_nil)), pf_X2, trivial, trivial, by decide +kernel⟩
theorem mok_8 : MOK 8 mi_X3_kindAt := ⟨(DC_cons dk_X3_kindAt_0 (by decide +kernel) (DC_cons dk_X3_kindAt_1 (by decide +kernel) DC_nil)), pf_X3, trivial, trivial, by decide +kernel⟩
theorem mok_9 : MOK 9 mi_X3_errorIndex := ⟨(DC_cons dk_X3_errorIndex_0 (by decide +kernel) (DC_cons dk_X3_errorIndex_1 (by decide +kernel) (DC_cons dk_X3_errorIndex_2 (by decide +kernel) (DC_cons dk_X3_errorIndex_3 (by decide +kernel) DC_nil)))), pf_X3, trivial, trivial, by decide +kernel⟩
theorem mok_10 : MOK 10 mi_X3_isWholeRow := ⟨(DC_cons dk_X3_isWholeRow_0 (by decide +kernel) (DC_cons dk_X3_isWholeRow_1 (by decide +kernel) DC_nil)), pf_X3, trivial, trivial, by decide +kernel⟩
theorem mok_11 : MOK 11 mi_X3_organAt := ⟨(DC_cons dk_X3_organAt_0 (by decide +kernel) DC_nil), pf_X3, trivial, trivial, by decide +kernel⟩
theorem mok_12 : MOK 12 mi_X3_tuneAt := ⟨(DC_cons dk_X3_tuneAt_0 (by decide +kernel) DC_nil), pf_X3, trivial, trivial, by decide +kernel⟩
theorem mok_13 : MOK 13 mi_X4_copyFrom := ⟨(DC_cons dk_X4_copyFrom_0 (by decide +kernel) (DC_cons dk_X4_copyFrom_1 (by decide +kernel) (DC_cons dk_X4_copyFrom_2 (by decide +kernel) DC_nil))), pf_X4, trivial, trivial, by decide +kernel⟩
theorem mok_14 : MOK 14 mi_X5_lookAt := ⟨(DC_cons dk_X5_lookAt_0 (by decide +kernel) DC_nil), pf_X5, trivial, trivial, by decide +kernel⟩
theorem mok_15 : MOK 15 mi_X5_leastHindering := ⟨(DC_cons dk_X5_leastHindering_0 (by decide +kernel) (DC_cons dk_X5_leastHindering_1 (by decide +kernel) DC_nil)), pf_X5, trivial, trivial, by decide +kernel⟩
theorem mok_16 : MOK 16 mi_X5_hinderedPairs := ⟨(DC_cons dk_X5_hinderedPairs_0 (by decide +kernel) (DC_cons dk_X5_hinderedPairs_1 (by decide +kernel) DC_nil)), pf_X5, trivial, trivial, by decide +kernel⟩
theorem mok_17 : MOK 17 mi_X5_findMost := ⟨(DC_cons dk_X5_findMost_0 (by decide +kernel) (DC_cons dk_X5_findMost_1 (by decide +kernel) (DC_cons dk_X5_findMost_2 (by decide +kernel) DC_nil))), pf_X5, trivial, trivial, by decide +kernel⟩
theorem mok_18 : MOK 18 mi_X5_takingsOf := ⟨(DC_cons dk_X5_takingsOf_0 (by decide +kernel) (DC_cons dk_X5_takingsOf_1 (by decide +kernel) DC_nil)), pf_X5, trivial, trivial, by decide +kernel⟩
theorem mok_19 : MOK 19 mi_X5_nearAhead := ⟨(DC_cons dk_X5_nearAhead_0 (by decide +kernel) (DC_cons dk_X5_nearAhead_1 (by decide +kernel) DC_nil)), pf_X5, trivial, trivial, by decide +kernel⟩
theorem mok_20 : MOK 20 mi_X5_findTunes := ⟨(DC_cons dk_X5_findTunes_0 (by decide +kernel) (DC_cons dk_X5_findTunes_1 (by decide +kernel) (DC_cons dk_X5_findTunes_2 (by decide +kernel) (DC_cons dk_X5_findTunes_3 (by decide +kernel) DC_nil)))), pf_X5, trivial, trivial, by decide +kernel⟩
theorem mok_21 : MOK 21 mi_X5_isFree := ⟨(DC_cons dk_X5_isFree_0 (by decide +kernel) (DC_cons dk_X5_isFree_1 (by decide +kernel) DC_nil)), pf_X5, trivial, trivial, by decide +kernel⟩
theorem mok_22 : MOK 22 mi_X6_reckon := ⟨(DC_cons dk_X6_reckon_0 (by decide +kernel) (DC_cons dk_X6_reckon_1 (by decide +kernel) DC_nil)), pf_X6, trivial, trivial, by decide +kernel⟩
theorem mok_23 : MOK 23 mi_X6_sharePot := ⟨(DC_cons dk_X6_sharePot_0 (by decide +kernel) (DC_cons dk_X6_sharePot_1 (by decide +kernel) (DC_cons dk_X6_sharePot_2 (by decide +kernel) (DC_cons dk_X6_sharePot_3 (by decide +kernel) (DC_cons dk_X6_sharePot_4 (by decide +kernel) DC_nil))))), pf_X6, trivial, trivial, by decide +kernel⟩
theorem mok_24 : MOK 24 mi_X6_giveUnits := ⟨(DC_cons dk_X6_giveUnits_0 (by decide +kernel) (DC_cons dk_X6_giveUnits_1 (by decide +kernel) (DC_cons dk_X6_giveUnits_2 (by decide +kernel) DC_nil))), pf_X6, trivial, trivial, by decide +kernel⟩
theorem mok_25 : MOK 25 mi_X6_giveAllowances := ⟨(DC_cons dk_X6_giveAllowances_0 (by decide +kernel) (DC_cons dk_X6_giveAllowances_1 (by decide +kernel) DC_nil)), pf_X6, trivial, trivial, by decide +kernel⟩
theorem mok_26 : MOK 26 mi_X7_copyFrom := ⟨(DC_cons dk_X7_copyFrom_0 (by decide +kernel) (DC_cons dk_X7_copyFrom_1 (by decide +kernel) DC_nil)), pf_X7, trivial, trivial, by decide +kernel⟩
theorem mok_27 : MOK 27 mi_X7_hoursOfDay := ⟨(DC_cons dk_X7_hoursOfDay_0 (by decide +kernel) DC_nil), pf_X7, trivial, trivial, by decide +kernel⟩
theorem mok_28 : MOK 28 mi_X7_forgetDay := ⟨(DC_cons dk_X7_forgetDay_0 (by decide +kernel) DC_nil), pf_X7, trivial, trivial, by decide +kernel⟩
theorem mok_29 : MOK 29 mi_X8_save := ⟨(DC_cons dk_X8_save_0 (by decide +kernel) (DC_cons dk_X8_save_1 (by decide +kernel) DC_nil)), pf_X8, trivial, trivial, by decide +kernel⟩
theorem mok_30 : MOK 30 mi_X9_copyFrom := ⟨(DC_cons dk_X9_copyFrom_0 (by decide +kernel) (DC_cons dk_X9_copyFrom_1 (by decide +kernel) (DC_cons dk_X9_copyFrom_2 (by decide +kernel) (DC_cons dk_X9_copyFrom_3 (by decide +kernel) (DC_cons dk_X9_copyFrom_4 (by decide +kernel) (DC_cons dk_X9_copyFrom_5 (by decide +kernel) DC_nil)))))), pf_X9, trivial, trivial, by decide +kernel⟩
theorem mok_31 : MOK 31 mi_X9_hasCornerAt := ⟨(DC_cons dk_X9_hasCornerAt_0 (by decide +kernel) (DC_cons dk_X9_hasCornerAt_1 (by decide +kernel) DC_nil)), pf_X9, trivial, trivial, by decide +kernel⟩
theorem mok_32 : MOK 32 mi_X9_permits := ⟨(DC_cons dk_X9_permits_0 (by decide +kernel) (DC_cons dk_X9_permits_1 (by decide +kernel) DC_nil)), pf_X9, trivial, trivial, by decide +kernel⟩
theorem mok_33 : MOK 33 mi_X9_crewSize := ⟨(DC_cons dk_X9_crewSize_0 (by decide +kernel) (DC_cons dk_X9_crewSize_1 (by decide +kernel) DC_nil)), pf_X9, trivial, trivial, by decide +kernel⟩
theorem mok_34 : MOK 34 mi_X9_organAt := ⟨(DC_cons dk_X9_organAt_0 (by decide +kernel) (DC_cons dk_X9_organAt_1 (by decide +kernel) DC_nil)), pf_X9, trivial, trivial, by decide +kernel⟩
theorem mok_35 : MOK 35 mi_X9_cornerOf := ⟨(DC_cons dk_X9_cornerOf_0 (by decide +kernel) (DC_cons dk_X9_cornerOf_1 (by decide +kernel) DC_nil)), pf_X9, trivial, trivial, by decide +kernel⟩
theorem mok_36 : MOK 36 mi_X9_takingsSoFar := ⟨(DC_cons dk_X9_takingsSoFar_0 (by decide +kernel) DC_nil), pf_X9, trivial, trivial, by decide +kernel⟩
theorem mok_37 : MOK 37 mi_X9_ownersSoFar := ⟨(DC_cons dk_X9_ownersSoFar_0 (by decide +kernel) DC_nil), pf_X9, trivial, trivial, by decide +kernel⟩
theorem mok_38 : MOK 38 mi_X9_inAllPots := ⟨(DC_cons dk_X9_inAllPots_0 (by decide +kernel) DC_nil), pf_X9, trivial, trivial, by decide +kernel⟩
theorem mok_39 : MOK 39 mi_X9_playersSoFar := ⟨(DC_cons dk_X9_playersSoFar_0 (by decide +kernel) DC_nil), pf_X9, trivial, trivial, by decide +kernel⟩
theorem mok_40 : MOK 40 mi_X9_weatherMayChange := ⟨(DC_cons dk_X9_weatherMayChange_0 (by decide +kernel) DC_nil), pf_X9, trivial, trivial, by decide +kernel⟩
theorem mok_41 : MOK 41 mi_X9_lotsMayBeDrawn := ⟨(DC_cons dk_X9_lotsMayBeDrawn_0 (by decide +kernel) DC_nil), pf_X9, trivial, trivial, by decide +kernel⟩
theorem mok_42 : MOK 42 mi_X9_drawLots := ⟨(DC_cons dk_X9_drawLots_0 (by decide +kernel) (DC_cons dk_X9_drawLots_1 (by decide +kernel) (DC_cons dk_X9_drawLots_2 (by decide +kernel) DC_nil))), pf_X9, trivial, trivial, by decide +kernel⟩
theorem mok_43 : MOK 43 mi_X9_takeCornersBack := ⟨(DC_cons dk_X9_takeCornersBack_0 (by decide +kernel) DC_nil), pf_X9, trivial, trivial, by decide +kernel⟩
theorem mok_44 : MOK 44 mi_X9_draw := ⟨(DC_cons dk_X9_draw_0 (by decide +kernel) (DC_cons dk_X9_draw_1 (by decide +kernel) DC_nil)), pf_X9, trivial, trivial, by decide +kernel⟩
theorem mok_45 : MOK 45 mi_X9_freeCorner := ⟨(DC_cons dk_X9_freeCorner_0 (by decide +kernel) (DC_cons dk_X9_freeCorner_1 (by decide +kernel) DC_nil)), pf_X9, trivial, trivial, by decide +kernel⟩
theorem mok_46 : MOK 46 mi_X9_areNear := ⟨(DC_cons dk_X9_areNear_0 (by decide +kernel) (DC_cons dk_X9_areNear_1 (by decide +kernel) DC_nil)), pf_X9, trivial, trivial, by decide +kernel⟩
theorem mok_47 : MOK 47 mi_X9_tunesHeardAt := ⟨(DC_cons dk_X9_tunesHeardAt_0 (by decide +kernel) (DC_cons dk_X9_tunesHeardAt_1 (by decide +kernel) (DC_cons dk_X9_tunesHeardAt_2 (by decide +kernel) DC_nil))), pf_X9, trivial, trivial, by decide +kernel⟩
theorem mok_48 : MOK 48 mi_X9_reasonAgainstAll := ⟨(DC_cons dk_X9_reasonAgainstAll_0 (by decide +kernel) (DC_cons dk_X9_reasonAgainstAll_1 (by decide +kernel) DC_nil)), pf_X9, trivial, trivial, by decide +kernel⟩
theorem mok_49 : MOK 49 mi_X9_reasonAgainst := ⟨(DC_cons dk_X9_reasonAgainst_0 (by decide +kernel) (DC_cons dk_X9_reasonAgainst_1 (by decide +kernel) (DC_cons dk_X9_reasonAgainst_2 (by decide +kernel) DC_nil))), pf_X9, trivial, trivial, by decide +kernel⟩
theorem mok_50 : MOK 50 mi_X9_playableTunes := ⟨(DC_cons dk_X9_playableTunes_0 (by decide +kernel) (DC_cons dk_X9_playableTunes_1 (by decide +kernel) DC_nil)), pf_X9, trivial, trivial, by decide +kernel⟩
theorem mok_51 : MOK 51 mi_X9_playedNear := ⟨(DC_cons dk_X9_playedNear_0 (by decide +kernel) (DC_cons dk_X9_playedNear_1 (by decide +kernel) DC_nil)), pf_X9, trivial, trivial, by decide +kernel⟩
theorem mok_52 : MOK 52 mi_X9_takingsFor := ⟨(DC_cons dk_X9_takingsFor_0 (by decide +kernel) (DC_cons dk_X9_takingsFor_1 (by decide +kernel) DC_nil)), pf_X9, trivial, trivial, by decide +kernel⟩
theorem mok_53 : MOK 53 mi_X9_playTune := ⟨(DC_cons dk_X9_playTune_0 (by decide +kernel) (DC_cons dk_X9_playTune_1 (by decide +kernel) (DC_cons dk_X9_playTune_2 (by decide +kernel) DC_nil))), pf_X9, trivial, trivial, by decide +kernel⟩
theorem mok_54 : MOK 54 mi_X9_divideTakings := ⟨(DC_cons dk_X9_divideTakings_0 (by decide +kernel) (DC_cons dk_X9_divideTakings_1 (by decide +kernel) (DC_cons dk_X9_divideTakings_2 (by decide +kernel) (DC_cons dk_X9_divideTakings_3 (by decide +kernel) DC_nil)))), pf_X9, trivial, trivial, by decide +kernel⟩
theorem mok_55 : MOK 55 mi_X9_addHourOfCrew := ⟨(DC_cons dk_X9_addHourOfCrew_0 (by decide +kernel) (DC_cons dk_X9_addHourOfCrew_1 (by decide +kernel) DC_nil)), pf_X9, trivial, trivial, by decide +kernel⟩
theorem mok_56 : MOK 56 mi_X9_endHour := ⟨(DC_cons dk_X9_endHour_0 (by decide +kernel) (DC_cons dk_X9_endHour_1 (by decide +kernel) DC_nil)), pf_X9, trivial, trivial, by decide +kernel⟩
theorem mok_57 : MOK 57 mi_X9_payOut := ⟨(DC_cons dk_X9_payOut_0 (by decide +kernel) (DC_cons dk_X9_payOut_1 (by decide +kernel) (DC_cons dk_X9_payOut_2 (by decide +kernel) (DC_cons dk_X9_payOut_3 (by decide +kernel) DC_nil)))), pf_X9, trivial, trivial, by decide +kernel⟩
theorem mok_58 : MOK 58 mi_X9_beginDay := ⟨(DC_cons dk_X9_beginDay_0 (by decide +kernel) (DC_cons dk_X9_beginDay_1 (by decide +kernel) (DC_cons dk_X9_beginDay_2 (by decide +kernel) DC_nil))), pf_X9, trivial, trivial, by decide +kernel⟩
theorem mok_59 : MOK 59 mi_X10_addCorner := ⟨(DC_cons dk_X10_addCorner_0 (by decide +kernel) (DC_cons dk_X10_addCorner_1 (by decide +kernel) (DC_cons dk_X10_addCorner_2 (by decide +kernel) (DC_cons dk_X10_addCorner_3 (by decide +kernel) (DC_cons dk_X10_addCorner_4 (by decide +kernel) DC_nil))))), pf_X10, trivial, trivial, by decide +kernel⟩
theorem mok_60 : MOK 60 mi_X10_addOrgan := ⟨(DC_cons dk_X10_addOrgan_0 (by decide +kernel) (DC_cons dk_X10_addOrgan_1 (by decide +kernel) (DC_cons dk_X10_addOrgan_2 (by decide +kernel) DC_nil))), pf_X10, trivial, trivial, by decide +kernel⟩
theorem mok_61 : MOK 61 mi_X10_addPlayer := ⟨(DC_cons dk_X10_addPlayer_0 (by decide +kernel) (DC_cons dk_X10_addPlayer_1 (by decide +kernel) DC_nil)), pf_X10, trivial, trivial, by decide +kernel⟩
theorem mok_62 : MOK 62 mi_X10_permit := ⟨(DC_cons dk_X10_permit_0 (by decide +kernel) (DC_cons dk_X10_permit_1 (by decide +kernel) DC_nil)), pf_X10, trivial, trivial, by decide +kernel⟩
theorem mok_63 : MOK 63 mi_X10_barrel := ⟨(DC_cons dk_X10_barrel_0 (by decide +kernel) (DC_cons dk_X10_barrel_1 (by decide +kernel) DC_nil)), pf_X10, trivial, trivial, by decide +kernel⟩
theorem mok_64 : MOK 64 mi_X10_assign := ⟨(DC_cons dk_X10_assign_0 (by decide +kernel) (DC_cons dk_X10_assign_1 (by decide +kernel) (DC_cons dk_X10_assign_2 (by decide +kernel) DC_nil))), pf_X10, trivial, trivial, by decide +kernel⟩
theorem mok_65 : MOK 65 mi_X10_set := ⟨(DC_cons dk_X10_set_0 (by decide +kernel) (DC_cons dk_X10_set_1 (by decide +kernel) DC_nil)), pf_X10, trivial, trivial, by decide +kernel⟩
theorem mok_66 : MOK 66 mi_X10_lots := ⟨(DC_cons dk_X10_lots_0 (by decide +kernel) DC_nil), pf_X10, trivial, trivial, by decide +kernel⟩
theorem mok_67 : MOK 67 mi_X10_weather := ⟨(DC_cons dk_X10_weather_0 (by decide +kernel) (DC_cons dk_X10_weather_1 (by decide +kernel) DC_nil)), pf_X10, trivial, trivial, by decide +kernel⟩
theorem mok_68 : MOK 68 mi_X10_play := ⟨(DC_cons dk_X10_play_0 (by decide +kernel) (DC_cons dk_X10_play_1 (by decide +kernel) DC_nil)), pf_X10, trivial, trivial, by decide +kernel⟩
theorem mok_69 : MOK 69 mi_X10_next := ⟨(DC_cons dk_X10_next_0 (by decide +kernel) DC_nil), pf_X10, trivial, trivial, by decide +kernel⟩
theorem mok_70 : MOK 70 mi_X10_append := ⟨(DC_cons dk_X10_append_0 (by decide +kernel) (DC_cons dk_X10_append_1 (by decide +kernel) (DC_cons dk_X10_append_2 (by decide +kernel) DC_nil))), pf_X10, trivial, trivial, by decide +kernel⟩
theorem mok_71 : MOK 71 mi_X10_clearBuffer := ⟨(DC_cons dk_X10_clearBuffer_0 (by decide +kernel) DC_nil), pf_X10, trivial, trivial, by decide +kernel⟩
theorem mok_72 : MOK 72 mi_X10_run := ⟨(DC_cons dk_X10_run_0 (by decide +kernel) (DC_cons dk_X10_run_1 (by decide +kernel) (DC_cons dk_X10_run_2 (by decide +kernel) DC_nil))), pf_X10, trivial, trivial, by decide +kernel⟩
theorem mok_73 : MOK 73 mi_X10_corner := ⟨(DC_cons dk_X10_corner_0 (by decide +kernel) (DC_cons dk_X10_corner_1 (by decide +kernel) (DC_cons dk_X10_corner_2 (by decide +kernel) (DC_cons dk_X10_corner_3 (by decide +kernel) DC_nil)))), pf_X10, trivial, trivial, by decide +kernel⟩
theorem mok_74 : MOK 74 mi_X10_organ := ⟨(DC_cons dk_X10_organ_0 (by decide +kernel) (DC_cons dk_X10_organ_1 (by decide +kernel) (DC_cons dk_X10_organ_2 (by decide +kernel) (DC_cons dk_X10_organ_3 (by decide +kernel) DC_nil)))), pf_X10, trivial, trivial, by decide +kernel⟩
theorem mok_75 : MOK 75 mi_X10_player := ⟨(DC_cons dk_X10_player_0 (by decide +kernel) (DC_cons dk_X10_player_1 (by decide +kernel) (DC_cons dk_X10_player_2 (by decide +kernel) DC_nil))), pf_X10, trivial, trivial, by decide +kernel⟩
theorem mok_76 : MOK 76 mi_X10_hours := ⟨(DC_cons dk_X10_hours_0 (by decide +kernel) (DC_cons dk_X10_hours_1 (by decide +kernel) DC_nil)), pf_X10, trivial, trivial, by decide +kernel⟩
theorem mok_77 : MOK 77 mi_X10_count := ⟨(DC_cons dk_X10_count_0 (by decide +kernel) (DC_cons dk_X10_count_1 (by decide +kernel) (DC_cons dk_X10_count_2 (by decide +kernel) (DC_cons dk_X10_count_3 (by decide +kernel) (DC_cons dk_X10_count_4 (by decide +kernel) (DC_cons dk_X10_count_5 (by decide +kernel) (DC_cons dk_X10_count_6 (by decide +kernel) DC_nil))))))), pf_X10, trivial, trivial, by decide +kernel⟩
theorem mok_78 : MOK 78 mi_X10_setting := ⟨(DC_cons dk_X10_setting_0 (by decide +kernel) DC_nil), pf_X10, trivial, trivial, by decide +kernel⟩
theorem mok_79 : MOK 79 mi_X10_whyNot := ⟨(DC_cons dk_X10_whyNot_0 (by decide +kernel) DC_nil), pf_X10, trivial, trivial, by decide +kernel⟩
theorem mok_80 : MOK 80 mi_X10_ifPlayed := ⟨(DC_cons dk_X10_ifPlayed_0 (by decide +kernel) (DC_cons dk_X10_ifPlayed_1 (by decide +kernel) DC_nil)), pf_X10, trivial, trivial, by decide +kernel⟩
theorem mok_81 : MOK 81 mi_X10_kindestTune := ⟨(DC_cons dk_X10_kindestTune_0 (by decide +kernel) (DC_cons dk_X10_kindestTune_1 (by decide +kernel) DC_nil)), pf_X10, trivial, trivial, by decide +kernel⟩
theorem mok_82 : MOK 82 mi_X10_most := ⟨(DC_cons dk_X10_most_0 (by decide +kernel) (DC_cons dk_X10_most_1 (by decide +kernel) DC_nil)), pf_X10, trivial, trivial, by decide +kernel⟩
theorem mok_83 : MOK 83 mi_X10_ifEnded := ⟨(DC_cons dk_X10_ifEnded_0 (by decide +kernel) (DC_cons dk_X10_ifEnded_1 (by decide +kernel) DC_nil)), pf_X10, trivial, trivial, by decide +kernel⟩
theorem mok_84 : MOK 84 mi_X10_playersShare := ⟨(DC_cons dk_X10_playersShare_0 (by decide +kernel) DC_nil), pf_X10, trivial, trivial, by decide +kernel⟩
theorem mok_85 : MOK 85 mi_X10_requireIndex := ⟨(DC_cons dk_X10_requireIndex_0 (by decide +kernel) DC_nil), pf_X10, trivial, trivial, by decide +kernel⟩
theorem mok_86 : MOK 86 mi_X10_requireInRange := ⟨(DC_cons dk_X10_requireInRange_0 (by decide +kernel) DC_nil), pf_X10, trivial, trivial, by decide +kernel⟩
theorem mok_87 : MOK 87 mi_X10_requireState := ⟨(DC_cons dk_X10_requireState_0 (by decide +kernel) DC_nil), pf_X10, trivial, trivial, by decide +kernel⟩
theorem mok_88 : MOK 88 mi_X10_asNumber := ⟨(DC_cons dk_X10_asNumber_0 (by decide +kernel) DC_nil), pf_X10, trivial, trivial, by decide +kernel⟩
theorem mok_89 : MOK 89 mi_X10_holds := ⟨(DC_cons dk_X10_holds_0 (by decide +kernel) DC_nil), pf_X10, trivial, trivial, by decide +kernel⟩
theorem mok_90 : MOK 90 mi_X10_obey := ⟨(DC_cons dk_X10_obey_0 (by decide +kernel) (DC_cons dk_X10_obey_1 (by decide +kernel) (DC_cons dk_X10_obey_2 (by decide +kernel) (DC_cons dk_X10_obey_3 (by decide +kernel) (DC_cons dk_X10_obey_4 (by decide +kernel) DC_nil))))), pf_X10, trivial, trivial, by decide +kernel⟩
theorem mok_91 : MOK 91 mi_X10_obeyPlay := ⟨(DC_cons dk_X10_obeyPlay_0 (by decide +kernel) (DC_cons dk_X10_obeyPlay_1 (by decide +kernel) DC_nil)), pf_X10, trivial, trivial, by decide +kernel⟩
theorem mok_92 : MOK 92 mi_L_cell := ⟨(DC_cons dk_L_cell_0 (by decide +kernel) DC_nil), pf_L, trivial, trivial, by decide +kernel⟩
theorem mok_93 : MOK 93 mi_L_at := ⟨(DC_cons dk_L_at_0 (by decide +kernel) DC_nil), pf_L, trivial, trivial, by decide +kernel⟩
theorem mok_94 : MOK 94 mi_L_abs := ⟨(DC_cons dk_L_abs_0 (by decide +kernel) DC_nil), pf_L, trivial, trivial, by decide +kernel⟩
theorem mok_95 : MOK 95 mi_L_draw := ⟨(DC_cons dk_L_draw_0 (by decide +kernel) DC_nil), pf_L, trivial, trivial, by decide +kernel⟩
theorem mok_96 : MOK 96 mi_L_holder := ⟨(DC_cons dk_L_holder_0 (by decide +kernel) DC_nil), pf_L, trivial, trivial, by decide +kernel⟩
theorem mok_97 : MOK 97 mi_L_today := ⟨(DC_cons dk_L_today_0 (by decide +kernel) DC_nil), pf_L, trivial, trivial, by decide +kernel⟩
theorem mok_98 : MOK 98 mi_L_drawn := ⟨(DC_cons dk_L_drawn_0 (by decide +kernel) (DC_cons dk_L_drawn_1 (by decide +kernel) (DC_cons dk_L_drawn_2 (by decide +kernel) (DC_cons dk_L_drawn_3 (by decide +kernel) (DC_cons dk_L_drawn_4 (by decide +kernel) (DC_cons dk_L_drawn_5 (by decide +kernel) DC_nil)))))), pf_L, trivial, trivial, by decide +kernel⟩
theorem mok_99 : MOK 99 mi_L_near := ⟨(DC_cons dk_L_near_0 (by decide +kernel) DC_nil), pf_L, trivial, trivial, by decide +kernel⟩
theorem mok_100 : MOK 100 mi_L_quiet := ⟨(DC_cons dk_L_quiet_0 (by decide +kernel) (DC_cons dk_L_quiet_1 (by decide +kernel) DC_nil)), pf_L, trivial, trivial, by decide +kernel⟩
theorem mok_101 : MOK 101 mi_L_heard := ⟨(DC_cons dk_L_heard_0 (by decide +kernel) (DC_cons dk_L_heard_1 (by decide +kernel) (DC_cons dk_L_heard_2 (by decide +kernel) (DC_cons dk_L_heard_3 (by decide +kernel) DC_nil)))), pf_L, trivial, trivial, by decide +kernel⟩
theorem mok_102 : MOK 102 mi_L_crew := ⟨(DC_cons dk_L_crew_0 (by decide +kernel) (DC_cons dk_L_crew_1 (by decide +kernel) DC_nil)), pf_L, trivial, trivial, by decide +kernel⟩
theorem mok_103 : MOK 103 mi_L_why := ⟨(DC_cons dk_L_why_0 (by decide +kernel) (DC_cons dk_L_why_1 (by decide +kernel) (DC_cons dk_L_why_2 (by decide +kernel) (DC_cons dk_L_why_3 (by decide +kernel) DC_nil)))), pf_L, trivial, trivial, by decide +kernel⟩
theorem mok_104 : MOK 104 mi_L_takes := ⟨(DC_cons dk_L_takes_0 (by decide +kernel) (DC_cons dk_L_takes_1 (by decide +kernel) (DC_cons dk_L_takes_2 (by decide +kernel) (DC_cons dk_L_takes_3 (by decide +kernel) DC_nil)))), pf_L, trivial, trivial, by decide +kernel⟩
theorem mok_105 : MOK 105 mi_L_play := ⟨(DC_cons dk_L_play_0 (by decide +kernel) (DC_cons dk_L_play_1 (by decide +kernel) (DC_cons dk_L_play_2 (by decide +kernel) (DC_cons dk_L_play_3 (by decide +kernel) (DC_cons dk_L_play_4 (by decide +kernel) (DC_cons dk_L_play_5 (by decide +kernel) (DC_cons dk_L_play_6 (by decide +kernel) DC_nil))))))), pf_L, trivial, trivial, by decide +kernel⟩
theorem mok_106 : MOK 106 mi_L_ends := ⟨(DC_cons dk_L_ends_0 (by decide +kernel) (DC_cons dk_L_ends_1 (by decide +kernel) (DC_cons dk_L_ends_2 (by decide +kernel) (DC_cons dk_L_ends_3 (by decide +kernel) (DC_cons dk_L_ends_4 (by decide +kernel) (DC_cons dk_L_ends_5 (by decide +kernel) (DC_cons dk_L_ends_6 (by decide +kernel) (DC_cons dk_L_ends_7 (by decide +kernel) (DC_cons dk_L_ends_8 (by decide +kernel) (DC_cons dk_L_ends_9 (by decide +kernel) (DC_cons dk_L_ends_10 (by decide +kernel) (DC_cons dk_L_ends_11 (by decide +kernel) DC_nil)))))))))))), pf_L, trivial, trivial, by decide +kernel⟩
theorem mok_107 : MOK 107 mi_L_next := ⟨(DC_cons dk_L_next_0 (by decide +kernel) (DC_cons dk_L_next_1 (by decide +kernel) (DC_cons dk_L_next_2 (by decide +kernel) (DC_cons dk_L_next_3 (by decide +kernel) DC_nil)))), pf_L, trivial, trivial, by decide +kernel⟩
theorem mok_108 : MOK 108 mi_L_told := ⟨(DC_cons dk_L_told_0 (by decide +kernel) (DC_cons dk_L_told_1 (by decide +kernel) (DC_cons dk_L_told_2 (by decide +kernel) (DC_cons dk_L_told_3 (by decide +kernel) (DC_cons dk_L_told_4 (by decide +kernel) (DC_cons dk_L_told_5 (by decide +kernel) (DC_cons dk_L_told_6 (by decide +kernel) (DC_cons dk_L_told_7 (by decide +kernel) (DC_cons dk_L_told_8 (by decide +kernel) (DC_cons dk_L_told_9 (by decide +kernel) (DC_cons dk_L_told_10 (by decide +kernel) (DC_cons dk_L_told_11 (by decide +kernel) (DC_cons dk_L_told_12 (by decide +kernel) (DC_cons dk_L_told_13 (by decide +kernel) (DC_cons dk_L_told_14 (by decide +kernel) (DC_cons dk_L_told_15 (by decide +kernel) (DC_cons dk_L_told_16 (by decide +kernel) (DC_cons dk_L_told_17 (by decide +kernel) (DC_cons dk_L_told_18 (by decide +kernel) (DC_cons dk_L_told_19 (by decide +kernel) (DC_cons dk_L_told_20 (by decide +kernel) (DC_cons dk_L_told_21 (by decide +kernel) (DC_cons dk_L_told_22 (by decide +kernel) (DC_cons dk_L_told_23 (by decide +kernel) (DC_cons dk_L_told_24 (by decide +kernel) DC_nil))))))))))))))))))))))))), pf_L, trivial, trivial, by decide +kernel⟩
theorem mok_109 : MOK 109 mi_L_same := ⟨(DC_cons dk_L_same_0 (by decide +kernel) DC_nil), pf_L, trivial, trivial, by decide +kernel⟩
theorem mok_110 : MOK 110 mi_L_pairs := ⟨(DC_cons dk_L_pairs_0 (by decide +kernel) (DC_cons dk_L_pairs_1 (by decide +kernel) (DC_cons dk_L_pairs_2 (by decide +kernel) DC_nil))), pf_L, trivial, trivial, by decide +kernel⟩
theorem mok_111 : MOK 111 mi_L_ahead := ⟨(DC_cons dk_L_ahead_0 (by decide +kernel) (DC_cons dk_L_ahead_1 (by decide +kernel) (DC_cons dk_L_ahead_2 (by decide +kernel) (DC_cons dk_L_ahead_3 (by decide +kernel) (DC_cons dk_L_ahead_4 (by decide +kernel) (DC_cons dk_L_ahead_5 (by decide +kernel) (DC_cons dk_L_ahead_6 (by decide +kernel) (DC_cons dk_L_ahead_7 (by decide +kernel) (DC_cons dk_L_ahead_8 (by decide +kernel) (DC_cons dk_L_ahead_9 (by decide +kernel) (DC_cons dk_L_ahead_10 (by decide +kernel) (DC_cons dk_L_ahead_11 (by decide +kernel) (DC_cons dk_L_ahead_12 (by decide +kernel) (DC_cons dk_L_ahead_13 (by decide +kernel) (DC_cons dk_L_ahead_14 (by decide +kernel) (DC_cons dk_L_ahead_15 (by decide +kernel) (DC_cons dk_L_ahead_16 (by decide +kernel) (DC_cons dk_L_ahead_17 (by decide +kernel) DC_nil)))))))))))))))))), pf_L, trivial, trivial, by decide +kernel⟩
theorem mok_112 : MOK 112 mi_L_letters := ⟨(DC_cons dk_L_letters_0 (by decide +kernel) (DC_cons dk_L_letters_1 (by decide +kernel) DC_nil)), pf_L, trivial, trivial, by decide +kernel⟩
theorem mok_113 : MOK 113 mi_L_runs := ⟨(DC_cons dk_L_runs_0 (by decide +kernel) (DC_cons dk_L_runs_1 (by decide +kernel) (DC_cons dk_L_runs_2 (by decide +kernel) (DC_cons dk_L_runs_3 (by decide +kernel) (DC_cons dk_L_runs_4 (by decide +kernel) (DC_cons dk_L_runs_5 (by decide +kernel) (DC_cons dk_L_runs_6 (by decide +kernel) (DC_cons dk_L_runs_7 (by decide +kernel) (DC_cons dk_L_runs_8 (by decide +kernel) (DC_cons dk_L_runs_9 (by decide +kernel) (DC_cons dk_L_runs_10 (by decide +kernel) (DC_cons dk_L_runs_11 (by decide +kernel) (DC_cons dk_L_runs_12 (by decide +kernel) (DC_cons dk_L_runs_13 (by decide +kernel) DC_nil)))))))))))))), pf_L, trivial, trivial, by decide +kernel⟩
theorem mok_114 : MOK 114 mi_L_act := ⟨(DC_cons dk_L_act_0 (by decide +kernel) (DC_cons dk_L_act_1 (by decide +kernel) (DC_cons dk_L_act_2 (by decide +kernel) (DC_cons dk_L_act_3 (by decide +kernel) (DC_cons dk_L_act_4 (by decide +kernel) (DC_cons dk_L_act_5 (by decide +kernel) (DC_cons dk_L_act_6 (by decide +kernel) (DC_cons dk_L_act_7 (by decide +kernel) (DC_cons dk_L_act_8 (by decide +kernel) (DC_cons dk_L_act_9 (by decide +kernel) (DC_cons dk_L_act_10 (by decide +kernel) (DC_cons dk_L_act_11 (by decide +kernel) (DC_cons dk_L_act_12 (by decide +kernel) (DC_cons dk_L_act_13 (by decide +kernel) (DC_cons dk_L_act_14 (by decide +kernel) (DC_cons dk_L_act_15 (by decide +kernel) (DC_cons dk_L_act_16 (by decide +kernel) (DC_cons dk_L_act_17 (by decide +kernel) (DC_cons dk_L_act_18 (by decide +kernel) (DC_cons dk_L_act_19 (by decide +kernel) (DC_cons dk_L_act_20 (by decide +kernel) (DC_cons dk_L_act_21 (by decide +kernel) (DC_cons dk_L_act_22 (by decide +kernel) (DC_cons dk_L_act_23 (by decide +kernel) (DC_cons dk_L_act_24 (by decide +kernel) (DC_cons dk_L_act_25 (by decide +kernel) (DC_cons dk_L_act_26 (by decide +kernel) (DC_cons dk_L_act_27 (by decide +kernel) DC_nil)))))))))))))))))))))))))))), pf_L, trivial, trivial, by decide +kernel⟩
theorem mok_115 : MOK 115 mi_L_law := ⟨(DC_cons dk_L_law_0 (by decide +kernel) (DC_cons dk_L_law_1 (by decide +kernel) (DC_cons dk_L_law_2 (by decide +kernel) (DC_cons dk_L_law_3 (by decide +kernel) (DC_cons dk_L_law_4 (by decide +kernel) (DC_cons dk_L_law_5 (by decide +kernel) (DC_cons dk_L_law_6 (by decide +kernel) (DC_cons dk_L_law_7 (by decide +kernel) (DC_cons dk_L_law_8 (by decide +kernel) (DC_cons dk_L_law_9 (by decide +kernel) (DC_cons dk_L_law_10 (by decide +kernel) (DC_cons dk_L_law_11 (by decide +kernel) (DC_cons dk_L_law_12 (by decide +kernel) DC_nil))))))))))))), pf_L, trivial, trivial, by decide +kernel⟩
theorem mokb_0 : ∀ (j : Nat) (M : MI), mtab_0[j]? = some M → MOK (16 * 0 + j) M := by
  intro j M h
  match j, h with
  | 0, h => cases h; exact mok_0
  | 1, h => cases h; exact mok_1
  | 2, h => cases h; exact mok_2
  | 3, h => cases h; exact mok_3
  | 4, h => cases h; exact mok_4
  | 5, h => cases h; exact mok_5
  | 6, h => cases h; exact mok_6
  | 7, h => cases h; exact mok_7
  | 8, h => cases h; exact mok_8
  | 9, h => cases h; exact mok_9
  | 10, h => cases h; exact mok_10
  | 11, h => cases h; exact mok_11
  | 12, h => cases h; exact mok_12
  | 13, h => cases h; exact mok_13
  | 14, h => cases h; exact mok_14
  | 15, h => cases h; exact mok_15
  | n + 16, h => cases h
theorem mokb_1 : ∀ (j : Nat) (M : MI), mtab_1[j]? = some M → MOK (16 * 1 + j) M := by
  intro j M h
  match j, h with
  | 0, h => cases h; exact mok_16
  | 1, h => cases h; exact mok_17
  | 2, h => cases h; exact mok_18
  | 3, h => cases h; exact mok_19
  | 4, h => cases h; exact mok_20
  | 5, h => cases h; exact mok_21
  | 6, h => cases h; exact mok_22
  | 7, h => cases h; exact mok_23
  | 8, h => cases h; exact mok_24
  | 9, h => cases h; exact mok_25
  | 10, h => cases h; exact mok_26
  | 11, h => cases h; exact mok_27
  | 12, h => cases h; exact mok_28
  | 13, h => cases h; exact mok_29
  | 14, h => cases h; exact mok_30
  | 15, h => cases h; exact mok_31
  | n + 16, h => cases h
theorem mokb_2 : ∀ (j : Nat) (M : MI), mtab_2[j]? = some M → MOK (16 * 2 + j) M := by
  intro j M h
  match j, h with
  | 0, h => cases h; exact mok_32
  | 1, h => cases h; exact mok_33
  | 2, h => cases h; exact mok_34
  | 3, h => cases h; exact mok_35
  | 4, h => cases h; exact mok_36
  | 5, h => cases h; exact mok_37
  | 6, h => cases h; exact mok_38
  | 7, h => cases h; exact mok_39
  | 8, h => cases h; exact mok_40
  | 9, h => cases h; exact mok_41
  | 10, h => cases h; exact mok_42
  | 11, h => cases h; exact mok_43
  | 12, h => cases h; exact mok_44
  | 13, h => cases h; exact mok_45
  | 14, h => cases h; exact mok_46
  | 15, h => cases h; exact mok_47
  | n + 16, h => cases h
theorem mokb_3 : ∀ (j : Nat) (M : MI), mtab_3[j]? = some M → MOK (16 * 3 + j) M := by
  intro j M h
  match j, h with
  | 0, h => cases h; exact mok_48
  | 1, h => cases h; exact mok_49
  | 2, h => cases h; exact mok_50
  | 3, h => cases h; exact mok_51
  | 4, h => cases h; exact mok_52
  | 5, h => cases h; exact mok_53
  | 6, h => cases h; exact mok_54
  | 7, h => cases h; exact mok_55
  | 8, h => cases h; exact mok_56
  | 9, h => cases h; exact mok_57
  | 10, h => cases h; exact mok_58
  | 11, h => cases h; exact mok_59
  | 12, h => cases h; exact mok_60
  | 13, h => cases h; exact mok_61
  | 14, h => cases h; exact mok_62
  | 15, h => cases h; exact mok_63
  | n + 16, h => cases h
theorem mokb_4 : ∀ (j : Nat) (M : MI), mtab_4[j]? = some M → MOK (16 * 4 + j) M := by
  intro j M h
  match j, h with
  | 0, h => cases h; exact mok_64
  | 1, h => cases h; exact mok_65
  | 2, h => cases h; exact mok_66
  | 3, h => cases h; exact mok_67
  | 4, h => cases h; exact mok_68
  | 5, h => cases h; exact mok_69
  | 6, h => cases h; exact mok_70
  | 7, h => cases h; exact mok_71
  | 8, h => cases h; exact mok_72
  | 9, h => cases h; exact mok_73
  | 10, h => cases h; exact mok_74
  | 11, h => cases h; exact mok_75
  | 12, h => cases h; exact mok_76
  | 13, h => cases h; exact mok_77
  | 14, h => cases h; exact mok_78
  | 15, h => cases h; exact mok_79
  | n + 16, h => cases h
theorem mokb_5 : ∀ (j : Nat) (M : MI), mtab_5[j]? = some M → MOK (16 * 5 + j) M := by
  intro j M h
  match j, h with
  | 0, h => cases h; exact mok_80
  | 1, h => cases h; exact mok_81
  | 2, h => cases h; exact mok_82
  | 3, h => cases h; exact mok_83
  | 4, h => cases h; exact mok_84
  | 5, h => cases h; exact mok_85
  | 6, h => cases h; exact mok_86
  | 7, h => cases h; exact mok_87
  | 8, h => cases h; exact mok_88
  | 9, h => cases h; exact mok_89
  | 10, h => cases h; exact mok_90
  | 11, h => cases h; exact mok_91
  | 12, h => cases h; exact mok_92
  | 13, h => cases h; exact mok_93
  | 14, h => cases h; exact mok_94
  | 15, h => cases h; exact mok_95
  | n + 16, h => cases h
theorem mokb_6 : ∀ (j : Nat) (M : MI), mtab_6[j]? = some M → MOK (16 * 6 + j) M := by
  intro j M h
  match j, h with
  | 0, h => cases h; exact mok_96
  | 1, h => cases h; exact mok_97
  | 2, h => cases h; exact mok_98
  | 3, h => cases h; exact mok_99
  | 4, h => cases h; exact mok_100
  | 5, h => cases h; exact mok_101
  | 6, h => cases h; exact mok_102
  | 7, h => cases h; exact mok_103
  | 8, h => cases h; exact mok_104
  | 9, h => cases h; exact mok_105
  | 10, h => cases h; exact mok_106
  | 11, h => cases h; exact mok_107
  | 12, h => cases h; exact mok_108
  | 13, h => cases h; exact mok_109
  | 14, h => cases h; exact mok_110
  | 15, h => cases h; exact mok_111
  | n + 16, h => cases h
theorem mokb_7 : ∀ (j : Nat) (M : MI), mtab_7[j]? = some M → MOK (16 * 7 + j) M := by
  intro j M h
  match j, h with
  | 0, h => cases h; exact mok_112
  | 1, h => cases h; exact mok_113
  | 2, h => cases h; exact mok_114
  | 3, h => cases h; exact mok_115
  | n + 4, h => cases h
theorem mok {n : Nat} {M : MI} (h : mtab n = some M) : MOK n M := by
  unfold mtab at h
  have hn : n = 16 * (n / 16) + n % 16 := (Nat.div_add_mod n 16).symm
  generalize n / 16 = q at h hn
  generalize n % 16 = r at h hn
  subst hn
  match q, h with
  | 0, h => exact mokb_0 r M h
  | 1, h => exact mokb_1 r M h
  | 2, h => exact mokb_2 r M h
  | 3, h => exact mokb_3 r M h
  | 4, h => exact mokb_4 r M h
  | 5, h => exact mokb_5 r M h
  | 6, h => exact mokb_6 r M h
  | 7, h => exact mokb_7 r M h
  | q + 8, h => cases h
end MOK
