/-! WHAT IS KNOWN OF EACH METHOD, by program (wip/whole/genmok.py) -/
section MOK
def lnOK (i : Instr) (l : Nat) : Bool := match i with
  | .aaload => Nat.beq l 1
  | .aconst_null => Nat.beq l 1
  | .aload _ => Nat.beq l 2
  | .aload_n _ => Nat.beq l 1
  | .areturn => Nat.beq l 1
  | .arraylength => Nat.beq l 1
  | .astore _ => Nat.beq l 2
  | .astore_n _ => Nat.beq l 1
  | .bipush _ => Nat.beq l 2
  | .d2l => Nat.beq l 1
  | .dcmp _ => Nat.beq l 1
  | .dconst _ => Nat.beq l 1
  | .ddiv => Nat.beq l 1
  | .dload _ => Nat.beq l 2
  | .dload_n _ => Nat.beq l 1
  | .dmul => Nat.beq l 1
  | .dreturn => Nat.beq l 1
  | .dstore _ => Nat.beq l 2
  | .dstore_n _ => Nat.beq l 1
  | .dsub => Nat.beq l 1
  | .dup => Nat.beq l 1
  | .dup2 => Nat.beq l 1
  | .getfield _ => Nat.beq l 3
  | .getstatic _ => Nat.beq l 3
  | .goto _ => Nat.beq l 3
  | .i2d => Nat.beq l 1
  | .i2l => Nat.beq l 1
  | .iadd => Nat.beq l 1
  | .iaload => Nat.beq l 1
  | .iand => Nat.beq l 1
  | .iastore => Nat.beq l 1
  | .iconst _ => Nat.beq l 1
  | .idiv => Nat.beq l 1
  | .ifCond _ _ => Nat.beq l 3
  | .if_acmp _ _ => Nat.beq l 3
  | .if_icmp _ _ => Nat.beq l 3
  | .ifnonnull _ => Nat.beq l 3
  | .ifnull _ => Nat.beq l 3
  | .iinc _ _ => Nat.beq l 3
  | .iload _ => Nat.beq l 2
  | .iload_n _ => Nat.beq l 1
  | .imul => Nat.beq l 1
  | .ineg => Nat.beq l 1
  | .invokestatic _ => Nat.beq l 3
  | .invokevirtual _ => Nat.beq l 3
  | .ior => Nat.beq l 1
  | .irem => Nat.beq l 1
  | .ireturn => Nat.beq l 1
  | .ishl => Nat.beq l 1
  | .ishr => Nat.beq l 1
  | .istore _ => Nat.beq l 2
  | .istore_n _ => Nat.beq l 1
  | .isub => Nat.beq l 1
  | .ixor => Nat.beq l 1
  | .l2d => Nat.beq l 1
  | .l2i => Nat.beq l 1
  | .ladd => Nat.beq l 1
  | .laload => Nat.beq l 1
  | .lastore => Nat.beq l 1
  | .lcmp => Nat.beq l 1
  | .lconst _ => Nat.beq l 1
  | .ldc _ => Nat.beq l 2
  | .ldc2_w _ => Nat.beq l 3
  | .ldc_w _ => Nat.beq l 3
  | .lload _ => Nat.beq l 2
  | .lload_n _ => Nat.beq l 1
  | .lmul => Nat.beq l 1
  | .lookupswitch _ _ => true
  | .lrem => Nat.beq l 1
  | .lreturn => Nat.beq l 1
  | .lshl => Nat.beq l 1
  | .lstore _ => Nat.beq l 2
  | .lstore_n _ => Nat.beq l 1
  | .lsub => Nat.beq l 1
  | .pop => Nat.beq l 1
  | .putfield _ => Nat.beq l 3
  | .return_ => Nat.beq l 1
  | .sipush _ => Nat.beq l 3
  | .tableswitch _ _ _ _ => true
  | _ => true
def DC (cs : Chunks) (b : ByteArray) : Prop := ∀ c ∈ cs, ∀ z ∈ c, decode b z.1 = .ok (z.2.1, z.2.2) ∧ lnOK z.2.1 z.2.2 = true
theorem DC_nil {b : ByteArray} : DC [] b := fun c h => absurd h List.not_mem_nil
theorem DC_cons {b : ByteArray} {c : List (Nat × Instr × Nat)} {cs : Chunks} (h : ∀ z ∈ c, decode b z.1 = .ok (z.2.1, z.2.2)) (hl : c.all (fun z => lnOK z.2.1 z.2.2) = true) (h2 : DC cs b) : DC (c :: cs) b := by
  intro d hd z hz
  rcases List.mem_cons.mp hd with rfl | hd
  · exact ⟨h z hz, List.all_eq_true.mp hl z hz⟩
  · exact h2 d hd z hz
theorem lk_mem {c : List (Nat × Instr × Nat)} {pc : Nat} {i : Instr} {l : Nat} (h : lk c pc = some (i, l)) : (pc, i, l) ∈ c := by
  induction c with
  | nil => cases h
  | cons a r ih =>
    obtain ⟨p, j, n⟩ := a
    unfold lk at h
    cases hb : Nat.beq p pc
    · rw [hb] at h; exact List.mem_cons_of_mem _ (ih h)
    · rw [hb] at h
      simp only [cond_true, Option.some.injEq, Prod.mk.injEq] at h
      obtain ⟨rfl, rfl⟩ := h
      rw [Nat.eq_of_beq_eq_true hb]
      exact List.mem_cons_self
theorem DC.at {cs : Chunks} {b : ByteArray} (h : DC cs b) {pc : Nat} {i : Instr} {l : Nat} (hk : lk2 cs pc = some (i, l)) : decode b pc = .ok (i, l) ∧ lnOK i l = true := by
  unfold lk2 at hk
  have hm := lk_mem hk
  by_cases hq : pc / 32 < cs.length
  · rw [List.getD_eq_getElem?_getD, List.getElem?_eq_getElem hq, Option.getD_some] at hm
    have h2 := h cs[pc / 32] (List.getElem_mem hq) (pc, i, l) hm
    exact h2
  · rw [List.getD_eq_getElem?_getD, List.getElem?_eq_none (Nat.le_of_not_lt hq)] at hm
    exact absurd hm List.not_mem_nil
/-- the type of the answer -/
def rtO (r : Nat) (t : Option FieldType) : Prop := match r, t with
  | 0, none => True
  | 1, some .int => True
  | 2, some .boolean => True
  | 3, some .long => True
  | 4, some .double => True
  | 5, some (.object _) => True
  | _, _ => False
/-- the handlers -/
def HOK (own : String) : List (Nat × Nat × Nat × Nat) → List (Nat × Nat × Nat × Nat) → Prop
  | [], [] => True
  | (a, b, h, k) :: r, (a', b', h', ct) :: r' => (a = a' ∧ b = b' ∧ h = h') ∧ ct ≠ 0 ∧ (1 ≤ k ∧ k ≤ 3) ∧ Cond.classLink own ct (exn k) ∈ lwG ∧ HOK own r r'
  | _, _ => False
def MOK (n : Nat) (M : MI) : Prop := DC M.1 (mrec n).2.1 ∧ PF (yN n).cls M.2.1 ∧ rtO M.2.2.1 (mrec n).2.2.1 ∧ HOK (yN n).cls M.2.2.2.2 (mrec n).2.2.2 ∧ (plainName (yN n).cls = true ∧ (yN n).cls ≠ "java/lang/invoke/MethodHandle" ∧ (yN n).cls ≠ "java/lang/invoke/VarHandle")
theorem tix_in {q : Nat × Nat} {w : Cond} (h : tix q = some w) (hg : goodWord w = true) : w ∈ lwG := List.mem_filter.mpr ⟨tix_mem h, hg⟩
theorem cw_13 : Cond.classLink RL 13 (exn 1) ∈ lwG := tix_in (q := (4, 40)) rfl rfl
theorem cw_15 : Cond.classLink RL 15 (exn 2) ∈ lwG := tix_in (q := (4, 41)) rfl rfl
theorem cw_29 : Cond.classLink RL 29 (exn 3) ∈ lwG := tix_in (q := (4, 86)) rfl rfl
theorem mok_0 : MOK 0 mi_X1_copyFrom := ⟨(DC_cons dk_X1_copyFrom_0 (by decide +kernel) (DC_cons dk_X1_copyFrom_1 (by decide +kernel) DC_nil)), pf_X1, trivial, trivial, by decide +kernel⟩
theorem mok_1 : MOK 1 mi_X1_isQuietAt := ⟨(DC_cons dk_X1_isQuietAt_0 (by decide +kernel) DC_nil), pf_X1, trivial, trivial, by decide +kernel⟩
theorem mok_2 : MOK 2 mi_X1_distanceTo := ⟨(DC_cons dk_X1_distanceTo_0 (by decide +kernel) DC_nil), pf_X1, trivial, trivial, by decide +kernel⟩
theorem mok_3 : MOK 3 mi_X1_tunesPlayed := ⟨(DC_cons dk_X1_tunesPlayed_0 (by decide +kernel) (DC_cons dk_X1_tunesPlayed_1 (by decide +kernel) DC_nil)), pf_X1, trivial, trivial, by decide +kernel⟩
theorem mok_4 : MOK 4 mi_X1_noteTune := ⟨(DC_cons dk_X1_noteTune_0 (by decide +kernel) DC_nil), pf_X1, trivial, trivial, by decide +kernel⟩
theorem mok_5 : MOK 5 mi_X1_forgetDay := ⟨(DC_cons dk_X1_forgetDay_0 (by decide +kernel) DC_nil), pf_X1, trivial, trivial, by decide +kernel⟩
theorem mok_6 : MOK 6 mi_X2_signCount := ⟨(DC_cons dk_X2_signCount_0 (by decide +kernel) DC_nil), pf_X2, trivial, trivial, by decide +kernel⟩
theorem mok_7 : MOK 7 mi_X2_fits := ⟨(DC_cons dk_X2_fits_0 (by decide +kernel) (DC_cons dk_X2_fits_1 (by decide +kernel) DC_nil)), pf_X2, trivial, trivial, by decide +kernel⟩
theorem mok_8 : MOK 8 mi_X3_kindAt := ⟨(DC_cons dk_X3_kindAt_0 (by decide +kernel) (DC_cons dk_X3_kindAt_1 (by decide +kernel) DC_nil)), pf_X3, trivial, trivial, by decide +kernel⟩
theorem mok_9 : MOK 9 mi_X3_errorIndex := ⟨(DC_cons dk_X3_errorIndex_0 (by decide +kernel) (DC_cons dk_X3_errorIndex_1 (by decide +kernel) (DC_cons dk_X3_errorIndex_2 (by decide +kernel) (DC_cons dk_X3_errorIndex_3 (by decide +kernel) DC_nil)))), pf_X3, trivial, trivial, by decide +kernel⟩
theorem mok_10 : MOK 10 mi_X3_isWholeRow := ⟨(DC_cons dk_X3_isWholeRow_0 (by decide +kernel) (DC_cons dk_X3_isWholeRow_1 (by decide +kernel) DC_nil)), pf_X3, trivial, trivial, by decide +kernel⟩
theorem mok_11 : MOK 11 mi_X3_organAt := ⟨(DC_cons dk_X3_organAt_0 (by decide +kernel) DC_nil), pf_X3, trivial, trivial, by decide +kernel⟩
theorem mok_12 : MOK 12 mi_X3_tuneAt := ⟨(DC_cons dk_X3_tuneAt_0 (by decide +kernel) DC_nil), pf_X3, trivial, trivial, by decide +kernel⟩
theorem mok_13 : MOK 13 mi_X4_copyFrom := ⟨(DC_cons dk_X4_copyFrom_0 (by decide +kernel) (DC_cons dk_X4_copyFrom_1 (by decide +kernel) (DC_cons dk_X4_copyFrom_2 (by decide +kernel) DC_nil))), pf_X4, trivial, trivial, by decide +kernel⟩
theorem mok_14 : MOK 14 mi_X5_lookAt := ⟨(DC_cons dk_X5_lookAt_0 (by decide +kernel) DC_nil), pf_X5, trivial, trivial, by decide +kernel⟩
theorem mok_15 : MOK 15 mi_X5_leastHindering := ⟨(DC_cons dk_X5_leastHindering_0 (by decide +kernel) (DC_cons dk_X5_leastHindering_1 (by decide +kernel) DC_nil)), pf_X5, trivial, trivial, by decide +kernel⟩
theorem mok_16 : MOK 16 mi_X5_hinderedPairs := ⟨(DC_cons dk_X5_hinderedPairs_0 (by decide +kernel) (DC_cons dk_X5_hinderedPairs_1 (by decide +kernel) DC_nil)), pf_X5, trivial, trivial, by decide +kernel⟩
theorem mok_17 : MOK 17 mi_X5_findMost := ⟨(DC_cons dk_X5_findMost_0 (by decide +kernel) (DC_cons dk_X5_findMost_1 (by decide +kernel) (DC_cons dk_X5_findMost_2 (by decide +kernel) DC_nil))), pf_X5, trivial, trivial, by decide +kernel⟩
theorem mok_18 : MOK 18 mi_X5_takingsOf := ⟨(DC_cons dk_X5_takingsOf_0 (by decide +kernel) (DC_cons dk_X5_takingsOf_1 (by decide +kernel) DC_nil)), pf_X5, trivial, trivial, by decide +kernel⟩
theorem mok_19 : MOK 19 mi_X5_nearAhead := ⟨(DC_cons dk_X5_nearAhead_0 (by decide +kernel) (DC_cons dk_X5_nearAhead_1 (by decide +kernel) DC_nil)), pf_X5, trivial, trivial, by decide +kernel⟩
theorem mok_20 : MOK 20 mi_X5_findTunes := ⟨(DC_cons dk_X5_findTunes_0 (by decide +kernel) (DC_cons dk_X5_findTunes_1 (by decide +kernel) (DC_cons dk_X5_findTunes_2 (by decide +kernel) (DC_cons dk_X5_findTunes_3 (by decide +kernel) DC_nil)))), pf_X5, trivial, trivial, by decide +kernel⟩
theorem mok_21 : MOK 21 mi_X5_isFree := ⟨(DC_cons dk_X5_isFree_0 (by decide +kernel) (DC_cons dk_X5_isFree_1 (by decide +kernel) DC_nil)), pf_X5, trivial, trivial, by decide +kernel⟩
theorem mok_22 : MOK 22 mi_X6_reckon := ⟨(DC_cons dk_X6_reckon_0 (by decide +kernel) (DC_cons dk_X6_reckon_1 (by decide +kernel) DC_nil)), pf_X6, trivial, trivial, by decide +kernel⟩
theorem mok_23 : MOK 23 mi_X6_sharePot := ⟨(DC_cons dk_X6_sharePot_0 (by decide +kernel) (DC_cons dk_X6_sharePot_1 (by decide +kernel) (DC_cons dk_X6_sharePot_2 (by decide +kernel) (DC_cons dk_X6_sharePot_3 (by decide +kernel) (DC_cons dk_X6_sharePot_4 (by decide +kernel) DC_nil))))), pf_X6, trivial, trivial, by decide +kernel⟩
theorem mok_24 : MOK 24 mi_X6_giveUnits := ⟨(DC_cons dk_X6_giveUnits_0 (by decide +kernel) (DC_cons dk_X6_giveUnits_1 (by decide +kernel) (DC_cons dk_X6_giveUnits_2 (by decide +kernel) DC_nil))), pf_X6, trivial, trivial, by decide +kernel⟩
theorem mok_25 : MOK 25 mi_X6_giveAllowances := ⟨(DC_cons dk_X6_giveAllowances_0 (by decide +kernel) (DC_cons dk_X6_giveAllowances_1 (by decide +kernel) DC_nil)), pf_X6, trivial, trivial, by decide +kernel⟩
theorem mok_26 : MOK 26 mi_X7_copyFrom := ⟨(DC_cons dk_X7_copyFrom_0 (by decide +kernel) (DC_cons dk_X7_copyFrom_1 (by decide +kernel) DC_nil)), pf_X7, trivial, trivial, by decide +kernel⟩
theorem mok_27 : MOK 27 mi_X7_hoursOfDay := ⟨(DC_cons dk_X7_hoursOfDay_0 (by decide +kernel) DC_nil), pf_X7, trivial, trivial, by decide +kernel⟩
theorem mok_28 : MOK 28 mi_X7_forgetDay := ⟨(DC_cons dk_X7_forgetDay_0 (by decide +kernel) DC_nil), pf_X7, trivial, trivial, by decide +kernel⟩
theorem mok_29 : MOK 29 mi_X8_save := ⟨(DC_cons dk_X8_save_0 (by decide +kernel) (DC_cons dk_X8_save_1 (by decide +kernel) DC_nil)), pf_X8, trivial, trivial, by decide +kernel⟩
theorem mok_30 : MOK 30 mi_X8_restore := ⟨(DC_cons dk_X8_restore_0 (by decide +kernel) (DC_cons dk_X8_restore_1 (by decide +kernel) DC_nil)), pf_X8, trivial, trivial, by decide +kernel⟩
theorem mok_31 : MOK 31 mi_X9_copyFrom := ⟨(DC_cons dk_X9_copyFrom_0 (by decide +kernel) (DC_cons dk_X9_copyFrom_1 (by decide +kernel) (DC_cons dk_X9_copyFrom_2 (by decide +kernel) (DC_cons dk_X9_copyFrom_3 (by decide +kernel) (DC_cons dk_X9_copyFrom_4 (by decide +kernel) (DC_cons dk_X9_copyFrom_5 (by decide +kernel) DC_nil)))))), pf_X9, trivial, trivial, by decide +kernel⟩
theorem mok_32 : MOK 32 mi_X9_hasCornerAt := ⟨(DC_cons dk_X9_hasCornerAt_0 (by decide +kernel) (DC_cons dk_X9_hasCornerAt_1 (by decide +kernel) DC_nil)), pf_X9, trivial, trivial, by decide +kernel⟩
theorem mok_33 : MOK 33 mi_X9_permits := ⟨(DC_cons dk_X9_permits_0 (by decide +kernel) (DC_cons dk_X9_permits_1 (by decide +kernel) DC_nil)), pf_X9, trivial, trivial, by decide +kernel⟩
theorem mok_34 : MOK 34 mi_X9_crewSize := ⟨(DC_cons dk_X9_crewSize_0 (by decide +kernel) (DC_cons dk_X9_crewSize_1 (by decide +kernel) DC_nil)), pf_X9, trivial, trivial, by decide +kernel⟩
theorem mok_35 : MOK 35 mi_X9_organAt := ⟨(DC_cons dk_X9_organAt_0 (by decide +kernel) (DC_cons dk_X9_organAt_1 (by decide +kernel) DC_nil)), pf_X9, trivial, trivial, by decide +kernel⟩
theorem mok_36 : MOK 36 mi_X9_cornerOf := ⟨(DC_cons dk_X9_cornerOf_0 (by decide +kernel) (DC_cons dk_X9_cornerOf_1 (by decide +kernel) DC_nil)), pf_X9, trivial, trivial, by decide +kernel⟩
theorem mok_37 : MOK 37 mi_X9_takingsSoFar := ⟨(DC_cons dk_X9_takingsSoFar_0 (by decide +kernel) DC_nil), pf_X9, trivial, trivial, by decide +kernel⟩
theorem mok_38 : MOK 38 mi_X9_ownersSoFar := ⟨(DC_cons dk_X9_ownersSoFar_0 (by decide +kernel) DC_nil), pf_X9, trivial, trivial, by decide +kernel⟩
theorem mok_39 : MOK 39 mi_X9_inAllPots := ⟨(DC_cons dk_X9_inAllPots_0 (by decide +kernel) DC_nil), pf_X9, trivial, trivial, by decide +kernel⟩
theorem mok_40 : MOK 40 mi_X9_playersSoFar := ⟨(DC_cons dk_X9_playersSoFar_0 (by decide +kernel) DC_nil), pf_X9, trivial, trivial, by decide +kernel⟩
theorem mok_41 : MOK 41 mi_X9_weatherMayChange := ⟨(DC_cons dk_X9_weatherMayChange_0 (by decide +kernel) DC_nil), pf_X9, trivial, trivial, by decide +kernel⟩
theorem mok_42 : MOK 42 mi_X9_lotsMayBeDrawn := ⟨(DC_cons dk_X9_lotsMayBeDrawn_0 (by decide +kernel) DC_nil), pf_X9, trivial, trivial, by decide +kernel⟩
theorem mok_43 : MOK 43 mi_X9_drawLots := ⟨(DC_cons dk_X9_drawLots_0 (by decide +kernel) (DC_cons dk_X9_drawLots_1 (by decide +kernel) (DC_cons dk_X9_drawLots_2 (by decide +kernel) DC_nil))), pf_X9, trivial, trivial, by decide +kernel⟩
theorem mok_44 : MOK 44 mi_X9_takeCornersBack := ⟨(DC_cons dk_X9_takeCornersBack_0 (by decide +kernel) DC_nil), pf_X9, trivial, trivial, by decide +kernel⟩
theorem mok_45 : MOK 45 mi_X9_draw := ⟨(DC_cons dk_X9_draw_0 (by decide +kernel) (DC_cons dk_X9_draw_1 (by decide +kernel) DC_nil)), pf_X9, trivial, trivial, by decide +kernel⟩
theorem mok_46 : MOK 46 mi_X9_freeCorner := ⟨(DC_cons dk_X9_freeCorner_0 (by decide +kernel) (DC_cons dk_X9_freeCorner_1 (by decide +kernel) DC_nil)), pf_X9, trivial, trivial, by decide +kernel⟩
theorem mok_47 : MOK 47 mi_X9_areNear := ⟨(DC_cons dk_X9_areNear_0 (by decide +kernel) (DC_cons dk_X9_areNear_1 (by decide +kernel) DC_nil)), pf_X9, trivial, trivial, by decide +kernel⟩
theorem mok_48 : MOK 48 mi_X9_tunesHeardAt := ⟨(DC_cons dk_X9_tunesHeardAt_0 (by decide +kernel) (DC_cons dk_X9_tunesHeardAt_1 (by decide +kernel) (DC_cons dk_X9_tunesHeardAt_2 (by decide +kernel) DC_nil))), pf_X9, trivial, trivial, by decide +kernel⟩
theorem mok_49 : MOK 49 mi_X9_reasonAgainstAll := ⟨(DC_cons dk_X9_reasonAgainstAll_0 (by decide +kernel) (DC_cons dk_X9_reasonAgainstAll_1 (by decide +kernel) DC_nil)), pf_X9, trivial, trivial, by decide +kernel⟩
theorem mok_50 : MOK 50 mi_X9_reasonAgainst := ⟨(DC_cons dk_X9_reasonAgainst_0 (by decide +kernel) (DC_cons dk_X9_reasonAgainst_1 (by decide +kernel) (DC_cons dk_X9_reasonAgainst_2 (by decide +kernel) DC_nil))), pf_X9, trivial, trivial, by decide +kernel⟩
theorem mok_51 : MOK 51 mi_X9_playableTunes := ⟨(DC_cons dk_X9_playableTunes_0 (by decide +kernel) (DC_cons dk_X9_playableTunes_1 (by decide +kernel) DC_nil)), pf_X9, trivial, trivial, by decide +kernel⟩
theorem mok_52 : MOK 52 mi_X9_playedNear := ⟨(DC_cons dk_X9_playedNear_0 (by decide +kernel) (DC_cons dk_X9_playedNear_1 (by decide +kernel) DC_nil)), pf_X9, trivial, trivial, by decide +kernel⟩
theorem mok_53 : MOK 53 mi_X9_takingsFor := ⟨(DC_cons dk_X9_takingsFor_0 (by decide +kernel) (DC_cons dk_X9_takingsFor_1 (by decide +kernel) DC_nil)), pf_X9, trivial, trivial, by decide +kernel⟩
theorem mok_54 : MOK 54 mi_X9_playTune := ⟨(DC_cons dk_X9_playTune_0 (by decide +kernel) (DC_cons dk_X9_playTune_1 (by decide +kernel) (DC_cons dk_X9_playTune_2 (by decide +kernel) DC_nil))), pf_X9, trivial, trivial, by decide +kernel⟩
theorem mok_55 : MOK 55 mi_X9_divideTakings := ⟨(DC_cons dk_X9_divideTakings_0 (by decide +kernel) (DC_cons dk_X9_divideTakings_1 (by decide +kernel) (DC_cons dk_X9_divideTakings_2 (by decide +kernel) (DC_cons dk_X9_divideTakings_3 (by decide +kernel) DC_nil)))), pf_X9, trivial, trivial, by decide +kernel⟩
theorem mok_56 : MOK 56 mi_X9_addHourOfCrew := ⟨(DC_cons dk_X9_addHourOfCrew_0 (by decide +kernel) (DC_cons dk_X9_addHourOfCrew_1 (by decide +kernel) DC_nil)), pf_X9, trivial, trivial, by decide +kernel⟩
theorem mok_57 : MOK 57 mi_X9_endHour := ⟨(DC_cons dk_X9_endHour_0 (by decide +kernel) (DC_cons dk_X9_endHour_1 (by decide +kernel) DC_nil)), pf_X9, trivial, trivial, by decide +kernel⟩
theorem mok_58 : MOK 58 mi_X9_payOut := ⟨(DC_cons dk_X9_payOut_0 (by decide +kernel) (DC_cons dk_X9_payOut_1 (by decide +kernel) (DC_cons dk_X9_payOut_2 (by decide +kernel) (DC_cons dk_X9_payOut_3 (by decide +kernel) DC_nil)))), pf_X9, trivial, trivial, by decide +kernel⟩
theorem mok_59 : MOK 59 mi_X9_beginDay := ⟨(DC_cons dk_X9_beginDay_0 (by decide +kernel) (DC_cons dk_X9_beginDay_1 (by decide +kernel) (DC_cons dk_X9_beginDay_2 (by decide +kernel) DC_nil))), pf_X9, trivial, trivial, by decide +kernel⟩
theorem mok_60 : MOK 60 mi_X10_addCorner := ⟨(DC_cons dk_X10_addCorner_0 (by decide +kernel) (DC_cons dk_X10_addCorner_1 (by decide +kernel) (DC_cons dk_X10_addCorner_2 (by decide +kernel) (DC_cons dk_X10_addCorner_3 (by decide +kernel) (DC_cons dk_X10_addCorner_4 (by decide +kernel) DC_nil))))), pf_X10, trivial, trivial, by decide +kernel⟩
theorem mok_61 : MOK 61 mi_X10_addOrgan := ⟨(DC_cons dk_X10_addOrgan_0 (by decide +kernel) (DC_cons dk_X10_addOrgan_1 (by decide +kernel) (DC_cons dk_X10_addOrgan_2 (by decide +kernel) DC_nil))), pf_X10, trivial, trivial, by decide +kernel⟩
theorem mok_62 : MOK 62 mi_X10_addPlayer := ⟨(DC_cons dk_X10_addPlayer_0 (by decide +kernel) (DC_cons dk_X10_addPlayer_1 (by decide +kernel) DC_nil)), pf_X10, trivial, trivial, by decide +kernel⟩
theorem mok_63 : MOK 63 mi_X10_permit := ⟨(DC_cons dk_X10_permit_0 (by decide +kernel) (DC_cons dk_X10_permit_1 (by decide +kernel) DC_nil)), pf_X10, trivial, trivial, by decide +kernel⟩
theorem mok_64 : MOK 64 mi_X10_barrel := ⟨(DC_cons dk_X10_barrel_0 (by decide +kernel) (DC_cons dk_X10_barrel_1 (by decide +kernel) DC_nil)), pf_X10, trivial, trivial, by decide +kernel⟩
theorem mok_65 : MOK 65 mi_X10_assign := ⟨(DC_cons dk_X10_assign_0 (by decide +kernel) (DC_cons dk_X10_assign_1 (by decide +kernel) (DC_cons dk_X10_assign_2 (by decide +kernel) DC_nil))), pf_X10, trivial, trivial, by decide +kernel⟩
theorem mok_66 : MOK 66 mi_X10_set := ⟨(DC_cons dk_X10_set_0 (by decide +kernel) (DC_cons dk_X10_set_1 (by decide +kernel) DC_nil)), pf_X10, trivial, trivial, by decide +kernel⟩
theorem mok_67 : MOK 67 mi_X10_lots := ⟨(DC_cons dk_X10_lots_0 (by decide +kernel) DC_nil), pf_X10, trivial, trivial, by decide +kernel⟩
theorem mok_68 : MOK 68 mi_X10_weather := ⟨(DC_cons dk_X10_weather_0 (by decide +kernel) (DC_cons dk_X10_weather_1 (by decide +kernel) DC_nil)), pf_X10, trivial, trivial, by decide +kernel⟩
theorem mok_69 : MOK 69 mi_X10_play := ⟨(DC_cons dk_X10_play_0 (by decide +kernel) (DC_cons dk_X10_play_1 (by decide +kernel) DC_nil)), pf_X10, trivial, trivial, by decide +kernel⟩
theorem mok_70 : MOK 70 mi_X10_next := ⟨(DC_cons dk_X10_next_0 (by decide +kernel) DC_nil), pf_X10, trivial, trivial, by decide +kernel⟩
theorem mok_71 : MOK 71 mi_X10_append := ⟨(DC_cons dk_X10_append_0 (by decide +kernel) (DC_cons dk_X10_append_1 (by decide +kernel) (DC_cons dk_X10_append_2 (by decide +kernel) DC_nil))), pf_X10, trivial, trivial, by decide +kernel⟩
theorem mok_72 : MOK 72 mi_X10_clearBuffer := ⟨(DC_cons dk_X10_clearBuffer_0 (by decide +kernel) DC_nil), pf_X10, trivial, trivial, by decide +kernel⟩
theorem mok_73 : MOK 73 mi_X10_firstError := ⟨(DC_cons dk_X10_firstError_0 (by decide +kernel) DC_nil), pf_X10, trivial, trivial, by decide +kernel⟩
theorem mok_74 : MOK 74 mi_X10_run := ⟨(DC_cons dk_X10_run_0 (by decide +kernel) (DC_cons dk_X10_run_1 (by decide +kernel) (DC_cons dk_X10_run_2 (by decide +kernel) DC_nil))), pf_X10, trivial, trivial, by decide +kernel⟩
theorem mok_75 : MOK 75 mi_X10_undo := ⟨(DC_cons dk_X10_undo_0 (by decide +kernel) (DC_cons dk_X10_undo_1 (by decide +kernel) DC_nil)), pf_X10, trivial, trivial, by decide +kernel⟩
theorem mok_76 : MOK 76 mi_X10_corner := ⟨(DC_cons dk_X10_corner_0 (by decide +kernel) (DC_cons dk_X10_corner_1 (by decide +kernel) (DC_cons dk_X10_corner_2 (by decide +kernel) (DC_cons dk_X10_corner_3 (by decide +kernel) DC_nil)))), pf_X10, trivial, trivial, by decide +kernel⟩
theorem mok_77 : MOK 77 mi_X10_organ := ⟨(DC_cons dk_X10_organ_0 (by decide +kernel) (DC_cons dk_X10_organ_1 (by decide +kernel) (DC_cons dk_X10_organ_2 (by decide +kernel) (DC_cons dk_X10_organ_3 (by decide +kernel) DC_nil)))), pf_X10, trivial, trivial, by decide +kernel⟩
theorem mok_78 : MOK 78 mi_X10_player := ⟨(DC_cons dk_X10_player_0 (by decide +kernel) (DC_cons dk_X10_player_1 (by decide +kernel) (DC_cons dk_X10_player_2 (by decide +kernel) DC_nil))), pf_X10, trivial, trivial, by decide +kernel⟩
theorem mok_79 : MOK 79 mi_X10_hours := ⟨(DC_cons dk_X10_hours_0 (by decide +kernel) (DC_cons dk_X10_hours_1 (by decide +kernel) DC_nil)), pf_X10, trivial, trivial, by decide +kernel⟩
theorem mok_80 : MOK 80 mi_X10_count := ⟨(DC_cons dk_X10_count_0 (by decide +kernel) (DC_cons dk_X10_count_1 (by decide +kernel) (DC_cons dk_X10_count_2 (by decide +kernel) (DC_cons dk_X10_count_3 (by decide +kernel) (DC_cons dk_X10_count_4 (by decide +kernel) (DC_cons dk_X10_count_5 (by decide +kernel) (DC_cons dk_X10_count_6 (by decide +kernel) DC_nil))))))), pf_X10, trivial, trivial, by decide +kernel⟩
theorem mok_81 : MOK 81 mi_X10_setting := ⟨(DC_cons dk_X10_setting_0 (by decide +kernel) DC_nil), pf_X10, trivial, trivial, by decide +kernel⟩
theorem mok_82 : MOK 82 mi_X10_whyNot := ⟨(DC_cons dk_X10_whyNot_0 (by decide +kernel) DC_nil), pf_X10, trivial, trivial, by decide +kernel⟩
theorem mok_83 : MOK 83 mi_X10_ifPlayed := ⟨(DC_cons dk_X10_ifPlayed_0 (by decide +kernel) (DC_cons dk_X10_ifPlayed_1 (by decide +kernel) DC_nil)), pf_X10, trivial, trivial, by decide +kernel⟩
theorem mok_84 : MOK 84 mi_X10_kindestTune := ⟨(DC_cons dk_X10_kindestTune_0 (by decide +kernel) (DC_cons dk_X10_kindestTune_1 (by decide +kernel) DC_nil)), pf_X10, trivial, trivial, by decide +kernel⟩
theorem mok_85 : MOK 85 mi_X10_most := ⟨(DC_cons dk_X10_most_0 (by decide +kernel) (DC_cons dk_X10_most_1 (by decide +kernel) DC_nil)), pf_X10, trivial, trivial, by decide +kernel⟩
theorem mok_86 : MOK 86 mi_X10_ifEnded := ⟨(DC_cons dk_X10_ifEnded_0 (by decide +kernel) (DC_cons dk_X10_ifEnded_1 (by decide +kernel) DC_nil)), pf_X10, trivial, trivial, by decide +kernel⟩
theorem mok_87 : MOK 87 mi_X10_playersShare := ⟨(DC_cons dk_X10_playersShare_0 (by decide +kernel) DC_nil), pf_X10, trivial, trivial, by decide +kernel⟩
theorem mok_88 : MOK 88 mi_X10_digest := ⟨(DC_cons dk_X10_digest_0 (by decide +kernel) (DC_cons dk_X10_digest_1 (by decide +kernel) (DC_cons dk_X10_digest_2 (by decide +kernel) (DC_cons dk_X10_digest_3 (by decide +kernel) (DC_cons dk_X10_digest_4 (by decide +kernel) (DC_cons dk_X10_digest_5 (by decide +kernel) DC_nil)))))), pf_X10, trivial, trivial, by decide +kernel⟩
theorem mok_89 : MOK 89 mi_X10_requireIndex := ⟨(DC_cons dk_X10_requireIndex_0 (by decide +kernel) DC_nil), pf_X10, trivial, trivial, by decide +kernel⟩
theorem mok_90 : MOK 90 mi_X10_requireInRange := ⟨(DC_cons dk_X10_requireInRange_0 (by decide +kernel) DC_nil), pf_X10, trivial, trivial, by decide +kernel⟩
theorem mok_91 : MOK 91 mi_X10_requireState := ⟨(DC_cons dk_X10_requireState_0 (by decide +kernel) DC_nil), pf_X10, trivial, trivial, by decide +kernel⟩
theorem mok_92 : MOK 92 mi_X10_asNumber := ⟨(DC_cons dk_X10_asNumber_0 (by decide +kernel) DC_nil), pf_X10, trivial, trivial, by decide +kernel⟩
theorem mok_93 : MOK 93 mi_X10_holds := ⟨(DC_cons dk_X10_holds_0 (by decide +kernel) DC_nil), pf_X10, trivial, trivial, by decide +kernel⟩
theorem mok_94 : MOK 94 mi_X10_obey := ⟨(DC_cons dk_X10_obey_0 (by decide +kernel) (DC_cons dk_X10_obey_1 (by decide +kernel) (DC_cons dk_X10_obey_2 (by decide +kernel) (DC_cons dk_X10_obey_3 (by decide +kernel) (DC_cons dk_X10_obey_4 (by decide +kernel) DC_nil))))), pf_X10, trivial, trivial, by decide +kernel⟩
theorem mok_95 : MOK 95 mi_X10_obeyPlay := ⟨(DC_cons dk_X10_obeyPlay_0 (by decide +kernel) (DC_cons dk_X10_obeyPlay_1 (by decide +kernel) DC_nil)), pf_X10, trivial, trivial, by decide +kernel⟩
theorem mok_96 : MOK 96 mi_X10_mixed := ⟨(DC_cons dk_X10_mixed_0 (by decide +kernel) DC_nil), pf_X10, trivial, trivial, by decide +kernel⟩
theorem mok_97 : MOK 97 mi_X10_withCorner := ⟨(DC_cons dk_X10_withCorner_0 (by decide +kernel) (DC_cons dk_X10_withCorner_1 (by decide +kernel) DC_nil)), pf_X10, trivial, trivial, by decide +kernel⟩
theorem mok_98 : MOK 98 mi_X10_withOrgan := ⟨(DC_cons dk_X10_withOrgan_0 (by decide +kernel) (DC_cons dk_X10_withOrgan_1 (by decide +kernel) (DC_cons dk_X10_withOrgan_2 (by decide +kernel) DC_nil))), pf_X10, trivial, trivial, by decide +kernel⟩
theorem mok_99 : MOK 99 mi_X10_withPlayer := ⟨(DC_cons dk_X10_withPlayer_0 (by decide +kernel) (DC_cons dk_X10_withPlayer_1 (by decide +kernel) (DC_cons dk_X10_withPlayer_2 (by decide +kernel) DC_nil))), pf_X10, trivial, trivial, by decide +kernel⟩
theorem mok_100 : MOK 100 mi_X10_withText := ⟨(DC_cons dk_X10_withText_0 (by decide +kernel) (DC_cons dk_X10_withText_1 (by decide +kernel) DC_nil)), pf_X10, trivial, trivial, by decide +kernel⟩
theorem mok_101 : MOK 101 mi_X10_bitsOfShare := ⟨(DC_cons dk_X10_bitsOfShare_0 (by decide +kernel) (DC_cons dk_X10_bitsOfShare_1 (by decide +kernel) (DC_cons dk_X10_bitsOfShare_2 (by decide +kernel) DC_nil))), pf_X10, trivial, trivial, by decide +kernel⟩
theorem mok_102 : MOK 102 mi_X11_thrown := ⟨(DC_cons dk_X11_thrown_0 (by decide +kernel) DC_nil), pf_X11, trivial, trivial, by decide +kernel⟩
theorem mok_103 : MOK 103 mi_X11_fails := ⟨(DC_cons dk_X11_fails_0 (by decide +kernel) DC_nil), pf_X11, trivial, trivial, by decide +kernel⟩
theorem mok_104 : MOK 104 mi_X11_within := ⟨(DC_cons dk_X11_within_0 (by decide +kernel) DC_nil), pf_X11, trivial, trivial, by decide +kernel⟩
theorem mok_105 : MOK 105 mi_X11_isCorner := ⟨(DC_cons dk_X11_isCorner_0 (by decide +kernel) DC_nil), pf_X11, trivial, trivial, by decide +kernel⟩
theorem mok_106 : MOK 106 mi_X11_isOrgan := ⟨(DC_cons dk_X11_isOrgan_0 (by decide +kernel) DC_nil), pf_X11, trivial, trivial, by decide +kernel⟩
theorem mok_107 : MOK 107 mi_X11_isPlayer := ⟨(DC_cons dk_X11_isPlayer_0 (by decide +kernel) DC_nil), pf_X11, trivial, trivial, by decide +kernel⟩
theorem mok_108 : MOK 108 mi_X11_corner0 := ⟨(DC_cons dk_X11_corner0_0 (by decide +kernel) DC_nil), pf_X11, trivial, trivial, by decide +kernel⟩
theorem mok_109 : MOK 109 mi_X11_organ0 := ⟨(DC_cons dk_X11_organ0_0 (by decide +kernel) DC_nil), pf_X11, trivial, trivial, by decide +kernel⟩
theorem mok_110 : MOK 110 mi_X11_player0 := ⟨(DC_cons dk_X11_player0_0 (by decide +kernel) DC_nil), pf_X11, trivial, trivial, by decide +kernel⟩
theorem mok_111 : MOK 111 mi_X11_cornerOf := ⟨(DC_cons dk_X11_cornerOf_0 (by decide +kernel) DC_nil), pf_X11, trivial, trivial, by decide +kernel⟩
theorem mok_112 : MOK 112 mi_X11_tuneIn := ⟨(DC_cons dk_X11_tuneIn_0 (by decide +kernel) DC_nil), pf_X11, trivial, trivial, by decide +kernel⟩
theorem mok_113 : MOK 113 mi_X11_save := ⟨(DC_cons dk_X11_save_0 (by decide +kernel) (DC_cons dk_X11_save_1 (by decide +kernel) (DC_cons dk_X11_save_2 (by decide +kernel) (DC_cons dk_X11_save_3 (by decide +kernel) DC_nil)))), pf_X11, trivial, trivial, by decide +kernel⟩
theorem mok_114 : MOK 114 mi_X11_keep := ⟨(DC_cons dk_X11_keep_0 (by decide +kernel) DC_nil), pf_X11, trivial, trivial, by decide +kernel⟩
theorem mok_115 : MOK 115 mi_X11_bring := ⟨(DC_cons dk_X11_bring_0 (by decide +kernel) DC_nil), pf_X11, trivial, trivial, by decide +kernel⟩
theorem mok_116 : MOK 116 mi_X11_addCorner := ⟨(DC_cons dk_X11_addCorner_0 (by decide +kernel) (DC_cons dk_X11_addCorner_1 (by decide +kernel) (DC_cons dk_X11_addCorner_2 (by decide +kernel) (DC_cons dk_X11_addCorner_3 (by decide +kernel) (DC_cons dk_X11_addCorner_4 (by decide +kernel) (DC_cons dk_X11_addCorner_5 (by decide +kernel) (DC_cons dk_X11_addCorner_6 (by decide +kernel) DC_nil))))))), pf_X11, trivial, trivial, by decide +kernel⟩
theorem mok_117 : MOK 117 mi_X11_addOrgan := ⟨(DC_cons dk_X11_addOrgan_0 (by decide +kernel) (DC_cons dk_X11_addOrgan_1 (by decide +kernel) (DC_cons dk_X11_addOrgan_2 (by decide +kernel) DC_nil))), pf_X11, trivial, trivial, by decide +kernel⟩
theorem mok_118 : MOK 118 mi_X11_addPlayer := ⟨(DC_cons dk_X11_addPlayer_0 (by decide +kernel) (DC_cons dk_X11_addPlayer_1 (by decide +kernel) DC_nil)), pf_X11, trivial, trivial, by decide +kernel⟩
theorem mok_119 : MOK 119 mi_X11_permits := ⟨(DC_cons dk_X11_permits_0 (by decide +kernel) DC_nil), pf_X11, trivial, trivial, by decide +kernel⟩
theorem mok_120 : MOK 120 mi_X11_permit := ⟨(DC_cons dk_X11_permit_0 (by decide +kernel) (DC_cons dk_X11_permit_1 (by decide +kernel) DC_nil)), pf_X11, trivial, trivial, by decide +kernel⟩
theorem mok_121 : MOK 121 mi_X11_barrel := ⟨(DC_cons dk_X11_barrel_0 (by decide +kernel) (DC_cons dk_X11_barrel_1 (by decide +kernel) DC_nil)), pf_X11, trivial, trivial, by decide +kernel⟩
theorem mok_122 : MOK 122 mi_X11_assign := ⟨(DC_cons dk_X11_assign_0 (by decide +kernel) (DC_cons dk_X11_assign_1 (by decide +kernel) DC_nil)), pf_X11, trivial, trivial, by decide +kernel⟩
theorem mok_123 : MOK 123 mi_X11_mostOf := ⟨(DC_cons dk_X11_mostOf_0 (by decide +kernel) DC_nil), pf_X11, trivial, trivial, by decide +kernel⟩
theorem mok_124 : MOK 124 mi_X11_set := ⟨(DC_cons dk_X11_set_0 (by decide +kernel) (DC_cons dk_X11_set_1 (by decide +kernel) DC_nil)), pf_X11, trivial, trivial, by decide +kernel⟩
theorem mok_125 : MOK 125 mi_X11_playedToday := ⟨(DC_cons dk_X11_playedToday_0 (by decide +kernel) (DC_cons dk_X11_playedToday_1 (by decide +kernel) DC_nil)), pf_X11, trivial, trivial, by decide +kernel⟩
theorem mok_126 : MOK 126 mi_X11_draw := ⟨(DC_cons dk_X11_draw_0 (by decide +kernel) (DC_cons dk_X11_draw_1 (by decide +kernel) DC_nil)), pf_X11, trivial, trivial, by decide +kernel⟩
theorem mok_127 : MOK 127 mi_X11_whoHas := ⟨(DC_cons dk_X11_whoHas_0 (by decide +kernel) (DC_cons dk_X11_whoHas_1 (by decide +kernel) DC_nil)), pf_X11, trivial, trivial, by decide +kernel⟩
theorem mok_128 : MOK 128 mi_X11_freeCorners := ⟨(DC_cons dk_X11_freeCorners_0 (by decide +kernel) (DC_cons dk_X11_freeCorners_1 (by decide +kernel) DC_nil)), pf_X11, trivial, trivial, by decide +kernel⟩
theorem mok_129 : MOK 129 mi_X11_freeAt := ⟨(DC_cons dk_X11_freeAt_0 (by decide +kernel) (DC_cons dk_X11_freeAt_1 (by decide +kernel) DC_nil)), pf_X11, trivial, trivial, by decide +kernel⟩
theorem mok_130 : MOK 130 mi_X11_withCorner := ⟨(DC_cons dk_X11_withCorner_0 (by decide +kernel) (DC_cons dk_X11_withCorner_1 (by decide +kernel) DC_nil)), pf_X11, trivial, trivial, by decide +kernel⟩
theorem mok_131 : MOK 131 mi_X11_noCorners := ⟨(DC_cons dk_X11_noCorners_0 (by decide +kernel) (DC_cons dk_X11_noCorners_1 (by decide +kernel) DC_nil)), pf_X11, trivial, trivial, by decide +kernel⟩
theorem mok_132 : MOK 132 mi_X11_mayDraw := ⟨(DC_cons dk_X11_mayDraw_0 (by decide +kernel) DC_nil), pf_X11, trivial, trivial, by decide +kernel⟩
theorem mok_133 : MOK 133 mi_X11_drawLots := ⟨(DC_cons dk_X11_drawLots_0 (by decide +kernel) (DC_cons dk_X11_drawLots_1 (by decide +kernel) (DC_cons dk_X11_drawLots_2 (by decide +kernel) DC_nil))), pf_X11, trivial, trivial, by decide +kernel⟩
theorem mok_134 : MOK 134 mi_X11_lots := ⟨(DC_cons dk_X11_lots_0 (by decide +kernel) DC_nil), pf_X11, trivial, trivial, by decide +kernel⟩
theorem mok_135 : MOK 135 mi_X11_weather := ⟨(DC_cons dk_X11_weather_0 (by decide +kernel) (DC_cons dk_X11_weather_1 (by decide +kernel) DC_nil)), pf_X11, trivial, trivial, by decide +kernel⟩
theorem mok_136 : MOK 136 mi_X11_isQuiet := ⟨(DC_cons dk_X11_isQuiet_0 (by decide +kernel) (DC_cons dk_X11_isQuiet_1 (by decide +kernel) DC_nil)), pf_X11, trivial, trivial, by decide +kernel⟩
theorem mok_137 : MOK 137 mi_X11_areNear := ⟨(DC_cons dk_X11_areNear_0 (by decide +kernel) (DC_cons dk_X11_areNear_1 (by decide +kernel) DC_nil)), pf_X11, trivial, trivial, by decide +kernel⟩
theorem mok_138 : MOK 138 mi_X11_heardAt := ⟨(DC_cons dk_X11_heardAt_0 (by decide +kernel) (DC_cons dk_X11_heardAt_1 (by decide +kernel) (DC_cons dk_X11_heardAt_2 (by decide +kernel) (DC_cons dk_X11_heardAt_3 (by decide +kernel) (DC_cons dk_X11_heardAt_4 (by decide +kernel) DC_nil))))), pf_X11, trivial, trivial, by decide +kernel⟩
theorem mok_139 : MOK 139 mi_X11_crewOf := ⟨(DC_cons dk_X11_crewOf_0 (by decide +kernel) (DC_cons dk_X11_crewOf_1 (by decide +kernel) DC_nil)), pf_X11, trivial, trivial, by decide +kernel⟩
theorem mok_140 : MOK 140 mi_X11_reason := ⟨(DC_cons dk_X11_reason_0 (by decide +kernel) (DC_cons dk_X11_reason_1 (by decide +kernel) (DC_cons dk_X11_reason_2 (by decide +kernel) DC_nil))), pf_X11, trivial, trivial, by decide +kernel⟩
theorem mok_141 : MOK 141 mi_X11_othersNear := ⟨(DC_cons dk_X11_othersNear_0 (by decide +kernel) (DC_cons dk_X11_othersNear_1 (by decide +kernel) (DC_cons dk_X11_othersNear_2 (by decide +kernel) DC_nil))), pf_X11, trivial, trivial, by decide +kernel⟩
theorem mok_142 : MOK 142 mi_X11_takings := ⟨(DC_cons dk_X11_takings_0 (by decide +kernel) (DC_cons dk_X11_takings_1 (by decide +kernel) DC_nil)), pf_X11, trivial, trivial, by decide +kernel⟩
theorem mok_143 : MOK 143 mi_X11_plays := ⟨(DC_cons dk_X11_plays_0 (by decide +kernel) (DC_cons dk_X11_plays_1 (by decide +kernel) (DC_cons dk_X11_plays_2 (by decide +kernel) (DC_cons dk_X11_plays_3 (by decide +kernel) (DC_cons dk_X11_plays_4 (by decide +kernel) (DC_cons dk_X11_plays_5 (by decide +kernel) (DC_cons dk_X11_plays_6 (by decide +kernel) (DC_cons dk_X11_plays_7 (by decide +kernel) (DC_cons dk_X11_plays_8 (by decide +kernel) DC_nil))))))))), pf_X11, trivial, trivial, by decide +kernel⟩
theorem mok_144 : MOK 144 mi_X11_play := ⟨(DC_cons dk_X11_play_0 (by decide +kernel) (DC_cons dk_X11_play_1 (by decide +kernel) DC_nil)), pf_X11, trivial, trivial, by decide +kernel⟩
theorem mok_145 : MOK 145 mi_X11_timeAt := ⟨(DC_cons dk_X11_timeAt_0 (by decide +kernel) DC_nil), pf_X11, trivial, trivial, by decide +kernel⟩
theorem mok_146 : MOK 146 mi_X11_timeToday := ⟨(DC_cons dk_X11_timeToday_0 (by decide +kernel) DC_nil), pf_X11, trivial, trivial, by decide +kernel⟩
theorem mok_147 : MOK 147 mi_X11_sharePot := ⟨(DC_cons dk_X11_sharePot_0 (by decide +kernel) (DC_cons dk_X11_sharePot_1 (by decide +kernel) (DC_cons dk_X11_sharePot_2 (by decide +kernel) (DC_cons dk_X11_sharePot_3 (by decide +kernel) (DC_cons dk_X11_sharePot_4 (by decide +kernel) (DC_cons dk_X11_sharePot_5 (by decide +kernel) (DC_cons dk_X11_sharePot_6 (by decide +kernel) (DC_cons dk_X11_sharePot_7 (by decide +kernel) DC_nil)))))))), pf_X11, trivial, trivial, by decide +kernel⟩
theorem mok_148 : MOK 148 mi_X11_endDay := ⟨(DC_cons dk_X11_endDay_0 (by decide +kernel) (DC_cons dk_X11_endDay_1 (by decide +kernel) (DC_cons dk_X11_endDay_2 (by decide +kernel) (DC_cons dk_X11_endDay_3 (by decide +kernel) (DC_cons dk_X11_endDay_4 (by decide +kernel) DC_nil))))), pf_X11, trivial, trivial, by decide +kernel⟩
theorem mok_149 : MOK 149 mi_X11_goOn := ⟨(DC_cons dk_X11_goOn_0 (by decide +kernel) (DC_cons dk_X11_goOn_1 (by decide +kernel) (DC_cons dk_X11_goOn_2 (by decide +kernel) DC_nil))), pf_X11, trivial, trivial, by decide +kernel⟩
theorem mok_150 : MOK 150 mi_X11_next := ⟨(DC_cons dk_X11_next_0 (by decide +kernel) DC_nil), pf_X11, trivial, trivial, by decide +kernel⟩
theorem mok_151 : MOK 151 mi_X11_append := ⟨(DC_cons dk_X11_append_0 (by decide +kernel) (DC_cons dk_X11_append_1 (by decide +kernel) DC_nil)), pf_X11, trivial, trivial, by decide +kernel⟩
theorem mok_152 : MOK 152 mi_X11_clearBuffer := ⟨(DC_cons dk_X11_clearBuffer_0 (by decide +kernel) DC_nil), pf_X11, trivial, trivial, by decide +kernel⟩
theorem mok_153 : MOK 153 mi_X11_goes := ⟨(DC_cons dk_X11_goes_0 (by decide +kernel) DC_nil), pf_X11, trivial, trivial, by decide +kernel⟩
theorem mok_154 : MOK 154 mi_X11_ends := ⟨(DC_cons dk_X11_ends_0 (by decide +kernel) DC_nil), pf_X11, trivial, trivial, by decide +kernel⟩
theorem mok_155 : MOK 155 mi_X11_begins := ⟨(DC_cons dk_X11_begins_0 (by decide +kernel) (DC_cons dk_X11_begins_1 (by decide +kernel) (DC_cons dk_X11_begins_2 (by decide +kernel) (DC_cons dk_X11_begins_3 (by decide +kernel) DC_nil)))), pf_X11, trivial, trivial, by decide +kernel⟩
theorem mok_156 : MOK 156 mi_X11_takes := ⟨(DC_cons dk_X11_takes_0 (by decide +kernel) (DC_cons dk_X11_takes_1 (by decide +kernel) (DC_cons dk_X11_takes_2 (by decide +kernel) (DC_cons dk_X11_takes_3 (by decide +kernel) (DC_cons dk_X11_takes_4 (by decide +kernel) (DC_cons dk_X11_takes_5 (by decide +kernel) (DC_cons dk_X11_takes_6 (by decide +kernel) (DC_cons dk_X11_takes_7 (by decide +kernel) (DC_cons dk_X11_takes_8 (by decide +kernel) (DC_cons dk_X11_takes_9 (by decide +kernel) DC_nil)))))))))), pf_X11, trivial, trivial, by decide +kernel⟩
theorem mok_157 : MOK 157 mi_X11_read := ⟨(DC_cons dk_X11_read_0 (by decide +kernel) (DC_cons dk_X11_read_1 (by decide +kernel) DC_nil)), pf_X11, trivial, trivial, by decide +kernel⟩
theorem mok_158 : MOK 158 mi_X11_firstError := ⟨(DC_cons dk_X11_firstError_0 (by decide +kernel) DC_nil), pf_X11, trivial, trivial, by decide +kernel⟩
theorem mok_159 : MOK 159 mi_X11_mayDo := ⟨(DC_cons dk_X11_mayDo_0 (by decide +kernel) (DC_cons dk_X11_mayDo_1 (by decide +kernel) (DC_cons dk_X11_mayDo_2 (by decide +kernel) DC_nil))), pf_X11, trivial, trivial, by decide +kernel⟩
theorem mok_160 : MOK 160 mi_X11_does := ⟨(DC_cons dk_X11_does_0 (by decide +kernel) (DC_cons dk_X11_does_1 (by decide +kernel) (DC_cons dk_X11_does_2 (by decide +kernel) DC_nil))), pf_X11, trivial, trivial, by decide +kernel⟩
theorem mok_161 : MOK 161 mi_X11_run := ⟨(DC_cons dk_X11_run_0 (by decide +kernel) (DC_cons dk_X11_run_1 (by decide +kernel) (DC_cons dk_X11_run_2 (by decide +kernel) DC_nil))), pf_X11, trivial, trivial, by decide +kernel⟩
theorem mok_162 : MOK 162 mi_X11_undo := ⟨(DC_cons dk_X11_undo_0 (by decide +kernel) (DC_cons dk_X11_undo_1 (by decide +kernel) (DC_cons dk_X11_undo_2 (by decide +kernel) DC_nil))), pf_X11, trivial, trivial, by decide +kernel⟩
theorem mok_163 : MOK 163 mi_X11_playedAt := ⟨(DC_cons dk_X11_playedAt_0 (by decide +kernel) (DC_cons dk_X11_playedAt_1 (by decide +kernel) DC_nil)), pf_X11, trivial, trivial, by decide +kernel⟩
theorem mok_164 : MOK 164 mi_X11_cornerNow := ⟨(DC_cons dk_X11_cornerNow_0 (by decide +kernel) (DC_cons dk_X11_cornerNow_1 (by decide +kernel) (DC_cons dk_X11_cornerNow_2 (by decide +kernel) DC_nil))), pf_X11, trivial, trivial, by decide +kernel⟩
theorem mok_165 : MOK 165 mi_X11_corner := ⟨(DC_cons dk_X11_corner_0 (by decide +kernel) (DC_cons dk_X11_corner_1 (by decide +kernel) DC_nil)), pf_X11, trivial, trivial, by decide +kernel⟩
theorem mok_166 : MOK 166 mi_X11_organNow := ⟨(DC_cons dk_X11_organNow_0 (by decide +kernel) (DC_cons dk_X11_organNow_1 (by decide +kernel) (DC_cons dk_X11_organNow_2 (by decide +kernel) DC_nil))), pf_X11, trivial, trivial, by decide +kernel⟩
theorem mok_167 : MOK 167 mi_X11_organ := ⟨(DC_cons dk_X11_organ_0 (by decide +kernel) (DC_cons dk_X11_organ_1 (by decide +kernel) DC_nil)), pf_X11, trivial, trivial, by decide +kernel⟩
theorem mok_168 : MOK 168 mi_X11_playerNow := ⟨(DC_cons dk_X11_playerNow_0 (by decide +kernel) (DC_cons dk_X11_playerNow_1 (by decide +kernel) DC_nil)), pf_X11, trivial, trivial, by decide +kernel⟩
theorem mok_169 : MOK 169 mi_X11_player := ⟨(DC_cons dk_X11_player_0 (by decide +kernel) (DC_cons dk_X11_player_1 (by decide +kernel) DC_nil)), pf_X11, trivial, trivial, by decide +kernel⟩
theorem mok_170 : MOK 170 mi_X11_hours := ⟨(DC_cons dk_X11_hours_0 (by decide +kernel) (DC_cons dk_X11_hours_1 (by decide +kernel) DC_nil)), pf_X11, trivial, trivial, by decide +kernel⟩
theorem mok_171 : MOK 171 mi_X11_ofOrgans := ⟨(DC_cons dk_X11_ofOrgans_0 (by decide +kernel) DC_nil), pf_X11, trivial, trivial, by decide +kernel⟩
theorem mok_172 : MOK 172 mi_X11_playersGot := ⟨(DC_cons dk_X11_playersGot_0 (by decide +kernel) DC_nil), pf_X11, trivial, trivial, by decide +kernel⟩
theorem mok_173 : MOK 173 mi_X11_counted := ⟨(DC_cons dk_X11_counted_0 (by decide +kernel) (DC_cons dk_X11_counted_1 (by decide +kernel) (DC_cons dk_X11_counted_2 (by decide +kernel) (DC_cons dk_X11_counted_3 (by decide +kernel) DC_nil)))), pf_X11, trivial, trivial, by decide +kernel⟩
theorem mok_174 : MOK 174 mi_X11_count := ⟨(DC_cons dk_X11_count_0 (by decide +kernel) DC_nil), pf_X11, trivial, trivial, by decide +kernel⟩
theorem mok_175 : MOK 175 mi_X11_setting := ⟨(DC_cons dk_X11_setting_0 (by decide +kernel) DC_nil), pf_X11, trivial, trivial, by decide +kernel⟩
theorem mok_176 : MOK 176 mi_X11_whyNot := ⟨(DC_cons dk_X11_whyNot_0 (by decide +kernel) (DC_cons dk_X11_whyNot_1 (by decide +kernel) DC_nil)), pf_X11, trivial, trivial, by decide +kernel⟩
theorem mok_177 : MOK 177 mi_X11_tunesOf := ⟨(DC_cons dk_X11_tunesOf_0 (by decide +kernel) (DC_cons dk_X11_tunesOf_1 (by decide +kernel) DC_nil)), pf_X11, trivial, trivial, by decide +kernel⟩
theorem mok_178 : MOK 178 mi_X11_playedNow := ⟨(DC_cons dk_X11_playedNow_0 (by decide +kernel) DC_nil), pf_X11, trivial, trivial, by decide +kernel⟩
theorem mok_179 : MOK 179 mi_X11_ifPlayed := ⟨(DC_cons dk_X11_ifPlayed_0 (by decide +kernel) DC_nil), pf_X11, trivial, trivial, by decide +kernel⟩
theorem mok_180 : MOK 180 mi_X11_size := ⟨(DC_cons dk_X11_size_0 (by decide +kernel) DC_nil), pf_X11, trivial, trivial, by decide +kernel⟩
theorem mok_181 : MOK 181 mi_X11_pairsBehind := ⟨(DC_cons dk_X11_pairsBehind_0 (by decide +kernel) (DC_cons dk_X11_pairsBehind_1 (by decide +kernel) (DC_cons dk_X11_pairsBehind_2 (by decide +kernel) DC_nil))), pf_X11, trivial, trivial, by decide +kernel⟩
theorem mok_182 : MOK 182 mi_X11_kindestNow := ⟨(DC_cons dk_X11_kindestNow_0 (by decide +kernel) (DC_cons dk_X11_kindestNow_1 (by decide +kernel) (DC_cons dk_X11_kindestNow_2 (by decide +kernel) DC_nil))), pf_X11, trivial, trivial, by decide +kernel⟩
theorem mok_183 : MOK 183 mi_X11_kindestTune := ⟨(DC_cons dk_X11_kindestTune_0 (by decide +kernel) DC_nil), pf_X11, trivial, trivial, by decide +kernel⟩
theorem mok_184 : MOK 184 mi_X11_canPick := ⟨(DC_cons dk_X11_canPick_0 (by decide +kernel) (DC_cons dk_X11_canPick_1 (by decide +kernel) (DC_cons dk_X11_canPick_2 (by decide +kernel) DC_nil))), pf_X11, trivial, trivial, by decide +kernel⟩
theorem mok_185 : MOK 185 mi_X11_pickTakings := ⟨(DC_cons dk_X11_pickTakings_0 (by decide +kernel) (DC_cons dk_X11_pickTakings_1 (by decide +kernel) DC_nil)), pf_X11, trivial, trivial, by decide +kernel⟩
theorem mok_186 : MOK 186 mi_X11_keepPicks := ⟨(DC_cons dk_X11_keepPicks_0 (by decide +kernel) (DC_cons dk_X11_keepPicks_1 (by decide +kernel) (DC_cons dk_X11_keepPicks_2 (by decide +kernel) DC_nil))), pf_X11, trivial, trivial, by decide +kernel⟩
theorem mok_187 : MOK 187 mi_X11_layMost := ⟨(DC_cons dk_X11_layMost_0 (by decide +kernel) (DC_cons dk_X11_layMost_1 (by decide +kernel) (DC_cons dk_X11_layMost_2 (by decide +kernel) (DC_cons dk_X11_layMost_3 (by decide +kernel) (DC_cons dk_X11_layMost_4 (by decide +kernel) (DC_cons dk_X11_layMost_5 (by decide +kernel) DC_nil)))))), pf_X11, trivial, trivial, by decide +kernel⟩
theorem mok_188 : MOK 188 mi_X11_most := ⟨(DC_cons dk_X11_most_0 (by decide +kernel) (DC_cons dk_X11_most_1 (by decide +kernel) DC_nil)), pf_X11, trivial, trivial, by decide +kernel⟩
theorem mok_189 : MOK 189 mi_X11_endedNow := ⟨(DC_cons dk_X11_endedNow_0 (by decide +kernel) DC_nil), pf_X11, trivial, trivial, by decide +kernel⟩
theorem mok_190 : MOK 190 mi_X11_ifEnded := ⟨(DC_cons dk_X11_ifEnded_0 (by decide +kernel) DC_nil), pf_X11, trivial, trivial, by decide +kernel⟩
theorem mok_191 : MOK 191 mi_X11_shareNow := ⟨(DC_cons dk_X11_shareNow_0 (by decide +kernel) DC_nil), pf_X11, trivial, trivial, by decide +kernel⟩
theorem mok_192 : MOK 192 mi_X11_playersShare := ⟨(DC_cons dk_X11_playersShare_0 (by decide +kernel) DC_nil), pf_X11, trivial, trivial, by decide +kernel⟩
theorem mok_193 : MOK 193 mi_X11_mix := ⟨(DC_cons dk_X11_mix_0 (by decide +kernel) DC_nil), pf_X11, trivial, trivial, by decide +kernel⟩
theorem mok_194 : MOK 194 mi_X11_mixOrgan := ⟨(DC_cons dk_X11_mixOrgan_0 (by decide +kernel) (DC_cons dk_X11_mixOrgan_1 (by decide +kernel) (DC_cons dk_X11_mixOrgan_2 (by decide +kernel) DC_nil))), pf_X11, trivial, trivial, by decide +kernel⟩
theorem mok_195 : MOK 195 mi_X11_mixPlayer := ⟨(DC_cons dk_X11_mixPlayer_0 (by decide +kernel) (DC_cons dk_X11_mixPlayer_1 (by decide +kernel) DC_nil)), pf_X11, trivial, trivial, by decide +kernel⟩
theorem mok_196 : MOK 196 mi_X11_digest := ⟨(DC_cons dk_X11_digest_0 (by decide +kernel) (DC_cons dk_X11_digest_1 (by decide +kernel) (DC_cons dk_X11_digest_2 (by decide +kernel) (DC_cons dk_X11_digest_3 (by decide +kernel) (DC_cons dk_X11_digest_4 (by decide +kernel) (DC_cons dk_X11_digest_5 (by decide +kernel) (DC_cons dk_X11_digest_6 (by decide +kernel) (DC_cons dk_X11_digest_7 (by decide +kernel) DC_nil)))))))), pf_X11, trivial, trivial, by decide +kernel⟩
theorem mok_197 : MOK 197 mi_L_addCorner := ⟨(DC_cons dk_L_addCorner_0 (by decide +kernel) DC_nil), pf_L, trivial, ⟨⟨rfl, rfl, rfl⟩, by decide, by decide, cw_13, ⟨⟨rfl, rfl, rfl⟩, by decide, by decide, cw_15, trivial⟩⟩, by decide +kernel⟩
theorem mok_198 : MOK 198 mi_L_addOrgan := ⟨(DC_cons dk_L_addOrgan_0 (by decide +kernel) DC_nil), pf_L, trivial, ⟨⟨rfl, rfl, rfl⟩, by decide, by decide, cw_13, ⟨⟨rfl, rfl, rfl⟩, by decide, by decide, cw_15, trivial⟩⟩, by decide +kernel⟩
theorem mok_199 : MOK 199 mi_L_addPlayer := ⟨(DC_cons dk_L_addPlayer_0 (by decide +kernel) DC_nil), pf_L, trivial, ⟨⟨rfl, rfl, rfl⟩, by decide, by decide, cw_15, trivial⟩, by decide +kernel⟩
theorem mok_200 : MOK 200 mi_L_permit := ⟨(DC_cons dk_L_permit_0 (by decide +kernel) DC_nil), pf_L, trivial, ⟨⟨rfl, rfl, rfl⟩, by decide, by decide, cw_29, trivial⟩, by decide +kernel⟩
theorem mok_201 : MOK 201 mi_L_barrel := ⟨(DC_cons dk_L_barrel_0 (by decide +kernel) DC_nil), pf_L, trivial, ⟨⟨rfl, rfl, rfl⟩, by decide, by decide, cw_29, ⟨⟨rfl, rfl, rfl⟩, by decide, by decide, cw_13, trivial⟩⟩, by decide +kernel⟩
theorem mok_202 : MOK 202 mi_L_assign := ⟨(DC_cons dk_L_assign_0 (by decide +kernel) DC_nil), pf_L, trivial, ⟨⟨rfl, rfl, rfl⟩, by decide, by decide, cw_29, trivial⟩, by decide +kernel⟩
theorem mok_203 : MOK 203 mi_L_set := ⟨(DC_cons dk_L_set_0 (by decide +kernel) DC_nil), pf_L, trivial, ⟨⟨rfl, rfl, rfl⟩, by decide, by decide, cw_29, ⟨⟨rfl, rfl, rfl⟩, by decide, by decide, cw_13, trivial⟩⟩, by decide +kernel⟩
theorem mok_204 : MOK 204 mi_L_lots := ⟨(DC_cons dk_L_lots_0 (by decide +kernel) DC_nil), pf_L, trivial, ⟨⟨rfl, rfl, rfl⟩, by decide, by decide, cw_15, trivial⟩, by decide +kernel⟩
theorem mok_205 : MOK 205 mi_L_weather := ⟨(DC_cons dk_L_weather_0 (by decide +kernel) DC_nil), pf_L, trivial, ⟨⟨rfl, rfl, rfl⟩, by decide, by decide, cw_15, trivial⟩, by decide +kernel⟩
theorem mok_206 : MOK 206 mi_L_play := ⟨(DC_cons dk_L_play_0 (by decide +kernel) DC_nil), pf_L, trivial, ⟨⟨rfl, rfl, rfl⟩, by decide, by decide, cw_29, ⟨⟨rfl, rfl, rfl⟩, by decide, by decide, cw_13, ⟨⟨rfl, rfl, rfl⟩, by decide, by decide, cw_15, trivial⟩⟩⟩, by decide +kernel⟩
theorem mok_207 : MOK 207 mi_L_append := ⟨(DC_cons dk_L_append_0 (by decide +kernel) DC_nil), pf_L, trivial, ⟨⟨rfl, rfl, rfl⟩, by decide, by decide, cw_13, ⟨⟨rfl, rfl, rfl⟩, by decide, by decide, cw_15, trivial⟩⟩, by decide +kernel⟩
theorem mok_208 : MOK 208 mi_L_run := ⟨(DC_cons dk_L_run_0 (by decide +kernel) DC_nil), pf_L, trivial, ⟨⟨rfl, rfl, rfl⟩, by decide, by decide, cw_13, trivial⟩, by decide +kernel⟩
theorem mok_209 : MOK 209 mi_L_undo := ⟨(DC_cons dk_L_undo_0 (by decide +kernel) DC_nil), pf_L, trivial, ⟨⟨rfl, rfl, rfl⟩, by decide, by decide, cw_15, trivial⟩, by decide +kernel⟩
theorem mok_210 : MOK 210 mi_L_corner := ⟨(DC_cons dk_L_corner_0 (by decide +kernel) DC_nil), pf_L, trivial, ⟨⟨rfl, rfl, rfl⟩, by decide, by decide, cw_29, ⟨⟨rfl, rfl, rfl⟩, by decide, by decide, cw_13, trivial⟩⟩, by decide +kernel⟩
theorem mok_211 : MOK 211 mi_L_organ := ⟨(DC_cons dk_L_organ_0 (by decide +kernel) DC_nil), pf_L, trivial, ⟨⟨rfl, rfl, rfl⟩, by decide, by decide, cw_29, ⟨⟨rfl, rfl, rfl⟩, by decide, by decide, cw_13, trivial⟩⟩, by decide +kernel⟩
theorem mok_212 : MOK 212 mi_L_player := ⟨(DC_cons dk_L_player_0 (by decide +kernel) DC_nil), pf_L, trivial, ⟨⟨rfl, rfl, rfl⟩, by decide, by decide, cw_29, ⟨⟨rfl, rfl, rfl⟩, by decide, by decide, cw_13, trivial⟩⟩, by decide +kernel⟩
theorem mok_213 : MOK 213 mi_L_hours := ⟨(DC_cons dk_L_hours_0 (by decide +kernel) DC_nil), pf_L, trivial, ⟨⟨rfl, rfl, rfl⟩, by decide, by decide, cw_29, trivial⟩, by decide +kernel⟩
theorem mok_214 : MOK 214 mi_L_count := ⟨(DC_cons dk_L_count_0 (by decide +kernel) DC_nil), pf_L, trivial, ⟨⟨rfl, rfl, rfl⟩, by decide, by decide, cw_13, trivial⟩, by decide +kernel⟩
theorem mok_215 : MOK 215 mi_L_setting := ⟨(DC_cons dk_L_setting_0 (by decide +kernel) DC_nil), pf_L, trivial, ⟨⟨rfl, rfl, rfl⟩, by decide, by decide, cw_29, trivial⟩, by decide +kernel⟩
theorem mok_216 : MOK 216 mi_L_whyNot := ⟨(DC_cons dk_L_whyNot_0 (by decide +kernel) DC_nil), pf_L, trivial, ⟨⟨rfl, rfl, rfl⟩, by decide, by decide, cw_29, ⟨⟨rfl, rfl, rfl⟩, by decide, by decide, cw_13, trivial⟩⟩, by decide +kernel⟩
theorem mok_217 : MOK 217 mi_L_ifPlayed := ⟨(DC_cons dk_L_ifPlayed_0 (by decide +kernel) DC_nil), pf_L, trivial, ⟨⟨rfl, rfl, rfl⟩, by decide, by decide, cw_29, trivial⟩, by decide +kernel⟩
theorem mok_218 : MOK 218 mi_L_kindestTune := ⟨(DC_cons dk_L_kindestTune_0 (by decide +kernel) DC_nil), pf_L, trivial, ⟨⟨rfl, rfl, rfl⟩, by decide, by decide, cw_29, trivial⟩, by decide +kernel⟩
theorem mok_219 : MOK 219 mi_L_most := ⟨(DC_cons dk_L_most_0 (by decide +kernel) DC_nil), pf_L, trivial, ⟨⟨rfl, rfl, rfl⟩, by decide, by decide, cw_13, trivial⟩, by decide +kernel⟩
theorem mok_220 : MOK 220 mi_L_ifEnded := ⟨(DC_cons dk_L_ifEnded_0 (by decide +kernel) DC_nil), pf_L, trivial, ⟨⟨rfl, rfl, rfl⟩, by decide, by decide, cw_29, trivial⟩, by decide +kernel⟩
theorem mok_221 : MOK 221 mi_L_law := ⟨(DC_cons dk_L_law_0 (by decide +kernel) (DC_cons dk_L_law_1 (by decide +kernel) (DC_cons dk_L_law_2 (by decide +kernel) (DC_cons dk_L_law_3 (by decide +kernel) (DC_cons dk_L_law_4 (by decide +kernel) (DC_cons dk_L_law_5 (by decide +kernel) (DC_cons dk_L_law_6 (by decide +kernel) (DC_cons dk_L_law_7 (by decide +kernel) (DC_cons dk_L_law_8 (by decide +kernel) (DC_cons dk_L_law_9 (by decide +kernel) (DC_cons dk_L_law_10 (by decide +kernel) (DC_cons dk_L_law_11 (by decide +kernel) (DC_cons dk_L_law_12 (by decide +kernel) (DC_cons dk_L_law_13 (by decide +kernel) (DC_cons dk_L_law_14 (by decide +kernel) (DC_cons dk_L_law_15 (by decide +kernel) (DC_cons dk_L_law_16 (by decide +kernel) (DC_cons dk_L_law_17 (by decide +kernel) (DC_cons dk_L_law_18 (by decide +kernel) (DC_cons dk_L_law_19 (by decide +kernel) (DC_cons dk_L_law_20 (by decide +kernel) (DC_cons dk_L_law_21 (by decide +kernel) (DC_cons dk_L_law_22 (by decide +kernel) (DC_cons dk_L_law_23 (by decide +kernel) (DC_cons dk_L_law_24 (by decide +kernel) (DC_cons dk_L_law_25 (by decide +kernel) (DC_cons dk_L_law_26 (by decide +kernel) (DC_cons dk_L_law_27 (by decide +kernel) (DC_cons dk_L_law_28 (by decide +kernel) (DC_cons dk_L_law_29 (by decide +kernel) (DC_cons dk_L_law_30 (by decide +kernel) (DC_cons dk_L_law_31 (by decide +kernel) (DC_cons dk_L_law_32 (by decide +kernel) (DC_cons dk_L_law_33 (by decide +kernel) (DC_cons dk_L_law_34 (by decide +kernel) (DC_cons dk_L_law_35 (by decide +kernel) (DC_cons dk_L_law_36 (by decide +kernel) (DC_cons dk_L_law_37 (by decide +kernel) (DC_cons dk_L_law_38 (by decide +kernel) (DC_cons dk_L_law_39 (by decide +kernel) (DC_cons dk_L_law_40 (by decide +kernel) (DC_cons dk_L_law_41 (by decide +kernel) (DC_cons dk_L_law_42 (by decide +kernel) (DC_cons dk_L_law_43 (by decide +kernel) (DC_cons dk_L_law_44 (by decide +kernel) (DC_cons dk_L_law_45 (by decide +kernel) (DC_cons dk_L_law_46 (by decide +kernel) (DC_cons dk_L_law_47 (by decide +kernel) (DC_cons dk_L_law_48 (by decide +kernel) (DC_cons dk_L_law_49 (by decide +kernel) (DC_cons dk_L_law_50 (by decide +kernel) (DC_cons dk_L_law_51 (by decide +kernel) (DC_cons dk_L_law_52 (by decide +kernel) (DC_cons dk_L_law_53 (by decide +kernel) (DC_cons dk_L_law_54 (by decide +kernel) DC_nil))))))))))))))))))))))))))))))))))))))))))))))))))))))), pf_L, trivial, trivial, by decide +kernel⟩
theorem mokb_0 : ∀ (j : Nat) (M : MI), mtab_0[j]? = some M → MOK (16 * 0 + j) M := by
  intro j M h
  match j, h with
  | 0, h => cases h; exact mok_0
  | 1, h => cases h; exact mok_1
  | 2, h => cases h; exact mok_2
  | 3, h => cases h; exact mok_3
  | 4, h => cases h; exact mok_4
  | 5, h => cases h; exact mok_5
  | 6, h => cases h; exact mok_6
  | 7, h => cases h; exact mok_7
  | 8, h => cases h; exact mok_8
  | 9, h => cases h; exact mok_9
  | 10, h => cases h; exact mok_10
  | 11, h => cases h; exact mok_11
  | 12, h => cases h; exact mok_12
  | 13, h => cases h; exact mok_13
  | 14, h => cases h; exact mok_14
  | 15, h => cases h; exact mok_15
  | n + 16, h => cases h
theorem mokb_1 : ∀ (j : Nat) (M : MI), mtab_1[j]? = some M → MOK (16 * 1 + j) M := by
  intro j M h
  match j, h with
  | 0, h => cases h; exact mok_16
  | 1, h => cases h; exact mok_17
  | 2, h => cases h; exact mok_18
  | 3, h => cases h; exact mok_19
  | 4, h => cases h; exact mok_20
  | 5, h => cases h; exact mok_21
  | 6, h => cases h; exact mok_22
  | 7, h => cases h; exact mok_23
  | 8, h => cases h; exact mok_24
  | 9, h => cases h; exact mok_25
  | 10, h => cases h; exact mok_26
  | 11, h => cases h; exact mok_27
  | 12, h => cases h; exact mok_28
  | 13, h => cases h; exact mok_29
  | 14, h => cases h; exact mok_30
  | 15, h => cases h; exact mok_31
  | n + 16, h => cases h
theorem mokb_2 : ∀ (j : Nat) (M : MI), mtab_2[j]? = some M → MOK (16 * 2 + j) M := by
  intro j M h
  match j, h with
  | 0, h => cases h; exact mok_32
  | 1, h => cases h; exact mok_33
  | 2, h => cases h; exact mok_34
  | 3, h => cases h; exact mok_35
  | 4, h => cases h; exact mok_36
  | 5, h => cases h; exact mok_37
  | 6, h => cases h; exact mok_38
  | 7, h => cases h; exact mok_39
  | 8, h => cases h; exact mok_40
  | 9, h => cases h; exact mok_41
  | 10, h => cases h; exact mok_42
  | 11, h => cases h; exact mok_43
  | 12, h => cases h; exact mok_44
  | 13, h => cases h; exact mok_45
  | 14, h => cases h; exact mok_46
  | 15, h => cases h; exact mok_47
  | n + 16, h => cases h
theorem mokb_3 : ∀ (j : Nat) (M : MI), mtab_3[j]? = some M → MOK (16 * 3 + j) M := by
  intro j M h
  match j, h with
  | 0, h => cases h; exact mok_48
  | 1, h => cases h; exact mok_49
  | 2, h => cases h; exact mok_50
  | 3, h => cases h; exact mok_51
  | 4, h => cases h; exact mok_52
  | 5, h => cases h; exact mok_53
  | 6, h => cases h; exact mok_54
  | 7, h => cases h; exact mok_55
  | 8, h => cases h; exact mok_56
  | 9, h => cases h; exact mok_57
  | 10, h => cases h; exact mok_58
  | 11, h => cases h; exact mok_59
  | 12, h => cases h; exact mok_60
  | 13, h => cases h; exact mok_61
  | 14, h => cases h; exact mok_62
  | 15, h => cases h; exact mok_63
  | n + 16, h => cases h
theorem mokb_4 : ∀ (j : Nat) (M : MI), mtab_4[j]? = some M → MOK (16 * 4 + j) M := by
  intro j M h
  match j, h with
  | 0, h => cases h; exact mok_64
  | 1, h => cases h; exact mok_65
  | 2, h => cases h; exact mok_66
  | 3, h => cases h; exact mok_67
  | 4, h => cases h; exact mok_68
  | 5, h => cases h; exact mok_69
  | 6, h => cases h; exact mok_70
  | 7, h => cases h; exact mok_71
  | 8, h => cases h; exact mok_72
  | 9, h => cases h; exact mok_73
  | 10, h => cases h; exact mok_74
  | 11, h => cases h; exact mok_75
  | 12, h => cases h; exact mok_76
  | 13, h => cases h; exact mok_77
  | 14, h => cases h; exact mok_78
  | 15, h => cases h; exact mok_79
  | n + 16, h => cases h
theorem mokb_5 : ∀ (j : Nat) (M : MI), mtab_5[j]? = some M → MOK (16 * 5 + j) M := by
  intro j M h
  match j, h with
  | 0, h => cases h; exact mok_80
  | 1, h => cases h; exact mok_81
  | 2, h => cases h; exact mok_82
  | 3, h => cases h; exact mok_83
  | 4, h => cases h; exact mok_84
  | 5, h => cases h; exact mok_85
  | 6, h => cases h; exact mok_86
  | 7, h => cases h; exact mok_87
  | 8, h => cases h; exact mok_88
  | 9, h => cases h; exact mok_89
  | 10, h => cases h; exact mok_90
  | 11, h => cases h; exact mok_91
  | 12, h => cases h; exact mok_92
  | 13, h => cases h; exact mok_93
  | 14, h => cases h; exact mok_94
  | 15, h => cases h; exact mok_95
  | n + 16, h => cases h
theorem mokb_6 : ∀ (j : Nat) (M : MI), mtab_6[j]? = some M → MOK (16 * 6 + j) M := by
  intro j M h
  match j, h with
  | 0, h => cases h; exact mok_96
  | 1, h => cases h; exact mok_97
  | 2, h => cases h; exact mok_98
  | 3, h => cases h; exact mok_99
  | 4, h => cases h; exact mok_100
  | 5, h => cases h; exact mok_101
  | 6, h => cases h; exact mok_102
  | 7, h => cases h; exact mok_103
  | 8, h => cases h; exact mok_104
  | 9, h => cases h; exact mok_105
  | 10, h => cases h; exact mok_106
  | 11, h => cases h; exact mok_107
  | 12, h => cases h; exact mok_108
  | 13, h => cases h; exact mok_109
  | 14, h => cases h; exact mok_110
  | 15, h => cases h; exact mok_111
  | n + 16, h => cases h
theorem mokb_7 : ∀ (j : Nat) (M : MI), mtab_7[j]? = some M → MOK (16 * 7 + j) M := by
  intro j M h
  match j, h with
  | 0, h => cases h; exact mok_112
  | 1, h => cases h; exact mok_113
  | 2, h => cases h; exact mok_114
  | 3, h => cases h; exact mok_115
  | 4, h => cases h; exact mok_116
  | 5, h => cases h; exact mok_117
  | 6, h => cases h; exact mok_118
  | 7, h => cases h; exact mok_119
  | 8, h => cases h; exact mok_120
  | 9, h => cases h; exact mok_121
  | 10, h => cases h; exact mok_122
  | 11, h => cases h; exact mok_123
  | 12, h => cases h; exact mok_124
  | 13, h => cases h; exact mok_125
  | 14, h => cases h; exact mok_126
  | 15, h => cases h; exact mok_127
  | n + 16, h => cases h
theorem mokb_8 : ∀ (j : Nat) (M : MI), mtab_8[j]? = some M → MOK (16 * 8 + j) M := by
  intro j M h
  match j, h with
  | 0, h => cases h; exact mok_128
  | 1, h => cases h; exact mok_129
  | 2, h => cases h; exact mok_130
  | 3, h => cases h; exact mok_131
  | 4, h => cases h; exact mok_132
  | 5, h => cases h; exact mok_133
  | 6, h => cases h; exact mok_134
  | 7, h => cases h; exact mok_135
  | 8, h => cases h; exact mok_136
  | 9, h => cases h; exact mok_137
  | 10, h => cases h; exact mok_138
  | 11, h => cases h; exact mok_139
  | 12, h => cases h; exact mok_140
  | 13, h => cases h; exact mok_141
  | 14, h => cases h; exact mok_142
  | 15, h => cases h; exact mok_143
  | n + 16, h => cases h
theorem mokb_9 : ∀ (j : Nat) (M : MI), mtab_9[j]? = some M → MOK (16 * 9 + j) M := by
  intro j M h
  match j, h with
  | 0, h => cases h; exact mok_144
  | 1, h => cases h; exact mok_145
  | 2, h => cases h; exact mok_146
  | 3, h => cases h; exact mok_147
  | 4, h => cases h; exact mok_148
  | 5, h => cases h; exact mok_149
  | 6, h => cases h; exact mok_150
  | 7, h => cases h; exact mok_151
  | 8, h => cases h; exact mok_152
  | 9, h => cases h; exact mok_153
  | 10, h => cases h; exact mok_154
  | 11, h => cases h; exact mok_155
  | 12, h => cases h; exact mok_156
  | 13, h => cases h; exact mok_157
  | 14, h => cases h; exact mok_158
  | 15, h => cases h; exact mok_159
  | n + 16, h => cases h
theorem mokb_10 : ∀ (j : Nat) (M : MI), mtab_10[j]? = some M → MOK (16 * 10 + j) M := by
  intro j M h
  match j, h with
  | 0, h => cases h; exact mok_160
  | 1, h => cases h; exact mok_161
  | 2, h => cases h; exact mok_162
  | 3, h => cases h; exact mok_163
  | 4, h => cases h; exact mok_164
  | 5, h => cases h; exact mok_165
  | 6, h => cases h; exact mok_166
  | 7, h => cases h; exact mok_167
  | 8, h => cases h; exact mok_168
  | 9, h => cases h; exact mok_169
  | 10, h => cases h; exact mok_170
  | 11, h => cases h; exact mok_171
  | 12, h => cases h; exact mok_172
  | 13, h => cases h; exact mok_173
  | 14, h => cases h; exact mok_174
  | 15, h => cases h; exact mok_175
  | n + 16, h => cases h
theorem mokb_11 : ∀ (j : Nat) (M : MI), mtab_11[j]? = some M → MOK (16 * 11 + j) M := by
  intro j M h
  match j, h with
  | 0, h => cases h; exact mok_176
  | 1, h => cases h; exact mok_177
  | 2, h => cases h; exact mok_178
  | 3, h => cases h; exact mok_179
  | 4, h => cases h; exact mok_180
  | 5, h => cases h; exact mok_181
  | 6, h => cases h; exact mok_182
  | 7, h => cases h; exact mok_183
  | 8, h => cases h; exact mok_184
  | 9, h => cases h; exact mok_185
  | 10, h => cases h; exact mok_186
  | 11, h => cases h; exact mok_187
  | 12, h => cases h; exact mok_188
  | 13, h => cases h; exact mok_189
  | 14, h => cases h; exact mok_190
  | 15, h => cases h; exact mok_191
  | n + 16, h => cases h
theorem mokb_12 : ∀ (j : Nat) (M : MI), mtab_12[j]? = some M → MOK (16 * 12 + j) M := by
  intro j M h
  match j, h with
  | 0, h => cases h; exact mok_192
  | 1, h => cases h; exact mok_193
  | 2, h => cases h; exact mok_194
  | 3, h => cases h; exact mok_195
  | 4, h => cases h; exact mok_196
  | 5, h => cases h; exact mok_197
  | 6, h => cases h; exact mok_198
  | 7, h => cases h; exact mok_199
  | 8, h => cases h; exact mok_200
  | 9, h => cases h; exact mok_201
  | 10, h => cases h; exact mok_202
  | 11, h => cases h; exact mok_203
  | 12, h => cases h; exact mok_204
  | 13, h => cases h; exact mok_205
  | 14, h => cases h; exact mok_206
  | 15, h => cases h; exact mok_207
  | n + 16, h => cases h
theorem mokb_13 : ∀ (j : Nat) (M : MI), mtab_13[j]? = some M → MOK (16 * 13 + j) M := by
  intro j M h
  match j, h with
  | 0, h => cases h; exact mok_208
  | 1, h => cases h; exact mok_209
  | 2, h => cases h; exact mok_210
  | 3, h => cases h; exact mok_211
  | 4, h => cases h; exact mok_212
  | 5, h => cases h; exact mok_213
  | 6, h => cases h; exact mok_214
  | 7, h => cases h; exact mok_215
  | 8, h => cases h; exact mok_216
  | 9, h => cases h; exact mok_217
  | 10, h => cases h; exact mok_218
  | 11, h => cases h; exact mok_219
  | 12, h => cases h; exact mok_220
  | 13, h => cases h; exact mok_221
  | n + 14, h => cases h
theorem mok {n : Nat} {M : MI} (h : mtab n = some M) : MOK n M := by
  unfold mtab at h
  have hn : n = 16 * (n / 16) + n % 16 := (Nat.div_add_mod n 16).symm
  generalize n / 16 = q at h hn
  generalize n % 16 = r at h hn
  subst hn
  match q, h with
  | 0, h => exact mokb_0 r M h
  | 1, h => exact mokb_1 r M h
  | 2, h => exact mokb_2 r M h
  | 3, h => exact mokb_3 r M h
  | 4, h => exact mokb_4 r M h
  | 5, h => exact mokb_5 r M h
  | 6, h => exact mokb_6 r M h
  | 7, h => exact mokb_7 r M h
  | 8, h => exact mokb_8 r M h
  | 9, h => exact mokb_9 r M h
  | 10, h => exact mokb_10 r M h
  | 11, h => exact mokb_11 r M h
  | 12, h => exact mokb_12 r M h
  | 13, h => exact mokb_13 r M h
  | q + 14, h => cases h
end MOK
