/-! SMALL METHODS OF THE JDK, by contract (words by wip/p32/genjdk.py) -/
section JDK
def jy_coder : MethodName := ⟨"java/lang/String", "coder", "()B"⟩
def jy_length : MethodName := ⟨"java/lang/String", "length", "()I"⟩
def jy_isLatin1 : MethodName := ⟨"java/lang/String", "isLatin1", "()Z"⟩
def jy_checkIndex : MethodName := ⟨"java/lang/String", "checkIndex", "(II)V"⟩
def jy_charAt : MethodName := ⟨"java/lang/String", "charAt", "(I)C"⟩
def jy_lcharAt : MethodName := ⟨"java/lang/StringLatin1", "charAt", "([BI)C"⟩
def jy_pcheck : MethodName := ⟨"jdk/internal/util/Preconditions", "checkIndex", "(IILjava/util/function/BiFunction;)I"⟩
def jy_isNaN : MethodName := ⟨"java/lang/Double", "isNaN", "(D)Z"⟩
def jy_dtl : MethodName := ⟨"java/lang/Double", "doubleToLongBits", "(D)J"⟩
def jy_raw : MethodName := ⟨"java/lang/Double", "doubleToRawLongBits", "(D)J"⟩
def jy_ordinal : MethodName := ⟨"java/lang/Enum", "ordinal", "()I"⟩
def jy_kord : MethodName := ⟨"OrganCorners$OrderKind", "ordinal", "()I"⟩
abbrev jc_coder : ByteArray := prog_21_method_152_code
abbrev jc_length : ByteArray := prog_21_method_54_code
abbrev jc_isLatin1 : ByteArray := prog_21_method_154_code
abbrev jc_checkIndex : ByteArray := prog_21_method_155_code
abbrev jc_charAt : ByteArray := prog_21_method_56_code
abbrev jc_lcharAt : ByteArray := prog_22_method_2_code
abbrev jc_pcheck : ByteArray := prog_26_method_11_code
abbrev jc_ordinal : ByteArray := prog_14_method_2_code
theorem jd_ordinal_0 : decode jc_ordinal 0 = .ok (.aload_n 0, 1) := by decide +kernel
theorem jd_ordinal_1 : decode jc_ordinal 1 = .ok (.getfield 7, 3) := by decide +kernel
theorem jd_ordinal_4 : decode jc_ordinal 4 = .ok (.ireturn, 1) := by decide +kernel
theorem jd_length_0 : decode jc_length 0 = .ok (.aload_n 0, 1) := by decide +kernel
theorem jd_length_1 : decode jc_length 1 = .ok (.getfield 9, 3) := by decide +kernel
theorem jd_length_4 : decode jc_length 4 = .ok (.arraylength, 1) := by decide +kernel
theorem jd_length_5 : decode jc_length 5 = .ok (.aload_n 0, 1) := by decide +kernel
theorem jd_length_6 : decode jc_length 6 = .ok (.invokevirtual 335, 3) := by decide +kernel
theorem jd_length_9 : decode jc_length 9 = .ok (.ishr, 1) := by decide +kernel
theorem jd_length_10 : decode jc_length 10 = .ok (.ireturn, 1) := by decide +kernel
theorem jd_charAt_0 : decode jc_charAt 0 = .ok (.aload_n 0, 1) := by decide +kernel
theorem jd_charAt_1 : decode jc_charAt 1 = .ok (.invokevirtual 492, 3) := by decide +kernel
theorem jd_charAt_4 : decode jc_charAt 4 = .ok (.ifCond .eq 12, 3) := by decide +kernel
theorem jd_charAt_7 : decode jc_charAt 7 = .ok (.aload_n 0, 1) := by decide +kernel
theorem jd_charAt_8 : decode jc_charAt 8 = .ok (.getfield 9, 3) := by decide +kernel
theorem jd_charAt_11 : decode jc_charAt 11 = .ok (.iload_n 1, 1) := by decide +kernel
theorem jd_charAt_12 : decode jc_charAt 12 = .ok (.invokestatic 495, 3) := by decide +kernel
theorem jd_charAt_15 : decode jc_charAt 15 = .ok (.ireturn, 1) := by decide +kernel
theorem jd_charAt_16 : decode jc_charAt 16 = .ok (.aload_n 0, 1) := by decide +kernel
theorem jd_charAt_17 : decode jc_charAt 17 = .ok (.getfield 9, 3) := by decide +kernel
theorem jd_charAt_20 : decode jc_charAt 20 = .ok (.iload_n 1, 1) := by decide +kernel
theorem jd_charAt_21 : decode jc_charAt 21 = .ok (.invokestatic 498, 3) := by decide +kernel
theorem jd_charAt_24 : decode jc_charAt 24 = .ok (.ireturn, 1) := by decide +kernel
theorem jd_coder_0 : decode jc_coder 0 = .ok (.getstatic 38, 3) := by decide +kernel
theorem jd_coder_3 : decode jc_coder 3 = .ok (.ifCond .eq 10, 3) := by decide +kernel
theorem jd_coder_6 : decode jc_coder 6 = .ok (.aload_n 0, 1) := by decide +kernel
theorem jd_coder_7 : decode jc_coder 7 = .ok (.getfield 15, 3) := by decide +kernel
theorem jd_coder_10 : decode jc_coder 10 = .ok (.goto 4, 3) := by decide +kernel
theorem jd_coder_13 : decode jc_coder 13 = .ok (.iconst 1, 1) := by decide +kernel
theorem jd_coder_14 : decode jc_coder 14 = .ok (.ireturn, 1) := by decide +kernel
theorem jd_isLatin1_0 : decode jc_isLatin1 0 = .ok (.getstatic 38, 3) := by decide +kernel
theorem jd_isLatin1_3 : decode jc_isLatin1 3 = .ok (.ifCond .eq 14, 3) := by decide +kernel
theorem jd_isLatin1_6 : decode jc_isLatin1 6 = .ok (.aload_n 0, 1) := by decide +kernel
theorem jd_isLatin1_7 : decode jc_isLatin1 7 = .ok (.getfield 15, 3) := by decide +kernel
theorem jd_isLatin1_10 : decode jc_isLatin1 10 = .ok (.ifCond .ne 7, 3) := by decide +kernel
theorem jd_isLatin1_13 : decode jc_isLatin1 13 = .ok (.iconst 1, 1) := by decide +kernel
theorem jd_isLatin1_14 : decode jc_isLatin1 14 = .ok (.goto 4, 3) := by decide +kernel
theorem jd_isLatin1_17 : decode jc_isLatin1 17 = .ok (.iconst 0, 1) := by decide +kernel
theorem jd_isLatin1_18 : decode jc_isLatin1 18 = .ok (.ireturn, 1) := by decide +kernel
theorem jd_checkIndex_0 : decode jc_checkIndex 0 = .ok (.iload_n 0, 1) := by decide +kernel
theorem jd_checkIndex_1 : decode jc_checkIndex 1 = .ok (.iload_n 1, 1) := by decide +kernel
theorem jd_checkIndex_2 : decode jc_checkIndex 2 = .ok (.getstatic 1053, 3) := by decide +kernel
theorem jd_checkIndex_5 : decode jc_checkIndex 5 = .ok (.invokestatic 1059, 3) := by decide +kernel
theorem jd_checkIndex_8 : decode jc_checkIndex 8 = .ok (.pop, 1) := by decide +kernel
theorem jd_checkIndex_9 : decode jc_checkIndex 9 = .ok (.return_, 1) := by decide +kernel
theorem jd_lcharAt_0 : decode jc_lcharAt 0 = .ok (.iload_n 1, 1) := by decide +kernel
theorem jd_lcharAt_1 : decode jc_lcharAt 1 = .ok (.aload_n 0, 1) := by decide +kernel
theorem jd_lcharAt_2 : decode jc_lcharAt 2 = .ok (.arraylength, 1) := by decide +kernel
theorem jd_lcharAt_3 : decode jc_lcharAt 3 = .ok (.invokestatic 9, 3) := by decide +kernel
theorem jd_lcharAt_6 : decode jc_lcharAt 6 = .ok (.aload_n 0, 1) := by decide +kernel
theorem jd_lcharAt_7 : decode jc_lcharAt 7 = .ok (.iload_n 1, 1) := by decide +kernel
theorem jd_lcharAt_8 : decode jc_lcharAt 8 = .ok (.baload, 1) := by decide +kernel
theorem jd_lcharAt_9 : decode jc_lcharAt 9 = .ok (.sipush 255, 3) := by decide +kernel
theorem jd_lcharAt_12 : decode jc_lcharAt 12 = .ok (.iand, 1) := by decide +kernel
theorem jd_lcharAt_13 : decode jc_lcharAt 13 = .ok (.i2c, 1) := by decide +kernel
theorem jd_lcharAt_14 : decode jc_lcharAt 14 = .ok (.ireturn, 1) := by decide +kernel
theorem jd_pcheck_0 : decode jc_pcheck 0 = .ok (.iload_n 0, 1) := by decide +kernel
theorem jd_pcheck_1 : decode jc_pcheck 1 = .ok (.ifCond .lt 8, 3) := by decide +kernel
theorem jd_pcheck_4 : decode jc_pcheck 4 = .ok (.iload_n 0, 1) := by decide +kernel
theorem jd_pcheck_5 : decode jc_pcheck 5 = .ok (.iload_n 1, 1) := by decide +kernel
theorem jd_pcheck_6 : decode jc_pcheck 6 = .ok (.if_icmp .lt 10, 3) := by decide +kernel
theorem jd_pcheck_9 : decode jc_pcheck 9 = .ok (.aload_n 2, 1) := by decide +kernel
theorem jd_pcheck_10 : decode jc_pcheck 10 = .ok (.iload_n 0, 1) := by decide +kernel
theorem jd_pcheck_11 : decode jc_pcheck 11 = .ok (.iload_n 1, 1) := by decide +kernel
theorem jd_pcheck_12 : decode jc_pcheck 12 = .ok (.invokestatic 95, 3) := by decide +kernel
theorem jd_pcheck_15 : decode jc_pcheck 15 = .ok (.athrow, 1) := by decide +kernel
theorem jd_pcheck_16 : decode jc_pcheck 16 = .ok (.iload_n 0, 1) := by decide +kernel
theorem jd_pcheck_17 : decode jc_pcheck 17 = .ok (.ireturn, 1) := by decide +kernel
theorem jw_code_coder : (Cond.code jy_coder jc_coder 1 (some .byte)) ∈ lwG := tix_in (q := (4, 152)) rfl rfl
theorem jw_code_length : (Cond.code jy_length jc_length 1 (some .int)) ∈ lwG := tix_in (q := (4, 148)) rfl rfl
theorem jw_code_isLatin1 : (Cond.code jy_isLatin1 jc_isLatin1 1 (some .boolean)) ∈ lwG := tix_in (q := (4, 162)) rfl rfl
theorem jw_code_checkIndex : (Cond.code jy_checkIndex jc_checkIndex 2 none) ∈ lwG := tix_in (q := (4, 168)) rfl rfl
theorem jw_code_charAt : (Cond.code jy_charAt jc_charAt 2 (some .char)) ∈ lwG := tix_in (q := (4, 158)) rfl rfl
theorem jw_code_lcharAt : (Cond.code jy_lcharAt jc_lcharAt 2 (some .char)) ∈ lwG := tix_in (q := (4, 165)) rfl rfl
theorem jw_code_pcheck : (Cond.code jy_pcheck jc_pcheck 3 (some .int)) ∈ lwG := tix_in (q := (4, 173)) rfl rfl
theorem jw_code_ordinal : (Cond.code jy_ordinal jc_ordinal 1 (some .int)) ∈ lwG := tix_in (q := (4, 210)) rfl rfl
theorem jw_inst_coder : (Cond.instanceMethod jy_coder) ∈ lwG := tix_in (q := (4, 150)) rfl rfl
theorem jw_inst_length : (Cond.instanceMethod jy_length) ∈ lwG := tix_in (q := (4, 146)) rfl rfl
theorem jw_inst_isLatin1 : (Cond.instanceMethod jy_isLatin1) ∈ lwG := tix_in (q := (4, 160)) rfl rfl
theorem jw_inst_charAt : (Cond.instanceMethod jy_charAt) ∈ lwG := tix_in (q := (4, 156)) rfl rfl
theorem jw_inst_ordinal : (Cond.instanceMethod jy_ordinal) ∈ lwG := tix_in (q := (4, 209)) rfl rfl
theorem jw_sel_coder : (Cond.selects "java/lang/String" jy_coder jy_coder) ∈ lwG := tix_in (q := (4, 151)) rfl rfl
theorem jw_sel_length : (Cond.selects "java/lang/String" jy_length jy_length) ∈ lwG := tix_in (q := (4, 147)) rfl rfl
theorem jw_sel_isLatin1 : (Cond.selects "java/lang/String" jy_isLatin1 jy_isLatin1) ∈ lwG := tix_in (q := (4, 161)) rfl rfl
theorem jw_sel_charAt : (Cond.selects "java/lang/String" jy_charAt jy_charAt) ∈ lwG := tix_in (q := (4, 157)) rfl rfl
theorem jw_stat_checkIndex : (Cond.static jy_checkIndex) ∈ lwG := tix_in (q := (4, 167)) rfl rfl
theorem jw_stat_lcharAt : (Cond.static jy_lcharAt) ∈ lwG := tix_in (q := (4, 164)) rfl rfl
theorem jw_stat_pcheck : (Cond.static jy_pcheck) ∈ lwG := tix_in (q := (4, 172)) rfl rfl
theorem jw_ini_S : (Cond.initialized "java/lang/String") ∈ lwG := tix_in (q := (1, 18)) rfl rfl
theorem jw_ini_L1 : (Cond.initialized "java/lang/StringLatin1") ∈ lwG := tix_in (q := (1, 19)) rfl rfl
theorem jw_ini_PC : (Cond.initialized "jdk/internal/util/Preconditions") ∈ lwG := tix_in (q := (1, 20)) rfl rfl
theorem jw_ini_EN : (Cond.initialized "java/lang/Enum") ∈ lwG := tix_in (q := (1, 23)) rfl rfl
theorem jw_ml_coder : (Cond.methodLink "java/lang/String" 335 jy_coder) ∈ lwG := tix_in (q := (4, 149)) rfl rfl
theorem jw_ml_isLatin1 : (Cond.methodLink "java/lang/String" 492 jy_isLatin1) ∈ lwG := tix_in (q := (4, 159)) rfl rfl
theorem jw_ml_lcharAt : (Cond.methodLink "java/lang/String" 495 jy_lcharAt) ∈ lwG := tix_in (q := (4, 163)) rfl rfl
theorem jw_ml_checkIndex : (Cond.methodLink "java/lang/StringLatin1" 9 jy_checkIndex) ∈ lwG := tix_in (q := (4, 166)) rfl rfl
theorem jw_ml_pcheck : (Cond.methodLink "java/lang/String" 1059 jy_pcheck) ∈ lwG := tix_in (q := (4, 171)) rfl rfl
theorem jw_fl_cs : (Cond.fieldLink "java/lang/String" 38 "java/lang/String" "COMPACT_STRINGS" "Z") ∈ lwG := tix_in (q := (4, 153)) rfl rfl
theorem jw_fl_coderf : (Cond.fieldLink "java/lang/String" 15 "java/lang/String" "coder" "B") ∈ lwG := tix_in (q := (4, 230)) rfl rfl
theorem jw_fl_value : (Cond.fieldLink "java/lang/String" 9 "java/lang/String" "value" "[B") ∈ lwG := tix_in (q := (4, 229)) rfl rfl
theorem jw_fl_fmt : (Cond.fieldLink "java/lang/String" 1053 "jdk/internal/util/Preconditions" "SIOOBE_FORMATTER" "Ljava/util/function/BiFunction;") ∈ lwG := tix_in (q := (4, 169)) rfl rfl
theorem jw_fl_ordf : (Cond.fieldLink "java/lang/Enum" 7 "java/lang/Enum" "ordinal" "I") ∈ lwG := tix_in (q := (4, 232)) rfl rfl
theorem jw_ml_X10_361 : (Cond.methodLink "OrganCorners" 361 jy_kord) ∈ lwG := tix_in (q := (4, 205)) rfl rfl
theorem jw_ml_X2_45 : (Cond.methodLink "OrganCorners$OrderKind" 45 jy_length) ∈ lwG := tix_in (q := (4, 145)) rfl rfl
theorem jw_ml_X2_51 : (Cond.methodLink "OrganCorners$OrderKind" 51 jy_charAt) ∈ lwG := tix_in (q := (4, 155)) rfl rfl
theorem jw_same : (Cond.sameMethod "OrganCorners$OrderKind" "java/lang/Enum" "ordinal" "()I") ∈ lwG := tix_in (q := (4, 206)) rfl rfl
theorem jw_sel_ord : (Cond.selects "OrganCorners$OrderKind" jy_kord jy_ordinal) ∈ lwG := tix_in (q := (4, 208)) rfl rfl
end JDK
