/-! SMALL METHODS OF THE JDK, by contract (words by wip/whole/genjdk.py) -/
section JDK
def jy_coder : MethodName := ⟨"java/lang/String", "coder", "()B"⟩
def jy_length : MethodName := ⟨"java/lang/String", "length", "()I"⟩
def jy_isLatin1 : MethodName := ⟨"java/lang/String", "isLatin1", "()Z"⟩
def jy_checkIndex : MethodName := ⟨"java/lang/String", "checkIndex", "(II)V"⟩
def jy_charAt : MethodName := ⟨"java/lang/String", "charAt", "(I)C"⟩
def jy_lcharAt : MethodName := ⟨"java/lang/StringLatin1", "charAt", "([BI)C"⟩
def jy_pcheck : MethodName := ⟨"jdk/internal/util/Preconditions", "checkIndex", "(IILjava/util/function/BiFunction;)I"⟩
def jy_isNaN : MethodName := ⟨"java/lang/Double", "isNaN", "(D)Z"⟩
def jy_dtl : MethodName := ⟨"java/lang/Double", "doubleToLongBits", "(D)J"⟩
def jy_raw : MethodName := ⟨"java/lang/Double", "doubleToRawLongBits", "(D)J"⟩
def jy_ordinal : MethodName := ⟨"java/lang/Enum", "ordinal", "()I"⟩
def jy_kord : MethodName := ⟨"OrganCorners$OrderKind", "ordinal", "()I"⟩
abbrev jc_coder : ByteArray := prog_22_method_152_code
abbrev jc_length : ByteArray := prog_22_method_54_code
abbrev jc_isLatin1 : ByteArray := prog_22_method_154_code
abbrev jc_checkIndex : ByteArray := prog_22_method_155_code
abbrev jc_charAt : ByteArray := prog_22_method_56_code
abbrev jc_lcharAt : ByteArray := prog_23_method_2_code
abbrev jc_pcheck : ByteArray := prog_27_method_11_code
abbrev jc_isNaN : ByteArray := prog_14_method_6_code
abbrev jc_dtl : ByteArray := prog_14_method_23_code
abbrev jc_ordinal : ByteArray := prog_15_method_2_code
theorem jd_isNaN_0 : decode jc_isNaN 0 = .ok (.dload_n 0, 1) := by decide +kernel
theorem jd_isNaN_1 : decode jc_isNaN 1 = .ok (.dload_n 0, 1) := by decide +kernel
theorem jd_isNaN_2 : decode jc_isNaN 2 = .ok (.dcmp .l, 1) := by decide +kernel
theorem jd_isNaN_3 : decode jc_isNaN 3 = .ok (.ifCond .eq 7, 3) := by decide +kernel
theorem jd_isNaN_6 : decode jc_isNaN 6 = .ok (.iconst 1, 1) := by decide +kernel
theorem jd_isNaN_7 : decode jc_isNaN 7 = .ok (.goto 4, 3) := by decide +kernel
theorem jd_isNaN_10 : decode jc_isNaN 10 = .ok (.iconst 0, 1) := by decide +kernel
theorem jd_isNaN_11 : decode jc_isNaN 11 = .ok (.ireturn, 1) := by decide +kernel
theorem jd_dtl_0 : decode jc_dtl 0 = .ok (.dload_n 0, 1) := by decide +kernel
theorem jd_dtl_1 : decode jc_dtl 1 = .ok (.invokestatic 122, 3) := by decide +kernel
theorem jd_dtl_4 : decode jc_dtl 4 = .ok (.ifCond .ne 8, 3) := by decide +kernel
theorem jd_dtl_7 : decode jc_dtl 7 = .ok (.dload_n 0, 1) := by decide +kernel
theorem jd_dtl_8 : decode jc_dtl 8 = .ok (.invokestatic 134, 3) := by decide +kernel
theorem jd_dtl_11 : decode jc_dtl 11 = .ok (.lreturn, 1) := by decide +kernel
theorem jd_dtl_12 : decode jc_dtl 12 = .ok (.ldc2_w 137, 3) := by decide +kernel
theorem jd_dtl_15 : decode jc_dtl 15 = .ok (.lreturn, 1) := by decide +kernel
theorem jd_ordinal_0 : decode jc_ordinal 0 = .ok (.aload_n 0, 1) := by decide +kernel
theorem jd_ordinal_1 : decode jc_ordinal 1 = .ok (.getfield 7, 3) := by decide +kernel
theorem jd_ordinal_4 : decode jc_ordinal 4 = .ok (.ireturn, 1) := by decide +kernel
theorem jd_length_0 : decode jc_length 0 = .ok (.aload_n 0, 1) := by decide +kernel
theorem jd_length_1 : decode jc_length 1 = .ok (.getfield 9, 3) := by decide +kernel
theorem jd_length_4 : decode jc_length 4 = .ok (.arraylength, 1) := by decide +kernel
theorem jd_length_5 : decode jc_length 5 = .ok (.aload_n 0, 1) := by decide +kernel
theorem jd_length_6 : decode jc_length 6 = .ok (.invokevirtual 335, 3) := by decide +kernel
theorem jd_length_9 : decode jc_length 9 = .ok (.ishr, 1) := by decide +kernel
theorem jd_length_10 : decode jc_length 10 = .ok (.ireturn, 1) := by decide +kernel
theorem jd_charAt_0 : decode jc_charAt 0 = .ok (.aload_n 0, 1) := by decide +kernel
theorem jd_charAt_1 : decode jc_charAt 1 = .ok (.invokevirtual 492, 3) := by decide +kernel
theorem jd_charAt_4 : decode jc_charAt 4 = .ok (.ifCond .eq 12, 3) := by decide +kernel
theorem jd_charAt_7 : decode jc_charAt 7 = .ok (.aload_n 0, 1) := by decide +kernel
theorem jd_charAt_8 : decode jc_charAt 8 = .ok (.getfield 9, 3) := by decide +kernel
theorem jd_charAt_11 : decode jc_charAt 11 = .ok (.iload_n 1, 1) := by decide +kernel
theorem jd_charAt_12 : decode jc_charAt 12 = .ok (.invokestatic 495, 3) := by decide +kernel
theorem jd_charAt_15 : decode jc_charAt 15 = .ok (.ireturn, 1) := by decide +kernel
theorem jd_charAt_16 : decode jc_charAt 16 = .ok (.aload_n 0, 1) := by decide +kernel
theorem jd_charAt_17 : decode jc_charAt 17 = .ok (.getfield 9, 3) := by decide +kernel
theorem jd_charAt_20 : decode jc_charAt 20 = .ok (.iload_n 1, 1) := by decide +kernel
theorem jd_charAt_21 : decode jc_charAt 21 = .ok (.invokestatic 498, 3) := by decide +kernel
theorem jd_charAt_24 : decode jc_charAt 24 = .ok (.ireturn, 1) := by decide +kernel
theorem jd_coder_0 : decode jc_coder 0 = .ok (.getstatic 38, 3) := by decide +kernel
theorem jd_coder_3 : decode jc_coder 3 = .ok (.ifCond .eq 10, 3) := by decide +kernel
theorem jd_coder_6 : decode jc_coder 6 = .ok (.aload_n 0, 1) := by decide +kernel
theorem jd_coder_7 : decode jc_coder 7 = .ok (.getfield 15, 3) := by decide +kernel
theorem jd_coder_10 : decode jc_coder 10 = .ok (.goto 4, 3) := by decide +kernel
theorem jd_coder_13 : decode jc_coder 13 = .ok (.iconst 1, 1) := by decide +kernel
theorem jd_coder_14 : decode jc_coder 14 = .ok (.ireturn, 1) := by decide +kernel
theorem jd_isLatin1_0 : decode jc_isLatin1 0 = .ok (.getstatic 38, 3) := by decide +kernel
theorem jd_isLatin1_3 : decode jc_isLatin1 3 = .ok (.ifCond .eq 14, 3) := by decide +kernel
theorem jd_isLatin1_6 : decode jc_isLatin1 6 = .ok (.aload_n 0, 1) := by decide +kernel
theorem jd_isLatin1_7 : decode jc_isLatin1 7 = .ok (.getfield 15, 3) := by decide +kernel
theorem jd_isLatin1_10 : decode jc_isLatin1 10 = .ok (.ifCond .ne 7, 3) := by decide +kernel
theorem jd_isLatin1_13 : decode jc_isLatin1 13 = .ok (.iconst 1, 1) := by decide +kernel
theorem jd_isLatin1_14 : decode jc_isLatin1 14 = .ok (.goto 4, 3) := by decide +kernel
theorem jd_isLatin1_17 : decode jc_isLatin1 17 = .ok (.iconst 0, 1) := by decide +kernel
theorem jd_isLatin1_18 : decode jc_isLatin1 18 = .ok (.ireturn, 1) := by decide +kernel
theorem jd_checkIndex_0 : decode jc_checkIndex 0 = .ok (.iload_n 0, 1) := by decide +kernel
theorem jd_checkIndex_1 : decode jc_checkIndex 1 = .ok (.iload_n 1, 1) := by decide +kernel
theorem jd_checkIndex_2 : decode jc_checkIndex 2 = .ok (.getstatic 1053, 3) := by decide +kernel
theorem jd_checkIndex_5 : decode jc_checkIndex 5 = .ok (.invokestatic 1059, 3) := by decide +kernel
theorem jd_checkIndex_8 : decode jc_checkIndex 8 = .ok (.pop, 1) := by decide +kernel
theorem jd_checkIndex_9 : decode jc_checkIndex 9 = .ok (.return_, 1) := by decide +kernel
theorem jd_lcharAt_0 : decode jc_lcharAt 0 = .ok (.iload_n 1, 1) := by decide +kernel
theorem jd_lcharAt_1 : decode jc_lcharAt 1 = .ok (.aload_n 0, 1) := by decide +kernel
theorem jd_lcharAt_2 : decode jc_lcharAt 2 = .ok (.arraylength, 1) := by decide +kernel
theorem jd_lcharAt_3 : decode jc_lcharAt 3 = .ok (.invokestatic 9, 3) := by decide +kernel
theorem jd_lcharAt_6 : decode jc_lcharAt 6 = .ok (.aload_n 0, 1) := by decide +kernel
theorem jd_lcharAt_7 : decode jc_lcharAt 7 = .ok (.iload_n 1, 1) := by decide +kernel
theorem jd_lcharAt_8 : decode jc_lcharAt 8 = .ok (.baload, 1) := by decide +kernel
theorem jd_lcharAt_9 : decode jc_lcharAt 9 = .ok (.sipush 255, 3) := by decide +kernel
theorem jd_lcharAt_12 : decode jc_lcharAt 12 = .ok (.iand, 1) := by decide +kernel
theorem jd_lcharAt_13 : decode jc_lcharAt 13 = .ok (.i2c, 1) := by decide +kernel
theorem jd_lcharAt_14 : decode jc_lcharAt 14 = .ok (.ireturn, 1) := by decide +kernel
theorem jd_pcheck_0 : decode jc_pcheck 0 = .ok (.iload_n 0, 1) := by decide +kernel
theorem jd_pcheck_1 : decode jc_pcheck 1 = .ok (.ifCond .lt 8, 3) := by decide +kernel
theorem jd_pcheck_4 : decode jc_pcheck 4 = .ok (.iload_n 0, 1) := by decide +kernel
theorem jd_pcheck_5 : decode jc_pcheck 5 = .ok (.iload_n 1, 1) := by decide +kernel
theorem jd_pcheck_6 : decode jc_pcheck 6 = .ok (.if_icmp .lt 10, 3) := by decide +kernel
theorem jd_pcheck_9 : decode jc_pcheck 9 = .ok (.aload_n 2, 1) := by decide +kernel
theorem jd_pcheck_10 : decode jc_pcheck 10 = .ok (.iload_n 0, 1) := by decide +kernel
theorem jd_pcheck_11 : decode jc_pcheck 11 = .ok (.iload_n 1, 1) := by decide +kernel
theorem jd_pcheck_12 : decode jc_pcheck 12 = .ok (.invokestatic 95, 3) := by decide +kernel
theorem jd_pcheck_15 : decode jc_pcheck 15 = .ok (.athrow, 1) := by decide +kernel
theorem jd_pcheck_16 : decode jc_pcheck 16 = .ok (.iload_n 0, 1) := by decide +kernel
theorem jd_pcheck_17 : decode jc_pcheck 17 = .ok (.ireturn, 1) := by decide +kernel
theorem jw_code_coder : (Cond.code jy_coder jc_coder 1 (some .byte)) ∈ lwG := tix_in (q := (2, 182)) rfl rfl
theorem jw_code_length : (Cond.code jy_length jc_length 1 (some .int)) ∈ lwG := tix_in (q := (2, 178)) rfl rfl
theorem jw_code_isLatin1 : (Cond.code jy_isLatin1 jc_isLatin1 1 (some .boolean)) ∈ lwG := tix_in (q := (2, 192)) rfl rfl
theorem jw_code_checkIndex : (Cond.code jy_checkIndex jc_checkIndex 2 none) ∈ lwG := tix_in (q := (2, 198)) rfl rfl
theorem jw_code_charAt : (Cond.code jy_charAt jc_charAt 2 (some .char)) ∈ lwG := tix_in (q := (2, 188)) rfl rfl
theorem jw_code_lcharAt : (Cond.code jy_lcharAt jc_lcharAt 2 (some .char)) ∈ lwG := tix_in (q := (2, 195)) rfl rfl
theorem jw_code_pcheck : (Cond.code jy_pcheck jc_pcheck 3 (some .int)) ∈ lwG := tix_in (q := (2, 203)) rfl rfl
theorem jw_code_isNaN : (Cond.code jy_isNaN jc_isNaN 2 (some .boolean)) ∈ lwG := tix_in (q := (7, 14)) rfl rfl
theorem jw_code_dtl : (Cond.code jy_dtl jc_dtl 2 (some .long)) ∈ lwG := tix_in (q := (7, 11)) rfl rfl
theorem jw_code_ordinal : (Cond.code jy_ordinal jc_ordinal 1 (some .int)) ∈ lwG := tix_in (q := (4, 214)) rfl rfl
theorem jw_inst_coder : (Cond.instanceMethod jy_coder) ∈ lwG := tix_in (q := (2, 180)) rfl rfl
theorem jw_inst_length : (Cond.instanceMethod jy_length) ∈ lwG := tix_in (q := (2, 176)) rfl rfl
theorem jw_inst_isLatin1 : (Cond.instanceMethod jy_isLatin1) ∈ lwG := tix_in (q := (2, 190)) rfl rfl
theorem jw_inst_charAt : (Cond.instanceMethod jy_charAt) ∈ lwG := tix_in (q := (2, 186)) rfl rfl
theorem jw_inst_ordinal : (Cond.instanceMethod jy_ordinal) ∈ lwG := tix_in (q := (4, 213)) rfl rfl
theorem jw_sel_coder : (Cond.selects "java/lang/String" jy_coder jy_coder) ∈ lwG := tix_in (q := (2, 181)) rfl rfl
theorem jw_sel_length : (Cond.selects "java/lang/String" jy_length jy_length) ∈ lwG := tix_in (q := (2, 177)) rfl rfl
theorem jw_sel_isLatin1 : (Cond.selects "java/lang/String" jy_isLatin1 jy_isLatin1) ∈ lwG := tix_in (q := (2, 191)) rfl rfl
theorem jw_sel_charAt : (Cond.selects "java/lang/String" jy_charAt jy_charAt) ∈ lwG := tix_in (q := (2, 187)) rfl rfl
theorem jw_stat_checkIndex : (Cond.static jy_checkIndex) ∈ lwG := tix_in (q := (2, 197)) rfl rfl
theorem jw_stat_lcharAt : (Cond.static jy_lcharAt) ∈ lwG := tix_in (q := (2, 194)) rfl rfl
theorem jw_stat_pcheck : (Cond.static jy_pcheck) ∈ lwG := tix_in (q := (2, 202)) rfl rfl
theorem jw_stat_isNaN : (Cond.static jy_isNaN) ∈ lwG := tix_in (q := (7, 13)) rfl rfl
theorem jw_stat_dtl : (Cond.static jy_dtl) ∈ lwG := tix_in (q := (7, 10)) rfl rfl
theorem jw_stat_raw : (Cond.static jy_raw) ∈ lwG := tix_in (q := (7, 16)) rfl rfl
theorem jw_nat_raw : (Cond.native jy_raw) ∈ lwG := tix_in (q := (7, 17)) rfl rfl
theorem jw_ini_S : (Cond.initialized "java/lang/String") ∈ lwG := tix_in (q := (1, 19)) rfl rfl
theorem jw_ini_L1 : (Cond.initialized "java/lang/StringLatin1") ∈ lwG := tix_in (q := (1, 20)) rfl rfl
theorem jw_ini_PC : (Cond.initialized "jdk/internal/util/Preconditions") ∈ lwG := tix_in (q := (1, 21)) rfl rfl
theorem jw_ini_D : (Cond.initialized "java/lang/Double") ∈ lwG := tix_in (q := (1, 26)) rfl rfl
theorem jw_ini_EN : (Cond.initialized "java/lang/Enum") ∈ lwG := tix_in (q := (1, 24)) rfl rfl
theorem jw_ml_coder : (Cond.methodLink "java/lang/String" 335 jy_coder) ∈ lwG := tix_in (q := (2, 179)) rfl rfl
theorem jw_ml_isLatin1 : (Cond.methodLink "java/lang/String" 492 jy_isLatin1) ∈ lwG := tix_in (q := (2, 189)) rfl rfl
theorem jw_ml_lcharAt : (Cond.methodLink "java/lang/String" 495 jy_lcharAt) ∈ lwG := tix_in (q := (2, 193)) rfl rfl
theorem jw_ml_checkIndex : (Cond.methodLink "java/lang/StringLatin1" 9 jy_checkIndex) ∈ lwG := tix_in (q := (2, 196)) rfl rfl
theorem jw_ml_pcheck : (Cond.methodLink "java/lang/String" 1059 jy_pcheck) ∈ lwG := tix_in (q := (2, 201)) rfl rfl
theorem jw_ml_isNaN : (Cond.methodLink "java/lang/Double" 122 jy_isNaN) ∈ lwG := tix_in (q := (7, 12)) rfl rfl
theorem jw_ml_raw : (Cond.methodLink "java/lang/Double" 134 jy_raw) ∈ lwG := tix_in (q := (7, 15)) rfl rfl
theorem jw_fl_cs : (Cond.fieldLink "java/lang/String" 38 "java/lang/String" "COMPACT_STRINGS" "Z") ∈ lwG := tix_in (q := (2, 183)) rfl rfl
theorem jw_fl_coderf : (Cond.fieldLink "java/lang/String" 15 "java/lang/String" "coder" "B") ∈ lwG := tix_in (q := (7, 23)) rfl rfl
theorem jw_fl_value : (Cond.fieldLink "java/lang/String" 9 "java/lang/String" "value" "[B") ∈ lwG := tix_in (q := (7, 22)) rfl rfl
theorem jw_fl_fmt : (Cond.fieldLink "java/lang/String" 1053 "jdk/internal/util/Preconditions" "SIOOBE_FORMATTER" "Ljava/util/function/BiFunction;") ∈ lwG := tix_in (q := (2, 199)) rfl rfl
theorem jw_fl_ordf : (Cond.fieldLink "java/lang/Enum" 7 "java/lang/Enum" "ordinal" "I") ∈ lwG := tix_in (q := (7, 25)) rfl rfl
theorem jw_cl_nan : (Cond.constantLong "java/lang/Double" 137 9221120237041090560) ∈ lwG := tix_in (q := (7, 18)) rfl rfl
theorem jw_ml_X10_361 : (Cond.methodLink "OrganCorners" 361 jy_kord) ∈ lwG := tix_in (q := (4, 209)) rfl rfl
theorem jw_ml_X11_283 : (Cond.methodLink "OrganCornersModel" 283 jy_dtl) ∈ lwG := tix_in (q := (7, 9)) rfl rfl
theorem jw_ml_X2_45 : (Cond.methodLink "OrganCorners$OrderKind" 45 jy_length) ∈ lwG := tix_in (q := (2, 175)) rfl rfl
theorem jw_ml_X2_51 : (Cond.methodLink "OrganCorners$OrderKind" 51 jy_charAt) ∈ lwG := tix_in (q := (2, 185)) rfl rfl
theorem jw_same : (Cond.sameMethod "OrganCorners$OrderKind" "java/lang/Enum" "ordinal" "()I") ∈ lwG := tix_in (q := (4, 210)) rfl rfl
theorem jw_sel_ord : (Cond.selects "OrganCorners$OrderKind" jy_kord jy_ordinal) ∈ lwG := tix_in (q := (4, 212)) rfl rfl
end JDK
