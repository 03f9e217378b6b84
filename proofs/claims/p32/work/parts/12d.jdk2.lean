/-! SMALL METHODS OF THE JDK: each -/
section JDKD
variable {l : Launch} {N0 : Nat} {L : Nat → Nat}
abbrev jT : State → Prop := fun _ => True
theorem jT_call (U : State) (g : JFrame) (mk : MethodId) (a : Array Value) (_ : jT U) : jT (U.calling g mk a) := trivial
theorem c_coder {i : Nat} (hi : i < 10) : jM l N0 L jy_coder jc_coder 1 (some .byte) 0 jT [.ref (L (420 + i))] (some (.int 0)) := by
  refine j_of (by decide) ?_
  intro p e s m args below meth c hx hb hml hr hlocks hown hts hF _ _
  obtain ⟨v, f1, f2, f3, f4⟩ := hF.2.1.2.1 i hi
  have hS : va_S (jA N0) s.heap s.heap [] := va_S.rf
  have hl := lv_entry ([.ref (L (420 + i))]) (n := 1) (Nat.le_of_ble_eq_true rfl)
  rw [lg_entry_eq]
  generalize (lg_sl ([.ref (L (420 + i))]) ++ List.replicate (1 - (lg_sl ([.ref (L (420 + i))])).length) Slot.unset).toArray = ls at hl ⊢
  have hl : lv_has ls 1 [(0, .ref (L (420 + i)))] := hl
  refine va_gets hx hb hF.2.1.2.2.1 hS hown (hts _ jw_fl_cs) (fun _ h9 => h9) jd_coder_0 ?_
  refine lv_if_eq_f hx hb jd_coder_3 (by decide) ?_
  refine lv_aload_n hx hb jd_coder_6 rfl (lv_at hl 0 rfl) ?_
  refine vk_getf hx hb f2 hS hown (hts _ jw_fl_coderf) (fun _ h9 => h9) jd_coder_7 ?_
  refine lv_goto (tgt := 14) hx hb jd_coder_10 (by decide) ?_
  exact W.zret hx hb hr (by decide) (fun t ht hW => ⟨rfl, jEnd ht⟩) (fun q h => jF0 h) jd_coder_14
theorem c_isLatin1 {i : Nat} (hi : i < 10) : jM l N0 L jy_isLatin1 jc_isLatin1 1 (some .boolean) 0 jT [.ref (L (420 + i))] (some (.int 1)) := by
  refine j_of (by decide) ?_
  intro p e s m args below meth c hx hb hml hr hlocks hown hts hF _ _
  obtain ⟨v, f1, f2, f3, f4⟩ := hF.2.1.2.1 i hi
  have hS : va_S (jA N0) s.heap s.heap [] := va_S.rf
  have hl := lv_entry ([.ref (L (420 + i))]) (n := 1) (Nat.le_of_ble_eq_true rfl)
  rw [lg_entry_eq]
  generalize (lg_sl ([.ref (L (420 + i))]) ++ List.replicate (1 - (lg_sl ([.ref (L (420 + i))])).length) Slot.unset).toArray = ls at hl ⊢
  have hl : lv_has ls 1 [(0, .ref (L (420 + i)))] := hl
  refine va_gets hx hb hF.2.1.2.2.1 hS hown (hts _ jw_fl_cs) (fun _ h9 => h9) jd_isLatin1_0 ?_
  refine lv_if_eq_f hx hb jd_isLatin1_3 (by decide) ?_
  refine lv_aload_n hx hb jd_isLatin1_6 rfl (lv_at hl 0 rfl) ?_
  refine vk_getf hx hb f2 hS hown (hts _ jw_fl_coderf) (fun _ h9 => h9) jd_isLatin1_7 ?_
  refine lv_if_ne_f hx hb jd_isLatin1_10 (by decide) ?_
  refine lv_iconst (v := 1) hx hb jd_isLatin1_13 (by decide) ?_
  refine lv_goto (tgt := 18) hx hb jd_isLatin1_14 (by decide) ?_
  exact W.zret hx hb hr (by decide) (fun t ht hW => ⟨rfl, jEnd ht⟩) (fun q h => jF0 h) jd_isLatin1_18
theorem c_length {i : Nat} (hi : i < 10) : jM l N0 L jy_length jc_length 1 (some .int) 1 jT [.ref (L (420 + i))] (some (.int (strLen (420 + i)))) := by
  refine j_of (by decide) ?_
  intro p e s m args below meth c hx hb hml hr hlocks hown hts hF _ _
  obtain ⟨v, f1, f2, f3, f4⟩ := hF.2.1.2.1 i hi
  have hS : va_S (jA N0) s.heap s.heap [] := va_S.rf
  have hl := lv_entry ([.ref (L (420 + i))]) (n := 1) (Nat.le_of_ble_eq_true rfl)
  rw [lg_entry_eq]
  generalize (lg_sl ([.ref (L (420 + i))]) ++ List.replicate (1 - (lg_sl ([.ref (L (420 + i))])).length) Slot.unset).toArray = ls at hl ⊢
  have hl : lv_has ls 1 [(0, .ref (L (420 + i)))] := hl
  have hsz : c.maxLocals = ls.size := by rw [hml]; exact hl.1.symm
  refine lv_aload_n hx hb jd_length_0 rfl (lv_at hl 0 rfl) ?_
  refine vk_getf hx hb f3 hS hown (hts _ jw_fl_value) (fun _ h9 => h9) jd_length_1 ?_
  refine va_tlen hx hb f4 hS rfl jd_length_4 ?_
  refine lv_aload_n hx hb jd_length_5 rfl (lv_at hl 0 rfl) ?_
  refine j_V (n := 0) (k := 0) (maxL := 1) (C := "java/lang/String") (As := []) (b := L (420 + i)) hx hb hsz hown hts hF hS (c_coder hi) f1 jT_call (fun _ _ _ => trivial) jw_ml_coder jw_inst_coder jw_sel_coder jw_ini_S jw_code_coder ⟨rfl, by decide, by decide, by decide +kernel⟩ rfl (Nat.le_refl _) (by decide) (Nat.le_refl _) (Nat.le_refl _) rfl (Nat.le_of_ble_eq_true rfl) jd_length_6 (fun H1 hz hk => ?_)
  refine lv_ishr hx hb jd_length_9 ?_
  have e9 : ((Int32.ofNat (strs.getD i []).length) >>> ((0 : Int32) &&& 31)) = strLen (420 + i) := by
    unfold strLen
    rw [show 420 + i - 420 = i by omega]
    exact (by decide +kernel : ∀ i, i < 10 → ((Int32.ofNat (strs.getD i []).length) >>> ((0 : Int32) &&& 31)) = Int32.ofNat (strs.getD i []).length) i hi
  rw [e9]
  exact W.iret hx hb hr (fun t ht hW => ⟨rfl, ⟨by rw [ht]; exact hz, fun q hq _ => by rw [ht]; exact hk q hq⟩⟩) (fun q h => jF0 h) jd_length_10
theorem c_pcheck {i n : Int32} {f : Value} (hf : f = .null ∨ ∃ t, f = .ref t) (h0 : ¬ i < 0) (hn : i < n) : jM l N0 L jy_pcheck jc_pcheck 3 (some .int) 0 jT [.int i, .int n, f] (some (.int i)) := by
  refine j_of (by decide) ?_
  intro p e s m args below meth c hx hb hml hr hlocks hown hts hF _ _
  have hw : (lg_sl ([.int i, .int n, f])).length ≤ 3 := by rcases hf with rfl | ⟨t, rfl⟩ <;> exact Nat.le_of_ble_eq_true rfl
  have hl := lv_entry ([.int i, .int n, f]) (n := 3) hw
  rw [lg_entry_eq]
  generalize (lg_sl ([.int i, .int n, f]) ++ List.replicate (3 - (lg_sl ([.int i, .int n, f])).length) Slot.unset).toArray = ls at hl ⊢
  have hl : lv_has ls 3 [(0, .int i), (1, .int n), (2, f)] := hl
  refine lv_iload_n hx hb jd_pcheck_0 rfl (lv_at hl 0 rfl) ?_
  refine lv_if_lt_f hx hb jd_pcheck_1 h0 ?_
  refine lv_iload_n hx hb jd_pcheck_4 rfl (lv_at hl 0 rfl) ?_
  refine lv_iload_n hx hb jd_pcheck_5 rfl (lv_at hl 1 rfl) ?_
  refine lv_icmp_lt (tgt := 16) hx hb jd_pcheck_6 (by decide) (fun _ => ?_) (fun q => absurd hn q)
  refine lv_iload_n hx hb jd_pcheck_16 rfl (lv_at hl 0 rfl) ?_
  exact W.iret hx hb hr (fun t ht hW => ⟨rfl, jEnd ht⟩) (fun q h => jF0 h) jd_pcheck_17
theorem c_checkIndex {i n : Int32} (h0 : ¬ i < 0) (hn : i < n) : jM l N0 L jy_checkIndex jc_checkIndex 2 none 1 jT [.int i, .int n] none := by
  refine j_of (by decide) ?_
  intro p e s m args below meth c hx hb hml hr hlocks hown hts hF _ _
  have hS : va_S (jA N0) s.heap s.heap [] := va_S.rf
  have hl := lv_entry ([.int i, .int n]) (n := 2) (Nat.le_of_ble_eq_true rfl)
  rw [lg_entry_eq]
  generalize (lg_sl ([.int i, .int n]) ++ List.replicate (2 - (lg_sl ([.int i, .int n])).length) Slot.unset).toArray = ls at hl ⊢
  have hl : lv_has ls 2 [(0, .int i), (1, .int n)] := hl
  have hsz : c.maxLocals = ls.size := by rw [hml]; exact hl.1.symm
  refine lv_iload_n hx hb jd_checkIndex_0 rfl (lv_at hl 0 rfl) ?_
  refine lv_iload_n hx hb jd_checkIndex_1 rfl (lv_at hl 1 rfl) ?_
  obtain ⟨f, hf, hZ⟩ : ∃ f : Value, (f = .null ∨ ∃ t, f = .ref t) ∧ va_Z "jdk/internal/util/Preconditions" "SIOOBE_FORMATTER" "Ljava/util/function/BiFunction;" f (jA N0) s s.heap := by
    rcases hF.2.1.2.2.2 with h | ⟨t, h⟩
    · exact ⟨_, Or.inl rfl, h⟩
    · exact ⟨_, Or.inr ⟨t, rfl⟩, h⟩
  refine va_gets hx hb hZ hS hown (hts _ jw_fl_fmt) (fun _ h9 => h9) jd_checkIndex_2 ?_
  refine j_S (n := 3) (k := 0) (maxL := 3) (As := [.int i, .int n, f]) (rest := []) hx hb hsz hown hts hF hS (c_pcheck hf h0 hn) jT_call (fun _ _ _ => trivial) jw_ml_pcheck jw_stat_pcheck jw_ini_PC jw_code_pcheck ⟨by decide, by decide, by decide +kernel⟩ rfl (Nat.le_refl _) (by decide) (Nat.le_refl _) (Nat.le_refl _) rfl (by decide) jd_checkIndex_5 (fun H1 hz hk => ?_)
  refine lv_pop hx hb jd_checkIndex_8 rfl ?_
  exact W.vret hx hb hr (fun t ht hW => ⟨rfl, ⟨by rw [ht]; exact hz, fun q hq _ => by rw [ht]; exact hk q hq⟩⟩) (fun q h => jF0 h) jd_checkIndex_9
/-- the bytes of a text are there -/
def jBy (N0 v i : Nat) : State → Prop := fun U => va_T .byte v (strs.getD i []).length (fun j => .int ((strs.getD i []).getD j 0)) (jA N0) U U.heap
theorem jBy_call {v i : Nat} (U : State) (g : JFrame) (mk : MethodId) (a : Array Value) (h : jBy N0 v i U) : jBy N0 v i (U.calling g mk a) := va_T.moved (U := U.calling g mk a) (State.WarmedH.refl U).alike h
theorem str_c : ∀ i, i < 10 → ∀ j, j < 4 → j < (strs.getD i []).length → (((strs.getD i []).getD j 0 &&& (Int16.ofInt 255).toInt32).toUInt32 % 65536).toInt32 = (strs.getD i []).getD j 0 ∧ narrow .char (.int ((strs.getD i []).getD j 0)) = .int ((strs.getD i []).getD j 0) := by decide +kernel
theorem str_l : ∀ i, i < 10 → (strs.getD i []).length ≤ 4 := by decide +kernel
theorem c_lcharAt {v i : Nat} (hi : i < 10) {k : Int32} (h0 : ¬ k < 0) (hk : k.toNatClampNeg < (strs.getD i []).length) : jM l N0 L jy_lcharAt jc_lcharAt 2 (some .char) 2 (jBy N0 v i) [.ref v, .int k] (some (.int (strAt (420 + i) k.toNatClampNeg))) := by
  refine j_of (by decide) ?_
  intro p e s m args below meth c hx hb hml hr hlocks hown hts hF f4 _
  have hS : va_S (jA N0) s.heap s.heap [] := va_S.rf
  have hl := lv_entry ([.ref v, .int k]) (n := 2) (Nat.le_of_ble_eq_true rfl)
  rw [lg_entry_eq]
  generalize (lg_sl ([.ref v, .int k]) ++ List.replicate (2 - (lg_sl ([.ref v, .int k])).length) Slot.unset).toArray = ls at hl ⊢
  have hl : lv_has ls 2 [(0, .ref v), (1, .int k)] := hl
  have hsz : c.maxLocals = ls.size := by rw [hml]; exact hl.1.symm
  have hlen := str_l i hi
  have hkl : k < Int32.ofNat (strs.getD i []).length := by
    rw [Int32.lt_iff_toInt_lt, show Int32.ofNat (strs.getD i []).length = nI (strs.getD i []).length from rfl, nI_toInt (by omega)]
    have : k.toNatClampNeg = k.toInt.toNat := rfl
    have h9 : ¬ k.toInt < 0 := fun q => h0 (Int32.lt_iff_toInt_lt.mpr q)
    omega
  refine lv_iload_n hx hb jd_lcharAt_0 rfl (lv_at hl 1 rfl) ?_
  refine lv_aload_n hx hb jd_lcharAt_1 rfl (lv_at hl 0 rfl) ?_
  refine va_tlen hx hb f4 hS rfl jd_lcharAt_2 ?_
  refine j_S (n := 2) (k := 1) (maxL := 2) (As := [.int k, .int (Int32.ofNat (strs.getD i []).length)]) (rest := []) hx hb hsz hown hts hF hS (c_checkIndex h0 hkl) jT_call (fun _ _ _ => trivial) jw_ml_checkIndex jw_stat_checkIndex jw_ini_S jw_code_checkIndex ⟨by decide, by decide, by decide +kernel⟩ rfl (Nat.le_refl _) (by decide) (Nat.le_refl _) (Nat.le_refl _) rfl (by decide) jd_lcharAt_3 (fun H1 hz hk1 => ?_)
  have hS1 := jS hS hz hk1
  refine lv_aload_n hx hb jd_lcharAt_6 rfl (lv_at hl 0 rfl) ?_
  refine lv_iload_n hx hb jd_lcharAt_7 rfl (lv_at hl 1 rfl) ?_
  refine va_tb hx hb f4 hS1 (fun q => by rcases q with q | q; exact h0 q; omega) rfl jd_lcharAt_8 ?_
  refine lv_sipush hx hb jd_lcharAt_9 rfl ?_
  refine lv_iand hx hb jd_lcharAt_12 ?_
  obtain ⟨g1, g2⟩ := str_c i hi k.toNatClampNeg (by omega) hk
  refine lv_i2c hx hb jd_lcharAt_13 g1 ?_
  have e9 : strAt (420 + i) k.toNatClampNeg = (strs.getD i []).getD k.toNatClampNeg 0 := by unfold strAt; rw [show 420 + i - 420 = i by omega]
  rw [e9]
  exact W.zret hx hb hr g2 (fun t ht hW => ⟨rfl, ⟨by rw [ht]; exact hz, fun q hq _ => by rw [ht]; exact hk1 q hq⟩⟩) (fun q h => jF0 h) jd_lcharAt_14
theorem c_charAt {i : Nat} (hi : i < 10) {k : Int32} (h0 : ¬ k < 0) (hk : k.toNatClampNeg < (strs.getD i []).length) : jM l N0 L jy_charAt jc_charAt 2 (some .char) 3 jT [.ref (L (420 + i)), .int k] (some (.int (strAt (420 + i) k.toNatClampNeg))) := by
  refine j_of (by decide) ?_
  intro p e s m args below meth c hx hb hml hr hlocks hown hts hF _ _
  obtain ⟨v, f1, f2, f3, f4⟩ := hF.2.1.2.1 i hi
  have hS : va_S (jA N0) s.heap s.heap [] := va_S.rf
  have hl := lv_entry ([.ref (L (420 + i)), .int k]) (n := 2) (Nat.le_of_ble_eq_true rfl)
  rw [lg_entry_eq]
  generalize (lg_sl ([.ref (L (420 + i)), .int k]) ++ List.replicate (2 - (lg_sl ([.ref (L (420 + i)), .int k])).length) Slot.unset).toArray = ls at hl ⊢
  have hl : lv_has ls 2 [(0, .ref (L (420 + i))), (1, .int k)] := hl
  have hsz : c.maxLocals = ls.size := by rw [hml]; exact hl.1.symm
  refine lv_aload_n hx hb jd_charAt_0 rfl (lv_at hl 0 rfl) ?_
  refine j_V (n := 0) (k := 0) (maxL := 1) (C := "java/lang/String") (As := []) (b := L (420 + i)) (rest := []) hx hb hsz hown hts hF hS (c_isLatin1 hi) f1 jT_call (fun _ _ _ => trivial) jw_ml_isLatin1 jw_inst_isLatin1 jw_sel_isLatin1 jw_ini_S jw_code_isLatin1 ⟨rfl, by decide, by decide, by decide +kernel⟩ rfl (by decide) (by decide) (Nat.le_refl _) (Nat.le_refl _) rfl (by decide) jd_charAt_1 (fun H1 hz hk1 => ?_)
  have hS1 := jS hS hz hk1
  refine lv_if_eq_f hx hb jd_charAt_4 (by decide) ?_
  refine lv_aload_n hx hb jd_charAt_7 rfl (lv_at hl 0 rfl) ?_
  refine vk_getf hx hb f3 hS1 hown (hts _ jw_fl_value) (fun _ h9 => h9) jd_charAt_8 ?_
  refine lv_iload_n hx hb jd_charAt_11 rfl (lv_at hl 1 rfl) ?_
  refine j_S (n := 2) (k := 2) (maxL := 2) (As := [.ref v, .int k]) (rest := []) hx hb hsz hown hts hF hS1 (c_lcharAt hi h0 hk) jBy_call (fun U hU hW => ?_) jw_ml_lcharAt jw_stat_lcharAt jw_ini_L1 jw_code_lcharAt ⟨by decide, by decide, by decide +kernel⟩ rfl (Nat.le_refl _) (by decide) (Nat.le_refl _) (Nat.le_refl _) rfl (by decide) jd_charAt_12 (fun H2 hz2 hk2 => ?_)
  · show va_T .byte v _ _ (jA N0) U U.heap
    rw [hU]
    exact (va_T.moved hW.alike f4).kept hS1.2.1
  obtain ⟨g1, g2⟩ := str_c i hi k.toNatClampNeg (by have := str_l i hi; omega) hk
  have e9 : strAt (420 + i) k.toNatClampNeg = (strs.getD i []).getD k.toNatClampNeg 0 := by unfold strAt; rw [show 420 + i - 420 = i by omega]
  refine W.zret hx hb hr (by rw [e9]; exact g2) (fun t ht hW => ⟨rfl, ⟨by rw [ht]; exact Nat.le_trans hz hz2, fun q hq _ => by rw [ht, hk2 q (Nat.lt_of_lt_of_le hq hz)]; exact hk1 q hq⟩⟩) (fun q h => jF0 h) jd_charAt_15
theorem c_ordinal {j : Nat} (hj : j < 5) : jM l N0 L jy_ordinal jc_ordinal 1 (some .int) 0 jT [.ref (L (410 + j))] (some (.int (Int32.ofNat j))) := by
  refine j_of (by decide) ?_
  intro p e s m args below meth c hx hb hml hr hlocks hown hts hF _ _
  obtain ⟨f1, f2, f3, f4⟩ := hF.2.1.1 j hj
  have hS : va_S (jA N0) s.heap s.heap [] := va_S.rf
  have hl := lv_entry ([.ref (L (410 + j))]) (n := 1) (Nat.le_of_ble_eq_true rfl)
  rw [lg_entry_eq]
  generalize (lg_sl ([.ref (L (410 + j))]) ++ List.replicate (1 - (lg_sl ([.ref (L (410 + j))])).length) Slot.unset).toArray = ls at hl ⊢
  have hl : lv_has ls 1 [(0, .ref (L (410 + j)))] := hl
  refine lv_aload_n hx hb jd_ordinal_0 rfl (lv_at hl 0 rfl) ?_
  refine vk_getf hx hb f4 hS hown (hts _ jw_fl_ordf) (fun _ h9 => h9) jd_ordinal_1 ?_
  exact W.iret hx hb hr (fun t ht hW => ⟨rfl, jEnd ht⟩) (fun q h => jF0 h) jd_ordinal_4
end JDKD
