/-! WHAT THE START GIVES OF THE FIXED OBJECTS (wip/p32/genstart.py) -/
section START
variable {s : State} {b : Nat}
theorem sw_l_gs : (Cond.laysStatic "OrganCorners" "GREATEST_SETTINGS" "[I") ∈ lw_tbl := tix_mem (q := (4, 8)) rfl
theorem sw_l_fs : (Cond.laysStatic "OrganCorners" "FIRST_SETTINGS" "[I") ∈ lw_tbl := tix_mem (q := (1, 153)) rfl
theorem sw_l_ok : (Cond.laysStatic "OrganCorners" "ORDER_KINDS" "[LOrganCorners$OrderKind;") ∈ lw_tbl := tix_mem (q := (4, 140)) rfl
theorem sw_l_sm : (Cond.laysStatic "OrganCorners$1" "$SwitchMap$OrganCorners$OrderKind" "[I") ∈ lw_tbl := tix_mem (q := (4, 204)) rfl
theorem sw_l_cs : (Cond.laysStatic "java/lang/String" "COMPACT_STRINGS" "Z") ∈ lw_tbl := tix_mem (q := (4, 154)) rfl
theorem sw_l_sf : (Cond.laysStatic "jdk/internal/util/Preconditions" "SIOOBE_FORMATTER" "Ljava/util/function/BiFunction;") ∈ lw_tbl := tix_mem (q := (4, 170)) rfl
theorem sw_l_us : (Cond.laysStatic "java/lang/Throwable" "UNASSIGNED_STACK" "[Ljava/lang/StackTraceElement;") ∈ lw_tbl := tix_mem (q := (2, 112)) rfl
theorem sw_l_ss : (Cond.laysStatic "java/lang/Throwable" "SUPPRESSED_SENTINEL" "Ljava/util/List;") ∈ lw_tbl := tix_mem (q := (2, 114)) rfl
theorem sw_l_kLOTS : (Cond.laysStatic "OrganCorners$OrderKind" "LOTS" "LOrganCorners$OrderKind;") ∈ lw_tbl := tix_mem (q := (4, 233)) rfl
theorem sw_l_kWET : (Cond.laysStatic "OrganCorners$OrderKind" "WET" "LOrganCorners$OrderKind;") ∈ lw_tbl := tix_mem (q := (4, 212)) rfl
theorem sw_l_kDRY : (Cond.laysStatic "OrganCorners$OrderKind" "DRY" "LOrganCorners$OrderKind;") ∈ lw_tbl := tix_mem (q := (4, 234)) rfl
theorem sw_l_kNEXT : (Cond.laysStatic "OrganCorners$OrderKind" "NEXT" "LOrganCorners$OrderKind;") ∈ lw_tbl := tix_mem (q := (4, 235)) rfl
theorem sw_l_kPLAY : (Cond.laysStatic "OrganCorners$OrderKind" "PLAY" "LOrganCorners$OrderKind;") ∈ lw_tbl := tix_mem (q := (4, 236)) rfl
theorem sw_i_oc : (Cond.initialized "OrganCorners") ∈ lw_tbl := tix_mem (q := (1, 1)) rfl
theorem sw_i_o1 : (Cond.initialized "OrganCorners$1") ∈ lw_tbl := tix_mem (q := (1, 22)) rfl
theorem sw_i_st : (Cond.initialized "java/lang/String") ∈ lw_tbl := tix_mem (q := (1, 18)) rfl
theorem sw_i_pc : (Cond.initialized "jdk/internal/util/Preconditions") ∈ lw_tbl := tix_mem (q := (1, 20)) rfl
theorem sw_i_th : (Cond.initialized "java/lang/Throwable") ∈ lw_tbl := tix_mem (q := (1, 11)) rfl
theorem sw_i_kd : (Cond.initialized "OrganCorners$OrderKind") ∈ lw_tbl := tix_mem (q := (1, 24)) rfl
theorem sw_s_56 : (Cond.stringRef "OrganCorners$OrderKind" 56 "lots") ∈ lw_tbl := tix_mem (q := (4, 238)) rfl
theorem sw_s_62 : (Cond.stringRef "OrganCorners$OrderKind" 62 "wet") ∈ lw_tbl := tix_mem (q := (4, 237)) rfl
theorem sw_s_65 : (Cond.stringRef "OrganCorners$OrderKind" 65 "dry") ∈ lw_tbl := tix_mem (q := (4, 239)) rfl
theorem sw_s_68 : (Cond.stringRef "OrganCorners$OrderKind" 68 "next") ∈ lw_tbl := tix_mem (q := (5, 0)) rfl
theorem sw_s_71 : (Cond.stringRef "OrganCorners$OrderKind" 71 "0:a") ∈ lw_tbl := tix_mem (q := (5, 1)) rfl
theorem sw_s_73 : (Cond.stringRef "OrganCorners$OrderKind" 73 "4:j") ∈ lw_tbl := tix_mem (q := (5, 2)) rfl
theorem sw_n1 : (Cond.methodLinkNest "OrganCorners$Outlook" 28 (yN nX10_holds) "OrganCorners") ∈ lw_tbl := tix_mem (q := (3, 91)) rfl
theorem sw_n2 : (Cond.methodLinkNest "OrganCorners$Town" 162 (yN nX10_holds) "OrganCorners") ∈ lw_tbl := tix_mem (q := (3, 68)) rfl
theorem sw_n3 : (Cond.fieldLinkNest "OrganCorners$OrderText" 19 "OrganCorners" "ORDER_KINDS" "[LOrganCorners$OrderKind;" "OrganCorners") ∈ lw_tbl := tix_mem (q := (4, 139)) rfl
abbrev gvC : Cond := Jvm.Cond.and given_1 narrow_1
theorem jA_not : ∀ a : Nat, a < s.heap.size → ¬ jA s.heap.size a := fun a h q => Nat.not_le.mpr h q
/-- a static array of ints -/
theorem st_ints {args : Array Value} {C n : String} {f : Nat → Int32} (hl : (Cond.laysStatic C n "[I").before args s = true) (hi : (Cond.initialized C).before args s = true) (ha : (Cond.arrayOf (.static C n "[I") .int).before args s = true) (hn : (Cond.eq (.length (.static C n "[I")) (.int 5)).before args s = true)
    (he : ∀ j, j < 5 → (Cond.eq (.elem (.static C n "[I") (.int (Int32.ofNat j))) (.int (f j))).before args s = true) : ∃ t : Nat, va_Z C n "[I" (.ref t) (jA s.heap.size) s s.heap ∧ va_T .int t 5 (fun j => .int (f j)) (jA s.heap.size) s s.heap := by
  obtain ⟨t, h1, h2⟩ := va_Tof (N := 5) (f := fun j => .int (f j)) (by decide) ha (va_eqv hn rfl) (fun j hj => va_eqv (he j hj) rfl) jA_not
  exact ⟨t, va_Zof hl hi h1 jA_not, h2⟩
/-- a text -/
theorem st_text {args : Array Value} {tm : Term} {a N : Nat} {bs : List Int32} (hN : N < 2 ^ 31) (ht : tm.eval args s none [] s = some (.ref a)) (hex : (Cond.exactly tm "java/lang/String").before args s = true) (hco : (Cond.eq (.field tm "java/lang/String" "coder" "B") (.int 0)).before args s = true)
    (har : (Cond.arrayOf (.field tm "java/lang/String" "value" "[B") .byte).before args s = true) (hle : (Cond.eq (.length (.field tm "java/lang/String" "value" "[B")) (.int (Int32.ofNat N))).before args s = true)
    (hel : ∀ j : Nat, j < N → (Cond.eq (.elem (.field tm "java/lang/String" "value" "[B") (.int (Int32.ofNat j))) (.int (bs.getD j 0))).before args s = true) :
    ∃ v, va_O "java/lang/String" a (jA s.heap.size) s s.heap ∧ va_OF "java/lang/String" "coder" "B" (.int 0) a (jA s.heap.size) s s.heap ∧ va_OF "java/lang/String" "value" "[B" (.ref v) a (jA s.heap.size) s s.heap ∧ va_T .byte v N (fun j => .int (bs.getD j 0)) (jA s.heap.size) s s.heap := by
  obtain ⟨v, h1, h2⟩ := va_Tof (N := N) (f := fun j => .int (bs.getD j 0)) hN har (va_eqv hle rfl) (fun j hj => va_eqv (hel j hj) rfl) jA_not
  exact ⟨v, va_Oof hex ht jA_not, vk_OFof ht (va_eqv hco rfl) jA_not, vk_OFof ht h1 jA_not, h2⟩
theorem st_str {args : Array Value} {C : String} {ix : Nat} {tx : String} (hini : (Cond.initialized C).before args s = true) (h : (Cond.stringRef C ix tx).before args s = true) : ∃ a, (Term.string C ix).eval args s none [] s = some (.ref a) := by
  obtain ⟨c, hc⟩ : ∃ c, s.vm.findClass C = some c := by
    cases hq : s.vm.findClass C with
    | some c => exact ⟨c, rfl⟩
    | none => simp [Cond.before, Cond.holds, Cond.value, hq] at hini
  obtain ⟨_, _, _, a, -, -, -, -, -, h9⟩ := Cond.stringRef_spec hc h
  exact ⟨a, h9⟩
/-- a kind -/
theorem st_kind {args : Array Value} {n : String} {j i1 i2 a1 a2 : Nat} (hl : (Cond.laysStatic "OrganCorners$OrderKind" n "LOrganCorners$OrderKind;").before args s = true) (hi : (Cond.initialized "OrganCorners$OrderKind").before args s = true) (hex : (Cond.exactly (.static "OrganCorners$OrderKind" n "LOrganCorners$OrderKind;") "OrganCorners$OrderKind").before args s = true)
    (ho : (Cond.eq (.field (.static "OrganCorners$OrderKind" n "LOrganCorners$OrderKind;") "java/lang/Enum" "ordinal" "I") (.int (Int32.ofNat j))).before args s = true)
    (h1 : (Cond.eq (.field (.static "OrganCorners$OrderKind" n "LOrganCorners$OrderKind;") "OrganCorners$OrderKind" "least" "Ljava/lang/String;") (.string "OrganCorners$OrderKind" i1)).before args s = true) (h2 : (Cond.eq (.field (.static "OrganCorners$OrderKind" n "LOrganCorners$OrderKind;") "OrganCorners$OrderKind" "greatest" "Ljava/lang/String;") (.string "OrganCorners$OrderKind" i2)).before args s = true)
    (e1 : (Term.string "OrganCorners$OrderKind" i1).eval args s none [] s = some (.ref a1)) (e2 : (Term.string "OrganCorners$OrderKind" i2).eval args s none [] s = some (.ref a2)) :
    ∃ t : Nat, (Term.static "OrganCorners$OrderKind" n "LOrganCorners$OrderKind;").eval args s none [] s = some (.ref t) ∧ va_Z "OrganCorners$OrderKind" n "LOrganCorners$OrderKind;" (.ref t) (jA s.heap.size) s s.heap ∧ va_O "OrganCorners$OrderKind" t (jA s.heap.size) s s.heap ∧ va_OF "OrganCorners$OrderKind" "least" "Ljava/lang/String;" (.ref a1) t (jA s.heap.size) s s.heap ∧ va_OF "OrganCorners$OrderKind" "greatest" "Ljava/lang/String;" (.ref a2) t (jA s.heap.size) s s.heap ∧ va_OF "java/lang/Enum" "ordinal" "I" (.int (Int32.ofNat j)) t (jA s.heap.size) s s.heap := by
  obtain ⟨t, c, cell, k, q1, -⟩ := Cond.exactly_spec hex
  exact ⟨t, q1, va_Zof hl hi q1 jA_not, va_Oof hex q1 jA_not, vk_OFof q1 (va_eqv h1 e1) jA_not, vk_OFof q1 (va_eqv h2 e2) jA_not, vk_OFof q1 (va_eqv ho rfl) jA_not⟩
theorem st_ne {args : Array Value} {u v : Term} {a b : Nat} (h : (Cond.not (.eq u v)).before args s = true) (e1 : u.eval args s none [] s = some (.ref a)) (e2 : v.eval args s none [] s = some (.ref b)) : a ≠ b := by
  intro q
  subst q
  simp [Cond.before, Cond.holds, Cond.value, e1, e2] at h
theorem st_zq {args : Array Value} {C n d : String} (hl : (Cond.laysStatic C n d).before args s = true) (hi : (Cond.initialized C).before args s = true) (h : (Cond.isRef (.static C n d)).before args s = true) : va_Zq C n d (jA s.heap.size) s s.heap := va_Zqof hl hi h jA_not

set_option maxRecDepth 100000 in
set_option maxHeartbeats 4000000 in
theorem SF_start (hts : ∀ w ∈ lw_tbl, w.before #[Value.ref b] s = true) (hgv : gvC.before #[Value.ref b] s = true) : ∃ ad : Nat → Nat, SF ad (jA s.heap.size) s s.heap ∧ (∃ t, va_Z "OrganCorners" "FIRST_SETTINGS" "[I" (.ref t) (jA s.heap.size) s s.heap ∧ va_T .int t 5 (fun j => .int (([20, 2, 20, 25, 5] : List Int32).getD j 0)) (jA s.heap.size) s s.heap) := by
  have hs := flat_of_before _ hgv
  obtain ⟨tg, tgZ, tgT⟩ := st_ints (f := fun j => ([99, 9, 50, 100, 50] : List Int32).getD j 0) (hts _ sw_l_gs) (hts _ sw_i_oc) (hs _ (by decide +kernel)) (hs _ (by decide +kernel)) (fun j hj => by
    match j, hj with
    | 0, _ => exact hs (Cond.eq (.elem (.static "OrganCorners" "GREATEST_SETTINGS" "[I") (.int 0)) (.int 99)) (by decide +kernel)
    | 1, _ => exact hs (Cond.eq (.elem (.static "OrganCorners" "GREATEST_SETTINGS" "[I") (.int 1)) (.int 9)) (by decide +kernel)
    | 2, _ => exact hs (Cond.eq (.elem (.static "OrganCorners" "GREATEST_SETTINGS" "[I") (.int 2)) (.int 50)) (by decide +kernel)
    | 3, _ => exact hs (Cond.eq (.elem (.static "OrganCorners" "GREATEST_SETTINGS" "[I") (.int 3)) (.int 100)) (by decide +kernel)
    | 4, _ => exact hs (Cond.eq (.elem (.static "OrganCorners" "GREATEST_SETTINGS" "[I") (.int 4)) (.int 50)) (by decide +kernel))
  obtain ⟨tw, twZ, twT⟩ := st_ints (f := fun j => ([1, 2, 3, 4, 0] : List Int32).getD j 0) (hts _ sw_l_sm) (hts _ sw_i_o1) (hs _ (by decide +kernel)) (hs _ (by decide +kernel)) (fun j hj => by
    match j, hj with
    | 0, _ => exact hs (Cond.eq (.elem (.static "OrganCorners$1" "$SwitchMap$OrganCorners$OrderKind" "[I") (.int 0)) (.int 1)) (by decide +kernel)
    | 1, _ => exact hs (Cond.eq (.elem (.static "OrganCorners$1" "$SwitchMap$OrganCorners$OrderKind" "[I") (.int 1)) (.int 2)) (by decide +kernel)
    | 2, _ => exact hs (Cond.eq (.elem (.static "OrganCorners$1" "$SwitchMap$OrganCorners$OrderKind" "[I") (.int 2)) (.int 3)) (by decide +kernel)
    | 3, _ => exact hs (Cond.eq (.elem (.static "OrganCorners$1" "$SwitchMap$OrganCorners$OrderKind" "[I") (.int 3)) (.int 4)) (by decide +kernel)
    | 4, _ => exact hs (Cond.eq (.elem (.static "OrganCorners$1" "$SwitchMap$OrganCorners$OrderKind" "[I") (.int 4)) (.int 0)) (by decide +kernel))
  obtain ⟨tf, tfZ, tfT⟩ := st_ints (f := fun j => ([20, 2, 20, 25, 5] : List Int32).getD j 0) (hts _ sw_l_fs) (hts _ sw_i_oc) (hs _ (by decide +kernel)) (hs _ (by decide +kernel)) (fun j hj => by
    match j, hj with
    | 0, _ => exact hs (Cond.eq (.elem (.static "OrganCorners" "FIRST_SETTINGS" "[I") (.int 0)) (.int 20)) (by decide +kernel)
    | 1, _ => exact hs (Cond.eq (.elem (.static "OrganCorners" "FIRST_SETTINGS" "[I") (.int 1)) (.int 2)) (by decide +kernel)
    | 2, _ => exact hs (Cond.eq (.elem (.static "OrganCorners" "FIRST_SETTINGS" "[I") (.int 2)) (.int 20)) (by decide +kernel)
    | 3, _ => exact hs (Cond.eq (.elem (.static "OrganCorners" "FIRST_SETTINGS" "[I") (.int 3)) (.int 25)) (by decide +kernel)
    | 4, _ => exact hs (Cond.eq (.elem (.static "OrganCorners" "FIRST_SETTINGS" "[I") (.int 4)) (.int 5)) (by decide +kernel))
  obtain ⟨a56, e56⟩ := st_str (hts _ sw_i_kd) (hts _ sw_s_56)
  have x56 := st_text (N := 4) (bs := [108, 111, 116, 115]) (by decide) e56 (hs _ (by decide +kernel)) (hs _ (by decide +kernel)) (hs _ (by decide +kernel)) (hs _ (by decide +kernel)) (fun j hj => by
    match j, hj with
    | 0, _ => exact hs (Cond.eq (.elem (.field (.string "OrganCorners$OrderKind" 56) "java/lang/String" "value" "[B") (.int 0)) (.int 108)) (by decide +kernel)
    | 1, _ => exact hs (Cond.eq (.elem (.field (.string "OrganCorners$OrderKind" 56) "java/lang/String" "value" "[B") (.int 1)) (.int 111)) (by decide +kernel)
    | 2, _ => exact hs (Cond.eq (.elem (.field (.string "OrganCorners$OrderKind" 56) "java/lang/String" "value" "[B") (.int 2)) (.int 116)) (by decide +kernel)
    | 3, _ => exact hs (Cond.eq (.elem (.field (.string "OrganCorners$OrderKind" 56) "java/lang/String" "value" "[B") (.int 3)) (.int 115)) (by decide +kernel))
  obtain ⟨a62, e62⟩ := st_str (hts _ sw_i_kd) (hts _ sw_s_62)
  have x62 := st_text (N := 3) (bs := [119, 101, 116]) (by decide) e62 (hs _ (by decide +kernel)) (hs _ (by decide +kernel)) (hs _ (by decide +kernel)) (hs _ (by decide +kernel)) (fun j hj => by
    match j, hj with
    | 0, _ => exact hs (Cond.eq (.elem (.field (.string "OrganCorners$OrderKind" 62) "java/lang/String" "value" "[B") (.int 0)) (.int 119)) (by decide +kernel)
    | 1, _ => exact hs (Cond.eq (.elem (.field (.string "OrganCorners$OrderKind" 62) "java/lang/String" "value" "[B") (.int 1)) (.int 101)) (by decide +kernel)
    | 2, _ => exact hs (Cond.eq (.elem (.field (.string "OrganCorners$OrderKind" 62) "java/lang/String" "value" "[B") (.int 2)) (.int 116)) (by decide +kernel))
  obtain ⟨a65, e65⟩ := st_str (hts _ sw_i_kd) (hts _ sw_s_65)
  have x65 := st_text (N := 3) (bs := [100, 114, 121]) (by decide) e65 (hs _ (by decide +kernel)) (hs _ (by decide +kernel)) (hs _ (by decide +kernel)) (hs _ (by decide +kernel)) (fun j hj => by
    match j, hj with
    | 0, _ => exact hs (Cond.eq (.elem (.field (.string "OrganCorners$OrderKind" 65) "java/lang/String" "value" "[B") (.int 0)) (.int 100)) (by decide +kernel)
    | 1, _ => exact hs (Cond.eq (.elem (.field (.string "OrganCorners$OrderKind" 65) "java/lang/String" "value" "[B") (.int 1)) (.int 114)) (by decide +kernel)
    | 2, _ => exact hs (Cond.eq (.elem (.field (.string "OrganCorners$OrderKind" 65) "java/lang/String" "value" "[B") (.int 2)) (.int 121)) (by decide +kernel))
  obtain ⟨a68, e68⟩ := st_str (hts _ sw_i_kd) (hts _ sw_s_68)
  have x68 := st_text (N := 4) (bs := [110, 101, 120, 116]) (by decide) e68 (hs _ (by decide +kernel)) (hs _ (by decide +kernel)) (hs _ (by decide +kernel)) (hs _ (by decide +kernel)) (fun j hj => by
    match j, hj with
    | 0, _ => exact hs (Cond.eq (.elem (.field (.string "OrganCorners$OrderKind" 68) "java/lang/String" "value" "[B") (.int 0)) (.int 110)) (by decide +kernel)
    | 1, _ => exact hs (Cond.eq (.elem (.field (.string "OrganCorners$OrderKind" 68) "java/lang/String" "value" "[B") (.int 1)) (.int 101)) (by decide +kernel)
    | 2, _ => exact hs (Cond.eq (.elem (.field (.string "OrganCorners$OrderKind" 68) "java/lang/String" "value" "[B") (.int 2)) (.int 120)) (by decide +kernel)
    | 3, _ => exact hs (Cond.eq (.elem (.field (.string "OrganCorners$OrderKind" 68) "java/lang/String" "value" "[B") (.int 3)) (.int 116)) (by decide +kernel))
  obtain ⟨a71, e71⟩ := st_str (hts _ sw_i_kd) (hts _ sw_s_71)
  have x71 := st_text (N := 3) (bs := [48, 58, 97]) (by decide) e71 (hs _ (by decide +kernel)) (hs _ (by decide +kernel)) (hs _ (by decide +kernel)) (hs _ (by decide +kernel)) (fun j hj => by
    match j, hj with
    | 0, _ => exact hs (Cond.eq (.elem (.field (.string "OrganCorners$OrderKind" 71) "java/lang/String" "value" "[B") (.int 0)) (.int 48)) (by decide +kernel)
    | 1, _ => exact hs (Cond.eq (.elem (.field (.string "OrganCorners$OrderKind" 71) "java/lang/String" "value" "[B") (.int 1)) (.int 58)) (by decide +kernel)
    | 2, _ => exact hs (Cond.eq (.elem (.field (.string "OrganCorners$OrderKind" 71) "java/lang/String" "value" "[B") (.int 2)) (.int 97)) (by decide +kernel))
  obtain ⟨a73, e73⟩ := st_str (hts _ sw_i_kd) (hts _ sw_s_73)
  have x73 := st_text (N := 3) (bs := [52, 58, 106]) (by decide) e73 (hs _ (by decide +kernel)) (hs _ (by decide +kernel)) (hs _ (by decide +kernel)) (hs _ (by decide +kernel)) (fun j hj => by
    match j, hj with
    | 0, _ => exact hs (Cond.eq (.elem (.field (.string "OrganCorners$OrderKind" 73) "java/lang/String" "value" "[B") (.int 0)) (.int 52)) (by decide +kernel)
    | 1, _ => exact hs (Cond.eq (.elem (.field (.string "OrganCorners$OrderKind" 73) "java/lang/String" "value" "[B") (.int 1)) (.int 58)) (by decide +kernel)
    | 2, _ => exact hs (Cond.eq (.elem (.field (.string "OrganCorners$OrderKind" 73) "java/lang/String" "value" "[B") (.int 2)) (.int 106)) (by decide +kernel))
  obtain ⟨k0, kE0, kZ0, kO0, kl0, kg0, ko0⟩ := st_kind (j := 0) (hts _ sw_l_kLOTS) (hts _ sw_i_kd) (hs _ (by decide +kernel)) (hs (Cond.eq (.field (.static "OrganCorners$OrderKind" "LOTS" "LOrganCorners$OrderKind;") "java/lang/Enum" "ordinal" "I") (.int 0)) (by decide +kernel)) (hs _ (by decide +kernel)) (hs _ (by decide +kernel)) e56 e56
  obtain ⟨k1, kE1, kZ1, kO1, kl1, kg1, ko1⟩ := st_kind (j := 1) (hts _ sw_l_kWET) (hts _ sw_i_kd) (hs _ (by decide +kernel)) (hs (Cond.eq (.field (.static "OrganCorners$OrderKind" "WET" "LOrganCorners$OrderKind;") "java/lang/Enum" "ordinal" "I") (.int 1)) (by decide +kernel)) (hs _ (by decide +kernel)) (hs _ (by decide +kernel)) e62 e62
  obtain ⟨k2, kE2, kZ2, kO2, kl2, kg2, ko2⟩ := st_kind (j := 2) (hts _ sw_l_kDRY) (hts _ sw_i_kd) (hs _ (by decide +kernel)) (hs (Cond.eq (.field (.static "OrganCorners$OrderKind" "DRY" "LOrganCorners$OrderKind;") "java/lang/Enum" "ordinal" "I") (.int 2)) (by decide +kernel)) (hs _ (by decide +kernel)) (hs _ (by decide +kernel)) e65 e65
  obtain ⟨k3, kE3, kZ3, kO3, kl3, kg3, ko3⟩ := st_kind (j := 3) (hts _ sw_l_kNEXT) (hts _ sw_i_kd) (hs _ (by decide +kernel)) (hs (Cond.eq (.field (.static "OrganCorners$OrderKind" "NEXT" "LOrganCorners$OrderKind;") "java/lang/Enum" "ordinal" "I") (.int 3)) (by decide +kernel)) (hs _ (by decide +kernel)) (hs _ (by decide +kernel)) e68 e68
  obtain ⟨k4, kE4, kZ4, kO4, kl4, kg4, ko4⟩ := st_kind (j := 4) (hts _ sw_l_kPLAY) (hts _ sw_i_kd) (hs _ (by decide +kernel)) (hs (Cond.eq (.field (.static "OrganCorners$OrderKind" "PLAY" "LOrganCorners$OrderKind;") "java/lang/Enum" "ordinal" "I") (.int 4)) (by decide +kernel)) (hs _ (by decide +kernel)) (hs _ (by decide +kernel)) e71 e73
  have n10 := st_ne (hs (Cond.not (.eq (.static "OrganCorners$OrderKind" "WET" "LOrganCorners$OrderKind;") (.static "OrganCorners$OrderKind" "LOTS" "LOrganCorners$OrderKind;"))) (by decide +kernel)) kE1 kE0
  have n12 := st_ne (hs (Cond.not (.eq (.static "OrganCorners$OrderKind" "WET" "LOrganCorners$OrderKind;") (.static "OrganCorners$OrderKind" "DRY" "LOrganCorners$OrderKind;"))) (by decide +kernel)) kE1 kE2
  have n13 := st_ne (hs (Cond.not (.eq (.static "OrganCorners$OrderKind" "WET" "LOrganCorners$OrderKind;") (.static "OrganCorners$OrderKind" "NEXT" "LOrganCorners$OrderKind;"))) (by decide +kernel)) kE1 kE3
  have n14 := st_ne (hs (Cond.not (.eq (.static "OrganCorners$OrderKind" "WET" "LOrganCorners$OrderKind;") (.static "OrganCorners$OrderKind" "PLAY" "LOrganCorners$OrderKind;"))) (by decide +kernel)) kE1 kE4
  have n02 := st_ne (hs (Cond.not (.eq (.static "OrganCorners$OrderKind" "LOTS" "LOrganCorners$OrderKind;") (.static "OrganCorners$OrderKind" "DRY" "LOrganCorners$OrderKind;"))) (by decide +kernel)) kE0 kE2
  have n03 := st_ne (hs (Cond.not (.eq (.static "OrganCorners$OrderKind" "LOTS" "LOrganCorners$OrderKind;") (.static "OrganCorners$OrderKind" "NEXT" "LOrganCorners$OrderKind;"))) (by decide +kernel)) kE0 kE3
  have n04 := st_ne (hs (Cond.not (.eq (.static "OrganCorners$OrderKind" "LOTS" "LOrganCorners$OrderKind;") (.static "OrganCorners$OrderKind" "PLAY" "LOrganCorners$OrderKind;"))) (by decide +kernel)) kE0 kE4
  have n23 := st_ne (hs (Cond.not (.eq (.static "OrganCorners$OrderKind" "DRY" "LOrganCorners$OrderKind;") (.static "OrganCorners$OrderKind" "NEXT" "LOrganCorners$OrderKind;"))) (by decide +kernel)) kE2 kE3
  have n24 := st_ne (hs (Cond.not (.eq (.static "OrganCorners$OrderKind" "DRY" "LOrganCorners$OrderKind;") (.static "OrganCorners$OrderKind" "PLAY" "LOrganCorners$OrderKind;"))) (by decide +kernel)) kE2 kE4
  have n34 := st_ne (hs (Cond.not (.eq (.static "OrganCorners$OrderKind" "NEXT" "LOrganCorners$OrderKind;") (.static "OrganCorners$OrderKind" "PLAY" "LOrganCorners$OrderKind;"))) (by decide +kernel)) kE3 kE4
  obtain ⟨tk, hk1, hk2⟩ := va_Tof (tm := .static "OrganCorners" "ORDER_KINDS" "[LOrganCorners$OrderKind;") (ty := .object "OrganCorners$OrderKind") (N := 5) (f := fun j => .ref (([k0, k1, k2, k3, k4] : List Nat).getD j 0)) (by decide) (hs _ (by decide +kernel)) (va_eqv (hs (Cond.eq (.length (.static "OrganCorners" "ORDER_KINDS" "[LOrganCorners$OrderKind;")) (.int 5)) (by decide +kernel)) rfl) (fun j hj => by
    match j, hj with
    | 0, _ => exact va_eqv (hs (Cond.eq (.elem (.static "OrganCorners" "ORDER_KINDS" "[LOrganCorners$OrderKind;") (.int 0)) (.static "OrganCorners$OrderKind" "LOTS" "LOrganCorners$OrderKind;")) (by decide +kernel)) kE0
    | 1, _ => exact va_eqv (hs (Cond.eq (.elem (.static "OrganCorners" "ORDER_KINDS" "[LOrganCorners$OrderKind;") (.int 1)) (.static "OrganCorners$OrderKind" "WET" "LOrganCorners$OrderKind;")) (by decide +kernel)) kE1
    | 2, _ => exact va_eqv (hs (Cond.eq (.elem (.static "OrganCorners" "ORDER_KINDS" "[LOrganCorners$OrderKind;") (.int 2)) (.static "OrganCorners$OrderKind" "DRY" "LOrganCorners$OrderKind;")) (by decide +kernel)) kE2
    | 3, _ => exact va_eqv (hs (Cond.eq (.elem (.static "OrganCorners" "ORDER_KINDS" "[LOrganCorners$OrderKind;") (.int 3)) (.static "OrganCorners$OrderKind" "NEXT" "LOrganCorners$OrderKind;")) (by decide +kernel)) kE3
    | 4, _ => exact va_eqv (hs (Cond.eq (.elem (.static "OrganCorners" "ORDER_KINDS" "[LOrganCorners$OrderKind;") (.int 4)) (.static "OrganCorners$OrderKind" "PLAY" "LOrganCorners$OrderKind;")) (by decide +kernel)) kE4) jA_not
  have hkZ := va_Zof (hts _ sw_l_ok) (hts _ sw_i_oc) hk1 (jA_not (s := s))
  have hcs := va_Zof (v := .int 1) (hts _ sw_l_cs) (hts _ sw_i_st) (va_eqv (hs (Cond.eq (.static "java/lang/String" "COMPACT_STRINGS" "Z") (.int 1)) (by decide +kernel)) rfl) (jA_not (s := s))
  have hsf := st_zq (hts _ sw_l_sf) (hts _ sw_i_pc) (hs _ (by decide +kernel))
  refine ⟨fun k => ([(400, tg), (401, tk), (402, tw), (410, k0), (411, k1), (412, k2), (413, k3), (414, k4), (420, a56), (421, a56), (422, a62), (423, a62), (424, a65), (425, a65), (426, a68), (427, a68), (428, a71), (429, a73)] : List (Nat × Nat)).lookup k |>.getD 0, ⟨⟨⟨tgZ, ?_⟩, ⟨twZ, ?_⟩, ⟨hkZ, ?_⟩, kZ1⟩, ⟨fun j hj => ?_, fun i hi => ?_, hcs, hsf⟩, ⟨va_tabs rfl rfl (hts _ sw_n1), va_tabs rfl rfl (hts _ sw_n2), va_tabs rfl rfl (hts _ sw_n3)⟩, fun i j hi hj => ?_⟩, tf, tfZ, tfT⟩
  · exact tgT
  · exact twT
  · obtain ⟨cell, g1, g2, g3, g4, g5, g6, g7⟩ := hk2
    refine ⟨cell, g1, g2, g3, g4, g5, fun j hj => ?_, g7⟩
    rw [g6 j hj]
    match j, hj with
    | 0, _ => rfl
    | 1, _ => rfl
    | 2, _ => rfl
    | 3, _ => rfl
    | 4, _ => rfl
  · match j, hj with
    | 0, _ => exact ⟨kO0, kl0, kg0, ko0⟩
    | 1, _ => exact ⟨kO1, kl1, kg1, ko1⟩
    | 2, _ => exact ⟨kO2, kl2, kg2, ko2⟩
    | 3, _ => exact ⟨kO3, kl3, kg3, ko3⟩
    | 4, _ => exact ⟨kO4, kl4, kg4, ko4⟩
  · match i, hi with
    | 0, _ => exact x56
    | 1, _ => exact x56
    | 2, _ => exact x62
    | 3, _ => exact x62
    | 4, _ => exact x65
    | 5, _ => exact x65
    | 6, _ => exact x68
    | 7, _ => exact x68
    | 8, _ => exact x71
    | 9, _ => exact x73
  · match i, j, hi, hj with
    | 0, 0, _, _ => exact fun _ => rfl
    | 0, 1, _, _ => exact fun q => absurd q (Ne.symm n10)
    | 0, 2, _, _ => exact fun q => absurd q n02
    | 0, 3, _, _ => exact fun q => absurd q n03
    | 0, 4, _, _ => exact fun q => absurd q n04
    | 1, 0, _, _ => exact fun q => absurd q n10
    | 1, 1, _, _ => exact fun _ => rfl
    | 1, 2, _, _ => exact fun q => absurd q n12
    | 1, 3, _, _ => exact fun q => absurd q n13
    | 1, 4, _, _ => exact fun q => absurd q n14
    | 2, 0, _, _ => exact fun q => absurd q (Ne.symm n02)
    | 2, 1, _, _ => exact fun q => absurd q (Ne.symm n12)
    | 2, 2, _, _ => exact fun _ => rfl
    | 2, 3, _, _ => exact fun q => absurd q n23
    | 2, 4, _, _ => exact fun q => absurd q n24
    | 3, 0, _, _ => exact fun q => absurd q (Ne.symm n03)
    | 3, 1, _, _ => exact fun q => absurd q (Ne.symm n13)
    | 3, 2, _, _ => exact fun q => absurd q (Ne.symm n23)
    | 3, 3, _, _ => exact fun _ => rfl
    | 3, 4, _, _ => exact fun q => absurd q n34
    | 4, 0, _, _ => exact fun q => absurd q (Ne.symm n04)
    | 4, 1, _, _ => exact fun q => absurd q (Ne.symm n14)
    | 4, 2, _, _ => exact fun q => absurd q (Ne.symm n24)
    | 4, 3, _, _ => exact fun q => absurd q (Ne.symm n34)
    | 4, 4, _, _ => exact fun _ => rfl
end START
