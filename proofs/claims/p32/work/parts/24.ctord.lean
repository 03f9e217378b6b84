/-! CONSTRUCTORS: loops (wip/p32/genctor24.py) -/
section CTORD
/-- so many groups, one behind another -/
def fl (grp : (Nat → Nat) → va_W) (n : Nat) (h : Nat → Nat → Nat) : va_W := (List.range n).flatMap (fun i => grp (h i))
def ar (n : Nat) (h : Nat → Nat → Nat) : Nat → Option Nat := fun i => if i < n then some (h i 0) else none
def sw (h : Nat → Nat → Nat) (c : Nat) (g : Nat → Nat) : Nat → Nat → Nat := fun i => if i = c then g else h i
theorem fl_succ {grp : (Nat → Nat) → va_W} {c : Nat} {h : Nat → Nat → Nat} {g : Nat → Nat} : fl grp c h ++ grp g = fl grp (c + 1) (sw h c g) := by
  unfold fl
  rw [List.range_succ, List.flatMap_append]
  have h1 : (List.range c).flatMap (fun i => grp (sw h c g i)) = (List.range c).flatMap (fun i => grp (h i)) := by
    rw [List.flatMap_def, List.flatMap_def]
    congr 1
    refine List.map_congr_left fun i hi => ?_
    have := List.mem_range.mp hi
    unfold sw
    rw [if_neg (by omega)]
  rw [h1]
  simp [sw]
theorem ar_succ {c : Nat} {h : Nat → Nat → Nat} {g : Nat → Nat} : va_up (ar c h) c (some (g 0)) = ar (c + 1) (sw h c g) := by
  funext j
  unfold va_up ar sw
  by_cases hj : j = c
  · subst hj
    simp
  · rw [if_neg hj]
    by_cases h1 : j < c
    · rw [if_pos h1, if_pos (by omega), if_neg hj]
    · rw [if_neg h1, if_neg (by omega)]
theorem ar_zero {h : Nat → Nat → Nat} : ar 0 h = fun _ => none := by
  funext j
  simp [ar]
theorem ct_le : ∀ n, n < 11 → ∀ c, c < n → ¬ Int32.ofNat n ≤ Int32.ofNat c := by decide +kernel
theorem ct_in : ∀ n, n < 11 → ∀ c, c < n → vp_in (Int32.ofNat c) n := by
  intro n hn c hc h
  have h1 : ∀ n, n < 11 → ∀ c, c < n → ¬ (Int32.ofNat c < 0) := by decide +kernel
  have h2 : ∀ c, c < 11 → (Int32.ofNat c).toNatClampNeg = c := by decide +kernel
  rcases h with h | h
  · exact h1 n hn c hc h
  · rw [h2 c (by omega)] at h
    omega
theorem ct_nat : ∀ c, c < 11 → (Int32.ofNat c).toNatClampNeg = c := by decide +kernel
theorem ct_succ : ∀ c, c < 11 → Int32.ofNat c + Int32.ofInt 1 = Int32.ofNat (c + 1) := by decide +kernel
theorem dX8_init_0 : decode cX8_init 0 = .ok (.aload_n 0, 1) := by decide +kernel
theorem dX8_init_1 : decode cX8_init 1 = .ok (.invokespecial 3, 3) := by decide +kernel
theorem dX8_init_4 : decode cX8_init 4 = .ok (.aload_n 0, 1) := by decide +kernel
theorem dX8_init_5 : decode cX8_init 5 = .ok (.bipush 6, 2) := by decide +kernel
theorem dX8_init_7 : decode cX8_init 7 = .ok (.anewarray 9, 3) := by decide +kernel
theorem dX8_init_10 : decode cX8_init 10 = .ok (.putfield 11, 3) := by decide +kernel
theorem dX8_init_13 : decode cX8_init 13 = .ok (.iconst 0, 1) := by decide +kernel
theorem dX8_init_14 : decode cX8_init 14 = .ok (.istore_n 1, 1) := by decide +kernel
theorem dX8_init_15 : decode cX8_init 15 = .ok (.iload_n 1, 1) := by decide +kernel
theorem dX8_init_16 : decode cX8_init 16 = .ok (.bipush 6, 2) := by decide +kernel
theorem dX8_init_18 : decode cX8_init 18 = .ok (.if_icmp .ge 22, 3) := by decide +kernel
theorem dX8_init_21 : decode cX8_init 21 = .ok (.aload_n 0, 1) := by decide +kernel
theorem dX8_init_22 : decode cX8_init 22 = .ok (.getfield 11, 3) := by decide +kernel
theorem dX8_init_25 : decode cX8_init 25 = .ok (.iload_n 1, 1) := by decide +kernel
theorem dX8_init_26 : decode cX8_init 26 = .ok (.new 9, 3) := by decide +kernel
theorem dX8_init_29 : decode cX8_init 29 = .ok (.dup, 1) := by decide +kernel
theorem dX8_init_30 : decode cX8_init 30 = .ok (.invokespecial 17, 3) := by decide +kernel
theorem dX8_init_33 : decode cX8_init 33 = .ok (.aastore, 1) := by decide +kernel
theorem dX8_init_34 : decode cX8_init 34 = .ok (.iinc 1 1, 3) := by decide +kernel
theorem dX8_init_37 : decode cX8_init 37 = .ok (.goto (-22), 3) := by decide +kernel
theorem dX8_init_40 : decode cX8_init 40 = .ok (.return_, 1) := by decide +kernel
theorem dX9_init_0 : decode cX9_init 0 = .ok (.aload_n 0, 1) := by decide +kernel
theorem dX9_init_1 : decode cX9_init 1 = .ok (.invokespecial 3, 3) := by decide +kernel
theorem dX9_init_4 : decode cX9_init 4 = .ok (.aload_n 0, 1) := by decide +kernel
theorem dX9_init_5 : decode cX9_init 5 = .ok (.bipush 10, 2) := by decide +kernel
theorem dX9_init_7 : decode cX9_init 7 = .ok (.anewarray 9, 3) := by decide +kernel
theorem dX9_init_10 : decode cX9_init 10 = .ok (.putfield 11, 3) := by decide +kernel
theorem dX9_init_13 : decode cX9_init 13 = .ok (.aload_n 0, 1) := by decide +kernel
theorem dX9_init_14 : decode cX9_init 14 = .ok (.iconst 5, 1) := by decide +kernel
theorem dX9_init_15 : decode cX9_init 15 = .ok (.anewarray 17, 3) := by decide +kernel
theorem dX9_init_18 : decode cX9_init 18 = .ok (.putfield 19, 3) := by decide +kernel
theorem dX9_init_21 : decode cX9_init 21 = .ok (.aload_n 0, 1) := by decide +kernel
theorem dX9_init_22 : decode cX9_init 22 = .ok (.bipush 8, 2) := by decide +kernel
theorem dX9_init_24 : decode cX9_init 24 = .ok (.anewarray 23, 3) := by decide +kernel
theorem dX9_init_27 : decode cX9_init 27 = .ok (.putfield 25, 3) := by decide +kernel
theorem dX9_init_30 : decode cX9_init 30 = .ok (.aload_n 0, 1) := by decide +kernel
theorem dX9_init_31 : decode cX9_init 31 = .ok (.iconst 5, 1) := by decide +kernel
theorem dX9_init_32 : decode cX9_init 32 = .ok (.newarray .int, 2) := by decide +kernel
theorem dX9_init_34 : decode cX9_init 34 = .ok (.putfield 29, 3) := by decide +kernel
theorem dX9_init_37 : decode cX9_init 37 = .ok (.aload_n 0, 1) := by decide +kernel
theorem dX9_init_38 : decode cX9_init 38 = .ok (.iconst 1, 1) := by decide +kernel
theorem dX9_init_39 : decode cX9_init 39 = .ok (.putfield 33, 3) := by decide +kernel
theorem dX9_init_42 : decode cX9_init 42 = .ok (.iconst 0, 1) := by decide +kernel
theorem dX9_init_43 : decode cX9_init 43 = .ok (.istore_n 1, 1) := by decide +kernel
theorem dX9_init_44 : decode cX9_init 44 = .ok (.iload_n 1, 1) := by decide +kernel
theorem dX9_init_45 : decode cX9_init 45 = .ok (.bipush 10, 2) := by decide +kernel
theorem dX9_init_47 : decode cX9_init 47 = .ok (.if_icmp .ge 22, 3) := by decide +kernel
theorem dX9_init_50 : decode cX9_init 50 = .ok (.aload_n 0, 1) := by decide +kernel
theorem dX9_init_51 : decode cX9_init 51 = .ok (.getfield 11, 3) := by decide +kernel
theorem dX9_init_54 : decode cX9_init 54 = .ok (.iload_n 1, 1) := by decide +kernel
theorem dX9_init_55 : decode cX9_init 55 = .ok (.new 9, 3) := by decide +kernel
theorem dX9_init_58 : decode cX9_init 58 = .ok (.dup, 1) := by decide +kernel
theorem dX9_init_59 : decode cX9_init 59 = .ok (.invokespecial 37, 3) := by decide +kernel
theorem dX9_init_62 : decode cX9_init 62 = .ok (.aastore, 1) := by decide +kernel
theorem dX9_init_63 : decode cX9_init 63 = .ok (.iinc 1 1, 3) := by decide +kernel
theorem dX9_init_66 : decode cX9_init 66 = .ok (.goto (-22), 3) := by decide +kernel
theorem dX9_init_69 : decode cX9_init 69 = .ok (.iconst 0, 1) := by decide +kernel
theorem dX9_init_70 : decode cX9_init 70 = .ok (.istore_n 1, 1) := by decide +kernel
theorem dX9_init_71 : decode cX9_init 71 = .ok (.iload_n 1, 1) := by decide +kernel
theorem dX9_init_72 : decode cX9_init 72 = .ok (.iconst 5, 1) := by decide +kernel
theorem dX9_init_73 : decode cX9_init 73 = .ok (.if_icmp .ge 22, 3) := by decide +kernel
theorem dX9_init_76 : decode cX9_init 76 = .ok (.aload_n 0, 1) := by decide +kernel
theorem dX9_init_77 : decode cX9_init 77 = .ok (.getfield 19, 3) := by decide +kernel
theorem dX9_init_80 : decode cX9_init 80 = .ok (.iload_n 1, 1) := by decide +kernel
theorem dX9_init_81 : decode cX9_init 81 = .ok (.new 17, 3) := by decide +kernel
theorem dX9_init_84 : decode cX9_init 84 = .ok (.dup, 1) := by decide +kernel
theorem dX9_init_85 : decode cX9_init 85 = .ok (.invokespecial 38, 3) := by decide +kernel
theorem dX9_init_88 : decode cX9_init 88 = .ok (.aastore, 1) := by decide +kernel
theorem dX9_init_89 : decode cX9_init 89 = .ok (.iinc 1 1, 3) := by decide +kernel
theorem dX9_init_92 : decode cX9_init 92 = .ok (.goto (-21), 3) := by decide +kernel
theorem dX9_init_95 : decode cX9_init 95 = .ok (.iconst 0, 1) := by decide +kernel
theorem dX9_init_96 : decode cX9_init 96 = .ok (.istore_n 1, 1) := by decide +kernel
theorem dX9_init_97 : decode cX9_init 97 = .ok (.iload_n 1, 1) := by decide +kernel
theorem dX9_init_98 : decode cX9_init 98 = .ok (.bipush 8, 2) := by decide +kernel
theorem dX9_init_100 : decode cX9_init 100 = .ok (.if_icmp .ge 22, 3) := by decide +kernel
theorem dX9_init_103 : decode cX9_init 103 = .ok (.aload_n 0, 1) := by decide +kernel
theorem dX9_init_104 : decode cX9_init 104 = .ok (.getfield 25, 3) := by decide +kernel
theorem dX9_init_107 : decode cX9_init 107 = .ok (.iload_n 1, 1) := by decide +kernel
theorem dX9_init_108 : decode cX9_init 108 = .ok (.new 23, 3) := by decide +kernel
theorem dX9_init_111 : decode cX9_init 111 = .ok (.dup, 1) := by decide +kernel
theorem dX9_init_112 : decode cX9_init 112 = .ok (.invokespecial 39, 3) := by decide +kernel
theorem dX9_init_115 : decode cX9_init 115 = .ok (.aastore, 1) := by decide +kernel
theorem dX9_init_116 : decode cX9_init 116 = .ok (.iinc 1 1, 3) := by decide +kernel
theorem dX9_init_119 : decode cX9_init 119 = .ok (.goto (-22), 3) := by decide +kernel
theorem dX9_init_122 : decode cX9_init 122 = .ok (.getstatic 40, 3) := by decide +kernel
theorem dX9_init_125 : decode cX9_init 125 = .ok (.iconst 0, 1) := by decide +kernel
theorem dX9_init_126 : decode cX9_init 126 = .ok (.aload_n 0, 1) := by decide +kernel
theorem dX9_init_127 : decode cX9_init 127 = .ok (.getfield 29, 3) := by decide +kernel
theorem dX9_init_130 : decode cX9_init 130 = .ok (.iconst 0, 1) := by decide +kernel
theorem dX9_init_131 : decode cX9_init 131 = .ok (.iconst 5, 1) := by decide +kernel
theorem dX9_init_132 : decode cX9_init 132 = .ok (.invokestatic 43, 3) := by decide +kernel
theorem dX9_init_135 : decode cX9_init 135 = .ok (.return_, 1) := by decide +kernel
set_option maxHeartbeats 4000000 in
set_option maxRecDepth 100000 in
theorem lp_twn1 {p : Program} {l : Launch} {e : Env} {R : Room} {s : State} {m : MethodId} {args : Array Value} {below : List Frame} {meth : Method} {c : Code} {Q : State → Prop} {N0 : Nat} {D : va_G} {cA : Nat → ClassId} {A : Nat → Prop} {q a : Nat} {fs : List Value} {tl : va_W} (hx : p.tables.exec = Jvm.exec) (hb : c.code = cX9_init) (hml : c.maxLocals = 2) (hown : s.vm.findClass "OrganCorners$Town" = some m.cls) (hts : ∀ w ∈ lwG, w.before args s = true) (hWI : WI N0 D cA s) (hA : ∀ z, s.heap.size ≤ z → A z) (hA1 : ∀ z, A z → jA N0 z) (hR1 : 3 ≤ R.frames) (hR2 : 120 ≤ R.locals) (hfs : fs[0]? = some (.ref a)) :
    ∀ n k, k + n = 10 → ∀ (h : Nat → Nat → Nat) (ls : Array Slot) (H : Heap) (locs : List Loc) (cells slots : Nat), lv_has ls 2 [(1, .int (Int32.ofNat k)), (0, .ref q)] → va_P D vwCl ((q, .inr (7, fs)) :: (a, .inl (cA 22, 10, .inr (.inr (.inr (.inr (ar k h)))))) :: (tl ++ fl (grpC cA) k h)) H → va_D A ((q, .inr (7, fs)) :: (a, .inl (cA 22, 10, .inr (.inr (.inr (.inr (ar k h)))))) :: (tl ++ fl (grpC cA) k h)) → va_S A s.heap H locs → cells + 2 * n ≤ R.cells → slots + 15 * n ≤ R.slots →
      (∀ (h : Nat → Nat → Nat) (ls : Array Slot) (H : Heap) (locs : List Loc), lv_has ls 2 [(1, .int (Int32.ofNat 10)), (0, .ref q)] → va_P D vwCl ((q, .inr (7, fs)) :: (a, .inl (cA 22, 10, .inr (.inr (.inr (.inr (ar 10 h)))))) :: (tl ++ fl (grpC cA) 10 h)) H → va_D A ((q, .inr (7, fs)) :: (a, .inl (cA 22, 10, .inr (.inr (.inr (.inr (ar 10 h)))))) :: (tl ++ fl (grpC cA) 10 h)) → va_S A s.heap H locs → W p l e R s m args below meth c H locs (cells + 2 * n) (slots + 15 * n) Q (F0 m 69 ls [])) →
      W p l e R s m args below meth c H locs cells slots Q (F0 m 44 ls []) := by
  intro n
  induction n with
  | zero =>
    intro k hk h ls H locs cells slots hl hP hD hS hc hs kx
    have hk9 : k = 10 := by omega
    subst hk9
    refine lv_iload_n hx hb dX9_init_44 rfl (lv_at hl 0 rfl) ?_
    refine lv_bipush (v := 10) hx hb dX9_init_45 rfl ?_
    refine lv_icmp_ge (tgt := 69) hx hb dX9_init_47 (by decide) (fun _ => ?_) (fun z => absurd (by decide) z)
    exact kx h ls H locs hl hP hD hS
  | succ n ih =>
    intro k hk h ls H locs cells slots hl hP hD hS hc hs kx
    have hK := hWI.1
    have hk9 : k < 10 := by omega
    refine lv_iload_n hx hb dX9_init_44 rfl (lv_at hl 0 rfl) ?_
    refine lv_bipush (v := 10) hx hb dX9_init_45 rfl ?_
    refine lv_icmp_ge (tgt := 69) hx hb dX9_init_47 (by decide) (fun z => absurd z (ct_le 10 (by decide) k hk9)) (fun _ => ?_)
    refine lv_aload_n hx hb dX9_init_50 rfl (lv_at hl 1 rfl) ?_
    refine k_get (ci := 7) (j := 0) hx hb hown hts hK hP (by decide) (Nat.le_of_ble_eq_true rfl) (tix_in (q := (1, 157)) rfl rfl) hfs dX9_init_51 ?_
    refine lv_iload_n hx hb dX9_init_54 rfl (lv_at hl 0 rfl) ?_
    refine k_new (ci := 0) (N := 5) hx hb hown hts hK hP hD hS hA (by decide) (tix_in (q := (1, 39)) rfl rfl) (tix_in (q := (1, 45)) rfl rfl) (tix_in (q := (1, 3)) rfl rfl) rfl (by omega) (by omega) dX9_init_55 ?_
    intro q1 H1 hq1 hAq1 hP hD hS
    refine lv_dup hx hb dX9_init_58 rfl ?_
    refine k_ctorN (k := 0) (maxL := 1) (grp := grpC cA) cm_cor hx hb hml hl.1 hown hts hWI hP hD hS hA1 hA hq1 hAq1 hWI.2.2.2.1 (tix_in (q := (1, 47)) rfl rfl) (tix_in (q := (1, 3)) rfl rfl) (tix_in (q := (1, 48)) rfl rfl) rfl (by decide +kernel) ⟨Nat.le_trans (Nat.le_of_ble_eq_true rfl) hR1, Nat.le_trans (Nat.le_of_ble_eq_true rfl) hR2⟩ (Nat.le_of_ble_eq_true rfl) dX9_init_59 ⟨by show _ + 1 ≤ _; omega, by show _ + 10 ≤ _; omega⟩ ?_
    intro g9 H2 L2 hg9 hP hD hS
    rw [← hg9]
    have hlen : (((q, .inr (7, fs)) :: (a, .inl (cA 22, 10, .inr (.inr (.inr (.inr (ar k h)))))) :: (tl ++ fl (grpC cA) k h)) ++ grpC cA g9)[((q, .inr (7, fs)) :: (a, .inl (cA 22, 10, .inr (.inr (.inr (.inr (ar k h)))))) :: (tl ++ fl (grpC cA) k h) : va_W).length]? = some (g9 0, .inr (0, [.int 0, .int 0, .int 0, .int 0, .ref (g9 1)])) := by
      rw [List.getElem?_append_right (Nat.le_refl _), Nat.sub_self]
      rfl
    refine va_astq hx hb hK hP hD hS 1 2 _ 0 rfl rfl hlen rfl (ct_in 10 (by decide) k hk9) dX9_init_62 ?_
    rw [ct_nat k (by omega), ar_succ]
    intro H3 L3 hP hD hS
    have hP : va_P D vwCl ((q, .inr (7, fs)) :: (a, .inl (cA 22, 10, .inr (.inr (.inr (.inr (ar (k + 1) (sw h k g9))))))) :: ((tl ++ fl (grpC cA) k h) ++ grpC cA g9)) H3 := hP
    have hD : va_D A ((q, .inr (7, fs)) :: (a, .inl (cA 22, 10, .inr (.inr (.inr (.inr (ar (k + 1) (sw h k g9))))))) :: ((tl ++ fl (grpC cA) k h) ++ grpC cA g9)) := hD
    rw [List.append_assoc, fl_succ] at hP hD
    refine lv_iinc (k := 0) hx hb dX9_init_63 hl rfl (ct_succ k (by omega)) (by decide) rfl (fun ls2 hl2 => ?_)
    refine lv_goto (tgt := 44) hx hb dX9_init_66 (by decide) ?_
    refine ih (k + 1) (by omega) (sw h k g9) ls2 H3 L3 _ _ hl2 hP hD hS (by show _ + 1 + _ ≤ _; omega) (by show _ + 10 + _ ≤ _; omega) (fun h ls H locs a1 a2 a3 a4 => ?_)
    have := kx h ls H locs a1 a2 a3 a4
    have e1 : cells + 2 * (n + 1) = cells + 1 + 1 + 2 * n := by omega
    have e2 : slots + 15 * (n + 1) = slots + 5 + 10 + 15 * n := by omega
    rw [e1, e2] at this
    exact this
set_option maxHeartbeats 4000000 in
set_option maxRecDepth 100000 in
theorem lp_twn2 {p : Program} {l : Launch} {e : Env} {R : Room} {s : State} {m : MethodId} {args : Array Value} {below : List Frame} {meth : Method} {c : Code} {Q : State → Prop} {N0 : Nat} {D : va_G} {cA : Nat → ClassId} {A : Nat → Prop} {q a : Nat} {fs : List Value} {tl : va_W} {x1 : Nat × va_E} (hx : p.tables.exec = Jvm.exec) (hb : c.code = cX9_init) (hml : c.maxLocals = 2) (hown : s.vm.findClass "OrganCorners$Town" = some m.cls) (hts : ∀ w ∈ lwG, w.before args s = true) (hWI : WI N0 D cA s) (hA : ∀ z, s.heap.size ≤ z → A z) (hA1 : ∀ z, A z → jA N0 z) (hR1 : 3 ≤ R.frames) (hR2 : 120 ≤ R.locals) (hfs : fs[1]? = some (.ref a)) :
    ∀ n k, k + n = 5 → ∀ (h : Nat → Nat → Nat) (ls : Array Slot) (H : Heap) (locs : List Loc) (cells slots : Nat), lv_has ls 2 [(1, .int (Int32.ofNat k)), (0, .ref q)] → va_P D vwCl ((q, .inr (7, fs)) :: x1 :: (a, .inl (cA 23, 5, .inr (.inr (.inr (.inr (ar k h)))))) :: (tl ++ fl (grpO cA) k h)) H → va_D A ((q, .inr (7, fs)) :: x1 :: (a, .inl (cA 23, 5, .inr (.inr (.inr (.inr (ar k h)))))) :: (tl ++ fl (grpO cA) k h)) → va_S A s.heap H locs → cells + 1 * n ≤ R.cells → slots + 8 * n ≤ R.slots →
      (∀ (h : Nat → Nat → Nat) (ls : Array Slot) (H : Heap) (locs : List Loc), lv_has ls 2 [(1, .int (Int32.ofNat 5)), (0, .ref q)] → va_P D vwCl ((q, .inr (7, fs)) :: x1 :: (a, .inl (cA 23, 5, .inr (.inr (.inr (.inr (ar 5 h)))))) :: (tl ++ fl (grpO cA) 5 h)) H → va_D A ((q, .inr (7, fs)) :: x1 :: (a, .inl (cA 23, 5, .inr (.inr (.inr (.inr (ar 5 h)))))) :: (tl ++ fl (grpO cA) 5 h)) → va_S A s.heap H locs → W p l e R s m args below meth c H locs (cells + 1 * n) (slots + 8 * n) Q (F0 m 95 ls [])) →
      W p l e R s m args below meth c H locs cells slots Q (F0 m 71 ls []) := by
  intro n
  induction n with
  | zero =>
    intro k hk h ls H locs cells slots hl hP hD hS hc hs kx
    have hk9 : k = 5 := by omega
    subst hk9
    refine lv_iload_n hx hb dX9_init_71 rfl (lv_at hl 0 rfl) ?_
    refine lv_iconst (v := 5) hx hb dX9_init_72 rfl ?_
    refine lv_icmp_ge (tgt := 95) hx hb dX9_init_73 (by decide) (fun _ => ?_) (fun z => absurd (by decide) z)
    exact kx h ls H locs hl hP hD hS
  | succ n ih =>
    intro k hk h ls H locs cells slots hl hP hD hS hc hs kx
    have hK := hWI.1
    have hk9 : k < 5 := by omega
    refine lv_iload_n hx hb dX9_init_71 rfl (lv_at hl 0 rfl) ?_
    refine lv_iconst (v := 5) hx hb dX9_init_72 rfl ?_
    refine lv_icmp_ge (tgt := 95) hx hb dX9_init_73 (by decide) (fun z => absurd z (ct_le 5 (by decide) k hk9)) (fun _ => ?_)
    refine lv_aload_n hx hb dX9_init_76 rfl (lv_at hl 1 rfl) ?_
    refine k_get (ci := 7) (j := 1) hx hb hown hts hK hP (by decide) (Nat.le_of_ble_eq_true rfl) (tix_in (q := (1, 159)) rfl rfl) hfs dX9_init_77 ?_
    refine lv_iload_n hx hb dX9_init_80 rfl (lv_at hl 0 rfl) ?_
    refine k_new (ci := 2) (N := 8) hx hb hown hts hK hP hD hS hA (by decide) (tix_in (q := (1, 41)) rfl rfl) (tix_in (q := (1, 73)) rfl rfl) (tix_in (q := (1, 4)) rfl rfl) rfl (by omega) (by omega) dX9_init_81 ?_
    intro q1 H1 hq1 hAq1 hP hD hS
    refine lv_dup hx hb dX9_init_84 rfl ?_
    refine k_ctorN (k := 0) (maxL := 1) (grp := grpO cA) cm_org hx hb hml hl.1 hown hts hWI hP hD hS hA1 hA hq1 hAq1 hWI.2.2.2.2.1 (tix_in (q := (1, 75)) rfl rfl) (tix_in (q := (1, 4)) rfl rfl) (tix_in (q := (1, 76)) rfl rfl) rfl (by decide +kernel) ⟨Nat.le_trans (Nat.le_of_ble_eq_true rfl) hR1, Nat.le_trans (Nat.le_of_ble_eq_true rfl) hR2⟩ (Nat.le_of_ble_eq_true rfl) dX9_init_85 ⟨by show _ + 0 ≤ _; omega, by show _ + 0 ≤ _; omega⟩ ?_
    intro g9 H2 L2 hg9 hP hD hS
    rw [← hg9]
    have hlen : (((q, .inr (7, fs)) :: x1 :: (a, .inl (cA 23, 5, .inr (.inr (.inr (.inr (ar k h)))))) :: (tl ++ fl (grpO cA) k h)) ++ grpO cA g9)[((q, .inr (7, fs)) :: x1 :: (a, .inl (cA 23, 5, .inr (.inr (.inr (.inr (ar k h)))))) :: (tl ++ fl (grpO cA) k h) : va_W).length]? = some (g9 0, .inr (2, [.int 0, .int 0, .int 0, .int (-1), .int 0, .int 0, .int 0, .int (-1)])) := by
      rw [List.getElem?_append_right (Nat.le_refl _), Nat.sub_self]
      rfl
    refine va_astq hx hb hK hP hD hS 2 3 _ 2 rfl rfl hlen rfl (ct_in 5 (by decide) k hk9) dX9_init_88 ?_
    rw [ct_nat k (by omega), ar_succ]
    intro H3 L3 hP hD hS
    have hP : va_P D vwCl ((q, .inr (7, fs)) :: x1 :: (a, .inl (cA 23, 5, .inr (.inr (.inr (.inr (ar (k + 1) (sw h k g9))))))) :: ((tl ++ fl (grpO cA) k h) ++ grpO cA g9)) H3 := hP
    have hD : va_D A ((q, .inr (7, fs)) :: x1 :: (a, .inl (cA 23, 5, .inr (.inr (.inr (.inr (ar (k + 1) (sw h k g9))))))) :: ((tl ++ fl (grpO cA) k h) ++ grpO cA g9)) := hD
    rw [List.append_assoc, fl_succ] at hP hD
    refine lv_iinc (k := 0) hx hb dX9_init_89 hl rfl (ct_succ k (by omega)) (by decide) rfl (fun ls2 hl2 => ?_)
    refine lv_goto (tgt := 71) hx hb dX9_init_92 (by decide) ?_
    refine ih (k + 1) (by omega) (sw h k g9) ls2 H3 L3 _ _ hl2 hP hD hS (by show _ + 0 + _ ≤ _; omega) (by show _ + 0 + _ ≤ _; omega) (fun h ls H locs a1 a2 a3 a4 => ?_)
    have := kx h ls H locs a1 a2 a3 a4
    have e1 : cells + 1 * (n + 1) = cells + 1 + 0 + 1 * n := by omega
    have e2 : slots + 8 * (n + 1) = slots + 8 + 0 + 8 * n := by omega
    rw [e1, e2] at this
    exact this
set_option maxHeartbeats 4000000 in
set_option maxRecDepth 100000 in
theorem lp_twn3 {p : Program} {l : Launch} {e : Env} {R : Room} {s : State} {m : MethodId} {args : Array Value} {below : List Frame} {meth : Method} {c : Code} {Q : State → Prop} {N0 : Nat} {D : va_G} {cA : Nat → ClassId} {A : Nat → Prop} {q a : Nat} {fs : List Value} {tl : va_W} {x1 : Nat × va_E} {x2 : Nat × va_E} (hx : p.tables.exec = Jvm.exec) (hb : c.code = cX9_init) (hml : c.maxLocals = 2) (hown : s.vm.findClass "OrganCorners$Town" = some m.cls) (hts : ∀ w ∈ lwG, w.before args s = true) (hWI : WI N0 D cA s) (hA : ∀ z, s.heap.size ≤ z → A z) (hA1 : ∀ z, A z → jA N0 z) (hR1 : 3 ≤ R.frames) (hR2 : 120 ≤ R.locals) (hfs : fs[2]? = some (.ref a)) :
    ∀ n k, k + n = 8 → ∀ (h : Nat → Nat → Nat) (ls : Array Slot) (H : Heap) (locs : List Loc) (cells slots : Nat), lv_has ls 2 [(1, .int (Int32.ofNat k)), (0, .ref q)] → va_P D vwCl ((q, .inr (7, fs)) :: x1 :: x2 :: (a, .inl (cA 24, 8, .inr (.inr (.inr (.inr (ar k h)))))) :: (tl ++ fl (grpP cA) k h)) H → va_D A ((q, .inr (7, fs)) :: x1 :: x2 :: (a, .inl (cA 24, 8, .inr (.inr (.inr (.inr (ar k h)))))) :: (tl ++ fl (grpP cA) k h)) → va_S A s.heap H locs → cells + 2 * n ≤ R.cells → slots + 10 * n ≤ R.slots →
      (∀ (h : Nat → Nat → Nat) (ls : Array Slot) (H : Heap) (locs : List Loc), lv_has ls 2 [(1, .int (Int32.ofNat 8)), (0, .ref q)] → va_P D vwCl ((q, .inr (7, fs)) :: x1 :: x2 :: (a, .inl (cA 24, 8, .inr (.inr (.inr (.inr (ar 8 h)))))) :: (tl ++ fl (grpP cA) 8 h)) H → va_D A ((q, .inr (7, fs)) :: x1 :: x2 :: (a, .inl (cA 24, 8, .inr (.inr (.inr (.inr (ar 8 h)))))) :: (tl ++ fl (grpP cA) 8 h)) → va_S A s.heap H locs → W p l e R s m args below meth c H locs (cells + 2 * n) (slots + 10 * n) Q (F0 m 122 ls [])) →
      W p l e R s m args below meth c H locs cells slots Q (F0 m 97 ls []) := by
  intro n
  induction n with
  | zero =>
    intro k hk h ls H locs cells slots hl hP hD hS hc hs kx
    have hk9 : k = 8 := by omega
    subst hk9
    refine lv_iload_n hx hb dX9_init_97 rfl (lv_at hl 0 rfl) ?_
    refine lv_bipush (v := 8) hx hb dX9_init_98 rfl ?_
    refine lv_icmp_ge (tgt := 122) hx hb dX9_init_100 (by decide) (fun _ => ?_) (fun z => absurd (by decide) z)
    exact kx h ls H locs hl hP hD hS
  | succ n ih =>
    intro k hk h ls H locs cells slots hl hP hD hS hc hs kx
    have hK := hWI.1
    have hk9 : k < 8 := by omega
    refine lv_iload_n hx hb dX9_init_97 rfl (lv_at hl 0 rfl) ?_
    refine lv_bipush (v := 8) hx hb dX9_init_98 rfl ?_
    refine lv_icmp_ge (tgt := 122) hx hb dX9_init_100 (by decide) (fun z => absurd z (ct_le 8 (by decide) k hk9)) (fun _ => ?_)
    refine lv_aload_n hx hb dX9_init_103 rfl (lv_at hl 1 rfl) ?_
    refine k_get (ci := 7) (j := 2) hx hb hown hts hK hP (by decide) (Nat.le_of_ble_eq_true rfl) (tix_in (q := (1, 162)) rfl rfl) hfs dX9_init_104 ?_
    refine lv_iload_n hx hb dX9_init_107 rfl (lv_at hl 0 rfl) ?_
    refine k_new (ci := 5) (N := 5) hx hb hown hts hK hP hD hS hA (by decide) (tix_in (q := (1, 43)) rfl rfl) (tix_in (q := (1, 120)) rfl rfl) (tix_in (q := (1, 5)) rfl rfl) rfl (by omega) (by omega) dX9_init_108 ?_
    intro q1 H1 hq1 hAq1 hP hD hS
    refine lv_dup hx hb dX9_init_111 rfl ?_
    refine k_ctorN (k := 0) (maxL := 1) (grp := grpP cA) cm_ply hx hb hml hl.1 hown hts hWI hP hD hS hA1 hA hq1 hAq1 hWI.2.2.2.2.2.1 (tix_in (q := (1, 122)) rfl rfl) (tix_in (q := (1, 5)) rfl rfl) (tix_in (q := (1, 123)) rfl rfl) rfl (by decide +kernel) ⟨Nat.le_trans (Nat.le_of_ble_eq_true rfl) hR1, Nat.le_trans (Nat.le_of_ble_eq_true rfl) hR2⟩ (Nat.le_of_ble_eq_true rfl) dX9_init_112 ⟨by show _ + 1 ≤ _; omega, by show _ + 5 ≤ _; omega⟩ ?_
    intro g9 H2 L2 hg9 hP hD hS
    rw [← hg9]
    have hlen : (((q, .inr (7, fs)) :: x1 :: x2 :: (a, .inl (cA 24, 8, .inr (.inr (.inr (.inr (ar k h)))))) :: (tl ++ fl (grpP cA) k h)) ++ grpP cA g9)[((q, .inr (7, fs)) :: x1 :: x2 :: (a, .inl (cA 24, 8, .inr (.inr (.inr (.inr (ar k h)))))) :: (tl ++ fl (grpP cA) k h) : va_W).length]? = some (g9 0, .inr (5, [.int (-1), .int 0, .int 0, .int 0, .ref (g9 1)])) := by
      rw [List.getElem?_append_right (Nat.le_refl _), Nat.sub_self]
      rfl
    refine va_astq hx hb hK hP hD hS 3 4 _ 5 rfl rfl hlen rfl (ct_in 8 (by decide) k hk9) dX9_init_115 ?_
    rw [ct_nat k (by omega), ar_succ]
    intro H3 L3 hP hD hS
    have hP : va_P D vwCl ((q, .inr (7, fs)) :: x1 :: x2 :: (a, .inl (cA 24, 8, .inr (.inr (.inr (.inr (ar (k + 1) (sw h k g9))))))) :: ((tl ++ fl (grpP cA) k h) ++ grpP cA g9)) H3 := hP
    have hD : va_D A ((q, .inr (7, fs)) :: x1 :: x2 :: (a, .inl (cA 24, 8, .inr (.inr (.inr (.inr (ar (k + 1) (sw h k g9))))))) :: ((tl ++ fl (grpP cA) k h) ++ grpP cA g9)) := hD
    rw [List.append_assoc, fl_succ] at hP hD
    refine lv_iinc (k := 0) hx hb dX9_init_116 hl rfl (ct_succ k (by omega)) (by decide) rfl (fun ls2 hl2 => ?_)
    refine lv_goto (tgt := 97) hx hb dX9_init_119 (by decide) ?_
    refine ih (k + 1) (by omega) (sw h k g9) ls2 H3 L3 _ _ hl2 hP hD hS (by show _ + 1 + _ ≤ _; omega) (by show _ + 5 + _ ≤ _; omega) (fun h ls H locs a1 a2 a3 a4 => ?_)
    have := kx h ls H locs a1 a2 a3 a4
    have e1 : cells + 2 * (n + 1) = cells + 1 + 1 + 2 * n := by omega
    have e2 : slots + 10 * (n + 1) = slots + 5 + 5 + 10 * n := by omega
    rw [e1, e2] at this
    exact this
end CTORD
