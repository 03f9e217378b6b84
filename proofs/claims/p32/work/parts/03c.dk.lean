/-! EQUATIONS OVER Exec: the combinators, and the rows that lay them -/
section DK
variable {m lv : Nat} {M : MI} {s s' a b : PS} {x y : Option PO}
def chk (c : Prop) [Decidable c] (x : Option PO) : Option PO := if c then x else none
def exM (μ : PM) : PM := (μ.1, μ.2.1, μ.2.2.1, μ.2.2.2 + 1000000)
/-- a memory by name -/
def lt (μ : PM) (f : PM → Option PO) : Option PO := f μ
def bI (d : Option PO) (f : Int32 → PM → Option PO) : Option PO := match d with
  | some (.inl (some (.int v)), μ) => f v μ
  | some (.inr k, μ) => some (.inr k, μ)
  | _ => none
def bJ (d : Option PO) (f : Int64 → PM → Option PO) : Option PO := match d with
  | some (.inl (some (.long v)), μ) => f v μ
  | some (.inr k, μ) => some (.inr k, μ)
  | _ => none
def bDb (d : Option PO) (f : UInt64 → PM → Option PO) : Option PO := match d with
  | some (.inl (some (.double v)), μ) => f v μ
  | some (.inr k, μ) => some (.inr k, μ)
  | _ => none
def bV (d : Option PO) (f : PM → Option PO) : Option PO := match d with
  | some (.inl none, μ) => f μ
  | some (.inr k, μ) => some (.inr k, μ)
  | _ => none
def bR (d : Option PO) (f : Nat → PM → Option PO) (g : PM → Option PO) : Option PO := match d with
  | some (.inl (some (.ref k)), μ) => f k μ
  | some (.inl (some .null), μ) => g μ
  | some (.inr k, μ) => some (.inr k, μ)
  | _ => none
def bH (d : Option PO) (f : Int32 → PM → Option PO) (g : Nat → PM → Option PO) : Option PO := match d with
  | some (.inl (some (.int v)), μ) => f v μ
  | some (.inr k, μ) => g k μ
  | _ => none
theorem Exec_no (h : ∀ n o, prun n m lv s ≠ some o) : Exec m lv s = none := by
  cases he : Exec m lv s with
  | none => rfl
  | some o => obtain ⟨n, hn⟩ := Exec_iff.mp he; exact absurd hn (h n o)
theorem Exec_stuck (hM : mtab m = some M) (h : pstep M s = none) : Exec m lv s = none := Exec_no fun n o hn => by
  cases n with
  | zero => cases hn
  | succ n => rw [prun, hM] at hn; simp only [h] at hn; cases hn
theorem stuck_run (n : Nat) (hM : mtab m = some M) (h : pblk M n s = none) : Exec m lv s = none := by
  obtain ⟨t, e, h'⟩ := pblk_run (lv := lv) hM _ _ _ h
  exact e.trans (Exec_stuck hM h')
noncomputable def aftE (m lv : Nat) (M : MI) (pc : Nat) (ls st : List Value) (o : PO) : Option PO := match aft M pc ls st o with
  | some (.inl s') => Exec m lv s'
  | some (.inr (.inr o2)) => some o2
  | _ => none
theorem Exec_callG {c pc : Nat} {as ls st : List Value} {μ : PM} (hM : mtab m = some M) (h : pstep M s = some (.inr (.inl (c, as, pc, ls, st, μ)))) (hl : lvl c as < lv) :
    Exec m lv s = match Den c as μ with
      | none => none
      | some o => aftE m lv M pc ls st o := by
  cases hd : Den c as μ with
  | none =>
    refine Exec_no fun n o hn => ?_
    cases n with
    | zero => cases hn
    | succ n =>
      rw [prun, hM] at hn
      simp only [h, if_pos hl] at hn
      split at hn
      · cases hn
      · rename_i o1 ho
        have := Exec_of ho
        unfold Den at hd
        rw [hd] at this
        cases this
  | some o =>
    show _ = aftE m lv M pc ls st o
    unfold aftE
    cases ha : aft M pc ls st o with
    | some r =>
      match r, ha with
      | .inl s', ha => exact Exec_call1 hM h hl hd ha
      | .inr (.inr o2), ha => exact Exec_callT1 hM h hl hd ha
      | .inr (.inl z), ha =>
        refine Exec_no fun n o2 hn => ?_
        cases n with
        | zero => cases hn
        | succ n =>
          rw [prun, hM] at hn
          simp only [h, if_pos hl] at hn
          split at hn
          · cases hn
          · rename_i o1 ho
            obtain ⟨k, hk⟩ := Exec_iff.mp hd
            cases prun_det ho hk
            rw [ha] at hn
            cases hn
    | none =>
      refine Exec_no fun n o2 hn => ?_
      cases n with
      | zero => cases hn
      | succ n =>
        rw [prun, hM] at hn
        simp only [h, if_pos hl] at hn
        split at hn
        · cases hn
        · rename_i o1 ho
          obtain ⟨k, hk⟩ := Exec_iff.mp hd
          cases prun_det ho hk
          rw [ha] at hn
          cases hn
/-- what a method's type says of its answer -/
def shp (r : Nat) (v : Option Value) : Prop := match r with
  | 0 => v = none
  | 1 => ∃ q, v = some (.int q)
  | 2 => ∃ q, v = some (.int q)
  | 3 => ∃ q, v = some (.long q)
  | 4 => ∃ q, v = some (.double q)
  | 5 => v = some .null ∨ ∃ q, v = some (.ref q)
  | _ => False
theorem irt_shp {rt : Nat} {st : List Value} {μ μ' : PM} {v : Option Value} (h : irt rt st μ = some (.inr (.inr (.inl v, μ')))) : shp rt v := by
  unfold irt at h
  split at h
  · split at h
    · cases h; exact ⟨_, rfl⟩
    · split at h
      · cases h; exact ⟨_, rfl⟩
      · cases h
    · cases h
  · cases h
theorem jrt_shp {rt : Nat} {st : List Value} {μ μ' : PM} {v : Option Value} (h : jrt rt st μ = some (.inr (.inr (.inl v, μ')))) : shp rt v := by
  unfold jrt at h
  split at h
  · cases h; exact ⟨_, rfl⟩
  · cases h
theorem drt_shp {rt : Nat} {st : List Value} {μ μ' : PM} {v : Option Value} (h : drt rt st μ = some (.inr (.inr (.inl v, μ')))) : shp rt v := by
  unfold drt at h
  split at h
  · cases h; exact ⟨_, rfl⟩
  · cases h
theorem art_shp {rt : Nat} {st : List Value} {μ μ' : PM} {v : Option Value} (h : art rt st μ = some (.inr (.inr (.inl v, μ')))) : shp rt v := by
  unfold art at h
  split at h
  · cases h; exact Or.inr ⟨_, rfl⟩
  · cases h; exact Or.inl rfl
  · cases h
theorem vrt_shp {rt : Nat} {st : List Value} {μ μ' : PM} {v : Option Value} (h : vrt rt st μ = some (.inr (.inr (.inl v, μ')))) : shp rt v := by
  unfold vrt at h
  split at h
  · cases h; rfl
  · cases h
theorem ivV_ret {pl : Nat → Ent} {pc ix : Nat} {ls st : List Value} {μ : PM} {o : PO} (h : ivV pl pc ix ls st μ = some (.inr (.inr o))) : False := by
  unfold ivV at h
  split at h
  · split at h
    · rename_i n na ci _ _ k _
      cases hq : Nat.ble (catS (st.drop na)) 8 <;> rw [hq] at h
      · cases h
      · simp only [cond_true] at h
        split at h <;> cases h
    · cases h
  · rename_i id _ _ _
    cases hq : Nat.ble 5 id <;> rw [hq] at h
    · cases h
    · exact jdk_no h
  · cases h
theorem ivS_ret {pl : Nat → Ent} {pc ix : Nat} {ls st : List Value} {μ : PM} {o : PO} (h : ivS pl pc ix ls st μ = some (.inr (.inr o))) : False := by
  unfold ivS at h
  split at h
  · rename_i n na _ _
    cases hq : Nat.ble na st.length && Nat.ble (catS (st.drop na)) 8 <;> rw [hq] at h <;> cases h
  · rename_i n na _ _
    cases hq : Nat.ble na st.length && Nat.ble (catS (st.drop na)) 8 <;> rw [hq] at h <;> cases h
  · rename_i id _ _ _
    cases hq : Nat.blt id 5 <;> rw [hq] at h
    · cases h
    · exact jdk_no h
  · cases h
theorem thr_ret {cs : Chunks} {pl : Nat → Ent} {pc ix : Nat} {st : List Value} {μ μ' : PM} {v : Option Value} (h : thr cs pl pc ix st μ = some (.inr (.inr (.inl v, μ')))) : False := by
  unfold thr at h
  repeat' (split at h)
  all_goals (first | cases h | (cases hq : st.isEmpty <;> rw [hq] at h <;> cases h))
theorem pstep_shp {v : Option Value} {μ' : PM} (h : pstep M s = some (.inr (.inr (.inl v, μ')))) : shp M.2.2.1 v := by
  obtain ⟨pc, ls, st, μ⟩ := s
  unfold pstep at h
  simp only at h
  split at h
  · cases h
  · rcases pex_inr h with ⟨ix, -, h⟩ | ⟨ix, -, h⟩ | ⟨ix, -, h⟩ | ⟨-, h⟩ | ⟨-, h⟩ | ⟨-, h⟩ | ⟨-, h⟩ | ⟨-, h⟩
    · exact (ivV_ret h).elim
    · exact (ivS_ret h).elim
    · exact (thr_ret h).elim
    · exact art_shp h
    · exact drt_shp h
    · exact irt_shp h
    · exact jrt_shp h
    · exact vrt_shp h
theorem nx_inl {pc : Nat} {ls st : List Value} {μ : PM} : nx pc ls st μ = some (.inl (pc, ls, st, μ)) := rfl
theorem aft_inr {pc : Nat} {ls st : List Value} {o o2 : PO} (h : aft M pc ls st o = some (.inr (.inr o2))) : ∃ k, o2.1 = .inr k := by
  unfold aft at h
  split at h
  · cases h
  · cases h
  · split at h
    · cases h; exact ⟨_, rfl⟩
    · split at h
      · exact (st1_no h).elim
      · exact (st1_no h).elim
      · cases h
theorem prun_shp : ∀ (n m lv : Nat) (s : PS) (v : Option Value) (μ : PM) (M : MI), mtab m = some M → prun n m lv s = some (.inl v, μ) → shp M.2.2.1 v := by
  intro n
  induction n with
  | zero => intro m lv s v μ M _ h; cases h
  | succ n ih =>
    intro m lv s v μ M hM h
    rw [prun, hM] at h
    simp only at h
    split at h
    · cases h
    · exact ih _ _ _ _ _ _ hM h
    · rename_i o he
      cases h
      exact pstep_shp he
    · split at h
      · split at h
        · cases h
        · rename_i o ho
          split at h
          · exact ih _ _ _ _ _ _ hM h
          · rename_i o2 ha
            cases h
            obtain ⟨k, hk⟩ := aft_inr ha
            cases hk
          · cases h
      · cases h
def rtN (d : Nat) : Nat := match mtab d with
  | some M => M.2.2.1
  | none => 9
theorem Den_shp {d : Nat} {as : List Value} {μ μ' : PM} {v : Option Value} (h : Den d as μ = some (.inl v, μ')) : shp (rtN d) v := by
  obtain ⟨n, hn⟩ := Exec_iff.mp h
  cases hM : mtab d with
  | none =>
    cases n with
    | zero => cases hn
    | succ n => rw [prun, hM] at hn; cases hn
  | some M =>
    have := prun_shp n d _ _ v μ' M hM hn
    unfold rtN
    rw [hM]
    exact this
theorem t_N (n : Nat) (hM : mtab m = some M) (h : pblk M n s = some (.inl s')) (k : Exec m lv s' = x) : Exec m lv s = x := (xN n hM h).trans k
theorem t_D {o : PO} (n : Nat) (hM : mtab m = some M) (h : pblk M n s = some (.inr (.inr o))) : Exec m lv s = some o := xD n hM h
theorem t_B {c : Prop} [Decidable c] (n : Nat) (hM : mtab m = some M) (h : pblk M n s = if c then some (.inl a) else some (.inl b)) (k1 : c → Exec m lv a = x) (k2 : ¬ c → Exec m lv b = y) : Exec m lv s = if c then x else y := by
  rw [xB n hM h]
  by_cases hc : c
  · rw [if_pos hc, if_pos hc]; exact k1 hc
  · rw [if_neg hc, if_neg hc]; exact k2 hc
theorem t_BA {q c : Prop} [Decidable q] [Decidable c] (n : Nat) (hM : mtab m = some M) (h : pblk M n s = if q then (if c then some (.inl a) else some (.inl b)) else none) (hq : q) (k1 : c → Exec m lv a = x) (k2 : ¬ c → Exec m lv b = y) : Exec m lv s = if c then x else y := by
  rw [if_pos hq] at h
  exact t_B n hM h k1 k2
theorem t_chk {c : Prop} [Decidable c] {r : Option SR} (n : Nat) (hM : mtab m = some M) (h : pblk M n s = if c then r else none) (k : c → Exec m lv s = x) : Exec m lv s = chk c x := by
  unfold chk
  by_cases hc : c
  · rw [if_pos hc]; exact k hc
  · rw [if_neg hc] at h ⊢
    exact stuck_run n hM h
theorem t_chkO {c d : Prop} [Decidable c] [Decidable d] {r : Option SR} (n : Nat) (hM : mtab m = some M) (h : pblk M n s = if d then r else none) (f : d → c) (k : c → Exec m lv s = x) : Exec m lv s = chk c x := by
  unfold chk
  by_cases hc : c
  · rw [if_pos hc]; exact k hc
  · rw [if_neg hc]
    rw [if_neg (fun hd => hc (f hd))] at h
    exact stuck_run n hM h
theorem t_KT {c : Prop} [Decidable c] (n : Nat) (hM : mtab m = some M) (hc : c) (h : pblk M n s = if c then some (.inl s') else none) (k : Exec m lv s' = x) : Exec m lv s = x := by
  rw [if_pos hc] at h
  exact t_N n hM h k
theorem t_KD {c : Prop} [Decidable c] {o : PO} (n : Nat) (hM : mtab m = some M) (h : pblk M n s = if c then some (.inr (.inr o)) else none) : Exec m lv s = chk c (some o) := by
  unfold chk
  by_cases hc : c
  · rw [if_pos hc] at h ⊢; exact xD n hM h
  · rw [if_neg hc] at h ⊢; exact stuck_run n hM h
theorem alI_20 {pc k : Nat} {i : Int32} {ls r : List Value} {μ : PM} (hk : cls k = 20) : alI pc ls (.int i :: .ref k :: r) μ = if inb i (len k) = true then some (.inl (pc + 1, ls, .int (mI μ k i.toNatClampNeg) :: r, μ)) else none := by
  simp only [alI, okA_20 hk, hk, true_and, nx]
  split
  · rfl
  · simp
theorem alI_g {pc k : Nat} {i : Int32} {ls r : List Value} {μ : PM} (hk : okA μ k = true) : alI pc ls (.int i :: .ref k :: r) μ = if inb i (len k) = true then some (.inl (pc + 1, ls, .int (mI μ k i.toNatClampNeg) :: r, μ)) else none := by
  rcases okA_c hk with h | h
  · exact alI_20 h
  · simp [alI, hk, h.1, nx]
theorem asI_g {pc k : Nat} {i v : Int32} {ls r : List Value} {μ : PM} (hk : okA μ k = true) : asI pc ls (.int v :: .int i :: .ref k :: r) μ = if inb i (len k) = true then some (.inl (pc + 1, ls, r, stI μ k i.toNatClampNeg v)) else none := by
  simp [asI, hk, nx]
theorem alI_25 {pc k : Nat} {i : Int32} {ls r : List Value} {μ : PM} (hk : cls k = 25) : alI pc ls (.int i :: .ref k :: r) μ = if inb i μ.2.2.1 = true then some (.inl (pc + 1, ls, .int (mI μ k i.toNatClampNeg) :: r, μ)) else none := by
  simp [alI, okA, hk, nx]
theorem alI_27 {pc k : Nat} {i : Int32} {ls r : List Value} {μ : PM} (hk : cls k = 27) : alI pc ls (.int i :: .ref k :: r) μ = if inb i (len k) = true then some (.inl (pc + 1, ls, .int (cst k i.toNatClampNeg) :: r, μ)) else none := by
  simp [alI, okA, hk, nx]
theorem alJ_21 {pc k : Nat} {i : Int32} {ls r : List Value} {μ : PM} (hk : cls k = 21) : alJ pc ls (.int i :: .ref k :: r) μ = if inb i (len k) = true then some (.inl (pc + 1, ls, .long (mJ μ k i.toNatClampNeg) :: r, μ)) else none := by
  simp [alJ, hk, nx]
theorem alA_r {pc k : Nat} {i : Int32} {ls r : List Value} {μ : PM} (hk : isRA (cls k) = true) : alA pc ls (.int i :: .ref k :: r) μ = if inb i (len k) = true then some (.inl (pc + 1, ls, elr k i.toNatClampNeg :: r, μ)) else none := by
  simp [alA, hk, nx]
theorem asI_20 {pc k : Nat} {i v : Int32} {ls r : List Value} {μ : PM} (hk : cls k = 20) : asI pc ls (.int v :: .int i :: .ref k :: r) μ = if inb i (len k) = true then some (.inl (pc + 1, ls, r, stI μ k i.toNatClampNeg v)) else none := by
  simp [asI, okA_20 hk, nx]
theorem asJ_21 {pc k : Nat} {i : Int32} {v : Int64} {ls r : List Value} {μ : PM} (hk : cls k = 21) : asJ pc ls (.long v :: .int i :: .ref k :: r) μ = if inb i (len k) = true then some (.inl (pc + 1, ls, r, stJ μ k i.toNatClampNeg v)) else none := by
  simp [asJ, hk, nx]
theorem t_chkF {c : Prop} [Decidable c] (n : Nat) (hM : mtab m = some M) (h : pblk M n s = if c then some (.inl s') else none) (k : c → Exec m lv s' = x) : Exec m lv s = chk c x := by
  unfold chk
  by_cases hc : c
  · rw [if_pos hc] at h ⊢; exact t_N n hM h (k hc)
  · rw [if_neg hc] at h ⊢; exact stuck_run n hM h
variable {pc k q C : Nat} {i v : Int32} {w : Int64} {ls r st as : List Value} {μ : PM}
theorem t_ALI (n : Nat) (hM : mtab m = some M) (h : pblk M n s = alI pc ls (.int i :: .ref k :: r) μ) (hk : cls k = 20) (hl : len k = q) (kk : inb i q = true → Exec m lv (pc + 1, ls, .int (mI μ k i.toNatClampNeg) :: r, μ) = x) : Exec m lv s = chk (inb i q = true) x := by
  subst hl; exact t_chkF n hM (h.trans (alI_20 hk)) kk
theorem t_ALIT (n : Nat) (hM : mtab m = some M) (h : pblk M n s = alI pc ls (.int i :: .ref k :: r) μ) (hk : cls k = 20) (hl : len k = q) (hi : inb i q = true) (kk : Exec m lv (pc + 1, ls, .int (mI μ k i.toNatClampNeg) :: r, μ) = x) : Exec m lv s = x := by
  subst hl; exact t_N n hM ((h.trans (alI_20 hk)).trans (if_pos hi)) kk
theorem t_ALS (n : Nat) (hM : mtab m = some M) (h : pblk M n s = alI pc ls (.int i :: .ref k :: r) μ) (hk : cls k = 25) (hl : μ.2.2.1 = q) (kk : inb i q = true → Exec m lv (pc + 1, ls, .int (mI μ k i.toNatClampNeg) :: r, μ) = x) : Exec m lv s = chk (inb i q = true) x := by
  subst hl; exact t_chkF n hM (h.trans (alI_25 hk)) kk
theorem t_ALST (n : Nat) (hM : mtab m = some M) (h : pblk M n s = alI pc ls (.int i :: .ref k :: r) μ) (hk : cls k = 25) (hl : μ.2.2.1 = q) (hi : inb i q = true) (kk : Exec m lv (pc + 1, ls, .int (mI μ k i.toNatClampNeg) :: r, μ) = x) : Exec m lv s = x := by
  subst hl; exact t_N n hM ((h.trans (alI_25 hk)).trans (if_pos hi)) kk
theorem t_ALC (n : Nat) (hM : mtab m = some M) (h : pblk M n s = alI pc ls (.int i :: .ref k :: r) μ) (hk : cls k = 27) (hl : len k = q) (kk : inb i q = true → Exec m lv (pc + 1, ls, .int (cst k i.toNatClampNeg) :: r, μ) = x) : Exec m lv s = chk (inb i q = true) x := by
  subst hl; exact t_chkF n hM (h.trans (alI_27 hk)) kk
theorem t_ALJ (n : Nat) (hM : mtab m = some M) (h : pblk M n s = alJ pc ls (.int i :: .ref k :: r) μ) (hk : cls k = 21) (hl : len k = q) (kk : inb i q = true → Exec m lv (pc + 1, ls, .long (mJ μ k i.toNatClampNeg) :: r, μ) = x) : Exec m lv s = chk (inb i q = true) x := by
  subst hl; exact t_chkF n hM (h.trans (alJ_21 hk)) kk
theorem t_ALJT (n : Nat) (hM : mtab m = some M) (h : pblk M n s = alJ pc ls (.int i :: .ref k :: r) μ) (hk : cls k = 21) (hl : len k = q) (hi : inb i q = true) (kk : Exec m lv (pc + 1, ls, .long (mJ μ k i.toNatClampNeg) :: r, μ) = x) : Exec m lv s = x := by
  subst hl; exact t_N n hM ((h.trans (alJ_21 hk)).trans (if_pos hi)) kk
theorem t_ALA (n : Nat) (hM : mtab m = some M) (h : pblk M n s = alA pc ls (.int i :: .ref k :: r) μ) (hk : cls k = C) (hl : len k = q) (hC : isRA C = true) (kk : inb i q = true → Exec m lv (pc + 1, ls, .ref (eN k i.toNatClampNeg) :: r, μ) = x) : Exec m lv s = chk (inb i q = true) x := by
  subst hl; subst hk; exact t_chkF n hM (h.trans (alA_r hC)) kk
theorem t_ALAT (n : Nat) (hM : mtab m = some M) (h : pblk M n s = alA pc ls (.int i :: .ref k :: r) μ) (hk : cls k = C) (hl : len k = q) (hC : isRA C = true) (hi : inb i q = true) (kk : Exec m lv (pc + 1, ls, .ref (eN k i.toNatClampNeg) :: r, μ) = x) : Exec m lv s = x := by
  subst hl; subst hk; exact t_N n hM ((h.trans (alA_r hC)).trans (if_pos hi)) kk
theorem t_ASI (n : Nat) (hM : mtab m = some M) (h : pblk M n s = asI pc ls (.int v :: .int i :: .ref k :: r) μ) (hk : cls k = 20) (hl : len k = q) (kk : inb i q = true → Exec m lv (pc + 1, ls, r, stI μ k i.toNatClampNeg v) = x) : Exec m lv s = chk (inb i q = true) x := by
  subst hl; exact t_chkF n hM (h.trans (asI_20 hk)) kk
theorem t_ASIT (n : Nat) (hM : mtab m = some M) (h : pblk M n s = asI pc ls (.int v :: .int i :: .ref k :: r) μ) (hk : cls k = 20) (hl : len k = q) (hi : inb i q = true) (kk : Exec m lv (pc + 1, ls, r, stI μ k i.toNatClampNeg v) = x) : Exec m lv s = x := by
  subst hl; exact t_N n hM ((h.trans (asI_20 hk)).trans (if_pos hi)) kk
theorem t_ASJ (n : Nat) (hM : mtab m = some M) (h : pblk M n s = asJ pc ls (.long w :: .int i :: .ref k :: r) μ) (hk : cls k = 21) (hl : len k = q) (kk : inb i q = true → Exec m lv (pc + 1, ls, r, stJ μ k i.toNatClampNeg w) = x) : Exec m lv s = chk (inb i q = true) x := by
  subst hl; exact t_chkF n hM (h.trans (asJ_21 hk)) kk
theorem t_ASJT (n : Nat) (hM : mtab m = some M) (h : pblk M n s = asJ pc ls (.long w :: .int i :: .ref k :: r) μ) (hk : cls k = 21) (hl : len k = q) (hi : inb i q = true) (kk : Exec m lv (pc + 1, ls, r, stJ μ k i.toNatClampNeg w) = x) : Exec m lv s = x := by
  subst hl; exact t_N n hM ((h.trans (asJ_21 hk)).trans (if_pos hi)) kk
theorem t_LT {f : PM → Option PO} (h : ∀ μ', Exec m lv (pc, ls, st, μ') = f μ') : Exec m lv (pc, ls, st, μ) = lt μ f := h μ
theorem t_call {c : Prop} [Decidable c] {d : Nat} (n : Nat) (hM : mtab m = some M) (hc : c) (h : pblk M n s = if c then some (.inr (.inl (d, as, pc, ls, st, μ))) else none) (hl : lvl d as < lv) :
    Exec m lv s = match Den d as μ with
      | none => none
      | some o => aftE m lv M pc ls st o := by
  rw [if_pos hc] at h
  obtain ⟨t, e, h'⟩ := pblk_run (lv := lv) hM _ _ _ h
  exact e.trans (Exec_callG hM h' hl)
theorem aftE_inl {v : Option Value} : aftE m lv M pc ls st (.inl v, μ) = Exec m lv (pc + 3, ls, v.toList ++ st, μ) := by
  cases v <;> rfl
theorem aftE_inr {k : Nat} (hh : M.2.2.2.2 = []) : aftE m lv M pc ls st (.inr k, μ) = some (.inr k, μ) := by
  unfold aftE aft
  simp only [hh, hfind]
theorem t_CI {c : Prop} [Decidable c] {d : Nat} {f : Int32 → PM → Option PO} (n : Nat) (hM : mtab m = some M) (hc : c) (h : pblk M n s = if c then some (.inr (.inl (d, as, pc, ls, st, μ))) else none) (hl : lvl d as < lv) (hh : M.2.2.2.2 = []) (hr : (Nat.beq (rtN d) 1 || Nat.beq (rtN d) 2) = true)
    (k : ∀ v μ', Exec m lv (pc + 3, ls, .int v :: st, μ') = f v μ') : Exec m lv s = bI (Den d as μ) f := by
  rw [t_call n hM hc h hl]
  cases hd : Den d as μ with
  | none => rfl
  | some o =>
    obtain ⟨o, μ'⟩ := o
    cases o with
    | inl v =>
      have h1 := Den_shp hd
      have : ∃ q, v = some (.int q) := by
        rw [Bool.or_eq_true] at hr
        rcases hr with hr | hr <;> rw [Nat.eq_of_beq_eq_true hr] at h1 <;> exact h1
      obtain ⟨q, rfl⟩ := this
      show aftE m lv M pc ls st (.inl (some (.int q)), μ') = f q μ'
      rw [aftE_inl]; exact k q μ'
    | inr e => exact aftE_inr hh
theorem t_CV {c : Prop} [Decidable c] {d : Nat} {f : PM → Option PO} (n : Nat) (hM : mtab m = some M) (hc : c) (h : pblk M n s = if c then some (.inr (.inl (d, as, pc, ls, st, μ))) else none) (hl : lvl d as < lv) (hh : M.2.2.2.2 = []) (hr : Nat.beq (rtN d) 0 = true)
    (k : ∀ μ', Exec m lv (pc + 3, ls, st, μ') = f μ') : Exec m lv s = bV (Den d as μ) f := by
  rw [t_call n hM hc h hl]
  cases hd : Den d as μ with
  | none => rfl
  | some o =>
    obtain ⟨o, μ'⟩ := o
    cases o with
    | inl v =>
      have h1 := Den_shp hd
      have : v = none := by rw [Nat.eq_of_beq_eq_true hr] at h1; exact h1
      subst this
      show aftE m lv M pc ls st (.inl none, μ') = f μ'
      rw [aftE_inl]; exact k μ'
    | inr e => exact aftE_inr hh
theorem t_CJ {c : Prop} [Decidable c] {d : Nat} {f : Int64 → PM → Option PO} (n : Nat) (hM : mtab m = some M) (hc : c) (h : pblk M n s = if c then some (.inr (.inl (d, as, pc, ls, st, μ))) else none) (hl : lvl d as < lv) (hh : M.2.2.2.2 = []) (hr : Nat.beq (rtN d) 3 = true)
    (k : ∀ v μ', Exec m lv (pc + 3, ls, .long v :: st, μ') = f v μ') : Exec m lv s = bJ (Den d as μ) f := by
  rw [t_call n hM hc h hl]
  cases hd : Den d as μ with
  | none => rfl
  | some o =>
    obtain ⟨o, μ'⟩ := o
    cases o with
    | inl v =>
      have h1 := Den_shp hd
      have : ∃ q, v = some (.long q) := by rw [Nat.eq_of_beq_eq_true hr] at h1; exact h1
      obtain ⟨q, rfl⟩ := this
      show aftE m lv M pc ls st (.inl (some (.long q)), μ') = f q μ'
      rw [aftE_inl]; exact k q μ'
    | inr e => exact aftE_inr hh
theorem t_CD {c : Prop} [Decidable c] {d : Nat} {f : UInt64 → PM → Option PO} (n : Nat) (hM : mtab m = some M) (hc : c) (h : pblk M n s = if c then some (.inr (.inl (d, as, pc, ls, st, μ))) else none) (hl : lvl d as < lv) (hh : M.2.2.2.2 = []) (hr : Nat.beq (rtN d) 4 = true)
    (k : ∀ v μ', Exec m lv (pc + 3, ls, .double v :: st, μ') = f v μ') : Exec m lv s = bDb (Den d as μ) f := by
  rw [t_call n hM hc h hl]
  cases hd : Den d as μ with
  | none => rfl
  | some o =>
    obtain ⟨o, μ'⟩ := o
    cases o with
    | inl v =>
      have h1 := Den_shp hd
      have : ∃ q, v = some (.double q) := by rw [Nat.eq_of_beq_eq_true hr] at h1; exact h1
      obtain ⟨q, rfl⟩ := this
      show aftE m lv M pc ls st (.inl (some (.double q)), μ') = f q μ'
      rw [aftE_inl]; exact k q μ'
    | inr e => exact aftE_inr hh
theorem t_CR {c : Prop} [Decidable c] {d : Nat} {f : Nat → PM → Option PO} {g : PM → Option PO} (n : Nat) (hM : mtab m = some M) (hc : c) (h : pblk M n s = if c then some (.inr (.inl (d, as, pc, ls, st, μ))) else none) (hl : lvl d as < lv) (hh : M.2.2.2.2 = []) (hr : Nat.beq (rtN d) 5 = true)
    (k : ∀ v μ', Exec m lv (pc + 3, ls, .ref v :: st, μ') = f v μ') (k2 : ∀ μ', Exec m lv (pc + 3, ls, .null :: st, μ') = g μ') : Exec m lv s = bR (Den d as μ) f g := by
  rw [t_call n hM hc h hl]
  cases hd : Den d as μ with
  | none => rfl
  | some o =>
    obtain ⟨o, μ'⟩ := o
    cases o with
    | inl v =>
      have h1 := Den_shp hd
      have : v = some .null ∨ ∃ q, v = some (.ref q) := by rw [Nat.eq_of_beq_eq_true hr] at h1; exact h1
      rcases this with rfl | ⟨q, rfl⟩
      · show aftE m lv M pc ls st (.inl (some .null), μ') = g μ'
        rw [aftE_inl]; exact k2 μ'
      · show aftE m lv M pc ls st (.inl (some (.ref q)), μ') = f q μ'
        rw [aftE_inl]; exact k q μ'
    | inr e => exact aftE_inr hh
theorem t_CH {c : Prop} [Decidable c] {d : Nat} {f : Int32 → PM → Option PO} {g : Nat → PM → Option PO} (n : Nat) (hM : mtab m = some M) (hc : c) (h : pblk M n s = if c then some (.inr (.inl (d, as, pc, ls, st, μ))) else none) (hl : lvl d as < lv) (hr : (Nat.beq (rtN d) 1 || Nat.beq (rtN d) 2) = true)
    (k : ∀ v μ', Exec m lv (pc + 3, ls, .int v :: st, μ') = f v μ') (k2 : ∀ k μ', aftE m lv M pc ls st (.inr k, μ') = g k μ') : Exec m lv s = bH (Den d as μ) f g := by
  rw [t_call n hM hc h hl]
  cases hd : Den d as μ with
  | none => rfl
  | some o =>
    obtain ⟨o, μ'⟩ := o
    cases o with
    | inl v =>
      have h1 := Den_shp hd
      have : ∃ q, v = some (.int q) := by
        rw [Bool.or_eq_true] at hr
        rcases hr with hr | hr <;> rw [Nat.eq_of_beq_eq_true hr] at h1 <;> exact h1
      obtain ⟨q, rfl⟩ := this
      show aftE m lv M pc ls st (.inl (some (.int q)), μ') = f q μ'
      rw [aftE_inl]; exact k q μ'
    | inr e => exact k2 e μ'
theorem t_H {c : Prop} [Decidable c] {z : Option PO} (h1 : c → z = x) (h2 : ¬ c → z = y) : z = if c then x else y := by
  by_cases hc : c
  · rw [if_pos hc]; exact h1 hc
  · rw [if_neg hc]; exact h2 hc
theorem t_HH {o : PO} (h : aft M pc ls st o = some (.inl s')) (k : Exec m lv s' = x) : aftE m lv M pc ls st o = x := by
  unfold aftE; rw [h]; exact k
theorem t_HN {k : Nat} (h : hfind M.2.2.2.2 pc k = none) : aftE m lv M pc ls st (.inr k, μ) = some (.inr k, μ) := by
  unfold aftE aft; simp only [h]
theorem hf_c {a b h j k : Nat} {r : List (Nat × Nat × Nat × Nat)} (hne : ¬ k = j) : hfind ((a, b, h, j) :: r) pc k = hfind r pc k := by
  have : Nat.beq j k = false := by
    cases hb : Nat.beq j k
    · rfl
    · exact absurd (Nat.eq_of_beq_eq_true hb).symm hne
  simp only [hfind, this, Bool.and_false, cond_false]
theorem t_ST {z u : Int32} {d lo hi : Int} {os : Array Int} {ln : Nat} (hM : mtab m = some M) (hd : lk2 M.1 pc = some (.tableswitch d lo hi os, ln)) (hy : tsw pc d lo hi os ls (.int u :: r) μ = some (.inl s')) (k1 : Exec m lv s' = x) (k2 : ¬ z = u → Exec m lv (pc, ls, .int z :: r, μ) = y) : Exec m lv (pc, ls, .int z :: r, μ) = if z = u then x else y := by
  by_cases h : z = u
  · rw [if_pos h]
    refine t_N 0 hM ?_ k1
    rw [h]
    show (match lk2 M.1 pc with | none => none | some (i, l) => pex M i l pc ls (.int u :: r) μ) = _
    rw [hd]; exact hy
  · rw [if_neg h]; exact k2 h
theorem t_STD {z : Int32} {d lo hi : Int} {os : Array Int} {ln : Nat} (hM : mtab m = some M) (hd : lk2 M.1 pc = some (.tableswitch d lo hi os, ln)) (ho : z.toInt < lo ∨ hi < z.toInt) (hj : jp pc d ls r μ = some (.inl s')) (k : Exec m lv s' = x) : Exec m lv (pc, ls, .int z :: r, μ) = x := by
  refine t_N 0 hM ?_ k
  show (match lk2 M.1 pc with | none => none | some (i, l) => pex M i l pc ls (.int z :: r) μ) = _
  rw [hd]
  show tsw pc d lo hi os ls (.int z :: r) μ = _
  simp only [tsw]
  rw [if_pos ho]; exact hj
theorem t_SL {z u : Int32} {d : Int} {ps : Array (Int × Int)} {ln : Nat} (hM : mtab m = some M) (hd : lk2 M.1 pc = some (.lookupswitch d ps, ln)) (hy : lsw pc d ps ls (.int u :: r) μ = some (.inl s')) (k1 : Exec m lv s' = x) (k2 : ¬ z = u → Exec m lv (pc, ls, .int z :: r, μ) = y) : Exec m lv (pc, ls, .int z :: r, μ) = if z = u then x else y := by
  by_cases h : z = u
  · rw [if_pos h]
    refine t_N 0 hM ?_ k1
    rw [h]
    show (match lk2 M.1 pc with | none => none | some (i, l) => pex M i l pc ls (.int u :: r) μ) = _
    rw [hd]; exact hy
  · rw [if_neg h]; exact k2 h
theorem t_SLD {z : Int32} {d : Int} {ps : Array (Int × Int)} {ln : Nat} (hM : mtab m = some M) (hd : lk2 M.1 pc = some (.lookupswitch d ps, ln)) (hs : (ps.toList.zip (ps.toList.drop 1)).all (fun (a, next) => a.1 < next.1) = true) (ho : Op.lookupswitch.offset ps.toList d z.toInt = d) (hj : jp pc d ls r μ = some (.inl s')) (k : Exec m lv s' = x) : Exec m lv (pc, ls, .int z :: r, μ) = x := by
  refine t_N 0 hM ?_ k
  show (match lk2 M.1 pc with | none => none | some (i, l) => pex M i l pc ls (.int z :: r) μ) = _
  rw [hd]
  show lsw pc d ps ls (.int z :: r) μ = _
  simp only [lsw]
  rw [hs, ho]; exact hj
theorem sw_n (n : Int) {z u : Int32} (h : ¬ z = u) (hu : u.toInt = n) : z.toInt ≠ n := fun q => h (Int32.toInt_inj.mp (q.trans hu.symm))
theorem lo_nil {d k : Int} : Op.lookupswitch.offset [] d k = d := rfl
theorem lo_c {d k a o : Int} {l : List (Int × Int)} (h : k ≠ a) (h2 : Op.lookupswitch.offset l d k = d) : Op.lookupswitch.offset ((a, o) :: l) d k = d := by
  rw [Op.lookupswitch.offset_cons, if_neg (fun q => h q.symm)]; exact h2
theorem ft_lv3 {a x : Int32} : 3 < lvl 20 [.ref 23, .ref 10, .ref 11, .int a, .int x] := by
  show 3 < 9 - min 5 x.toNatClampNeg
  omega
theorem ft_lvl {a x : Int32} (h0 : 0 ≤ x) (h5 : ¬ 5 ≤ x) : lvl 20 [.ref 23, .ref 10, .ref 11, .int a, .int (x + 1)] < lvl 20 [.ref 23, .ref 10, .ref 11, .int a, .int x] := by
  show 9 - min 5 (x + 1).toNatClampNeg < 9 - min 5 x.toNatClampNeg
  have e1 : (x + 1).toInt = x.toInt + 1 := by
    rw [Int32.toInt_add]
    have a1 := Int32.le_iff_toInt_le.mp h0
    have a2 : x.toInt < 5 := by
      have : ¬ (5 : Int32).toInt ≤ x.toInt := fun q => h5 (Int32.le_iff_toInt_le.mpr q)
      have e5 : (5 : Int32).toInt = 5 := by decide
      rw [e5] at this
      omega
    have e0 : (0 : Int32).toInt = 0 := by decide
    have e11 : (1 : Int32).toInt = 1 := by decide
    rw [e0] at a1
    rw [e11]
    simp only [Int.bmod]
    omega
  have a1 := Int32.le_iff_toInt_le.mp h0
  have a2 : x.toInt < 5 := by
    have : ¬ (5 : Int32).toInt ≤ x.toInt := fun q => h5 (Int32.le_iff_toInt_le.mpr q)
    have e5 : (5 : Int32).toInt = 5 := by decide
    rw [e5] at this
    omega
  have e0 : (0 : Int32).toInt = 0 := by decide
  rw [e0] at a1
  have b1 : x.toNatClampNeg = x.toInt.toNat := rfl
  have b2 : (x + 1).toNatClampNeg = (x + 1).toInt.toNat := rfl
  rw [b1, b2, e1]
  omega
theorem i_nle {x y : Int32} (h : x < y) : ¬ y ≤ x := fun q => by
  have a := Int32.lt_iff_toInt_lt.mp h
  have b := Int32.le_iff_toInt_le.mp q
  omega
/-! where objects lie -/
theorem inb_lt {i : Int32} {n : Nat} (h : inb i n = true) : i.toNatClampNeg < n := by
  unfold inb at h
  simp only [Bool.not_eq_true', Bool.or_eq_false_iff] at h
  have h2 := h.2
  rcases Nat.lt_or_ge i.toNatClampNeg n with h3 | h3
  · exact h3
  · rw [Nat.ble_eq.mpr h3] at h2; cases h2
theorem fc_c1 {i : Int32} (h : inb i 10 = true) : cls (28 + 2 * i.toNatClampNeg) = 0 := (by decide +kernel : ∀ n, n < 10 → cls (28 + 2 * n) = 0) _ (inb_lt h)
theorem fc_c2 {i : Int32} (h : inb i 10 = true) : cls (28 + 2 * i.toNatClampNeg + 1) = 20 := (by decide +kernel : ∀ n, n < 10 → cls (28 + 2 * n + 1) = 20) _ (inb_lt h)
theorem fc_c3 {i : Int32} (h : inb i 10 = true) : len (28 + 2 * i.toNatClampNeg + 1) = 10 := (by decide +kernel : ∀ n, n < 10 → len (28 + 2 * n + 1) = 10) _ (inb_lt h)
theorem fc_o1 {i : Int32} (h : inb i 5 = true) : cls (48 + i.toNatClampNeg) = 2 := (by decide +kernel : ∀ n, n < 5 → cls (48 + n) = 2) _ (inb_lt h)
theorem fc_p1 {i : Int32} (h : inb i 8 = true) : cls (53 + 2 * i.toNatClampNeg) = 5 := (by decide +kernel : ∀ n, n < 8 → cls (53 + 2 * n) = 5) _ (inb_lt h)
theorem fc_p2 {i : Int32} (h : inb i 8 = true) : cls (53 + 2 * i.toNatClampNeg + 1) = 20 := (by decide +kernel : ∀ n, n < 8 → cls (53 + 2 * n + 1) = 20) _ (inb_lt h)
theorem fc_p3 {i : Int32} (h : inb i 8 = true) : len (53 + 2 * i.toNatClampNeg + 1) = 5 := (by decide +kernel : ∀ n, n < 8 → len (53 + 2 * n + 1) = 5) _ (inb_lt h)
theorem fc_t1 {i : Int32} (h : inb i 6 = true) : cls (69 + 46 * i.toNatClampNeg) = 7 := (by decide +kernel : ∀ n, n < 6 → cls (69 + 46 * n) = 7) _ (inb_lt h)
theorem fc_k1 {i : Int32} (h : inb i 5 = true) : cls (410 + i.toNatClampNeg) = 29 := (by decide +kernel : ∀ n, n < 5 → cls (410 + n) = 29) _ (inb_lt h)
def isT (t : Nat) : Prop := ∃ j, j < 7 ∧ t = 23 + 46 * j
theorem ft_t {t : Nat} (h : isT t) : cls t = 7 := by obtain ⟨j, hj, rfl⟩ := h; exact (by decide +kernel : ∀ j, j < 7 → cls (23 + 46 * j) = 7) j hj
theorem ft_1 {t : Nat} (h : isT t) : cls (t + 1) = 22 := by obtain ⟨j, hj, rfl⟩ := h; exact (by decide +kernel : ∀ j, j < 7 → cls (23 + 46 * j + 1) = 22) j hj
theorem ft_2 {t : Nat} (h : isT t) : cls (t + 2) = 23 := by obtain ⟨j, hj, rfl⟩ := h; exact (by decide +kernel : ∀ j, j < 7 → cls (23 + 46 * j + 2) = 23) j hj
theorem ft_3 {t : Nat} (h : isT t) : cls (t + 3) = 24 := by obtain ⟨j, hj, rfl⟩ := h; exact (by decide +kernel : ∀ j, j < 7 → cls (23 + 46 * j + 3) = 24) j hj
theorem ft_4 {t : Nat} (h : isT t) : cls (t + 4) = 20 := by obtain ⟨j, hj, rfl⟩ := h; exact (by decide +kernel : ∀ j, j < 7 → cls (23 + 46 * j + 4) = 20) j hj
theorem fl_1 {t : Nat} (h : isT t) : len (t + 1) = 10 := by obtain ⟨j, hj, rfl⟩ := h; exact (by decide +kernel : ∀ j, j < 7 → len (23 + 46 * j + 1) = 10) j hj
theorem fl_2 {t : Nat} (h : isT t) : len (t + 2) = 5 := by obtain ⟨j, hj, rfl⟩ := h; exact (by decide +kernel : ∀ j, j < 7 → len (23 + 46 * j + 2) = 5) j hj
theorem fl_3 {t : Nat} (h : isT t) : len (t + 3) = 8 := by obtain ⟨j, hj, rfl⟩ := h; exact (by decide +kernel : ∀ j, j < 7 → len (23 + 46 * j + 3) = 8) j hj
theorem fl_4 {t : Nat} (h : isT t) : len (t + 4) = 5 := by obtain ⟨j, hj, rfl⟩ := h; exact (by decide +kernel : ∀ j, j < 7 → len (23 + 46 * j + 4) = 5) j hj
theorem ft_c1 {t : Nat} {i : Int32} (h : isT t) (hi : inb i 10 = true) : cls (eN (t + 1) i.toNatClampNeg) = 0 := by obtain ⟨j, hj, rfl⟩ := h; exact (by decide +kernel : ∀ j, j < 7 → ∀ n, n < 10 → cls (eN (23 + 46 * j + 1) n) = 0) j hj _ (inb_lt hi)
theorem ft_o1 {t : Nat} {i : Int32} (h : isT t) (hi : inb i 5 = true) : cls (eN (t + 2) i.toNatClampNeg) = 2 := by obtain ⟨j, hj, rfl⟩ := h; exact (by decide +kernel : ∀ j, j < 7 → ∀ n, n < 5 → cls (eN (23 + 46 * j + 2) n) = 2) j hj _ (inb_lt hi)
theorem ft_p1 {t : Nat} {i : Int32} (h : isT t) (hi : inb i 8 = true) : cls (eN (t + 3) i.toNatClampNeg) = 5 := by obtain ⟨j, hj, rfl⟩ := h; exact (by decide +kernel : ∀ j, j < 7 → ∀ n, n < 8 → cls (eN (23 + 46 * j + 3) n) = 5) j hj _ (inb_lt hi)
theorem cl_in1_0 {k : Nat} (h : cls k = 0) : cls (k + 1) = 20 := (by decide +kernel : ∀ k, k < 345 → cls k = 0 → cls (k + 1) = 20) k (cls_lt (Or.inl (by rw [h]; decide))) h
theorem cl_in2_0 {k : Nat} (h : cls k = 0) : len (k + 1) = 10 := (by decide +kernel : ∀ k, k < 345 → cls k = 0 → len (k + 1) = 10) k (cls_lt (Or.inl (by rw [h]; decide))) h
theorem cl_in1_5 {k : Nat} (h : cls k = 5) : cls (k + 1) = 20 := (by decide +kernel : ∀ k, k < 345 → cls k = 5 → cls (k + 1) = 20) k (cls_lt (Or.inl (by rw [h]; decide))) h
theorem cl_in2_5 {k : Nat} (h : cls k = 5) : len (k + 1) = 5 := (by decide +kernel : ∀ k, k < 345 → cls k = 5 → len (k + 1) = 5) k (cls_lt (Or.inl (by rw [h]; decide))) h
end DK
