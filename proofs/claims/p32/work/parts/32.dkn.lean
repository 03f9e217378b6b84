/-! ROWS FOR ARRAYS OF WHICH IT IS NOT KNOWN WHICH THEY ARE -/
section DKN
variable {m lv : Nat} {M : MI} {s s' a b : PS} {x y : Option PO} {pc k q : Nat} {i v : Int32} {ls r st as : List Value} {μ : PM}
def AR (k : Nat) : Prop := cls k = 20 ∨ cls k = 31
theorem AR_dyn (i : Nat) : AR (430 + i) := Or.inr (cls_dyn i)
theorem arl_g (hk : AR k) : arl pc ls (.ref k :: r) μ = if okA μ k = true then some (.inl (pc + 1, ls, .int (Int32.ofNat (len k)) :: r, μ)) else none := by
  rcases hk with h | h
  · simp [arl, h, nx]
  · simp [arl, h, nx]
theorem alI_g2 (hk : AR k) : alI pc ls (.int i :: .ref k :: r) μ = if okA μ k = true ∧ inb i (len k) = true then some (.inl (pc + 1, ls, .int (mI μ k i.toNatClampNeg) :: r, μ)) else none := by
  rcases hk with h | h
  · simp [alI, h, nx]
  · simp [alI, h, nx]
theorem asI_g2 : asI pc ls (.int v :: .int i :: .ref k :: r) μ = if okA μ k = true ∧ inb i (len k) = true then some (.inl (pc + 1, ls, r, stI μ k i.toNatClampNeg v)) else none := by
  simp [asI, nx]
theorem t_ARL (n : Nat) (hM : mtab m = some M) (h : pblk M n s = arl pc ls (.ref k :: r) μ) (hk : AR k) (kk : okA μ k = true → Exec m lv (pc + 1, ls, .int (Int32.ofNat (len k)) :: r, μ) = x) : Exec m lv s = chk (okA μ k = true) x :=
  t_chkF n hM (h.trans (arl_g hk)) kk
theorem t_ALG (n : Nat) (hM : mtab m = some M) (h : pblk M n s = alI pc ls (.int i :: .ref k :: r) μ) (hk : AR k) (kk : okA μ k = true ∧ inb i (len k) = true → Exec m lv (pc + 1, ls, .int (mI μ k i.toNatClampNeg) :: r, μ) = x) : Exec m lv s = chk (okA μ k = true ∧ inb i (len k) = true) x :=
  t_chkF n hM (h.trans (alI_g2 hk)) kk
theorem t_ALGT (n : Nat) (hM : mtab m = some M) (h : pblk M n s = alI pc ls (.int i :: .ref k :: r) μ) (hk : AR k) (hi : okA μ k = true ∧ inb i (len k) = true) (kk : Exec m lv (pc + 1, ls, .int (mI μ k i.toNatClampNeg) :: r, μ) = x) : Exec m lv s = x :=
  t_N n hM ((h.trans (alI_g2 hk)).trans (if_pos hi)) kk
theorem t_ASG (n : Nat) (hM : mtab m = some M) (h : pblk M n s = asI pc ls (.int v :: .int i :: .ref k :: r) μ) (_ : AR k) (kk : okA μ k = true ∧ inb i (len k) = true → Exec m lv (pc + 1, ls, r, stI μ k i.toNatClampNeg v) = x) : Exec m lv s = chk (okA μ k = true ∧ inb i (len k) = true) x :=
  t_chkF n hM (h.trans asI_g2) kk
theorem t_ASGT (n : Nat) (hM : mtab m = some M) (h : pblk M n s = asI pc ls (.int v :: .int i :: .ref k :: r) μ) (_ : AR k) (hi : okA μ k = true ∧ inb i (len k) = true) (kk : Exec m lv (pc + 1, ls, r, stI μ k i.toNatClampNeg v) = x) : Exec m lv s = x :=
  t_N n hM ((h.trans asI_g2).trans (if_pos hi)) kk
end DKN
