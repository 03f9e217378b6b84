/-! ROWS FOR ARRAYS OF WHICH IT IS NOT KNOWN WHICH THEY ARE -/
section DKN
variable {m lv : Nat} {M : MI} {s s' a b : PS} {x y : Option PO} {pc k q : Nat} {i v : Int32} {ls r st as : List Value} {μ : PM}
theorem arl_g (hk : okA μ k = true) : arl pc ls (.ref k :: r) μ = some (.inl (pc + 1, ls, .int (Int32.ofNat (len k)) :: r, μ)) := by
  rcases okA_c hk with h | h
  · simp [arl, hk, h, nx]
  · simp [arl, hk, h.1, nx]
theorem t_ARL (n : Nat) (hM : mtab m = some M) (h : pblk M n s = arl pc ls (.ref k :: r) μ) (hk : okA μ k = true) (kk : Exec m lv (pc + 1, ls, .int (Int32.ofNat (len k)) :: r, μ) = x) : Exec m lv s = x :=
  t_N n hM (h.trans (arl_g hk)) kk
theorem t_ALG (n : Nat) (hM : mtab m = some M) (h : pblk M n s = alI pc ls (.int i :: .ref k :: r) μ) (hk : okA μ k = true) (hl : len k = q) (kk : inb i q = true → Exec m lv (pc + 1, ls, .int (mI μ k i.toNatClampNeg) :: r, μ) = x) : Exec m lv s = chk (inb i q = true) x := by
  subst hl; exact t_chkF n hM (h.trans (alI_g hk)) kk
theorem t_ALGT (n : Nat) (hM : mtab m = some M) (h : pblk M n s = alI pc ls (.int i :: .ref k :: r) μ) (hk : okA μ k = true) (hl : len k = q) (hi : inb i q = true) (kk : Exec m lv (pc + 1, ls, .int (mI μ k i.toNatClampNeg) :: r, μ) = x) : Exec m lv s = x := by
  subst hl; exact t_N n hM ((h.trans (alI_g hk)).trans (if_pos hi)) kk
theorem t_ASG (n : Nat) (hM : mtab m = some M) (h : pblk M n s = asI pc ls (.int v :: .int i :: .ref k :: r) μ) (hk : okA μ k = true) (hl : len k = q) (kk : inb i q = true → Exec m lv (pc + 1, ls, r, stI μ k i.toNatClampNeg v) = x) : Exec m lv s = chk (inb i q = true) x := by
  subst hl; exact t_chkF n hM (h.trans (asI_g hk)) kk
theorem t_ASGT (n : Nat) (hM : mtab m = some M) (h : pblk M n s = asI pc ls (.int v :: .int i :: .ref k :: r) μ) (hk : okA μ k = true) (hl : len k = q) (hi : inb i q = true) (kk : Exec m lv (pc + 1, ls, r, stI μ k i.toNatClampNeg v) = x) : Exec m lv s = x := by
  subst hl; exact t_N n hM ((h.trans (asI_g hk)).trans (if_pos hi)) kk
end DKN
