/-! WHAT A RUN NEVER CHANGES -/
section PURE
theorem lyTop_ok (k : Nat) : 25 ≤ (lyTop k).1 ∧ (lyTop k).1 ≠ 26 := by
  unfold lyTop
  cases Nat.beq k 390
  · cases Nat.beq k 400
    · cases Nat.beq k 402
      · cases Nat.beq k 401
        · cases Nat.blt k 410
          · cases Nat.blt k 415
            · cases Nat.blt k 420
              · cases Nat.blt k 430 <;> simp
              · simp
            · simp
          · simp
        · simp
      · simp
    · simp
  · simp
theorem cls_lt {k : Nat} (h : cls k < 25 ∨ cls k = 26) : k < 345 := by
  by_cases hk : k < 345
  · exact hk
  · exfalso
    have h1 : Nat.blt k 23 = false := by
      cases hb : Nat.blt k 23
      · rfl
      · have := Nat.blt_eq.mp hb; omega
    have h2 : Nat.blt k 345 = false := by
      cases hb : Nat.blt k 345
      · rfl
      · have := Nat.blt_eq.mp hb; omega
    have h3 : cls k = (lyTop k).1 := by unfold cls ly; rw [h1, h2]; rfl
    have h4 := lyTop_ok k
    omega
theorem stI_self (μ : PM) (k j : Nat) (v : Int32) : mI (stI μ k j v) k = upd (mI μ k) j v := by
  funext b
  simp only [mI, stI, upd]
  by_cases h : b = j
  · subst h; simp
  · have : Nat.beq b j = false := by
      cases hb : Nat.beq b j
      · rfl
      · exact absurd (Nat.eq_of_beq_eq_true hb) h
    simp [this, h]
theorem stI_ne (μ : PM) {k i : Nat} (j : Nat) (v : Int32) (h : i ≠ k) : mI (stI μ k j v) i = mI μ i := by
  funext b
  have : Nat.beq i k = false := by
    cases hb : Nat.beq i k
    · rfl
    · exact absurd (Nat.eq_of_beq_eq_true hb) h
  simp only [mI, stI, this, Bool.false_and, cond_false]
theorem stI_J (μ : PM) (k j : Nat) (v : Int32) : mJ (stI μ k j v) = mJ μ := rfl
theorem stJ_I (μ : PM) (k j : Nat) (v : Int64) : mI (stJ μ k j v) = mI μ := rfl
theorem stJ_self (μ : PM) (k j : Nat) (v : Int64) : mJ (stJ μ k j v) k = vp_updL (mJ μ k) j v := by
  funext b
  simp only [mJ, stJ, vp_updL]
  by_cases h : b = j
  · subst h; simp
  · have : Nat.beq b j = false := by
      cases hb : Nat.beq b j
      · rfl
      · exact absurd (Nat.eq_of_beq_eq_true hb) h
    simp [this, h]
theorem stJ_ne (μ : PM) {k i : Nat} (j : Nat) (v : Int64) (h : i ≠ k) : mJ (stJ μ k j v) i = mJ μ i := by
  funext b
  have : Nat.beq i k = false := by
    cases hb : Nat.beq i k
    · rfl
    · exact absurd (Nat.eq_of_beq_eq_true hb) h
  simp only [mJ, stJ, this, Bool.false_and, cond_false]
variable {pc pc' i l : Nat} {ls ls' st st' : List Value} {μ μ' : PM} {M : MI}
theorem nx_inv (h : nx pc ls st μ = some (.inl (pc', ls', st', μ'))) : pc = pc' ∧ ls = ls' ∧ st = st' ∧ μ = μ' := by
  simp only [nx, Option.some.injEq, Sum.inl.injEq, Prod.mk.injEq] at h
  exact h
theorem jp_inv {off : Int} (h : jp pc off ls st μ = some (.inl (pc', ls', st', μ'))) : (pc : Int) + off = (pc' : Int) ∧ ls = ls' ∧ st = st' ∧ μ = μ' := by
  unfold jp at h
  split at h
  · rename_i t ht
    obtain ⟨rfl, h2⟩ := nx_inv h
    exact ⟨ht, h2⟩
  · cases h
/-- the script stays, exceptions are only made -/
def Sc (μ μ' : PM) : Prop := μ'.2.2.1 = μ.2.2.1 ∧ mI μ' 390 = mI μ 390
theorem Sc.rf : Sc μ μ := ⟨rfl, rfl⟩
theorem Sc.tr {a b c : PM} (h : Sc a b) (h' : Sc b c) : Sc a c := ⟨h'.1.trans h.1, h'.2.trans h.2⟩
theorem ne390 {k c : Nat} (h : cls k = c) (hc : c ≠ 25) : (390 : Nat) ≠ k := by
  intro q
  subst q
  exact hc (h.symm.trans rfl)
def Kp (μ μ' : PM) : Prop := Sc μ μ' ∧ μ'.2.2.2 = μ.2.2.2
theorem nx_sc (h : nx pc ls st μ = some (.inl (pc', ls', st', μ'))) : Kp μ μ' := by
  obtain ⟨-, -, -, rfl⟩ := nx_inv h
  exact ⟨Sc.rf, rfl⟩
theorem jp_sc {off : Int} (h : jp pc off ls st μ = some (.inl (pc', ls', st', μ'))) : Kp μ μ' := by
  obtain ⟨-, -, -, rfl⟩ := jp_inv h
  exact ⟨Sc.rf, rfl⟩
theorem nxI_sc {k j c : Nat} {v : Int32} (hk : cls k = c) (hc : c ≠ 25) (h : nx pc ls st (stI μ k j v) = some (.inl (pc', ls', st', μ'))) : Kp μ μ' := by
  obtain ⟨-, -, -, rfl⟩ := nx_inv h
  exact ⟨⟨rfl, stI_ne μ j v (ne390 hk hc)⟩, rfl⟩
theorem nxJ_sc {k j : Nat} {v : Int64} (h : nx pc ls st (stJ μ k j v) = some (.inl (pc', ls', st', μ'))) : Kp μ μ' := by
  obtain ⟨-, -, -, rfl⟩ := nx_inv h
  exact ⟨⟨rfl, rfl⟩, rfl⟩
theorem st1_sc {v : Value} (h : st1 pc l i v ls st μ = some (.inl (pc', ls', st', μ'))) : Kp μ μ' := by
  unfold st1 at h
  cases hq : Nat.blt i ls.length && okS ls i <;> rw [hq] at h
  · cases h
  · exact nx_sc h
theorem st2_sc {v : Value} (h : st2 pc l i v ls st μ = some (.inl (pc', ls', st', μ'))) : Kp μ μ' := by
  unfold st2 at h
  cases hq : Nat.blt (i + 1) ls.length && okS ls i <;> rw [hq] at h
  · cases h
  · exact nx_sc h
theorem okA_c {k : Nat} (h : okA μ k = true) : cls k = 20 ∨ (cls k = 31 ∧ k < 430 + μ.2.2.2) := by
  unfold okA at h
  rw [Bool.or_eq_true] at h
  rcases h with h | h
  · exact Or.inl (Nat.eq_of_beq_eq_true h)
  · rw [Bool.and_eq_true] at h
    exact Or.inr ⟨Nat.eq_of_beq_eq_true h.1, Nat.blt_eq.mp h.2⟩
theorem okA_20 {k : Nat} (h : cls k = 20) : okA μ k = true := by unfold okA; rw [h]; rfl
theorem okA_31 {k : Nat} (h : cls k = 31) (h2 : k < 430 + μ.2.2.2) : okA μ k = true := by unfold okA; rw [h, Nat.blt_eq.mpr h2]; rfl
theorem okA_sc {k j : Nat} {v : Int32} (hk : okA μ k = true) (h : nx pc ls st (stI μ k j v) = some (.inl (pc', ls', st', μ'))) : Kp μ μ' := by
  rcases okA_c hk with h2 | h2
  · exact nxI_sc h2 (by decide) h
  · exact nxI_sc h2.1 (by decide) h
theorem newM_sc : Sc μ (newM μ) := ⟨rfl, by
  funext b
  have e1 : Nat.beq 390 (430 + μ.2.2.2) = false := by
    cases hb : Nat.beq 390 (430 + μ.2.2.2)
    · rfl
    · have := Nat.eq_of_beq_eq_true hb; omega
  simp only [mI, newM, e1, cond_false]⟩
theorem nwA_inv (h : nwA pc ls st μ = some (.inl (pc', ls', st', μ'))) : ∃ r, st = .int (Int32.ofNat (dl μ.2.2.2)) :: r ∧ pc' = pc + 2 ∧ ls' = ls ∧ st' = .ref (430 + μ.2.2.2) :: r ∧ μ' = newM μ := by
  unfold nwA at h
  split at h
  · split at h
    · rename_i hn
      obtain ⟨rfl, rfl, rfl, rfl⟩ := nx_inv h
      exact ⟨_, by rw [hn], rfl, rfl, rfl, rfl⟩
    · cases h
  · cases h
theorem nwA_no {x : PCl ⊕ PO} (h : nwA pc ls st μ = some (.inr x)) : False := by
  unfold nwA at h
  split at h
  · split at h
    · unfold nx at h; cases h
    · cases h
  · cases h
theorem asI_sc (h : asI pc ls st μ = some (.inl (pc', ls', st', μ'))) : Kp μ μ' := by
  unfold asI at h
  split at h
  · split at h
    · rename_i hc
      exact okA_sc hc.1 h
    · cases h
  · cases h
theorem asJ_sc (h : asJ pc ls st μ = some (.inl (pc', ls', st', μ'))) : Kp μ μ' := by
  unfold asJ at h
  split at h
  · split at h
    · exact nxJ_sc h
    · cases h
  · cases h
theorem ptf_sc {pl : Nat → Ent} {ix : Nat} (h : ptf pl pc ix ls st μ = some (.inl (pc', ls', st', μ'))) : Kp μ μ' := by
  unfold ptf at h
  split at h
  · split at h
    · rename_i ci j z he
      cases hq : Nat.blt ci 9 <;> rw [hq] at h
      · cases h
      · simp only [cond_true] at h
        have hq := Nat.blt_eq.mp hq
        split at h
        · rename_i hc
          exact nxI_sc hc (by omega) h
        · cases h
    · rename_i ci j z he
      cases hq : Nat.blt ci 9 <;> rw [hq] at h
      · cases h
      · simp only [cond_true] at h
        have hq := Nat.blt_eq.mp hq
        split at h
        · rename_i hc
          exact nxI_sc hc.1 (by omega) h
        · cases h
    · cases h
  · split at h
    · split at h
      · exact nxJ_sc h
      · cases h
    · cases h
  · cases h
theorem jdk_sc {id : Nat} (h : jdk id pc ls st μ = some (.inl (pc', ls', st', μ'))) : Kp μ μ' := by
  unfold jdk at h
  cases hq : Nat.ble (catS st) 8 <;> rw [hq] at h
  · cases h
  · simp only [cond_true] at h
    unfold jdk0 at h
    split at h
    · split at h
      · exact nx_sc h
      · cases h
    · split at h
      · exact nx_sc h
      · cases h
    · split at h
      · exact nx_sc h
      · cases h
    · split at h
      · rename_i n j b i a r
        split at h
        · rename_i hc
          have h9 : nx (pc + 3) ls r (cpI μ a 0 b 0 n.toNatClampNeg) = some (.inl (pc', ls', st', μ')) := h
          obtain ⟨-, -, -, rfl⟩ := nx_inv h9
          refine ⟨⟨rfl, ?_⟩, rfl⟩
          funext q
          have e1 : Nat.beq 390 b = false := by
            cases hb : Nat.beq 390 b
            · rfl
            · exact absurd (Nat.eq_of_beq_eq_true hb) (ne390 hc.2.1 (by decide))
          simp only [mI, cpI, e1, Bool.false_and, cond_false]
        · cases h
      · cases h
    · split at h
      · split at h
        · exact nx_sc h
        · cases h
      · cases h
    · split at h
      · split at h
        · exact nx_sc h
        · cases h
      · cases h
    · split at h
      · split at h
        · exact nx_sc h
        · cases h
      · cases h
    · split at h
      · split at h
        · exact nx_sc h
        · cases h
      · cases h
    · cases h
theorem ivV_sc {pl : Nat → Ent} {ix : Nat} (h : ivV pl pc ix ls st μ = some (.inl (pc', ls', st', μ'))) : Kp μ μ' := by
  unfold ivV at h
  split at h
  · split at h
    · rename_i n na ci _ _ k _
      cases hq : Nat.ble (catS (st.drop na)) 8 <;> rw [hq] at h
      · cases h
      · simp only [cond_true] at h
        split at h <;> cases h
    · cases h
  · rename_i id _ _ _
    cases hq : Nat.ble 5 id <;> rw [hq] at h
    · cases h
    · exact jdk_sc h
  · cases h
theorem ivS_sc {pl : Nat → Ent} {ix : Nat} (h : ivS pl pc ix ls st μ = some (.inl (pc', ls', st', μ'))) : Kp μ μ' := by
  unfold ivS at h
  split at h
  · rename_i n na _ _
    cases hq : Nat.ble na st.length && Nat.ble (catS (st.drop na)) 8 <;> rw [hq] at h <;> cases h
  · rename_i n na _ _
    cases hq : Nat.ble na st.length && Nat.ble (catS (st.drop na)) 8 <;> rw [hq] at h <;> cases h
  · rename_i id _ _ _
    cases hq : Nat.blt id 5 <;> rw [hq] at h
    · cases h
    · exact jdk_sc h
  · cases h
theorem thr_sc {cs : Chunks} {pl : Nat → Ent} {ix : Nat} (h : thr cs pl pc ix st μ = some (.inl (pc', ls', st', μ'))) : False := by
  unfold thr at h
  repeat' (split at h)
  all_goals (first | cases h | (cases hq : st.isEmpty <;> rw [hq] at h <;> cases h))
theorem pex_sc {ins : Instr} (hn : ins ≠ .newarray .int) (h : pex M ins l pc ls st μ = some (.inl (pc', ls', st', μ'))) : Kp μ μ' := by
  unfold pex at h
  split at h
  all_goals first
    | cases h; done
    | exact nx_sc h
    | exact jp_sc h
    | exact asI_sc h
    | exact asJ_sc h
    | exact ptf_sc h
    | exact ivV_sc h
    | exact ivS_sc h
    | exact (thr_sc h).elim
    | exact absurd rfl hn
    | (simp only [alA, ldA, art, arl, stoA, bD, ldD, drt, stoD, dp, dp2, gtf, gst, un32, b32, alI, b32n, ifa, if1, if2, ifn, incI, ldI, irt, stoI, un64, b64, alJ, ldcI, ldc2, ldJ, lsw, b64n, jrt, stoJ, pp, vrt, tsw, dn, Bool.cond_eq_ite] at h
       repeat' (split at h)
       all_goals first
         | cases h; done
         | exact nx_sc h
         | exact jp_sc h
         | exact st1_sc h
         | exact st2_sc h)
    | (split at h <;> first
         | cases h; done
         | exact nx_sc h)
theorem pstep_sc {s s' : PS} (h : pstep M s = some (.inl s')) : Sc s.2.2.2 s'.2.2.2 ∧ s.2.2.2.2.2.2 ≤ s'.2.2.2.2.2.2 := by
  obtain ⟨pc, ls, st, μ⟩ := s
  obtain ⟨pc', ls', st', μ'⟩ := s'
  unfold pstep at h
  simp only at h
  split at h
  · cases h
  · rename_i i l _
    by_cases hn : i = .newarray .int
    · subst hn
      obtain ⟨r, -, -, -, -, rfl⟩ := nwA_inv (show nwA pc ls st μ = some (.inl (pc', ls', st', μ')) from h)
      exact ⟨newM_sc, Nat.le_succ _⟩
    · obtain ⟨h1, h2⟩ := pex_sc hn h
      exact ⟨h1, Nat.le_of_eq h2.symm⟩
theorem nx_no {x : PCl ⊕ PO} (h : nx pc ls st μ = some (.inr x)) : False := by unfold nx at h; cases h
theorem jp_no {off : Int} {x : PCl ⊕ PO} (h : jp pc off ls st μ = some (.inr x)) : False := by
  unfold jp at h
  split at h
  · exact nx_no h
  · cases h
theorem st1_no {v : Value} {x : PCl ⊕ PO} (h : st1 pc l i v ls st μ = some (.inr x)) : False := by
  unfold st1 at h
  cases hq : Nat.blt i ls.length && okS ls i <;> rw [hq] at h
  · cases h
  · exact nx_no h
theorem st2_no {v : Value} {x : PCl ⊕ PO} (h : st2 pc l i v ls st μ = some (.inr x)) : False := by
  unfold st2 at h
  cases hq : Nat.blt (i + 1) ls.length && okS ls i <;> rw [hq] at h
  · cases h
  · exact nx_no h
theorem jdk_no {id : Nat} {x : PCl ⊕ PO} (h : jdk id pc ls st μ = some (.inr x)) : False := by
  unfold jdk at h
  cases hq : Nat.ble (catS st) 8 <;> rw [hq] at h
  · cases h
  · simp only [cond_true] at h
    unfold jdk0 at h
    repeat' (split at h)
    all_goals first
      | cases h; done
      | exact nx_no h
/-- which instructions call, return, throw -/
theorem pex_inr {ins : Instr} {x : PCl ⊕ PO} (h : pex M ins l pc ls st μ = some (.inr x)) : (∃ ix, ins = .invokevirtual ix ∧ ivV M.2.1 pc ix ls st μ = some (.inr x)) ∨ (∃ ix, ins = .invokestatic ix ∧ ivS M.2.1 pc ix ls st μ = some (.inr x)) ∨ (∃ ix, ins = .new ix ∧ thr M.1 M.2.1 pc ix st μ = some (.inr x)) ∨
    (ins = .areturn ∧ art M.2.2.1 st μ = some (.inr x)) ∨ (ins = .dreturn ∧ drt M.2.2.1 st μ = some (.inr x)) ∨ (ins = .ireturn ∧ irt M.2.2.1 st μ = some (.inr x)) ∨ (ins = .lreturn ∧ jrt M.2.2.1 st μ = some (.inr x)) ∨ (ins = .return_ ∧ vrt M.2.2.1 st μ = some (.inr x)) := by
  unfold pex at h
  split at h
  all_goals first
    | exact Or.inl ⟨_, rfl, h⟩
    | exact Or.inr (Or.inl ⟨_, rfl, h⟩)
    | exact Or.inr (Or.inr (Or.inl ⟨_, rfl, h⟩))
    | exact Or.inr (Or.inr (Or.inr (Or.inl ⟨rfl, h⟩)))
    | exact Or.inr (Or.inr (Or.inr (Or.inr (Or.inl ⟨rfl, h⟩))))
    | exact Or.inr (Or.inr (Or.inr (Or.inr (Or.inr (Or.inl ⟨rfl, h⟩)))))
    | exact Or.inr (Or.inr (Or.inr (Or.inr (Or.inr (Or.inr (Or.inl ⟨rfl, h⟩))))))
    | exact Or.inr (Or.inr (Or.inr (Or.inr (Or.inr (Or.inr (Or.inr ⟨rfl, h⟩))))))
    | cases h; done
    | exact (nx_no h).elim
    | exact (jp_no h).elim
    | exact (nwA_no h).elim
    | (simp only [alA, ldA, arl, stoA, bD, ldD, stoD, dp, dp2, gtf, gst, un32, b32, alI, b32n, ifa, if1, if2, ifn, incI, ldI, stoI, un64, b64, alJ, ldcI, ldc2, ldJ, lsw, b64n, stoJ, pp, tsw, asI, asJ, ptf, Bool.cond_eq_ite] at h
       repeat' (split at h)
       all_goals first
         | cases h; done
         | exact (nx_no h).elim
         | exact (jp_no h).elim
         | exact (st1_no h).elim
         | exact (st2_no h).elim)
    | (split at h <;> first
         | cases h; done
         | exact (nx_no h).elim)
end PURE
