/-! SEMANTICS: addPlayer, as the law makes it -/
section ADDP2
theorem RingC.st {old sv : Nat} {zs : Nat → Nat → Nat} {μ : PM} {k j : Nat} {v : Int32} (hk : 23 ≤ k ∧ k < 69) (hg : RingC old sv zs μ) : RingC old sv zs (stI μ k j v) := by
  obtain ⟨q1, q2, q3, q4, q5⟩ := hg
  refine ⟨q1, q2, by rw [stI_ne _ _ _ (by omega)]; exact q3, by rw [stI_ne _ _ _ (by omega)]; exact q4, fun i hi => RT_fr (fun x y hx hx2 => by rw [stI_ne _ _ _ (by omega)]) (q5 i hi)⟩
theorem RingM.st {sv : Nat} {zs : Nat → Nat → Nat} {μ : PM} {k j : Nat} {v : Int32} (hk : k ≠ 15) (hk2 : k = 12 → j ≠ 14) (hg : RingM sv zs μ) : RingM sv zs (stI μ k j v) := by
  obtain ⟨q1, q2, q3⟩ := hg
  refine ⟨q1, by rw [st_get, if_neg (fun q => hk2 q.1.symm q.2.symm)]; exact q2, fun i hi m hm => by rw [stI_ne _ _ _ (fun q => hk q.symm)]; exact q3 i hi m hm⟩
end ADDP2
