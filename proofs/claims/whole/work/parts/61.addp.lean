/-! SEMANTICS: addPlayer -/
section ADDP
variable {z : Nat → Nat} {μ : PM}
def setN (z : Nat → Nat) (k v : Nat) : Nat → Nat := fun j => if j = k then v else z j
theorem zI_set {k v : Nat} {μ : PM} (hz : mI μ 13 = zI z) : mI (stI μ 13 k (Int32.ofNat v)) 13 = zI (setN z k v) := by
  funext j
  rw [st_get, hz]
  show _ = Int32.ofNat (if j = k then v else z j)
  by_cases e : j = k
  · rw [if_pos ⟨rfl, e⟩, if_pos e]
  · rw [if_neg (fun q => e q.2), if_neg e]
    rfl
theorem reqS_y {x : Int32} (h : x ≠ 0) : d_Oc_requireState x μ = some (.inl none, μ) := by rw [e_Oc_requireState, if_pos h]
theorem reqS_n : d_Oc_requireState 0 μ = some (.inr 2, exM μ) := by rw [e_Oc_requireState, if_neg (fun q => q rfl)]
end ADDP
