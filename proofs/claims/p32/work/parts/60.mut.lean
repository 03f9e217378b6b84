/-! SEMANTICS: calls that change the state -/
section MUT
theorem pushZ_ok {N N' : Nat} {sv : Nat} {zs : Nat → Nat → Nat} {z : Nat → Nat} (h6 : sv ≤ 6) (hz : Okz N z) (hs : ∀ k, k < sv → Okz N (zs k)) (hn : N ≤ N') : ∀ k, k < nxt sv → Okz N' (pushZ zs sv z k) := by
  intro k hk
  unfold nxt at hk
  unfold pushZ
  by_cases h : sv = 6
  · rw [if_pos h] at hk ⊢
    by_cases e : k = 5
    · show Okz N' (if k = 5 then z else zs (k + 1))
      rw [if_pos e]
      exact hz.mono hn
    · show Okz N' (if k = 5 then z else zs (k + 1))
      rw [if_neg e]
      exact (hs (k + 1) (by omega)).mono hn
  · rw [if_neg h] at hk ⊢
    by_cases e : k = sv
    · show Okz N' (if k = sv then z else zs k)
      rw [if_pos e]
      exact hz.mono hn
    · show Okz N' (if k = sv then z else zs k)
      rw [if_neg e]
      exact (hs k (by omega)).mono hn
end MUT
