/-! THE LAW: its start and its turns -/
section LLAW
variable {z : Nat → Nat} {μ μ1 : PM} {N sv q n : Nat}
theorem and_mask (v : Int32) : ∃ a, a < 2147483648 ∧ v &&& 2147483647 = Int32.ofNat a := by
  refine ⟨(v &&& 2147483647).toBitVec.toNat, ?_, ?_⟩
  · rw [Int32.toBitVec_and, BitVec.toNat_and]
    have h : v.toBitVec.toNat &&& (2147483647 : Int32).toBitVec.toNat ≤ (2147483647 : Int32).toBitVec.toNat := Nat.and_le_right
    have e : (2147483647 : Int32).toBitVec.toNat = 2147483647 := by decide
    omega
  · refine Int32.toBitVec_inj.mp ?_
    show (v &&& 2147483647).toBitVec = BitVec.ofNat 32 (v &&& 2147483647).toBitVec.toNat
    rw [BitVec.ofNat_toNat]
    exact (BitVec.setWidth_eq _).symm
theorem l_cell {j : Nat} (hn : μ.2.2.1 = n) (hn260 : n ≤ 260) (hj : j < 1000) : ∃ v, d_Lw_cell (Int32.ofNat j) μ = rI v μ := by
  rw [e_Lw_cell, hn]
  by_cases h : n ≤ j
  · rw [if_pos (le_y h (by omega))]
    exact ⟨_, rfl⟩
  · rw [if_neg (le_n (by omega) (by omega)), chk_t (i3_inb (by omega) (by omega))]
    exact ⟨_, rfl⟩
/-- between two turns -/
def JL (N sv q n : Nat) (z : Nat → Nat) (μ : PM) : Prop := RT 23 z μ ∧ LT z μ ∧ Okz N z ∧ (∃ old zs, RingC old sv zs μ) ∧ μ.2.2.2 = 4 * q ∧ μ.2.2.1 = n
theorem JL.mono {N' : Nat} (h : JL N sv q n z μ) (hN : N ≤ N') : JL N' sv q n z μ := ⟨h.1, h.2.1, h.2.2.1.mono hN, h.2.2.2⟩
theorem JL.cnt (h : JL N sv q n z μ) : mI μ 1 2 = Int32.ofNat sv ∧ sv ≤ 6 := by
  obtain ⟨_, _, _, ⟨old, zs, hg⟩, _⟩ := h
  exact ⟨hg.2.2.2.1, hg.2.1⟩
theorem JL.told (h : JL N sv q n z μ) (hsh : shareOK z) : d_Lw_told μ = rI 1 μ := l_told h.1 h.2.1 h.2.2.1 h.cnt.1 hsh
theorem JL.ahead (h : JL N sv q n z μ) (hN : N ≤ 20000) : ∃ μ', d_Lw_ahead μ = rI 1 μ' ∧ JL N sv (q + 1) n z μ' := by
  obtain ⟨hr, hl, hk, ⟨old, zs, hg⟩, hq, hn⟩ := h
  obtain ⟨μ1, a1, a2, a3, a4, a5⟩ := l_ahead hr hl hk (by omega) hq
  refine ⟨μ1, a1, RT_fr (fun x y hx hx2 => by rw [a5 x (by omega) (by omega)]) hr, hl.fr (fun x hx => a5 x (by omega) (by omega)), hk, ⟨old, zs, hg.gf (fun x hx y => by rw [a5 x (by omega) (by omega)])⟩, by omega, by rw [a3, hn]⟩
theorem JL.act {a b κ : Nat} (h : JL N sv q n z μ) (hN : N ≤ 19900) (ha : a < 2147483648) (hb : b < 2147483648) (hκ : κ < 23) : ∃ μ' z' sv', d_Lw_act (Int32.ofNat κ) (Int32.ofNat a) (Int32.ofNat b) μ = rI 1 μ' ∧ JL (N + 20) sv' q n z' μ' ∧ (0 < sv ∨ (κ = 0 ∧ z 0 = 0) → 0 < sv') := by
  obtain ⟨hr, hl, hk, ⟨old, zs, hg⟩, hq, hn⟩ := h
  obtain ⟨sv', ⟨μ1, old', zs', z', a1, a2, a3, a4, a5, a6⟩, b1, b2⟩ := l_act hr hl hk hN hg ha hb hκ
  have hnx : 0 < nxt sv := by
    unfold nxt
    split <;> omega
  refine ⟨μ1, z', sv', a1, ⟨a3, a4, a6, ⟨old', zs', a5⟩, by rw [a2.1]; exact hq, by rw [a2.1]; exact hn⟩, fun w => ?_⟩
  rcases w with w | w
  · rcases b1 with e | e
    · rw [e]; exact w
    · rw [e]; exact hnx
  · rw [b2 w.1 w.2]; exact hnx
theorem l_turn {a b κ i : Nat} (hS : ∀ (z : Nat → Nat) (N : Nat), Okz N z → N ≤ 20000 → shareOK z) (h : JL N sv q n z μ) (hN : N ≤ 19900) (ha : a < 2147483648) (hb : b < 2147483648) (hκ : κ < 23) (hi : i < 40) : ∃ μ' z' sv' q', Lw_law_295 (Int32.ofNat i) (Int32.ofNat a) (Int32.ofNat b) (Int32.ofNat κ) μ = Lw_law_171 (Int32.ofNat (i + 1)) (.int (Int32.ofNat a)) (.int (Int32.ofNat b)) (.int (Int32.ofNat κ)) μ' ∧ JL (N + 20) sv' q' n z' μ' ∧ q' ≤ q + 1 ∧ (0 < sv ∨ (κ = 0 ∧ z 0 = 0) → 0 < sv') := by
  obtain ⟨μ1, z', sv', a1, a2, a3⟩ := h.act hN ha hb hκ
  have ht := a2.told (hS z' (N + 20) a2.2.2.1 (by omega))
  have n10 : ¬ (1 : Int32) = 0 := by decide
  have er : Int32.ofNat i - Int32.ofNat i / 5 * 5 = Int32.ofNat (i % 5) := i3_rem (b := 5) (by omega) (by decide)
  rw [Lw_law_295_eq, a1, bI_r, if_neg n10, ht, bI_r, if_pos n10, Lw_law_341_eq, er]
  by_cases c1 : i % 5 = 4
  · rw [if_neg (show ¬ ¬ Int32.ofNat (i % 5) = 4 from fun w => w (by rw [c1]; rfl))]
    by_cases c2 : i ≤ 10
    · rw [if_pos (show Int32.ofNat i ≤ 10 from le_y (b := 10) c2 (by decide)), Lw_law_377_eq, i3_add1]
      exact ⟨μ1, z', sv', q, rfl, a2, by omega, a3⟩
    · obtain ⟨μ2, b1, b2⟩ := a2.ahead (by omega)
      rw [if_neg (show ¬ Int32.ofNat i ≤ 10 from le_n (b := 10) (by omega) (by omega)), b1, bI_r, if_pos n10, Lw_law_377_eq, i3_add1]
      exact ⟨μ2, z', sv', q + 1, rfl, b2, by omega, a3⟩
  · rw [if_pos (show ¬ Int32.ofNat (i % 5) = 4 from k_no (b := 4) c1 (by omega) (by decide)), Lw_law_377_eq, i3_add1]
    exact ⟨μ1, z', sv', q, rfl, a2, by omega, a3⟩
theorem l_law171 {i : Nat} {w10 w11 w12 : Value} (hS : ∀ (z : Nat → Nat) (N : Nat), Okz N z → N ≤ 20000 → shareOK z) (h : JL N sv q n z μ) (hn : n ≤ 260) (hN : N ≤ 19900) (hi : i < 40) : ∃ κ a b, κ < 23 ∧ (i = 0 → κ = 0) ∧ a < 2147483648 ∧ b < 2147483648 ∧ Lw_law_171 (Int32.ofNat i) w10 w11 w12 μ = Lw_law_295 (Int32.ofNat i) (Int32.ofNat a) (Int32.ofNat b) (Int32.ofNat κ) μ := by
  have hnn := h.2.2.2.2.2
  have e2 : 2 * Int32.ofNat i = Int32.ofNat (2 * i) := i3_mul 2 i
  obtain ⟨v4, c4⟩ := l_cell (j := 2 * i) hnn hn (by omega)
  obtain ⟨v6, c6⟩ := l_cell (j := 2 * i + 1) hnn hn (by omega)
  obtain ⟨a, ha, ea⟩ := and_mask v4
  obtain ⟨b, hb, eb⟩ := and_mask v6
  have s13 : Int32.ofNat a >>> ((13 : Int32) &&& 31) = Int32.ofNat (a >>> 13) := i3_shr5 ha 13 (by decide)
  have t23 : d_Lw_at (Int32.ofNat (a >>> 13)) 23 μ = rI (Int32.ofNat (a >>> 13 / 2 % 23)) μ := sh_at (n := 23) ha (by decide) (by decide) μ
  have ly : ∀ c : Nat, c ≤ i → c < 100 → Int32.ofNat c ≤ Int32.ofNat i := fun c hc _ => le_y hc (by omega)
  have ln : ∀ c : Nat, i < c → c < 100 → ¬ Int32.ofNat c ≤ Int32.ofNat i := fun c hc _ => le_n hc (by omega)
  rw [Lw_law_171_eq, if_neg (show ¬ (40 : Int32) ≤ Int32.ofNat i from ln 40 hi (by decide)), e2, c4, bI_r, i3_add1, c6, bI_r, ea, eb]
  by_cases d4 : 4 ≤ i
  · rw [if_pos (show (4 : Int32) ≤ Int32.ofNat i from ly 4 d4 (by decide))]
    by_cases d6 : 6 ≤ i
    · rw [if_pos (show (6 : Int32) ≤ Int32.ofNat i from ly 6 d6 (by decide))]
      by_cases d9 : 9 ≤ i
      · rw [if_pos (show (9 : Int32) ≤ Int32.ofNat i from ly 9 d9 (by decide))]
        by_cases d11 : 11 ≤ i
        · rw [if_pos (show (11 : Int32) ≤ Int32.ofNat i from ly 11 d11 (by decide))]
          by_cases d13 : 13 ≤ i
          · rw [if_pos (show (13 : Int32) ≤ Int32.ofNat i from ly 13 d13 (by decide))]
            by_cases d16 : 16 ≤ i
            · rw [if_pos (show (16 : Int32) ≤ Int32.ofNat i from ly 16 d16 (by decide))]
              by_cases d : i = 16
              · rw [if_neg (show ¬ ¬ Int32.ofNat i = 16 from fun w => w (by rw [d]; rfl))]
                exact ⟨8, a, b, by decide, fun w => by omega, ha, hb, rfl⟩
              · rw [if_pos (show ¬ Int32.ofNat i = 16 from k_no (b := 16) d (by omega) (by decide)), s13, t23, bI_r]
                exact ⟨_, a, b, Nat.mod_lt _ (by decide), fun w => by omega, ha, hb, rfl⟩
            · rw [if_neg (show ¬ (16 : Int32) ≤ Int32.ofNat i from ln 16 (by omega) (by decide))]
              exact ⟨5, a, b, by decide, fun w => by omega, ha, hb, rfl⟩
          · rw [if_neg (show ¬ (13 : Int32) ≤ Int32.ofNat i from ln 13 (by omega) (by decide))]
            exact ⟨4, a, b, by decide, fun w => by omega, ha, hb, rfl⟩
        · rw [if_neg (show ¬ (11 : Int32) ≤ Int32.ofNat i from ln 11 (by omega) (by decide))]
          exact ⟨3, a, b, by decide, fun w => by omega, ha, hb, rfl⟩
      · rw [if_neg (show ¬ (9 : Int32) ≤ Int32.ofNat i from ln 9 (by omega) (by decide))]
        exact ⟨2, a, b, by decide, fun w => by omega, ha, hb, rfl⟩
    · rw [if_neg (show ¬ (6 : Int32) ≤ Int32.ofNat i from ln 6 (by omega) (by decide))]
      exact ⟨1, a, b, by decide, fun w => by omega, ha, hb, rfl⟩
  · rw [if_neg (show ¬ (4 : Int32) ≤ Int32.ofNat i from ln 4 (by omega) (by decide))]
    exact ⟨0, a, b, by decide, fun _ => rfl, ha, hb, rfl⟩
theorem l_loop (hS : ∀ (z : Nat → Nat) (N : Nat), Okz N z → N ≤ 20000 → shareOK z) (hn : n ≤ 260) : ∀ (k i : Nat) (N sv q : Nat) (z : Nat → Nat) (μ : PM) (w10 w11 w12 : Value), i + k = 40 → JL N sv q n z μ → N ≤ 20 * i → q ≤ i + 1 → (i = 0 → z 0 = 0) → (0 < i → 0 < sv) →
    ∃ μ', Lw_law_171 (Int32.ofNat i) w10 w11 w12 μ = rI 1 μ' ∧ μ'.2.2.2 ≤ 1000 := by
  intro k
  induction k with
  | zero =>
    intro i N sv q z μ w10 w11 w12 hi h hN hq h0 h1
    have : i = 40 := by omega
    subst this
    have hs := h.cnt
    have hpos := h1 (by decide)
    have e15 : d_Oc_count 15 μ = rI (Int32.ofNat sv) μ := t_count (j := 15) (sv := sv) h.1 h.2.2.1.1 h.2.2.1.2.2.2.1 hs.1 (by decide)
    refine ⟨μ, ?_, by rw [h.2.2.2.2.1]; omega⟩
    rw [Lw_law_171_eq, if_pos (show (40 : Int32) ≤ Int32.ofNat 40 by decide), e15, bI_r, if_neg (show ¬ Int32.ofNat sv ≤ 0 from le_n (b := 0) hpos (by omega))]
  | succ k ih =>
    intro i N sv q z μ w10 w11 w12 hi h hN hq h0 h1
    obtain ⟨κ, a, b, c1, c2, c3, c4, c5⟩ := l_law171 (w10 := w10) (w11 := w11) (w12 := w12) hS h hn (by omega) (show i < 40 by omega)
    obtain ⟨μ1, z', sv', q', d1, d2, d3, d4⟩ := l_turn (i := i) hS h (by omega) c3 c4 c1 (by omega)
    rw [c5, d1]
    exact ih (i + 1) (N + 20) sv' q' z' μ1 _ _ _ (by omega) d2 (by omega) (by omega) (fun w => by omega) (fun _ => d4 (by
      by_cases e : i = 0
      · exact Or.inr ⟨c2 e, h0 e⟩
      · exact Or.inl (h1 (by omega))))
end LLAW
