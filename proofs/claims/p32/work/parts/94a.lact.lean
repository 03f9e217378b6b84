/-! THE LAW'S TURNS: counts, what a turn gives, corners -/
section LACT
variable {z z' : Nat → Nat} {μ μ1 μ2 : PM} {N old sv a b : Nat} {zs : Nat → Nat → Nat}
theorem LT.n0 {v : Nat} (h : LT z μ) (hv : v ≤ 6) : LT (setN z 0 v) (stI μ 18 0 (Int32.ofNat v)) := by
  obtain ⟨⟨b0, b1, b2⟩, gc, go, gp, gi, gu, gs, gn⟩ := h
  refine ⟨⟨by rw [setN_self]; exact hv, by rw [setN_ne (by decide)]; exact b1, by rw [setN_ne (by decide)]; exact b2⟩, fun j hj => ?_, fun j hj => ?_, fun j hj q => ?_, fun p9 hp9 o9 ho9 => ?_, fun j hj => ?_, fun j hj => ?_, fun j hj => ?_⟩
  · rw [setN_ne (by omega), stI_ne _ _ _ (by decide)]; exact gc j hj
  · rw [setN_ne (by omega), stI_ne _ _ _ (by decide)]; exact go j hj
  · rw [setN_ne (by decide)] at q
    rw [setN_ne (by omega), stI_ne _ _ _ (by decide)]; exact gp j hj q
  · rw [setN_ne (by omega), stI_ne _ _ _ (by decide)]; exact gi p9 hp9 o9 ho9
  · rw [setN_ne (by omega), stI_ne _ _ _ (by decide)]; exact gu j hj
  · rw [setN_ne (by omega), stI_ne _ _ _ (by decide)]; exact gs j hj
  · rw [st_get]
    by_cases e : j = 0
    · rw [if_pos ⟨rfl, e⟩, e, setN_self]
    · rw [if_neg (fun q => e q.2), setN_ne (by omega)]
      exact gn j hj
theorem LT.n1 {v : Nat} (h : LT z μ) (hv : v ≤ 3) : LT (setN z 1 v) (stI μ 18 1 (Int32.ofNat v)) := by
  obtain ⟨⟨b0, b1, b2⟩, gc, go, gp, gi, gu, gs, gn⟩ := h
  refine ⟨⟨by rw [setN_ne (by decide)]; exact b0, by rw [setN_self]; exact hv, by rw [setN_ne (by decide)]; exact b2⟩, fun j hj => ?_, fun j hj => ?_, fun j hj q => ?_, fun p9 hp9 o9 ho9 => ?_, fun j hj => ?_, fun j hj => ?_, fun j hj => ?_⟩
  · rw [setN_ne (by omega), stI_ne _ _ _ (by decide)]; exact gc j hj
  · rw [setN_ne (by omega), stI_ne _ _ _ (by decide)]; exact go j hj
  · rw [setN_ne (by decide)] at q
    rw [setN_ne (by omega), stI_ne _ _ _ (by decide)]; exact gp j hj q
  · rw [setN_ne (by omega), stI_ne _ _ _ (by decide)]; exact gi p9 hp9 o9 ho9
  · rw [setN_ne (by omega), stI_ne _ _ _ (by decide)]; exact gu j hj
  · rw [setN_ne (by omega), stI_ne _ _ _ (by decide)]; exact gs j hj
  · rw [st_get]
    by_cases e : j = 1
    · rw [if_pos ⟨rfl, e⟩, e, setN_self]
    · rw [if_neg (fun q => e q.2), setN_ne (by omega)]
      exact gn j hj
/-- one more player, who has no organ -/
theorem LT.n2 (h : LT z μ) (hv : z 2 + 1 ≤ 4) (h0 : z (91 + 4 * z 2) = 0) : LT (setN z 2 (z 2 + 1)) (stI (stI μ 14 (4 * z 2) (-1)) 18 2 (Int32.ofNat (z 2 + 1))) := by
  obtain ⟨⟨b0, b1, b2⟩, gc, go, gp, gi, gu, gs, gn⟩ := h
  refine ⟨⟨by rw [setN_ne (by decide)]; exact b0, by rw [setN_ne (by decide)]; exact b1, by rw [setN_self]; exact hv⟩, fun j hj => ?_, fun j hj => ?_, fun j hj q => ?_, fun p9 hp9 o9 ho9 => ?_, fun j hj => ?_, fun j hj => ?_, fun j hj => ?_⟩
  · rw [setN_ne (by omega), stI_ne _ _ _ (by decide), stI_ne _ _ _ (by decide)]; exact gc j hj
  · rw [setN_ne (by omega), stI_ne _ _ _ (by decide), stI_ne _ _ _ (by decide)]; exact go j hj
  · rw [setN_self] at q
    rw [setN_ne (by omega), stI_ne _ _ _ (by decide), st_get]
    by_cases e : j = 4 * z 2
    · rw [if_pos ⟨rfl, e⟩, e]
      unfold ep
      rw [if_pos (by omega), h0, pm_zero]
    · rw [if_neg (fun r => e r.2)]
      exact gp j hj (fun r => by
        have := q r
        omega)
  · rw [setN_ne (by omega), stI_ne _ _ _ (by decide), stI_ne _ _ _ (by decide)]; exact gi p9 hp9 o9 ho9
  · rw [setN_ne (by omega), stI_ne _ _ _ (by decide), stI_ne _ _ _ (by decide)]; exact gu j hj
  · rw [setN_ne (by omega), stI_ne _ _ _ (by decide), stI_ne _ _ _ (by decide)]; exact gs j hj
  · rw [st_get]
    by_cases e : j = 2
    · rw [if_pos ⟨rfl, e⟩, e, setN_self]
    · rw [if_neg (fun q => e q.2), setN_ne (by omega), stI_ne _ _ _ (by decide)]
      exact gn j hj
/-- what a turn gives -/
def Rs (N sv' : Nat) (c : Option PO) (μ : PM) : Prop := ∃ (μ' : PM) (old' : Nat) (zs' : Nat → Nat → Nat) (z' : Nat → Nat), c = rI 1 μ' ∧ GFr μ μ' ∧ RT 23 z' μ' ∧ LT z' μ' ∧ RingC old' sv' zs' μ' ∧ Okz (N + 20) z'
theorem Rs.stay {c : Option PO} (hr : RT 23 z μ) (hl : LT z μ) (hk : Okz N z) (hg : RingC old sv zs μ) (h : c = rI 1 μ) : Rs N sv c μ := ⟨μ, old, zs, z, h, GFr.rf, hr, hl, hg, hk.mono (by omega)⟩
theorem LFr.rt (h : LFr μ μ1) (hr : RT 23 z μ) : RT 23 z μ1 := RT_fr (fun x y hx hx2 => by rw [h.2 x (by omega)]) hr
theorem LFr.rg (h : LFr μ μ1) (hg : RingC old sv zs μ) : RingC old sv zs μ1 := hg.gf (fun x hx y => by rw [h.2 x (by omega)])
theorem LFr.gf (h : LFr μ μ1) : GFr μ μ1 := ⟨h.1, fun x hx => h.2 x (by omega)⟩
theorem CFr.gf (h : CFr μ μ1) : GFr μ μ1 := ⟨h.1, fun x hx => h.2 x (by omega)⟩
theorem CFr.lt (h : CFr μ μ1) (hl : LT z μ) : LT z μ1 := hl.fr (fun x hx => h.2 x (by omega))
/-- the law sets, then the class is called -/
theorem Rs.lc {c : Option PO} {v : Int32} (hL : LFr μ μ1) (hl : LT z' μ1) (hc : Chg N sv c v z' μ1) : ∃ μ2, c = rI v μ2 ∧ LT z' μ2 ∧ ∀ K, K = rI 1 μ2 → Rs N (nxt sv) K μ := by
  obtain ⟨μ2, old', zs', c1, c2, c3, c4, c5⟩ := hc
  exact ⟨μ2, c1, c2.lt hl, fun K hK => ⟨μ2, old', zs', z', hK, hL.gf.tr c2.gf, c3, c2.lt hl, c4, c5⟩⟩
/-- the class is called, then the law sets -/
theorem Rs.cl {c : Option PO} {v : Int32} (hl : LT z μ) (hc : Chg N sv c v z' μ) : ∃ μ2, c = rI v μ2 ∧ LT z μ2 ∧ ∀ K μ3, K = rI 1 μ3 → LFr μ2 μ3 → LT z' μ3 → Rs N (nxt sv) K μ := by
  obtain ⟨μ2, old', zs', c1, c2, c3, c4, c5⟩ := hc
  exact ⟨μ2, c1, c2.lt hl, fun K μ3 hK h3 h4 => ⟨μ3, old', zs', z', hK, c2.gf.tr h3.gf, h3.rt c3, h4, h3.rg c4, c5⟩⟩
theorem sh_at {t n : Nat} (hb : b < 2147483648) (hn : n < 2147483648) (h0 : 0 < n) (ν : PM) : d_Lw_at (Int32.ofNat (b >>> t)) (Int32.ofNat n) ν = rI (Int32.ofNat (b >>> t / 2 % n)) ν :=
  l_at (Nat.lt_of_le_of_lt (Nat.shiftRight_le b t) hb) hn h0
theorem sd_mod {x n : Nat} (h : 0 < n) : x % n < n := Nat.mod_lt _ h
theorem LT.c12 {c w v : Nat} (h : LT z μ) (hc : c < 6) (hw : w < 4) : LT (setN z (16 + 4 * c + w) v) (stI μ 12 (4 * c + w) (Int32.ofNat v)) := by
  have := h.s12 (i := 4 * c + w) (v := v) (by omega)
  rw [show 16 + (4 * c + w) = 16 + 4 * c + w by omega] at this
  exact this
theorem l_act15 {x1 x2 : Int32} {p : Nat} (hr : RT 23 z μ) (hl : LT z μ) (hk : Okz N z) (hg : RingC old sv zs μ) (hb : b < 2147483648) (hp : p < 100) : ∀ k i, i + k = z 0 → ¬ tak z p i →
    ∃ sv', Rs N sv' (Lw_act_15 x1 x2 (Int32.ofNat b) (Int32.ofNat p) (Int32.ofNat i) μ) μ ∧ (sv' = sv ∨ sv' = nxt sv) ∧ (z 0 = 0 → sv' = nxt sv) := by
  have hbd := hk.1
  have hn0 := hl.1.1
  intro k
  induction k with
  | zero =>
    intro i hi hnt
    have : i = z 0 := by omega
    subst this
    rw [Lw_act_15_eq, a_n0 hl, if_pos (le_y (Nat.le_refl _) (by omega))]
    by_cases q : z 0 = 6
    · rw [if_neg (show ¬ ¬ Int32.ofNat (z 0) = 6 from fun r => r (by rw [q]; rfl))]
      exact ⟨sv, Rs.stay hr hl hk hg rfl, Or.inl rfl, fun q2 => by omega⟩
    · refine ⟨nxt sv, ?_, Or.inr rfl, fun _ => rfl⟩
      have s7 : Int32.ofNat b >>> ((7 : Int32) &&& 31) = Int32.ofNat (b >>> 7) := i3_shr5 hb 7 (by decide)
      have s11 : Int32.ofNat b >>> ((11 : Int32) &&& 31) = Int32.ofNat (b >>> 11) := i3_shr5 hb 11 (by decide)
      have t90 : ∀ ν : PM, d_Lw_at (Int32.ofNat b) 90 ν = rI (Int32.ofNat (b / 2 % 90)) ν := fun ν => l_at (n := 90) hb (by decide) (by decide)
      have t10 : ∀ ν : PM, d_Lw_at (Int32.ofNat (b >>> 7)) 10 ν = rI (Int32.ofNat (b >>> 7 / 2 % 10)) ν := fun ν => sh_at (n := 10) hb (by decide) (by decide) ν
      have t4 : ∀ ν : PM, d_Lw_at (Int32.ofNat (b >>> 11)) 4 ν = rI (Int32.ofNat (b >>> 11 / 2 % 4)) ν := fun ν => sh_at (n := 4) hb (by decide) (by decide) ν
      have m90 : b / 2 % 90 < 90 := Nat.mod_lt _ (by decide)
      have m10 : b >>> 7 / 2 % 10 < 10 := Nat.mod_lt _ (by decide)
      have m4 : b >>> 11 / 2 % 4 < 4 := Nat.mod_lt _ (by decide)
      generalize b / 2 % 90 = w at t90 m90
      generalize b >>> 7 / 2 % 10 = f at t10 m10
      generalize b >>> 11 / 2 % 4 = l at t4 m4
      have h6 : z 0 < 6 := by omega
      have l1 : LT (setN z (16 + 4 * z 0) p) (stI μ 12 (4 * z 0) (Int32.ofNat p)) := hl.c12 (w := 0) h6 (by decide)
      have l2 := l1.c12 (c := z 0) (w := 1) (v := 1 + w) h6 (by decide)
      have l3 := l2.c12 (c := z 0) (w := 2) (v := f) h6 (by decide)
      have l4 := l3.c12 (c := z 0) (w := 3) (v := l) h6 (by decide)
      have l5 := l4.n0 (v := z 0 + 1) (by omega)
      have e1w : 1 + Int32.ofNat w = Int32.ofNat (1 + w) := i3_add 1 w
      have en : ∀ ν : PM, mI (stI (stI (stI (stI ν 12 (4 * z 0) (Int32.ofNat p)) 12 (4 * z 0 + 1) (Int32.ofNat (1 + w))) 12 (4 * z 0 + 2) (Int32.ofNat f)) 12 (4 * z 0 + 3) (Int32.ofNat l)) 12 (4 * z 0 + 1) = Int32.ofNat (1 + w) := fun ν => by rw [st_get, if_neg (by omega), st_get, if_neg (by omega), st_get, if_pos ⟨rfl, rfl⟩]
      have ef : ∀ ν : PM, mI (stI (stI (stI (stI ν 12 (4 * z 0) (Int32.ofNat p)) 12 (4 * z 0 + 1) (Int32.ofNat (1 + w))) 12 (4 * z 0 + 2) (Int32.ofNat f)) 12 (4 * z 0 + 3) (Int32.ofNat l)) 12 (4 * z 0 + 2) = Int32.ofNat f := fun ν => by rw [st_get, if_neg (by omega), st_get, if_pos ⟨rfl, rfl⟩]
      have el : ∀ ν : PM, mI (stI (stI (stI (stI ν 12 (4 * z 0) (Int32.ofNat p)) 12 (4 * z 0 + 1) (Int32.ofNat (1 + w))) 12 (4 * z 0 + 2) (Int32.ofNat f)) 12 (4 * z 0 + 3) (Int32.ofNat l)) 12 (4 * z 0 + 3) = Int32.ofNat l := fun ν => by rw [st_get, if_pos ⟨rfl, rfl⟩]
      have e0 : mI (stI (stI (stI μ 12 (4 * z 0) (Int32.ofNat p)) 12 (4 * z 0 + 1) (Int32.ofNat (1 + w))) 12 (4 * z 0 + 2) (Int32.ofNat f)) 18 0 = Int32.ofNat (z 0) := by rw [stI_ne _ _ _ (by decide), stI_ne _ _ _ (by decide), stI_ne _ _ _ (by decide), a_n0 hl]
      have hF : LFr μ (stI (stI (stI (stI (stI μ 12 (4 * z 0) (Int32.ofNat p)) 12 (4 * z 0 + 1) (Int32.ofNat (1 + w))) 12 (4 * z 0 + 2) (Int32.ofNat f)) 12 (4 * z 0 + 3) (Int32.ofNat l)) 18 0 (Int32.ofNat (z 0 + 1))) := ((((LFr.rf.st (by decide)).st (by decide)).st (by decide)).st (by decide)).st (by decide)
      obtain ⟨μ2, g1, g2, g3⟩ := Rs.lc (z' := zAddc z p (1 + w) f l) hF l5 (c_addCorner (hF.rt hr) hk (hF.rg hg) (by omega) (by omega) (by omega) (by omega) (by omega) (by omega) hnt)
      have ez : zAddc z p (1 + w) f l 0 = z 0 + 1 := setN_self
      have e18 : mI μ2 18 0 - 1 = Int32.ofNat (z 0) := by
        rw [a_n0 g2, ez]
        exact i3_sub (b := 1) (by omega)
      rw [pm_succ] at g1
      rw [if_pos (show ¬ Int32.ofNat (z 0) = 6 from k_no (b := 6) q (by omega) (by decide)), k4, ka1, ka2, ka3, chk_t (i3_inb (by omega) (by decide)), i3_nat (by omega), t90, bI_r, e1w, chk_t (i3_inb (by omega) (by decide)), i3_nat (by omega), s7, t10, bI_r, chk_t (i3_inb (by omega) (by decide)), i3_nat (by omega), s11, t4, bI_r, chk_t (i3_inb (by omega) (by decide)), i3_nat (by omega), en, ef, el, e0, i3_add1, g1, bI_r, e18, if_neg ne_0]
      exact g3 _ rfl
  | succ k ih =>
    intro i hi hnt
    have hc := hbd.big (16 + 4 * i) (by omega)
    rw [Lw_act_15_eq, a_n0 hl, if_neg (le_n (by omega) (by omega)), k4, chk_t (i3_inb (by omega) (by decide)), i3_nat (by omega), a_c0 hl (by omega)]
    by_cases q : z (16 + 4 * i) = p
    · rw [if_neg (show ¬ ¬ Int32.ofNat (z (16 + 4 * i)) = Int32.ofNat p from fun r => r (by rw [q]))]
      exact ⟨sv, Rs.stay hr hl hk hg rfl, Or.inl rfl, fun q2 => by omega⟩
    · rw [if_pos (show ¬ Int32.ofNat (z (16 + 4 * i)) = Int32.ofNat p from fun r => q (by rw [i3_eq (by omega) (by omega)] at r; exact r)), i3_add1]
      exact ih (i + 1) (by omega) (fun ⟨c, c1, c2⟩ => by
        by_cases e : c = i
        · rw [e] at c2; exact q c2
        · exact hnt ⟨c, by omega, c2⟩)
end LACT
