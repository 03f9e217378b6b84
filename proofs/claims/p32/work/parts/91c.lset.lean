/-! THE LAW'S OWN TOWN: after one set (wip/p32/genlt.py) -/
section LSET
variable {z : Nat → Nat} {μ μ1 : PM}
theorem LTr.fr {kt : Nat} (h : LTr kt z μ) (e : ∀ x, (x = kt ∨ (12 ≤ x ∧ x < 19)) → mI μ1 x = mI μ x) : LTr kt z μ1 := by
  obtain ⟨hb, hc, ho, hp, hi, hu, hs, hn⟩ := h
  refine ⟨hb, fun j hj => ?_, fun j hj => ?_, fun j hj q => ?_, fun p hp2 o ho2 => ?_, fun j hj => ?_, fun j hj => ?_, fun j hj => ?_⟩
  · rw [e 12 (by omega)]; exact hc j hj
  · rw [e 13 (by omega)]; exact ho j hj
  · rw [e 14 (by omega)]; exact hp j hj q
  · rw [e 15 (by omega)]; exact hi p hp2 o ho2
  · rw [e kt (Or.inl rfl)]; exact hu j hj
  · rw [e 17 (by omega)]; exact hs j hj
  · rw [e 18 (by omega)]; exact hn j hj
theorem LT.fr (h : LT z μ) (e : ∀ x, (12 ≤ x ∧ x < 19) → mI μ1 x = mI μ x) : LT z μ1 := LTr.fr h (fun x hx => e x (by omega))
theorem LT.s12 {i v : Nat} (h : LT z μ) (hi : i < 24) : LT (setN z (16 + i) v) (stI μ 12 (i) (Int32.ofNat v)) := by
  obtain ⟨⟨b0, b1, b2⟩, gc, go, gp, gi, gu, gs, gn⟩ := h
  have hz : ∀ j, j < 3 → setN z (16 + i) v j = z j := fun j hj => setN_ne (by omega)
  refine ⟨⟨by rw [hz 0 (by decide)]; exact b0, by rw [hz 1 (by decide)]; exact b1, by rw [hz 2 (by decide)]; exact b2⟩, fun j hj => ?_, fun j hj => ?_, fun j hj q => ?_, fun p9 hp9 o9 ho9 => ?_, fun j hj => ?_, fun j hj => ?_, fun j hj => ?_⟩
  · rw [st_get]
    by_cases e : j = i
    · rw [if_pos ⟨rfl, e⟩, e, setN_self]
    · rw [if_neg (fun q => e q.2), setN_ne (by omega)]
      exact gc j hj
  · rw [setN_ne (by omega), stI_ne _ _ _ (by decide)]; exact go j hj
  · rw [hz 2 (by decide)] at q
    rw [setN_ne (by omega), stI_ne _ _ _ (by decide)]; exact gp j hj q
  · rw [setN_ne (by omega), stI_ne _ _ _ (by decide)]; exact gi p9 hp9 o9 ho9
  · rw [setN_ne (by omega), stI_ne _ _ _ (by decide)]; exact gu j hj
  · rw [setN_ne (by omega), stI_ne _ _ _ (by decide)]; exact gs j hj
  · rw [setN_ne (by omega), stI_ne _ _ _ (by decide)]; exact gn j hj
theorem LT.s13 {i v : Nat} {w : Int32} (h : LT z μ) (hi : i < 21) (hw : w = eo i v) : LT (setN z (56 + i) v) (stI μ 13 (i) w) := by
  obtain ⟨⟨b0, b1, b2⟩, gc, go, gp, gi, gu, gs, gn⟩ := h
  have hz : ∀ j, j < 3 → setN z (56 + i) v j = z j := fun j hj => setN_ne (by omega)
  refine ⟨⟨by rw [hz 0 (by decide)]; exact b0, by rw [hz 1 (by decide)]; exact b1, by rw [hz 2 (by decide)]; exact b2⟩, fun j hj => ?_, fun j hj => ?_, fun j hj q => ?_, fun p9 hp9 o9 ho9 => ?_, fun j hj => ?_, fun j hj => ?_, fun j hj => ?_⟩
  · rw [setN_ne (by omega), stI_ne _ _ _ (by decide)]; exact gc j hj
  · rw [st_get]
    by_cases e : j = i
    · rw [if_pos ⟨rfl, e⟩, e, setN_self]; exact hw
    · rw [if_neg (fun q => e q.2), setN_ne (by omega)]
      exact go j hj
  · rw [hz 2 (by decide)] at q
    rw [setN_ne (by omega), stI_ne _ _ _ (by decide)]; exact gp j hj q
  · rw [setN_ne (by omega), stI_ne _ _ _ (by decide)]; exact gi p9 hp9 o9 ho9
  · rw [setN_ne (by omega), stI_ne _ _ _ (by decide)]; exact gu j hj
  · rw [setN_ne (by omega), stI_ne _ _ _ (by decide)]; exact gs j hj
  · rw [setN_ne (by omega), stI_ne _ _ _ (by decide)]; exact gn j hj
theorem LT.s14 {i v : Nat} {w : Int32} (h : LT z μ) (hi : i < 16) (hw : w = ep i v) : LT (setN z (91 + i) v) (stI μ 14 (i) w) := by
  obtain ⟨⟨b0, b1, b2⟩, gc, go, gp, gi, gu, gs, gn⟩ := h
  have hz : ∀ j, j < 3 → setN z (91 + i) v j = z j := fun j hj => setN_ne (by omega)
  refine ⟨⟨by rw [hz 0 (by decide)]; exact b0, by rw [hz 1 (by decide)]; exact b1, by rw [hz 2 (by decide)]; exact b2⟩, fun j hj => ?_, fun j hj => ?_, fun j hj q => ?_, fun p9 hp9 o9 ho9 => ?_, fun j hj => ?_, fun j hj => ?_, fun j hj => ?_⟩
  · rw [setN_ne (by omega), stI_ne _ _ _ (by decide)]; exact gc j hj
  · rw [setN_ne (by omega), stI_ne _ _ _ (by decide)]; exact go j hj
  · rw [hz 2 (by decide)] at q
    rw [st_get]
    by_cases e : j = i
    · rw [if_pos ⟨rfl, e⟩, e, setN_self]; exact hw
    · rw [if_neg (fun q => e q.2), setN_ne (by omega)]
      exact gp j hj q
  · rw [setN_ne (by omega), stI_ne _ _ _ (by decide)]; exact gi p9 hp9 o9 ho9
  · rw [setN_ne (by omega), stI_ne _ _ _ (by decide)]; exact gu j hj
  · rw [setN_ne (by omega), stI_ne _ _ _ (by decide)]; exact gs j hj
  · rw [setN_ne (by omega), stI_ne _ _ _ (by decide)]; exact gn j hj
theorem LT.s15 {p o v : Nat} (h : LT z μ) (hp : p < 4) (ho : o < 3) : LT (setN z (123 + 5 * p + o) v) (stI μ 15 (3 * p + o) (Int32.ofNat v)) := by
  obtain ⟨⟨b0, b1, b2⟩, gc, go, gp, gi, gu, gs, gn⟩ := h
  have hz : ∀ j, j < 3 → setN z (123 + 5 * p + o) v j = z j := fun j hj => setN_ne (by omega)
  refine ⟨⟨by rw [hz 0 (by decide)]; exact b0, by rw [hz 1 (by decide)]; exact b1, by rw [hz 2 (by decide)]; exact b2⟩, fun j hj => ?_, fun j hj => ?_, fun j hj q => ?_, fun p9 hp9 o9 ho9 => ?_, fun j hj => ?_, fun j hj => ?_, fun j hj => ?_⟩
  · rw [setN_ne (by omega), stI_ne _ _ _ (by decide)]; exact gc j hj
  · rw [setN_ne (by omega), stI_ne _ _ _ (by decide)]; exact go j hj
  · rw [hz 2 (by decide)] at q
    rw [setN_ne (by omega), stI_ne _ _ _ (by decide)]; exact gp j hj q
  · rw [st_get]
    by_cases e : p9 = p ∧ o9 = o
    · obtain ⟨e1, e2⟩ := e
      rw [if_pos ⟨rfl, by rw [e1, e2]⟩, e1, e2, setN_self]
    · rw [if_neg (fun q => e ⟨by omega, by omega⟩), setN_ne (by omega)]
      exact gi p9 hp9 o9 ho9
  · rw [setN_ne (by omega), stI_ne _ _ _ (by decide)]; exact gu j hj
  · rw [setN_ne (by omega), stI_ne _ _ _ (by decide)]; exact gs j hj
  · rw [setN_ne (by omega), stI_ne _ _ _ (by decide)]; exact gn j hj
theorem LT.s16 {i v : Nat} {w : Int32} (h : LT z μ) (hi : i < 30) (hw : w = pm v) : LT (setN z (163 + i) v) (stI μ 16 (i) w) := by
  obtain ⟨⟨b0, b1, b2⟩, gc, go, gp, gi, gu, gs, gn⟩ := h
  have hz : ∀ j, j < 3 → setN z (163 + i) v j = z j := fun j hj => setN_ne (by omega)
  refine ⟨⟨by rw [hz 0 (by decide)]; exact b0, by rw [hz 1 (by decide)]; exact b1, by rw [hz 2 (by decide)]; exact b2⟩, fun j hj => ?_, fun j hj => ?_, fun j hj q => ?_, fun p9 hp9 o9 ho9 => ?_, fun j hj => ?_, fun j hj => ?_, fun j hj => ?_⟩
  · rw [setN_ne (by omega), stI_ne _ _ _ (by decide)]; exact gc j hj
  · rw [setN_ne (by omega), stI_ne _ _ _ (by decide)]; exact go j hj
  · rw [hz 2 (by decide)] at q
    rw [setN_ne (by omega), stI_ne _ _ _ (by decide)]; exact gp j hj q
  · rw [setN_ne (by omega), stI_ne _ _ _ (by decide)]; exact gi p9 hp9 o9 ho9
  · rw [st_get]
    by_cases e : j = i
    · rw [if_pos ⟨rfl, e⟩, e, setN_self]; exact hw
    · rw [if_neg (fun q => e q.2), setN_ne (by omega)]
      exact gu j hj
  · rw [setN_ne (by omega), stI_ne _ _ _ (by decide)]; exact gs j hj
  · rw [setN_ne (by omega), stI_ne _ _ _ (by decide)]; exact gn j hj
theorem LT.s17 {i v : Nat} (h : LT z μ) (hi : i < 5) : LT (setN z (11 + i) v) (stI μ 17 (i) (Int32.ofNat v)) := by
  obtain ⟨⟨b0, b1, b2⟩, gc, go, gp, gi, gu, gs, gn⟩ := h
  have hz : ∀ j, j < 3 → setN z (11 + i) v j = z j := fun j hj => setN_ne (by omega)
  refine ⟨⟨by rw [hz 0 (by decide)]; exact b0, by rw [hz 1 (by decide)]; exact b1, by rw [hz 2 (by decide)]; exact b2⟩, fun j hj => ?_, fun j hj => ?_, fun j hj q => ?_, fun p9 hp9 o9 ho9 => ?_, fun j hj => ?_, fun j hj => ?_, fun j hj => ?_⟩
  · rw [setN_ne (by omega), stI_ne _ _ _ (by decide)]; exact gc j hj
  · rw [setN_ne (by omega), stI_ne _ _ _ (by decide)]; exact go j hj
  · rw [hz 2 (by decide)] at q
    rw [setN_ne (by omega), stI_ne _ _ _ (by decide)]; exact gp j hj q
  · rw [setN_ne (by omega), stI_ne _ _ _ (by decide)]; exact gi p9 hp9 o9 ho9
  · rw [setN_ne (by omega), stI_ne _ _ _ (by decide)]; exact gu j hj
  · rw [st_get]
    by_cases e : j = i
    · rw [if_pos ⟨rfl, e⟩, e, setN_self]
    · rw [if_neg (fun q => e q.2), setN_ne (by omega)]
      exact gs j hj
  · rw [setN_ne (by omega), stI_ne _ _ _ (by decide)]; exact gn j hj
theorem LT.s18 {i v : Nat} (h : LT z μ) (h3 : 3 ≤ i) (hi : i < 11) : LT (setN z (i) v) (stI μ 18 (i) (Int32.ofNat v)) := by
  obtain ⟨⟨b0, b1, b2⟩, gc, go, gp, gi, gu, gs, gn⟩ := h
  have hz : ∀ j, j < 3 → setN z (i) v j = z j := fun j hj => setN_ne (by omega)
  refine ⟨⟨by rw [hz 0 (by decide)]; exact b0, by rw [hz 1 (by decide)]; exact b1, by rw [hz 2 (by decide)]; exact b2⟩, fun j hj => ?_, fun j hj => ?_, fun j hj q => ?_, fun p9 hp9 o9 ho9 => ?_, fun j hj => ?_, fun j hj => ?_, fun j hj => ?_⟩
  · rw [setN_ne (by omega), stI_ne _ _ _ (by decide)]; exact gc j hj
  · rw [setN_ne (by omega), stI_ne _ _ _ (by decide)]; exact go j hj
  · rw [hz 2 (by decide)] at q
    rw [setN_ne (by omega), stI_ne _ _ _ (by decide)]; exact gp j hj q
  · rw [setN_ne (by omega), stI_ne _ _ _ (by decide)]; exact gi p9 hp9 o9 ho9
  · rw [setN_ne (by omega), stI_ne _ _ _ (by decide)]; exact gu j hj
  · rw [setN_ne (by omega), stI_ne _ _ _ (by decide)]; exact gs j hj
  · rw [st_get]
    by_cases e : j = i
    · rw [if_pos ⟨rfl, e⟩, e, setN_self]
    · rw [if_neg (fun q => e q.2), setN_ne (by omega)]
      exact gn j hj
end LSET
