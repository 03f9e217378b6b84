/-! SEMANTICS: the model's automaton (by program: wip/whole/genparse.py) -/
section AUT
variable {μ : PM}
theorem k_1_y (h : mI μ 12 12 = 1) : d_Md_takes 111 μ = rI 1 (stI μ 12 12 2) := by
  rw [e_Md_takes, h, if_neg (show ¬ (1 : Int32) = 0 by decide), if_pos (show (1 : Int32) = 1 from rfl), if_neg (fun q => q rfl), e_Md_goes, if_neg (by decide), chk_t (Or.inr rfl)]
  rfl
theorem k_1_n {c : Int32} (h : mI μ 12 12 = 1) (hc : ¬ c = 111) : d_Md_takes c μ = rI 0 (stI μ 12 12 (mI μ 12 12)) := by
  rw [e_Md_takes, h, if_neg (show ¬ (1 : Int32) = 0 by decide), if_pos (show (1 : Int32) = 1 from rfl), if_pos hc, e_Md_goes, if_pos rfl, chk_t (Or.inl rfl), h]
  rfl
theorem k_2_y (h : mI μ 12 12 = 2) : d_Md_takes 116 μ = rI 1 (stI μ 12 12 3) := by
  rw [e_Md_takes, h, if_neg (show ¬ (2 : Int32) = 0 by decide), if_neg (show ¬ (2 : Int32) = 1 by decide), if_pos (show (2 : Int32) = 2 from rfl), if_neg (fun q => q rfl), e_Md_goes, if_neg (by decide), chk_t (Or.inr rfl)]
  rfl
theorem k_2_n {c : Int32} (h : mI μ 12 12 = 2) (hc : ¬ c = 116) : d_Md_takes c μ = rI 0 (stI μ 12 12 (mI μ 12 12)) := by
  rw [e_Md_takes, h, if_neg (show ¬ (2 : Int32) = 0 by decide), if_neg (show ¬ (2 : Int32) = 1 by decide), if_pos (show (2 : Int32) = 2 from rfl), if_pos hc, e_Md_goes, if_pos rfl, chk_t (Or.inl rfl), h]
  rfl
theorem k_3_y {e : Nat} (h : mI μ 12 12 = 3) (he : mI μ 12 11 = Int32.ofNat e) (he2 : e < 32) : d_Md_takes 115 μ = rI 1 (stI (stI (stI μ 17 e (Int32.ofNat 0)) 12 11 (Int32.ofNat (e + 1))) 12 12 20) := by
  rw [e_Md_takes, h, if_neg (show ¬ (3 : Int32) = 0 by decide), if_neg (show ¬ (3 : Int32) = 1 by decide), if_neg (show ¬ (3 : Int32) = 2 by decide), if_pos (show (3 : Int32) = 3 from rfl), if_neg (fun q => q rfl), e_Md_ends, if_neg (by decide), he, chk_t (i3_inb he2 (by decide)), i3_nat (by omega), i3_add1, e_Md_goes, if_neg (by decide), chk_t (Or.inr rfl)]
  rfl
theorem k_3_n {c : Int32} (h : mI μ 12 12 = 3) (hc : ¬ c = 115) : d_Md_takes c μ = rI 0 (stI μ 12 12 (mI μ 12 12)) := by
  rw [e_Md_takes, h, if_neg (show ¬ (3 : Int32) = 0 by decide), if_neg (show ¬ (3 : Int32) = 1 by decide), if_neg (show ¬ (3 : Int32) = 2 by decide), if_pos (show (3 : Int32) = 3 from rfl), if_pos hc, e_Md_ends, if_pos rfl, e_Md_goes, if_pos rfl, chk_t (Or.inl rfl), h]
  rfl
theorem k_4_y (h : mI μ 12 12 = 4) : d_Md_takes 101 μ = rI 1 (stI μ 12 12 5) := by
  rw [e_Md_takes, h, if_neg (show ¬ (4 : Int32) = 0 by decide), if_neg (show ¬ (4 : Int32) = 1 by decide), if_neg (show ¬ (4 : Int32) = 2 by decide), if_neg (show ¬ (4 : Int32) = 3 by decide), if_pos (show (4 : Int32) = 4 from rfl), if_neg (fun q => q rfl), e_Md_goes, if_neg (by decide), chk_t (Or.inr rfl)]
  rfl
theorem k_4_n {c : Int32} (h : mI μ 12 12 = 4) (hc : ¬ c = 101) : d_Md_takes c μ = rI 0 (stI μ 12 12 (mI μ 12 12)) := by
  rw [e_Md_takes, h, if_neg (show ¬ (4 : Int32) = 0 by decide), if_neg (show ¬ (4 : Int32) = 1 by decide), if_neg (show ¬ (4 : Int32) = 2 by decide), if_neg (show ¬ (4 : Int32) = 3 by decide), if_pos (show (4 : Int32) = 4 from rfl), if_pos hc, e_Md_goes, if_pos rfl, chk_t (Or.inl rfl), h]
  rfl
theorem k_5_y {e : Nat} (h : mI μ 12 12 = 5) (he : mI μ 12 11 = Int32.ofNat e) (he2 : e < 32) : d_Md_takes 116 μ = rI 1 (stI (stI (stI μ 17 e (Int32.ofNat 1)) 12 11 (Int32.ofNat (e + 1))) 12 12 20) := by
  rw [e_Md_takes, h, if_neg (show ¬ (5 : Int32) = 0 by decide), if_neg (show ¬ (5 : Int32) = 1 by decide), if_neg (show ¬ (5 : Int32) = 2 by decide), if_neg (show ¬ (5 : Int32) = 3 by decide), if_neg (show ¬ (5 : Int32) = 4 by decide), if_pos (show (5 : Int32) = 5 from rfl), if_neg (fun q => q rfl), e_Md_ends, if_neg (by decide), he, chk_t (i3_inb he2 (by decide)), i3_nat (by omega), i3_add1, e_Md_goes, if_neg (by decide), chk_t (Or.inr rfl)]
  rfl
theorem k_5_n {c : Int32} (h : mI μ 12 12 = 5) (hc : ¬ c = 116) : d_Md_takes c μ = rI 0 (stI μ 12 12 (mI μ 12 12)) := by
  rw [e_Md_takes, h, if_neg (show ¬ (5 : Int32) = 0 by decide), if_neg (show ¬ (5 : Int32) = 1 by decide), if_neg (show ¬ (5 : Int32) = 2 by decide), if_neg (show ¬ (5 : Int32) = 3 by decide), if_neg (show ¬ (5 : Int32) = 4 by decide), if_pos (show (5 : Int32) = 5 from rfl), if_pos hc, e_Md_ends, if_pos rfl, e_Md_goes, if_pos rfl, chk_t (Or.inl rfl), h]
  rfl
theorem k_6_y (h : mI μ 12 12 = 6) : d_Md_takes 114 μ = rI 1 (stI μ 12 12 7) := by
  rw [e_Md_takes, h, if_neg (show ¬ (6 : Int32) = 0 by decide), if_neg (show ¬ (6 : Int32) = 1 by decide), if_neg (show ¬ (6 : Int32) = 2 by decide), if_neg (show ¬ (6 : Int32) = 3 by decide), if_neg (show ¬ (6 : Int32) = 4 by decide), if_neg (show ¬ (6 : Int32) = 5 by decide), if_pos (show (6 : Int32) = 6 from rfl), if_neg (fun q => q rfl), e_Md_goes, if_neg (by decide), chk_t (Or.inr rfl)]
  rfl
theorem k_6_n {c : Int32} (h : mI μ 12 12 = 6) (hc : ¬ c = 114) : d_Md_takes c μ = rI 0 (stI μ 12 12 (mI μ 12 12)) := by
  rw [e_Md_takes, h, if_neg (show ¬ (6 : Int32) = 0 by decide), if_neg (show ¬ (6 : Int32) = 1 by decide), if_neg (show ¬ (6 : Int32) = 2 by decide), if_neg (show ¬ (6 : Int32) = 3 by decide), if_neg (show ¬ (6 : Int32) = 4 by decide), if_neg (show ¬ (6 : Int32) = 5 by decide), if_pos (show (6 : Int32) = 6 from rfl), if_pos hc, e_Md_goes, if_pos rfl, chk_t (Or.inl rfl), h]
  rfl
theorem k_7_y {e : Nat} (h : mI μ 12 12 = 7) (he : mI μ 12 11 = Int32.ofNat e) (he2 : e < 32) : d_Md_takes 121 μ = rI 1 (stI (stI (stI μ 17 e (Int32.ofNat 2)) 12 11 (Int32.ofNat (e + 1))) 12 12 20) := by
  rw [e_Md_takes, h, if_neg (show ¬ (7 : Int32) = 0 by decide), if_neg (show ¬ (7 : Int32) = 1 by decide), if_neg (show ¬ (7 : Int32) = 2 by decide), if_neg (show ¬ (7 : Int32) = 3 by decide), if_neg (show ¬ (7 : Int32) = 4 by decide), if_neg (show ¬ (7 : Int32) = 5 by decide), if_neg (show ¬ (7 : Int32) = 6 by decide), if_pos (show (7 : Int32) = 7 from rfl), if_neg (fun q => q rfl), e_Md_ends, if_neg (by decide), he, chk_t (i3_inb he2 (by decide)), i3_nat (by omega), i3_add1, e_Md_goes, if_neg (by decide), chk_t (Or.inr rfl)]
  rfl
theorem k_7_n {c : Int32} (h : mI μ 12 12 = 7) (hc : ¬ c = 121) : d_Md_takes c μ = rI 0 (stI μ 12 12 (mI μ 12 12)) := by
  rw [e_Md_takes, h, if_neg (show ¬ (7 : Int32) = 0 by decide), if_neg (show ¬ (7 : Int32) = 1 by decide), if_neg (show ¬ (7 : Int32) = 2 by decide), if_neg (show ¬ (7 : Int32) = 3 by decide), if_neg (show ¬ (7 : Int32) = 4 by decide), if_neg (show ¬ (7 : Int32) = 5 by decide), if_neg (show ¬ (7 : Int32) = 6 by decide), if_pos (show (7 : Int32) = 7 from rfl), if_pos hc, e_Md_ends, if_pos rfl, e_Md_goes, if_pos rfl, chk_t (Or.inl rfl), h]
  rfl
theorem k_8_y (h : mI μ 12 12 = 8) : d_Md_takes 101 μ = rI 1 (stI μ 12 12 9) := by
  rw [e_Md_takes, h, if_neg (show ¬ (8 : Int32) = 0 by decide), if_neg (show ¬ (8 : Int32) = 1 by decide), if_neg (show ¬ (8 : Int32) = 2 by decide), if_neg (show ¬ (8 : Int32) = 3 by decide), if_neg (show ¬ (8 : Int32) = 4 by decide), if_neg (show ¬ (8 : Int32) = 5 by decide), if_neg (show ¬ (8 : Int32) = 6 by decide), if_neg (show ¬ (8 : Int32) = 7 by decide), if_pos (show (8 : Int32) = 8 from rfl), if_neg (fun q => q rfl), e_Md_goes, if_neg (by decide), chk_t (Or.inr rfl)]
  rfl
theorem k_8_n {c : Int32} (h : mI μ 12 12 = 8) (hc : ¬ c = 101) : d_Md_takes c μ = rI 0 (stI μ 12 12 (mI μ 12 12)) := by
  rw [e_Md_takes, h, if_neg (show ¬ (8 : Int32) = 0 by decide), if_neg (show ¬ (8 : Int32) = 1 by decide), if_neg (show ¬ (8 : Int32) = 2 by decide), if_neg (show ¬ (8 : Int32) = 3 by decide), if_neg (show ¬ (8 : Int32) = 4 by decide), if_neg (show ¬ (8 : Int32) = 5 by decide), if_neg (show ¬ (8 : Int32) = 6 by decide), if_neg (show ¬ (8 : Int32) = 7 by decide), if_pos (show (8 : Int32) = 8 from rfl), if_pos hc, e_Md_goes, if_pos rfl, chk_t (Or.inl rfl), h]
  rfl
theorem k_9_y (h : mI μ 12 12 = 9) : d_Md_takes 120 μ = rI 1 (stI μ 12 12 10) := by
  rw [e_Md_takes, h, if_neg (show ¬ (9 : Int32) = 0 by decide), if_neg (show ¬ (9 : Int32) = 1 by decide), if_neg (show ¬ (9 : Int32) = 2 by decide), if_neg (show ¬ (9 : Int32) = 3 by decide), if_neg (show ¬ (9 : Int32) = 4 by decide), if_neg (show ¬ (9 : Int32) = 5 by decide), if_neg (show ¬ (9 : Int32) = 6 by decide), if_neg (show ¬ (9 : Int32) = 7 by decide), if_neg (show ¬ (9 : Int32) = 8 by decide), if_pos (show (9 : Int32) = 9 from rfl), if_neg (fun q => q rfl), e_Md_goes, if_neg (by decide), chk_t (Or.inr rfl)]
  rfl
theorem k_9_n {c : Int32} (h : mI μ 12 12 = 9) (hc : ¬ c = 120) : d_Md_takes c μ = rI 0 (stI μ 12 12 (mI μ 12 12)) := by
  rw [e_Md_takes, h, if_neg (show ¬ (9 : Int32) = 0 by decide), if_neg (show ¬ (9 : Int32) = 1 by decide), if_neg (show ¬ (9 : Int32) = 2 by decide), if_neg (show ¬ (9 : Int32) = 3 by decide), if_neg (show ¬ (9 : Int32) = 4 by decide), if_neg (show ¬ (9 : Int32) = 5 by decide), if_neg (show ¬ (9 : Int32) = 6 by decide), if_neg (show ¬ (9 : Int32) = 7 by decide), if_neg (show ¬ (9 : Int32) = 8 by decide), if_pos (show (9 : Int32) = 9 from rfl), if_pos hc, e_Md_goes, if_pos rfl, chk_t (Or.inl rfl), h]
  rfl
theorem k_10_y {e : Nat} (h : mI μ 12 12 = 10) (he : mI μ 12 11 = Int32.ofNat e) (he2 : e < 32) : d_Md_takes 116 μ = rI 1 (stI (stI (stI μ 17 e (Int32.ofNat 3)) 12 11 (Int32.ofNat (e + 1))) 12 12 20) := by
  rw [e_Md_takes, h, if_neg (show ¬ (10 : Int32) = 0 by decide), if_neg (show ¬ (10 : Int32) = 1 by decide), if_neg (show ¬ (10 : Int32) = 2 by decide), if_neg (show ¬ (10 : Int32) = 3 by decide), if_neg (show ¬ (10 : Int32) = 4 by decide), if_neg (show ¬ (10 : Int32) = 5 by decide), if_neg (show ¬ (10 : Int32) = 6 by decide), if_neg (show ¬ (10 : Int32) = 7 by decide), if_neg (show ¬ (10 : Int32) = 8 by decide), if_neg (show ¬ (10 : Int32) = 9 by decide), if_pos (show (10 : Int32) = 10 from rfl), if_neg (fun q => q rfl), e_Md_ends, if_neg (by decide), he, chk_t (i3_inb he2 (by decide)), i3_nat (by omega), i3_add1, e_Md_goes, if_neg (by decide), chk_t (Or.inr rfl)]
  rfl
theorem k_10_n {c : Int32} (h : mI μ 12 12 = 10) (hc : ¬ c = 116) : d_Md_takes c μ = rI 0 (stI μ 12 12 (mI μ 12 12)) := by
  rw [e_Md_takes, h, if_neg (show ¬ (10 : Int32) = 0 by decide), if_neg (show ¬ (10 : Int32) = 1 by decide), if_neg (show ¬ (10 : Int32) = 2 by decide), if_neg (show ¬ (10 : Int32) = 3 by decide), if_neg (show ¬ (10 : Int32) = 4 by decide), if_neg (show ¬ (10 : Int32) = 5 by decide), if_neg (show ¬ (10 : Int32) = 6 by decide), if_neg (show ¬ (10 : Int32) = 7 by decide), if_neg (show ¬ (10 : Int32) = 8 by decide), if_neg (show ¬ (10 : Int32) = 9 by decide), if_pos (show (10 : Int32) = 10 from rfl), if_pos hc, e_Md_ends, if_pos rfl, e_Md_goes, if_pos rfl, chk_t (Or.inl rfl), h]
  rfl
theorem k_11_y (h : mI μ 12 12 = 11) : d_Md_takes 58 μ = rI 1 (stI μ 12 12 12) := by
  rw [e_Md_takes, h, if_neg (show ¬ (11 : Int32) = 0 by decide), if_neg (show ¬ (11 : Int32) = 1 by decide), if_neg (show ¬ (11 : Int32) = 2 by decide), if_neg (show ¬ (11 : Int32) = 3 by decide), if_neg (show ¬ (11 : Int32) = 4 by decide), if_neg (show ¬ (11 : Int32) = 5 by decide), if_neg (show ¬ (11 : Int32) = 6 by decide), if_neg (show ¬ (11 : Int32) = 7 by decide), if_neg (show ¬ (11 : Int32) = 8 by decide), if_neg (show ¬ (11 : Int32) = 9 by decide), if_neg (show ¬ (11 : Int32) = 10 by decide), if_pos (show (11 : Int32) = 11 from rfl), if_neg (fun q => q rfl), e_Md_goes, if_neg (by decide), chk_t (Or.inr rfl)]
  rfl
theorem k_11_n {c : Int32} (h : mI μ 12 12 = 11) (hc : ¬ c = 58) : d_Md_takes c μ = rI 0 (stI μ 12 12 (mI μ 12 12)) := by
  rw [e_Md_takes, h, if_neg (show ¬ (11 : Int32) = 0 by decide), if_neg (show ¬ (11 : Int32) = 1 by decide), if_neg (show ¬ (11 : Int32) = 2 by decide), if_neg (show ¬ (11 : Int32) = 3 by decide), if_neg (show ¬ (11 : Int32) = 4 by decide), if_neg (show ¬ (11 : Int32) = 5 by decide), if_neg (show ¬ (11 : Int32) = 6 by decide), if_neg (show ¬ (11 : Int32) = 7 by decide), if_neg (show ¬ (11 : Int32) = 8 by decide), if_neg (show ¬ (11 : Int32) = 9 by decide), if_neg (show ¬ (11 : Int32) = 10 by decide), if_pos (show (11 : Int32) = 11 from rfl), if_pos hc, e_Md_goes, if_pos rfl, chk_t (Or.inl rfl), h]
  rfl
theorem k_20_y (h : mI μ 12 12 = 20) : d_Md_takes 59 μ = rI 1 (stI μ 12 12 0) := by
  rw [e_Md_takes, h, if_neg (show ¬ (20 : Int32) = 0 by decide), if_neg (show ¬ (20 : Int32) = 1 by decide), if_neg (show ¬ (20 : Int32) = 2 by decide), if_neg (show ¬ (20 : Int32) = 3 by decide), if_neg (show ¬ (20 : Int32) = 4 by decide), if_neg (show ¬ (20 : Int32) = 5 by decide), if_neg (show ¬ (20 : Int32) = 6 by decide), if_neg (show ¬ (20 : Int32) = 7 by decide), if_neg (show ¬ (20 : Int32) = 8 by decide), if_neg (show ¬ (20 : Int32) = 9 by decide), if_neg (show ¬ (20 : Int32) = 10 by decide), if_neg (show ¬ (20 : Int32) = 11 by decide), if_neg (show ¬ (20 : Int32) = 12 by decide), if_neg (fun q => q rfl), e_Md_goes, if_neg (by decide), chk_t (Or.inr rfl)]
  rfl
theorem k_20_n {c : Int32} (h : mI μ 12 12 = 20) (hc : ¬ c = 59) : d_Md_takes c μ = rI 0 (stI μ 12 12 (mI μ 12 12)) := by
  rw [e_Md_takes, h, if_neg (show ¬ (20 : Int32) = 0 by decide), if_neg (show ¬ (20 : Int32) = 1 by decide), if_neg (show ¬ (20 : Int32) = 2 by decide), if_neg (show ¬ (20 : Int32) = 3 by decide), if_neg (show ¬ (20 : Int32) = 4 by decide), if_neg (show ¬ (20 : Int32) = 5 by decide), if_neg (show ¬ (20 : Int32) = 6 by decide), if_neg (show ¬ (20 : Int32) = 7 by decide), if_neg (show ¬ (20 : Int32) = 8 by decide), if_neg (show ¬ (20 : Int32) = 9 by decide), if_neg (show ¬ (20 : Int32) = 10 by decide), if_neg (show ¬ (20 : Int32) = 11 by decide), if_neg (show ¬ (20 : Int32) = 12 by decide), if_pos hc, e_Md_goes, if_pos rfl, chk_t (Or.inl rfl), h]
  rfl
theorem k_12_y {e g t : Nat} (h : mI μ 12 12 = 12) (he : mI μ 12 11 = Int32.ofNat e) (he2 : e < 32) (hg : mI μ 12 13 = Int32.ofNat g) (ht : t < 10) : d_Md_takes (Int32.ofNat (97 + t)) μ = rI 1 (stI (stI (stI μ 17 e (Int32.ofNat (10 + 10 * g + t))) 12 11 (Int32.ofNat (e + 1))) 12 12 20) := by
  have ew : d_Md_within (Int32.ofNat (97 + t)) 97 106 μ = rI 1 μ := with_y (a := 97) (n := 106) (by omega) (by omega) (by decide)
  have eo : ((10 + (10 * Int32.ofNat g)) + Int32.ofNat (97 + t)) - 97 = Int32.ofNat (10 + 10 * g + t) := by
    rw [show (10 : Int32) = Int32.ofNat 10 from rfl, show (97 : Int32) = Int32.ofNat 97 from rfl, i3_mul, i3_add, i3_add, i3_sub (by omega)]
    congr 1
    omega
  rw [e_Md_takes, h, if_neg (show ¬ (12 : Int32) = 0 by decide), if_neg (show ¬ (12 : Int32) = 1 by decide), if_neg (show ¬ (12 : Int32) = 2 by decide), if_neg (show ¬ (12 : Int32) = 3 by decide), if_neg (show ¬ (12 : Int32) = 4 by decide), if_neg (show ¬ (12 : Int32) = 5 by decide), if_neg (show ¬ (12 : Int32) = 6 by decide), if_neg (show ¬ (12 : Int32) = 7 by decide), if_neg (show ¬ (12 : Int32) = 8 by decide), if_neg (show ¬ (12 : Int32) = 9 by decide), if_neg (show ¬ (12 : Int32) = 10 by decide), if_neg (show ¬ (12 : Int32) = 11 by decide), if_pos (show (12 : Int32) = 12 from rfl), ew, bI_r, hg, eo, e_Md_ends, if_neg (by decide), he, chk_t (i3_inb he2 (by decide)), i3_nat (by omega), i3_add1, e_Md_goes, if_neg (by decide), chk_t (Or.inr rfl)]
  rfl
theorem k_12_n {c : Nat} (h : mI μ 12 12 = 12) (hc : c < 97 ∨ 106 < c) (hc2 : c < 2147483648) : d_Md_takes (Int32.ofNat c) μ = rI 0 (stI μ 12 12 (mI μ 12 12)) := by
  have ew : d_Md_within (Int32.ofNat c) 97 106 μ = rI 0 μ := by
    refine with_o ?_
    by_cases q : c < 97
    · exact Or.inl (lt_y (b := 97) q (by decide))
    · exact Or.inr ⟨lt_n (b := 97) (by omega) hc2, lt_y (a := 106) (by omega) hc2⟩
  rw [e_Md_takes, h, if_neg (show ¬ (12 : Int32) = 0 by decide), if_neg (show ¬ (12 : Int32) = 1 by decide), if_neg (show ¬ (12 : Int32) = 2 by decide), if_neg (show ¬ (12 : Int32) = 3 by decide), if_neg (show ¬ (12 : Int32) = 4 by decide), if_neg (show ¬ (12 : Int32) = 5 by decide), if_neg (show ¬ (12 : Int32) = 6 by decide), if_neg (show ¬ (12 : Int32) = 7 by decide), if_neg (show ¬ (12 : Int32) = 8 by decide), if_neg (show ¬ (12 : Int32) = 9 by decide), if_neg (show ¬ (12 : Int32) = 10 by decide), if_neg (show ¬ (12 : Int32) = 11 by decide), if_pos (show (12 : Int32) = 12 from rfl), ew, bI_r, e_Md_ends, if_pos rfl, e_Md_goes, if_pos rfl, chk_t (Or.inl rfl), h]
  rfl
theorem k_0_0 (h : mI μ 12 12 = 0) : d_Md_takes 108 μ = rI 1 (stI μ 12 12 1) := by
  rw [e_Md_takes, h, if_pos rfl, e_Md_begins, if_neg (show ¬ (108 : Int32) = 100 by decide), if_pos (show (108 : Int32) = 108 from rfl), e_Md_goes, if_neg (by decide), chk_t (Or.inr rfl)]
  rfl
theorem k_0_1 (h : mI μ 12 12 = 0) : d_Md_takes 119 μ = rI 1 (stI μ 12 12 4) := by
  rw [e_Md_takes, h, if_pos rfl, e_Md_begins, if_neg (show ¬ (119 : Int32) = 100 by decide), if_neg (show ¬ (119 : Int32) = 108 by decide), if_neg (show ¬ (119 : Int32) = 110 by decide), if_pos (show (119 : Int32) = 119 from rfl), e_Md_goes, if_neg (by decide), chk_t (Or.inr rfl)]
  rfl
theorem k_0_2 (h : mI μ 12 12 = 0) : d_Md_takes 100 μ = rI 1 (stI μ 12 12 6) := by
  rw [e_Md_takes, h, if_pos rfl, e_Md_begins, if_pos (show (100 : Int32) = 100 from rfl), e_Md_goes, if_neg (by decide), chk_t (Or.inr rfl)]
  rfl
theorem k_0_3 (h : mI μ 12 12 = 0) : d_Md_takes 110 μ = rI 1 (stI μ 12 12 8) := by
  rw [e_Md_takes, h, if_pos rfl, e_Md_begins, if_neg (show ¬ (110 : Int32) = 100 by decide), if_neg (show ¬ (110 : Int32) = 108 by decide), if_pos (show (110 : Int32) = 110 from rfl), e_Md_goes, if_neg (by decide), chk_t (Or.inr rfl)]
  rfl
theorem k_0_g {c : Nat} (h : mI μ 12 12 = 0) (h1 : c ≠ 108) (h2 : c ≠ 119) (h3 : c ≠ 100) (h4 : c ≠ 110) (hc : 33 ≤ c) (hc2 : c < 127) : d_Md_takes (Int32.ofNat c) μ = bI (d_Md_within (Int32.ofNat c - 48) 0 4 (stI μ 12 13 (Int32.ofNat c - 48))) (fun v14 μ13 => bI (bI (d_Md_goes v14 11 μ13) (fun v16 μ15 => chk (v16 = 0 ∨ v16 = 1) (some (.inl (some (.int v16)), μ15)))) (fun v2 μ1 => chk (v2 = 0 ∨ v2 = 1) (some (.inl (some (.int v2)), μ1)))) := by
  have ne : ∀ d, d < 127 → c ≠ d → ¬ Int32.ofNat c = Int32.ofNat d := fun d hd q r => q (by rw [i3_eq (by omega) (by omega)] at r; exact r)
  rw [e_Md_takes, h, if_pos rfl, e_Md_begins, if_neg (show ¬ Int32.ofNat c = 100 from ne 100 (by decide) h3), if_neg (show ¬ Int32.ofNat c = 108 from ne 108 (by decide) h1), if_neg (show ¬ Int32.ofNat c = 110 from ne 110 (by decide) h4), if_neg (show ¬ Int32.ofNat c = 119 from ne 119 (by decide) h2)]
  rw [e_Md_within]
  by_cases q1 : Int32.ofNat c - 48 < 0
  · rw [if_pos q1]
    rfl
  · rw [if_neg q1]
    by_cases q2 : (4 : Int32) < Int32.ofNat c - 48
    · rw [if_pos q2]
      rfl
    · rw [if_neg q2]
      rfl
theorem k_0_4 {g : Nat} (h : mI μ 12 12 = 0) (hg : g < 5) : d_Md_takes (Int32.ofNat (48 + g)) μ = rI 1 (stI (stI μ 12 13 (Int32.ofNat g)) 12 12 11) := by
  have e1 : Int32.ofNat (48 + g) - 48 = Int32.ofNat g := by
    rw [show (48 : Int32) = Int32.ofNat 48 from rfl, i3_sub (by omega)]
    congr 1
    omega
  have ew : ∀ ν : PM, d_Md_within (Int32.ofNat g) 0 4 ν = rI 1 ν := fun ν => with_y (a := 0) (n := 4) (Nat.zero_le _) (by omega) (by decide)
  rw [k_0_g h (by omega) (by omega) (by omega) (by omega) (by omega) (by omega), e1, ew, bI_r, e_Md_goes, if_neg (by decide), chk_t (Or.inr rfl), bI_r, chk_t (Or.inr rfl), bI_r, chk_t (Or.inr rfl)]
theorem k_0_n {c : Nat} (h : mI μ 12 12 = 0) (h1 : c ≠ 108) (h2 : c ≠ 119) (h3 : c ≠ 100) (h4 : c ≠ 110) (hc : 33 ≤ c) (hc2 : c < 127) (h5 : c < 48 ∨ 52 < c) : ∃ v, d_Md_takes (Int32.ofNat c) μ = rI 0 (stI (stI μ 12 13 v) 12 12 (mI (stI μ 12 13 v) 12 12)) := by
  refine ⟨Int32.ofNat c - 48, ?_⟩
  have ew : ∀ ν : PM, d_Md_within (Int32.ofNat c - 48) 0 4 ν = rI 0 ν := fun ν => by
    refine with_o ?_
    by_cases q : c < 48
    · refine Or.inl ?_
      rw [show (48 : Int32) = Int32.ofNat 48 from rfl, i3_subn (by omega)]
      exact Int32.not_le.mp (i3_neg_lt (by omega) (by omega))
    · have e1 : Int32.ofNat c - 48 = Int32.ofNat (c - 48) := i3_sub (b := 48) (by omega)
      rw [e1]
      exact Or.inr ⟨lt_n (b := 0) (Nat.zero_le _) (by omega), lt_y (a := 4) (by omega) (by omega)⟩
  rw [k_0_g h h1 h2 h3 h4 hc hc2, ew, bI_r, e_Md_goes, if_pos rfl, chk_t (Or.inl rfl), bI_r, chk_t (Or.inl rfl), bI_r, chk_t (Or.inl rfl)]
end AUT
