/-! NUMBERS: literals as nI, guards at numbers that are known -/
theorem c_0 : (0 : Int32) = nI 0 := rfl
theorem c_1 : (1 : Int32) = nI 1 := rfl
theorem c_2 : (2 : Int32) = nI 2 := rfl
theorem c_3 : (3 : Int32) = nI 3 := rfl
theorem c_4 : (4 : Int32) = nI 4 := rfl
theorem c_5 : (5 : Int32) = nI 5 := rfl
theorem c_6 : (6 : Int32) = nI 6 := rfl
theorem c_7 : (7 : Int32) = nI 7 := rfl
theorem c_8 : (8 : Int32) = nI 8 := rfl
theorem c_9 : (9 : Int32) = nI 9 := rfl
theorem c_10 : (10 : Int32) = nI 10 := rfl
theorem c_12 : (12 : Int32) = nI 12 := rfl
theorem c_13 : (13 : Int32) = nI 13 := rfl
theorem c_16 : (16 : Int32) = nI 16 := rfl
theorem c_24 : (24 : Int32) = nI 24 := rfl
theorem c_25 : (25 : Int32) = nI 25 := rfl
theorem c_36 : (36 : Int32) = nI 36 := rfl
theorem c_40 : (40 : Int32) = nI 40 := rfl
theorem c_41 : (41 : Int32) = nI 41 := rfl
theorem c_42 : (42 : Int32) = nI 42 := rfl
theorem c_43 : (43 : Int32) = nI 43 := rfl
theorem c_44 : (44 : Int32) = nI 44 := rfl
theorem c_45 : (45 : Int32) = nI 45 := rfl
theorem c_47 : (47 : Int32) = nI 47 := rfl
theorem c_48 : (48 : Int32) = nI 48 := rfl
theorem c_49 : (49 : Int32) = nI 49 := rfl
theorem c_57 : (57 : Int32) = nI 57 := rfl
theorem c_58 : (58 : Int32) = nI 58 := rfl
theorem c_59 : (59 : Int32) = nI 59 := rfl
theorem c_60 : (60 : Int32) = nI 60 := rfl
theorem c_61 : (61 : Int32) = nI 61 := rfl
theorem c_62 : (62 : Int32) = nI 62 := rfl
theorem c_63 : (63 : Int32) = nI 63 := rfl
theorem c_64 : (64 : Int32) = nI 64 := rfl
theorem c_76 : (76 : Int32) = nI 76 := rfl
theorem c_80 : (80 : Int32) = nI 80 := rfl
theorem c_97 : (97 : Int32) = nI 97 := rfl
theorem c_99 : (99 : Int32) = nI 99 := rfl
theorem c_100 : (100 : Int32) = nI 100 := rfl
theorem c_101 : (101 : Int32) = nI 101 := rfl
theorem c_102 : (102 : Int32) = nI 102 := rfl
theorem c_103 : (103 : Int32) = nI 103 := rfl
theorem c_104 : (104 : Int32) = nI 104 := rfl
theorem c_105 : (105 : Int32) = nI 105 := rfl
theorem c_106 : (106 : Int32) = nI 106 := rfl
theorem c_107 : (107 : Int32) = nI 107 := rfl
theorem c_108 : (108 : Int32) = nI 108 := rfl
theorem c_109 : (109 : Int32) = nI 109 := rfl
theorem c_110 : (110 : Int32) = nI 110 := rfl
theorem c_111 : (111 : Int32) = nI 111 := rfl
theorem c_112 : (112 : Int32) = nI 112 := rfl
theorem c_113 : (113 : Int32) = nI 113 := rfl
theorem c_114 : (114 : Int32) = nI 114 := rfl
theorem c_115 : (115 : Int32) = nI 115 := rfl
theorem c_116 : (116 : Int32) = nI 116 := rfl
theorem c_117 : (117 : Int32) = nI 117 := rfl
theorem c_118 : (118 : Int32) = nI 118 := rfl
theorem c_119 : (119 : Int32) = nI 119 := rfl
theorem c_120 : (120 : Int32) = nI 120 := rfl
theorem c_121 : (121 : Int32) = nI 121 := rfl
theorem c_125 : (125 : Int32) = nI 125 := rfl
theorem c_150 : (150 : Int32) = nI 150 := rfl
theorem c_200 : (200 : Int32) = nI 200 := rfl
theorem c_255 : (255 : Int32) = nI 255 := rfl
theorem c_539 : (539 : Int32) = nI 539 := rfl
theorem c_999 : (999 : Int32) = nI 999 := rfl
theorem c_1000 : (1000 : Int32) = nI 1000 := rfl
theorem c_1299 : (1299 : Int32) = nI 1299 := rfl
theorem c_1300 : (1300 : Int32) = nI 1300 := rfl
theorem c_2000 : (2000 : Int32) = nI 2000 := rfl
theorem c_3000 : (3000 : Int32) = nI 3000 := rfl
theorem c_9999 : (9999 : Int32) = nI 9999 := rfl
theorem c_10000 : (10000 : Int32) = nI 10000 := rfl
theorem c_12345 : (12345 : Int32) = nI 12345 := rfl
theorem c_15625 : (15625 : Int32) = nI 15625 := rfl
theorem c_100000000 : (100000000 : Int32) = nI 100000000 := rfl
theorem c_252645135 : (252645135 : Int32) = nI 252645135 := rfl
theorem c_858993459 : (858993459 : Int32) = nI 858993459 := rfl
theorem c_1103515245 : (1103515245 : Int32) = nI 1103515245 := rfl
theorem c_1431655765 : (1431655765 : Int32) = nI 1431655765 := rfl
theorem l_0 : (0 : Int64) = lN 0 := rfl
theorem l_1 : (1 : Int64) = lN 1 := rfl
theorem l_2 : (2 : Int64) = lN 2 := rfl
theorem l_100 : (100 : Int64) = lN 100 := rfl
theorem l_10000 : (10000 : Int64) = lN 10000 := rfl
theorem l_27720 : (27720 : Int64) = lN 27720 := rfl
theorem l_100000000 : (100000000 : Int64) = lN 100000000 := rfl
theorem ix_k {k n : Nat} (h : k < n) (hn : n ≤ 2 ^ 31) : ix (nI k) n = true := by rw [iI_nI]; exact ix_n h hn
theorem gx {R : Type} {K : Option R} {k n : Nat} (h : k < n) (hn : n ≤ 2 ^ 31) : gd (ix (nI k) n) K = K := gd_t (ix_k h hn)
theorem nz_k {k : Nat} (h : 0 < k) (hk : k < 2 ^ 31) : nz (nI k) = true := by
  unfold nz; rw [decide_eq_true_eq]; exact nI_ne0 h hk
theorem gz {R : Type} {K : Option R} {k : Nat} (h : 0 < k) (hk : k < 2 ^ 31) : gd (nz (nI k)) K = K := gd_t (nz_k h hk)
theorem nzl_k {k : Nat} (h : 0 < k) (hk : k < 2 ^ 63) : nzl (lN k) = true := by
  unfold nzl; rw [decide_eq_true_eq]; intro q
  have : lN k = lN 0 := q
  rw [pk_lEQ hk (by omega)] at this
  omega
theorem gzl {R : Type} {K : Option R} {k : Nat} (h : 0 < k) (hk : k < 2 ^ 63) : gd (nzl (lN k)) K = K := gd_t (nzl_k h hk)
theorem m1_ne {k : Nat} (h : k < 2 ^ 31) : ¬ nI k = -1 := by
  intro q
  have := congrArg Int32.toInt q
  rw [nI_toInt h] at this
  have e : (-1 : Int32).toInt = -1 := by decide
  omega
theorem m1_nef {k : Nat} (h : k < 2 ^ 31) : (nI k = -1) = False := eq_false (m1_ne h)
theorem nI_mx {a b : Nat} (ha : a < 2 ^ 31) (hb : b < 2 ^ 31) : (if nI a < nI b then nI b else nI a) = nI (max a b) := by
  simp only [nI_ltI ha hb]; split
  · rw [Nat.max_eq_right (by omega)]
  · rw [Nat.max_eq_left (by omega)]
theorem nI_mn {a b : Nat} (ha : a < 2 ^ 31) (hb : b < 2 ^ 31) : (if nI b < nI a then nI b else nI a) = nI (min a b) := by
  simp only [nI_ltI hb ha]; split
  · rw [Nat.min_eq_right (by omega)]
  · rw [Nat.min_eq_left (by omega)]
theorem z_lt {k : Nat} (h : k < 2 ^ 31) : (nI k < 0) = False := eq_false (nI_pos h)
theorem ifT {R : Type} {c : Prop} [Decidable c] {a b : R} (h : c) : (if c then a else b) = a := if_pos h
theorem ifF {R : Type} {c : Prop} [Decidable c] {a b : R} (h : ¬ c) : (if c then a else b) = b := if_neg h
/-- a number told: it is below n, or it is not -/
theorem below (v : Int32) (n : Nat) (hn : n < 2 ^ 31) : (∃ k, k < n ∧ v = nI k) ∨ (v < 0 ∨ nI n ≤ v) := by
  rcases pk_ix v hn with h | h | h
  · exact .inr (.inl h)
  · exact .inr (.inr h)
  · exact .inl h
theorem md (a d : Nat) : a - a / d * d = a % d := by
  have := Nat.div_add_mod a d; rw [Nat.mul_comm] at this; omega
theorem nlt_of_le {a b : Int32} (h : a ≤ b) : ¬ b < a := Int32.not_lt.mpr h
theorem nle_of_lt {a b : Int32} (h : a < b) : ¬ b ≤ a := Int32.not_le.mpr h
