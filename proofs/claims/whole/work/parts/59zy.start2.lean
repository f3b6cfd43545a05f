/-! the start: the constructors one by one -/
section SR2
variable {w n : Nat} {σ : Sto}
theorem ixc_0 : ix (0 : Int32) = 0 := by decide
theorem ixc_1 : ix (1 : Int32) = 1 := by decide
theorem ltc_1 : ((1 : Int32) < 0) = False := eq_false (by decide)
theorem ixc_2 : ix (2 : Int32) = 2 := by decide
theorem ltc_2 : ((2 : Int32) < 0) = False := eq_false (by decide)
theorem ixc_3 : ix (3 : Int32) = 3 := by decide
theorem ltc_3 : ((3 : Int32) < 0) = False := eq_false (by decide)
theorem ixc_4 : ix (4 : Int32) = 4 := by decide
theorem ltc_4 : ((4 : Int32) < 0) = False := eq_false (by decide)
theorem ixc_5 : ix (5 : Int32) = 5 := by decide
theorem ltc_5 : ((5 : Int32) < 0) = False := eq_false (by decide)
theorem ixc_6 : ix (6 : Int32) = 6 := by decide
theorem ltc_6 : ((6 : Int32) < 0) = False := eq_false (by decide)
theorem ixc_7 : ix (7 : Int32) = 7 := by decide
theorem ltc_7 : ((7 : Int32) < 0) = False := eq_false (by decide)
theorem ixc_8 : ix (8 : Int32) = 8 := by decide
theorem ltc_8 : ((8 : Int32) < 0) = False := eq_false (by decide)
theorem ixc_9 : ix (9 : Int32) = 9 := by decide
theorem ltc_9 : ((9 : Int32) < 0) = False := eq_false (by decide)
theorem ixc_10 : ix (10 : Int32) = 10 := by decide
theorem ltc_10 : ((10 : Int32) < 0) = False := eq_false (by decide)
theorem ixc_12 : ix (12 : Int32) = 12 := by decide
theorem ltc_12 : ((12 : Int32) < 0) = False := eq_false (by decide)
theorem ixc_16 : ix (16 : Int32) = 16 := by decide
theorem ltc_16 : ((16 : Int32) < 0) = False := eq_false (by decide)
theorem ixc_17 : ix (17 : Int32) = 17 := by decide
theorem ltc_17 : ((17 : Int32) < 0) = False := eq_false (by decide)
theorem ixc_20 : ix (20 : Int32) = 20 := by decide
theorem ltc_20 : ((20 : Int32) < 0) = False := eq_false (by decide)
theorem ixc_24 : ix (24 : Int32) = 24 := by decide
theorem ltc_24 : ((24 : Int32) < 0) = False := eq_false (by decide)
theorem ixc_60 : ix (60 : Int32) = 60 := by decide
theorem ltc_60 : ((60 : Int32) < 0) = False := eq_false (by decide)
theorem ixc_96 : ix (96 : Int32) = 96 := by decide
theorem ltc_96 : ((96 : Int32) < 0) = False := eq_false (by decide)
theorem ixc_100 : ix (100 : Int32) = 100 := by decide
theorem ltc_100 : ((100 : Int32) < 0) = False := eq_false (by decide)
theorem ixc_128 : ix (128 : Int32) = 128 := by decide
theorem ltc_128 : ((128 : Int32) < 0) = False := eq_false (by decide)
theorem ixc_3210 : ix (3210 : Int32) = 3210 := by decide
theorem ltc_3210 : ((3210 : Int32) < 0) = False := eq_false (by decide)
theorem inbc_0_4 : inb (0 : Int32) 4 = true := by decide
theorem inbc_1_4 : inb (1 : Int32) 4 = true := by decide
theorem inbc_2_4 : inb (2 : Int32) 4 = true := by decide
theorem inbc_3_4 : inb (3 : Int32) 4 = true := by decide
theorem inbc_0_7 : inb (0 : Int32) 7 = true := by decide
theorem inbc_1_7 : inb (1 : Int32) 7 = true := by decide
theorem inbc_2_7 : inb (2 : Int32) 7 = true := by decide
theorem inbc_3_7 : inb (3 : Int32) 7 = true := by decide
theorem inbc_4_7 : inb (4 : Int32) 7 = true := by decide
theorem inbc_5_7 : inb (5 : Int32) 7 = true := by decide
theorem inbc_6_7 : inb (6 : Int32) 7 = true := by decide
theorem inbc_0_10 : inb (0 : Int32) 10 = true := by decide
theorem inbc_1_10 : inb (1 : Int32) 10 = true := by decide
theorem inbc_2_10 : inb (2 : Int32) 10 = true := by decide
theorem inbc_3_10 : inb (3 : Int32) 10 = true := by decide
theorem inbc_4_10 : inb (4 : Int32) 10 = true := by decide
theorem inbc_5_10 : inb (5 : Int32) 10 = true := by decide
theorem inbc_6_10 : inb (6 : Int32) 10 = true := by decide
theorem inbc_7_10 : inb (7 : Int32) 10 = true := by decide
theorem inbc_8_10 : inb (8 : Int32) 10 = true := by decide
theorem inbc_9_10 : inb (9 : Int32) 10 = true := by decide
def opsG : List (Nat × Nat × Nat × Nat × Int32) := [(0, 21, 16, 0, 0), (1, 0, 0, 1, 0), (0, 21, 16, 0, 0), (1, 0, 1, 2, 0), (0, 21, 16, 0, 0), (1, 0, 2, 3, 0), (0, 21, 16, 0, 0), (1, 0, 3, 4, 0), (0, 21, 4, 0, 0), (2, 5, 0, 0, 0), (2, 5, 1, 0, -1000000005), (2, 5, 2, 0, -1000000005), (2, 5, 3, 0, -1000000005), (1, 0, 4, 5, 0), (0, 21, 6, 0, 0), (1, 0, 5, 6, 0), (0, 21, 6, 0, 0), (1, 0, 6, 7, 0), (0, 21, 6, 0, 0), (1, 0, 7, 8, 0), (0, 21, 6, 0, 0), (1, 0, 8, 9, 0), (2, 0, 9, 0, 400)]
theorem i_Ground (hs : Shn σ = w + 1) (hk : Stk σ w = 2) (hw : ¬ w = 0) : f_Ground_init w true σ = ((), true, rns w opsG σ) := by
  simp only [f_Ground_init, opsG, lt_, Shn_nC, Shn_pR, Shn_pI, hs, Nat.add_assoc, Nat.reduceAdd, Nat.add_zero, rn_0, rn_1, rn_2, rn_n, ixc_0, ixc_1, ixc_2, ixc_3, ixc_4, ixc_5, ixc_6, ixc_7, ixc_8, ixc_9, ixc_10, ixc_12, ixc_16, ixc_17, ixc_20, ixc_24, ixc_60, ixc_96, cK, cA, Stk_nC, Stk_pR, Stk_pI, Sln_nC, Sln_pR, Sln_pI, up1, ltc_4, ltc_6, ltc_7, ltc_10, ltc_12, ltc_16, ltc_17, ltc_20, ltc_24, ltc_60, ltc_96, inbc_0_4, inbc_1_4, inbc_2_4, inbc_3_4, inbc_0_7, inbc_1_7, inbc_2_7, inbc_3_7, inbc_4_7, inbc_5_7, inbc_6_7, inbc_0_10, inbc_1_10, inbc_2_10, inbc_3_10, inbc_4_10, inbc_5_10, inbc_6_10, inbc_7_10, inbc_8_10, inbc_9_10, hk, hw, Nat.le_refl, decide_true, decide_false, Bool.not_false, Bool.and_true, Bool.and_self, Bool.true_and, if_true, if_false, Nat.add_left_cancel_iff, Nat.left_eq_add, Nat.add_eq_left, Nat.reduceEqDiff, reduceIte, Nat.succ_ne_zero, Nat.one_ne_zero]
theorem n_Ground (hs : Shn σ = w + 1) : Shn (rns w opsG σ) = w + 10 := rn_hn hs
def opsL : List (Nat × Nat × Nat × Nat × Int32) := [(0, 25, 12, 0, 0), (1, 0, 0, 1, 0), (0, 21, 4, 0, 0), (1, 0, 2, 2, 0), (0, 21, 96, 0, 0), (1, 0, 3, 3, 0)]
theorem i_Laws (hs : Shn σ = w + 1) (hk : Stk σ w = 3) (hw : ¬ w = 0) : f_Laws_init w true σ = ((), true, rns w opsL σ) := by
  simp only [f_Laws_init, opsL, lt_, Shn_nC, Shn_pR, Shn_pI, hs, Nat.add_assoc, Nat.reduceAdd, Nat.add_zero, rn_0, rn_1, rn_2, rn_n, ixc_0, ixc_1, ixc_2, ixc_3, ixc_4, ixc_5, ixc_6, ixc_7, ixc_8, ixc_9, ixc_10, ixc_12, ixc_16, ixc_17, ixc_20, ixc_24, ixc_60, ixc_96, cK, cA, Stk_nC, Stk_pR, Stk_pI, Sln_nC, Sln_pR, Sln_pI, up1, ltc_4, ltc_6, ltc_7, ltc_10, ltc_12, ltc_16, ltc_17, ltc_20, ltc_24, ltc_60, ltc_96, inbc_0_4, inbc_1_4, inbc_2_4, inbc_3_4, inbc_0_7, inbc_1_7, inbc_2_7, inbc_3_7, inbc_4_7, inbc_5_7, inbc_6_7, inbc_0_10, inbc_1_10, inbc_2_10, inbc_3_10, inbc_4_10, inbc_5_10, inbc_6_10, inbc_7_10, inbc_8_10, inbc_9_10, hk, hw, Nat.le_refl, decide_true, decide_false, Bool.not_false, Bool.and_true, Bool.and_self, Bool.true_and, if_true, if_false, Nat.add_left_cancel_iff, Nat.left_eq_add, Nat.add_eq_left, Nat.reduceEqDiff, reduceIte, Nat.succ_ne_zero, Nat.one_ne_zero]
theorem n_Laws (hs : Shn σ = w + 1) : Shn (rns w opsL σ) = w + 4 := rn_hn hs
def opsP : List (Nat × Nat × Nat × Nat × Int32) := [(0, 21, 20, 0, 0), (1, 0, 0, 1, 0), (0, 21, 20, 0, 0), (1, 0, 1, 2, 0), (0, 21, 20, 0, 0), (1, 0, 2, 3, 0), (0, 21, 20, 0, 0), (1, 0, 3, 4, 0), (0, 21, 20, 0, 0), (1, 0, 4, 5, 0)]
theorem i_Post (hs : Shn σ = w + 1) (hk : Stk σ w = 5) (hw : ¬ w = 0) : f_Post_init w true σ = ((), true, rns w opsP σ) := by
  simp only [f_Post_init, opsP, lt_, Shn_nC, Shn_pR, Shn_pI, hs, Nat.add_assoc, Nat.reduceAdd, Nat.add_zero, rn_0, rn_1, rn_2, rn_n, ixc_0, ixc_1, ixc_2, ixc_3, ixc_4, ixc_5, ixc_6, ixc_7, ixc_8, ixc_9, ixc_10, ixc_12, ixc_16, ixc_17, ixc_20, ixc_24, ixc_60, ixc_96, cK, cA, Stk_nC, Stk_pR, Stk_pI, Sln_nC, Sln_pR, Sln_pI, up1, ltc_4, ltc_6, ltc_7, ltc_10, ltc_12, ltc_16, ltc_17, ltc_20, ltc_24, ltc_60, ltc_96, inbc_0_4, inbc_1_4, inbc_2_4, inbc_3_4, inbc_0_7, inbc_1_7, inbc_2_7, inbc_3_7, inbc_4_7, inbc_5_7, inbc_6_7, inbc_0_10, inbc_1_10, inbc_2_10, inbc_3_10, inbc_4_10, inbc_5_10, inbc_6_10, inbc_7_10, inbc_8_10, inbc_9_10, hk, hw, Nat.le_refl, decide_true, decide_false, Bool.not_false, Bool.and_true, Bool.and_self, Bool.true_and, if_true, if_false, Nat.add_left_cancel_iff, Nat.left_eq_add, Nat.add_eq_left, Nat.reduceEqDiff, reduceIte, Nat.succ_ne_zero, Nat.one_ne_zero]
theorem n_Post (hs : Shn σ = w + 1) : Shn (rns w opsP σ) = w + 6 := rn_hn hs
def opsQ : List (Nat × Nat × Nat × Nat × Int32) := [(0, 21, 7, 0, 0), (2, 1, 0, 0, 1), (2, 1, 1, 0, 1), (2, 1, 2, 0, 1), (2, 1, 3, 0, 1), (2, 1, 4, 0, 1), (2, 1, 5, 0, 1), (2, 1, 6, 0, 1), (1, 0, 0, 1, 0), (0, 21, 16, 0, 0), (1, 0, 1, 2, 0), (0, 21, 16, 0, 0), (1, 0, 2, 3, 0), (0, 21, 16, 0, 0), (1, 0, 4, 4, 0), (0, 21, 16, 0, 0), (1, 0, 5, 5, 0), (0, 21, 16, 0, 0), (1, 0, 6, 6, 0)]
theorem i_Permits (hs : Shn σ = w + 1) (hk : Stk σ w = 4) (hw : ¬ w = 0) : f_Permits_init w true σ = ((), true, rns w opsQ σ) := by
  simp only [f_Permits_init, opsQ, lt_, Shn_nC, Shn_pR, Shn_pI, hs, Nat.add_assoc, Nat.reduceAdd, Nat.add_zero, rn_0, rn_1, rn_2, rn_n, ixc_0, ixc_1, ixc_2, ixc_3, ixc_4, ixc_5, ixc_6, ixc_7, ixc_8, ixc_9, ixc_10, ixc_12, ixc_16, ixc_17, ixc_20, ixc_24, ixc_60, ixc_96, cK, cA, Stk_nC, Stk_pR, Stk_pI, Sln_nC, Sln_pR, Sln_pI, up1, ltc_4, ltc_6, ltc_7, ltc_10, ltc_12, ltc_16, ltc_17, ltc_20, ltc_24, ltc_60, ltc_96, inbc_0_4, inbc_1_4, inbc_2_4, inbc_3_4, inbc_0_7, inbc_1_7, inbc_2_7, inbc_3_7, inbc_4_7, inbc_5_7, inbc_6_7, inbc_0_10, inbc_1_10, inbc_2_10, inbc_3_10, inbc_4_10, inbc_5_10, inbc_6_10, inbc_7_10, inbc_8_10, inbc_9_10, hk, hw, Nat.le_refl, decide_true, decide_false, Bool.not_false, Bool.and_true, Bool.and_self, Bool.true_and, if_true, if_false, Nat.add_left_cancel_iff, Nat.left_eq_add, Nat.add_eq_left, Nat.reduceEqDiff, reduceIte, Nat.succ_ne_zero, Nat.one_ne_zero]
theorem n_Permits (hs : Shn σ = w + 1) : Shn (rns w opsQ σ) = w + 7 := rn_hn hs
def opsS : List (Nat × Nat × Nat × Nat × Int32) := [(2, 0, 0, 0, 10), (0, 21, 12, 0, 0), (1, 0, 1, 1, 0), (0, 21, 12, 0, 0), (1, 0, 2, 2, 0), (0, 21, 12, 0, 0), (1, 0, 3, 3, 0), (0, 21, 16, 0, 0), (1, 0, 5, 4, 0), (0, 21, 17, 0, 0), (1, 0, 6, 5, 0), (0, 23, 17, 0, 0), (1, 0, 7, 6, 0)]
theorem i_Supply (hs : Shn σ = w + 1) (hk : Stk σ w = 7) (hw : ¬ w = 0) : f_Supply_init w true σ = ((), true, rns w opsS σ) := by
  simp only [f_Supply_init, opsS, lt_, Shn_nC, Shn_pR, Shn_pI, hs, Nat.add_assoc, Nat.reduceAdd, Nat.add_zero, rn_0, rn_1, rn_2, rn_n, ixc_0, ixc_1, ixc_2, ixc_3, ixc_4, ixc_5, ixc_6, ixc_7, ixc_8, ixc_9, ixc_10, ixc_12, ixc_16, ixc_17, ixc_20, ixc_24, ixc_60, ixc_96, cK, cA, Stk_nC, Stk_pR, Stk_pI, Sln_nC, Sln_pR, Sln_pI, up1, ltc_4, ltc_6, ltc_7, ltc_10, ltc_12, ltc_16, ltc_17, ltc_20, ltc_24, ltc_60, ltc_96, inbc_0_4, inbc_1_4, inbc_2_4, inbc_3_4, inbc_0_7, inbc_1_7, inbc_2_7, inbc_3_7, inbc_4_7, inbc_5_7, inbc_6_7, inbc_0_10, inbc_1_10, inbc_2_10, inbc_3_10, inbc_4_10, inbc_5_10, inbc_6_10, inbc_7_10, inbc_8_10, inbc_9_10, hk, hw, Nat.le_refl, decide_true, decide_false, Bool.not_false, Bool.and_true, Bool.and_self, Bool.true_and, if_true, if_false, Nat.add_left_cancel_iff, Nat.left_eq_add, Nat.add_eq_left, Nat.reduceEqDiff, reduceIte, Nat.succ_ne_zero, Nat.one_ne_zero]
theorem n_Supply (hs : Shn σ = w + 1) : Shn (rns w opsS σ) = w + 7 := rn_hn hs
def opsA : List (Nat × Nat × Nat × Nat × Int32) := [(0, 21, 20, 0, 0), (1, 0, 0, 1, 0), (0, 21, 20, 0, 0), (1, 0, 1, 2, 0), (0, 21, 20, 0, 0), (1, 0, 3, 3, 0), (0, 21, 20, 0, 0), (1, 0, 4, 4, 0), (0, 21, 20, 0, 0), (1, 0, 5, 5, 0), (0, 21, 20, 0, 0), (1, 0, 6, 6, 0)]
theorem i_Album (hs : Shn σ = w + 1) (hk : Stk σ w = 1) (hw : ¬ w = 0) : f_Album_init w true σ = ((), true, rns w opsA σ) := by
  simp only [f_Album_init, opsA, lt_, Shn_nC, Shn_pR, Shn_pI, hs, Nat.add_assoc, Nat.reduceAdd, Nat.add_zero, rn_0, rn_1, rn_2, rn_n, ixc_0, ixc_1, ixc_2, ixc_3, ixc_4, ixc_5, ixc_6, ixc_7, ixc_8, ixc_9, ixc_10, ixc_12, ixc_16, ixc_17, ixc_20, ixc_24, ixc_60, ixc_96, cK, cA, Stk_nC, Stk_pR, Stk_pI, Sln_nC, Sln_pR, Sln_pI, up1, ltc_4, ltc_6, ltc_7, ltc_10, ltc_12, ltc_16, ltc_17, ltc_20, ltc_24, ltc_60, ltc_96, inbc_0_4, inbc_1_4, inbc_2_4, inbc_3_4, inbc_0_7, inbc_1_7, inbc_2_7, inbc_3_7, inbc_4_7, inbc_5_7, inbc_6_7, inbc_0_10, inbc_1_10, inbc_2_10, inbc_3_10, inbc_4_10, inbc_5_10, inbc_6_10, inbc_7_10, inbc_8_10, inbc_9_10, hk, hw, Nat.le_refl, decide_true, decide_false, Bool.not_false, Bool.and_true, Bool.and_self, Bool.true_and, if_true, if_false, Nat.add_left_cancel_iff, Nat.left_eq_add, Nat.add_eq_left, Nat.reduceEqDiff, reduceIte, Nat.succ_ne_zero, Nat.one_ne_zero]
theorem n_Album (hs : Shn σ = w + 1) : Shn (rns w opsA σ) = w + 7 := rn_hn hs
def opsT : List (Nat × Nat × Nat × Nat × Int32) := [(0, 22, 96, 0, 0), (1, 0, 0, 1, 0), (0, 21, 96, 0, 0), (1, 0, 8, 2, 0)]
theorem i_Tape (hs : Shn σ = w + 1) (hk : Stk σ w = 8) (hw : ¬ w = 0) : f_Tape_init w true σ = ((), true, rns w opsT σ) := by
  simp only [f_Tape_init, opsT, lt_, Shn_nC, Shn_pR, Shn_pI, hs, Nat.add_assoc, Nat.reduceAdd, Nat.add_zero, rn_0, rn_1, rn_2, rn_n, ixc_0, ixc_1, ixc_2, ixc_3, ixc_4, ixc_5, ixc_6, ixc_7, ixc_8, ixc_9, ixc_10, ixc_12, ixc_16, ixc_17, ixc_20, ixc_24, ixc_60, ixc_96, cK, cA, Stk_nC, Stk_pR, Stk_pI, Sln_nC, Sln_pR, Sln_pI, up1, ltc_4, ltc_6, ltc_7, ltc_10, ltc_12, ltc_16, ltc_17, ltc_20, ltc_24, ltc_60, ltc_96, inbc_0_4, inbc_1_4, inbc_2_4, inbc_3_4, inbc_0_7, inbc_1_7, inbc_2_7, inbc_3_7, inbc_4_7, inbc_5_7, inbc_6_7, inbc_0_10, inbc_1_10, inbc_2_10, inbc_3_10, inbc_4_10, inbc_5_10, inbc_6_10, inbc_7_10, inbc_8_10, inbc_9_10, hk, hw, Nat.le_refl, decide_true, decide_false, Bool.not_false, Bool.and_true, Bool.and_self, Bool.true_and, if_true, if_false, Nat.add_left_cancel_iff, Nat.left_eq_add, Nat.add_eq_left, Nat.reduceEqDiff, reduceIte, Nat.succ_ne_zero, Nat.one_ne_zero]
theorem n_Tape (hs : Shn σ = w + 1) : Shn (rns w opsT σ) = w + 3 := rn_hn hs
def opsH : List (Nat × Nat × Nat × Nat × Int32) := [(2, 0, 0, 0, -1), (0, 23, 24, 0, 0), (1, 0, 2, 1, 0)]
theorem i_Sheet (hs : Shn σ = w + 1) (hk : Stk σ w = 6) (hw : ¬ w = 0) : f_Sheet_init w true σ = ((), true, rns w opsH σ) := by
  simp only [f_Sheet_init, opsH, lt_, Shn_nC, Shn_pR, Shn_pI, hs, Nat.add_assoc, Nat.reduceAdd, Nat.add_zero, rn_0, rn_1, rn_2, rn_n, ixc_0, ixc_1, ixc_2, ixc_3, ixc_4, ixc_5, ixc_6, ixc_7, ixc_8, ixc_9, ixc_10, ixc_12, ixc_16, ixc_17, ixc_20, ixc_24, ixc_60, ixc_96, cK, cA, Stk_nC, Stk_pR, Stk_pI, Sln_nC, Sln_pR, Sln_pI, up1, ltc_4, ltc_6, ltc_7, ltc_10, ltc_12, ltc_16, ltc_17, ltc_20, ltc_24, ltc_60, ltc_96, inbc_0_4, inbc_1_4, inbc_2_4, inbc_3_4, inbc_0_7, inbc_1_7, inbc_2_7, inbc_3_7, inbc_4_7, inbc_5_7, inbc_6_7, inbc_0_10, inbc_1_10, inbc_2_10, inbc_3_10, inbc_4_10, inbc_5_10, inbc_6_10, inbc_7_10, inbc_8_10, inbc_9_10, hk, hw, Nat.le_refl, decide_true, decide_false, Bool.not_false, Bool.and_true, Bool.and_self, Bool.true_and, if_true, if_false, Nat.add_left_cancel_iff, Nat.left_eq_add, Nat.add_eq_left, Nat.reduceEqDiff, reduceIte, Nat.succ_ne_zero, Nat.one_ne_zero]
theorem n_Sheet (hs : Shn σ = w + 1) : Shn (rns w opsH σ) = w + 2 := rn_hn hs
end SR2
