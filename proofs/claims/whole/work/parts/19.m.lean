/-! methods -/
abbrev M_Model_why : MD := (⟨"LongTrailModel", "why", "(II)I"⟩, prog_14_method_55_code, 3, (some FieldType.int))
def f_Model_why (h0 : Nat) (x1 : Int32) (x2 : Int32) (b : Bool) (σ : Sto) : Rs Int32 := (bd_ (f_Model_isIn ((x1).toInt64) (0 : Int64) (3 : Int64) b σ) (fun (r_1 : Int32) (b_1 : Bool) (σ_1 : Sto) => (lt_ (fun (b : Bool) (σ : Sto) => ((-1000000001 : Int32), b, σ)) (fun J36 => (if r_1 = 0 then (J36 b_1 σ_1) else (bd_ (f_Model_isIn ((x2).toInt64) (0 : Int64) (3 : Int64) b_1 σ_1) (fun (r_2 : Int32) (b_2 : Bool) (σ_2 : Sto) => (if r_2 = 0 then (J36 b_2 σ_2) else (bd_ (f_Model_counts h0 x1 x2 (b_2 && cK σ_2 h0 13) σ_2) (fun (r_3 : Int32) (b_3 : Bool) (σ_3 : Sto) => (bd_ (f_Model_orNone r_3 b_3 σ_3) (fun (r_4 : Int32) (b_4 : Bool) (σ_4 : Sto) => (r_4, b_4, σ_4)))))))))))))
set_option maxRecDepth 100000 in
set_option maxHeartbeats 4000000 in
theorem s_Model_why : ∀ (h0 : Nat) (x1 : Int32) (x2 : Int32) (b : Bool) (σ : Sto), Snd M_Model_why 3 0 0 [vR h0, vI x1, vI x2] b σ (tI (f_Model_why h0 x1 x2 b σ).1) (f_Model_why h0 x1 x2 b σ).2.1 (f_Model_why h0 x1 x2 b σ).2.2 := by
  intro h0 x1 x2 b σ
  refine Snd_of (tv := tI) (by decide) (Nat.le_of_ble_eq_true rfl) ?_
  show V M_Model_why 3 0 0 0 0 tI (f_Model_why h0 x1 x2 b σ) 0 [(0, vR h0), (1, vI x1), (2, vI x2)] [] b σ
  unfold f_Model_why
  refine V_iload_n 1 rfl (show decode M_Model_why.2.1 0 = .ok (.iload_n 1, 1) by decide +kernel) 1 rfl ?_
  refine V_i2l 2 rfl (show decode M_Model_why.2.1 1 = .ok (.i2l, 1) by decide +kernel) ?_
  refine V_lconst 3 rfl (show decode M_Model_why.2.1 2 = .ok (.lconst 0, 1) by decide +kernel) (v := 0) rfl ?_
  refine V_ldc2 6 rfl (show decode M_Model_why.2.1 3 = .ok (.ldc2_w 141, 3) by decide +kernel) wd_1702 ?_
  refine V_callS (tb := tI) (as := [vL ((x1).toInt64), vL (0 : Int64), vL (3 : Int64)]) (rest := []) (na := 3) 9 rfl (s_Model_isIn ((x1).toInt64) (0 : Int64) (3 : Int64) b σ) rfl rfl (Nat.le_of_ble_eq_true rfl) (cal_Model_isIn _ _ _ _ _ (by decide) (by decide) (by decide)) (show decode M_Model_why.2.1 6 = .ok (.invokestatic 76, 3) by decide +kernel) wd_1617 wd_1618 (fun r_1 b_1 σ_1 => ?_)
  show V M_Model_why 3 0 0 0 0 tI _ 9 [(0, vR h0), (1, vI x1), (2, vI x2)] [vI r_1] b_1 σ_1
  refine V_jn (fun (J36 : Bool → Sto → Rs Int32) => ∀ (b : Bool) (σ : Sto), V M_Model_why 3 0 0 0 0 tI (J36 b σ) 36 [] [] b σ) ?_ (fun J36 hJ36 => ?_)
  · intro b σ
    refine V_ldc 38 rfl (show decode M_Model_why.2.1 36 = .ok (.ldc 91, 2) by decide +kernel) wd_1620 ?_
    exact V_iret rfl (by decide) (by decide) (show decode M_Model_why.2.1 38 = .ok (.ireturn, 1) by decide +kernel)
  · skip
    refine V_ifeq 12 36 rfl (show decode M_Model_why.2.1 9 = .ok (.ifCond .eq 27, 3) by decide +kernel) rfl ?_ ?_
    · skip
      exact V_sub [] rfl (hJ36 b_1 σ_1)
    · skip
      refine V_iload_n 13 rfl (show decode M_Model_why.2.1 12 = .ok (.iload_n 2, 1) by decide +kernel) 2 rfl ?_
      refine V_i2l 14 rfl (show decode M_Model_why.2.1 13 = .ok (.i2l, 1) by decide +kernel) ?_
      refine V_lconst 15 rfl (show decode M_Model_why.2.1 14 = .ok (.lconst 0, 1) by decide +kernel) (v := 0) rfl ?_
      refine V_ldc2 18 rfl (show decode M_Model_why.2.1 15 = .ok (.ldc2_w 141, 3) by decide +kernel) wd_1702 ?_
      refine V_callS (tb := tI) (as := [vL ((x2).toInt64), vL (0 : Int64), vL (3 : Int64)]) (rest := []) (na := 3) 21 rfl (s_Model_isIn ((x2).toInt64) (0 : Int64) (3 : Int64) b_1 σ_1) rfl rfl (Nat.le_of_ble_eq_true rfl) (cal_Model_isIn _ _ _ _ _ (by decide) (by decide) (by decide)) (show decode M_Model_why.2.1 18 = .ok (.invokestatic 76, 3) by decide +kernel) wd_1617 wd_1618 (fun r_2 b_2 σ_2 => ?_)
      show V M_Model_why 3 0 0 0 0 tI _ 21 [(0, vR h0), (1, vI x1), (2, vI x2)] [vI r_2] b_2 σ_2
      refine V_ifeq 24 36 rfl (show decode M_Model_why.2.1 21 = .ok (.ifCond .eq 15, 3) by decide +kernel) rfl ?_ ?_
      · skip
        exact V_sub [] rfl (hJ36 b_2 σ_2)
      · skip
        refine V_aload_n 25 rfl (show decode M_Model_why.2.1 24 = .ok (.aload_n 0, 1) by decide +kernel) 0 rfl ?_
        refine V_iload_n 26 rfl (show decode M_Model_why.2.1 25 = .ok (.iload_n 1, 1) by decide +kernel) 1 rfl ?_
        refine V_iload_n 27 rfl (show decode M_Model_why.2.1 26 = .ok (.iload_n 2, 1) by decide +kernel) 2 rfl ?_
        refine V_callV (tb := tI) (as := [vI x1, vI x2]) (rest := []) (na := 2) 30 rfl ck_Model (by decide) (s_Model_counts h0 x1 x2 (b_2 && cK σ_2 h0 13) σ_2) rfl rfl (Nat.le_of_ble_eq_true rfl) (cal_Model_counts _ _ _ _ _ (by decide) (by decide) (by decide)) (show decode M_Model_why.2.1 27 = .ok (.invokevirtual 251, 3) by decide +kernel) wd_1823 wd_1825 wd_142 (fun r_3 b_3 σ_3 => ?_)
        show V M_Model_why 3 0 0 0 0 tI _ 30 [(0, vR h0), (1, vI x1), (2, vI x2)] [vI r_3] b_3 σ_3
        refine V_callS (tb := tI) (as := [vI r_3]) (rest := []) (na := 1) 33 rfl (s_Model_orNone r_3 b_3 σ_3) rfl rfl (Nat.le_of_ble_eq_true rfl) (cal_Model_orNone _ _ _ _ _ (by decide) (by decide) (by decide)) (show decode M_Model_why.2.1 30 = .ok (.invokestatic 143, 3) by decide +kernel) wd_1704 wd_1705 (fun r_4 b_4 σ_4 => ?_)
        show V M_Model_why 3 0 0 0 0 tI _ 33 [(0, vR h0), (1, vI x1), (2, vI x2)] [vI r_4] b_4 σ_4
        refine V_goto 38 (show decode M_Model_why.2.1 33 = .ok (.goto 5, 3) by decide +kernel) rfl ?_
        exact V_iret rfl (by decide) (by decide) (show decode M_Model_why.2.1 38 = .ok (.ireturn, 1) by decide +kernel)
theorem cal_Model_why (d mc ms k n : Nat) (h1 : 3 + 1 ≤ d) (h2 : k + 0 ≤ mc) (h3 : n + 0 ≤ ms) : Cal M_Model_why 3 0 0 2 d mc ms k n := ⟨wd_1822, wd_181, by decide, h1, by decide, h2, h3⟩
abbrev M_Model_wish : MD := (⟨"LongTrailModel", "wish", "(II)I"⟩, prog_14_method_84_code, 3, (some FieldType.int))
def f_Model_wish (h0 : Nat) (x1 : Int32) (x2 : Int32) (b : Bool) (σ : Sto) : Rs Int32 := (bd_ (f_Model_isIn ((x1).toInt64) (0 : Int64) (999 : Int64) b σ) (fun (r_1 : Int32) (b_1 : Bool) (σ_1 : Sto) => (lt_ (fun (b : Bool) (σ : Sto) => ((-1000000001 : Int32), b, σ)) (fun J24 => (if r_1 = 0 then (J24 b_1 σ_1) else (bd_ (f_Model_isIn ((x2).toInt64) (0 : Int64) (9 : Int64) b_1 σ_1) (fun (r_2 : Int32) (b_2 : Bool) (σ_2 : Sto) => (if r_2 = 0 then (J24 b_2 σ_2) else (if (SI σ_2 (SR σ_2 h0 0) (ix (7 : Int32))) = (16 : Int32) then ((-1000000003 : Int32), ((b_2 && cK σ_2 h0 13) && cA σ_2 (SR σ_2 h0 0) 21 (7 : Int32)), σ_2) else (lt_ (pI σ_2 (SR σ_2 h0 0) (ix ((440 : Int32) + ((2 : Int32) * (SI σ_2 (SR σ_2 h0 0) (ix (7 : Int32)))))) x1) (fun (σ_3 : Sto) => (lt_ (pI σ_3 (SR σ_3 h0 0) (ix (((440 : Int32) + ((2 : Int32) * (SI σ_3 (SR σ_3 h0 0) (ix (7 : Int32))))) + (1 : Int32))) x2) (fun (σ_4 : Sto) => (lt_ (pI σ_4 (SR σ_4 h0 0) (ix (7 : Int32)) ((SI σ_4 (SR σ_4 h0 0) (ix (7 : Int32))) + (1 : Int32))) (fun (σ_5 : Sto) => (((SI σ_5 (SR σ_5 h0 0) (ix (7 : Int32))) - (1 : Int32)), (((((((((((((((b_2 && cK σ_2 h0 13) && cA σ_2 (SR σ_2 h0 0) 21 (7 : Int32)) && cK σ_2 h0 13) && cK σ_2 h0 13) && cA σ_2 (SR σ_2 h0 0) 21 (7 : Int32)) && cA σ_2 (SR σ_2 h0 0) 21 ((440 : Int32) + ((2 : Int32) * (SI σ_2 (SR σ_2 h0 0) (ix (7 : Int32)))))) && cK σ_3 h0 13) && cK σ_3 h0 13) && cA σ_3 (SR σ_3 h0 0) 21 (7 : Int32)) && cA σ_3 (SR σ_3 h0 0) 21 (((440 : Int32) + ((2 : Int32) * (SI σ_3 (SR σ_3 h0 0) (ix (7 : Int32))))) + (1 : Int32))) && cK σ_4 h0 13) && cA σ_4 (SR σ_4 h0 0) 21 (7 : Int32)) && cA σ_4 (SR σ_4 h0 0) 21 (7 : Int32)) && cK σ_5 h0 13) && cA σ_5 (SR σ_5 h0 0) 21 (7 : Int32)), σ_5))))))))))))))))
set_option maxRecDepth 100000 in
set_option maxHeartbeats 4000000 in
theorem s_Model_wish : ∀ (h0 : Nat) (x1 : Int32) (x2 : Int32) (b : Bool) (σ : Sto), Snd M_Model_wish 2 0 0 [vR h0, vI x1, vI x2] b σ (tI (f_Model_wish h0 x1 x2 b σ).1) (f_Model_wish h0 x1 x2 b σ).2.1 (f_Model_wish h0 x1 x2 b σ).2.2 := by
  intro h0 x1 x2 b σ
  refine Snd_of (tv := tI) (by decide) (Nat.le_of_ble_eq_true rfl) ?_
  show V M_Model_wish 2 0 0 0 0 tI (f_Model_wish h0 x1 x2 b σ) 0 [(0, vR h0), (1, vI x1), (2, vI x2)] [] b σ
  unfold f_Model_wish
  refine V_iload_n 1 rfl (show decode M_Model_wish.2.1 0 = .ok (.iload_n 1, 1) by decide +kernel) 1 rfl ?_
  refine V_i2l 2 rfl (show decode M_Model_wish.2.1 1 = .ok (.i2l, 1) by decide +kernel) ?_
  refine V_lconst 3 rfl (show decode M_Model_wish.2.1 2 = .ok (.lconst 0, 1) by decide +kernel) (v := 0) rfl ?_
  refine V_ldc2 6 rfl (show decode M_Model_wish.2.1 3 = .ok (.ldc2_w 243, 3) by decide +kernel) wd_1743 ?_
  refine V_callS (tb := tI) (as := [vL ((x1).toInt64), vL (0 : Int64), vL (999 : Int64)]) (rest := []) (na := 3) 9 rfl (s_Model_isIn ((x1).toInt64) (0 : Int64) (999 : Int64) b σ) rfl rfl (Nat.le_of_ble_eq_true rfl) (cal_Model_isIn _ _ _ _ _ (by decide) (by decide) (by decide)) (show decode M_Model_wish.2.1 6 = .ok (.invokestatic 76, 3) by decide +kernel) wd_1617 wd_1618 (fun r_1 b_1 σ_1 => ?_)
  show V M_Model_wish 2 0 0 0 0 tI _ 9 [(0, vR h0), (1, vI x1), (2, vI x2)] [vI r_1] b_1 σ_1
  refine V_jn (fun (J24 : Bool → Sto → Rs Int32) => ∀ (b : Bool) (σ : Sto), V M_Model_wish 2 0 0 0 0 tI (J24 b σ) 24 [] [] b σ) ?_ (fun J24 hJ24 => ?_)
  · intro b σ
    refine V_ldc 26 rfl (show decode M_Model_wish.2.1 24 = .ok (.ldc 91, 2) by decide +kernel) wd_1620 ?_
    exact V_iret rfl (by decide) (by decide) (show decode M_Model_wish.2.1 26 = .ok (.ireturn, 1) by decide +kernel)
  · skip
    refine V_ifeq 12 24 rfl (show decode M_Model_wish.2.1 9 = .ok (.ifCond .eq 15, 3) by decide +kernel) rfl ?_ ?_
    · skip
      exact V_sub [] rfl (hJ24 b_1 σ_1)
    · skip
      refine V_iload_n 13 rfl (show decode M_Model_wish.2.1 12 = .ok (.iload_n 2, 1) by decide +kernel) 2 rfl ?_
      refine V_i2l 14 rfl (show decode M_Model_wish.2.1 13 = .ok (.i2l, 1) by decide +kernel) ?_
      refine V_lconst 15 rfl (show decode M_Model_wish.2.1 14 = .ok (.lconst 0, 1) by decide +kernel) (v := 0) rfl ?_
      refine V_ldc2 18 rfl (show decode M_Model_wish.2.1 15 = .ok (.ldc2_w 107, 3) by decide +kernel) wd_1645 ?_
      refine V_callS (tb := tI) (as := [vL ((x2).toInt64), vL (0 : Int64), vL (9 : Int64)]) (rest := []) (na := 3) 21 rfl (s_Model_isIn ((x2).toInt64) (0 : Int64) (9 : Int64) b_1 σ_1) rfl rfl (Nat.le_of_ble_eq_true rfl) (cal_Model_isIn _ _ _ _ _ (by decide) (by decide) (by decide)) (show decode M_Model_wish.2.1 18 = .ok (.invokestatic 76, 3) by decide +kernel) wd_1617 wd_1618 (fun r_2 b_2 σ_2 => ?_)
      show V M_Model_wish 2 0 0 0 0 tI _ 21 [(0, vR h0), (1, vI x1), (2, vI x2)] [vI r_2] b_2 σ_2
      refine V_ifne 24 27 rfl (show decode M_Model_wish.2.1 21 = .ok (.ifCond .ne 6, 3) by decide +kernel) rfl ?_ ?_
      · skip
        exact V_sub [] rfl (hJ24 b_2 σ_2)
      · skip
        refine V_aload_n 28 rfl (show decode M_Model_wish.2.1 27 = .ok (.aload_n 0, 1) by decide +kernel) 0 rfl ?_
        refine V_get (j := 0) (v := vR (SR σ_2 h0 0)) 31 rfl ck_Model (by decide) (by decide) (show decode M_Model_wish.2.1 28 = .ok (.getfield 7, 3) by decide +kernel) wd_1504 rfl ?_
        refine V_bipush 33 rfl (show decode M_Model_wish.2.1 31 = .ok (.bipush 7, 2) by decide +kernel) (v := 7) rfl ?_
        refine V_ald_int 34 rfl (show decode M_Model_wish.2.1 33 = .ok (.iaload, 1) by decide +kernel) ?_
        refine V_bipush 36 rfl (show decode M_Model_wish.2.1 34 = .ok (.bipush 16, 2) by decide +kernel) (v := 16) rfl ?_
        refine V_icmpne 39 42 rfl (show decode M_Model_wish.2.1 36 = .ok (.if_icmp .ne 6, 3) by decide +kernel) rfl ?_ ?_
        · skip
          refine V_ldc 41 rfl (show decode M_Model_wish.2.1 39 = .ok (.ldc 119, 2) by decide +kernel) wd_1656 ?_
          exact V_iret rfl (by decide) (by decide) (show decode M_Model_wish.2.1 41 = .ok (.ireturn, 1) by decide +kernel)
        · skip
          refine V_aload_n 43 rfl (show decode M_Model_wish.2.1 42 = .ok (.aload_n 0, 1) by decide +kernel) 0 rfl ?_
          refine V_get (j := 0) (v := vR (SR σ_2 h0 0)) 46 rfl ck_Model (by decide) (by decide) (show decode M_Model_wish.2.1 43 = .ok (.getfield 7, 3) by decide +kernel) wd_1504 rfl ?_
          refine V_sipush 49 rfl (show decode M_Model_wish.2.1 46 = .ok (.sipush 440, 3) by decide +kernel) (v := 440) rfl ?_
          refine V_iconst 50 rfl (show decode M_Model_wish.2.1 49 = .ok (.iconst 2, 1) by decide +kernel) (v := 2) rfl ?_
          refine V_aload_n 51 rfl (show decode M_Model_wish.2.1 50 = .ok (.aload_n 0, 1) by decide +kernel) 0 rfl ?_
          refine V_get (j := 0) (v := vR (SR σ_2 h0 0)) 54 rfl ck_Model (by decide) (by decide) (show decode M_Model_wish.2.1 51 = .ok (.getfield 7, 3) by decide +kernel) wd_1504 rfl ?_
          refine V_bipush 56 rfl (show decode M_Model_wish.2.1 54 = .ok (.bipush 7, 2) by decide +kernel) (v := 7) rfl ?_
          refine V_ald_int 57 rfl (show decode M_Model_wish.2.1 56 = .ok (.iaload, 1) by decide +kernel) ?_
          refine V_imul 58 rfl (show decode M_Model_wish.2.1 57 = .ok (.imul, 1) by decide +kernel) ?_
          refine V_iadd 59 rfl (show decode M_Model_wish.2.1 58 = .ok (.iadd, 1) by decide +kernel) ?_
          refine V_iload_n 60 rfl (show decode M_Model_wish.2.1 59 = .ok (.iload_n 1, 1) by decide +kernel) 1 rfl ?_
          refine V_ast_int 61 rfl (show decode M_Model_wish.2.1 60 = .ok (.iastore, 1) by decide +kernel) (fun σ_3 => ?_)
          refine V_aload_n 62 rfl (show decode M_Model_wish.2.1 61 = .ok (.aload_n 0, 1) by decide +kernel) 0 rfl ?_
          refine V_get (j := 0) (v := vR (SR σ_3 h0 0)) 65 rfl ck_Model (by decide) (by decide) (show decode M_Model_wish.2.1 62 = .ok (.getfield 7, 3) by decide +kernel) wd_1504 rfl ?_
          refine V_sipush 68 rfl (show decode M_Model_wish.2.1 65 = .ok (.sipush 440, 3) by decide +kernel) (v := 440) rfl ?_
          refine V_iconst 69 rfl (show decode M_Model_wish.2.1 68 = .ok (.iconst 2, 1) by decide +kernel) (v := 2) rfl ?_
          refine V_aload_n 70 rfl (show decode M_Model_wish.2.1 69 = .ok (.aload_n 0, 1) by decide +kernel) 0 rfl ?_
          refine V_get (j := 0) (v := vR (SR σ_3 h0 0)) 73 rfl ck_Model (by decide) (by decide) (show decode M_Model_wish.2.1 70 = .ok (.getfield 7, 3) by decide +kernel) wd_1504 rfl ?_
          refine V_bipush 75 rfl (show decode M_Model_wish.2.1 73 = .ok (.bipush 7, 2) by decide +kernel) (v := 7) rfl ?_
          refine V_ald_int 76 rfl (show decode M_Model_wish.2.1 75 = .ok (.iaload, 1) by decide +kernel) ?_
          refine V_imul 77 rfl (show decode M_Model_wish.2.1 76 = .ok (.imul, 1) by decide +kernel) ?_
          refine V_iadd 78 rfl (show decode M_Model_wish.2.1 77 = .ok (.iadd, 1) by decide +kernel) ?_
          refine V_iconst 79 rfl (show decode M_Model_wish.2.1 78 = .ok (.iconst 1, 1) by decide +kernel) (v := 1) rfl ?_
          refine V_iadd 80 rfl (show decode M_Model_wish.2.1 79 = .ok (.iadd, 1) by decide +kernel) ?_
          refine V_iload_n 81 rfl (show decode M_Model_wish.2.1 80 = .ok (.iload_n 2, 1) by decide +kernel) 2 rfl ?_
          refine V_ast_int 82 rfl (show decode M_Model_wish.2.1 81 = .ok (.iastore, 1) by decide +kernel) (fun σ_4 => ?_)
          refine V_aload_n 83 rfl (show decode M_Model_wish.2.1 82 = .ok (.aload_n 0, 1) by decide +kernel) 0 rfl ?_
          refine V_get (j := 0) (v := vR (SR σ_4 h0 0)) 86 rfl ck_Model (by decide) (by decide) (show decode M_Model_wish.2.1 83 = .ok (.getfield 7, 3) by decide +kernel) wd_1504 rfl ?_
          refine V_bipush 88 rfl (show decode M_Model_wish.2.1 86 = .ok (.bipush 7, 2) by decide +kernel) (v := 7) rfl ?_
          refine V_dup2 89 rfl (show decode M_Model_wish.2.1 88 = .ok (.dup2, 1) by decide +kernel) rfl rfl ?_
          refine V_ald_int 90 rfl (show decode M_Model_wish.2.1 89 = .ok (.iaload, 1) by decide +kernel) ?_
          refine V_iconst 91 rfl (show decode M_Model_wish.2.1 90 = .ok (.iconst 1, 1) by decide +kernel) (v := 1) rfl ?_
          refine V_iadd 92 rfl (show decode M_Model_wish.2.1 91 = .ok (.iadd, 1) by decide +kernel) ?_
          refine V_ast_int 93 rfl (show decode M_Model_wish.2.1 92 = .ok (.iastore, 1) by decide +kernel) (fun σ_5 => ?_)
          refine V_aload_n 94 rfl (show decode M_Model_wish.2.1 93 = .ok (.aload_n 0, 1) by decide +kernel) 0 rfl ?_
          refine V_get (j := 0) (v := vR (SR σ_5 h0 0)) 97 rfl ck_Model (by decide) (by decide) (show decode M_Model_wish.2.1 94 = .ok (.getfield 7, 3) by decide +kernel) wd_1504 rfl ?_
          refine V_bipush 99 rfl (show decode M_Model_wish.2.1 97 = .ok (.bipush 7, 2) by decide +kernel) (v := 7) rfl ?_
          refine V_ald_int 100 rfl (show decode M_Model_wish.2.1 99 = .ok (.iaload, 1) by decide +kernel) ?_
          refine V_iconst 101 rfl (show decode M_Model_wish.2.1 100 = .ok (.iconst 1, 1) by decide +kernel) (v := 1) rfl ?_
          refine V_isub 102 rfl (show decode M_Model_wish.2.1 101 = .ok (.isub, 1) by decide +kernel) ?_
          exact V_iret rfl (by decide) (by decide) (show decode M_Model_wish.2.1 102 = .ok (.ireturn, 1) by decide +kernel)
theorem cal_Model_wish (d mc ms k n : Nat) (h1 : 2 + 1 ≤ d) (h2 : k + 0 ≤ mc) (h3 : n + 0 ≤ ms) : Cal M_Model_wish 2 0 0 2 d mc ms k n := ⟨wd_1958, wd_181, by decide, h1, by decide, h2, h3⟩
abbrev M_Model_would : MD := (⟨"LongTrailModel", "would", "(I)I"⟩, prog_14_method_89_code, 2, (some FieldType.int))
def f_Model_would (h0 : Nat) (x1 : Int32) (b : Bool) (σ : Sto) : Rs Int32 := (bd_ (f_Model_isIn ((x1).toInt64) (0 : Int64) (9 : Int64) b σ) (fun (r_1 : Int32) (b_1 : Bool) (σ_1 : Sto) => (if r_1 = 0 then ((-1000000001 : Int32), b_1, σ_1) else (bd_ (f_Model_findGrant h0 x1 (b_1 && cK σ_1 h0 13) σ_1) (fun (r_2 : Int32) (b_2 : Bool) (σ_2 : Sto) => (r_2, b_2, σ_2))))))
set_option maxRecDepth 100000 in
set_option maxHeartbeats 4000000 in
theorem s_Model_would : ∀ (h0 : Nat) (x1 : Int32) (b : Bool) (σ : Sto), Snd M_Model_would 5 0 0 [vR h0, vI x1] b σ (tI (f_Model_would h0 x1 b σ).1) (f_Model_would h0 x1 b σ).2.1 (f_Model_would h0 x1 b σ).2.2 := by
  intro h0 x1 b σ
  refine Snd_of (tv := tI) (by decide) (Nat.le_of_ble_eq_true rfl) ?_
  show V M_Model_would 5 0 0 0 0 tI (f_Model_would h0 x1 b σ) 0 [(0, vR h0), (1, vI x1)] [] b σ
  unfold f_Model_would
  refine V_iload_n 1 rfl (show decode M_Model_would.2.1 0 = .ok (.iload_n 1, 1) by decide +kernel) 1 rfl ?_
  refine V_i2l 2 rfl (show decode M_Model_would.2.1 1 = .ok (.i2l, 1) by decide +kernel) ?_
  refine V_lconst 3 rfl (show decode M_Model_would.2.1 2 = .ok (.lconst 0, 1) by decide +kernel) (v := 0) rfl ?_
  refine V_ldc2 6 rfl (show decode M_Model_would.2.1 3 = .ok (.ldc2_w 107, 3) by decide +kernel) wd_1645 ?_
  refine V_callS (tb := tI) (as := [vL ((x1).toInt64), vL (0 : Int64), vL (9 : Int64)]) (rest := []) (na := 3) 9 rfl (s_Model_isIn ((x1).toInt64) (0 : Int64) (9 : Int64) b σ) rfl rfl (Nat.le_of_ble_eq_true rfl) (cal_Model_isIn _ _ _ _ _ (by decide) (by decide) (by decide)) (show decode M_Model_would.2.1 6 = .ok (.invokestatic 76, 3) by decide +kernel) wd_1617 wd_1618 (fun r_1 b_1 σ_1 => ?_)
  show V M_Model_would 5 0 0 0 0 tI _ 9 [(0, vR h0), (1, vI x1)] [vI r_1] b_1 σ_1
  refine V_ifeq 12 20 rfl (show decode M_Model_would.2.1 9 = .ok (.ifCond .eq 11, 3) by decide +kernel) rfl ?_ ?_
  · skip
    refine V_ldc 22 rfl (show decode M_Model_would.2.1 20 = .ok (.ldc 91, 2) by decide +kernel) wd_1620 ?_
    exact V_iret rfl (by decide) (by decide) (show decode M_Model_would.2.1 22 = .ok (.ireturn, 1) by decide +kernel)
  · skip
    refine V_aload_n 13 rfl (show decode M_Model_would.2.1 12 = .ok (.aload_n 0, 1) by decide +kernel) 0 rfl ?_
    refine V_iload_n 14 rfl (show decode M_Model_would.2.1 13 = .ok (.iload_n 1, 1) by decide +kernel) 1 rfl ?_
    refine V_callV (tb := tI) (as := [vI x1]) (rest := []) (na := 1) 17 rfl ck_Model (by decide) (s_Model_findGrant h0 x1 (b_1 && cK σ_1 h0 13) σ_1) rfl rfl (Nat.le_of_ble_eq_true rfl) (cal_Model_findGrant _ _ _ _ _ (by decide) (by decide) (by decide)) (show decode M_Model_would.2.1 14 = .ok (.invokevirtual 339, 3) by decide +kernel) wd_1963 wd_1965 wd_161 (fun r_2 b_2 σ_2 => ?_)
    show V M_Model_would 5 0 0 0 0 tI _ 17 [(0, vR h0), (1, vI x1)] [vI r_2] b_2 σ_2
    refine V_goto 22 (show decode M_Model_would.2.1 17 = .ok (.goto 5, 3) by decide +kernel) rfl ?_
    exact V_iret rfl (by decide) (by decide) (show decode M_Model_would.2.1 22 = .ok (.ireturn, 1) by decide +kernel)
theorem cal_Model_would (d mc ms k n : Nat) (h1 : 5 + 1 ≤ d) (h2 : k + 0 ≤ mc) (h3 : n + 0 ≤ ms) : Cal M_Model_would 5 0 0 1 d mc ms k n := ⟨wd_1978, wd_181, by decide, h1, by decide, h2, h3⟩
abbrev M_Model_zero : MD := (⟨"LongTrailModel", "zero", "(II)I"⟩, prog_14_method_63_code, 3, (some FieldType.int))
def f_Model_zero (h0 : Nat) (x1 : Int32) (x2 : Int32) (b : Bool) (σ : Sto) : Rs Int32 := (bd_ (f_Model_isWalker h0 x1 (b && cK σ h0 13) σ) (fun (r_1 : Int32) (b_1 : Bool) (σ_1 : Sto) => (lt_ (fun (b : Bool) (σ : Sto) => ((-1000000001 : Int32), b, σ)) (fun J20 => (if r_1 = 0 then (J20 b_1 σ_1) else (bd_ (f_Model_isIn ((x2).toInt64) (0 : Int64) (9 : Int64) b_1 σ_1) (fun (r_2 : Int32) (b_2 : Bool) (σ_2 : Sto) => (if r_2 = 0 then (J20 b_2 σ_2) else (bd_ (f_Model_walks h0 x1 (b_2 && cK σ_2 h0 13) σ_2) (fun (r_3 : Int32) (b_3 : Bool) (σ_3 : Sto) => (if r_3 = 0 then ((-1000000002 : Int32), b_3, σ_3) else (bd_ (f_Model_walkerAt h0 x1 (b_3 && cK σ_3 h0 13) σ_3) (fun (r_4 : Int32) (b_4 : Bool) (σ_4 : Sto) => (bd_ (f_Model_becomes h0 (r_4 + (9 : Int32)) x2 (b_4 && cK σ_4 h0 13) σ_4) (fun (r_5 : Int32) (b_5 : Bool) (σ_5 : Sto) => (r_5, b_5, σ_5))))))))))))))))
set_option maxRecDepth 100000 in
set_option maxHeartbeats 4000000 in
theorem s_Model_zero : ∀ (h0 : Nat) (x1 : Int32) (x2 : Int32) (b : Bool) (σ : Sto), Snd M_Model_zero 3 0 0 [vR h0, vI x1, vI x2] b σ (tI (f_Model_zero h0 x1 x2 b σ).1) (f_Model_zero h0 x1 x2 b σ).2.1 (f_Model_zero h0 x1 x2 b σ).2.2 := by
  intro h0 x1 x2 b σ
  refine Snd_of (tv := tI) (by decide) (Nat.le_of_ble_eq_true rfl) ?_
  show V M_Model_zero 3 0 0 0 0 tI (f_Model_zero h0 x1 x2 b σ) 0 [(0, vR h0), (1, vI x1), (2, vI x2)] [] b σ
  unfold f_Model_zero
  refine V_aload_n 1 rfl (show decode M_Model_zero.2.1 0 = .ok (.aload_n 0, 1) by decide +kernel) 0 rfl ?_
  refine V_iload_n 2 rfl (show decode M_Model_zero.2.1 1 = .ok (.iload_n 1, 1) by decide +kernel) 1 rfl ?_
  refine V_callV (tb := tI) (as := [vI x1]) (rest := []) (na := 1) 5 rfl ck_Model (by decide) (s_Model_isWalker h0 x1 (b && cK σ h0 13) σ) rfl rfl (Nat.le_of_ble_eq_true rfl) (cal_Model_isWalker _ _ _ _ _ (by decide) (by decide) (by decide)) (show decode M_Model_zero.2.1 2 = .ok (.invokevirtual 265, 3) by decide +kernel) wd_1837 wd_1839 wd_143 (fun r_1 b_1 σ_1 => ?_)
  show V M_Model_zero 3 0 0 0 0 tI _ 5 [(0, vR h0), (1, vI x1), (2, vI x2)] [vI r_1] b_1 σ_1
  refine V_jn (fun (J20 : Bool → Sto → Rs Int32) => ∀ (b : Bool) (σ : Sto), V M_Model_zero 3 0 0 0 0 tI (J20 b σ) 20 [] [] b σ) ?_ (fun J20 hJ20 => ?_)
  · intro b σ
    refine V_ldc 22 rfl (show decode M_Model_zero.2.1 20 = .ok (.ldc 91, 2) by decide +kernel) wd_1620 ?_
    exact V_iret rfl (by decide) (by decide) (show decode M_Model_zero.2.1 22 = .ok (.ireturn, 1) by decide +kernel)
  · skip
    refine V_ifeq 8 20 rfl (show decode M_Model_zero.2.1 5 = .ok (.ifCond .eq 15, 3) by decide +kernel) rfl ?_ ?_
    · skip
      exact V_sub [] rfl (hJ20 b_1 σ_1)
    · skip
      refine V_iload_n 9 rfl (show decode M_Model_zero.2.1 8 = .ok (.iload_n 2, 1) by decide +kernel) 2 rfl ?_
      refine V_i2l 10 rfl (show decode M_Model_zero.2.1 9 = .ok (.i2l, 1) by decide +kernel) ?_
      refine V_lconst 11 rfl (show decode M_Model_zero.2.1 10 = .ok (.lconst 0, 1) by decide +kernel) (v := 0) rfl ?_
      refine V_ldc2 14 rfl (show decode M_Model_zero.2.1 11 = .ok (.ldc2_w 107, 3) by decide +kernel) wd_1645 ?_
      refine V_callS (tb := tI) (as := [vL ((x2).toInt64), vL (0 : Int64), vL (9 : Int64)]) (rest := []) (na := 3) 17 rfl (s_Model_isIn ((x2).toInt64) (0 : Int64) (9 : Int64) b_1 σ_1) rfl rfl (Nat.le_of_ble_eq_true rfl) (cal_Model_isIn _ _ _ _ _ (by decide) (by decide) (by decide)) (show decode M_Model_zero.2.1 14 = .ok (.invokestatic 76, 3) by decide +kernel) wd_1617 wd_1618 (fun r_2 b_2 σ_2 => ?_)
      show V M_Model_zero 3 0 0 0 0 tI _ 17 [(0, vR h0), (1, vI x1), (2, vI x2)] [vI r_2] b_2 σ_2
      refine V_ifne 20 23 rfl (show decode M_Model_zero.2.1 17 = .ok (.ifCond .ne 6, 3) by decide +kernel) rfl ?_ ?_
      · skip
        exact V_sub [] rfl (hJ20 b_2 σ_2)
      · skip
        refine V_aload_n 24 rfl (show decode M_Model_zero.2.1 23 = .ok (.aload_n 0, 1) by decide +kernel) 0 rfl ?_
        refine V_iload_n 25 rfl (show decode M_Model_zero.2.1 24 = .ok (.iload_n 1, 1) by decide +kernel) 1 rfl ?_
        refine V_callV (tb := tI) (as := [vI x1]) (rest := []) (na := 1) 28 rfl ck_Model (by decide) (s_Model_walks h0 x1 (b_2 && cK σ_2 h0 13) σ_2) rfl rfl (Nat.le_of_ble_eq_true rfl) (cal_Model_walks _ _ _ _ _ (by decide) (by decide) (by decide)) (show decode M_Model_zero.2.1 25 = .ok (.invokevirtual 120, 3) by decide +kernel) wd_1669 wd_1671 wd_120 (fun r_3 b_3 σ_3 => ?_)
        show V M_Model_zero 3 0 0 0 0 tI _ 28 [(0, vR h0), (1, vI x1), (2, vI x2)] [vI r_3] b_3 σ_3
        refine V_ifeq 31 47 rfl (show decode M_Model_zero.2.1 28 = .ok (.ifCond .eq 19, 3) by decide +kernel) rfl ?_ ?_
        · skip
          refine V_ldc 49 rfl (show decode M_Model_zero.2.1 47 = .ok (.ldc 98, 2) by decide +kernel) wd_1633 ?_
          exact V_iret rfl (by decide) (by decide) (show decode M_Model_zero.2.1 49 = .ok (.ireturn, 1) by decide +kernel)
        · skip
          refine V_aload_n 32 rfl (show decode M_Model_zero.2.1 31 = .ok (.aload_n 0, 1) by decide +kernel) 0 rfl ?_
          refine V_aload_n 33 rfl (show decode M_Model_zero.2.1 32 = .ok (.aload_n 0, 1) by decide +kernel) 0 rfl ?_
          refine V_iload_n 34 rfl (show decode M_Model_zero.2.1 33 = .ok (.iload_n 1, 1) by decide +kernel) 1 rfl ?_
          refine V_callV (tb := tI) (as := [vI x1]) (rest := [vR h0]) (na := 1) 37 rfl ck_Model (by decide) (s_Model_walkerAt h0 x1 (b_3 && cK σ_3 h0 13) σ_3) rfl rfl (Nat.le_of_ble_eq_true rfl) (cal_Model_walkerAt _ _ _ _ _ (by decide) (by decide) (by decide)) (show decode M_Model_zero.2.1 34 = .ok (.invokevirtual 84, 3) by decide +kernel) wd_1673 wd_1675 wd_121 (fun r_4 b_4 σ_4 => ?_)
          show V M_Model_zero 3 0 0 0 0 tI _ 37 [(0, vR h0), (1, vI x1), (2, vI x2)] [vI r_4, vR h0] b_4 σ_4
          refine V_bipush 39 rfl (show decode M_Model_zero.2.1 37 = .ok (.bipush 9, 2) by decide +kernel) (v := 9) rfl ?_
          refine V_iadd 40 rfl (show decode M_Model_zero.2.1 39 = .ok (.iadd, 1) by decide +kernel) ?_
          refine V_iload_n 41 rfl (show decode M_Model_zero.2.1 40 = .ok (.iload_n 2, 1) by decide +kernel) 2 rfl ?_
          refine V_callV (tb := tI) (as := [vI (r_4 + (9 : Int32)), vI x2]) (rest := []) (na := 2) 44 rfl ck_Model (by decide) (s_Model_becomes h0 (r_4 + (9 : Int32)) x2 (b_4 && cK σ_4 h0 13) σ_4) rfl rfl (Nat.le_of_ble_eq_true rfl) (cal_Model_becomes _ _ _ _ _ (by decide) (by decide) (by decide)) (show decode M_Model_zero.2.1 41 = .ok (.invokevirtual 99, 3) by decide +kernel) wd_1634 wd_1636 wd_115 (fun r_5 b_5 σ_5 => ?_)
          show V M_Model_zero 3 0 0 0 0 tI _ 44 [(0, vR h0), (1, vI x1), (2, vI x2)] [vI r_5] b_5 σ_5
          refine V_goto 49 (show decode M_Model_zero.2.1 44 = .ok (.goto 5, 3) by decide +kernel) rfl ?_
          exact V_iret rfl (by decide) (by decide) (show decode M_Model_zero.2.1 49 = .ok (.ireturn, 1) by decide +kernel)
theorem cal_Model_zero (d mc ms k n : Nat) (h1 : 3 + 1 ≤ d) (h2 : k + 0 ≤ mc) (h3 : n + 0 ≤ ms) : Cal M_Model_zero 3 0 0 2 d mc ms k n := ⟨wd_1857, wd_181, by decide, h1, by decide, h2, h3⟩
