/-! methods -/
abbrev M_Trail_why : MD := (⟨"LongTrail", "why", "(II)I"⟩, prog_1_method_16_code, 4, (some FieldType.int))
def f_Trail_why (h0 : Nat) (x1 : Int32) (x2 : Int32) (b : Bool) (σ : Sto) : Rs Int32 := (bd_ (f_Trail_within x1 (0 : Int32) (3 : Int32) b σ) (fun (r_1 : Int32) (b_1 : Bool) (σ_1 : Sto) => (lt_ (fun (b : Bool) (σ : Sto) => ((-1000000001 : Int32), b, σ)) (fun J18 => (if r_1 = 0 then (J18 b_1 σ_1) else (bd_ (f_Trail_within x2 (0 : Int32) (3 : Int32) b_1 σ_1) (fun (r_2 : Int32) (b_2 : Bool) (σ_2 : Sto) => (if r_2 = 0 then (J18 b_2 σ_2) else (bd_ (f_Laws_countingText (SR σ_2 (SR σ_2 h0 0) 1) x1 x2 (SI σ_2 (SR σ_2 h0 0) 8) (((((b_2 && cK σ_2 h0 12) && cK σ_2 (SR σ_2 h0 0) 11) && cK σ_2 h0 12) && cK σ_2 (SR σ_2 h0 0) 11) && cK σ_2 (SR σ_2 (SR σ_2 h0 0) 1) 3) σ_2) (fun (r_3 : Int32) (b_3 : Bool) (σ_3 : Sto) => (lt_ r_3 (fun (x3_4 : Int32) => (if x3_4 < 0 then ((-1000000005 : Int32), b_3, σ_3) else (x3_4, b_3, σ_3))))))))))))))
set_option maxRecDepth 100000 in
set_option maxHeartbeats 4000000 in
theorem s_Trail_why : ∀ (h0 : Nat) (x1 : Int32) (x2 : Int32) (b : Bool) (σ : Sto), Snd M_Trail_why 3 0 0 [vR h0, vI x1, vI x2] b σ (tI (f_Trail_why h0 x1 x2 b σ).1) (f_Trail_why h0 x1 x2 b σ).2.1 (f_Trail_why h0 x1 x2 b σ).2.2 := by
  intro h0 x1 x2 b σ
  refine Snd_of (tv := tI) (by decide) (Nat.le_of_ble_eq_true rfl) ?_
  show V M_Trail_why 3 0 0 0 0 tI (f_Trail_why h0 x1 x2 b σ) 0 [(0, vR h0), (1, vI x1), (2, vI x2)] [] b σ
  unfold f_Trail_why
  refine V_iload_n 1 rfl (show decode M_Trail_why.2.1 0 = .ok (.iload_n 1, 1) by decide +kernel) 1 rfl ?_
  refine V_iconst 2 rfl (show decode M_Trail_why.2.1 1 = .ok (.iconst 0, 1) by decide +kernel) (v := 0) rfl ?_
  refine V_iconst 3 rfl (show decode M_Trail_why.2.1 2 = .ok (.iconst 3, 1) by decide +kernel) (v := 3) rfl ?_
  refine V_callS (tb := tI) (as := [vI x1, vI (0 : Int32), vI (3 : Int32)]) (rest := []) (na := 3) 6 rfl (s_Trail_within x1 (0 : Int32) (3 : Int32) b σ) rfl rfl (Nat.le_of_ble_eq_true rfl) (cal_Trail_within _ _ _ _ _ (by decide) (by decide) (by decide)) (show decode M_Trail_why.2.1 3 = .ok (.invokestatic 40, 3) by decide +kernel) wd_628 wd_629 (fun r_1 b_1 σ_1 => ?_)
  show V M_Trail_why 3 0 0 0 0 tI _ 6 [(0, vR h0), (1, vI x1), (2, vI x2)] [vI r_1] b_1 σ_1
  refine V_jn (fun (J18 : Bool → Sto → Rs Int32) => ∀ (b : Bool) (σ : Sto), V M_Trail_why 3 0 0 0 0 tI (J18 b σ) 18 [] [] b σ) ?_ (fun J18 hJ18 => ?_)
  · intro b σ
    refine V_ldc 20 rfl (show decode M_Trail_why.2.1 18 = .ok (.ldc 44, 2) by decide +kernel) wd_631 ?_
    exact V_iret rfl (by decide) (by decide) (show decode M_Trail_why.2.1 20 = .ok (.ireturn, 1) by decide +kernel)
  · skip
    refine V_ifeq 9 18 rfl (show decode M_Trail_why.2.1 6 = .ok (.ifCond .eq 12, 3) by decide +kernel) rfl ?_ ?_
    · skip
      exact V_sub [] rfl (hJ18 b_1 σ_1)
    · skip
      refine V_iload_n 10 rfl (show decode M_Trail_why.2.1 9 = .ok (.iload_n 2, 1) by decide +kernel) 2 rfl ?_
      refine V_iconst 11 rfl (show decode M_Trail_why.2.1 10 = .ok (.iconst 0, 1) by decide +kernel) (v := 0) rfl ?_
      refine V_iconst 12 rfl (show decode M_Trail_why.2.1 11 = .ok (.iconst 3, 1) by decide +kernel) (v := 3) rfl ?_
      refine V_callS (tb := tI) (as := [vI x2, vI (0 : Int32), vI (3 : Int32)]) (rest := []) (na := 3) 15 rfl (s_Trail_within x2 (0 : Int32) (3 : Int32) b_1 σ_1) rfl rfl (Nat.le_of_ble_eq_true rfl) (cal_Trail_within _ _ _ _ _ (by decide) (by decide) (by decide)) (show decode M_Trail_why.2.1 12 = .ok (.invokestatic 40, 3) by decide +kernel) wd_628 wd_629 (fun r_2 b_2 σ_2 => ?_)
      show V M_Trail_why 3 0 0 0 0 tI _ 15 [(0, vR h0), (1, vI x1), (2, vI x2)] [vI r_2] b_2 σ_2
      refine V_ifne 18 21 rfl (show decode M_Trail_why.2.1 15 = .ok (.ifCond .ne 6, 3) by decide +kernel) rfl ?_ ?_
      · skip
        exact V_sub [] rfl (hJ18 b_2 σ_2)
      · skip
        refine V_aload_n 22 rfl (show decode M_Trail_why.2.1 21 = .ok (.aload_n 0, 1) by decide +kernel) 0 rfl ?_
        refine V_get (j := 0) (v := vR (SR σ_2 h0 0)) 25 rfl ck_Trail (by decide) (by decide) (show decode M_Trail_why.2.1 22 = .ok (.getfield 10, 3) by decide +kernel) wd_599 rfl ?_
        refine V_getN (j := 1) (v := vR (SR σ_2 (SR σ_2 h0 0) 1)) 28 rfl ck_World (by decide) (by decide) (show decode M_Trail_why.2.1 25 = .ok (.getfield 158, 3) by decide +kernel) wd_500 rfl ?_
        refine V_iload_n 29 rfl (show decode M_Trail_why.2.1 28 = .ok (.iload_n 1, 1) by decide +kernel) 1 rfl ?_
        refine V_iload_n 30 rfl (show decode M_Trail_why.2.1 29 = .ok (.iload_n 2, 1) by decide +kernel) 2 rfl ?_
        refine V_aload_n 31 rfl (show decode M_Trail_why.2.1 30 = .ok (.aload_n 0, 1) by decide +kernel) 0 rfl ?_
        refine V_get (j := 0) (v := vR (SR σ_2 h0 0)) 34 rfl ck_Trail (by decide) (by decide) (show decode M_Trail_why.2.1 31 = .ok (.getfield 10, 3) by decide +kernel) wd_599 rfl ?_
        refine V_getN (j := 8) (v := vI (SI σ_2 (SR σ_2 h0 0) 8)) 37 rfl ck_World (by decide) (by decide) (show decode M_Trail_why.2.1 34 = .ok (.getfield 138, 3) by decide +kernel) wd_514 rfl ?_
        refine V_callVN (tb := tI) (as := [vI x1, vI x2, vI (SI σ_2 (SR σ_2 h0 0) 8)]) (rest := []) (na := 3) 40 rfl ck_Laws (by decide) (s_Laws_countingText (SR σ_2 (SR σ_2 h0 0) 1) x1 x2 (SI σ_2 (SR σ_2 h0 0) 8) (((((b_2 && cK σ_2 h0 12) && cK σ_2 (SR σ_2 h0 0) 11) && cK σ_2 h0 12) && cK σ_2 (SR σ_2 h0 0) 11) && cK σ_2 (SR σ_2 (SR σ_2 h0 0) 1) 3) σ_2) rfl rfl (Nat.le_of_ble_eq_true rfl) (cal_Laws_countingText _ _ _ _ _ (by decide) (by decide) (by decide)) (show decode M_Trail_why.2.1 37 = .ok (.invokevirtual 189, 3) by decide +kernel) wd_1000 wd_1002 wd_33 (fun r_3 b_3 σ_3 => ?_)
        show V M_Trail_why 3 0 0 0 0 tI _ 40 [(0, vR h0), (1, vI x1), (2, vI x2)] [vI r_3] b_3 σ_3
        refine V_istore_n (fun x3_4 => [(3, vI x3_4), (0, vR h0), (1, vI x1), (2, vI x2)]) 41 rfl (show decode M_Trail_why.2.1 40 = .ok (.istore_n 3, 1) by decide +kernel) (by decide) (fun _ => rfl) (fun x3_4 => ?_)
        refine V_iload_n 42 rfl (show decode M_Trail_why.2.1 41 = .ok (.iload_n 3, 1) by decide +kernel) 0 rfl ?_
        refine V_ifge 45 50 rfl (show decode M_Trail_why.2.1 42 = .ok (.ifCond .ge 8, 3) by decide +kernel) rfl ?_ ?_
        · skip
          refine V_ldc 47 rfl (show decode M_Trail_why.2.1 45 = .ok (.ldc 123, 2) by decide +kernel) wd_706 ?_
          refine V_goto 51 (show decode M_Trail_why.2.1 47 = .ok (.goto 4, 3) by decide +kernel) rfl ?_
          exact V_iret rfl (by decide) (by decide) (show decode M_Trail_why.2.1 51 = .ok (.ireturn, 1) by decide +kernel)
        · skip
          refine V_iload_n 51 rfl (show decode M_Trail_why.2.1 50 = .ok (.iload_n 3, 1) by decide +kernel) 0 rfl ?_
          exact V_iret rfl (by decide) (by decide) (show decode M_Trail_why.2.1 51 = .ok (.ireturn, 1) by decide +kernel)
theorem cal_Trail_why (d mc ms k n : Nat) (h1 : 3 + 1 ≤ d) (h2 : k + 0 ≤ mc) (h3 : n + 0 ≤ ms) : Cal M_Trail_why 3 0 0 2 d mc ms k n := ⟨wd_999, wd_170, by decide, h1, by decide, h2, h3⟩
abbrev M_Permits_addWish : MD := (⟨"LongTrail$Permits", "addWish", "(II)I"⟩, prog_5_method_4_code, 3, (some FieldType.int))
def f_Permits_addWish (h0 : Nat) (x1 : Int32) (x2 : Int32) (b : Bool) (σ : Sto) : Rs Int32 := (lt_ (pI σ (SR σ h0 1) (ix (SI σ h0 3)) x1) (fun (σ_1 : Sto) => (lt_ (pI σ_1 (SR σ_1 h0 2) (ix (SI σ_1 h0 3)) x2) (fun (σ_2 : Sto) => (lt_ (pI σ_2 h0 3 ((SI σ_2 h0 3) + (1 : Int32))) (fun (σ_3 : Sto) => (((SI σ_3 h0 3) - (1 : Int32)), (((((((((b && cK σ h0 4) && cK σ h0 4) && cA σ (SR σ h0 1) 21 (SI σ h0 3)) && cK σ_1 h0 4) && cK σ_1 h0 4) && cA σ_1 (SR σ_1 h0 2) 21 (SI σ_1 h0 3)) && cK σ_2 h0 4) && cK σ_2 h0 4) && cK σ_3 h0 4), σ_3)))))))
set_option maxRecDepth 100000 in
set_option maxHeartbeats 4000000 in
theorem s_Permits_addWish : ∀ (h0 : Nat) (x1 : Int32) (x2 : Int32) (b : Bool) (σ : Sto), Snd M_Permits_addWish 1 0 0 [vR h0, vI x1, vI x2] b σ (tI (f_Permits_addWish h0 x1 x2 b σ).1) (f_Permits_addWish h0 x1 x2 b σ).2.1 (f_Permits_addWish h0 x1 x2 b σ).2.2 := by
  intro h0 x1 x2 b σ
  refine Snd_of (tv := tI) (by decide) (Nat.le_of_ble_eq_true rfl) ?_
  show V M_Permits_addWish 1 0 0 0 0 tI (f_Permits_addWish h0 x1 x2 b σ) 0 [(0, vR h0), (1, vI x1), (2, vI x2)] [] b σ
  unfold f_Permits_addWish
  refine V_aload_n 1 rfl (show decode M_Permits_addWish.2.1 0 = .ok (.aload_n 0, 1) by decide +kernel) 0 rfl ?_
  refine V_get (j := 1) (v := vR (SR σ h0 1)) 4 rfl ck_Permits (by decide) (by decide) (show decode M_Permits_addWish.2.1 1 = .ok (.getfield 15, 3) by decide +kernel) wd_330 rfl ?_
  refine V_aload_n 5 rfl (show decode M_Permits_addWish.2.1 4 = .ok (.aload_n 0, 1) by decide +kernel) 0 rfl ?_
  refine V_get (j := 3) (v := vI (SI σ h0 3)) 8 rfl ck_Permits (by decide) (by decide) (show decode M_Permits_addWish.2.1 5 = .ok (.getfield 36, 3) by decide +kernel) wd_332 rfl ?_
  refine V_iload_n 9 rfl (show decode M_Permits_addWish.2.1 8 = .ok (.iload_n 1, 1) by decide +kernel) 1 rfl ?_
  refine V_ast_int 10 rfl (show decode M_Permits_addWish.2.1 9 = .ok (.iastore, 1) by decide +kernel) (fun σ_1 => ?_)
  refine V_aload_n 11 rfl (show decode M_Permits_addWish.2.1 10 = .ok (.aload_n 0, 1) by decide +kernel) 0 rfl ?_
  refine V_get (j := 2) (v := vR (SR σ_1 h0 2)) 14 rfl ck_Permits (by decide) (by decide) (show decode M_Permits_addWish.2.1 11 = .ok (.getfield 18, 3) by decide +kernel) wd_331 rfl ?_
  refine V_aload_n 15 rfl (show decode M_Permits_addWish.2.1 14 = .ok (.aload_n 0, 1) by decide +kernel) 0 rfl ?_
  refine V_get (j := 3) (v := vI (SI σ_1 h0 3)) 18 rfl ck_Permits (by decide) (by decide) (show decode M_Permits_addWish.2.1 15 = .ok (.getfield 36, 3) by decide +kernel) wd_332 rfl ?_
  refine V_iload_n 19 rfl (show decode M_Permits_addWish.2.1 18 = .ok (.iload_n 2, 1) by decide +kernel) 2 rfl ?_
  refine V_ast_int 20 rfl (show decode M_Permits_addWish.2.1 19 = .ok (.iastore, 1) by decide +kernel) (fun σ_2 => ?_)
  refine V_aload_n 21 rfl (show decode M_Permits_addWish.2.1 20 = .ok (.aload_n 0, 1) by decide +kernel) 0 rfl ?_
  refine V_dup 22 rfl (show decode M_Permits_addWish.2.1 21 = .ok (.dup, 1) by decide +kernel) rfl ?_
  refine V_get (j := 3) (v := vI (SI σ_2 h0 3)) 25 rfl ck_Permits (by decide) (by decide) (show decode M_Permits_addWish.2.1 22 = .ok (.getfield 36, 3) by decide +kernel) wd_332 rfl ?_
  refine V_iconst 26 rfl (show decode M_Permits_addWish.2.1 25 = .ok (.iconst 1, 1) by decide +kernel) (v := 1) rfl ?_
  refine V_iadd 27 rfl (show decode M_Permits_addWish.2.1 26 = .ok (.iadd, 1) by decide +kernel) ?_
  refine V_putI (j := 3) 30 rfl ck_Permits (by decide) (by decide) (show decode M_Permits_addWish.2.1 27 = .ok (.putfield 36, 3) by decide +kernel) wd_332 rfl (fun _ => rfl) rfl rfl (fun σ_3 => ?_)
  refine V_aload_n 31 rfl (show decode M_Permits_addWish.2.1 30 = .ok (.aload_n 0, 1) by decide +kernel) 0 rfl ?_
  refine V_get (j := 3) (v := vI (SI σ_3 h0 3)) 34 rfl ck_Permits (by decide) (by decide) (show decode M_Permits_addWish.2.1 31 = .ok (.getfield 36, 3) by decide +kernel) wd_332 rfl ?_
  refine V_iconst 35 rfl (show decode M_Permits_addWish.2.1 34 = .ok (.iconst 1, 1) by decide +kernel) (v := 1) rfl ?_
  refine V_isub 36 rfl (show decode M_Permits_addWish.2.1 35 = .ok (.isub, 1) by decide +kernel) ?_
  exact V_iret rfl (by decide) (by decide) (show decode M_Permits_addWish.2.1 36 = .ok (.ireturn, 1) by decide +kernel)
theorem cal_Permits_addWish (d mc ms k n : Nat) (h1 : 1 + 1 ≤ d) (h2 : k + 0 ≤ mc) (h3 : n + 0 ≤ ms) : Cal M_Permits_addWish 1 0 0 2 d mc ms k n := ⟨wd_1266, wd_175, by decide, h1, by decide, h2, h3⟩
abbrev M_Trail_wish : MD := (⟨"LongTrail", "wish", "(II)I"⟩, prog_1_method_28_code, 3, (some FieldType.int))
def f_Trail_wish (h0 : Nat) (x1 : Int32) (x2 : Int32) (b : Bool) (σ : Sto) : Rs Int32 := (bd_ (f_Trail_within x1 (0 : Int32) (999 : Int32) b σ) (fun (r_1 : Int32) (b_1 : Bool) (σ_1 : Sto) => (lt_ (fun (b : Bool) (σ : Sto) => ((-1000000001 : Int32), b, σ)) (fun J21 => (if r_1 = 0 then (J21 b_1 σ_1) else (bd_ (f_Trail_within x2 (0 : Int32) (9 : Int32) b_1 σ_1) (fun (r_2 : Int32) (b_2 : Bool) (σ_2 : Sto) => (if r_2 = 0 then (J21 b_2 σ_2) else (if (SI σ_2 (SR σ_2 (SR σ_2 h0 0) 3) 3) < (16 : Int32) then (bd_ (f_Permits_addWish (SR σ_2 (SR σ_2 h0 0) 3) x1 x2 ((((((b_2 && cK σ_2 h0 12) && cK σ_2 (SR σ_2 h0 0) 11) && cK σ_2 (SR σ_2 (SR σ_2 h0 0) 3) 4) && cK σ_2 h0 12) && cK σ_2 (SR σ_2 h0 0) 11) && cK σ_2 (SR σ_2 (SR σ_2 h0 0) 3) 4) σ_2) (fun (r_3 : Int32) (b_3 : Bool) (σ_3 : Sto) => (r_3, b_3, σ_3))) else ((-1000000003 : Int32), (((b_2 && cK σ_2 h0 12) && cK σ_2 (SR σ_2 h0 0) 11) && cK σ_2 (SR σ_2 (SR σ_2 h0 0) 3) 4), σ_2))))))))))
set_option maxRecDepth 100000 in
set_option maxHeartbeats 4000000 in
theorem s_Trail_wish : ∀ (h0 : Nat) (x1 : Int32) (x2 : Int32) (b : Bool) (σ : Sto), Snd M_Trail_wish 2 0 0 [vR h0, vI x1, vI x2] b σ (tI (f_Trail_wish h0 x1 x2 b σ).1) (f_Trail_wish h0 x1 x2 b σ).2.1 (f_Trail_wish h0 x1 x2 b σ).2.2 := by
  intro h0 x1 x2 b σ
  refine Snd_of (tv := tI) (by decide) (Nat.le_of_ble_eq_true rfl) ?_
  show V M_Trail_wish 2 0 0 0 0 tI (f_Trail_wish h0 x1 x2 b σ) 0 [(0, vR h0), (1, vI x1), (2, vI x2)] [] b σ
  unfold f_Trail_wish
  refine V_iload_n 1 rfl (show decode M_Trail_wish.2.1 0 = .ok (.iload_n 1, 1) by decide +kernel) 1 rfl ?_
  refine V_iconst 2 rfl (show decode M_Trail_wish.2.1 1 = .ok (.iconst 0, 1) by decide +kernel) (v := 0) rfl ?_
  refine V_sipush 5 rfl (show decode M_Trail_wish.2.1 2 = .ok (.sipush 999, 3) by decide +kernel) (v := 999) rfl ?_
  refine V_callS (tb := tI) (as := [vI x1, vI (0 : Int32), vI (999 : Int32)]) (rest := []) (na := 3) 8 rfl (s_Trail_within x1 (0 : Int32) (999 : Int32) b σ) rfl rfl (Nat.le_of_ble_eq_true rfl) (cal_Trail_within _ _ _ _ _ (by decide) (by decide) (by decide)) (show decode M_Trail_wish.2.1 5 = .ok (.invokestatic 40, 3) by decide +kernel) wd_628 wd_629 (fun r_1 b_1 σ_1 => ?_)
  show V M_Trail_wish 2 0 0 0 0 tI _ 8 [(0, vR h0), (1, vI x1), (2, vI x2)] [vI r_1] b_1 σ_1
  refine V_jn (fun (J21 : Bool → Sto → Rs Int32) => ∀ (b : Bool) (σ : Sto), V M_Trail_wish 2 0 0 0 0 tI (J21 b σ) 21 [] [] b σ) ?_ (fun J21 hJ21 => ?_)
  · intro b σ
    refine V_ldc 23 rfl (show decode M_Trail_wish.2.1 21 = .ok (.ldc 44, 2) by decide +kernel) wd_631 ?_
    exact V_iret rfl (by decide) (by decide) (show decode M_Trail_wish.2.1 23 = .ok (.ireturn, 1) by decide +kernel)
  · skip
    refine V_ifeq 11 21 rfl (show decode M_Trail_wish.2.1 8 = .ok (.ifCond .eq 13, 3) by decide +kernel) rfl ?_ ?_
    · skip
      exact V_sub [] rfl (hJ21 b_1 σ_1)
    · skip
      refine V_iload_n 12 rfl (show decode M_Trail_wish.2.1 11 = .ok (.iload_n 2, 1) by decide +kernel) 2 rfl ?_
      refine V_iconst 13 rfl (show decode M_Trail_wish.2.1 12 = .ok (.iconst 0, 1) by decide +kernel) (v := 0) rfl ?_
      refine V_bipush 15 rfl (show decode M_Trail_wish.2.1 13 = .ok (.bipush 9, 2) by decide +kernel) (v := 9) rfl ?_
      refine V_callS (tb := tI) (as := [vI x2, vI (0 : Int32), vI (9 : Int32)]) (rest := []) (na := 3) 18 rfl (s_Trail_within x2 (0 : Int32) (9 : Int32) b_1 σ_1) rfl rfl (Nat.le_of_ble_eq_true rfl) (cal_Trail_within _ _ _ _ _ (by decide) (by decide) (by decide)) (show decode M_Trail_wish.2.1 15 = .ok (.invokestatic 40, 3) by decide +kernel) wd_628 wd_629 (fun r_2 b_2 σ_2 => ?_)
      show V M_Trail_wish 2 0 0 0 0 tI _ 18 [(0, vR h0), (1, vI x1), (2, vI x2)] [vI r_2] b_2 σ_2
      refine V_ifne 21 24 rfl (show decode M_Trail_wish.2.1 18 = .ok (.ifCond .ne 6, 3) by decide +kernel) rfl ?_ ?_
      · skip
        exact V_sub [] rfl (hJ21 b_2 σ_2)
      · skip
        refine V_aload_n 25 rfl (show decode M_Trail_wish.2.1 24 = .ok (.aload_n 0, 1) by decide +kernel) 0 rfl ?_
        refine V_get (j := 0) (v := vR (SR σ_2 h0 0)) 28 rfl ck_Trail (by decide) (by decide) (show decode M_Trail_wish.2.1 25 = .ok (.getfield 10, 3) by decide +kernel) wd_599 rfl ?_
        refine V_getN (j := 3) (v := vR (SR σ_2 (SR σ_2 h0 0) 3)) 31 rfl ck_World (by decide) (by decide) (show decode M_Trail_wish.2.1 28 = .ok (.getfield 271, 3) by decide +kernel) wd_504 rfl ?_
        refine V_getN (j := 3) (v := vI (SI σ_2 (SR σ_2 (SR σ_2 h0 0) 3) 3)) 34 rfl ck_Permits (by decide) (by decide) (show decode M_Trail_wish.2.1 31 = .ok (.getfield 280, 3) by decide +kernel) wd_333 rfl ?_
        refine V_bipush 36 rfl (show decode M_Trail_wish.2.1 34 = .ok (.bipush 16, 2) by decide +kernel) (v := 16) rfl ?_
        refine V_icmplt 39 42 rfl (show decode M_Trail_wish.2.1 36 = .ok (.if_icmp .lt 6, 3) by decide +kernel) rfl ?_ ?_
        · skip
          refine V_aload_n 43 rfl (show decode M_Trail_wish.2.1 42 = .ok (.aload_n 0, 1) by decide +kernel) 0 rfl ?_
          refine V_get (j := 0) (v := vR (SR σ_2 h0 0)) 46 rfl ck_Trail (by decide) (by decide) (show decode M_Trail_wish.2.1 43 = .ok (.getfield 10, 3) by decide +kernel) wd_599 rfl ?_
          refine V_getN (j := 3) (v := vR (SR σ_2 (SR σ_2 h0 0) 3)) 49 rfl ck_World (by decide) (by decide) (show decode M_Trail_wish.2.1 46 = .ok (.getfield 271, 3) by decide +kernel) wd_504 rfl ?_
          refine V_iload_n 50 rfl (show decode M_Trail_wish.2.1 49 = .ok (.iload_n 1, 1) by decide +kernel) 1 rfl ?_
          refine V_iload_n 51 rfl (show decode M_Trail_wish.2.1 50 = .ok (.iload_n 2, 1) by decide +kernel) 2 rfl ?_
          refine V_callVN (tb := tI) (as := [vI x1, vI x2]) (rest := []) (na := 2) 54 rfl ck_Permits (by decide) (s_Permits_addWish (SR σ_2 (SR σ_2 h0 0) 3) x1 x2 ((((((b_2 && cK σ_2 h0 12) && cK σ_2 (SR σ_2 h0 0) 11) && cK σ_2 (SR σ_2 (SR σ_2 h0 0) 3) 4) && cK σ_2 h0 12) && cK σ_2 (SR σ_2 h0 0) 11) && cK σ_2 (SR σ_2 (SR σ_2 h0 0) 3) 4) σ_2) rfl rfl (Nat.le_of_ble_eq_true rfl) (cal_Permits_addWish _ _ _ _ _ (by decide) (by decide) (by decide)) (show decode M_Trail_wish.2.1 51 = .ok (.invokevirtual 281, 3) by decide +kernel) wd_1263 wd_1265 wd_80 (fun r_3 b_3 σ_3 => ?_)
          show V M_Trail_wish 2 0 0 0 0 tI _ 54 [(0, vR h0), (1, vI x1), (2, vI x2)] [vI r_3] b_3 σ_3
          exact V_iret rfl (by decide) (by decide) (show decode M_Trail_wish.2.1 54 = .ok (.ireturn, 1) by decide +kernel)
        · skip
          refine V_ldc 41 rfl (show decode M_Trail_wish.2.1 39 = .ok (.ldc 84, 2) by decide +kernel) wd_657 ?_
          exact V_iret rfl (by decide) (by decide) (show decode M_Trail_wish.2.1 41 = .ok (.ireturn, 1) by decide +kernel)
theorem cal_Trail_wish (d mc ms k n : Nat) (h1 : 2 + 1 ≤ d) (h2 : k + 0 ≤ mc) (h3 : n + 0 ≤ ms) : Cal M_Trail_wish 2 0 0 2 d mc ms k n := ⟨wd_1262, wd_170, by decide, h1, by decide, h2, h3⟩
abbrev M_Trail_would : MD := (⟨"LongTrail", "would", "(I)I"⟩, prog_1_method_30_code, 2, (some FieldType.int))
def f_Trail_would (h0 : Nat) (x1 : Int32) (b : Bool) (σ : Sto) : Rs Int32 := (bd_ (f_Trail_within x1 (0 : Int32) (9 : Int32) b σ) (fun (r_1 : Int32) (b_1 : Bool) (σ_1 : Sto) => (if r_1 = 0 then ((-1000000001 : Int32), b_1, σ_1) else (bd_ (f_Permits_drawUp (SR σ_1 (SR σ_1 h0 0) 3) (SR σ_1 (SR σ_1 h0 0) 1) (SI σ_1 (SR σ_1 h0 0) 8) (((((((b_1 && cK σ_1 h0 12) && cK σ_1 (SR σ_1 h0 0) 11) && cK σ_1 h0 12) && cK σ_1 (SR σ_1 h0 0) 11) && cK σ_1 h0 12) && cK σ_1 (SR σ_1 h0 0) 11) && cK σ_1 (SR σ_1 (SR σ_1 h0 0) 3) 4) σ_1) (fun (r_2 : Unit) (b_2 : Bool) (σ_2 : Sto) => (bd_ (f_Permits_grantAll (SR σ_2 (SR σ_2 h0 0) 3) x1 (((b_2 && cK σ_2 h0 12) && cK σ_2 (SR σ_2 h0 0) 11) && cK σ_2 (SR σ_2 (SR σ_2 h0 0) 3) 4) σ_2) (fun (r_3 : Int32) (b_3 : Bool) (σ_3 : Sto) => (r_3, b_3, σ_3))))))))
set_option maxRecDepth 100000 in
set_option maxHeartbeats 4000000 in
theorem s_Trail_would : ∀ (h0 : Nat) (x1 : Int32) (b : Bool) (σ : Sto), Snd M_Trail_would 5 0 0 [vR h0, vI x1] b σ (tI (f_Trail_would h0 x1 b σ).1) (f_Trail_would h0 x1 b σ).2.1 (f_Trail_would h0 x1 b σ).2.2 := by
  intro h0 x1 b σ
  refine Snd_of (tv := tI) (by decide) (Nat.le_of_ble_eq_true rfl) ?_
  show V M_Trail_would 5 0 0 0 0 tI (f_Trail_would h0 x1 b σ) 0 [(0, vR h0), (1, vI x1)] [] b σ
  unfold f_Trail_would
  refine V_iload_n 1 rfl (show decode M_Trail_would.2.1 0 = .ok (.iload_n 1, 1) by decide +kernel) 1 rfl ?_
  refine V_iconst 2 rfl (show decode M_Trail_would.2.1 1 = .ok (.iconst 0, 1) by decide +kernel) (v := 0) rfl ?_
  refine V_bipush 4 rfl (show decode M_Trail_would.2.1 2 = .ok (.bipush 9, 2) by decide +kernel) (v := 9) rfl ?_
  refine V_callS (tb := tI) (as := [vI x1, vI (0 : Int32), vI (9 : Int32)]) (rest := []) (na := 3) 7 rfl (s_Trail_within x1 (0 : Int32) (9 : Int32) b σ) rfl rfl (Nat.le_of_ble_eq_true rfl) (cal_Trail_within _ _ _ _ _ (by decide) (by decide) (by decide)) (show decode M_Trail_would.2.1 4 = .ok (.invokestatic 40, 3) by decide +kernel) wd_628 wd_629 (fun r_1 b_1 σ_1 => ?_)
  show V M_Trail_would 5 0 0 0 0 tI _ 7 [(0, vR h0), (1, vI x1)] [vI r_1] b_1 σ_1
  refine V_ifne 10 13 rfl (show decode M_Trail_would.2.1 7 = .ok (.ifCond .ne 6, 3) by decide +kernel) rfl ?_ ?_
  · skip
    refine V_ldc 12 rfl (show decode M_Trail_would.2.1 10 = .ok (.ldc 44, 2) by decide +kernel) wd_631 ?_
    exact V_iret rfl (by decide) (by decide) (show decode M_Trail_would.2.1 12 = .ok (.ireturn, 1) by decide +kernel)
  · skip
    refine V_aload_n 14 rfl (show decode M_Trail_would.2.1 13 = .ok (.aload_n 0, 1) by decide +kernel) 0 rfl ?_
    refine V_get (j := 0) (v := vR (SR σ_1 h0 0)) 17 rfl ck_Trail (by decide) (by decide) (show decode M_Trail_would.2.1 14 = .ok (.getfield 10, 3) by decide +kernel) wd_599 rfl ?_
    refine V_getN (j := 3) (v := vR (SR σ_1 (SR σ_1 h0 0) 3)) 20 rfl ck_World (by decide) (by decide) (show decode M_Trail_would.2.1 17 = .ok (.getfield 271, 3) by decide +kernel) wd_504 rfl ?_
    refine V_aload_n 21 rfl (show decode M_Trail_would.2.1 20 = .ok (.aload_n 0, 1) by decide +kernel) 0 rfl ?_
    refine V_get (j := 0) (v := vR (SR σ_1 h0 0)) 24 rfl ck_Trail (by decide) (by decide) (show decode M_Trail_would.2.1 21 = .ok (.getfield 10, 3) by decide +kernel) wd_599 rfl ?_
    refine V_getN (j := 1) (v := vR (SR σ_1 (SR σ_1 h0 0) 1)) 27 rfl ck_World (by decide) (by decide) (show decode M_Trail_would.2.1 24 = .ok (.getfield 158, 3) by decide +kernel) wd_500 rfl ?_
    refine V_aload_n 28 rfl (show decode M_Trail_would.2.1 27 = .ok (.aload_n 0, 1) by decide +kernel) 0 rfl ?_
    refine V_get (j := 0) (v := vR (SR σ_1 h0 0)) 31 rfl ck_Trail (by decide) (by decide) (show decode M_Trail_would.2.1 28 = .ok (.getfield 10, 3) by decide +kernel) wd_599 rfl ?_
    refine V_getN (j := 8) (v := vI (SI σ_1 (SR σ_1 h0 0) 8)) 34 rfl ck_World (by decide) (by decide) (show decode M_Trail_would.2.1 31 = .ok (.getfield 138, 3) by decide +kernel) wd_514 rfl ?_
    refine V_callVN (tb := tU) (as := [vR (SR σ_1 (SR σ_1 h0 0) 1), vI (SI σ_1 (SR σ_1 h0 0) 8)]) (rest := []) (na := 2) 37 rfl ck_Permits (by decide) (s_Permits_drawUp (SR σ_1 (SR σ_1 h0 0) 3) (SR σ_1 (SR σ_1 h0 0) 1) (SI σ_1 (SR σ_1 h0 0) 8) (((((((b_1 && cK σ_1 h0 12) && cK σ_1 (SR σ_1 h0 0) 11) && cK σ_1 h0 12) && cK σ_1 (SR σ_1 h0 0) 11) && cK σ_1 h0 12) && cK σ_1 (SR σ_1 h0 0) 11) && cK σ_1 (SR σ_1 (SR σ_1 h0 0) 3) 4) σ_1) rfl rfl (Nat.le_of_ble_eq_true rfl) (cal_Permits_drawUp _ _ _ _ _ (by decide) (by decide) (by decide)) (show decode M_Trail_would.2.1 34 = .ok (.invokevirtual 287, 3) by decide +kernel) wd_1276 wd_1278 wd_82 (fun r_2 b_2 σ_2 => ?_)
    show V M_Trail_would 5 0 0 0 0 tI _ 37 [(0, vR h0), (1, vI x1)] [] b_2 σ_2
    refine V_aload_n 38 rfl (show decode M_Trail_would.2.1 37 = .ok (.aload_n 0, 1) by decide +kernel) 0 rfl ?_
    refine V_get (j := 0) (v := vR (SR σ_2 h0 0)) 41 rfl ck_Trail (by decide) (by decide) (show decode M_Trail_would.2.1 38 = .ok (.getfield 10, 3) by decide +kernel) wd_599 rfl ?_
    refine V_getN (j := 3) (v := vR (SR σ_2 (SR σ_2 h0 0) 3)) 44 rfl ck_World (by decide) (by decide) (show decode M_Trail_would.2.1 41 = .ok (.getfield 271, 3) by decide +kernel) wd_504 rfl ?_
    refine V_iload_n 45 rfl (show decode M_Trail_would.2.1 44 = .ok (.iload_n 1, 1) by decide +kernel) 1 rfl ?_
    refine V_callVN (tb := tI) (as := [vI x1]) (rest := []) (na := 1) 48 rfl ck_Permits (by decide) (s_Permits_grantAll (SR σ_2 (SR σ_2 h0 0) 3) x1 (((b_2 && cK σ_2 h0 12) && cK σ_2 (SR σ_2 h0 0) 11) && cK σ_2 (SR σ_2 (SR σ_2 h0 0) 3) 4) σ_2) rfl rfl (Nat.le_of_ble_eq_true rfl) (cal_Permits_grantAll _ _ _ _ _ (by decide) (by decide) (by decide)) (show decode M_Trail_would.2.1 45 = .ok (.invokevirtual 291, 3) by decide +kernel) wd_1286 wd_1288 wd_84 (fun r_3 b_3 σ_3 => ?_)
    show V M_Trail_would 5 0 0 0 0 tI _ 48 [(0, vR h0), (1, vI x1)] [vI r_3] b_3 σ_3
    exact V_iret rfl (by decide) (by decide) (show decode M_Trail_would.2.1 48 = .ok (.ireturn, 1) by decide +kernel)
theorem cal_Trail_would (d mc ms k n : Nat) (h1 : 5 + 1 ≤ d) (h2 : k + 0 ≤ mc) (h3 : n + 0 ≤ ms) : Cal M_Trail_would 5 0 0 1 d mc ms k n := ⟨wd_1305, wd_170, by decide, h1, by decide, h2, h3⟩
abbrev M_Trail_zero : MD := (⟨"LongTrail", "zero", "(II)I"⟩, prog_1_method_20_code, 5, (some FieldType.int))
def f_Trail_zero (h0 : Nat) (x1 : Int32) (x2 : Int32) (b : Bool) (σ : Sto) : Rs Int32 := (bd_ (f_World_hasWalker (SR σ h0 0) x1 ((b && cK σ h0 12) && cK σ (SR σ h0 0) 11) σ) (fun (r_1 : Int32) (b_1 : Bool) (σ_1 : Sto) => (lt_ (fun (b : Bool) (σ : Sto) => ((-1000000001 : Int32), b, σ)) (fun J21 => (if r_1 = 0 then (J21 b_1 σ_1) else (bd_ (f_Trail_within x2 (0 : Int32) (9 : Int32) b_1 σ_1) (fun (r_2 : Int32) (b_2 : Bool) (σ_2 : Sto) => (if r_2 = 0 then (J21 b_2 σ_2) else (lt_ (SR σ_2 (SR σ_2 (SR σ_2 h0 0) 6) (ix x1)) (fun (h3_3 : Nat) => (if (SI σ_2 h3_3 5) = (1 : Int32) then (lt_ (SI σ_2 h3_3 13) (fun (x4_4 : Int32) => (lt_ (pI σ_2 h3_3 13 x2) (fun (σ_5 : Sto) => (x4_4, ((((((b_2 && cK σ_2 h0 12) && cK σ_2 (SR σ_2 h0 0) 11) && cA σ_2 (SR σ_2 (SR σ_2 h0 0) 6) 26 x1) && cK σ_2 h3_3 10) && cK σ_2 h3_3 10) && cK σ_2 h3_3 10), σ_5))))) else ((-1000000002 : Int32), ((((b_2 && cK σ_2 h0 12) && cK σ_2 (SR σ_2 h0 0) 11) && cA σ_2 (SR σ_2 (SR σ_2 h0 0) 6) 26 x1) && cK σ_2 h3_3 10), σ_2))))))))))))
set_option maxRecDepth 100000 in
set_option maxHeartbeats 4000000 in
theorem s_Trail_zero : ∀ (h0 : Nat) (x1 : Int32) (x2 : Int32) (b : Bool) (σ : Sto), Snd M_Trail_zero 3 0 0 [vR h0, vI x1, vI x2] b σ (tI (f_Trail_zero h0 x1 x2 b σ).1) (f_Trail_zero h0 x1 x2 b σ).2.1 (f_Trail_zero h0 x1 x2 b σ).2.2 := by
  intro h0 x1 x2 b σ
  refine Snd_of (tv := tI) (by decide) (Nat.le_of_ble_eq_true rfl) ?_
  show V M_Trail_zero 3 0 0 0 0 tI (f_Trail_zero h0 x1 x2 b σ) 0 [(0, vR h0), (1, vI x1), (2, vI x2)] [] b σ
  unfold f_Trail_zero
  refine V_aload_n 1 rfl (show decode M_Trail_zero.2.1 0 = .ok (.aload_n 0, 1) by decide +kernel) 0 rfl ?_
  refine V_get (j := 0) (v := vR (SR σ h0 0)) 4 rfl ck_Trail (by decide) (by decide) (show decode M_Trail_zero.2.1 1 = .ok (.getfield 10, 3) by decide +kernel) wd_599 rfl ?_
  refine V_iload_n 5 rfl (show decode M_Trail_zero.2.1 4 = .ok (.iload_n 1, 1) by decide +kernel) 1 rfl ?_
  refine V_callVN (tb := tI) (as := [vI x1]) (rest := []) (na := 1) 8 rfl ck_World (by decide) (s_World_hasWalker (SR σ h0 0) x1 ((b && cK σ h0 12) && cK σ (SR σ h0 0) 11) σ) rfl rfl (Nat.le_of_ble_eq_true rfl) (cal_World_hasWalker _ _ _ _ _ (by decide) (by decide) (by decide)) (show decode M_Trail_zero.2.1 5 = .ok (.invokevirtual 202, 3) by decide +kernel) wd_1016 wd_1018 wd_35 (fun r_1 b_1 σ_1 => ?_)
  show V M_Trail_zero 3 0 0 0 0 tI _ 8 [(0, vR h0), (1, vI x1), (2, vI x2)] [vI r_1] b_1 σ_1
  refine V_jn (fun (J21 : Bool → Sto → Rs Int32) => ∀ (b : Bool) (σ : Sto), V M_Trail_zero 3 0 0 0 0 tI (J21 b σ) 21 [] [] b σ) ?_ (fun J21 hJ21 => ?_)
  · intro b σ
    refine V_ldc 23 rfl (show decode M_Trail_zero.2.1 21 = .ok (.ldc 44, 2) by decide +kernel) wd_631 ?_
    exact V_iret rfl (by decide) (by decide) (show decode M_Trail_zero.2.1 23 = .ok (.ireturn, 1) by decide +kernel)
  · skip
    refine V_ifeq 11 21 rfl (show decode M_Trail_zero.2.1 8 = .ok (.ifCond .eq 13, 3) by decide +kernel) rfl ?_ ?_
    · skip
      exact V_sub [] rfl (hJ21 b_1 σ_1)
    · skip
      refine V_iload_n 12 rfl (show decode M_Trail_zero.2.1 11 = .ok (.iload_n 2, 1) by decide +kernel) 2 rfl ?_
      refine V_iconst 13 rfl (show decode M_Trail_zero.2.1 12 = .ok (.iconst 0, 1) by decide +kernel) (v := 0) rfl ?_
      refine V_bipush 15 rfl (show decode M_Trail_zero.2.1 13 = .ok (.bipush 9, 2) by decide +kernel) (v := 9) rfl ?_
      refine V_callS (tb := tI) (as := [vI x2, vI (0 : Int32), vI (9 : Int32)]) (rest := []) (na := 3) 18 rfl (s_Trail_within x2 (0 : Int32) (9 : Int32) b_1 σ_1) rfl rfl (Nat.le_of_ble_eq_true rfl) (cal_Trail_within _ _ _ _ _ (by decide) (by decide) (by decide)) (show decode M_Trail_zero.2.1 15 = .ok (.invokestatic 40, 3) by decide +kernel) wd_628 wd_629 (fun r_2 b_2 σ_2 => ?_)
      show V M_Trail_zero 3 0 0 0 0 tI _ 18 [(0, vR h0), (1, vI x1), (2, vI x2)] [vI r_2] b_2 σ_2
      refine V_ifne 21 24 rfl (show decode M_Trail_zero.2.1 18 = .ok (.ifCond .ne 6, 3) by decide +kernel) rfl ?_ ?_
      · skip
        exact V_sub [] rfl (hJ21 b_2 σ_2)
      · skip
        refine V_aload_n 25 rfl (show decode M_Trail_zero.2.1 24 = .ok (.aload_n 0, 1) by decide +kernel) 0 rfl ?_
        refine V_get (j := 0) (v := vR (SR σ_2 h0 0)) 28 rfl ck_Trail (by decide) (by decide) (show decode M_Trail_zero.2.1 25 = .ok (.getfield 10, 3) by decide +kernel) wd_599 rfl ?_
        refine V_getN (j := 6) (v := vR (SR σ_2 (SR σ_2 h0 0) 6)) 31 rfl ck_World (by decide) (by decide) (show decode M_Trail_zero.2.1 28 = .ok (.getfield 194, 3) by decide +kernel) wd_510 rfl ?_
        refine V_iload_n 32 rfl (show decode M_Trail_zero.2.1 31 = .ok (.iload_n 1, 1) by decide +kernel) 1 rfl ?_
        refine V_ald_r26 33 rfl (show decode M_Trail_zero.2.1 32 = .ok (.aaload, 1) by decide +kernel) ?_
        refine V_astore_n (fun h3_3 => [(3, vR h3_3), (0, vR h0), (1, vI x1), (2, vI x2)]) 34 rfl (show decode M_Trail_zero.2.1 33 = .ok (.astore_n 3, 1) by decide +kernel) (by decide) (fun _ => rfl) (fun h3_3 => ?_)
        refine V_aload_n 35 rfl (show decode M_Trail_zero.2.1 34 = .ok (.aload_n 3, 1) by decide +kernel) 0 rfl ?_
        refine V_getN (j := 5) (v := vI (SI σ_2 h3_3 5)) 38 rfl ck_Walker (by decide) (by decide) (show decode M_Trail_zero.2.1 35 = .ok (.getfield 214, 3) by decide +kernel) wd_432 rfl ?_
        refine V_iconst 39 rfl (show decode M_Trail_zero.2.1 38 = .ok (.iconst 1, 1) by decide +kernel) (v := 1) rfl ?_
        refine V_icmpeq 42 45 rfl (show decode M_Trail_zero.2.1 39 = .ok (.if_icmp .eq 6, 3) by decide +kernel) rfl ?_ ?_
        · skip
          refine V_aload_n 46 rfl (show decode M_Trail_zero.2.1 45 = .ok (.aload_n 3, 1) by decide +kernel) 0 rfl ?_
          refine V_getN (j := 13) (v := vI (SI σ_2 h3_3 13)) 49 rfl ck_Walker (by decide) (by decide) (show decode M_Trail_zero.2.1 46 = .ok (.getfield 220, 3) by decide +kernel) wd_451 rfl ?_
          refine V_istore (fun x4_4 => [(4, vI x4_4), (3, vR h3_3), (0, vR h0), (1, vI x1), (2, vI x2)]) 51 rfl (show decode M_Trail_zero.2.1 49 = .ok (.istore 4, 2) by decide +kernel) (by decide) (fun _ => rfl) (fun x4_4 => ?_)
          refine V_aload_n 52 rfl (show decode M_Trail_zero.2.1 51 = .ok (.aload_n 3, 1) by decide +kernel) 1 rfl ?_
          refine V_iload_n 53 rfl (show decode M_Trail_zero.2.1 52 = .ok (.iload_n 2, 1) by decide +kernel) 4 rfl ?_
          refine V_putIN (j := 13) 56 rfl ck_Walker (by decide) (by decide) (show decode M_Trail_zero.2.1 53 = .ok (.putfield 220, 3) by decide +kernel) wd_451 rfl (fun _ => rfl) rfl rfl (fun σ_5 => ?_)
          refine V_iload 58 rfl (show decode M_Trail_zero.2.1 56 = .ok (.iload 4, 2) by decide +kernel) 0 rfl ?_
          exact V_iret rfl (by decide) (by decide) (show decode M_Trail_zero.2.1 58 = .ok (.ireturn, 1) by decide +kernel)
        · skip
          refine V_ldc 44 rfl (show decode M_Trail_zero.2.1 42 = .ok (.ldc 66, 2) by decide +kernel) wd_640 ?_
          exact V_iret rfl (by decide) (by decide) (show decode M_Trail_zero.2.1 44 = .ok (.ireturn, 1) by decide +kernel)
theorem cal_Trail_zero (d mc ms k n : Nat) (h1 : 3 + 1 ≤ d) (h2 : k + 0 ≤ mc) (h3 : n + 0 ≤ ms) : Cal M_Trail_zero 3 0 0 2 d mc ms k n := ⟨wd_1040, wd_170, by decide, h1, by decide, h2, h3⟩
abbrev M_Model_init : MD := (⟨"LongTrailModel", "<init>", "()V"⟩, prog_14_method_1_code, 2, (none : Option FieldType))
def b_Model_init_238 (h0 : Nat) (L238 : Int32 → Bool → Sto → Rs Unit) (x1 : Int32) (b : Bool) (σ : Sto) : Rs Unit := (if x1 < (4 : Int32) then (lt_ (pI σ (SR σ h0 0) (ix ((10 : Int32) + x1)) (-1 : Int32)) (fun (σ_52 : Sto) => (lt_ (x1 + (1 : Int32)) (fun (x1_53 : Int32) => (L238 x1_53 ((b && cK σ h0 13) && cA σ (SR σ h0 0) 21 ((10 : Int32) + x1)) σ_52))))) else ((), b, σ))
def b_Model_init_218 (h0 : Nat) (L218 : Int32 → Bool → Sto → Rs Unit) (x1 : Int32) (b : Bool) (σ : Sto) : Rs Unit := (if x1 < (4 : Int32) then (lt_ (pI σ (SR σ h0 4) (ix x1) (-1 : Int32)) (fun (σ_49 : Sto) => (lt_ (x1 + (1 : Int32)) (fun (x1_50 : Int32) => (L218 x1_50 ((b && cK σ h0 13) && cA σ (SR σ h0 4) 21 x1) σ_49))))) else (lt_ (1 : Int32) (fun (x1_51 : Int32) => (lp_ (b_Model_init_238 h0) (fun (x1 : Int32) (b : Bool) (σ : Sto) => ((), false, σ)) fuel_ x1_51 b σ))))
def b_Model_init_194 (h0 : Nat) (L194 : Int32 → Bool → Sto → Rs Unit) (x1 : Int32) (b : Bool) (σ : Sto) : Rs Unit := (if x1 < (7 : Int32) then (lt_ (pI σ (SR σ h0 0) (ix ((14 : Int32) + x1)) (1 : Int32)) (fun (σ_46 : Sto) => (lt_ (x1 + (1 : Int32)) (fun (x1_47 : Int32) => (L194 x1_47 ((b && cK σ h0 13) && cA σ (SR σ h0 0) 21 ((14 : Int32) + x1)) σ_46))))) else (lt_ (0 : Int32) (fun (x1_48 : Int32) => (lp_ (b_Model_init_218 h0) (fun (x1 : Int32) (b : Bool) (σ : Sto) => ((), false, σ)) fuel_ x1_48 b σ))))
def f_Model_init (h0 : Nat) (b : Bool) (σ : Sto) : Rs Unit := (lt_ (nC σ 21 (ix (3210 : Int32))) (fun (σ_1 : Sto) => (lt_ (pR σ_1 h0 0 (Shn σ)) (fun (σ_2 : Sto) => (lt_ (nC σ_2 21 (ix (3210 : Int32))) (fun (σ_3 : Sto) => (lt_ (pR σ_3 h0 1 (Shn σ_2)) (fun (σ_4 : Sto) => (lt_ (nC σ_4 21 (ix (3210 : Int32))) (fun (σ_5 : Sto) => (lt_ (pR σ_5 h0 2 (Shn σ_4)) (fun (σ_6 : Sto) => (lt_ (nC σ_6 21 (ix (4 : Int32))) (fun (σ_7 : Sto) => (lt_ (pR σ_7 h0 4 (Shn σ_6)) (fun (σ_8 : Sto) => (lt_ (nC σ_8 21 (ix (4 : Int32))) (fun (σ_9 : Sto) => (lt_ (pR σ_9 h0 5 (Shn σ_8)) (fun (σ_10 : Sto) => (lt_ (nC σ_10 23 (ix (96 : Int32))) (fun (σ_11 : Sto) => (lt_ (pR σ_11 h0 6 (Shn σ_10)) (fun (σ_12 : Sto) => (lt_ (nC σ_12 21 (ix (96 : Int32))) (fun (σ_13 : Sto) => (lt_ (pR σ_13 h0 7 (Shn σ_12)) (fun (σ_14 : Sto) => (lt_ (nC σ_14 21 (ix (128 : Int32))) (fun (σ_15 : Sto) => (lt_ (pR σ_15 h0 19 (Shn σ_14)) (fun (σ_16 : Sto) => (lt_ (nC σ_16 21 (ix (100 : Int32))) (fun (σ_17 : Sto) => (lt_ (pR σ_17 h0 20 (Shn σ_16)) (fun (σ_18 : Sto) => (lt_ (nC σ_18 21 (ix (16 : Int32))) (fun (σ_19 : Sto) => (lt_ (pR σ_19 h0 22 (Shn σ_18)) (fun (σ_20 : Sto) => (lt_ (nC σ_20 21 (ix (16 : Int32))) (fun (σ_21 : Sto) => (lt_ (pR σ_21 h0 23 (Shn σ_20)) (fun (σ_22 : Sto) => (lt_ (nC σ_22 21 (ix (16 : Int32))) (fun (σ_23 : Sto) => (lt_ (pR σ_23 h0 24 (Shn σ_22)) (fun (σ_24 : Sto) => (lt_ (nC σ_24 21 (ix (16 : Int32))) (fun (σ_25 : Sto) => (lt_ (pR σ_25 h0 25 (Shn σ_24)) (fun (σ_26 : Sto) => (lt_ (nC σ_26 21 (ix (16 : Int32))) (fun (σ_27 : Sto) => (lt_ (pR σ_27 h0 26 (Shn σ_26)) (fun (σ_28 : Sto) => (lt_ (nC σ_28 21 (ix (20 : Int32))) (fun (σ_29 : Sto) => (lt_ (pR σ_29 h0 27 (Shn σ_28)) (fun (σ_30 : Sto) => (lt_ (nC σ_30 21 (ix (20 : Int32))) (fun (σ_31 : Sto) => (lt_ (pR σ_31 h0 28 (Shn σ_30)) (fun (σ_32 : Sto) => (lt_ (nC σ_32 21 (ix (20 : Int32))) (fun (σ_33 : Sto) => (lt_ (pR σ_33 h0 29 (Shn σ_32)) (fun (σ_34 : Sto) => (lt_ (nC σ_34 24 (ix (20 : Int32))) (fun (σ_35 : Sto) => (lt_ (pR σ_35 h0 30 (Shn σ_34)) (fun (σ_36 : Sto) => (lt_ (nC σ_36 23 (ix (24 : Int32))) (fun (σ_37 : Sto) => (lt_ (pR σ_37 h0 31 (Shn σ_36)) (fun (σ_38 : Sto) => (lt_ (nC σ_38 21 (ix (60 : Int32))) (fun (σ_39 : Sto) => (lt_ (pR σ_39 h0 32 (Shn σ_38)) (fun (σ_40 : Sto) => (lt_ (nC σ_40 21 (ix (60 : Int32))) (fun (σ_41 : Sto) => (lt_ (pR σ_41 h0 34 (Shn σ_40)) (fun (σ_42 : Sto) => (lt_ (pI σ_42 (SR σ_42 h0 0) (ix (1 : Int32)) (400 : Int32)) (fun (σ_43 : Sto) => (lt_ (pI σ_43 (SR σ_43 h0 0) (ix (10 : Int32)) (10 : Int32)) (fun (σ_44 : Sto) => (lt_ (0 : Int32) (fun (x1_45 : Int32) => (lp_ (b_Model_init_194 h0) (fun (x1 : Int32) (b : Bool) (σ : Sto) => ((), false, σ)) fuel_ x1_45 (((((((((((((((((((((((((((((((((((((((((((((((b && !decide (h0 = 0)) && (!decide ((3210 : Int32) < 0) && decide (ix (3210 : Int32) ≤ 3210))) && cK σ_1 h0 13) && (!decide ((3210 : Int32) < 0) && decide (ix (3210 : Int32) ≤ 3210))) && cK σ_3 h0 13) && (!decide ((3210 : Int32) < 0) && decide (ix (3210 : Int32) ≤ 3210))) && cK σ_5 h0 13) && (!decide ((4 : Int32) < 0) && decide (ix (4 : Int32) ≤ 4))) && cK σ_7 h0 13) && (!decide ((4 : Int32) < 0) && decide (ix (4 : Int32) ≤ 4))) && cK σ_9 h0 13) && (!decide ((96 : Int32) < 0) && decide (ix (96 : Int32) ≤ 96))) && cK σ_11 h0 13) && (!decide ((96 : Int32) < 0) && decide (ix (96 : Int32) ≤ 96))) && cK σ_13 h0 13) && (!decide ((128 : Int32) < 0) && decide (ix (128 : Int32) ≤ 128))) && cK σ_15 h0 13) && (!decide ((100 : Int32) < 0) && decide (ix (100 : Int32) ≤ 100))) && cK σ_17 h0 13) && (!decide ((16 : Int32) < 0) && decide (ix (16 : Int32) ≤ 16))) && cK σ_19 h0 13) && (!decide ((16 : Int32) < 0) && decide (ix (16 : Int32) ≤ 16))) && cK σ_21 h0 13) && (!decide ((16 : Int32) < 0) && decide (ix (16 : Int32) ≤ 16))) && cK σ_23 h0 13) && (!decide ((16 : Int32) < 0) && decide (ix (16 : Int32) ≤ 16))) && cK σ_25 h0 13) && (!decide ((16 : Int32) < 0) && decide (ix (16 : Int32) ≤ 16))) && cK σ_27 h0 13) && (!decide ((20 : Int32) < 0) && decide (ix (20 : Int32) ≤ 20))) && cK σ_29 h0 13) && (!decide ((20 : Int32) < 0) && decide (ix (20 : Int32) ≤ 20))) && cK σ_31 h0 13) && (!decide ((20 : Int32) < 0) && decide (ix (20 : Int32) ≤ 20))) && cK σ_33 h0 13) && (!decide ((20 : Int32) < 0) && decide (ix (20 : Int32) ≤ 20))) && cK σ_35 h0 13) && (!decide ((24 : Int32) < 0) && decide (ix (24 : Int32) ≤ 24))) && cK σ_37 h0 13) && (!decide ((60 : Int32) < 0) && decide (ix (60 : Int32) ≤ 60))) && cK σ_39 h0 13) && (!decide ((60 : Int32) < 0) && decide (ix (60 : Int32) ≤ 60))) && cK σ_41 h0 13) && cK σ_42 h0 13) && cA σ_42 (SR σ_42 h0 0) 21 (1 : Int32)) && cK σ_43 h0 13) && cA σ_43 (SR σ_43 h0 0) 21 (10 : Int32)) σ_44)))))))))))))))))))))))))))))))))))))))))))))))))))))))))))))))))))))))))))))))))))))))))))
set_option maxRecDepth 100000 in
set_option maxHeartbeats 4000000 in
theorem s_Model_init : ∀ (h0 : Nat) (b : Bool) (σ : Sto), Snd M_Model_init 1 21 10362 [vR h0] b σ (tU (f_Model_init h0 b σ).1) (f_Model_init h0 b σ).2.1 (f_Model_init h0 b σ).2.2 := by
  intro h0 b σ
  refine Snd_of (tv := tU) (by decide) (Nat.le_of_ble_eq_true rfl) ?_
  show V M_Model_init 1 21 10362 0 0 tU (f_Model_init h0 b σ) 0 [(0, vR h0)] [] b σ
  unfold f_Model_init
  refine V_aload_n 1 rfl (show decode M_Model_init.2.1 0 = .ok (.aload_n 0, 1) by decide +kernel) 0 rfl ?_
  refine V_objI 4 rfl (show decode M_Model_init.2.1 1 = .ok (.invokespecial 1, 3) by decide +kernel) wd_1503 wd_197 wd_objc (by decide) (Nat.le_of_ble_eq_true rfl) ?_
  refine V_aload_n 5 rfl (show decode M_Model_init.2.1 4 = .ok (.aload_n 0, 1) by decide +kernel) 0 rfl ?_
  refine V_sipush 8 rfl (show decode M_Model_init.2.1 5 = .ok (.sipush 3210, 3) by decide +kernel) (v := 3210) rfl ?_
  refine V_newa_int 10 3210 rfl (show decode M_Model_init.2.1 8 = .ok (.newarray .int, 2) by decide +kernel) wd_265 (by decide) (by decide) (by decide) (fun σ_1 => ?_)
  refine V_putRF (j := 0) 13 rfl ck_Model (by decide) (by decide) (show decode M_Model_init.2.1 10 = .ok (.putfield 7, 3) by decide +kernel) wd_1504 rfl rfl rfl (fun _ => rfl) (vr_nar_a _) (vr_fit_a _) (fun σ_2 => ?_)
  refine V_aload_n 14 rfl (show decode M_Model_init.2.1 13 = .ok (.aload_n 0, 1) by decide +kernel) 0 rfl ?_
  refine V_sipush 17 rfl (show decode M_Model_init.2.1 14 = .ok (.sipush 3210, 3) by decide +kernel) (v := 3210) rfl ?_
  refine V_newa_int 19 3210 rfl (show decode M_Model_init.2.1 17 = .ok (.newarray .int, 2) by decide +kernel) wd_265 (by decide) (by decide) (by decide) (fun σ_3 => ?_)
  refine V_putRF (j := 1) 22 rfl ck_Model (by decide) (by decide) (show decode M_Model_init.2.1 19 = .ok (.putfield 13, 3) by decide +kernel) wd_1505 rfl rfl rfl (fun _ => rfl) (vr_nar_a _) (vr_fit_a _) (fun σ_4 => ?_)
  refine V_aload_n 23 rfl (show decode M_Model_init.2.1 22 = .ok (.aload_n 0, 1) by decide +kernel) 0 rfl ?_
  refine V_sipush 26 rfl (show decode M_Model_init.2.1 23 = .ok (.sipush 3210, 3) by decide +kernel) (v := 3210) rfl ?_
  refine V_newa_int 28 3210 rfl (show decode M_Model_init.2.1 26 = .ok (.newarray .int, 2) by decide +kernel) wd_265 (by decide) (by decide) (by decide) (fun σ_5 => ?_)
  refine V_putRF (j := 2) 31 rfl ck_Model (by decide) (by decide) (show decode M_Model_init.2.1 28 = .ok (.putfield 16, 3) by decide +kernel) wd_1506 rfl rfl rfl (fun _ => rfl) (vr_nar_a _) (vr_fit_a _) (fun σ_6 => ?_)
  refine V_aload_n 32 rfl (show decode M_Model_init.2.1 31 = .ok (.aload_n 0, 1) by decide +kernel) 0 rfl ?_
  refine V_iconst 33 rfl (show decode M_Model_init.2.1 32 = .ok (.iconst 4, 1) by decide +kernel) (v := 4) rfl ?_
  refine V_newa_int 35 4 rfl (show decode M_Model_init.2.1 33 = .ok (.newarray .int, 2) by decide +kernel) wd_265 (by decide) (by decide) (by decide) (fun σ_7 => ?_)
  refine V_putRF (j := 4) 38 rfl ck_Model (by decide) (by decide) (show decode M_Model_init.2.1 35 = .ok (.putfield 19, 3) by decide +kernel) wd_1508 rfl rfl rfl (fun _ => rfl) (vr_nar_a _) (vr_fit_a _) (fun σ_8 => ?_)
  refine V_aload_n 39 rfl (show decode M_Model_init.2.1 38 = .ok (.aload_n 0, 1) by decide +kernel) 0 rfl ?_
  refine V_iconst 40 rfl (show decode M_Model_init.2.1 39 = .ok (.iconst 4, 1) by decide +kernel) (v := 4) rfl ?_
  refine V_newa_int 42 4 rfl (show decode M_Model_init.2.1 40 = .ok (.newarray .int, 2) by decide +kernel) wd_265 (by decide) (by decide) (by decide) (fun σ_9 => ?_)
  refine V_putRF (j := 5) 45 rfl ck_Model (by decide) (by decide) (show decode M_Model_init.2.1 42 = .ok (.putfield 22, 3) by decide +kernel) wd_1509 rfl rfl rfl (fun _ => rfl) (vr_nar_a _) (vr_fit_a _) (fun σ_10 => ?_)
  refine V_aload_n 46 rfl (show decode M_Model_init.2.1 45 = .ok (.aload_n 0, 1) by decide +kernel) 0 rfl ?_
  refine V_bipush 48 rfl (show decode M_Model_init.2.1 46 = .ok (.bipush 96, 2) by decide +kernel) (v := 96) rfl ?_
  refine V_newa_long 50 96 rfl (show decode M_Model_init.2.1 48 = .ok (.newarray .long, 2) by decide +kernel) wd_386 (by decide) (by decide) (by decide) (fun σ_11 => ?_)
  refine V_putRF (j := 6) 53 rfl ck_Model (by decide) (by decide) (show decode M_Model_init.2.1 50 = .ok (.putfield 25, 3) by decide +kernel) wd_1510 rfl rfl rfl (fun _ => rfl) (vr_nar_a _) (vr_fit_a _) (fun σ_12 => ?_)
  refine V_aload_n 54 rfl (show decode M_Model_init.2.1 53 = .ok (.aload_n 0, 1) by decide +kernel) 0 rfl ?_
  refine V_bipush 56 rfl (show decode M_Model_init.2.1 54 = .ok (.bipush 96, 2) by decide +kernel) (v := 96) rfl ?_
  refine V_newa_int 58 96 rfl (show decode M_Model_init.2.1 56 = .ok (.newarray .int, 2) by decide +kernel) wd_265 (by decide) (by decide) (by decide) (fun σ_13 => ?_)
  refine V_putRF (j := 7) 61 rfl ck_Model (by decide) (by decide) (show decode M_Model_init.2.1 58 = .ok (.putfield 29, 3) by decide +kernel) wd_1511 rfl rfl rfl (fun _ => rfl) (vr_nar_a _) (vr_fit_a _) (fun σ_14 => ?_)
  refine V_aload_n 62 rfl (show decode M_Model_init.2.1 61 = .ok (.aload_n 0, 1) by decide +kernel) 0 rfl ?_
  refine V_sipush 65 rfl (show decode M_Model_init.2.1 62 = .ok (.sipush 128, 3) by decide +kernel) (v := 128) rfl ?_
  refine V_newa_int 67 128 rfl (show decode M_Model_init.2.1 65 = .ok (.newarray .int, 2) by decide +kernel) wd_265 (by decide) (by decide) (by decide) (fun σ_15 => ?_)
  refine V_putRF (j := 19) 70 rfl ck_Model (by decide) (by decide) (show decode M_Model_init.2.1 67 = .ok (.putfield 32, 3) by decide +kernel) wd_1523 rfl rfl rfl (fun _ => rfl) (vr_nar_a _) (vr_fit_a _) (fun σ_16 => ?_)
  refine V_aload_n 71 rfl (show decode M_Model_init.2.1 70 = .ok (.aload_n 0, 1) by decide +kernel) 0 rfl ?_
  refine V_bipush 73 rfl (show decode M_Model_init.2.1 71 = .ok (.bipush 100, 2) by decide +kernel) (v := 100) rfl ?_
  refine V_newa_int 75 100 rfl (show decode M_Model_init.2.1 73 = .ok (.newarray .int, 2) by decide +kernel) wd_265 (by decide) (by decide) (by decide) (fun σ_17 => ?_)
  refine V_putRF (j := 20) 78 rfl ck_Model (by decide) (by decide) (show decode M_Model_init.2.1 75 = .ok (.putfield 35, 3) by decide +kernel) wd_1524 rfl rfl rfl (fun _ => rfl) (vr_nar_a _) (vr_fit_a _) (fun σ_18 => ?_)
  refine V_aload_n 79 rfl (show decode M_Model_init.2.1 78 = .ok (.aload_n 0, 1) by decide +kernel) 0 rfl ?_
  refine V_bipush 81 rfl (show decode M_Model_init.2.1 79 = .ok (.bipush 16, 2) by decide +kernel) (v := 16) rfl ?_
  refine V_newa_int 83 16 rfl (show decode M_Model_init.2.1 81 = .ok (.newarray .int, 2) by decide +kernel) wd_265 (by decide) (by decide) (by decide) (fun σ_19 => ?_)
  refine V_putRF (j := 22) 86 rfl ck_Model (by decide) (by decide) (show decode M_Model_init.2.1 83 = .ok (.putfield 38, 3) by decide +kernel) wd_1526 rfl rfl rfl (fun _ => rfl) (vr_nar_a _) (vr_fit_a _) (fun σ_20 => ?_)
  refine V_aload_n 87 rfl (show decode M_Model_init.2.1 86 = .ok (.aload_n 0, 1) by decide +kernel) 0 rfl ?_
  refine V_bipush 89 rfl (show decode M_Model_init.2.1 87 = .ok (.bipush 16, 2) by decide +kernel) (v := 16) rfl ?_
  refine V_newa_int 91 16 rfl (show decode M_Model_init.2.1 89 = .ok (.newarray .int, 2) by decide +kernel) wd_265 (by decide) (by decide) (by decide) (fun σ_21 => ?_)
  refine V_putRF (j := 23) 94 rfl ck_Model (by decide) (by decide) (show decode M_Model_init.2.1 91 = .ok (.putfield 41, 3) by decide +kernel) wd_1527 rfl rfl rfl (fun _ => rfl) (vr_nar_a _) (vr_fit_a _) (fun σ_22 => ?_)
  refine V_aload_n 95 rfl (show decode M_Model_init.2.1 94 = .ok (.aload_n 0, 1) by decide +kernel) 0 rfl ?_
  refine V_bipush 97 rfl (show decode M_Model_init.2.1 95 = .ok (.bipush 16, 2) by decide +kernel) (v := 16) rfl ?_
  refine V_newa_int 99 16 rfl (show decode M_Model_init.2.1 97 = .ok (.newarray .int, 2) by decide +kernel) wd_265 (by decide) (by decide) (by decide) (fun σ_23 => ?_)
  refine V_putRF (j := 24) 102 rfl ck_Model (by decide) (by decide) (show decode M_Model_init.2.1 99 = .ok (.putfield 44, 3) by decide +kernel) wd_1528 rfl rfl rfl (fun _ => rfl) (vr_nar_a _) (vr_fit_a _) (fun σ_24 => ?_)
  refine V_aload_n 103 rfl (show decode M_Model_init.2.1 102 = .ok (.aload_n 0, 1) by decide +kernel) 0 rfl ?_
  refine V_bipush 105 rfl (show decode M_Model_init.2.1 103 = .ok (.bipush 16, 2) by decide +kernel) (v := 16) rfl ?_
  refine V_newa_int 107 16 rfl (show decode M_Model_init.2.1 105 = .ok (.newarray .int, 2) by decide +kernel) wd_265 (by decide) (by decide) (by decide) (fun σ_25 => ?_)
  refine V_putRF (j := 25) 110 rfl ck_Model (by decide) (by decide) (show decode M_Model_init.2.1 107 = .ok (.putfield 47, 3) by decide +kernel) wd_1529 rfl rfl rfl (fun _ => rfl) (vr_nar_a _) (vr_fit_a _) (fun σ_26 => ?_)
  refine V_aload_n 111 rfl (show decode M_Model_init.2.1 110 = .ok (.aload_n 0, 1) by decide +kernel) 0 rfl ?_
  refine V_bipush 113 rfl (show decode M_Model_init.2.1 111 = .ok (.bipush 16, 2) by decide +kernel) (v := 16) rfl ?_
  refine V_newa_int 115 16 rfl (show decode M_Model_init.2.1 113 = .ok (.newarray .int, 2) by decide +kernel) wd_265 (by decide) (by decide) (by decide) (fun σ_27 => ?_)
  refine V_putRF (j := 26) 118 rfl ck_Model (by decide) (by decide) (show decode M_Model_init.2.1 115 = .ok (.putfield 50, 3) by decide +kernel) wd_1530 rfl rfl rfl (fun _ => rfl) (vr_nar_a _) (vr_fit_a _) (fun σ_28 => ?_)
  refine V_aload_n 119 rfl (show decode M_Model_init.2.1 118 = .ok (.aload_n 0, 1) by decide +kernel) 0 rfl ?_
  refine V_bipush 121 rfl (show decode M_Model_init.2.1 119 = .ok (.bipush 20, 2) by decide +kernel) (v := 20) rfl ?_
  refine V_newa_int 123 20 rfl (show decode M_Model_init.2.1 121 = .ok (.newarray .int, 2) by decide +kernel) wd_265 (by decide) (by decide) (by decide) (fun σ_29 => ?_)
  refine V_putRF (j := 27) 126 rfl ck_Model (by decide) (by decide) (show decode M_Model_init.2.1 123 = .ok (.putfield 53, 3) by decide +kernel) wd_1531 rfl rfl rfl (fun _ => rfl) (vr_nar_a _) (vr_fit_a _) (fun σ_30 => ?_)
  refine V_aload_n 127 rfl (show decode M_Model_init.2.1 126 = .ok (.aload_n 0, 1) by decide +kernel) 0 rfl ?_
  refine V_bipush 129 rfl (show decode M_Model_init.2.1 127 = .ok (.bipush 20, 2) by decide +kernel) (v := 20) rfl ?_
  refine V_newa_int 131 20 rfl (show decode M_Model_init.2.1 129 = .ok (.newarray .int, 2) by decide +kernel) wd_265 (by decide) (by decide) (by decide) (fun σ_31 => ?_)
  refine V_putRF (j := 28) 134 rfl ck_Model (by decide) (by decide) (show decode M_Model_init.2.1 131 = .ok (.putfield 56, 3) by decide +kernel) wd_1532 rfl rfl rfl (fun _ => rfl) (vr_nar_a _) (vr_fit_a _) (fun σ_32 => ?_)
  refine V_aload_n 135 rfl (show decode M_Model_init.2.1 134 = .ok (.aload_n 0, 1) by decide +kernel) 0 rfl ?_
  refine V_bipush 137 rfl (show decode M_Model_init.2.1 135 = .ok (.bipush 20, 2) by decide +kernel) (v := 20) rfl ?_
  refine V_newa_int 139 20 rfl (show decode M_Model_init.2.1 137 = .ok (.newarray .int, 2) by decide +kernel) wd_265 (by decide) (by decide) (by decide) (fun σ_33 => ?_)
  refine V_putRF (j := 29) 142 rfl ck_Model (by decide) (by decide) (show decode M_Model_init.2.1 139 = .ok (.putfield 59, 3) by decide +kernel) wd_1533 rfl rfl rfl (fun _ => rfl) (vr_nar_a _) (vr_fit_a _) (fun σ_34 => ?_)
  refine V_aload_n 143 rfl (show decode M_Model_init.2.1 142 = .ok (.aload_n 0, 1) by decide +kernel) 0 rfl ?_
  refine V_bipush 145 rfl (show decode M_Model_init.2.1 143 = .ok (.bipush 20, 2) by decide +kernel) (v := 20) rfl ?_
  refine V_newa_bool 147 20 rfl (show decode M_Model_init.2.1 145 = .ok (.newarray .boolean, 2) by decide +kernel) wd_1610 (by decide) (by decide) (by decide) (fun σ_35 => ?_)
  refine V_putRF (j := 30) 150 rfl ck_Model (by decide) (by decide) (show decode M_Model_init.2.1 147 = .ok (.putfield 62, 3) by decide +kernel) wd_1534 rfl rfl rfl (fun _ => rfl) (vr_nar_a _) (vr_fit_a _) (fun σ_36 => ?_)
  refine V_aload_n 151 rfl (show decode M_Model_init.2.1 150 = .ok (.aload_n 0, 1) by decide +kernel) 0 rfl ?_
  refine V_bipush 153 rfl (show decode M_Model_init.2.1 151 = .ok (.bipush 24, 2) by decide +kernel) (v := 24) rfl ?_
  refine V_newa_long 155 24 rfl (show decode M_Model_init.2.1 153 = .ok (.newarray .long, 2) by decide +kernel) wd_386 (by decide) (by decide) (by decide) (fun σ_37 => ?_)
  refine V_putRF (j := 31) 158 rfl ck_Model (by decide) (by decide) (show decode M_Model_init.2.1 155 = .ok (.putfield 66, 3) by decide +kernel) wd_1535 rfl rfl rfl (fun _ => rfl) (vr_nar_a _) (vr_fit_a _) (fun σ_38 => ?_)
  refine V_aload_n 159 rfl (show decode M_Model_init.2.1 158 = .ok (.aload_n 0, 1) by decide +kernel) 0 rfl ?_
  refine V_bipush 161 rfl (show decode M_Model_init.2.1 159 = .ok (.bipush 60, 2) by decide +kernel) (v := 60) rfl ?_
  refine V_newa_int 163 60 rfl (show decode M_Model_init.2.1 161 = .ok (.newarray .int, 2) by decide +kernel) wd_265 (by decide) (by decide) (by decide) (fun σ_39 => ?_)
  refine V_putRF (j := 32) 166 rfl ck_Model (by decide) (by decide) (show decode M_Model_init.2.1 163 = .ok (.putfield 69, 3) by decide +kernel) wd_1536 rfl rfl rfl (fun _ => rfl) (vr_nar_a _) (vr_fit_a _) (fun σ_40 => ?_)
  refine V_aload_n 167 rfl (show decode M_Model_init.2.1 166 = .ok (.aload_n 0, 1) by decide +kernel) 0 rfl ?_
  refine V_bipush 169 rfl (show decode M_Model_init.2.1 167 = .ok (.bipush 60, 2) by decide +kernel) (v := 60) rfl ?_
  refine V_newa_int 171 60 rfl (show decode M_Model_init.2.1 169 = .ok (.newarray .int, 2) by decide +kernel) wd_265 (by decide) (by decide) (by decide) (fun σ_41 => ?_)
  refine V_putRF (j := 34) 174 rfl ck_Model (by decide) (by decide) (show decode M_Model_init.2.1 171 = .ok (.putfield 72, 3) by decide +kernel) wd_1538 rfl rfl rfl (fun _ => rfl) (vr_nar_a _) (vr_fit_a _) (fun σ_42 => ?_)
  refine V_aload_n 175 rfl (show decode M_Model_init.2.1 174 = .ok (.aload_n 0, 1) by decide +kernel) 0 rfl ?_
  refine V_get (j := 0) (v := vR (SR σ_42 h0 0)) 178 rfl ck_Model (by decide) (by decide) (show decode M_Model_init.2.1 175 = .ok (.getfield 7, 3) by decide +kernel) wd_1504 rfl ?_
  refine V_iconst 179 rfl (show decode M_Model_init.2.1 178 = .ok (.iconst 1, 1) by decide +kernel) (v := 1) rfl ?_
  refine V_sipush 182 rfl (show decode M_Model_init.2.1 179 = .ok (.sipush 400, 3) by decide +kernel) (v := 400) rfl ?_
  refine V_ast_int 183 rfl (show decode M_Model_init.2.1 182 = .ok (.iastore, 1) by decide +kernel) (fun σ_43 => ?_)
  refine V_aload_n 184 rfl (show decode M_Model_init.2.1 183 = .ok (.aload_n 0, 1) by decide +kernel) 0 rfl ?_
  refine V_get (j := 0) (v := vR (SR σ_43 h0 0)) 187 rfl ck_Model (by decide) (by decide) (show decode M_Model_init.2.1 184 = .ok (.getfield 7, 3) by decide +kernel) wd_1504 rfl ?_
  refine V_bipush 189 rfl (show decode M_Model_init.2.1 187 = .ok (.bipush 10, 2) by decide +kernel) (v := 10) rfl ?_
  refine V_bipush 191 rfl (show decode M_Model_init.2.1 189 = .ok (.bipush 10, 2) by decide +kernel) (v := 10) rfl ?_
  refine V_ast_int 192 rfl (show decode M_Model_init.2.1 191 = .ok (.iastore, 1) by decide +kernel) (fun σ_44 => ?_)
  refine V_iconst 193 rfl (show decode M_Model_init.2.1 192 = .ok (.iconst 0, 1) by decide +kernel) (v := 0) rfl ?_
  refine V_istore_n (fun x1_45 => [(1, vI x1_45), (0, vR h0)]) 194 rfl (show decode M_Model_init.2.1 193 = .ok (.istore_n 1, 1) by decide +kernel) (by decide) (fun _ => rfl) (fun x1_45 => ?_)
  refine V_sub [1, 0] rfl ?_
  refine lp_P (fun (L194 : Int32 → Bool → Sto → Rs Unit) => ∀ (x1 : Int32) (b : Bool) (σ : Sto), V M_Model_init 1 21 10362 21 10362 tU (L194 x1 b σ) 194 [(0, vR h0), (1, vI x1)] [] b σ) ?_ ?_ fuel_ x1_45 (((((((((((((((((((((((((((((((((((((((((((((((b && !decide (h0 = 0)) && (!decide ((3210 : Int32) < 0) && decide (ix (3210 : Int32) ≤ 3210))) && cK σ_1 h0 13) && (!decide ((3210 : Int32) < 0) && decide (ix (3210 : Int32) ≤ 3210))) && cK σ_3 h0 13) && (!decide ((3210 : Int32) < 0) && decide (ix (3210 : Int32) ≤ 3210))) && cK σ_5 h0 13) && (!decide ((4 : Int32) < 0) && decide (ix (4 : Int32) ≤ 4))) && cK σ_7 h0 13) && (!decide ((4 : Int32) < 0) && decide (ix (4 : Int32) ≤ 4))) && cK σ_9 h0 13) && (!decide ((96 : Int32) < 0) && decide (ix (96 : Int32) ≤ 96))) && cK σ_11 h0 13) && (!decide ((96 : Int32) < 0) && decide (ix (96 : Int32) ≤ 96))) && cK σ_13 h0 13) && (!decide ((128 : Int32) < 0) && decide (ix (128 : Int32) ≤ 128))) && cK σ_15 h0 13) && (!decide ((100 : Int32) < 0) && decide (ix (100 : Int32) ≤ 100))) && cK σ_17 h0 13) && (!decide ((16 : Int32) < 0) && decide (ix (16 : Int32) ≤ 16))) && cK σ_19 h0 13) && (!decide ((16 : Int32) < 0) && decide (ix (16 : Int32) ≤ 16))) && cK σ_21 h0 13) && (!decide ((16 : Int32) < 0) && decide (ix (16 : Int32) ≤ 16))) && cK σ_23 h0 13) && (!decide ((16 : Int32) < 0) && decide (ix (16 : Int32) ≤ 16))) && cK σ_25 h0 13) && (!decide ((16 : Int32) < 0) && decide (ix (16 : Int32) ≤ 16))) && cK σ_27 h0 13) && (!decide ((20 : Int32) < 0) && decide (ix (20 : Int32) ≤ 20))) && cK σ_29 h0 13) && (!decide ((20 : Int32) < 0) && decide (ix (20 : Int32) ≤ 20))) && cK σ_31 h0 13) && (!decide ((20 : Int32) < 0) && decide (ix (20 : Int32) ≤ 20))) && cK σ_33 h0 13) && (!decide ((20 : Int32) < 0) && decide (ix (20 : Int32) ≤ 20))) && cK σ_35 h0 13) && (!decide ((24 : Int32) < 0) && decide (ix (24 : Int32) ≤ 24))) && cK σ_37 h0 13) && (!decide ((60 : Int32) < 0) && decide (ix (60 : Int32) ≤ 60))) && cK σ_39 h0 13) && (!decide ((60 : Int32) < 0) && decide (ix (60 : Int32) ≤ 60))) && cK σ_41 h0 13) && cK σ_42 h0 13) && cA σ_42 (SR σ_42 h0 0) 21 (1 : Int32)) && cK σ_43 h0 13) && cA σ_43 (SR σ_43 h0 0) 21 (10 : Int32)) σ_44
  · intro x1 b σ; exact V_bad
  · intro L194 hL194 x1 b σ
    unfold b_Model_init_194
    refine V_iload_n 195 rfl (show decode M_Model_init.2.1 194 = .ok (.iload_n 1, 1) by decide +kernel) 1 rfl ?_
    refine V_bipush 197 rfl (show decode M_Model_init.2.1 195 = .ok (.bipush 7, 2) by decide +kernel) (v := 7) rfl ?_
    refine V_icmpge 200 216 rfl (show decode M_Model_init.2.1 197 = .ok (.if_icmp .ge 19, 3) by decide +kernel) rfl ?_ ?_
    · skip
      refine V_aload_n 201 rfl (show decode M_Model_init.2.1 200 = .ok (.aload_n 0, 1) by decide +kernel) 0 rfl ?_
      refine V_get (j := 0) (v := vR (SR σ h0 0)) 204 rfl ck_Model (by decide) (by decide) (show decode M_Model_init.2.1 201 = .ok (.getfield 7, 3) by decide +kernel) wd_1504 rfl ?_
      refine V_bipush 206 rfl (show decode M_Model_init.2.1 204 = .ok (.bipush 14, 2) by decide +kernel) (v := 14) rfl ?_
      refine V_iload_n 207 rfl (show decode M_Model_init.2.1 206 = .ok (.iload_n 1, 1) by decide +kernel) 1 rfl ?_
      refine V_iadd 208 rfl (show decode M_Model_init.2.1 207 = .ok (.iadd, 1) by decide +kernel) ?_
      refine V_iconst 209 rfl (show decode M_Model_init.2.1 208 = .ok (.iconst 1, 1) by decide +kernel) (v := 1) rfl ?_
      refine V_ast_int 210 rfl (show decode M_Model_init.2.1 209 = .ok (.iastore, 1) by decide +kernel) (fun σ_46 => ?_)
      refine V_iinc (fun x1_47 => [(1, vI x1_47), (0, vR h0)]) 213 rfl (show decode M_Model_init.2.1 210 = .ok (.iinc 1 1, 3) by decide +kernel) 1 rfl (w := 1) rfl (by decide) (fun _ => rfl) (fun x1_47 => ?_)
      refine V_goto 194 (show decode M_Model_init.2.1 213 = .ok (.goto (-19), 3) by decide +kernel) rfl ?_
      exact V_sub [1, 0] rfl (hL194 x1_47 ((b && cK σ h0 13) && cA σ (SR σ h0 0) 21 ((14 : Int32) + x1)) σ_46)
    · skip
      refine V_iconst 217 rfl (show decode M_Model_init.2.1 216 = .ok (.iconst 0, 1) by decide +kernel) (v := 0) rfl ?_
      refine V_istore_n (fun x1_48 => [(1, vI x1_48), (0, vR h0)]) 218 rfl (show decode M_Model_init.2.1 217 = .ok (.istore_n 1, 1) by decide +kernel) (by decide) (fun _ => rfl) (fun x1_48 => ?_)
      refine V_sub [1, 0] rfl ?_
      refine lp_P (fun (L218 : Int32 → Bool → Sto → Rs Unit) => ∀ (x1 : Int32) (b : Bool) (σ : Sto), V M_Model_init 1 21 10362 21 10362 tU (L218 x1 b σ) 218 [(0, vR h0), (1, vI x1)] [] b σ) ?_ ?_ fuel_ x1_48 b σ
      · intro x1 b σ; exact V_bad
      · intro L218 hL218 x1 b σ
        unfold b_Model_init_218
        refine V_iload_n 219 rfl (show decode M_Model_init.2.1 218 = .ok (.iload_n 1, 1) by decide +kernel) 1 rfl ?_
        refine V_iconst 220 rfl (show decode M_Model_init.2.1 219 = .ok (.iconst 4, 1) by decide +kernel) (v := 4) rfl ?_
        refine V_icmpge 223 236 rfl (show decode M_Model_init.2.1 220 = .ok (.if_icmp .ge 16, 3) by decide +kernel) rfl ?_ ?_
        · skip
          refine V_aload_n 224 rfl (show decode M_Model_init.2.1 223 = .ok (.aload_n 0, 1) by decide +kernel) 0 rfl ?_
          refine V_get (j := 4) (v := vR (SR σ h0 4)) 227 rfl ck_Model (by decide) (by decide) (show decode M_Model_init.2.1 224 = .ok (.getfield 19, 3) by decide +kernel) wd_1508 rfl ?_
          refine V_iload_n 228 rfl (show decode M_Model_init.2.1 227 = .ok (.iload_n 1, 1) by decide +kernel) 1 rfl ?_
          refine V_iconst 229 rfl (show decode M_Model_init.2.1 228 = .ok (.iconst (-1), 1) by decide +kernel) (v := -1) rfl ?_
          refine V_ast_int 230 rfl (show decode M_Model_init.2.1 229 = .ok (.iastore, 1) by decide +kernel) (fun σ_49 => ?_)
          refine V_iinc (fun x1_50 => [(1, vI x1_50), (0, vR h0)]) 233 rfl (show decode M_Model_init.2.1 230 = .ok (.iinc 1 1, 3) by decide +kernel) 1 rfl (w := 1) rfl (by decide) (fun _ => rfl) (fun x1_50 => ?_)
          refine V_goto 218 (show decode M_Model_init.2.1 233 = .ok (.goto (-15), 3) by decide +kernel) rfl ?_
          exact V_sub [1, 0] rfl (hL218 x1_50 ((b && cK σ h0 13) && cA σ (SR σ h0 4) 21 x1) σ_49)
        · skip
          refine V_iconst 237 rfl (show decode M_Model_init.2.1 236 = .ok (.iconst 1, 1) by decide +kernel) (v := 1) rfl ?_
          refine V_istore_n (fun x1_51 => [(1, vI x1_51), (0, vR h0)]) 238 rfl (show decode M_Model_init.2.1 237 = .ok (.istore_n 1, 1) by decide +kernel) (by decide) (fun _ => rfl) (fun x1_51 => ?_)
          refine V_sub [1, 0] rfl ?_
          refine lp_P (fun (L238 : Int32 → Bool → Sto → Rs Unit) => ∀ (x1 : Int32) (b : Bool) (σ : Sto), V M_Model_init 1 21 10362 21 10362 tU (L238 x1 b σ) 238 [(0, vR h0), (1, vI x1)] [] b σ) ?_ ?_ fuel_ x1_51 b σ
          · intro x1 b σ; exact V_bad
          · intro L238 hL238 x1 b σ
            unfold b_Model_init_238
            refine V_iload_n 239 rfl (show decode M_Model_init.2.1 238 = .ok (.iload_n 1, 1) by decide +kernel) 1 rfl ?_
            refine V_iconst 240 rfl (show decode M_Model_init.2.1 239 = .ok (.iconst 4, 1) by decide +kernel) (v := 4) rfl ?_
            refine V_icmpge 243 259 rfl (show decode M_Model_init.2.1 240 = .ok (.if_icmp .ge 19, 3) by decide +kernel) rfl ?_ ?_
            · skip
              refine V_aload_n 244 rfl (show decode M_Model_init.2.1 243 = .ok (.aload_n 0, 1) by decide +kernel) 0 rfl ?_
              refine V_get (j := 0) (v := vR (SR σ h0 0)) 247 rfl ck_Model (by decide) (by decide) (show decode M_Model_init.2.1 244 = .ok (.getfield 7, 3) by decide +kernel) wd_1504 rfl ?_
              refine V_bipush 249 rfl (show decode M_Model_init.2.1 247 = .ok (.bipush 10, 2) by decide +kernel) (v := 10) rfl ?_
              refine V_iload_n 250 rfl (show decode M_Model_init.2.1 249 = .ok (.iload_n 1, 1) by decide +kernel) 1 rfl ?_
              refine V_iadd 251 rfl (show decode M_Model_init.2.1 250 = .ok (.iadd, 1) by decide +kernel) ?_
              refine V_iconst 252 rfl (show decode M_Model_init.2.1 251 = .ok (.iconst (-1), 1) by decide +kernel) (v := -1) rfl ?_
              refine V_ast_int 253 rfl (show decode M_Model_init.2.1 252 = .ok (.iastore, 1) by decide +kernel) (fun σ_52 => ?_)
              refine V_iinc (fun x1_53 => [(1, vI x1_53), (0, vR h0)]) 256 rfl (show decode M_Model_init.2.1 253 = .ok (.iinc 1 1, 3) by decide +kernel) 1 rfl (w := 1) rfl (by decide) (fun _ => rfl) (fun x1_53 => ?_)
              refine V_goto 238 (show decode M_Model_init.2.1 256 = .ok (.goto (-18), 3) by decide +kernel) rfl ?_
              exact V_sub [1, 0] rfl (hL238 x1_53 ((b && cK σ h0 13) && cA σ (SR σ h0 0) 21 ((10 : Int32) + x1)) σ_52)
            · skip
              exact V_vret rfl (by decide) (by decide) (show decode M_Model_init.2.1 259 = .ok (.return_, 1) by decide +kernel)
theorem cal_Model_init (d mc ms k n : Nat) (h1 : 1 + 1 ≤ d) (h2 : k + 21 ≤ mc) (h3 : n + 10362 ≤ ms) : Cal M_Model_init 1 21 10362 0 d mc ms k n := ⟨wd_1502, wd_181, by decide, h1, by decide, h2, h3⟩
abbrev M_Model_isIn : MD := (⟨"LongTrailModel", "isIn", "(JJJ)Z"⟩, prog_14_method_2_code, 6, (some FieldType.boolean))
def f_Model_isIn (l0 : Int64) (l2 : Int64) (l4 : Int64) (b : Bool) (σ : Sto) : Rs Int32 := (lt_ (fun (b : Bool) (σ : Sto) => ((0 : Int32), b, σ)) (fun J17 => (if (lg_cmp l0 l2) < 0 then (J17 b σ) else (if 0 < (lg_cmp l0 l4) then (J17 b σ) else ((1 : Int32), b, σ)))))
set_option maxRecDepth 100000 in
set_option maxHeartbeats 4000000 in
theorem s_Model_isIn : ∀ (l0 : Int64) (l2 : Int64) (l4 : Int64) (b : Bool) (σ : Sto), Snd M_Model_isIn 1 0 0 [vL l0, vL l2, vL l4] b σ (tI (f_Model_isIn l0 l2 l4 b σ).1) (f_Model_isIn l0 l2 l4 b σ).2.1 (f_Model_isIn l0 l2 l4 b σ).2.2 := by
  intro l0 l2 l4 b σ
  refine Snd_of (tv := tI) (by decide) (Nat.le_of_ble_eq_true rfl) ?_
  show V M_Model_isIn 1 0 0 0 0 tI (f_Model_isIn l0 l2 l4 b σ) 0 [(0, vL l0), (2, vL l2), (4, vL l4)] [] b σ
  unfold f_Model_isIn
  refine V_lload_n 1 rfl (show decode M_Model_isIn.2.1 0 = .ok (.lload_n 0, 1) by decide +kernel) 0 rfl ?_
  refine V_lload_n 2 rfl (show decode M_Model_isIn.2.1 1 = .ok (.lload_n 2, 1) by decide +kernel) 1 rfl ?_
  refine V_lcmp 3 rfl (show decode M_Model_isIn.2.1 2 = .ok (.lcmp, 1) by decide +kernel) ?_
  refine V_jn (fun (J17 : Bool → Sto → Rs Int32) => ∀ (b : Bool) (σ : Sto), V M_Model_isIn 1 0 0 0 0 tI (J17 b σ) 17 [] [] b σ) ?_ (fun J17 hJ17 => ?_)
  · intro b σ
    refine V_iconst 18 rfl (show decode M_Model_isIn.2.1 17 = .ok (.iconst 0, 1) by decide +kernel) (v := 0) rfl ?_
    exact V_zret rfl (by decide) (by decide) rfl (show decode M_Model_isIn.2.1 18 = .ok (.ireturn, 1) by decide +kernel)
  · skip
    refine V_iflt 6 17 rfl (show decode M_Model_isIn.2.1 3 = .ok (.ifCond .lt 14, 3) by decide +kernel) rfl ?_ ?_
    · skip
      exact V_sub [] rfl (hJ17 b σ)
    · skip
      refine V_lload_n 7 rfl (show decode M_Model_isIn.2.1 6 = .ok (.lload_n 0, 1) by decide +kernel) 0 rfl ?_
      refine V_lload 9 rfl (show decode M_Model_isIn.2.1 7 = .ok (.lload 4, 2) by decide +kernel) 2 rfl ?_
      refine V_lcmp 10 rfl (show decode M_Model_isIn.2.1 9 = .ok (.lcmp, 1) by decide +kernel) ?_
      refine V_ifgt 13 17 rfl (show decode M_Model_isIn.2.1 10 = .ok (.ifCond .gt 7, 3) by decide +kernel) rfl ?_ ?_
      · skip
        exact V_sub [] rfl (hJ17 b σ)
      · skip
        refine V_iconst 14 rfl (show decode M_Model_isIn.2.1 13 = .ok (.iconst 1, 1) by decide +kernel) (v := 1) rfl ?_
        refine V_goto 18 (show decode M_Model_isIn.2.1 14 = .ok (.goto 4, 3) by decide +kernel) rfl ?_
        exact V_zret rfl (by decide) (by decide) rfl (show decode M_Model_isIn.2.1 18 = .ok (.ireturn, 1) by decide +kernel)
theorem cal_Model_isIn (d mc ms k n : Nat) (h1 : 1 + 1 ≤ d) (h2 : k + 0 ≤ mc) (h3 : n + 0 ≤ ms) : Cal M_Model_isIn 1 0 0 3 d mc ms k n := ⟨wd_1619, wd_181, by decide, h1, by decide, h2, h3⟩
abbrev M_Model_isPlace : MD := (⟨"LongTrailModel", "isPlace", "(I)Z"⟩, prog_14_method_11_code, 2, (some FieldType.boolean))
def f_Model_isPlace (h0 : Nat) (x1 : Int32) (b : Bool) (σ : Sto) : Rs Int32 := (bd_ (f_Model_isIn ((x1).toInt64) (0 : Int64) ((((SI σ (SR σ h0 0) (ix (2 : Int32))) - (1 : Int32))).toInt64) ((b && cK σ h0 13) && cA σ (SR σ h0 0) 21 (2 : Int32)) σ) (fun (r_1 : Int32) (b_1 : Bool) (σ_1 : Sto) => (r_1, (b_1 && zok r_1), σ_1)))
set_option maxRecDepth 100000 in
set_option maxHeartbeats 4000000 in
theorem s_Model_isPlace : ∀ (h0 : Nat) (x1 : Int32) (b : Bool) (σ : Sto), Snd M_Model_isPlace 2 0 0 [vR h0, vI x1] b σ (tI (f_Model_isPlace h0 x1 b σ).1) (f_Model_isPlace h0 x1 b σ).2.1 (f_Model_isPlace h0 x1 b σ).2.2 := by
  intro h0 x1 b σ
  refine Snd_of (tv := tI) (by decide) (Nat.le_of_ble_eq_true rfl) ?_
  show V M_Model_isPlace 2 0 0 0 0 tI (f_Model_isPlace h0 x1 b σ) 0 [(0, vR h0), (1, vI x1)] [] b σ
  unfold f_Model_isPlace
  refine V_iload_n 1 rfl (show decode M_Model_isPlace.2.1 0 = .ok (.iload_n 1, 1) by decide +kernel) 1 rfl ?_
  refine V_i2l 2 rfl (show decode M_Model_isPlace.2.1 1 = .ok (.i2l, 1) by decide +kernel) ?_
  refine V_lconst 3 rfl (show decode M_Model_isPlace.2.1 2 = .ok (.lconst 0, 1) by decide +kernel) (v := 0) rfl ?_
  refine V_aload_n 4 rfl (show decode M_Model_isPlace.2.1 3 = .ok (.aload_n 0, 1) by decide +kernel) 0 rfl ?_
  refine V_get (j := 0) (v := vR (SR σ h0 0)) 7 rfl ck_Model (by decide) (by decide) (show decode M_Model_isPlace.2.1 4 = .ok (.getfield 7, 3) by decide +kernel) wd_1504 rfl ?_
  refine V_iconst 8 rfl (show decode M_Model_isPlace.2.1 7 = .ok (.iconst 2, 1) by decide +kernel) (v := 2) rfl ?_
  refine V_ald_int 9 rfl (show decode M_Model_isPlace.2.1 8 = .ok (.iaload, 1) by decide +kernel) ?_
  refine V_iconst 10 rfl (show decode M_Model_isPlace.2.1 9 = .ok (.iconst 1, 1) by decide +kernel) (v := 1) rfl ?_
  refine V_isub 11 rfl (show decode M_Model_isPlace.2.1 10 = .ok (.isub, 1) by decide +kernel) ?_
  refine V_i2l 12 rfl (show decode M_Model_isPlace.2.1 11 = .ok (.i2l, 1) by decide +kernel) ?_
  refine V_callS (tb := tI) (as := [vL ((x1).toInt64), vL (0 : Int64), vL ((((SI σ (SR σ h0 0) (ix (2 : Int32))) - (1 : Int32))).toInt64)]) (rest := []) (na := 3) 15 rfl (s_Model_isIn ((x1).toInt64) (0 : Int64) ((((SI σ (SR σ h0 0) (ix (2 : Int32))) - (1 : Int32))).toInt64) ((b && cK σ h0 13) && cA σ (SR σ h0 0) 21 (2 : Int32)) σ) rfl rfl (Nat.le_of_ble_eq_true rfl) (cal_Model_isIn _ _ _ _ _ (by decide) (by decide) (by decide)) (show decode M_Model_isPlace.2.1 12 = .ok (.invokestatic 76, 3) by decide +kernel) wd_1617 wd_1618 (fun r_1 b_1 σ_1 => ?_)
  show V M_Model_isPlace 2 0 0 0 0 tI _ 15 [(0, vR h0), (1, vI x1)] [vI r_1] b_1 σ_1
  exact V_zretc rfl (by decide) (by decide) (show decode M_Model_isPlace.2.1 15 = .ok (.ireturn, 1) by decide +kernel)
theorem cal_Model_isPlace (d mc ms k n : Nat) (h1 : 2 + 1 ≤ d) (h2 : k + 0 ≤ mc) (h3 : n + 0 ≤ ms) : Cal M_Model_isPlace 2 0 0 1 d mc ms k n := ⟨wd_1664, wd_181, by decide, h1, by decide, h2, h3⟩
abbrev M_Model_isWater : MD := (⟨"LongTrailModel", "isWater", "(I)Z"⟩, prog_14_method_19_code, 1, (some FieldType.boolean))
def f_Model_isWater (x0 : Int32) (b : Bool) (σ : Sto) : Rs Int32 := (lt_ (fun (b : Bool) (σ : Sto) => ((0 : Int32), b, σ)) (fun J13 => (if x0 = 0 then (J13 b σ) else (if x0 = (4 : Int32) then (J13 b σ) else ((1 : Int32), b, σ)))))
set_option maxRecDepth 100000 in
set_option maxHeartbeats 4000000 in
theorem s_Model_isWater : ∀ (x0 : Int32) (b : Bool) (σ : Sto), Snd M_Model_isWater 1 0 0 [vI x0] b σ (tI (f_Model_isWater x0 b σ).1) (f_Model_isWater x0 b σ).2.1 (f_Model_isWater x0 b σ).2.2 := by
  intro x0 b σ
  refine Snd_of (tv := tI) (by decide) (Nat.le_of_ble_eq_true rfl) ?_
  show V M_Model_isWater 1 0 0 0 0 tI (f_Model_isWater x0 b σ) 0 [(0, vI x0)] [] b σ
  unfold f_Model_isWater
  refine V_iload_n 1 rfl (show decode M_Model_isWater.2.1 0 = .ok (.iload_n 0, 1) by decide +kernel) 0 rfl ?_
  refine V_jn (fun (J13 : Bool → Sto → Rs Int32) => ∀ (b : Bool) (σ : Sto), V M_Model_isWater 1 0 0 0 0 tI (J13 b σ) 13 [] [] b σ) ?_ (fun J13 hJ13 => ?_)
  · intro b σ
    refine V_iconst 14 rfl (show decode M_Model_isWater.2.1 13 = .ok (.iconst 0, 1) by decide +kernel) (v := 0) rfl ?_
    exact V_zret rfl (by decide) (by decide) rfl (show decode M_Model_isWater.2.1 14 = .ok (.ireturn, 1) by decide +kernel)
  · skip
    refine V_ifeq 4 13 rfl (show decode M_Model_isWater.2.1 1 = .ok (.ifCond .eq 12, 3) by decide +kernel) rfl ?_ ?_
    · skip
      exact V_sub [] rfl (hJ13 b σ)
    · skip
      refine V_iload_n 5 rfl (show decode M_Model_isWater.2.1 4 = .ok (.iload_n 0, 1) by decide +kernel) 0 rfl ?_
      refine V_iconst 6 rfl (show decode M_Model_isWater.2.1 5 = .ok (.iconst 4, 1) by decide +kernel) (v := 4) rfl ?_
      refine V_icmpeq 9 13 rfl (show decode M_Model_isWater.2.1 6 = .ok (.if_icmp .eq 7, 3) by decide +kernel) rfl ?_ ?_
      · skip
        exact V_sub [] rfl (hJ13 b σ)
      · skip
        refine V_iconst 10 rfl (show decode M_Model_isWater.2.1 9 = .ok (.iconst 1, 1) by decide +kernel) (v := 1) rfl ?_
        refine V_goto 14 (show decode M_Model_isWater.2.1 10 = .ok (.goto 4, 3) by decide +kernel) rfl ?_
        exact V_zret rfl (by decide) (by decide) rfl (show decode M_Model_isWater.2.1 14 = .ok (.ireturn, 1) by decide +kernel)
theorem cal_Model_isWater (d mc ms k n : Nat) (h1 : 1 + 1 ≤ d) (h2 : k + 0 ≤ mc) (h3 : n + 0 ≤ ms) : Cal M_Model_isWater 1 0 0 1 d mc ms k n := ⟨wd_1691, wd_181, by decide, h1, by decide, h2, h3⟩
abbrev M_Model_placeAt : MD := (⟨"LongTrailModel", "placeAt", "(I)I"⟩, prog_14_method_6_code, 2, (some FieldType.int))
def f_Model_placeAt (h0 : Nat) (x1 : Int32) (b : Bool) (σ : Sto) : Rs Int32 := (((30 : Int32) + ((4 : Int32) * x1)), b, σ)
set_option maxRecDepth 100000 in
set_option maxHeartbeats 4000000 in
theorem s_Model_placeAt : ∀ (h0 : Nat) (x1 : Int32) (b : Bool) (σ : Sto), Snd M_Model_placeAt 1 0 0 [vR h0, vI x1] b σ (tI (f_Model_placeAt h0 x1 b σ).1) (f_Model_placeAt h0 x1 b σ).2.1 (f_Model_placeAt h0 x1 b σ).2.2 := by
  intro h0 x1 b σ
  refine Snd_of (tv := tI) (by decide) (Nat.le_of_ble_eq_true rfl) ?_
  show V M_Model_placeAt 1 0 0 0 0 tI (f_Model_placeAt h0 x1 b σ) 0 [(0, vR h0), (1, vI x1)] [] b σ
  unfold f_Model_placeAt
  refine V_bipush 2 rfl (show decode M_Model_placeAt.2.1 0 = .ok (.bipush 30, 2) by decide +kernel) (v := 30) rfl ?_
  refine V_iconst 3 rfl (show decode M_Model_placeAt.2.1 2 = .ok (.iconst 4, 1) by decide +kernel) (v := 4) rfl ?_
  refine V_iload_n 4 rfl (show decode M_Model_placeAt.2.1 3 = .ok (.iload_n 1, 1) by decide +kernel) 1 rfl ?_
  refine V_imul 5 rfl (show decode M_Model_placeAt.2.1 4 = .ok (.imul, 1) by decide +kernel) ?_
  refine V_iadd 6 rfl (show decode M_Model_placeAt.2.1 5 = .ok (.iadd, 1) by decide +kernel) ?_
  exact V_iret rfl (by decide) (by decide) (show decode M_Model_placeAt.2.1 6 = .ok (.ireturn, 1) by decide +kernel)
theorem cal_Model_placeAt (d mc ms k n : Nat) (h1 : 1 + 1 ≤ d) (h2 : k + 0 ≤ mc) (h3 : n + 0 ≤ ms) : Cal M_Model_placeAt 1 0 0 1 d mc ms k n := ⟨wd_1628, wd_181, by decide, h1, by decide, h2, h3⟩
abbrev M_Model_kindOf : MD := (⟨"LongTrailModel", "kindOf", "(I)I"⟩, prog_14_method_15_code, 2, (some FieldType.int))
def f_Model_kindOf (h0 : Nat) (x1 : Int32) (b : Bool) (σ : Sto) : Rs Int32 := (bd_ (f_Model_placeAt h0 x1 ((b && cK σ h0 13) && cK σ h0 13) σ) (fun (r_1 : Int32) (b_1 : Bool) (σ_1 : Sto) => ((SI σ_1 (SR σ h0 0) (ix r_1)), (b_1 && cA σ_1 (SR σ h0 0) 21 r_1), σ_1)))
set_option maxRecDepth 100000 in
set_option maxHeartbeats 4000000 in
theorem s_Model_kindOf : ∀ (h0 : Nat) (x1 : Int32) (b : Bool) (σ : Sto), Snd M_Model_kindOf 2 0 0 [vR h0, vI x1] b σ (tI (f_Model_kindOf h0 x1 b σ).1) (f_Model_kindOf h0 x1 b σ).2.1 (f_Model_kindOf h0 x1 b σ).2.2 := by
  intro h0 x1 b σ
  refine Snd_of (tv := tI) (by decide) (Nat.le_of_ble_eq_true rfl) ?_
  show V M_Model_kindOf 2 0 0 0 0 tI (f_Model_kindOf h0 x1 b σ) 0 [(0, vR h0), (1, vI x1)] [] b σ
  unfold f_Model_kindOf
  refine V_aload_n 1 rfl (show decode M_Model_kindOf.2.1 0 = .ok (.aload_n 0, 1) by decide +kernel) 0 rfl ?_
  refine V_get (j := 0) (v := vR (SR σ h0 0)) 4 rfl ck_Model (by decide) (by decide) (show decode M_Model_kindOf.2.1 1 = .ok (.getfield 7, 3) by decide +kernel) wd_1504 rfl ?_
  refine V_aload_n 5 rfl (show decode M_Model_kindOf.2.1 4 = .ok (.aload_n 0, 1) by decide +kernel) 0 rfl ?_
  refine V_iload_n 6 rfl (show decode M_Model_kindOf.2.1 5 = .ok (.iload_n 1, 1) by decide +kernel) 1 rfl ?_
  refine V_callV (tb := tI) (as := [vI x1]) (rest := [vR (SR σ h0 0)]) (na := 1) 9 rfl ck_Model (by decide) (s_Model_placeAt h0 x1 ((b && cK σ h0 13) && cK σ h0 13) σ) rfl rfl (Nat.le_of_ble_eq_true rfl) (cal_Model_placeAt _ _ _ _ _ (by decide) (by decide) (by decide)) (show decode M_Model_kindOf.2.1 6 = .ok (.invokevirtual 80, 3) by decide +kernel) wd_1625 wd_1627 wd_113 (fun r_1 b_1 σ_1 => ?_)
  show V M_Model_kindOf 2 0 0 0 0 tI _ 9 [(0, vR h0), (1, vI x1)] [vI r_1, vR (SR σ h0 0)] b_1 σ_1
  refine V_ald_int 10 rfl (show decode M_Model_kindOf.2.1 9 = .ok (.iaload, 1) by decide +kernel) ?_
  exact V_iret rfl (by decide) (by decide) (show decode M_Model_kindOf.2.1 10 = .ok (.ireturn, 1) by decide +kernel)
theorem cal_Model_kindOf (d mc ms k n : Nat) (h1 : 2 + 1 ≤ d) (h2 : k + 0 ≤ mc) (h3 : n + 0 ≤ ms) : Cal M_Model_kindOf 2 0 0 1 d mc ms k n := ⟨wd_1688, wd_181, by decide, h1, by decide, h2, h3⟩
abbrev M_Model_as : MD := (⟨"LongTrailModel", "as", "(II)I"⟩, prog_14_method_26_code, 5, (some FieldType.int))
def f_Model_as (h0 : Nat) (x1 : Int32) (x2 : Int32) (b : Bool) (σ : Sto) : Rs Int32 := (bd_ (f_Model_isPlace h0 x1 (b && cK σ h0 13) σ) (fun (r_1 : Int32) (b_1 : Bool) (σ_1 : Sto) => (lt_ (fun (b : Bool) (σ : Sto) => ((-1000000001 : Int32), b, σ)) (fun J20 => (if r_1 = 0 then (J20 b_1 σ_1) else (bd_ (f_Model_isIn ((x2).toInt64) (0 : Int64) (5 : Int64) b_1 σ_1) (fun (r_2 : Int32) (b_2 : Bool) (σ_2 : Sto) => (if r_2 = 0 then (J20 b_2 σ_2) else (bd_ (f_Model_kindOf h0 x1 (b_2 && cK σ_2 h0 13) σ_2) (fun (r_3 : Int32) (b_3 : Bool) (σ_3 : Sto) => (lt_ r_3 (fun (x3_4 : Int32) => (lt_ (fun (s0_65 : Int32) (b : Bool) (σ : Sto) => (lt_ s0_65 (fun (x4_5 : Int32) => (if x4_5 = 0 then ((-1000000012 : Int32), b, σ) else (bd_ (f_Model_placeAt h0 x1 ((b && cK σ h0 13) && cK σ h0 13) σ) (fun (r_6 : Int32) (b_6 : Bool) (σ_6 : Sto) => ((SI σ_6 (SR σ h0 0) (ix (r_6 + (2 : Int32)))), (b_6 && cA σ_6 (SR σ h0 0) 21 (r_6 + (2 : Int32))), σ_6))))))) (fun J65 => (lt_ (fun (b : Bool) (σ : Sto) => (J65 (1 : Int32) b σ)) (fun J60 => (if x2 = 0 then (J60 b_3 σ_3) else (if x2 = x3_4 then (J60 b_3 σ_3) else (lt_ (fun (b : Bool) (σ : Sto) => (lt_ (fun (b : Bool) (σ : Sto) => (J65 (0 : Int32) b σ)) (fun J64 => (if x2 = (2 : Int32) then (if x3_4 = (3 : Int32) then (J60 b σ) else (J64 b σ)) else (J64 b σ))))) (fun J50 => (if x2 = (1 : Int32) then (bd_ (f_Model_isWater x3_4 b_3 σ_3) (fun (r_7 : Int32) (b_7 : Bool) (σ_7 : Sto) => (if r_7 = 0 then (J50 b_7 σ_7) else (J60 b_7 σ_7)))) else (J50 b_3 σ_3))))))))))))))))))))))
set_option maxRecDepth 100000 in
set_option maxHeartbeats 4000000 in
theorem s_Model_as : ∀ (h0 : Nat) (x1 : Int32) (x2 : Int32) (b : Bool) (σ : Sto), Snd M_Model_as 3 0 0 [vR h0, vI x1, vI x2] b σ (tI (f_Model_as h0 x1 x2 b σ).1) (f_Model_as h0 x1 x2 b σ).2.1 (f_Model_as h0 x1 x2 b σ).2.2 := by
  intro h0 x1 x2 b σ
  refine Snd_of (tv := tI) (by decide) (Nat.le_of_ble_eq_true rfl) ?_
  show V M_Model_as 3 0 0 0 0 tI (f_Model_as h0 x1 x2 b σ) 0 [(0, vR h0), (1, vI x1), (2, vI x2)] [] b σ
  unfold f_Model_as
  refine V_aload_n 1 rfl (show decode M_Model_as.2.1 0 = .ok (.aload_n 0, 1) by decide +kernel) 0 rfl ?_
  refine V_iload_n 2 rfl (show decode M_Model_as.2.1 1 = .ok (.iload_n 1, 1) by decide +kernel) 1 rfl ?_
  refine V_callV (tb := tI) (as := [vI x1]) (rest := []) (na := 1) 5 rfl ck_Model (by decide) (s_Model_isPlace h0 x1 (b && cK σ h0 13) σ) rfl rfl (Nat.le_of_ble_eq_true rfl) (cal_Model_isPlace _ _ _ _ _ (by decide) (by decide) (by decide)) (show decode M_Model_as.2.1 2 = .ok (.invokevirtual 123, 3) by decide +kernel) wd_1661 wd_1663 wd_118 (fun r_1 b_1 σ_1 => ?_)
  show V M_Model_as 3 0 0 0 0 tI _ 5 [(0, vR h0), (1, vI x1), (2, vI x2)] [vI r_1] b_1 σ_1
  refine V_jn (fun (J20 : Bool → Sto → Rs Int32) => ∀ (b : Bool) (σ : Sto), V M_Model_as 3 0 0 0 0 tI (J20 b σ) 20 [] [] b σ) ?_ (fun J20 hJ20 => ?_)
  · intro b σ
    refine V_ldc 22 rfl (show decode M_Model_as.2.1 20 = .ok (.ldc 91, 2) by decide +kernel) wd_1620 ?_
    exact V_iret rfl (by decide) (by decide) (show decode M_Model_as.2.1 22 = .ok (.ireturn, 1) by decide +kernel)
  · skip
    refine V_ifeq 8 20 rfl (show decode M_Model_as.2.1 5 = .ok (.ifCond .eq 15, 3) by decide +kernel) rfl ?_ ?_
    · skip
      exact V_sub [] rfl (hJ20 b_1 σ_1)
    · skip
      refine V_iload_n 9 rfl (show decode M_Model_as.2.1 8 = .ok (.iload_n 2, 1) by decide +kernel) 2 rfl ?_
      refine V_i2l 10 rfl (show decode M_Model_as.2.1 9 = .ok (.i2l, 1) by decide +kernel) ?_
      refine V_lconst 11 rfl (show decode M_Model_as.2.1 10 = .ok (.lconst 0, 1) by decide +kernel) (v := 0) rfl ?_
      refine V_ldc2 14 rfl (show decode M_Model_as.2.1 11 = .ok (.ldc2_w 111, 3) by decide +kernel) wd_1647 ?_
      refine V_callS (tb := tI) (as := [vL ((x2).toInt64), vL (0 : Int64), vL (5 : Int64)]) (rest := []) (na := 3) 17 rfl (s_Model_isIn ((x2).toInt64) (0 : Int64) (5 : Int64) b_1 σ_1) rfl rfl (Nat.le_of_ble_eq_true rfl) (cal_Model_isIn _ _ _ _ _ (by decide) (by decide) (by decide)) (show decode M_Model_as.2.1 14 = .ok (.invokestatic 76, 3) by decide +kernel) wd_1617 wd_1618 (fun r_2 b_2 σ_2 => ?_)
      show V M_Model_as 3 0 0 0 0 tI _ 17 [(0, vR h0), (1, vI x1), (2, vI x2)] [vI r_2] b_2 σ_2
      refine V_ifne 20 23 rfl (show decode M_Model_as.2.1 17 = .ok (.ifCond .ne 6, 3) by decide +kernel) rfl ?_ ?_
      · skip
        exact V_sub [] rfl (hJ20 b_2 σ_2)
      · skip
        refine V_aload_n 24 rfl (show decode M_Model_as.2.1 23 = .ok (.aload_n 0, 1) by decide +kernel) 0 rfl ?_
        refine V_iload_n 25 rfl (show decode M_Model_as.2.1 24 = .ok (.iload_n 1, 1) by decide +kernel) 1 rfl ?_
        refine V_callV (tb := tI) (as := [vI x1]) (rest := []) (na := 1) 28 rfl ck_Model (by decide) (s_Model_kindOf h0 x1 (b_2 && cK σ_2 h0 13) σ_2) rfl rfl (Nat.le_of_ble_eq_true rfl) (cal_Model_kindOf _ _ _ _ _ (by decide) (by decide) (by decide)) (show decode M_Model_as.2.1 25 = .ok (.invokevirtual 132, 3) by decide +kernel) wd_1685 wd_1687 wd_123 (fun r_3 b_3 σ_3 => ?_)
        show V M_Model_as 3 0 0 0 0 tI _ 28 [(0, vR h0), (1, vI x1), (2, vI x2)] [vI r_3] b_3 σ_3
        refine V_istore_n (fun x3_4 => [(3, vI x3_4), (0, vR h0), (1, vI x1), (2, vI x2)]) 29 rfl (show decode M_Model_as.2.1 28 = .ok (.istore_n 3, 1) by decide +kernel) (by decide) (fun _ => rfl) (fun x3_4 => ?_)
        refine V_iload_n 30 rfl (show decode M_Model_as.2.1 29 = .ok (.iload_n 2, 1) by decide +kernel) 3 rfl ?_
        refine V_jn (fun (J65 : Int32 → Bool → Sto → Rs Int32) => ∀ (s0_65 : Int32) (b : Bool) (σ : Sto), V M_Model_as 3 0 0 0 0 tI (J65 s0_65 b σ) 65 [(0, vR h0), (1, vI x1)] [vI s0_65] b σ) ?_ (fun J65 hJ65 => ?_)
        · intro s0_65 b σ
          refine V_istore (fun x4_5 => [(4, vI x4_5), (0, vR h0), (1, vI x1)]) 67 rfl (show decode M_Model_as.2.1 65 = .ok (.istore 4, 2) by decide +kernel) (by decide) (fun _ => rfl) (fun x4_5 => ?_)
          refine V_iload 69 rfl (show decode M_Model_as.2.1 67 = .ok (.iload 4, 2) by decide +kernel) 0 rfl ?_
          refine V_ifeq 72 87 rfl (show decode M_Model_as.2.1 69 = .ok (.ifCond .eq 18, 3) by decide +kernel) rfl ?_ ?_
          · skip
            refine V_ldc 89 rfl (show decode M_Model_as.2.1 87 = .ok (.ldc 138, 2) by decide +kernel) wd_1692 ?_
            exact V_iret rfl (by decide) (by decide) (show decode M_Model_as.2.1 89 = .ok (.ireturn, 1) by decide +kernel)
          · skip
            refine V_aload_n 73 rfl (show decode M_Model_as.2.1 72 = .ok (.aload_n 0, 1) by decide +kernel) 1 rfl ?_
            refine V_get (j := 0) (v := vR (SR σ h0 0)) 76 rfl ck_Model (by decide) (by decide) (show decode M_Model_as.2.1 73 = .ok (.getfield 7, 3) by decide +kernel) wd_1504 rfl ?_
            refine V_aload_n 77 rfl (show decode M_Model_as.2.1 76 = .ok (.aload_n 0, 1) by decide +kernel) 1 rfl ?_
            refine V_iload_n 78 rfl (show decode M_Model_as.2.1 77 = .ok (.iload_n 1, 1) by decide +kernel) 2 rfl ?_
            refine V_callV (tb := tI) (as := [vI x1]) (rest := [vR (SR σ h0 0)]) (na := 1) 81 rfl ck_Model (by decide) (s_Model_placeAt h0 x1 ((b && cK σ h0 13) && cK σ h0 13) σ) rfl rfl (Nat.le_of_ble_eq_true rfl) (cal_Model_placeAt _ _ _ _ _ (by decide) (by decide) (by decide)) (show decode M_Model_as.2.1 78 = .ok (.invokevirtual 80, 3) by decide +kernel) wd_1625 wd_1627 wd_113 (fun r_6 b_6 σ_6 => ?_)
            show V M_Model_as 3 0 0 0 0 tI _ 81 [(4, vI x4_5), (0, vR h0), (1, vI x1)] [vI r_6, vR (SR σ h0 0)] b_6 σ_6
            refine V_iconst 82 rfl (show decode M_Model_as.2.1 81 = .ok (.iconst 2, 1) by decide +kernel) (v := 2) rfl ?_
            refine V_iadd 83 rfl (show decode M_Model_as.2.1 82 = .ok (.iadd, 1) by decide +kernel) ?_
            refine V_ald_int 84 rfl (show decode M_Model_as.2.1 83 = .ok (.iaload, 1) by decide +kernel) ?_
            refine V_goto 89 (show decode M_Model_as.2.1 84 = .ok (.goto 5, 3) by decide +kernel) rfl ?_
            exact V_iret rfl (by decide) (by decide) (show decode M_Model_as.2.1 89 = .ok (.ireturn, 1) by decide +kernel)
        · skip
          refine V_jn (fun (J60 : Bool → Sto → Rs Int32) => ∀ (b : Bool) (σ : Sto), V M_Model_as 3 0 0 0 0 tI (J60 b σ) 60 [(0, vR h0), (1, vI x1)] [] b σ) ?_ (fun J60 hJ60 => ?_)
          · intro b σ
            refine V_iconst 61 rfl (show decode M_Model_as.2.1 60 = .ok (.iconst 1, 1) by decide +kernel) (v := 1) rfl ?_
            refine V_goto 65 (show decode M_Model_as.2.1 61 = .ok (.goto 4, 3) by decide +kernel) rfl ?_
            exact V_sub [0, 1] rfl (hJ65 (1 : Int32) b σ)
          · skip
            refine V_ifeq 33 60 rfl (show decode M_Model_as.2.1 30 = .ok (.ifCond .eq 30, 3) by decide +kernel) rfl ?_ ?_
            · skip
              exact V_sub [1, 2] rfl (hJ60 b_3 σ_3)
            · skip
              refine V_iload_n 34 rfl (show decode M_Model_as.2.1 33 = .ok (.iload_n 2, 1) by decide +kernel) 3 rfl ?_
              refine V_iload_n 35 rfl (show decode M_Model_as.2.1 34 = .ok (.iload_n 3, 1) by decide +kernel) 0 rfl ?_
              refine V_icmpeq 38 60 rfl (show decode M_Model_as.2.1 35 = .ok (.if_icmp .eq 25, 3) by decide +kernel) rfl ?_ ?_
              · skip
                exact V_sub [1, 2] rfl (hJ60 b_3 σ_3)
              · skip
                refine V_iload_n 39 rfl (show decode M_Model_as.2.1 38 = .ok (.iload_n 2, 1) by decide +kernel) 3 rfl ?_
                refine V_iconst 40 rfl (show decode M_Model_as.2.1 39 = .ok (.iconst 1, 1) by decide +kernel) (v := 1) rfl ?_
                refine V_jn (fun (J50 : Bool → Sto → Rs Int32) => ∀ (b : Bool) (σ : Sto), V M_Model_as 3 0 0 0 0 tI (J50 b σ) 50 [(0, vR h0), (1, vI x1), (2, vI x2), (3, vI x3_4)] [] b σ) ?_ (fun J50 hJ50 => ?_)
                · intro b σ
                  refine V_iload_n 51 rfl (show decode M_Model_as.2.1 50 = .ok (.iload_n 2, 1) by decide +kernel) 2 rfl ?_
                  refine V_iconst 52 rfl (show decode M_Model_as.2.1 51 = .ok (.iconst 2, 1) by decide +kernel) (v := 2) rfl ?_
                  refine V_jn (fun (J64 : Bool → Sto → Rs Int32) => ∀ (b : Bool) (σ : Sto), V M_Model_as 3 0 0 0 0 tI (J64 b σ) 64 [(0, vR h0), (1, vI x1)] [] b σ) ?_ (fun J64 hJ64 => ?_)
                  · intro b σ
                    refine V_iconst 65 rfl (show decode M_Model_as.2.1 64 = .ok (.iconst 0, 1) by decide +kernel) (v := 0) rfl ?_
                    exact V_sub [0, 1] rfl (hJ65 (0 : Int32) b σ)
                  · skip
                    refine V_icmpne 55 64 rfl (show decode M_Model_as.2.1 52 = .ok (.if_icmp .ne 12, 3) by decide +kernel) rfl ?_ ?_
                    · skip
                      refine V_iload_n 56 rfl (show decode M_Model_as.2.1 55 = .ok (.iload_n 3, 1) by decide +kernel) 3 rfl ?_
                      refine V_iconst 57 rfl (show decode M_Model_as.2.1 56 = .ok (.iconst 3, 1) by decide +kernel) (v := 3) rfl ?_
                      refine V_icmpne 60 64 rfl (show decode M_Model_as.2.1 57 = .ok (.if_icmp .ne 7, 3) by decide +kernel) rfl ?_ ?_
                      · skip
                        exact V_sub [0, 1] rfl (hJ60 b σ)
                      · skip
                        exact V_sub [0, 1] rfl (hJ64 b σ)
                    · skip
                      exact V_sub [0, 1] rfl (hJ64 b σ)
                · skip
                  refine V_icmpne 43 50 rfl (show decode M_Model_as.2.1 40 = .ok (.if_icmp .ne 10, 3) by decide +kernel) rfl ?_ ?_
                  · skip
                    refine V_iload_n 44 rfl (show decode M_Model_as.2.1 43 = .ok (.iload_n 3, 1) by decide +kernel) 0 rfl ?_
                    refine V_callS (tb := tI) (as := [vI x3_4]) (rest := []) (na := 1) 47 rfl (s_Model_isWater x3_4 b_3 σ_3) rfl rfl (Nat.le_of_ble_eq_true rfl) (cal_Model_isWater _ _ _ _ _ (by decide) (by decide) (by decide)) (show decode M_Model_as.2.1 44 = .ok (.invokestatic 135, 3) by decide +kernel) wd_1689 wd_1690 (fun r_7 b_7 σ_7 => ?_)
                    show V M_Model_as 3 0 0 0 0 tI _ 47 [(3, vI x3_4), (0, vR h0), (1, vI x1), (2, vI x2)] [vI r_7] b_7 σ_7
                    refine V_ifne 50 60 rfl (show decode M_Model_as.2.1 47 = .ok (.ifCond .ne 13, 3) by decide +kernel) rfl ?_ ?_
                    · skip
                      exact V_sub [1, 2, 3, 0] rfl (hJ50 b_7 σ_7)
                    · skip
                      exact V_sub [1, 2] rfl (hJ60 b_7 σ_7)
                  · skip
                    exact V_sub [1, 2, 3, 0] rfl (hJ50 b_3 σ_3)
theorem cal_Model_as (d mc ms k n : Nat) (h1 : 3 + 1 ≤ d) (h2 : k + 0 ≤ mc) (h3 : n + 0 ≤ ms) : Cal M_Model_as 3 0 0 2 d mc ms k n := ⟨wd_1684, wd_181, by decide, h1, by decide, h2, h3⟩
abbrev M_Model_setAside : MD := (⟨"LongTrailModel", "setAside", "([I[I)V"⟩, prog_14_method_81_code, 4, (none : Option FieldType))
def b_Model_setAside_2 (h1 : Nat) (h2 : Nat) (L2 : Int32 → Bool → Sto → Rs Unit) (x3 : Int32) (b : Bool) (σ : Sto) : Rs Unit := (if x3 < (3210 : Int32) then (lt_ (pI σ h2 (ix x3) (SI σ h1 (ix x3))) (fun (σ_2 : Sto) => (lt_ (x3 + (1 : Int32)) (fun (x3_3 : Int32) => (L2 x3_3 ((b && cA σ h1 21 x3) && cA σ h2 21 x3) σ_2))))) else ((), b, σ))
def f_Model_setAside (h0 : Nat) (h1 : Nat) (h2 : Nat) (b : Bool) (σ : Sto) : Rs Unit := (lt_ (0 : Int32) (fun (x3_1 : Int32) => (lp_ (b_Model_setAside_2 h1 h2) (fun (x3 : Int32) (b : Bool) (σ : Sto) => ((), false, σ)) fuel_ x3_1 b σ)))
set_option maxRecDepth 100000 in
set_option maxHeartbeats 4000000 in
theorem s_Model_setAside : ∀ (h0 : Nat) (h1 : Nat) (h2 : Nat) (b : Bool) (σ : Sto), Snd M_Model_setAside 1 0 0 [vR h0, vR h1, vR h2] b σ (tU (f_Model_setAside h0 h1 h2 b σ).1) (f_Model_setAside h0 h1 h2 b σ).2.1 (f_Model_setAside h0 h1 h2 b σ).2.2 := by
  intro h0 h1 h2 b σ
  refine Snd_of (tv := tU) (by decide) (Nat.le_of_ble_eq_true rfl) ?_
  show V M_Model_setAside 1 0 0 0 0 tU (f_Model_setAside h0 h1 h2 b σ) 0 [(0, vR h0), (1, vR h1), (2, vR h2)] [] b σ
  unfold f_Model_setAside
  refine V_iconst 1 rfl (show decode M_Model_setAside.2.1 0 = .ok (.iconst 0, 1) by decide +kernel) (v := 0) rfl ?_
  refine V_istore_n (fun x3_1 => [(3, vI x3_1), (0, vR h0), (1, vR h1), (2, vR h2)]) 2 rfl (show decode M_Model_setAside.2.1 1 = .ok (.istore_n 3, 1) by decide +kernel) (by decide) (fun _ => rfl) (fun x3_1 => ?_)
  refine V_sub [2, 3, 0] rfl ?_
  refine lp_P (fun (L2 : Int32 → Bool → Sto → Rs Unit) => ∀ (x3 : Int32) (b : Bool) (σ : Sto), V M_Model_setAside 1 0 0 0 0 tU (L2 x3 b σ) 2 [(1, vR h1), (2, vR h2), (3, vI x3)] [] b σ) ?_ ?_ fuel_ x3_1 b σ
  · intro x3 b σ; exact V_bad
  · intro L2 hL2 x3 b σ
    unfold b_Model_setAside_2
    refine V_iload_n 3 rfl (show decode M_Model_setAside.2.1 2 = .ok (.iload_n 3, 1) by decide +kernel) 2 rfl ?_
    refine V_sipush 6 rfl (show decode M_Model_setAside.2.1 3 = .ok (.sipush 3210, 3) by decide +kernel) (v := 3210) rfl ?_
    refine V_icmpge 9 21 rfl (show decode M_Model_setAside.2.1 6 = .ok (.if_icmp .ge 15, 3) by decide +kernel) rfl ?_ ?_
    · skip
      refine V_aload_n 10 rfl (show decode M_Model_setAside.2.1 9 = .ok (.aload_n 2, 1) by decide +kernel) 1 rfl ?_
      refine V_iload_n 11 rfl (show decode M_Model_setAside.2.1 10 = .ok (.iload_n 3, 1) by decide +kernel) 2 rfl ?_
      refine V_aload_n 12 rfl (show decode M_Model_setAside.2.1 11 = .ok (.aload_n 1, 1) by decide +kernel) 0 rfl ?_
      refine V_iload_n 13 rfl (show decode M_Model_setAside.2.1 12 = .ok (.iload_n 3, 1) by decide +kernel) 2 rfl ?_
      refine V_ald_int 14 rfl (show decode M_Model_setAside.2.1 13 = .ok (.iaload, 1) by decide +kernel) ?_
      refine V_ast_int 15 rfl (show decode M_Model_setAside.2.1 14 = .ok (.iastore, 1) by decide +kernel) (fun σ_2 => ?_)
      refine V_iinc (fun x3_3 => [(3, vI x3_3), (1, vR h1), (2, vR h2)]) 18 rfl (show decode M_Model_setAside.2.1 15 = .ok (.iinc 3 1, 3) by decide +kernel) 2 rfl (w := 1) rfl (by decide) (fun _ => rfl) (fun x3_3 => ?_)
      refine V_goto 2 (show decode M_Model_setAside.2.1 18 = .ok (.goto (-16), 3) by decide +kernel) rfl ?_
      exact V_sub [1, 2, 0] rfl (hL2 x3_3 ((b && cA σ h1 21 x3) && cA σ h2 21 x3) σ_2)
    · skip
      exact V_vret rfl (by decide) (by decide) (show decode M_Model_setAside.2.1 21 = .ok (.return_, 1) by decide +kernel)
theorem cal_Model_setAside (d mc ms k n : Nat) (h1 : 1 + 1 ≤ d) (h2 : k + 0 ≤ mc) (h3 : n + 0 ≤ ms) : Cal M_Model_setAside 1 0 0 2 d mc ms k n := ⟨wd_1949, wd_181, by decide, h1, by decide, h2, h3⟩
abbrev M_Model_back : MD := (⟨"LongTrailModel", "back", "()I"⟩, prog_14_method_112_code, 1, (some FieldType.int))
def f_Model_back (h0 : Nat) (b : Bool) (σ : Sto) : Rs Int32 := (if (SI σ h0 3) = 0 then ((-1000000002 : Int32), (b && cK σ h0 13), σ) else (bd_ (f_Model_setAside h0 (SR σ h0 1) (SR σ h0 0) ((((b && cK σ h0 13) && cK σ h0 13) && cK σ h0 13) && cK σ h0 13) σ) (fun (r_1 : Unit) (b_1 : Bool) (σ_1 : Sto) => ((SI σ_1 (SR σ_1 h0 0) (ix (0 : Int32))), ((b_1 && cK σ_1 h0 13) && cA σ_1 (SR σ_1 h0 0) 21 (0 : Int32)), σ_1))))
set_option maxRecDepth 100000 in
set_option maxHeartbeats 4000000 in
theorem s_Model_back : ∀ (h0 : Nat) (b : Bool) (σ : Sto), Snd M_Model_back 2 0 0 [vR h0] b σ (tI (f_Model_back h0 b σ).1) (f_Model_back h0 b σ).2.1 (f_Model_back h0 b σ).2.2 := by
  intro h0 b σ
  refine Snd_of (tv := tI) (by decide) (Nat.le_of_ble_eq_true rfl) ?_
  show V M_Model_back 2 0 0 0 0 tI (f_Model_back h0 b σ) 0 [(0, vR h0)] [] b σ
  unfold f_Model_back
  refine V_aload_n 1 rfl (show decode M_Model_back.2.1 0 = .ok (.aload_n 0, 1) by decide +kernel) 0 rfl ?_
  refine V_get (j := 3) (v := vI (SI σ h0 3)) 4 rfl ck_Model (by decide) (by decide) (show decode M_Model_back.2.1 1 = .ok (.getfield 380, 3) by decide +kernel) wd_1507 rfl ?_
  refine V_ifne 7 10 rfl (show decode M_Model_back.2.1 4 = .ok (.ifCond .ne 6, 3) by decide +kernel) rfl ?_ ?_
  · skip
    refine V_ldc 9 rfl (show decode M_Model_back.2.1 7 = .ok (.ldc 98, 2) by decide +kernel) wd_1633 ?_
    exact V_iret rfl (by decide) (by decide) (show decode M_Model_back.2.1 9 = .ok (.ireturn, 1) by decide +kernel)
  · skip
    refine V_aload_n 11 rfl (show decode M_Model_back.2.1 10 = .ok (.aload_n 0, 1) by decide +kernel) 0 rfl ?_
    refine V_aload_n 12 rfl (show decode M_Model_back.2.1 11 = .ok (.aload_n 0, 1) by decide +kernel) 0 rfl ?_
    refine V_get (j := 1) (v := vR (SR σ h0 1)) 15 rfl ck_Model (by decide) (by decide) (show decode M_Model_back.2.1 12 = .ok (.getfield 13, 3) by decide +kernel) wd_1505 rfl ?_
    refine V_aload_n 16 rfl (show decode M_Model_back.2.1 15 = .ok (.aload_n 0, 1) by decide +kernel) 0 rfl ?_
    refine V_get (j := 0) (v := vR (SR σ h0 0)) 19 rfl ck_Model (by decide) (by decide) (show decode M_Model_back.2.1 16 = .ok (.getfield 7, 3) by decide +kernel) wd_1504 rfl ?_
    refine V_callV (tb := tU) (as := [vR (SR σ h0 1), vR (SR σ h0 0)]) (rest := []) (na := 2) 22 rfl ck_Model (by decide) (s_Model_setAside h0 (SR σ h0 1) (SR σ h0 0) ((((b && cK σ h0 13) && cK σ h0 13) && cK σ h0 13) && cK σ h0 13) σ) rfl rfl (Nat.le_of_ble_eq_true rfl) (cal_Model_setAside _ _ _ _ _ (by decide) (by decide) (by decide)) (show decode M_Model_back.2.1 19 = .ok (.invokevirtual 327, 3) by decide +kernel) wd_1946 wd_1948 wd_160 (fun r_1 b_1 σ_1 => ?_)
    show V M_Model_back 2 0 0 0 0 tI _ 22 [(0, vR h0)] [] b_1 σ_1
    refine V_aload_n 23 rfl (show decode M_Model_back.2.1 22 = .ok (.aload_n 0, 1) by decide +kernel) 0 rfl ?_
    refine V_get (j := 0) (v := vR (SR σ_1 h0 0)) 26 rfl ck_Model (by decide) (by decide) (show decode M_Model_back.2.1 23 = .ok (.getfield 7, 3) by decide +kernel) wd_1504 rfl ?_
    refine V_iconst 27 rfl (show decode M_Model_back.2.1 26 = .ok (.iconst 0, 1) by decide +kernel) (v := 0) rfl ?_
    refine V_ald_int 28 rfl (show decode M_Model_back.2.1 27 = .ok (.iaload, 1) by decide +kernel) ?_
    exact V_iret rfl (by decide) (by decide) (show decode M_Model_back.2.1 28 = .ok (.ireturn, 1) by decide +kernel)
theorem cal_Model_back (d mc ms k n : Nat) (h1 : 2 + 1 ≤ d) (h2 : k + 0 ≤ mc) (h3 : n + 0 ≤ ms) : Cal M_Model_back 2 0 0 0 d mc ms k n := ⟨wd_2074, wd_181, by decide, h1, by decide, h2, h3⟩
abbrev M_Model_becomes : MD := (⟨"LongTrailModel", "becomes", "(II)I"⟩, prog_14_method_5_code, 4, (some FieldType.int))
def f_Model_becomes (h0 : Nat) (x1 : Int32) (x2 : Int32) (b : Bool) (σ : Sto) : Rs Int32 := (lt_ (SI σ (SR σ h0 0) (ix x1)) (fun (x3_1 : Int32) => (lt_ (pI σ (SR σ h0 0) (ix x1) x2) (fun (σ_2 : Sto) => (x3_1, ((((b && cK σ h0 13) && cA σ (SR σ h0 0) 21 x1) && cK σ h0 13) && cA σ (SR σ h0 0) 21 x1), σ_2)))))
set_option maxRecDepth 100000 in
set_option maxHeartbeats 4000000 in
theorem s_Model_becomes : ∀ (h0 : Nat) (x1 : Int32) (x2 : Int32) (b : Bool) (σ : Sto), Snd M_Model_becomes 1 0 0 [vR h0, vI x1, vI x2] b σ (tI (f_Model_becomes h0 x1 x2 b σ).1) (f_Model_becomes h0 x1 x2 b σ).2.1 (f_Model_becomes h0 x1 x2 b σ).2.2 := by
  intro h0 x1 x2 b σ
  refine Snd_of (tv := tI) (by decide) (Nat.le_of_ble_eq_true rfl) ?_
  show V M_Model_becomes 1 0 0 0 0 tI (f_Model_becomes h0 x1 x2 b σ) 0 [(0, vR h0), (1, vI x1), (2, vI x2)] [] b σ
  unfold f_Model_becomes
  refine V_aload_n 1 rfl (show decode M_Model_becomes.2.1 0 = .ok (.aload_n 0, 1) by decide +kernel) 0 rfl ?_
  refine V_get (j := 0) (v := vR (SR σ h0 0)) 4 rfl ck_Model (by decide) (by decide) (show decode M_Model_becomes.2.1 1 = .ok (.getfield 7, 3) by decide +kernel) wd_1504 rfl ?_
  refine V_iload_n 5 rfl (show decode M_Model_becomes.2.1 4 = .ok (.iload_n 1, 1) by decide +kernel) 1 rfl ?_
  refine V_ald_int 6 rfl (show decode M_Model_becomes.2.1 5 = .ok (.iaload, 1) by decide +kernel) ?_
  refine V_istore_n (fun x3_1 => [(3, vI x3_1), (0, vR h0), (1, vI x1), (2, vI x2)]) 7 rfl (show decode M_Model_becomes.2.1 6 = .ok (.istore_n 3, 1) by decide +kernel) (by decide) (fun _ => rfl) (fun x3_1 => ?_)
  refine V_aload_n 8 rfl (show decode M_Model_becomes.2.1 7 = .ok (.aload_n 0, 1) by decide +kernel) 1 rfl ?_
  refine V_get (j := 0) (v := vR (SR σ h0 0)) 11 rfl ck_Model (by decide) (by decide) (show decode M_Model_becomes.2.1 8 = .ok (.getfield 7, 3) by decide +kernel) wd_1504 rfl ?_
  refine V_iload_n 12 rfl (show decode M_Model_becomes.2.1 11 = .ok (.iload_n 1, 1) by decide +kernel) 2 rfl ?_
  refine V_iload_n 13 rfl (show decode M_Model_becomes.2.1 12 = .ok (.iload_n 2, 1) by decide +kernel) 3 rfl ?_
  refine V_ast_int 14 rfl (show decode M_Model_becomes.2.1 13 = .ok (.iastore, 1) by decide +kernel) (fun σ_2 => ?_)
  refine V_iload_n 15 rfl (show decode M_Model_becomes.2.1 14 = .ok (.iload_n 3, 1) by decide +kernel) 0 rfl ?_
  exact V_iret rfl (by decide) (by decide) (show decode M_Model_becomes.2.1 15 = .ok (.ireturn, 1) by decide +kernel)
theorem cal_Model_becomes (d mc ms k n : Nat) (h1 : 1 + 1 ≤ d) (h2 : k + 0 ≤ mc) (h3 : n + 0 ≤ ms) : Cal M_Model_becomes 1 0 0 2 d mc ms k n := ⟨wd_1637, wd_181, by decide, h1, by decide, h2, h3⟩
abbrev M_Model_isSign : MD := (⟨"LongTrailModel", "isSign", "(I)Z"⟩, prog_14_method_40_code, 2, (some FieldType.boolean))
def f_Model_isSign (h0 : Nat) (x1 : Int32) (b : Bool) (σ : Sto) : Rs Int32 := (lt_ (fun (b : Bool) (σ : Sto) => ((0 : Int32), b, σ)) (fun J20 => (if (SI σ h0 11) = (3 : Int32) then (if (SI σ h0 13) = x1 then ((1 : Int32), ((b && cK σ h0 13) && cK σ h0 13), σ) else (J20 ((b && cK σ h0 13) && cK σ h0 13) σ)) else (J20 (b && cK σ h0 13) σ))))
set_option maxRecDepth 100000 in
set_option maxHeartbeats 4000000 in
theorem s_Model_isSign : ∀ (h0 : Nat) (x1 : Int32) (b : Bool) (σ : Sto), Snd M_Model_isSign 1 0 0 [vR h0, vI x1] b σ (tI (f_Model_isSign h0 x1 b σ).1) (f_Model_isSign h0 x1 b σ).2.1 (f_Model_isSign h0 x1 b σ).2.2 := by
  intro h0 x1 b σ
  refine Snd_of (tv := tI) (by decide) (Nat.le_of_ble_eq_true rfl) ?_
  show V M_Model_isSign 1 0 0 0 0 tI (f_Model_isSign h0 x1 b σ) 0 [(0, vR h0), (1, vI x1)] [] b σ
  unfold f_Model_isSign
  refine V_aload_n 1 rfl (show decode M_Model_isSign.2.1 0 = .ok (.aload_n 0, 1) by decide +kernel) 0 rfl ?_
  refine V_get (j := 11) (v := vI (SI σ h0 11)) 4 rfl ck_Model (by decide) (by decide) (show decode M_Model_isSign.2.1 1 = .ok (.getfield 167, 3) by decide +kernel) wd_1515 rfl ?_
  refine V_iconst 5 rfl (show decode M_Model_isSign.2.1 4 = .ok (.iconst 3, 1) by decide +kernel) (v := 3) rfl ?_
  refine V_jn (fun (J20 : Bool → Sto → Rs Int32) => ∀ (b : Bool) (σ : Sto), V M_Model_isSign 1 0 0 0 0 tI (J20 b σ) 20 [] [] b σ) ?_ (fun J20 hJ20 => ?_)
  · intro b σ
    refine V_iconst 21 rfl (show decode M_Model_isSign.2.1 20 = .ok (.iconst 0, 1) by decide +kernel) (v := 0) rfl ?_
    exact V_zret rfl (by decide) (by decide) rfl (show decode M_Model_isSign.2.1 21 = .ok (.ireturn, 1) by decide +kernel)
  · skip
    refine V_icmpne 8 20 rfl (show decode M_Model_isSign.2.1 5 = .ok (.if_icmp .ne 15, 3) by decide +kernel) rfl ?_ ?_
    · skip
      refine V_aload_n 9 rfl (show decode M_Model_isSign.2.1 8 = .ok (.aload_n 0, 1) by decide +kernel) 0 rfl ?_
      refine V_get (j := 13) (v := vI (SI σ h0 13)) 12 rfl ck_Model (by decide) (by decide) (show decode M_Model_isSign.2.1 9 = .ok (.getfield 176, 3) by decide +kernel) wd_1517 rfl ?_
      refine V_iload_n 13 rfl (show decode M_Model_isSign.2.1 12 = .ok (.iload_n 1, 1) by decide +kernel) 1 rfl ?_
      refine V_icmpne 16 20 rfl (show decode M_Model_isSign.2.1 13 = .ok (.if_icmp .ne 7, 3) by decide +kernel) rfl ?_ ?_
      · skip
        refine V_iconst 17 rfl (show decode M_Model_isSign.2.1 16 = .ok (.iconst 1, 1) by decide +kernel) (v := 1) rfl ?_
        refine V_goto 21 (show decode M_Model_isSign.2.1 17 = .ok (.goto 4, 3) by decide +kernel) rfl ?_
        exact V_zret rfl (by decide) (by decide) rfl (show decode M_Model_isSign.2.1 21 = .ok (.ireturn, 1) by decide +kernel)
      · skip
        exact V_sub [] rfl (hJ20 ((b && cK σ h0 13) && cK σ h0 13) σ)
    · skip
      exact V_sub [] rfl (hJ20 (b && cK σ h0 13) σ)
theorem cal_Model_isSign (d mc ms k n : Nat) (h1 : 1 + 1 ≤ d) (h2 : k + 0 ≤ mc) (h3 : n + 0 ≤ ms) : Cal M_Model_isSign 1 0 0 1 d mc ms k n := ⟨wd_1810, wd_181, by decide, h1, by decide, h2, h3⟩
abbrev M_Model_isDigit : MD := (⟨"LongTrailModel", "isDigit", "(I)Z"⟩, prog_14_method_38_code, 2, (some FieldType.boolean))
def f_Model_isDigit (h0 : Nat) (x1 : Int32) (b : Bool) (σ : Sto) : Rs Int32 := (lt_ (fun (b : Bool) (σ : Sto) => ((0 : Int32), b, σ)) (fun J31 => (if x1 < (SI σ h0 8) then (bd_ (f_Model_isIn (((SI σ (SR σ h0 7) (ix x1))).toInt64) (48 : Int64) (57 : Int64) (((b && cK σ h0 13) && cK σ h0 13) && cA σ (SR σ h0 7) 21 x1) σ) (fun (r_1 : Int32) (b_1 : Bool) (σ_1 : Sto) => (if r_1 = 0 then (J31 b_1 σ_1) else ((1 : Int32), b_1, σ_1)))) else (J31 (b && cK σ h0 13) σ))))
set_option maxRecDepth 100000 in
set_option maxHeartbeats 4000000 in
theorem s_Model_isDigit : ∀ (h0 : Nat) (x1 : Int32) (b : Bool) (σ : Sto), Snd M_Model_isDigit 2 0 0 [vR h0, vI x1] b σ (tI (f_Model_isDigit h0 x1 b σ).1) (f_Model_isDigit h0 x1 b σ).2.1 (f_Model_isDigit h0 x1 b σ).2.2 := by
  intro h0 x1 b σ
  refine Snd_of (tv := tI) (by decide) (Nat.le_of_ble_eq_true rfl) ?_
  show V M_Model_isDigit 2 0 0 0 0 tI (f_Model_isDigit h0 x1 b σ) 0 [(0, vR h0), (1, vI x1)] [] b σ
  unfold f_Model_isDigit
  refine V_iload_n 1 rfl (show decode M_Model_isDigit.2.1 0 = .ok (.iload_n 1, 1) by decide +kernel) 1 rfl ?_
  refine V_aload_n 2 rfl (show decode M_Model_isDigit.2.1 1 = .ok (.aload_n 0, 1) by decide +kernel) 0 rfl ?_
  refine V_get (j := 8) (v := vI (SI σ h0 8)) 5 rfl ck_Model (by decide) (by decide) (show decode M_Model_isDigit.2.1 2 = .ok (.getfield 152, 3) by decide +kernel) wd_1512 rfl ?_
  refine V_jn (fun (J31 : Bool → Sto → Rs Int32) => ∀ (b : Bool) (σ : Sto), V M_Model_isDigit 2 0 0 0 0 tI (J31 b σ) 31 [] [] b σ) ?_ (fun J31 hJ31 => ?_)
  · intro b σ
    refine V_iconst 32 rfl (show decode M_Model_isDigit.2.1 31 = .ok (.iconst 0, 1) by decide +kernel) (v := 0) rfl ?_
    exact V_zret rfl (by decide) (by decide) rfl (show decode M_Model_isDigit.2.1 32 = .ok (.ireturn, 1) by decide +kernel)
  · skip
    refine V_icmpge 8 31 rfl (show decode M_Model_isDigit.2.1 5 = .ok (.if_icmp .ge 26, 3) by decide +kernel) rfl ?_ ?_
    · skip
      refine V_aload_n 9 rfl (show decode M_Model_isDigit.2.1 8 = .ok (.aload_n 0, 1) by decide +kernel) 0 rfl ?_
      refine V_get (j := 7) (v := vR (SR σ h0 7)) 12 rfl ck_Model (by decide) (by decide) (show decode M_Model_isDigit.2.1 9 = .ok (.getfield 29, 3) by decide +kernel) wd_1511 rfl ?_
      refine V_iload_n 13 rfl (show decode M_Model_isDigit.2.1 12 = .ok (.iload_n 1, 1) by decide +kernel) 1 rfl ?_
      refine V_ald_int 14 rfl (show decode M_Model_isDigit.2.1 13 = .ok (.iaload, 1) by decide +kernel) ?_
      refine V_i2l 15 rfl (show decode M_Model_isDigit.2.1 14 = .ok (.i2l, 1) by decide +kernel) ?_
      refine V_ldc2 18 rfl (show decode M_Model_isDigit.2.1 15 = .ok (.ldc2_w 160, 3) by decide +kernel) wd_1766 ?_
      refine V_ldc2 21 rfl (show decode M_Model_isDigit.2.1 18 = .ok (.ldc2_w 162, 3) by decide +kernel) wd_1767 ?_
      refine V_callS (tb := tI) (as := [vL (((SI σ (SR σ h0 7) (ix x1))).toInt64), vL (48 : Int64), vL (57 : Int64)]) (rest := []) (na := 3) 24 rfl (s_Model_isIn (((SI σ (SR σ h0 7) (ix x1))).toInt64) (48 : Int64) (57 : Int64) (((b && cK σ h0 13) && cK σ h0 13) && cA σ (SR σ h0 7) 21 x1) σ) rfl rfl (Nat.le_of_ble_eq_true rfl) (cal_Model_isIn _ _ _ _ _ (by decide) (by decide) (by decide)) (show decode M_Model_isDigit.2.1 21 = .ok (.invokestatic 76, 3) by decide +kernel) wd_1617 wd_1618 (fun r_1 b_1 σ_1 => ?_)
      show V M_Model_isDigit 2 0 0 0 0 tI _ 24 [(0, vR h0), (1, vI x1)] [vI r_1] b_1 σ_1
      refine V_ifeq 27 31 rfl (show decode M_Model_isDigit.2.1 24 = .ok (.ifCond .eq 7, 3) by decide +kernel) rfl ?_ ?_
      · skip
        exact V_sub [] rfl (hJ31 b_1 σ_1)
      · skip
        refine V_iconst 28 rfl (show decode M_Model_isDigit.2.1 27 = .ok (.iconst 1, 1) by decide +kernel) (v := 1) rfl ?_
        refine V_goto 32 (show decode M_Model_isDigit.2.1 28 = .ok (.goto 4, 3) by decide +kernel) rfl ?_
        exact V_zret rfl (by decide) (by decide) rfl (show decode M_Model_isDigit.2.1 32 = .ok (.ireturn, 1) by decide +kernel)
    · skip
      exact V_sub [] rfl (hJ31 (b && cK σ h0 13) σ)
theorem cal_Model_isDigit (d mc ms k n : Nat) (h1 : 2 + 1 ≤ d) (h2 : k + 0 ≤ mc) (h3 : n + 0 ≤ ms) : Cal M_Model_isDigit 2 0 0 1 d mc ms k n := ⟨wd_1765, wd_181, by decide, h1, by decide, h2, h3⟩
abbrev M_Model_isLetter : MD := (⟨"LongTrailModel", "isLetter", "(I)Z"⟩, prog_14_method_37_code, 2, (some FieldType.boolean))
def f_Model_isLetter (h0 : Nat) (x1 : Int32) (b : Bool) (σ : Sto) : Rs Int32 := (lt_ (fun (b : Bool) (σ : Sto) => ((0 : Int32), b, σ)) (fun J31 => (if x1 < (SI σ h0 8) then (bd_ (f_Model_isIn (((SI σ (SR σ h0 7) (ix x1))).toInt64) (97 : Int64) (122 : Int64) (((b && cK σ h0 13) && cK σ h0 13) && cA σ (SR σ h0 7) 21 x1) σ) (fun (r_1 : Int32) (b_1 : Bool) (σ_1 : Sto) => (if r_1 = 0 then (J31 b_1 σ_1) else ((1 : Int32), b_1, σ_1)))) else (J31 (b && cK σ h0 13) σ))))
set_option maxRecDepth 100000 in
set_option maxHeartbeats 4000000 in
theorem s_Model_isLetter : ∀ (h0 : Nat) (x1 : Int32) (b : Bool) (σ : Sto), Snd M_Model_isLetter 2 0 0 [vR h0, vI x1] b σ (tI (f_Model_isLetter h0 x1 b σ).1) (f_Model_isLetter h0 x1 b σ).2.1 (f_Model_isLetter h0 x1 b σ).2.2 := by
  intro h0 x1 b σ
  refine Snd_of (tv := tI) (by decide) (Nat.le_of_ble_eq_true rfl) ?_
  show V M_Model_isLetter 2 0 0 0 0 tI (f_Model_isLetter h0 x1 b σ) 0 [(0, vR h0), (1, vI x1)] [] b σ
  unfold f_Model_isLetter
  refine V_iload_n 1 rfl (show decode M_Model_isLetter.2.1 0 = .ok (.iload_n 1, 1) by decide +kernel) 1 rfl ?_
  refine V_aload_n 2 rfl (show decode M_Model_isLetter.2.1 1 = .ok (.aload_n 0, 1) by decide +kernel) 0 rfl ?_
  refine V_get (j := 8) (v := vI (SI σ h0 8)) 5 rfl ck_Model (by decide) (by decide) (show decode M_Model_isLetter.2.1 2 = .ok (.getfield 152, 3) by decide +kernel) wd_1512 rfl ?_
  refine V_jn (fun (J31 : Bool → Sto → Rs Int32) => ∀ (b : Bool) (σ : Sto), V M_Model_isLetter 2 0 0 0 0 tI (J31 b σ) 31 [] [] b σ) ?_ (fun J31 hJ31 => ?_)
  · intro b σ
    refine V_iconst 32 rfl (show decode M_Model_isLetter.2.1 31 = .ok (.iconst 0, 1) by decide +kernel) (v := 0) rfl ?_
    exact V_zret rfl (by decide) (by decide) rfl (show decode M_Model_isLetter.2.1 32 = .ok (.ireturn, 1) by decide +kernel)
  · skip
    refine V_icmpge 8 31 rfl (show decode M_Model_isLetter.2.1 5 = .ok (.if_icmp .ge 26, 3) by decide +kernel) rfl ?_ ?_
    · skip
      refine V_aload_n 9 rfl (show decode M_Model_isLetter.2.1 8 = .ok (.aload_n 0, 1) by decide +kernel) 0 rfl ?_
      refine V_get (j := 7) (v := vR (SR σ h0 7)) 12 rfl ck_Model (by decide) (by decide) (show decode M_Model_isLetter.2.1 9 = .ok (.getfield 29, 3) by decide +kernel) wd_1511 rfl ?_
      refine V_iload_n 13 rfl (show decode M_Model_isLetter.2.1 12 = .ok (.iload_n 1, 1) by decide +kernel) 1 rfl ?_
      refine V_ald_int 14 rfl (show decode M_Model_isLetter.2.1 13 = .ok (.iaload, 1) by decide +kernel) ?_
      refine V_i2l 15 rfl (show decode M_Model_isLetter.2.1 14 = .ok (.i2l, 1) by decide +kernel) ?_
      refine V_ldc2 18 rfl (show decode M_Model_isLetter.2.1 15 = .ok (.ldc2_w 156, 3) by decide +kernel) wd_1760 ?_
      refine V_ldc2 21 rfl (show decode M_Model_isLetter.2.1 18 = .ok (.ldc2_w 158, 3) by decide +kernel) wd_1761 ?_
      refine V_callS (tb := tI) (as := [vL (((SI σ (SR σ h0 7) (ix x1))).toInt64), vL (97 : Int64), vL (122 : Int64)]) (rest := []) (na := 3) 24 rfl (s_Model_isIn (((SI σ (SR σ h0 7) (ix x1))).toInt64) (97 : Int64) (122 : Int64) (((b && cK σ h0 13) && cK σ h0 13) && cA σ (SR σ h0 7) 21 x1) σ) rfl rfl (Nat.le_of_ble_eq_true rfl) (cal_Model_isIn _ _ _ _ _ (by decide) (by decide) (by decide)) (show decode M_Model_isLetter.2.1 21 = .ok (.invokestatic 76, 3) by decide +kernel) wd_1617 wd_1618 (fun r_1 b_1 σ_1 => ?_)
      show V M_Model_isLetter 2 0 0 0 0 tI _ 24 [(0, vR h0), (1, vI x1)] [vI r_1] b_1 σ_1
      refine V_ifeq 27 31 rfl (show decode M_Model_isLetter.2.1 24 = .ok (.ifCond .eq 7, 3) by decide +kernel) rfl ?_ ?_
      · skip
        exact V_sub [] rfl (hJ31 b_1 σ_1)
      · skip
        refine V_iconst 28 rfl (show decode M_Model_isLetter.2.1 27 = .ok (.iconst 1, 1) by decide +kernel) (v := 1) rfl ?_
        refine V_goto 32 (show decode M_Model_isLetter.2.1 28 = .ok (.goto 4, 3) by decide +kernel) rfl ?_
        exact V_zret rfl (by decide) (by decide) rfl (show decode M_Model_isLetter.2.1 32 = .ok (.ireturn, 1) by decide +kernel)
    · skip
      exact V_sub [] rfl (hJ31 (b && cK σ h0 13) σ)
theorem cal_Model_isLetter (d mc ms k n : Nat) (h1 : 2 + 1 ≤ d) (h2 : k + 0 ≤ mc) (h3 : n + 0 ≤ ms) : Cal M_Model_isLetter 2 0 0 1 d mc ms k n := ⟨wd_1759, wd_181, by decide, h1, by decide, h2, h3⟩
abbrev M_Model_next : MD := (⟨"LongTrailModel", "next", "()V"⟩, prog_14_method_39_code, 3, (none : Option FieldType))
def b_Model_next_214 (h0 : Nat) (x1_3 : Int32) (L214 : Bool → Sto → Rs Unit) (b : Bool) (σ : Sto) : Rs Unit := (bd_ (f_Model_isDigit h0 (SI σ h0 10) ((b && cK σ h0 13) && cK σ h0 13) σ) (fun (r_12 : Int32) (b_12 : Bool) (σ_12 : Sto) => (if r_12 = 0 then (lt_ (fun (s0_305 : Int32) (s1_305 : Nat) (b : Bool) (σ : Sto) => (lt_ (pI σ s1_305 11 s0_305) (fun (σ_13 : Sto) => ((), (b && cK σ s1_305 13), σ_13)))) (fun J305 => (lt_ (fun (s0_300 : Nat) (b : Bool) (σ : Sto) => (J305 (4 : Int32) s0_300 b σ)) (fun J300 => (if x1_3 = 0 then (if (4 : Int32) < ((SI σ_12 h0 10) - (SI σ_12 h0 9)) then (J300 h0 ((b_12 && cK σ_12 h0 13) && cK σ_12 h0 13) σ_12) else (J305 (2 : Int32) h0 ((b_12 && cK σ_12 h0 13) && cK σ_12 h0 13) σ_12)) else (J300 h0 b_12 σ_12)))))) else (lt_ (fun (s0_266 : Int32) (s1_266 : Nat) (b : Bool) (σ : Sto) => (lt_ (pI σ s1_266 12 s0_266) (fun (σ_14 : Sto) => (lt_ (pI σ_14 h0 10 ((SI σ_14 h0 10) + (1 : Int32))) (fun (σ_15 : Sto) => (L214 (((b && cK σ s1_266 13) && cK σ_14 h0 13) && cK σ_14 h0 13) σ_15)))))) (fun J266 => (if ((SI σ_12 h0 10) - (SI σ_12 h0 9)) < (4 : Int32) then (J266 ((((10 : Int32) * (SI σ_12 h0 12)) + (SI σ_12 (SR σ_12 h0 7) (ix (SI σ_12 h0 10)))) - (48 : Int32)) h0 ((((((b_12 && cK σ_12 h0 13) && cK σ_12 h0 13) && cK σ_12 h0 13) && cK σ_12 h0 13) && cK σ_12 h0 13) && cA σ_12 (SR σ_12 h0 7) 21 (SI σ_12 h0 10)) σ_12) else (J266 (SI σ_12 h0 12) h0 (((b_12 && cK σ_12 h0 13) && cK σ_12 h0 13) && cK σ_12 h0 13) σ_12)))))))
def b_Model_next_128 (h0 : Nat) (x1_3 : Int32) (L128 : Bool → Sto → Rs Unit) (b : Bool) (σ : Sto) : Rs Unit := (bd_ (f_Model_isLetter h0 (SI σ h0 10) ((b && cK σ h0 13) && cK σ h0 13) σ) (fun (r_16 : Int32) (b_16 : Bool) (σ_16 : Sto) => (if r_16 = 0 then (lt_ (fun (s0_162 : Int32) (s1_162 : Nat) (b : Bool) (σ : Sto) => (lt_ (pI σ s1_162 11 s0_162) (fun (σ_17 : Sto) => (lt_ (fun (s0_192 : Int32) (s1_192 : Nat) (b : Bool) (σ : Sto) => (lt_ (pI σ s1_192 13 s0_192) (fun (σ_18 : Sto) => ((), (b && cK σ s1_192 13), σ_18)))) (fun J192 => (if ((SI σ_17 h0 10) - (SI σ_17 h0 9)) = (1 : Int32) then (J192 (SI σ_17 (SR σ_17 h0 7) (ix (SI σ_17 h0 9))) h0 ((((((b && cK σ s1_162 13) && cK σ_17 h0 13) && cK σ_17 h0 13) && cK σ_17 h0 13) && cK σ_17 h0 13) && cA σ_17 (SR σ_17 h0 7) 21 (SI σ_17 h0 9)) σ_17) else (J192 (0 : Int32) h0 (((b && cK σ s1_162 13) && cK σ_17 h0 13) && cK σ_17 h0 13) σ_17))))))) (fun J162 => (if x1_3 = 0 then (J162 (1 : Int32) h0 b_16 σ_16) else (J162 (4 : Int32) h0 b_16 σ_16)))) else (lt_ (pI σ_16 h0 10 ((SI σ_16 h0 10) + (1 : Int32))) (fun (σ_19 : Sto) => (L128 ((b_16 && cK σ_16 h0 13) && cK σ_16 h0 13) σ_19))))))
def b_Model_next_34 (h0 : Nat) (x1_1 : Int32) (x2_2 : Int32) (L34 : Bool → Sto → Rs Unit) (b : Bool) (σ : Sto) : Rs Unit := (lt_ (fun (b : Bool) (σ : Sto) => (lt_ (fun (s0_89 : Int32) (b : Bool) (σ : Sto) => (lt_ s0_89 (fun (x1_3 : Int32) => (lt_ (pI σ h0 9 (SI σ h0 10)) (fun (σ_4 : Sto) => (if (SI σ_4 h0 9) = (SI σ_4 h0 8) then (lt_ (pI σ_4 h0 11 (0 : Int32)) (fun (σ_5 : Sto) => ((), (((((b && cK σ h0 13) && cK σ h0 13) && cK σ_4 h0 13) && cK σ_4 h0 13) && cK σ_4 h0 13), σ_5))) else (bd_ (f_Model_isLetter h0 (SI σ_4 h0 9) ((((((b && cK σ h0 13) && cK σ h0 13) && cK σ_4 h0 13) && cK σ_4 h0 13) && cK σ_4 h0 13) && cK σ_4 h0 13) σ_4) (fun (r_6 : Int32) (b_6 : Bool) (σ_6 : Sto) => (if r_6 = 0 then (bd_ (f_Model_isDigit h0 (SI σ_6 h0 9) ((b_6 && cK σ_6 h0 13) && cK σ_6 h0 13) σ_6) (fun (r_7 : Int32) (b_7 : Bool) (σ_7 : Sto) => (if r_7 = 0 then (lt_ (pI σ_7 h0 11 (3 : Int32)) (fun (σ_8 : Sto) => (lt_ (pI σ_8 h0 13 (SI σ_8 (SR σ_8 h0 7) (ix (SI σ_8 h0 9)))) (fun (σ_9 : Sto) => (lt_ (pI σ_9 h0 10 ((SI σ_9 h0 10) + (1 : Int32))) (fun (σ_10 : Sto) => ((), (((((((b_7 && cK σ_7 h0 13) && cK σ_8 h0 13) && cK σ_8 h0 13) && cA σ_8 (SR σ_8 h0 7) 21 (SI σ_8 h0 9)) && cK σ_8 h0 13) && cK σ_9 h0 13) && cK σ_9 h0 13), σ_10))))))) else (lt_ (pI σ_7 h0 12 (0 : Int32)) (fun (σ_11 : Sto) => (lp_ (b_Model_next_214 h0 x1_3) (fun (b : Bool) (σ : Sto) => ((), false, σ)) fuel_ (b_7 && cK σ_7 h0 13) σ_11)))))) else (lp_ (b_Model_next_128 h0 x1_3) (fun (b : Bool) (σ : Sto) => ((), false, σ)) fuel_ b_6 σ_6)))))))))) (fun J89 => (lt_ (fun (b : Bool) (σ : Sto) => (J89 (0 : Int32) b σ)) (fun J88 => (if x1_1 = 0 then (J88 b σ) else (if x2_2 = (SI σ h0 10) then (J89 (1 : Int32) (b && cK σ h0 13) σ) else (J88 (b && cK σ h0 13) σ)))))))) (fun J72 => (if (SI σ h0 10) < (SI σ h0 8) then (if (SI σ (SR σ h0 7) (ix (SI σ h0 10))) = (32 : Int32) then (lt_ (pI σ h0 10 ((SI σ h0 10) + (1 : Int32))) (fun (σ_20 : Sto) => (L34 (((((((b && cK σ h0 13) && cK σ h0 13) && cK σ h0 13) && cK σ h0 13) && cA σ (SR σ h0 7) 21 (SI σ h0 10)) && cK σ h0 13) && cK σ h0 13) σ_20))) else (J72 (((((b && cK σ h0 13) && cK σ h0 13) && cK σ h0 13) && cK σ h0 13) && cA σ (SR σ h0 7) 21 (SI σ h0 10)) σ)) else (J72 ((b && cK σ h0 13) && cK σ h0 13) σ))))
def f_Model_next (h0 : Nat) (b : Bool) (σ : Sto) : Rs Unit := (lt_ (fun (s0_28 : Int32) (b : Bool) (σ : Sto) => (lt_ s0_28 (fun (x1_1 : Int32) => (lt_ (SI σ h0 10) (fun (x2_2 : Int32) => (lp_ (b_Model_next_34 h0 x1_1 x2_2) (fun (b : Bool) (σ : Sto) => ((), false, σ)) fuel_ (b && cK σ h0 13) σ)))))) (fun J28 => (lt_ (fun (b : Bool) (σ : Sto) => (J28 (0 : Int32) b σ)) (fun J27 => (if 0 < (SI σ h0 10) then (lt_ (fun (b : Bool) (σ : Sto) => (J28 (1 : Int32) b σ)) (fun J23 => (if (SI σ h0 11) = (1 : Int32) then (J23 ((b && cK σ h0 13) && cK σ h0 13) σ) else (if (SI σ h0 11) = (2 : Int32) then (J23 (((b && cK σ h0 13) && cK σ h0 13) && cK σ h0 13) σ) else (J27 (((b && cK σ h0 13) && cK σ h0 13) && cK σ h0 13) σ))))) else (J27 (b && cK σ h0 13) σ))))))
set_option maxRecDepth 100000 in
set_option maxHeartbeats 4000000 in
theorem s_Model_next : ∀ (h0 : Nat) (b : Bool) (σ : Sto), Snd M_Model_next 3 0 0 [vR h0] b σ (tU (f_Model_next h0 b σ).1) (f_Model_next h0 b σ).2.1 (f_Model_next h0 b σ).2.2 := by
  intro h0 b σ
  refine Snd_of (tv := tU) (by decide) (Nat.le_of_ble_eq_true rfl) ?_
  show V M_Model_next 3 0 0 0 0 tU (f_Model_next h0 b σ) 0 [(0, vR h0)] [] b σ
  unfold f_Model_next
  refine V_aload_n 1 rfl (show decode M_Model_next.2.1 0 = .ok (.aload_n 0, 1) by decide +kernel) 0 rfl ?_
  refine V_get (j := 10) (v := vI (SI σ h0 10)) 4 rfl ck_Model (by decide) (by decide) (show decode M_Model_next.2.1 1 = .ok (.getfield 164, 3) by decide +kernel) wd_1514 rfl ?_
  refine V_jn (fun (J28 : Int32 → Bool → Sto → Rs Unit) => ∀ (s0_28 : Int32) (b : Bool) (σ : Sto), V M_Model_next 3 0 0 0 0 tU (J28 s0_28 b σ) 28 [(0, vR h0)] [vI s0_28] b σ) ?_ (fun J28 hJ28 => ?_)
  · intro s0_28 b σ
    refine V_istore_n (fun x1_1 => [(1, vI x1_1), (0, vR h0)]) 29 rfl (show decode M_Model_next.2.1 28 = .ok (.istore_n 1, 1) by decide +kernel) (by decide) (fun _ => rfl) (fun x1_1 => ?_)
    refine V_aload_n 30 rfl (show decode M_Model_next.2.1 29 = .ok (.aload_n 0, 1) by decide +kernel) 1 rfl ?_
    refine V_get (j := 10) (v := vI (SI σ h0 10)) 33 rfl ck_Model (by decide) (by decide) (show decode M_Model_next.2.1 30 = .ok (.getfield 164, 3) by decide +kernel) wd_1514 rfl ?_
    refine V_istore_n (fun x2_2 => [(2, vI x2_2), (1, vI x1_1), (0, vR h0)]) 34 rfl (show decode M_Model_next.2.1 33 = .ok (.istore_n 2, 1) by decide +kernel) (by decide) (fun _ => rfl) (fun x2_2 => ?_)
    refine V_sub [2, 1, 0] rfl ?_
    refine lp_P (fun (L34 : Bool → Sto → Rs Unit) => ∀ (b : Bool) (σ : Sto), V M_Model_next 3 0 0 0 0 tU (L34 b σ) 34 [(0, vR h0), (1, vI x1_1), (2, vI x2_2)] [] b σ) ?_ ?_ fuel_ (b && cK σ h0 13) σ
    · intro b σ; exact V_bad
    · intro L34 hL34 b σ
      unfold b_Model_next_34
      refine V_aload_n 35 rfl (show decode M_Model_next.2.1 34 = .ok (.aload_n 0, 1) by decide +kernel) 0 rfl ?_
      refine V_get (j := 10) (v := vI (SI σ h0 10)) 38 rfl ck_Model (by decide) (by decide) (show decode M_Model_next.2.1 35 = .ok (.getfield 164, 3) by decide +kernel) wd_1514 rfl ?_
      refine V_aload_n 39 rfl (show decode M_Model_next.2.1 38 = .ok (.aload_n 0, 1) by decide +kernel) 0 rfl ?_
      refine V_get (j := 8) (v := vI (SI σ h0 8)) 42 rfl ck_Model (by decide) (by decide) (show decode M_Model_next.2.1 39 = .ok (.getfield 152, 3) by decide +kernel) wd_1512 rfl ?_
      refine V_jn (fun (J72 : Bool → Sto → Rs Unit) => ∀ (b : Bool) (σ : Sto), V M_Model_next 3 0 0 0 0 tU (J72 b σ) 72 [(0, vR h0), (1, vI x1_1), (2, vI x2_2)] [] b σ) ?_ (fun J72 hJ72 => ?_)
      · intro b σ
        refine V_iload_n 73 rfl (show decode M_Model_next.2.1 72 = .ok (.iload_n 1, 1) by decide +kernel) 1 rfl ?_
        refine V_jn (fun (J89 : Int32 → Bool → Sto → Rs Unit) => ∀ (s0_89 : Int32) (b : Bool) (σ : Sto), V M_Model_next 3 0 0 0 0 tU (J89 s0_89 b σ) 89 [(0, vR h0)] [vI s0_89] b σ) ?_ (fun J89 hJ89 => ?_)
        · intro s0_89 b σ
          refine V_istore_n (fun x1_3 => [(1, vI x1_3), (0, vR h0)]) 90 rfl (show decode M_Model_next.2.1 89 = .ok (.istore_n 1, 1) by decide +kernel) (by decide) (fun _ => rfl) (fun x1_3 => ?_)
          refine V_aload_n 91 rfl (show decode M_Model_next.2.1 90 = .ok (.aload_n 0, 1) by decide +kernel) 1 rfl ?_
          refine V_aload_n 92 rfl (show decode M_Model_next.2.1 91 = .ok (.aload_n 0, 1) by decide +kernel) 1 rfl ?_
          refine V_get (j := 10) (v := vI (SI σ h0 10)) 95 rfl ck_Model (by decide) (by decide) (show decode M_Model_next.2.1 92 = .ok (.getfield 164, 3) by decide +kernel) wd_1514 rfl ?_
          refine V_putI (j := 9) 98 rfl ck_Model (by decide) (by decide) (show decode M_Model_next.2.1 95 = .ok (.putfield 170, 3) by decide +kernel) wd_1513 rfl (fun _ => rfl) rfl rfl (fun σ_4 => ?_)
          refine V_aload_n 99 rfl (show decode M_Model_next.2.1 98 = .ok (.aload_n 0, 1) by decide +kernel) 1 rfl ?_
          refine V_get (j := 9) (v := vI (SI σ_4 h0 9)) 102 rfl ck_Model (by decide) (by decide) (show decode M_Model_next.2.1 99 = .ok (.getfield 170, 3) by decide +kernel) wd_1513 rfl ?_
          refine V_aload_n 103 rfl (show decode M_Model_next.2.1 102 = .ok (.aload_n 0, 1) by decide +kernel) 1 rfl ?_
          refine V_get (j := 8) (v := vI (SI σ_4 h0 8)) 106 rfl ck_Model (by decide) (by decide) (show decode M_Model_next.2.1 103 = .ok (.getfield 152, 3) by decide +kernel) wd_1512 rfl ?_
          refine V_icmpne 109 117 rfl (show decode M_Model_next.2.1 106 = .ok (.if_icmp .ne 11, 3) by decide +kernel) rfl ?_ ?_
          · skip
            refine V_aload_n 110 rfl (show decode M_Model_next.2.1 109 = .ok (.aload_n 0, 1) by decide +kernel) 1 rfl ?_
            refine V_iconst 111 rfl (show decode M_Model_next.2.1 110 = .ok (.iconst 0, 1) by decide +kernel) (v := 0) rfl ?_
            refine V_putI (j := 11) 114 rfl ck_Model (by decide) (by decide) (show decode M_Model_next.2.1 111 = .ok (.putfield 167, 3) by decide +kernel) wd_1515 rfl (fun _ => rfl) rfl rfl (fun σ_5 => ?_)
            refine V_goto 339 (show decode M_Model_next.2.1 114 = .ok (.goto 225, 3) by decide +kernel) rfl ?_
            exact V_vret rfl (by decide) (by decide) (show decode M_Model_next.2.1 339 = .ok (.return_, 1) by decide +kernel)
          · skip
            refine V_aload_n 118 rfl (show decode M_Model_next.2.1 117 = .ok (.aload_n 0, 1) by decide +kernel) 1 rfl ?_
            refine V_aload_n 119 rfl (show decode M_Model_next.2.1 118 = .ok (.aload_n 0, 1) by decide +kernel) 1 rfl ?_
            refine V_get (j := 9) (v := vI (SI σ_4 h0 9)) 122 rfl ck_Model (by decide) (by decide) (show decode M_Model_next.2.1 119 = .ok (.getfield 170, 3) by decide +kernel) wd_1513 rfl ?_
            refine V_callV (tb := tI) (as := [vI (SI σ_4 h0 9)]) (rest := []) (na := 1) 125 rfl ck_Model (by decide) (s_Model_isLetter h0 (SI σ_4 h0 9) ((((((b && cK σ h0 13) && cK σ h0 13) && cK σ_4 h0 13) && cK σ_4 h0 13) && cK σ_4 h0 13) && cK σ_4 h0 13) σ_4) rfl rfl (Nat.le_of_ble_eq_true rfl) (cal_Model_isLetter _ _ _ _ _ (by decide) (by decide) (by decide)) (show decode M_Model_next.2.1 122 = .ok (.invokevirtual 173, 3) by decide +kernel) wd_1756 wd_1758 wd_129 (fun r_6 b_6 σ_6 => ?_)
            show V M_Model_next 3 0 0 0 0 tU _ 125 [(1, vI x1_3), (0, vR h0)] [vI r_6] b_6 σ_6
            refine V_ifeq 128 198 rfl (show decode M_Model_next.2.1 125 = .ok (.ifCond .eq 73, 3) by decide +kernel) rfl ?_ ?_
            · skip
              refine V_aload_n 199 rfl (show decode M_Model_next.2.1 198 = .ok (.aload_n 0, 1) by decide +kernel) 1 rfl ?_
              refine V_aload_n 200 rfl (show decode M_Model_next.2.1 199 = .ok (.aload_n 0, 1) by decide +kernel) 1 rfl ?_
              refine V_get (j := 9) (v := vI (SI σ_6 h0 9)) 203 rfl ck_Model (by decide) (by decide) (show decode M_Model_next.2.1 200 = .ok (.getfield 170, 3) by decide +kernel) wd_1513 rfl ?_
              refine V_callV (tb := tI) (as := [vI (SI σ_6 h0 9)]) (rest := []) (na := 1) 206 rfl ck_Model (by decide) (s_Model_isDigit h0 (SI σ_6 h0 9) ((b_6 && cK σ_6 h0 13) && cK σ_6 h0 13) σ_6) rfl rfl (Nat.le_of_ble_eq_true rfl) (cal_Model_isDigit _ _ _ _ _ (by decide) (by decide) (by decide)) (show decode M_Model_next.2.1 203 = .ok (.invokevirtual 179, 3) by decide +kernel) wd_1762 wd_1764 wd_130 (fun r_7 b_7 σ_7 => ?_)
              show V M_Model_next 3 0 0 0 0 tU _ 206 [(1, vI x1_3), (0, vR h0)] [vI r_7] b_7 σ_7
              refine V_ifeq 209 311 rfl (show decode M_Model_next.2.1 206 = .ok (.ifCond .eq 105, 3) by decide +kernel) rfl ?_ ?_
              · skip
                refine V_aload_n 312 rfl (show decode M_Model_next.2.1 311 = .ok (.aload_n 0, 1) by decide +kernel) 1 rfl ?_
                refine V_iconst 313 rfl (show decode M_Model_next.2.1 312 = .ok (.iconst 3, 1) by decide +kernel) (v := 3) rfl ?_
                refine V_putI (j := 11) 316 rfl ck_Model (by decide) (by decide) (show decode M_Model_next.2.1 313 = .ok (.putfield 167, 3) by decide +kernel) wd_1515 rfl (fun _ => rfl) rfl rfl (fun σ_8 => ?_)
                refine V_aload_n 317 rfl (show decode M_Model_next.2.1 316 = .ok (.aload_n 0, 1) by decide +kernel) 1 rfl ?_
                refine V_aload_n 318 rfl (show decode M_Model_next.2.1 317 = .ok (.aload_n 0, 1) by decide +kernel) 1 rfl ?_
                refine V_get (j := 7) (v := vR (SR σ_8 h0 7)) 321 rfl ck_Model (by decide) (by decide) (show decode M_Model_next.2.1 318 = .ok (.getfield 29, 3) by decide +kernel) wd_1511 rfl ?_
                refine V_aload_n 322 rfl (show decode M_Model_next.2.1 321 = .ok (.aload_n 0, 1) by decide +kernel) 1 rfl ?_
                refine V_get (j := 9) (v := vI (SI σ_8 h0 9)) 325 rfl ck_Model (by decide) (by decide) (show decode M_Model_next.2.1 322 = .ok (.getfield 170, 3) by decide +kernel) wd_1513 rfl ?_
                refine V_ald_int 326 rfl (show decode M_Model_next.2.1 325 = .ok (.iaload, 1) by decide +kernel) ?_
                refine V_putI (j := 13) 329 rfl ck_Model (by decide) (by decide) (show decode M_Model_next.2.1 326 = .ok (.putfield 176, 3) by decide +kernel) wd_1517 rfl (fun _ => rfl) rfl rfl (fun σ_9 => ?_)
                refine V_aload_n 330 rfl (show decode M_Model_next.2.1 329 = .ok (.aload_n 0, 1) by decide +kernel) 1 rfl ?_
                refine V_dup 331 rfl (show decode M_Model_next.2.1 330 = .ok (.dup, 1) by decide +kernel) rfl ?_
                refine V_get (j := 10) (v := vI (SI σ_9 h0 10)) 334 rfl ck_Model (by decide) (by decide) (show decode M_Model_next.2.1 331 = .ok (.getfield 164, 3) by decide +kernel) wd_1514 rfl ?_
                refine V_iconst 335 rfl (show decode M_Model_next.2.1 334 = .ok (.iconst 1, 1) by decide +kernel) (v := 1) rfl ?_
                refine V_iadd 336 rfl (show decode M_Model_next.2.1 335 = .ok (.iadd, 1) by decide +kernel) ?_
                refine V_putI (j := 10) 339 rfl ck_Model (by decide) (by decide) (show decode M_Model_next.2.1 336 = .ok (.putfield 164, 3) by decide +kernel) wd_1514 rfl (fun _ => rfl) rfl rfl (fun σ_10 => ?_)
                exact V_vret rfl (by decide) (by decide) (show decode M_Model_next.2.1 339 = .ok (.return_, 1) by decide +kernel)
              · skip
                refine V_aload_n 210 rfl (show decode M_Model_next.2.1 209 = .ok (.aload_n 0, 1) by decide +kernel) 1 rfl ?_
                refine V_iconst 211 rfl (show decode M_Model_next.2.1 210 = .ok (.iconst 0, 1) by decide +kernel) (v := 0) rfl ?_
                refine V_putI (j := 12) 214 rfl ck_Model (by decide) (by decide) (show decode M_Model_next.2.1 211 = .ok (.putfield 182, 3) by decide +kernel) wd_1516 rfl (fun _ => rfl) rfl rfl (fun σ_11 => ?_)
                refine V_sub [1, 0] rfl ?_
                refine lp_P (fun (L214 : Bool → Sto → Rs Unit) => ∀ (b : Bool) (σ : Sto), V M_Model_next 3 0 0 0 0 tU (L214 b σ) 214 [(0, vR h0), (1, vI x1_3)] [] b σ) ?_ ?_ fuel_ (b_7 && cK σ_7 h0 13) σ_11
                · intro b σ; exact V_bad
                · intro L214 hL214 b σ
                  unfold b_Model_next_214
                  refine V_aload_n 215 rfl (show decode M_Model_next.2.1 214 = .ok (.aload_n 0, 1) by decide +kernel) 0 rfl ?_
                  refine V_aload_n 216 rfl (show decode M_Model_next.2.1 215 = .ok (.aload_n 0, 1) by decide +kernel) 0 rfl ?_
                  refine V_get (j := 10) (v := vI (SI σ h0 10)) 219 rfl ck_Model (by decide) (by decide) (show decode M_Model_next.2.1 216 = .ok (.getfield 164, 3) by decide +kernel) wd_1514 rfl ?_
                  refine V_callV (tb := tI) (as := [vI (SI σ h0 10)]) (rest := []) (na := 1) 222 rfl ck_Model (by decide) (s_Model_isDigit h0 (SI σ h0 10) ((b && cK σ h0 13) && cK σ h0 13) σ) rfl rfl (Nat.le_of_ble_eq_true rfl) (cal_Model_isDigit _ _ _ _ _ (by decide) (by decide) (by decide)) (show decode M_Model_next.2.1 219 = .ok (.invokevirtual 179, 3) by decide +kernel) wd_1762 wd_1764 wd_130 (fun r_12 b_12 σ_12 => ?_)
                  show V M_Model_next 3 0 0 0 0 tU _ 222 [(0, vR h0), (1, vI x1_3)] [vI r_12] b_12 σ_12
                  refine V_ifeq 225 282 rfl (show decode M_Model_next.2.1 222 = .ok (.ifCond .eq 60, 3) by decide +kernel) rfl ?_ ?_
                  · skip
                    refine V_aload_n 283 rfl (show decode M_Model_next.2.1 282 = .ok (.aload_n 0, 1) by decide +kernel) 0 rfl ?_
                    refine V_iload_n 284 rfl (show decode M_Model_next.2.1 283 = .ok (.iload_n 1, 1) by decide +kernel) 1 rfl ?_
                    refine V_jn (fun (J305 : Int32 → Nat → Bool → Sto → Rs Unit) => ∀ (s0_305 : Int32) (s1_305 : Nat) (b : Bool) (σ : Sto), V M_Model_next 3 0 0 0 0 tU (J305 s0_305 s1_305 b σ) 305 [] [vI s0_305, vR s1_305] b σ) ?_ (fun J305 hJ305 => ?_)
                    · intro s0_305 s1_305 b σ
                      refine V_putI (j := 11) 308 rfl ck_Model (by decide) (by decide) (show decode M_Model_next.2.1 305 = .ok (.putfield 167, 3) by decide +kernel) wd_1515 rfl (fun _ => rfl) rfl rfl (fun σ_13 => ?_)
                      refine V_goto 339 (show decode M_Model_next.2.1 308 = .ok (.goto 31, 3) by decide +kernel) rfl ?_
                      exact V_vret rfl (by decide) (by decide) (show decode M_Model_next.2.1 339 = .ok (.return_, 1) by decide +kernel)
                    · skip
                      refine V_jn (fun (J300 : Nat → Bool → Sto → Rs Unit) => ∀ (s0_300 : Nat) (b : Bool) (σ : Sto), V M_Model_next 3 0 0 0 0 tU (J300 s0_300 b σ) 300 [] [vR s0_300] b σ) ?_ (fun J300 hJ300 => ?_)
                      · intro s0_300 b σ
                        refine V_iconst 301 rfl (show decode M_Model_next.2.1 300 = .ok (.iconst 4, 1) by decide +kernel) (v := 4) rfl ?_
                        refine V_goto 305 (show decode M_Model_next.2.1 301 = .ok (.goto 4, 3) by decide +kernel) rfl ?_
                        exact V_sub [] rfl (hJ305 (4 : Int32) s0_300 b σ)
                      · skip
                        refine V_ifne 287 300 rfl (show decode M_Model_next.2.1 284 = .ok (.ifCond .ne 16, 3) by decide +kernel) rfl ?_ ?_
                        · skip
                          refine V_aload_n 288 rfl (show decode M_Model_next.2.1 287 = .ok (.aload_n 0, 1) by decide +kernel) 0 rfl ?_
                          refine V_get (j := 10) (v := vI (SI σ_12 h0 10)) 291 rfl ck_Model (by decide) (by decide) (show decode M_Model_next.2.1 288 = .ok (.getfield 164, 3) by decide +kernel) wd_1514 rfl ?_
                          refine V_aload_n 292 rfl (show decode M_Model_next.2.1 291 = .ok (.aload_n 0, 1) by decide +kernel) 0 rfl ?_
                          refine V_get (j := 9) (v := vI (SI σ_12 h0 9)) 295 rfl ck_Model (by decide) (by decide) (show decode M_Model_next.2.1 292 = .ok (.getfield 170, 3) by decide +kernel) wd_1513 rfl ?_
                          refine V_isub 296 rfl (show decode M_Model_next.2.1 295 = .ok (.isub, 1) by decide +kernel) ?_
                          refine V_iconst 297 rfl (show decode M_Model_next.2.1 296 = .ok (.iconst 4, 1) by decide +kernel) (v := 4) rfl ?_
                          refine V_icmple 300 304 rfl (show decode M_Model_next.2.1 297 = .ok (.if_icmp .le 7, 3) by decide +kernel) rfl ?_ ?_
                          · skip
                            exact V_sub [] rfl (hJ300 h0 ((b_12 && cK σ_12 h0 13) && cK σ_12 h0 13) σ_12)
                          · skip
                            refine V_iconst 305 rfl (show decode M_Model_next.2.1 304 = .ok (.iconst 2, 1) by decide +kernel) (v := 2) rfl ?_
                            exact V_sub [] rfl (hJ305 (2 : Int32) h0 ((b_12 && cK σ_12 h0 13) && cK σ_12 h0 13) σ_12)
                        · skip
                          exact V_sub [] rfl (hJ300 h0 b_12 σ_12)
                  · skip
                    refine V_aload_n 226 rfl (show decode M_Model_next.2.1 225 = .ok (.aload_n 0, 1) by decide +kernel) 0 rfl ?_
                    refine V_aload_n 227 rfl (show decode M_Model_next.2.1 226 = .ok (.aload_n 0, 1) by decide +kernel) 0 rfl ?_
                    refine V_get (j := 10) (v := vI (SI σ_12 h0 10)) 230 rfl ck_Model (by decide) (by decide) (show decode M_Model_next.2.1 227 = .ok (.getfield 164, 3) by decide +kernel) wd_1514 rfl ?_
                    refine V_aload_n 231 rfl (show decode M_Model_next.2.1 230 = .ok (.aload_n 0, 1) by decide +kernel) 0 rfl ?_
                    refine V_get (j := 9) (v := vI (SI σ_12 h0 9)) 234 rfl ck_Model (by decide) (by decide) (show decode M_Model_next.2.1 231 = .ok (.getfield 170, 3) by decide +kernel) wd_1513 rfl ?_
                    refine V_isub 235 rfl (show decode M_Model_next.2.1 234 = .ok (.isub, 1) by decide +kernel) ?_
                    refine V_iconst 236 rfl (show decode M_Model_next.2.1 235 = .ok (.iconst 4, 1) by decide +kernel) (v := 4) rfl ?_
                    refine V_jn (fun (J266 : Int32 → Nat → Bool → Sto → Rs Unit) => ∀ (s0_266 : Int32) (s1_266 : Nat) (b : Bool) (σ : Sto), V M_Model_next 3 0 0 0 0 tU (J266 s0_266 s1_266 b σ) 266 [(0, vR h0), (1, vI x1_3)] [vI s0_266, vR s1_266] b σ) ?_ (fun J266 hJ266 => ?_)
                    · intro s0_266 s1_266 b σ
                      refine V_putI (j := 12) 269 rfl ck_Model (by decide) (by decide) (show decode M_Model_next.2.1 266 = .ok (.putfield 182, 3) by decide +kernel) wd_1516 rfl (fun _ => rfl) rfl rfl (fun σ_14 => ?_)
                      refine V_aload_n 270 rfl (show decode M_Model_next.2.1 269 = .ok (.aload_n 0, 1) by decide +kernel) 0 rfl ?_
                      refine V_dup 271 rfl (show decode M_Model_next.2.1 270 = .ok (.dup, 1) by decide +kernel) rfl ?_
                      refine V_get (j := 10) (v := vI (SI σ_14 h0 10)) 274 rfl ck_Model (by decide) (by decide) (show decode M_Model_next.2.1 271 = .ok (.getfield 164, 3) by decide +kernel) wd_1514 rfl ?_
                      refine V_iconst 275 rfl (show decode M_Model_next.2.1 274 = .ok (.iconst 1, 1) by decide +kernel) (v := 1) rfl ?_
                      refine V_iadd 276 rfl (show decode M_Model_next.2.1 275 = .ok (.iadd, 1) by decide +kernel) ?_
                      refine V_putI (j := 10) 279 rfl ck_Model (by decide) (by decide) (show decode M_Model_next.2.1 276 = .ok (.putfield 164, 3) by decide +kernel) wd_1514 rfl (fun _ => rfl) rfl rfl (fun σ_15 => ?_)
                      refine V_goto 214 (show decode M_Model_next.2.1 279 = .ok (.goto (-65), 3) by decide +kernel) rfl ?_
                      exact V_sub [0, 1] rfl (hL214 (((b && cK σ s1_266 13) && cK σ_14 h0 13) && cK σ_14 h0 13) σ_15)
                    · skip
                      refine V_icmpge 239 262 rfl (show decode M_Model_next.2.1 236 = .ok (.if_icmp .ge 26, 3) by decide +kernel) rfl ?_ ?_
                      · skip
                        refine V_bipush 241 rfl (show decode M_Model_next.2.1 239 = .ok (.bipush 10, 2) by decide +kernel) (v := 10) rfl ?_
                        refine V_aload_n 242 rfl (show decode M_Model_next.2.1 241 = .ok (.aload_n 0, 1) by decide +kernel) 0 rfl ?_
                        refine V_get (j := 12) (v := vI (SI σ_12 h0 12)) 245 rfl ck_Model (by decide) (by decide) (show decode M_Model_next.2.1 242 = .ok (.getfield 182, 3) by decide +kernel) wd_1516 rfl ?_
                        refine V_imul 246 rfl (show decode M_Model_next.2.1 245 = .ok (.imul, 1) by decide +kernel) ?_
                        refine V_aload_n 247 rfl (show decode M_Model_next.2.1 246 = .ok (.aload_n 0, 1) by decide +kernel) 0 rfl ?_
                        refine V_get (j := 7) (v := vR (SR σ_12 h0 7)) 250 rfl ck_Model (by decide) (by decide) (show decode M_Model_next.2.1 247 = .ok (.getfield 29, 3) by decide +kernel) wd_1511 rfl ?_
                        refine V_aload_n 251 rfl (show decode M_Model_next.2.1 250 = .ok (.aload_n 0, 1) by decide +kernel) 0 rfl ?_
                        refine V_get (j := 10) (v := vI (SI σ_12 h0 10)) 254 rfl ck_Model (by decide) (by decide) (show decode M_Model_next.2.1 251 = .ok (.getfield 164, 3) by decide +kernel) wd_1514 rfl ?_
                        refine V_ald_int 255 rfl (show decode M_Model_next.2.1 254 = .ok (.iaload, 1) by decide +kernel) ?_
                        refine V_iadd 256 rfl (show decode M_Model_next.2.1 255 = .ok (.iadd, 1) by decide +kernel) ?_
                        refine V_bipush 258 rfl (show decode M_Model_next.2.1 256 = .ok (.bipush 48, 2) by decide +kernel) (v := 48) rfl ?_
                        refine V_isub 259 rfl (show decode M_Model_next.2.1 258 = .ok (.isub, 1) by decide +kernel) ?_
                        refine V_goto 266 (show decode M_Model_next.2.1 259 = .ok (.goto 7, 3) by decide +kernel) rfl ?_
                        exact V_sub [0, 1] rfl (hJ266 ((((10 : Int32) * (SI σ_12 h0 12)) + (SI σ_12 (SR σ_12 h0 7) (ix (SI σ_12 h0 10)))) - (48 : Int32)) h0 ((((((b_12 && cK σ_12 h0 13) && cK σ_12 h0 13) && cK σ_12 h0 13) && cK σ_12 h0 13) && cK σ_12 h0 13) && cA σ_12 (SR σ_12 h0 7) 21 (SI σ_12 h0 10)) σ_12)
                      · skip
                        refine V_aload_n 263 rfl (show decode M_Model_next.2.1 262 = .ok (.aload_n 0, 1) by decide +kernel) 0 rfl ?_
                        refine V_get (j := 12) (v := vI (SI σ_12 h0 12)) 266 rfl ck_Model (by decide) (by decide) (show decode M_Model_next.2.1 263 = .ok (.getfield 182, 3) by decide +kernel) wd_1516 rfl ?_
                        exact V_sub [0, 1] rfl (hJ266 (SI σ_12 h0 12) h0 (((b_12 && cK σ_12 h0 13) && cK σ_12 h0 13) && cK σ_12 h0 13) σ_12)
            · skip
              refine V_sub [1, 0] rfl ?_
              refine lp_P (fun (L128 : Bool → Sto → Rs Unit) => ∀ (b : Bool) (σ : Sto), V M_Model_next 3 0 0 0 0 tU (L128 b σ) 128 [(0, vR h0), (1, vI x1_3)] [] b σ) ?_ ?_ fuel_ b_6 σ_6
              · intro b σ; exact V_bad
              · intro L128 hL128 b σ
                unfold b_Model_next_128
                refine V_aload_n 129 rfl (show decode M_Model_next.2.1 128 = .ok (.aload_n 0, 1) by decide +kernel) 0 rfl ?_
                refine V_aload_n 130 rfl (show decode M_Model_next.2.1 129 = .ok (.aload_n 0, 1) by decide +kernel) 0 rfl ?_
                refine V_get (j := 10) (v := vI (SI σ h0 10)) 133 rfl ck_Model (by decide) (by decide) (show decode M_Model_next.2.1 130 = .ok (.getfield 164, 3) by decide +kernel) wd_1514 rfl ?_
                refine V_callV (tb := tI) (as := [vI (SI σ h0 10)]) (rest := []) (na := 1) 136 rfl ck_Model (by decide) (s_Model_isLetter h0 (SI σ h0 10) ((b && cK σ h0 13) && cK σ h0 13) σ) rfl rfl (Nat.le_of_ble_eq_true rfl) (cal_Model_isLetter _ _ _ _ _ (by decide) (by decide) (by decide)) (show decode M_Model_next.2.1 133 = .ok (.invokevirtual 173, 3) by decide +kernel) wd_1756 wd_1758 wd_129 (fun r_16 b_16 σ_16 => ?_)
                show V M_Model_next 3 0 0 0 0 tU _ 136 [(0, vR h0), (1, vI x1_3)] [vI r_16] b_16 σ_16
                refine V_ifeq 139 152 rfl (show decode M_Model_next.2.1 136 = .ok (.ifCond .eq 16, 3) by decide +kernel) rfl ?_ ?_
                · skip
                  refine V_aload_n 153 rfl (show decode M_Model_next.2.1 152 = .ok (.aload_n 0, 1) by decide +kernel) 0 rfl ?_
                  refine V_iload_n 154 rfl (show decode M_Model_next.2.1 153 = .ok (.iload_n 1, 1) by decide +kernel) 1 rfl ?_
                  refine V_jn (fun (J162 : Int32 → Nat → Bool → Sto → Rs Unit) => ∀ (s0_162 : Int32) (s1_162 : Nat) (b : Bool) (σ : Sto), V M_Model_next 3 0 0 0 0 tU (J162 s0_162 s1_162 b σ) 162 [(0, vR h0)] [vI s0_162, vR s1_162] b σ) ?_ (fun J162 hJ162 => ?_)
                  · intro s0_162 s1_162 b σ
                    refine V_putI (j := 11) 165 rfl ck_Model (by decide) (by decide) (show decode M_Model_next.2.1 162 = .ok (.putfield 167, 3) by decide +kernel) wd_1515 rfl (fun _ => rfl) rfl rfl (fun σ_17 => ?_)
                    refine V_aload_n 166 rfl (show decode M_Model_next.2.1 165 = .ok (.aload_n 0, 1) by decide +kernel) 0 rfl ?_
                    refine V_aload_n 167 rfl (show decode M_Model_next.2.1 166 = .ok (.aload_n 0, 1) by decide +kernel) 0 rfl ?_
                    refine V_get (j := 10) (v := vI (SI σ_17 h0 10)) 170 rfl ck_Model (by decide) (by decide) (show decode M_Model_next.2.1 167 = .ok (.getfield 164, 3) by decide +kernel) wd_1514 rfl ?_
                    refine V_aload_n 171 rfl (show decode M_Model_next.2.1 170 = .ok (.aload_n 0, 1) by decide +kernel) 0 rfl ?_
                    refine V_get (j := 9) (v := vI (SI σ_17 h0 9)) 174 rfl ck_Model (by decide) (by decide) (show decode M_Model_next.2.1 171 = .ok (.getfield 170, 3) by decide +kernel) wd_1513 rfl ?_
                    refine V_isub 175 rfl (show decode M_Model_next.2.1 174 = .ok (.isub, 1) by decide +kernel) ?_
                    refine V_iconst 176 rfl (show decode M_Model_next.2.1 175 = .ok (.iconst 1, 1) by decide +kernel) (v := 1) rfl ?_
                    refine V_jn (fun (J192 : Int32 → Nat → Bool → Sto → Rs Unit) => ∀ (s0_192 : Int32) (s1_192 : Nat) (b : Bool) (σ : Sto), V M_Model_next 3 0 0 0 0 tU (J192 s0_192 s1_192 b σ) 192 [] [vI s0_192, vR s1_192] b σ) ?_ (fun J192 hJ192 => ?_)
                    · intro s0_192 s1_192 b σ
                      refine V_putI (j := 13) 195 rfl ck_Model (by decide) (by decide) (show decode M_Model_next.2.1 192 = .ok (.putfield 176, 3) by decide +kernel) wd_1517 rfl (fun _ => rfl) rfl rfl (fun σ_18 => ?_)
                      refine V_goto 339 (show decode M_Model_next.2.1 195 = .ok (.goto 144, 3) by decide +kernel) rfl ?_
                      exact V_vret rfl (by decide) (by decide) (show decode M_Model_next.2.1 339 = .ok (.return_, 1) by decide +kernel)
                    · skip
                      refine V_icmpne 179 191 rfl (show decode M_Model_next.2.1 176 = .ok (.if_icmp .ne 15, 3) by decide +kernel) rfl ?_ ?_
                      · skip
                        refine V_aload_n 180 rfl (show decode M_Model_next.2.1 179 = .ok (.aload_n 0, 1) by decide +kernel) 0 rfl ?_
                        refine V_get (j := 7) (v := vR (SR σ_17 h0 7)) 183 rfl ck_Model (by decide) (by decide) (show decode M_Model_next.2.1 180 = .ok (.getfield 29, 3) by decide +kernel) wd_1511 rfl ?_
                        refine V_aload_n 184 rfl (show decode M_Model_next.2.1 183 = .ok (.aload_n 0, 1) by decide +kernel) 0 rfl ?_
                        refine V_get (j := 9) (v := vI (SI σ_17 h0 9)) 187 rfl ck_Model (by decide) (by decide) (show decode M_Model_next.2.1 184 = .ok (.getfield 170, 3) by decide +kernel) wd_1513 rfl ?_
                        refine V_ald_int 188 rfl (show decode M_Model_next.2.1 187 = .ok (.iaload, 1) by decide +kernel) ?_
                        refine V_goto 192 (show decode M_Model_next.2.1 188 = .ok (.goto 4, 3) by decide +kernel) rfl ?_
                        exact V_sub [] rfl (hJ192 (SI σ_17 (SR σ_17 h0 7) (ix (SI σ_17 h0 9))) h0 ((((((b && cK σ s1_162 13) && cK σ_17 h0 13) && cK σ_17 h0 13) && cK σ_17 h0 13) && cK σ_17 h0 13) && cA σ_17 (SR σ_17 h0 7) 21 (SI σ_17 h0 9)) σ_17)
                      · skip
                        refine V_iconst 192 rfl (show decode M_Model_next.2.1 191 = .ok (.iconst 0, 1) by decide +kernel) (v := 0) rfl ?_
                        exact V_sub [] rfl (hJ192 (0 : Int32) h0 (((b && cK σ s1_162 13) && cK σ_17 h0 13) && cK σ_17 h0 13) σ_17)
                  · skip
                    refine V_ifeq 157 161 rfl (show decode M_Model_next.2.1 154 = .ok (.ifCond .eq 7, 3) by decide +kernel) rfl ?_ ?_
                    · skip
                      refine V_iconst 162 rfl (show decode M_Model_next.2.1 161 = .ok (.iconst 1, 1) by decide +kernel) (v := 1) rfl ?_
                      exact V_sub [0] rfl (hJ162 (1 : Int32) h0 b_16 σ_16)
                    · skip
                      refine V_iconst 158 rfl (show decode M_Model_next.2.1 157 = .ok (.iconst 4, 1) by decide +kernel) (v := 4) rfl ?_
                      refine V_goto 162 (show decode M_Model_next.2.1 158 = .ok (.goto 4, 3) by decide +kernel) rfl ?_
                      exact V_sub [0] rfl (hJ162 (4 : Int32) h0 b_16 σ_16)
                · skip
                  refine V_aload_n 140 rfl (show decode M_Model_next.2.1 139 = .ok (.aload_n 0, 1) by decide +kernel) 0 rfl ?_
                  refine V_dup 141 rfl (show decode M_Model_next.2.1 140 = .ok (.dup, 1) by decide +kernel) rfl ?_
                  refine V_get (j := 10) (v := vI (SI σ_16 h0 10)) 144 rfl ck_Model (by decide) (by decide) (show decode M_Model_next.2.1 141 = .ok (.getfield 164, 3) by decide +kernel) wd_1514 rfl ?_
                  refine V_iconst 145 rfl (show decode M_Model_next.2.1 144 = .ok (.iconst 1, 1) by decide +kernel) (v := 1) rfl ?_
                  refine V_iadd 146 rfl (show decode M_Model_next.2.1 145 = .ok (.iadd, 1) by decide +kernel) ?_
                  refine V_putI (j := 10) 149 rfl ck_Model (by decide) (by decide) (show decode M_Model_next.2.1 146 = .ok (.putfield 164, 3) by decide +kernel) wd_1514 rfl (fun _ => rfl) rfl rfl (fun σ_19 => ?_)
                  refine V_goto 128 (show decode M_Model_next.2.1 149 = .ok (.goto (-21), 3) by decide +kernel) rfl ?_
                  exact V_sub [0, 1] rfl (hL128 ((b_16 && cK σ_16 h0 13) && cK σ_16 h0 13) σ_19)
        · skip
          refine V_jn (fun (J88 : Bool → Sto → Rs Unit) => ∀ (b : Bool) (σ : Sto), V M_Model_next 3 0 0 0 0 tU (J88 b σ) 88 [(0, vR h0)] [] b σ) ?_ (fun J88 hJ88 => ?_)
          · intro b σ
            refine V_iconst 89 rfl (show decode M_Model_next.2.1 88 = .ok (.iconst 0, 1) by decide +kernel) (v := 0) rfl ?_
            exact V_sub [0] rfl (hJ89 (0 : Int32) b σ)
          · skip
            refine V_ifeq 76 88 rfl (show decode M_Model_next.2.1 73 = .ok (.ifCond .eq 15, 3) by decide +kernel) rfl ?_ ?_
            · skip
              exact V_sub [0] rfl (hJ88 b σ)
            · skip
              refine V_iload_n 77 rfl (show decode M_Model_next.2.1 76 = .ok (.iload_n 2, 1) by decide +kernel) 2 rfl ?_
              refine V_aload_n 78 rfl (show decode M_Model_next.2.1 77 = .ok (.aload_n 0, 1) by decide +kernel) 0 rfl ?_
              refine V_get (j := 10) (v := vI (SI σ h0 10)) 81 rfl ck_Model (by decide) (by decide) (show decode M_Model_next.2.1 78 = .ok (.getfield 164, 3) by decide +kernel) wd_1514 rfl ?_
              refine V_icmpne 84 88 rfl (show decode M_Model_next.2.1 81 = .ok (.if_icmp .ne 7, 3) by decide +kernel) rfl ?_ ?_
              · skip
                refine V_iconst 85 rfl (show decode M_Model_next.2.1 84 = .ok (.iconst 1, 1) by decide +kernel) (v := 1) rfl ?_
                refine V_goto 89 (show decode M_Model_next.2.1 85 = .ok (.goto 4, 3) by decide +kernel) rfl ?_
                exact V_sub [0] rfl (hJ89 (1 : Int32) (b && cK σ h0 13) σ)
              · skip
                exact V_sub [0] rfl (hJ88 (b && cK σ h0 13) σ)
      · skip
        refine V_icmpge 45 72 rfl (show decode M_Model_next.2.1 42 = .ok (.if_icmp .ge 30, 3) by decide +kernel) rfl ?_ ?_
        · skip
          refine V_aload_n 46 rfl (show decode M_Model_next.2.1 45 = .ok (.aload_n 0, 1) by decide +kernel) 0 rfl ?_
          refine V_get (j := 7) (v := vR (SR σ h0 7)) 49 rfl ck_Model (by decide) (by decide) (show decode M_Model_next.2.1 46 = .ok (.getfield 29, 3) by decide +kernel) wd_1511 rfl ?_
          refine V_aload_n 50 rfl (show decode M_Model_next.2.1 49 = .ok (.aload_n 0, 1) by decide +kernel) 0 rfl ?_
          refine V_get (j := 10) (v := vI (SI σ h0 10)) 53 rfl ck_Model (by decide) (by decide) (show decode M_Model_next.2.1 50 = .ok (.getfield 164, 3) by decide +kernel) wd_1514 rfl ?_
          refine V_ald_int 54 rfl (show decode M_Model_next.2.1 53 = .ok (.iaload, 1) by decide +kernel) ?_
          refine V_bipush 56 rfl (show decode M_Model_next.2.1 54 = .ok (.bipush 32, 2) by decide +kernel) (v := 32) rfl ?_
          refine V_icmpne 59 72 rfl (show decode M_Model_next.2.1 56 = .ok (.if_icmp .ne 16, 3) by decide +kernel) rfl ?_ ?_
          · skip
            refine V_aload_n 60 rfl (show decode M_Model_next.2.1 59 = .ok (.aload_n 0, 1) by decide +kernel) 0 rfl ?_
            refine V_dup 61 rfl (show decode M_Model_next.2.1 60 = .ok (.dup, 1) by decide +kernel) rfl ?_
            refine V_get (j := 10) (v := vI (SI σ h0 10)) 64 rfl ck_Model (by decide) (by decide) (show decode M_Model_next.2.1 61 = .ok (.getfield 164, 3) by decide +kernel) wd_1514 rfl ?_
            refine V_iconst 65 rfl (show decode M_Model_next.2.1 64 = .ok (.iconst 1, 1) by decide +kernel) (v := 1) rfl ?_
            refine V_iadd 66 rfl (show decode M_Model_next.2.1 65 = .ok (.iadd, 1) by decide +kernel) ?_
            refine V_putI (j := 10) 69 rfl ck_Model (by decide) (by decide) (show decode M_Model_next.2.1 66 = .ok (.putfield 164, 3) by decide +kernel) wd_1514 rfl (fun _ => rfl) rfl rfl (fun σ_20 => ?_)
            refine V_goto 34 (show decode M_Model_next.2.1 69 = .ok (.goto (-35), 3) by decide +kernel) rfl ?_
            exact V_sub [0, 1, 2] rfl (hL34 (((((((b && cK σ h0 13) && cK σ h0 13) && cK σ h0 13) && cK σ h0 13) && cA σ (SR σ h0 7) 21 (SI σ h0 10)) && cK σ h0 13) && cK σ h0 13) σ_20)
          · skip
            exact V_sub [0, 1, 2] rfl (hJ72 (((((b && cK σ h0 13) && cK σ h0 13) && cK σ h0 13) && cK σ h0 13) && cA σ (SR σ h0 7) 21 (SI σ h0 10)) σ)
        · skip
          exact V_sub [0, 1, 2] rfl (hJ72 ((b && cK σ h0 13) && cK σ h0 13) σ)
  · skip
    refine V_jn (fun (J27 : Bool → Sto → Rs Unit) => ∀ (b : Bool) (σ : Sto), V M_Model_next 3 0 0 0 0 tU (J27 b σ) 27 [(0, vR h0)] [] b σ) ?_ (fun J27 hJ27 => ?_)
    · intro b σ
      refine V_iconst 28 rfl (show decode M_Model_next.2.1 27 = .ok (.iconst 0, 1) by decide +kernel) (v := 0) rfl ?_
      exact V_sub [0] rfl (hJ28 (0 : Int32) b σ)
    · skip
      refine V_ifle 7 27 rfl (show decode M_Model_next.2.1 4 = .ok (.ifCond .le 23, 3) by decide +kernel) rfl ?_ ?_
      · skip
        refine V_aload_n 8 rfl (show decode M_Model_next.2.1 7 = .ok (.aload_n 0, 1) by decide +kernel) 0 rfl ?_
        refine V_get (j := 11) (v := vI (SI σ h0 11)) 11 rfl ck_Model (by decide) (by decide) (show decode M_Model_next.2.1 8 = .ok (.getfield 167, 3) by decide +kernel) wd_1515 rfl ?_
        refine V_iconst 12 rfl (show decode M_Model_next.2.1 11 = .ok (.iconst 1, 1) by decide +kernel) (v := 1) rfl ?_
        refine V_jn (fun (J23 : Bool → Sto → Rs Unit) => ∀ (b : Bool) (σ : Sto), V M_Model_next 3 0 0 0 0 tU (J23 b σ) 23 [(0, vR h0)] [] b σ) ?_ (fun J23 hJ23 => ?_)
        · intro b σ
          refine V_iconst 24 rfl (show decode M_Model_next.2.1 23 = .ok (.iconst 1, 1) by decide +kernel) (v := 1) rfl ?_
          refine V_goto 28 (show decode M_Model_next.2.1 24 = .ok (.goto 4, 3) by decide +kernel) rfl ?_
          exact V_sub [0] rfl (hJ28 (1 : Int32) b σ)
        · skip
          refine V_icmpeq 15 23 rfl (show decode M_Model_next.2.1 12 = .ok (.if_icmp .eq 11, 3) by decide +kernel) rfl ?_ ?_
          · skip
            exact V_sub [0] rfl (hJ23 ((b && cK σ h0 13) && cK σ h0 13) σ)
          · skip
            refine V_aload_n 16 rfl (show decode M_Model_next.2.1 15 = .ok (.aload_n 0, 1) by decide +kernel) 0 rfl ?_
            refine V_get (j := 11) (v := vI (SI σ h0 11)) 19 rfl ck_Model (by decide) (by decide) (show decode M_Model_next.2.1 16 = .ok (.getfield 167, 3) by decide +kernel) wd_1515 rfl ?_
            refine V_iconst 20 rfl (show decode M_Model_next.2.1 19 = .ok (.iconst 2, 1) by decide +kernel) (v := 2) rfl ?_
            refine V_icmpne 23 27 rfl (show decode M_Model_next.2.1 20 = .ok (.if_icmp .ne 7, 3) by decide +kernel) rfl ?_ ?_
            · skip
              exact V_sub [0] rfl (hJ23 (((b && cK σ h0 13) && cK σ h0 13) && cK σ h0 13) σ)
            · skip
              exact V_sub [0] rfl (hJ27 (((b && cK σ h0 13) && cK σ h0 13) && cK σ h0 13) σ)
      · skip
        exact V_sub [0] rfl (hJ27 (b && cK σ h0 13) σ)
theorem cal_Model_next (d mc ms k n : Nat) (h1 : 3 + 1 ≤ d) (h2 : k + 0 ≤ mc) (h3 : n + 0 ≤ ms) : Cal M_Model_next 3 0 0 0 d mc ms k n := ⟨wd_1755, wd_181, by decide, h1, by decide, h2, h3⟩
abbrev M_Model_step : MD := (⟨"LongTrailModel", "step", "(II)V"⟩, prog_14_method_44_code, 3, (none : Option FieldType))
def f_Model_step (h0 : Nat) (x1 : Int32) (x2 : Int32) (b : Bool) (σ : Sto) : Rs Unit := (lt_ (pI σ (SR σ h0 0) (ix ((SI σ h0 17) + ((2 : Int32) * (SI σ h0 16)))) x1) (fun (σ_1 : Sto) => (lt_ (pI σ_1 (SR σ_1 h0 0) (ix (((SI σ_1 h0 17) + ((2 : Int32) * (SI σ_1 h0 16))) + (1 : Int32))) x2) (fun (σ_2 : Sto) => (lt_ (pI σ_2 h0 16 ((SI σ_2 h0 16) + (1 : Int32))) (fun (σ_3 : Sto) => ((), ((((((((((b && cK σ h0 13) && cK σ h0 13) && cK σ h0 13) && cA σ (SR σ h0 0) 21 ((SI σ h0 17) + ((2 : Int32) * (SI σ h0 16)))) && cK σ_1 h0 13) && cK σ_1 h0 13) && cK σ_1 h0 13) && cA σ_1 (SR σ_1 h0 0) 21 (((SI σ_1 h0 17) + ((2 : Int32) * (SI σ_1 h0 16))) + (1 : Int32))) && cK σ_2 h0 13) && cK σ_2 h0 13), σ_3)))))))
set_option maxRecDepth 100000 in
set_option maxHeartbeats 4000000 in
theorem s_Model_step : ∀ (h0 : Nat) (x1 : Int32) (x2 : Int32) (b : Bool) (σ : Sto), Snd M_Model_step 1 0 0 [vR h0, vI x1, vI x2] b σ (tU (f_Model_step h0 x1 x2 b σ).1) (f_Model_step h0 x1 x2 b σ).2.1 (f_Model_step h0 x1 x2 b σ).2.2 := by
  intro h0 x1 x2 b σ
  refine Snd_of (tv := tU) (by decide) (Nat.le_of_ble_eq_true rfl) ?_
  show V M_Model_step 1 0 0 0 0 tU (f_Model_step h0 x1 x2 b σ) 0 [(0, vR h0), (1, vI x1), (2, vI x2)] [] b σ
  unfold f_Model_step
  refine V_aload_n 1 rfl (show decode M_Model_step.2.1 0 = .ok (.aload_n 0, 1) by decide +kernel) 0 rfl ?_
  refine V_get (j := 0) (v := vR (SR σ h0 0)) 4 rfl ck_Model (by decide) (by decide) (show decode M_Model_step.2.1 1 = .ok (.getfield 7, 3) by decide +kernel) wd_1504 rfl ?_
  refine V_aload_n 5 rfl (show decode M_Model_step.2.1 4 = .ok (.aload_n 0, 1) by decide +kernel) 0 rfl ?_
  refine V_get (j := 17) (v := vI (SI σ h0 17)) 8 rfl ck_Model (by decide) (by decide) (show decode M_Model_step.2.1 5 = .ok (.getfield 189, 3) by decide +kernel) wd_1521 rfl ?_
  refine V_iconst 9 rfl (show decode M_Model_step.2.1 8 = .ok (.iconst 2, 1) by decide +kernel) (v := 2) rfl ?_
  refine V_aload_n 10 rfl (show decode M_Model_step.2.1 9 = .ok (.aload_n 0, 1) by decide +kernel) 0 rfl ?_
  refine V_get (j := 16) (v := vI (SI σ h0 16)) 13 rfl ck_Model (by decide) (by decide) (show decode M_Model_step.2.1 10 = .ok (.getfield 192, 3) by decide +kernel) wd_1520 rfl ?_
  refine V_imul 14 rfl (show decode M_Model_step.2.1 13 = .ok (.imul, 1) by decide +kernel) ?_
  refine V_iadd 15 rfl (show decode M_Model_step.2.1 14 = .ok (.iadd, 1) by decide +kernel) ?_
  refine V_iload_n 16 rfl (show decode M_Model_step.2.1 15 = .ok (.iload_n 1, 1) by decide +kernel) 1 rfl ?_
  refine V_ast_int 17 rfl (show decode M_Model_step.2.1 16 = .ok (.iastore, 1) by decide +kernel) (fun σ_1 => ?_)
  refine V_aload_n 18 rfl (show decode M_Model_step.2.1 17 = .ok (.aload_n 0, 1) by decide +kernel) 0 rfl ?_
  refine V_get (j := 0) (v := vR (SR σ_1 h0 0)) 21 rfl ck_Model (by decide) (by decide) (show decode M_Model_step.2.1 18 = .ok (.getfield 7, 3) by decide +kernel) wd_1504 rfl ?_
  refine V_aload_n 22 rfl (show decode M_Model_step.2.1 21 = .ok (.aload_n 0, 1) by decide +kernel) 0 rfl ?_
  refine V_get (j := 17) (v := vI (SI σ_1 h0 17)) 25 rfl ck_Model (by decide) (by decide) (show decode M_Model_step.2.1 22 = .ok (.getfield 189, 3) by decide +kernel) wd_1521 rfl ?_
  refine V_iconst 26 rfl (show decode M_Model_step.2.1 25 = .ok (.iconst 2, 1) by decide +kernel) (v := 2) rfl ?_
  refine V_aload_n 27 rfl (show decode M_Model_step.2.1 26 = .ok (.aload_n 0, 1) by decide +kernel) 0 rfl ?_
  refine V_get (j := 16) (v := vI (SI σ_1 h0 16)) 30 rfl ck_Model (by decide) (by decide) (show decode M_Model_step.2.1 27 = .ok (.getfield 192, 3) by decide +kernel) wd_1520 rfl ?_
  refine V_imul 31 rfl (show decode M_Model_step.2.1 30 = .ok (.imul, 1) by decide +kernel) ?_
  refine V_iadd 32 rfl (show decode M_Model_step.2.1 31 = .ok (.iadd, 1) by decide +kernel) ?_
  refine V_iconst 33 rfl (show decode M_Model_step.2.1 32 = .ok (.iconst 1, 1) by decide +kernel) (v := 1) rfl ?_
  refine V_iadd 34 rfl (show decode M_Model_step.2.1 33 = .ok (.iadd, 1) by decide +kernel) ?_
  refine V_iload_n 35 rfl (show decode M_Model_step.2.1 34 = .ok (.iload_n 2, 1) by decide +kernel) 2 rfl ?_
  refine V_ast_int 36 rfl (show decode M_Model_step.2.1 35 = .ok (.iastore, 1) by decide +kernel) (fun σ_2 => ?_)
  refine V_aload_n 37 rfl (show decode M_Model_step.2.1 36 = .ok (.aload_n 0, 1) by decide +kernel) 0 rfl ?_
  refine V_dup 38 rfl (show decode M_Model_step.2.1 37 = .ok (.dup, 1) by decide +kernel) rfl ?_
  refine V_get (j := 16) (v := vI (SI σ_2 h0 16)) 41 rfl ck_Model (by decide) (by decide) (show decode M_Model_step.2.1 38 = .ok (.getfield 192, 3) by decide +kernel) wd_1520 rfl ?_
  refine V_iconst 42 rfl (show decode M_Model_step.2.1 41 = .ok (.iconst 1, 1) by decide +kernel) (v := 1) rfl ?_
  refine V_iadd 43 rfl (show decode M_Model_step.2.1 42 = .ok (.iadd, 1) by decide +kernel) ?_
  refine V_putI (j := 16) 46 rfl ck_Model (by decide) (by decide) (show decode M_Model_step.2.1 43 = .ok (.putfield 192, 3) by decide +kernel) wd_1520 rfl (fun _ => rfl) rfl rfl (fun σ_3 => ?_)
  exact V_vret rfl (by decide) (by decide) (show decode M_Model_step.2.1 46 = .ok (.return_, 1) by decide +kernel)
theorem cal_Model_step (d mc ms k n : Nat) (h1 : 1 + 1 ≤ d) (h2 : k + 0 ≤ mc) (h3 : n + 0 ≤ ms) : Cal M_Model_step 1 0 0 2 d mc ms k n := ⟨wd_1803, wd_181, by decide, h1, by decide, h2, h3⟩
abbrev M_Model_isName : MD := (⟨"LongTrailModel", "isName", "(II)Z"⟩, prog_14_method_43_code, 2, (some FieldType.boolean))
def f_Model_isName (x0 : Int32) (x1 : Int32) (b : Bool) (σ : Sto) : Rs Int32 := (if x0 = (0 : Int32) then (lt_ (fun (b : Bool) (σ : Sto) => ((1 : Int32), b, σ)) (fun J40 => (if x1 = (109 : Int32) then (J40 b σ) else (if x1 = (110 : Int32) then (J40 b σ) else ((0 : Int32), b, σ))))) else (if x0 = (1 : Int32) then (lt_ (fun (b : Bool) (σ : Sto) => ((1 : Int32), b, σ)) (fun J58 => (if x1 = (108 : Int32) then (J58 b σ) else (if x1 = (102 : Int32) then (J58 b σ) else ((0 : Int32), b, σ))))) else (if x0 = (2 : Int32) then (lt_ (fun (b : Bool) (σ : Sto) => ((1 : Int32), b, σ)) (fun J88 => (if x1 = (104 : Int32) then (J88 b σ) else (if x1 = (116 : Int32) then (J88 b σ) else (if x1 = (115 : Int32) then (J88 b σ) else (if x1 = (119 : Int32) then (J88 b σ) else ((0 : Int32), b, σ))))))) else (lt_ (fun (b : Bool) (σ : Sto) => ((1 : Int32), b, σ)) (fun J106 => (if x1 = (100 : Int32) then (J106 b σ) else (if x1 = (112 : Int32) then (J106 b σ) else ((0 : Int32), b, σ))))))))
set_option maxRecDepth 100000 in
set_option maxHeartbeats 4000000 in
theorem s_Model_isName : ∀ (x0 : Int32) (x1 : Int32) (b : Bool) (σ : Sto), Snd M_Model_isName 1 0 0 [vI x0, vI x1] b σ (tI (f_Model_isName x0 x1 b σ).1) (f_Model_isName x0 x1 b σ).2.1 (f_Model_isName x0 x1 b σ).2.2 := by
  intro x0 x1 b σ
  refine Snd_of (tv := tI) (by decide) (Nat.le_of_ble_eq_true rfl) ?_
  show V M_Model_isName 1 0 0 0 0 tI (f_Model_isName x0 x1 b σ) 0 [(0, vI x0), (1, vI x1)] [] b σ
  unfold f_Model_isName
  refine V_iload_n 1 rfl (show decode M_Model_isName.2.1 0 = .ok (.iload_n 0, 1) by decide +kernel) 0 rfl ?_
  refine V_ite (fun hs1_0 => ?_) (fun hs1_0 => ?_)
  · refine V_tswIn (off := 27) 28 (show decode M_Model_isName.2.1 1 = .ok (.tableswitch 93 0 2 #[27, 45, 63], 27) by decide +kernel) (by rw [hs1_0]; decide) (by rw [hs1_0]; decide) (by rw [hs1_0]; decide) rfl ?_
    refine V_iload_n 29 rfl (show decode M_Model_isName.2.1 28 = .ok (.iload_n 1, 1) by decide +kernel) 1 rfl ?_
    refine V_bipush 31 rfl (show decode M_Model_isName.2.1 29 = .ok (.bipush 109, 2) by decide +kernel) (v := 109) rfl ?_
    refine V_jn (fun (J40 : Bool → Sto → Rs Int32) => ∀ (b : Bool) (σ : Sto), V M_Model_isName 1 0 0 0 0 tI (J40 b σ) 40 [] [] b σ) ?_ (fun J40 hJ40 => ?_)
    · intro b σ
      refine V_iconst 41 rfl (show decode M_Model_isName.2.1 40 = .ok (.iconst 1, 1) by decide +kernel) (v := 1) rfl ?_
      refine V_goto 45 (show decode M_Model_isName.2.1 41 = .ok (.goto 4, 3) by decide +kernel) rfl ?_
      exact V_zret rfl (by decide) (by decide) rfl (show decode M_Model_isName.2.1 45 = .ok (.ireturn, 1) by decide +kernel)
    · skip
      refine V_icmpeq 34 40 rfl (show decode M_Model_isName.2.1 31 = .ok (.if_icmp .eq 9, 3) by decide +kernel) rfl ?_ ?_
      · skip
        exact V_sub [] rfl (hJ40 b σ)
      · skip
        refine V_iload_n 35 rfl (show decode M_Model_isName.2.1 34 = .ok (.iload_n 1, 1) by decide +kernel) 1 rfl ?_
        refine V_bipush 37 rfl (show decode M_Model_isName.2.1 35 = .ok (.bipush 110, 2) by decide +kernel) (v := 110) rfl ?_
        refine V_icmpne 40 44 rfl (show decode M_Model_isName.2.1 37 = .ok (.if_icmp .ne 7, 3) by decide +kernel) rfl ?_ ?_
        · skip
          exact V_sub [] rfl (hJ40 b σ)
        · skip
          refine V_iconst 45 rfl (show decode M_Model_isName.2.1 44 = .ok (.iconst 0, 1) by decide +kernel) (v := 0) rfl ?_
          exact V_zret rfl (by decide) (by decide) rfl (show decode M_Model_isName.2.1 45 = .ok (.ireturn, 1) by decide +kernel)
  refine V_ite (fun hs1_1 => ?_) (fun hs1_1 => ?_)
  · refine V_tswIn (off := 45) 46 (show decode M_Model_isName.2.1 1 = .ok (.tableswitch 93 0 2 #[27, 45, 63], 27) by decide +kernel) (by rw [hs1_1]; decide) (by rw [hs1_1]; decide) (by rw [hs1_1]; decide) rfl ?_
    refine V_iload_n 47 rfl (show decode M_Model_isName.2.1 46 = .ok (.iload_n 1, 1) by decide +kernel) 1 rfl ?_
    refine V_bipush 49 rfl (show decode M_Model_isName.2.1 47 = .ok (.bipush 108, 2) by decide +kernel) (v := 108) rfl ?_
    refine V_jn (fun (J58 : Bool → Sto → Rs Int32) => ∀ (b : Bool) (σ : Sto), V M_Model_isName 1 0 0 0 0 tI (J58 b σ) 58 [] [] b σ) ?_ (fun J58 hJ58 => ?_)
    · intro b σ
      refine V_iconst 59 rfl (show decode M_Model_isName.2.1 58 = .ok (.iconst 1, 1) by decide +kernel) (v := 1) rfl ?_
      refine V_goto 63 (show decode M_Model_isName.2.1 59 = .ok (.goto 4, 3) by decide +kernel) rfl ?_
      exact V_zret rfl (by decide) (by decide) rfl (show decode M_Model_isName.2.1 63 = .ok (.ireturn, 1) by decide +kernel)
    · skip
      refine V_icmpeq 52 58 rfl (show decode M_Model_isName.2.1 49 = .ok (.if_icmp .eq 9, 3) by decide +kernel) rfl ?_ ?_
      · skip
        exact V_sub [] rfl (hJ58 b σ)
      · skip
        refine V_iload_n 53 rfl (show decode M_Model_isName.2.1 52 = .ok (.iload_n 1, 1) by decide +kernel) 1 rfl ?_
        refine V_bipush 55 rfl (show decode M_Model_isName.2.1 53 = .ok (.bipush 102, 2) by decide +kernel) (v := 102) rfl ?_
        refine V_icmpne 58 62 rfl (show decode M_Model_isName.2.1 55 = .ok (.if_icmp .ne 7, 3) by decide +kernel) rfl ?_ ?_
        · skip
          exact V_sub [] rfl (hJ58 b σ)
        · skip
          refine V_iconst 63 rfl (show decode M_Model_isName.2.1 62 = .ok (.iconst 0, 1) by decide +kernel) (v := 0) rfl ?_
          exact V_zret rfl (by decide) (by decide) rfl (show decode M_Model_isName.2.1 63 = .ok (.ireturn, 1) by decide +kernel)
  refine V_ite (fun hs1_2 => ?_) (fun hs1_2 => ?_)
  · refine V_tswIn (off := 63) 64 (show decode M_Model_isName.2.1 1 = .ok (.tableswitch 93 0 2 #[27, 45, 63], 27) by decide +kernel) (by rw [hs1_2]; decide) (by rw [hs1_2]; decide) (by rw [hs1_2]; decide) rfl ?_
    refine V_iload_n 65 rfl (show decode M_Model_isName.2.1 64 = .ok (.iload_n 1, 1) by decide +kernel) 1 rfl ?_
    refine V_bipush 67 rfl (show decode M_Model_isName.2.1 65 = .ok (.bipush 104, 2) by decide +kernel) (v := 104) rfl ?_
    refine V_jn (fun (J88 : Bool → Sto → Rs Int32) => ∀ (b : Bool) (σ : Sto), V M_Model_isName 1 0 0 0 0 tI (J88 b σ) 88 [] [] b σ) ?_ (fun J88 hJ88 => ?_)
    · intro b σ
      refine V_iconst 89 rfl (show decode M_Model_isName.2.1 88 = .ok (.iconst 1, 1) by decide +kernel) (v := 1) rfl ?_
      refine V_goto 93 (show decode M_Model_isName.2.1 89 = .ok (.goto 4, 3) by decide +kernel) rfl ?_
      exact V_zret rfl (by decide) (by decide) rfl (show decode M_Model_isName.2.1 93 = .ok (.ireturn, 1) by decide +kernel)
    · skip
      refine V_icmpeq 70 88 rfl (show decode M_Model_isName.2.1 67 = .ok (.if_icmp .eq 21, 3) by decide +kernel) rfl ?_ ?_
      · skip
        exact V_sub [] rfl (hJ88 b σ)
      · skip
        refine V_iload_n 71 rfl (show decode M_Model_isName.2.1 70 = .ok (.iload_n 1, 1) by decide +kernel) 1 rfl ?_
        refine V_bipush 73 rfl (show decode M_Model_isName.2.1 71 = .ok (.bipush 116, 2) by decide +kernel) (v := 116) rfl ?_
        refine V_icmpeq 76 88 rfl (show decode M_Model_isName.2.1 73 = .ok (.if_icmp .eq 15, 3) by decide +kernel) rfl ?_ ?_
        · skip
          exact V_sub [] rfl (hJ88 b σ)
        · skip
          refine V_iload_n 77 rfl (show decode M_Model_isName.2.1 76 = .ok (.iload_n 1, 1) by decide +kernel) 1 rfl ?_
          refine V_bipush 79 rfl (show decode M_Model_isName.2.1 77 = .ok (.bipush 115, 2) by decide +kernel) (v := 115) rfl ?_
          refine V_icmpeq 82 88 rfl (show decode M_Model_isName.2.1 79 = .ok (.if_icmp .eq 9, 3) by decide +kernel) rfl ?_ ?_
          · skip
            exact V_sub [] rfl (hJ88 b σ)
          · skip
            refine V_iload_n 83 rfl (show decode M_Model_isName.2.1 82 = .ok (.iload_n 1, 1) by decide +kernel) 1 rfl ?_
            refine V_bipush 85 rfl (show decode M_Model_isName.2.1 83 = .ok (.bipush 119, 2) by decide +kernel) (v := 119) rfl ?_
            refine V_icmpne 88 92 rfl (show decode M_Model_isName.2.1 85 = .ok (.if_icmp .ne 7, 3) by decide +kernel) rfl ?_ ?_
            · skip
              exact V_sub [] rfl (hJ88 b σ)
            · skip
              refine V_iconst 93 rfl (show decode M_Model_isName.2.1 92 = .ok (.iconst 0, 1) by decide +kernel) (v := 0) rfl ?_
              exact V_zret rfl (by decide) (by decide) rfl (show decode M_Model_isName.2.1 93 = .ok (.ireturn, 1) by decide +kernel)
  · refine V_tswD 94 (show decode M_Model_isName.2.1 1 = .ok (.tableswitch 93 0 2 #[27, 45, 63], 27) by decide +kernel) rfl (by decide) ?_ ?_
    · intro z hz hz2
      have hm : z = 0 ∨ z = 1 ∨ z = 2 := by simp at hz2; omega
      rcases hm with rfl | rfl | rfl
      · exact absurd (Int32.toInt_inj.mp (hz.trans (by decide))) hs1_0
      · exact absurd (Int32.toInt_inj.mp (hz.trans (by decide))) hs1_1
      · exact absurd (Int32.toInt_inj.mp (hz.trans (by decide))) hs1_2
    · skip
      refine V_iload_n 95 rfl (show decode M_Model_isName.2.1 94 = .ok (.iload_n 1, 1) by decide +kernel) 1 rfl ?_
      refine V_bipush 97 rfl (show decode M_Model_isName.2.1 95 = .ok (.bipush 100, 2) by decide +kernel) (v := 100) rfl ?_
      refine V_jn (fun (J106 : Bool → Sto → Rs Int32) => ∀ (b : Bool) (σ : Sto), V M_Model_isName 1 0 0 0 0 tI (J106 b σ) 106 [] [] b σ) ?_ (fun J106 hJ106 => ?_)
      · intro b σ
        refine V_iconst 107 rfl (show decode M_Model_isName.2.1 106 = .ok (.iconst 1, 1) by decide +kernel) (v := 1) rfl ?_
        refine V_goto 111 (show decode M_Model_isName.2.1 107 = .ok (.goto 4, 3) by decide +kernel) rfl ?_
        exact V_zret rfl (by decide) (by decide) rfl (show decode M_Model_isName.2.1 111 = .ok (.ireturn, 1) by decide +kernel)
      · skip
        refine V_icmpeq 100 106 rfl (show decode M_Model_isName.2.1 97 = .ok (.if_icmp .eq 9, 3) by decide +kernel) rfl ?_ ?_
        · skip
          exact V_sub [] rfl (hJ106 b σ)
        · skip
          refine V_iload_n 101 rfl (show decode M_Model_isName.2.1 100 = .ok (.iload_n 1, 1) by decide +kernel) 1 rfl ?_
          refine V_bipush 103 rfl (show decode M_Model_isName.2.1 101 = .ok (.bipush 112, 2) by decide +kernel) (v := 112) rfl ?_
          refine V_icmpne 106 110 rfl (show decode M_Model_isName.2.1 103 = .ok (.if_icmp .ne 7, 3) by decide +kernel) rfl ?_ ?_
          · skip
            exact V_sub [] rfl (hJ106 b σ)
          · skip
            refine V_iconst 111 rfl (show decode M_Model_isName.2.1 110 = .ok (.iconst 0, 1) by decide +kernel) (v := 0) rfl ?_
            exact V_zret rfl (by decide) (by decide) rfl (show decode M_Model_isName.2.1 111 = .ok (.ireturn, 1) by decide +kernel)
theorem cal_Model_isName (d mc ms k n : Nat) (h1 : 1 + 1 ≤ d) (h2 : k + 0 ≤ mc) (h3 : n + 0 ≤ ms) : Cal M_Model_isName 1 0 0 2 d mc ms k n := ⟨wd_1806, wd_181, by decide, h1, by decide, h2, h3⟩
abbrev M_Model_either : MD := (⟨"LongTrailModel", "either", "(I)Z"⟩, prog_14_method_45_code, 2, (some FieldType.boolean))
abbrev M_Model_both : MD := (⟨"LongTrailModel", "both", "(I)Z"⟩, prog_14_method_46_code, 2, (some FieldType.boolean))
abbrev M_Model_test : MD := (⟨"LongTrailModel", "test", "(I)Z"⟩, prog_14_method_47_code, 3, (some FieldType.boolean))
abbrev M_Model_sumT : MD := (⟨"LongTrailModel", "sum", "(I)Z"⟩, prog_14_method_48_code, 3, (some FieldType.boolean))
abbrev M_Model_term : MD := (⟨"LongTrailModel", "term", "(I)Z"⟩, prog_14_method_49_code, 3, (some FieldType.boolean))
abbrev M_Model_part0 : MD := (⟨"LongTrailModel", "part0", "(I)Z"⟩, prog_14_method_50_code, 2, (some FieldType.boolean))
theorem calg_Model_either (d' d mc ms k n : Nat) (h1 : d' + 1 ≤ d) (h2 : k + 0 ≤ mc) (h3 : n + 0 ≤ ms) : Cal M_Model_either d' 0 0 1 d mc ms k n := ⟨wd_1779, wd_181, by decide, h1, by decide, h2, h3⟩
theorem calg_Model_both (d' d mc ms k n : Nat) (h1 : d' + 1 ≤ d) (h2 : k + 0 ≤ mc) (h3 : n + 0 ≤ ms) : Cal M_Model_both d' 0 0 1 d mc ms k n := ⟨wd_1783, wd_181, by decide, h1, by decide, h2, h3⟩
theorem calg_Model_test (d' d mc ms k n : Nat) (h1 : d' + 1 ≤ d) (h2 : k + 0 ≤ mc) (h3 : n + 0 ≤ ms) : Cal M_Model_test d' 0 0 1 d mc ms k n := ⟨wd_1787, wd_181, by decide, h1, by decide, h2, h3⟩
theorem calg_Model_sumT (d' d mc ms k n : Nat) (h1 : d' + 1 ≤ d) (h2 : k + 0 ≤ mc) (h3 : n + 0 ≤ ms) : Cal M_Model_sumT d' 0 0 1 d mc ms k n := ⟨wd_1791, wd_181, by decide, h1, by decide, h2, h3⟩
theorem calg_Model_term (d' d mc ms k n : Nat) (h1 : d' + 1 ≤ d) (h2 : k + 0 ≤ mc) (h3 : n + 0 ≤ ms) : Cal M_Model_term d' 0 0 1 d mc ms k n := ⟨wd_1795, wd_181, by decide, h1, by decide, h2, h3⟩
theorem calg_Model_part0 (d' d mc ms k n : Nat) (h1 : d' + 1 ≤ d) (h2 : k + 0 ≤ mc) (h3 : n + 0 ≤ ms) : Cal M_Model_part0 d' 0 0 1 d mc ms k n := ⟨wd_1799, wd_181, by decide, h1, by decide, h2, h3⟩
def b_Model_either_10 (h0 : Nat) (x1 : Int32) (g_Model_both : Nat → Int32 → Bool → Sto → Rs Int32) (L10 : Bool → Sto → Rs Int32) (b : Bool) (σ : Sto) : Rs Int32 := (bd_ (f_Model_isSign h0 (124 : Int32) (b && cK σ h0 13) σ) (fun (r_2 : Int32) (b_2 : Bool) (σ_2 : Sto) => (if r_2 = 0 then ((1 : Int32), b_2, σ_2) else (bd_ (f_Model_next h0 (b_2 && cK σ_2 h0 13) σ_2) (fun (r_3 : Unit) (b_3 : Bool) (σ_3 : Sto) => (bd_ (g_Model_both h0 x1 (b_3 && cK σ_3 h0 13) σ_3) (fun (r_4 : Int32) (b_4 : Bool) (σ_4 : Sto) => (if r_4 = 0 then ((0 : Int32), b_4, σ_4) else (bd_ (f_Model_step h0 (2 : Int32) (124 : Int32) (b_4 && cK σ_4 h0 13) σ_4) (fun (r_5 : Unit) (b_5 : Bool) (σ_5 : Sto) => (L10 b_5 σ_5)))))))))))
def fb_Model_either (g_Model_either : Nat → Int32 → Bool → Sto → Rs Int32) (g_Model_both : Nat → Int32 → Bool → Sto → Rs Int32) (g_Model_test : Nat → Int32 → Bool → Sto → Rs Int32) (g_Model_sumT : Nat → Int32 → Bool → Sto → Rs Int32) (g_Model_term : Nat → Int32 → Bool → Sto → Rs Int32) (g_Model_part0 : Nat → Int32 → Bool → Sto → Rs Int32) (h0 : Nat) (x1 : Int32) (b : Bool) (σ : Sto) : Rs Int32 := (bd_ (g_Model_both h0 x1 (b && cK σ h0 13) σ) (fun (r_1 : Int32) (b_1 : Bool) (σ_1 : Sto) => (if r_1 = 0 then ((0 : Int32), b_1, σ_1) else (lp_ (b_Model_either_10 h0 x1 g_Model_both) (fun (b : Bool) (σ : Sto) => (0, false, σ)) fuel_ b_1 σ_1))))
set_option maxRecDepth 100000 in
set_option maxHeartbeats 4000000 in
theorem sb_Model_either (D : Nat) (g_Model_either : Nat → Int32 → Bool → Sto → Rs Int32) (g_Model_both : Nat → Int32 → Bool → Sto → Rs Int32) (g_Model_test : Nat → Int32 → Bool → Sto → Rs Int32) (g_Model_sumT : Nat → Int32 → Bool → Sto → Rs Int32) (g_Model_term : Nat → Int32 → Bool → Sto → Rs Int32) (g_Model_part0 : Nat → Int32 → Bool → Sto → Rs Int32) (hg_Model_either : ∀ (h0 : Nat) (x1 : Int32) (b : Bool) (σ : Sto), Snd M_Model_either (4 + D) 0 0 [vR h0, vI x1] b σ (tI (g_Model_either h0 x1 b σ).1) (g_Model_either h0 x1 b σ).2.1 (g_Model_either h0 x1 b σ).2.2) (hg_Model_both : ∀ (h0 : Nat) (x1 : Int32) (b : Bool) (σ : Sto), Snd M_Model_both (4 + D) 0 0 [vR h0, vI x1] b σ (tI (g_Model_both h0 x1 b σ).1) (g_Model_both h0 x1 b σ).2.1 (g_Model_both h0 x1 b σ).2.2) (hg_Model_test : ∀ (h0 : Nat) (x1 : Int32) (b : Bool) (σ : Sto), Snd M_Model_test (4 + D) 0 0 [vR h0, vI x1] b σ (tI (g_Model_test h0 x1 b σ).1) (g_Model_test h0 x1 b σ).2.1 (g_Model_test h0 x1 b σ).2.2) (hg_Model_sumT : ∀ (h0 : Nat) (x1 : Int32) (b : Bool) (σ : Sto), Snd M_Model_sumT (4 + D) 0 0 [vR h0, vI x1] b σ (tI (g_Model_sumT h0 x1 b σ).1) (g_Model_sumT h0 x1 b σ).2.1 (g_Model_sumT h0 x1 b σ).2.2) (hg_Model_term : ∀ (h0 : Nat) (x1 : Int32) (b : Bool) (σ : Sto), Snd M_Model_term (4 + D) 0 0 [vR h0, vI x1] b σ (tI (g_Model_term h0 x1 b σ).1) (g_Model_term h0 x1 b σ).2.1 (g_Model_term h0 x1 b σ).2.2) (hg_Model_part0 : ∀ (h0 : Nat) (x1 : Int32) (b : Bool) (σ : Sto), Snd M_Model_part0 (4 + D) 0 0 [vR h0, vI x1] b σ (tI (g_Model_part0 h0 x1 b σ).1) (g_Model_part0 h0 x1 b σ).2.1 (g_Model_part0 h0 x1 b σ).2.2) : ∀ (h0 : Nat) (x1 : Int32) (b : Bool) (σ : Sto), Snd M_Model_either (4 + (D + 1)) 0 0 [vR h0, vI x1] b σ (tI (fb_Model_either g_Model_either g_Model_both g_Model_test g_Model_sumT g_Model_term g_Model_part0 h0 x1 b σ).1) (fb_Model_either g_Model_either g_Model_both g_Model_test g_Model_sumT g_Model_term g_Model_part0 h0 x1 b σ).2.1 (fb_Model_either g_Model_either g_Model_both g_Model_test g_Model_sumT g_Model_term g_Model_part0 h0 x1 b σ).2.2 := by
  intro h0 x1 b σ
  refine Snd_of (tv := tI) (by decide) (Nat.le_of_ble_eq_true rfl) ?_
  show V M_Model_either (4 + (D + 1)) 0 0 0 0 tI (fb_Model_either g_Model_either g_Model_both g_Model_test g_Model_sumT g_Model_term g_Model_part0 h0 x1 b σ) 0 [(0, vR h0), (1, vI x1)] [] b σ
  unfold fb_Model_either
  refine V_aload_n 1 rfl (show decode M_Model_either.2.1 0 = .ok (.aload_n 0, 1) by decide +kernel) 0 rfl ?_
  refine V_iload_n 2 rfl (show decode M_Model_either.2.1 1 = .ok (.iload_n 1, 1) by decide +kernel) 1 rfl ?_
  refine V_callV (tb := tI) (as := [vI x1]) (rest := []) (na := 1) 5 rfl ck_Model (by decide) (hg_Model_both h0 x1 (b && cK σ h0 13) σ) rfl rfl (Nat.le_of_ble_eq_true rfl) (calg_Model_both _ _ _ _ _ _ (by omega) (by omega) (by omega)) (show decode M_Model_either.2.1 2 = .ok (.invokevirtual 195, 3) by decide +kernel) wd_1780 wd_1782 wd_134 (fun r_1 b_1 σ_1 => ?_)
  show V M_Model_either (4 + (D + 1)) 0 0 0 0 tI _ 5 [(0, vR h0), (1, vI x1)] [vI r_1] b_1 σ_1
  refine V_ifne 8 10 rfl (show decode M_Model_either.2.1 5 = .ok (.ifCond .ne 5, 3) by decide +kernel) rfl ?_ ?_
  · skip
    refine V_iconst 9 rfl (show decode M_Model_either.2.1 8 = .ok (.iconst 0, 1) by decide +kernel) (v := 0) rfl ?_
    exact V_zret rfl (by decide) (by decide) rfl (show decode M_Model_either.2.1 9 = .ok (.ireturn, 1) by decide +kernel)
  · skip
    refine V_sub [0, 1] rfl ?_
    refine lp_P (fun (L10 : Bool → Sto → Rs Int32) => ∀ (b : Bool) (σ : Sto), V M_Model_either (4 + (D + 1)) 0 0 0 0 tI (L10 b σ) 10 [(0, vR h0), (1, vI x1)] [] b σ) ?_ ?_ fuel_ b_1 σ_1
    · intro b σ; exact V_bad
    · intro L10 hL10 b σ
      unfold b_Model_either_10
      refine V_aload_n 11 rfl (show decode M_Model_either.2.1 10 = .ok (.aload_n 0, 1) by decide +kernel) 0 rfl ?_
      refine V_bipush 13 rfl (show decode M_Model_either.2.1 11 = .ok (.bipush 124, 2) by decide +kernel) (v := 124) rfl ?_
      refine V_callV (tb := tI) (as := [vI (124 : Int32)]) (rest := []) (na := 1) 16 rfl ck_Model (by decide) (s_Model_isSign h0 (124 : Int32) (b && cK σ h0 13) σ) rfl rfl (Nat.le_of_ble_eq_true rfl) (cal_Model_isSign _ _ _ _ _ (by omega) (by omega) (by omega)) (show decode M_Model_either.2.1 13 = .ok (.invokevirtual 198, 3) by decide +kernel) wd_1807 wd_1809 wd_140 (fun r_2 b_2 σ_2 => ?_)
      show V M_Model_either (4 + (D + 1)) 0 0 0 0 tI _ 16 [(0, vR h0), (1, vI x1)] [vI r_2] b_2 σ_2
      refine V_ifeq 19 43 rfl (show decode M_Model_either.2.1 16 = .ok (.ifCond .eq 27, 3) by decide +kernel) rfl ?_ ?_
      · skip
        refine V_iconst 44 rfl (show decode M_Model_either.2.1 43 = .ok (.iconst 1, 1) by decide +kernel) (v := 1) rfl ?_
        exact V_zret rfl (by decide) (by decide) rfl (show decode M_Model_either.2.1 44 = .ok (.ireturn, 1) by decide +kernel)
      · skip
        refine V_aload_n 20 rfl (show decode M_Model_either.2.1 19 = .ok (.aload_n 0, 1) by decide +kernel) 0 rfl ?_
        refine V_callV (tb := tU) (as := []) (rest := []) (na := 0) 23 rfl ck_Model (by decide) (s_Model_next h0 (b_2 && cK σ_2 h0 13) σ_2) rfl rfl (Nat.le_of_ble_eq_true rfl) (cal_Model_next _ _ _ _ _ (by omega) (by omega) (by omega)) (show decode M_Model_either.2.1 20 = .ok (.invokevirtual 201, 3) by decide +kernel) wd_1752 wd_1754 wd_128 (fun r_3 b_3 σ_3 => ?_)
        show V M_Model_either (4 + (D + 1)) 0 0 0 0 tI _ 23 [(0, vR h0), (1, vI x1)] [] b_3 σ_3
        refine V_aload_n 24 rfl (show decode M_Model_either.2.1 23 = .ok (.aload_n 0, 1) by decide +kernel) 0 rfl ?_
        refine V_iload_n 25 rfl (show decode M_Model_either.2.1 24 = .ok (.iload_n 1, 1) by decide +kernel) 1 rfl ?_
        refine V_callV (tb := tI) (as := [vI x1]) (rest := []) (na := 1) 28 rfl ck_Model (by decide) (hg_Model_both h0 x1 (b_3 && cK σ_3 h0 13) σ_3) rfl rfl (Nat.le_of_ble_eq_true rfl) (calg_Model_both _ _ _ _ _ _ (by omega) (by omega) (by omega)) (show decode M_Model_either.2.1 25 = .ok (.invokevirtual 195, 3) by decide +kernel) wd_1780 wd_1782 wd_134 (fun r_4 b_4 σ_4 => ?_)
        show V M_Model_either (4 + (D + 1)) 0 0 0 0 tI _ 28 [(0, vR h0), (1, vI x1)] [vI r_4] b_4 σ_4
        refine V_ifne 31 33 rfl (show decode M_Model_either.2.1 28 = .ok (.ifCond .ne 5, 3) by decide +kernel) rfl ?_ ?_
        · skip
          refine V_iconst 32 rfl (show decode M_Model_either.2.1 31 = .ok (.iconst 0, 1) by decide +kernel) (v := 0) rfl ?_
          exact V_zret rfl (by decide) (by decide) rfl (show decode M_Model_either.2.1 32 = .ok (.ireturn, 1) by decide +kernel)
        · skip
          refine V_aload_n 34 rfl (show decode M_Model_either.2.1 33 = .ok (.aload_n 0, 1) by decide +kernel) 0 rfl ?_
          refine V_iconst 35 rfl (show decode M_Model_either.2.1 34 = .ok (.iconst 2, 1) by decide +kernel) (v := 2) rfl ?_
          refine V_bipush 37 rfl (show decode M_Model_either.2.1 35 = .ok (.bipush 124, 2) by decide +kernel) (v := 124) rfl ?_
          refine V_callV (tb := tU) (as := [vI (2 : Int32), vI (124 : Int32)]) (rest := []) (na := 2) 40 rfl ck_Model (by decide) (s_Model_step h0 (2 : Int32) (124 : Int32) (b_4 && cK σ_4 h0 13) σ_4) rfl rfl (Nat.le_of_ble_eq_true rfl) (cal_Model_step _ _ _ _ _ (by omega) (by omega) (by omega)) (show decode M_Model_either.2.1 37 = .ok (.invokevirtual 204, 3) by decide +kernel) wd_1800 wd_1802 wd_139 (fun r_5 b_5 σ_5 => ?_)
          show V M_Model_either (4 + (D + 1)) 0 0 0 0 tI _ 40 [(0, vR h0), (1, vI x1)] [] b_5 σ_5
          refine V_goto 10 (show decode M_Model_either.2.1 40 = .ok (.goto (-30), 3) by decide +kernel) rfl ?_
          exact V_sub [0, 1] rfl (hL10 b_5 σ_5)
def b_Model_both_10 (h0 : Nat) (x1 : Int32) (g_Model_test : Nat → Int32 → Bool → Sto → Rs Int32) (L10 : Bool → Sto → Rs Int32) (b : Bool) (σ : Sto) : Rs Int32 := (bd_ (f_Model_isSign h0 (38 : Int32) (b && cK σ h0 13) σ) (fun (r_2 : Int32) (b_2 : Bool) (σ_2 : Sto) => (if r_2 = 0 then ((1 : Int32), b_2, σ_2) else (bd_ (f_Model_next h0 (b_2 && cK σ_2 h0 13) σ_2) (fun (r_3 : Unit) (b_3 : Bool) (σ_3 : Sto) => (bd_ (g_Model_test h0 x1 (b_3 && cK σ_3 h0 13) σ_3) (fun (r_4 : Int32) (b_4 : Bool) (σ_4 : Sto) => (if r_4 = 0 then ((0 : Int32), b_4, σ_4) else (bd_ (f_Model_step h0 (2 : Int32) (38 : Int32) (b_4 && cK σ_4 h0 13) σ_4) (fun (r_5 : Unit) (b_5 : Bool) (σ_5 : Sto) => (L10 b_5 σ_5)))))))))))
def fb_Model_both (g_Model_either : Nat → Int32 → Bool → Sto → Rs Int32) (g_Model_both : Nat → Int32 → Bool → Sto → Rs Int32) (g_Model_test : Nat → Int32 → Bool → Sto → Rs Int32) (g_Model_sumT : Nat → Int32 → Bool → Sto → Rs Int32) (g_Model_term : Nat → Int32 → Bool → Sto → Rs Int32) (g_Model_part0 : Nat → Int32 → Bool → Sto → Rs Int32) (h0 : Nat) (x1 : Int32) (b : Bool) (σ : Sto) : Rs Int32 := (bd_ (g_Model_test h0 x1 (b && cK σ h0 13) σ) (fun (r_1 : Int32) (b_1 : Bool) (σ_1 : Sto) => (if r_1 = 0 then ((0 : Int32), b_1, σ_1) else (lp_ (b_Model_both_10 h0 x1 g_Model_test) (fun (b : Bool) (σ : Sto) => (0, false, σ)) fuel_ b_1 σ_1))))
set_option maxRecDepth 100000 in
set_option maxHeartbeats 4000000 in
theorem sb_Model_both (D : Nat) (g_Model_either : Nat → Int32 → Bool → Sto → Rs Int32) (g_Model_both : Nat → Int32 → Bool → Sto → Rs Int32) (g_Model_test : Nat → Int32 → Bool → Sto → Rs Int32) (g_Model_sumT : Nat → Int32 → Bool → Sto → Rs Int32) (g_Model_term : Nat → Int32 → Bool → Sto → Rs Int32) (g_Model_part0 : Nat → Int32 → Bool → Sto → Rs Int32) (hg_Model_either : ∀ (h0 : Nat) (x1 : Int32) (b : Bool) (σ : Sto), Snd M_Model_either (4 + D) 0 0 [vR h0, vI x1] b σ (tI (g_Model_either h0 x1 b σ).1) (g_Model_either h0 x1 b σ).2.1 (g_Model_either h0 x1 b σ).2.2) (hg_Model_both : ∀ (h0 : Nat) (x1 : Int32) (b : Bool) (σ : Sto), Snd M_Model_both (4 + D) 0 0 [vR h0, vI x1] b σ (tI (g_Model_both h0 x1 b σ).1) (g_Model_both h0 x1 b σ).2.1 (g_Model_both h0 x1 b σ).2.2) (hg_Model_test : ∀ (h0 : Nat) (x1 : Int32) (b : Bool) (σ : Sto), Snd M_Model_test (4 + D) 0 0 [vR h0, vI x1] b σ (tI (g_Model_test h0 x1 b σ).1) (g_Model_test h0 x1 b σ).2.1 (g_Model_test h0 x1 b σ).2.2) (hg_Model_sumT : ∀ (h0 : Nat) (x1 : Int32) (b : Bool) (σ : Sto), Snd M_Model_sumT (4 + D) 0 0 [vR h0, vI x1] b σ (tI (g_Model_sumT h0 x1 b σ).1) (g_Model_sumT h0 x1 b σ).2.1 (g_Model_sumT h0 x1 b σ).2.2) (hg_Model_term : ∀ (h0 : Nat) (x1 : Int32) (b : Bool) (σ : Sto), Snd M_Model_term (4 + D) 0 0 [vR h0, vI x1] b σ (tI (g_Model_term h0 x1 b σ).1) (g_Model_term h0 x1 b σ).2.1 (g_Model_term h0 x1 b σ).2.2) (hg_Model_part0 : ∀ (h0 : Nat) (x1 : Int32) (b : Bool) (σ : Sto), Snd M_Model_part0 (4 + D) 0 0 [vR h0, vI x1] b σ (tI (g_Model_part0 h0 x1 b σ).1) (g_Model_part0 h0 x1 b σ).2.1 (g_Model_part0 h0 x1 b σ).2.2) : ∀ (h0 : Nat) (x1 : Int32) (b : Bool) (σ : Sto), Snd M_Model_both (4 + (D + 1)) 0 0 [vR h0, vI x1] b σ (tI (fb_Model_both g_Model_either g_Model_both g_Model_test g_Model_sumT g_Model_term g_Model_part0 h0 x1 b σ).1) (fb_Model_both g_Model_either g_Model_both g_Model_test g_Model_sumT g_Model_term g_Model_part0 h0 x1 b σ).2.1 (fb_Model_both g_Model_either g_Model_both g_Model_test g_Model_sumT g_Model_term g_Model_part0 h0 x1 b σ).2.2 := by
  intro h0 x1 b σ
  refine Snd_of (tv := tI) (by decide) (Nat.le_of_ble_eq_true rfl) ?_
  show V M_Model_both (4 + (D + 1)) 0 0 0 0 tI (fb_Model_both g_Model_either g_Model_both g_Model_test g_Model_sumT g_Model_term g_Model_part0 h0 x1 b σ) 0 [(0, vR h0), (1, vI x1)] [] b σ
  unfold fb_Model_both
  refine V_aload_n 1 rfl (show decode M_Model_both.2.1 0 = .ok (.aload_n 0, 1) by decide +kernel) 0 rfl ?_
  refine V_iload_n 2 rfl (show decode M_Model_both.2.1 1 = .ok (.iload_n 1, 1) by decide +kernel) 1 rfl ?_
  refine V_callV (tb := tI) (as := [vI x1]) (rest := []) (na := 1) 5 rfl ck_Model (by decide) (hg_Model_test h0 x1 (b && cK σ h0 13) σ) rfl rfl (Nat.le_of_ble_eq_true rfl) (calg_Model_test _ _ _ _ _ _ (by omega) (by omega) (by omega)) (show decode M_Model_both.2.1 2 = .ok (.invokevirtual 208, 3) by decide +kernel) wd_1784 wd_1786 wd_135 (fun r_1 b_1 σ_1 => ?_)
  show V M_Model_both (4 + (D + 1)) 0 0 0 0 tI _ 5 [(0, vR h0), (1, vI x1)] [vI r_1] b_1 σ_1
  refine V_ifne 8 10 rfl (show decode M_Model_both.2.1 5 = .ok (.ifCond .ne 5, 3) by decide +kernel) rfl ?_ ?_
  · skip
    refine V_iconst 9 rfl (show decode M_Model_both.2.1 8 = .ok (.iconst 0, 1) by decide +kernel) (v := 0) rfl ?_
    exact V_zret rfl (by decide) (by decide) rfl (show decode M_Model_both.2.1 9 = .ok (.ireturn, 1) by decide +kernel)
  · skip
    refine V_sub [0, 1] rfl ?_
    refine lp_P (fun (L10 : Bool → Sto → Rs Int32) => ∀ (b : Bool) (σ : Sto), V M_Model_both (4 + (D + 1)) 0 0 0 0 tI (L10 b σ) 10 [(0, vR h0), (1, vI x1)] [] b σ) ?_ ?_ fuel_ b_1 σ_1
    · intro b σ; exact V_bad
    · intro L10 hL10 b σ
      unfold b_Model_both_10
      refine V_aload_n 11 rfl (show decode M_Model_both.2.1 10 = .ok (.aload_n 0, 1) by decide +kernel) 0 rfl ?_
      refine V_bipush 13 rfl (show decode M_Model_both.2.1 11 = .ok (.bipush 38, 2) by decide +kernel) (v := 38) rfl ?_
      refine V_callV (tb := tI) (as := [vI (38 : Int32)]) (rest := []) (na := 1) 16 rfl ck_Model (by decide) (s_Model_isSign h0 (38 : Int32) (b && cK σ h0 13) σ) rfl rfl (Nat.le_of_ble_eq_true rfl) (cal_Model_isSign _ _ _ _ _ (by omega) (by omega) (by omega)) (show decode M_Model_both.2.1 13 = .ok (.invokevirtual 198, 3) by decide +kernel) wd_1807 wd_1809 wd_140 (fun r_2 b_2 σ_2 => ?_)
      show V M_Model_both (4 + (D + 1)) 0 0 0 0 tI _ 16 [(0, vR h0), (1, vI x1)] [vI r_2] b_2 σ_2
      refine V_ifeq 19 43 rfl (show decode M_Model_both.2.1 16 = .ok (.ifCond .eq 27, 3) by decide +kernel) rfl ?_ ?_
      · skip
        refine V_iconst 44 rfl (show decode M_Model_both.2.1 43 = .ok (.iconst 1, 1) by decide +kernel) (v := 1) rfl ?_
        exact V_zret rfl (by decide) (by decide) rfl (show decode M_Model_both.2.1 44 = .ok (.ireturn, 1) by decide +kernel)
      · skip
        refine V_aload_n 20 rfl (show decode M_Model_both.2.1 19 = .ok (.aload_n 0, 1) by decide +kernel) 0 rfl ?_
        refine V_callV (tb := tU) (as := []) (rest := []) (na := 0) 23 rfl ck_Model (by decide) (s_Model_next h0 (b_2 && cK σ_2 h0 13) σ_2) rfl rfl (Nat.le_of_ble_eq_true rfl) (cal_Model_next _ _ _ _ _ (by omega) (by omega) (by omega)) (show decode M_Model_both.2.1 20 = .ok (.invokevirtual 201, 3) by decide +kernel) wd_1752 wd_1754 wd_128 (fun r_3 b_3 σ_3 => ?_)
        show V M_Model_both (4 + (D + 1)) 0 0 0 0 tI _ 23 [(0, vR h0), (1, vI x1)] [] b_3 σ_3
        refine V_aload_n 24 rfl (show decode M_Model_both.2.1 23 = .ok (.aload_n 0, 1) by decide +kernel) 0 rfl ?_
        refine V_iload_n 25 rfl (show decode M_Model_both.2.1 24 = .ok (.iload_n 1, 1) by decide +kernel) 1 rfl ?_
        refine V_callV (tb := tI) (as := [vI x1]) (rest := []) (na := 1) 28 rfl ck_Model (by decide) (hg_Model_test h0 x1 (b_3 && cK σ_3 h0 13) σ_3) rfl rfl (Nat.le_of_ble_eq_true rfl) (calg_Model_test _ _ _ _ _ _ (by omega) (by omega) (by omega)) (show decode M_Model_both.2.1 25 = .ok (.invokevirtual 208, 3) by decide +kernel) wd_1784 wd_1786 wd_135 (fun r_4 b_4 σ_4 => ?_)
        show V M_Model_both (4 + (D + 1)) 0 0 0 0 tI _ 28 [(0, vR h0), (1, vI x1)] [vI r_4] b_4 σ_4
        refine V_ifne 31 33 rfl (show decode M_Model_both.2.1 28 = .ok (.ifCond .ne 5, 3) by decide +kernel) rfl ?_ ?_
        · skip
          refine V_iconst 32 rfl (show decode M_Model_both.2.1 31 = .ok (.iconst 0, 1) by decide +kernel) (v := 0) rfl ?_
          exact V_zret rfl (by decide) (by decide) rfl (show decode M_Model_both.2.1 32 = .ok (.ireturn, 1) by decide +kernel)
        · skip
          refine V_aload_n 34 rfl (show decode M_Model_both.2.1 33 = .ok (.aload_n 0, 1) by decide +kernel) 0 rfl ?_
          refine V_iconst 35 rfl (show decode M_Model_both.2.1 34 = .ok (.iconst 2, 1) by decide +kernel) (v := 2) rfl ?_
          refine V_bipush 37 rfl (show decode M_Model_both.2.1 35 = .ok (.bipush 38, 2) by decide +kernel) (v := 38) rfl ?_
          refine V_callV (tb := tU) (as := [vI (2 : Int32), vI (38 : Int32)]) (rest := []) (na := 2) 40 rfl ck_Model (by decide) (s_Model_step h0 (2 : Int32) (38 : Int32) (b_4 && cK σ_4 h0 13) σ_4) rfl rfl (Nat.le_of_ble_eq_true rfl) (cal_Model_step _ _ _ _ _ (by omega) (by omega) (by omega)) (show decode M_Model_both.2.1 37 = .ok (.invokevirtual 204, 3) by decide +kernel) wd_1800 wd_1802 wd_139 (fun r_5 b_5 σ_5 => ?_)
          show V M_Model_both (4 + (D + 1)) 0 0 0 0 tI _ 40 [(0, vR h0), (1, vI x1)] [] b_5 σ_5
          refine V_goto 10 (show decode M_Model_both.2.1 40 = .ok (.goto (-30), 3) by decide +kernel) rfl ?_
          exact V_sub [0, 1] rfl (hL10 b_5 σ_5)
def fb_Model_test (g_Model_either : Nat → Int32 → Bool → Sto → Rs Int32) (g_Model_both : Nat → Int32 → Bool → Sto → Rs Int32) (g_Model_test : Nat → Int32 → Bool → Sto → Rs Int32) (g_Model_sumT : Nat → Int32 → Bool → Sto → Rs Int32) (g_Model_term : Nat → Int32 → Bool → Sto → Rs Int32) (g_Model_part0 : Nat → Int32 → Bool → Sto → Rs Int32) (h0 : Nat) (x1 : Int32) (b : Bool) (σ : Sto) : Rs Int32 := (bd_ (g_Model_sumT h0 x1 (b && cK σ h0 13) σ) (fun (r_1 : Int32) (b_1 : Bool) (σ_1 : Sto) => (if r_1 = 0 then ((0 : Int32), b_1, σ_1) else (bd_ (f_Model_isSign h0 (60 : Int32) (b_1 && cK σ_1 h0 13) σ_1) (fun (r_2 : Int32) (b_2 : Bool) (σ_2 : Sto) => (lt_ (fun (b : Bool) (σ : Sto) => ((1 : Int32), b, σ)) (fun J62 => (lt_ (fun (b : Bool) (σ : Sto) => (lt_ (SI σ h0 13) (fun (x2_3 : Int32) => (bd_ (f_Model_next h0 ((b && cK σ h0 13) && cK σ h0 13) σ) (fun (r_4 : Unit) (b_4 : Bool) (σ_4 : Sto) => (bd_ (g_Model_sumT h0 x1 (b_4 && cK σ_4 h0 13) σ_4) (fun (r_5 : Int32) (b_5 : Bool) (σ_5 : Sto) => (if r_5 = 0 then ((0 : Int32), b_5, σ_5) else (bd_ (f_Model_step h0 (2 : Int32) x2_3 (b_5 && cK σ_5 h0 13) σ_5) (fun (r_6 : Unit) (b_6 : Bool) (σ_6 : Sto) => (J62 b_6 σ_6))))))))))) (fun J37 => (if r_2 = 0 then (bd_ (f_Model_isSign h0 (61 : Int32) (b_2 && cK σ_2 h0 13) σ_2) (fun (r_7 : Int32) (b_7 : Bool) (σ_7 : Sto) => (if r_7 = 0 then (bd_ (f_Model_isSign h0 (62 : Int32) (b_7 && cK σ_7 h0 13) σ_7) (fun (r_8 : Int32) (b_8 : Bool) (σ_8 : Sto) => (if r_8 = 0 then (J62 b_8 σ_8) else (J37 b_8 σ_8)))) else (J37 b_7 σ_7)))) else (J37 b_2 σ_2)))))))))))
set_option maxRecDepth 100000 in
set_option maxHeartbeats 4000000 in
theorem sb_Model_test (D : Nat) (g_Model_either : Nat → Int32 → Bool → Sto → Rs Int32) (g_Model_both : Nat → Int32 → Bool → Sto → Rs Int32) (g_Model_test : Nat → Int32 → Bool → Sto → Rs Int32) (g_Model_sumT : Nat → Int32 → Bool → Sto → Rs Int32) (g_Model_term : Nat → Int32 → Bool → Sto → Rs Int32) (g_Model_part0 : Nat → Int32 → Bool → Sto → Rs Int32) (hg_Model_either : ∀ (h0 : Nat) (x1 : Int32) (b : Bool) (σ : Sto), Snd M_Model_either (4 + D) 0 0 [vR h0, vI x1] b σ (tI (g_Model_either h0 x1 b σ).1) (g_Model_either h0 x1 b σ).2.1 (g_Model_either h0 x1 b σ).2.2) (hg_Model_both : ∀ (h0 : Nat) (x1 : Int32) (b : Bool) (σ : Sto), Snd M_Model_both (4 + D) 0 0 [vR h0, vI x1] b σ (tI (g_Model_both h0 x1 b σ).1) (g_Model_both h0 x1 b σ).2.1 (g_Model_both h0 x1 b σ).2.2) (hg_Model_test : ∀ (h0 : Nat) (x1 : Int32) (b : Bool) (σ : Sto), Snd M_Model_test (4 + D) 0 0 [vR h0, vI x1] b σ (tI (g_Model_test h0 x1 b σ).1) (g_Model_test h0 x1 b σ).2.1 (g_Model_test h0 x1 b σ).2.2) (hg_Model_sumT : ∀ (h0 : Nat) (x1 : Int32) (b : Bool) (σ : Sto), Snd M_Model_sumT (4 + D) 0 0 [vR h0, vI x1] b σ (tI (g_Model_sumT h0 x1 b σ).1) (g_Model_sumT h0 x1 b σ).2.1 (g_Model_sumT h0 x1 b σ).2.2) (hg_Model_term : ∀ (h0 : Nat) (x1 : Int32) (b : Bool) (σ : Sto), Snd M_Model_term (4 + D) 0 0 [vR h0, vI x1] b σ (tI (g_Model_term h0 x1 b σ).1) (g_Model_term h0 x1 b σ).2.1 (g_Model_term h0 x1 b σ).2.2) (hg_Model_part0 : ∀ (h0 : Nat) (x1 : Int32) (b : Bool) (σ : Sto), Snd M_Model_part0 (4 + D) 0 0 [vR h0, vI x1] b σ (tI (g_Model_part0 h0 x1 b σ).1) (g_Model_part0 h0 x1 b σ).2.1 (g_Model_part0 h0 x1 b σ).2.2) : ∀ (h0 : Nat) (x1 : Int32) (b : Bool) (σ : Sto), Snd M_Model_test (4 + (D + 1)) 0 0 [vR h0, vI x1] b σ (tI (fb_Model_test g_Model_either g_Model_both g_Model_test g_Model_sumT g_Model_term g_Model_part0 h0 x1 b σ).1) (fb_Model_test g_Model_either g_Model_both g_Model_test g_Model_sumT g_Model_term g_Model_part0 h0 x1 b σ).2.1 (fb_Model_test g_Model_either g_Model_both g_Model_test g_Model_sumT g_Model_term g_Model_part0 h0 x1 b σ).2.2 := by
  intro h0 x1 b σ
  refine Snd_of (tv := tI) (by decide) (Nat.le_of_ble_eq_true rfl) ?_
  show V M_Model_test (4 + (D + 1)) 0 0 0 0 tI (fb_Model_test g_Model_either g_Model_both g_Model_test g_Model_sumT g_Model_term g_Model_part0 h0 x1 b σ) 0 [(0, vR h0), (1, vI x1)] [] b σ
  unfold fb_Model_test
  refine V_aload_n 1 rfl (show decode M_Model_test.2.1 0 = .ok (.aload_n 0, 1) by decide +kernel) 0 rfl ?_
  refine V_iload_n 2 rfl (show decode M_Model_test.2.1 1 = .ok (.iload_n 1, 1) by decide +kernel) 1 rfl ?_
  refine V_callV (tb := tI) (as := [vI x1]) (rest := []) (na := 1) 5 rfl ck_Model (by decide) (hg_Model_sumT h0 x1 (b && cK σ h0 13) σ) rfl rfl (Nat.le_of_ble_eq_true rfl) (calg_Model_sumT _ _ _ _ _ _ (by omega) (by omega) (by omega)) (show decode M_Model_test.2.1 2 = .ok (.invokevirtual 211, 3) by decide +kernel) wd_1788 wd_1790 wd_136 (fun r_1 b_1 σ_1 => ?_)
  show V M_Model_test (4 + (D + 1)) 0 0 0 0 tI _ 5 [(0, vR h0), (1, vI x1)] [vI r_1] b_1 σ_1
  refine V_ifne 8 10 rfl (show decode M_Model_test.2.1 5 = .ok (.ifCond .ne 5, 3) by decide +kernel) rfl ?_ ?_
  · skip
    refine V_iconst 9 rfl (show decode M_Model_test.2.1 8 = .ok (.iconst 0, 1) by decide +kernel) (v := 0) rfl ?_
    exact V_zret rfl (by decide) (by decide) rfl (show decode M_Model_test.2.1 9 = .ok (.ireturn, 1) by decide +kernel)
  · skip
    refine V_aload_n 11 rfl (show decode M_Model_test.2.1 10 = .ok (.aload_n 0, 1) by decide +kernel) 0 rfl ?_
    refine V_bipush 13 rfl (show decode M_Model_test.2.1 11 = .ok (.bipush 60, 2) by decide +kernel) (v := 60) rfl ?_
    refine V_callV (tb := tI) (as := [vI (60 : Int32)]) (rest := []) (na := 1) 16 rfl ck_Model (by decide) (s_Model_isSign h0 (60 : Int32) (b_1 && cK σ_1 h0 13) σ_1) rfl rfl (Nat.le_of_ble_eq_true rfl) (cal_Model_isSign _ _ _ _ _ (by omega) (by omega) (by omega)) (show decode M_Model_test.2.1 13 = .ok (.invokevirtual 198, 3) by decide +kernel) wd_1807 wd_1809 wd_140 (fun r_2 b_2 σ_2 => ?_)
    show V M_Model_test (4 + (D + 1)) 0 0 0 0 tI _ 16 [(0, vR h0), (1, vI x1)] [vI r_2] b_2 σ_2
    refine V_jn (fun (J62 : Bool → Sto → Rs Int32) => ∀ (b : Bool) (σ : Sto), V M_Model_test (4 + (D + 1)) 0 0 0 0 tI (J62 b σ) 62 [] [] b σ) ?_ (fun J62 hJ62 => ?_)
    · intro b σ
      refine V_iconst 63 rfl (show decode M_Model_test.2.1 62 = .ok (.iconst 1, 1) by decide +kernel) (v := 1) rfl ?_
      exact V_zret rfl (by decide) (by decide) rfl (show decode M_Model_test.2.1 63 = .ok (.ireturn, 1) by decide +kernel)
    · skip
      refine V_jn (fun (J37 : Bool → Sto → Rs Int32) => ∀ (b : Bool) (σ : Sto), V M_Model_test (4 + (D + 1)) 0 0 0 0 tI (J37 b σ) 37 [(0, vR h0), (1, vI x1)] [] b σ) ?_ (fun J37 hJ37 => ?_)
      · intro b σ
        refine V_aload_n 38 rfl (show decode M_Model_test.2.1 37 = .ok (.aload_n 0, 1) by decide +kernel) 0 rfl ?_
        refine V_get (j := 13) (v := vI (SI σ h0 13)) 41 rfl ck_Model (by decide) (by decide) (show decode M_Model_test.2.1 38 = .ok (.getfield 176, 3) by decide +kernel) wd_1517 rfl ?_
        refine V_istore_n (fun x2_3 => [(2, vI x2_3), (0, vR h0), (1, vI x1)]) 42 rfl (show decode M_Model_test.2.1 41 = .ok (.istore_n 2, 1) by decide +kernel) (by decide) (fun _ => rfl) (fun x2_3 => ?_)
        refine V_aload_n 43 rfl (show decode M_Model_test.2.1 42 = .ok (.aload_n 0, 1) by decide +kernel) 1 rfl ?_
        refine V_callV (tb := tU) (as := []) (rest := []) (na := 0) 46 rfl ck_Model (by decide) (s_Model_next h0 ((b && cK σ h0 13) && cK σ h0 13) σ) rfl rfl (Nat.le_of_ble_eq_true rfl) (cal_Model_next _ _ _ _ _ (by omega) (by omega) (by omega)) (show decode M_Model_test.2.1 43 = .ok (.invokevirtual 201, 3) by decide +kernel) wd_1752 wd_1754 wd_128 (fun r_4 b_4 σ_4 => ?_)
        show V M_Model_test (4 + (D + 1)) 0 0 0 0 tI _ 46 [(2, vI x2_3), (0, vR h0), (1, vI x1)] [] b_4 σ_4
        refine V_aload_n 47 rfl (show decode M_Model_test.2.1 46 = .ok (.aload_n 0, 1) by decide +kernel) 1 rfl ?_
        refine V_iload_n 48 rfl (show decode M_Model_test.2.1 47 = .ok (.iload_n 1, 1) by decide +kernel) 2 rfl ?_
        refine V_callV (tb := tI) (as := [vI x1]) (rest := []) (na := 1) 51 rfl ck_Model (by decide) (hg_Model_sumT h0 x1 (b_4 && cK σ_4 h0 13) σ_4) rfl rfl (Nat.le_of_ble_eq_true rfl) (calg_Model_sumT _ _ _ _ _ _ (by omega) (by omega) (by omega)) (show decode M_Model_test.2.1 48 = .ok (.invokevirtual 211, 3) by decide +kernel) wd_1788 wd_1790 wd_136 (fun r_5 b_5 σ_5 => ?_)
        show V M_Model_test (4 + (D + 1)) 0 0 0 0 tI _ 51 [(2, vI x2_3), (0, vR h0), (1, vI x1)] [vI r_5] b_5 σ_5
        refine V_ifne 54 56 rfl (show decode M_Model_test.2.1 51 = .ok (.ifCond .ne 5, 3) by decide +kernel) rfl ?_ ?_
        · skip
          refine V_iconst 55 rfl (show decode M_Model_test.2.1 54 = .ok (.iconst 0, 1) by decide +kernel) (v := 0) rfl ?_
          exact V_zret rfl (by decide) (by decide) rfl (show decode M_Model_test.2.1 55 = .ok (.ireturn, 1) by decide +kernel)
        · skip
          refine V_aload_n 57 rfl (show decode M_Model_test.2.1 56 = .ok (.aload_n 0, 1) by decide +kernel) 1 rfl ?_
          refine V_iconst 58 rfl (show decode M_Model_test.2.1 57 = .ok (.iconst 2, 1) by decide +kernel) (v := 2) rfl ?_
          refine V_iload_n 59 rfl (show decode M_Model_test.2.1 58 = .ok (.iload_n 2, 1) by decide +kernel) 0 rfl ?_
          refine V_callV (tb := tU) (as := [vI (2 : Int32), vI x2_3]) (rest := []) (na := 2) 62 rfl ck_Model (by decide) (s_Model_step h0 (2 : Int32) x2_3 (b_5 && cK σ_5 h0 13) σ_5) rfl rfl (Nat.le_of_ble_eq_true rfl) (cal_Model_step _ _ _ _ _ (by omega) (by omega) (by omega)) (show decode M_Model_test.2.1 59 = .ok (.invokevirtual 204, 3) by decide +kernel) wd_1800 wd_1802 wd_139 (fun r_6 b_6 σ_6 => ?_)
          show V M_Model_test (4 + (D + 1)) 0 0 0 0 tI _ 62 [(2, vI x2_3), (0, vR h0), (1, vI x1)] [] b_6 σ_6
          exact V_sub [] rfl (hJ62 b_6 σ_6)
      · skip
        refine V_ifne 19 37 rfl (show decode M_Model_test.2.1 16 = .ok (.ifCond .ne 21, 3) by decide +kernel) rfl ?_ ?_
        · skip
          refine V_aload_n 20 rfl (show decode M_Model_test.2.1 19 = .ok (.aload_n 0, 1) by decide +kernel) 0 rfl ?_
          refine V_bipush 22 rfl (show decode M_Model_test.2.1 20 = .ok (.bipush 61, 2) by decide +kernel) (v := 61) rfl ?_
          refine V_callV (tb := tI) (as := [vI (61 : Int32)]) (rest := []) (na := 1) 25 rfl ck_Model (by decide) (s_Model_isSign h0 (61 : Int32) (b_2 && cK σ_2 h0 13) σ_2) rfl rfl (Nat.le_of_ble_eq_true rfl) (cal_Model_isSign _ _ _ _ _ (by omega) (by omega) (by omega)) (show decode M_Model_test.2.1 22 = .ok (.invokevirtual 198, 3) by decide +kernel) wd_1807 wd_1809 wd_140 (fun r_7 b_7 σ_7 => ?_)
          show V M_Model_test (4 + (D + 1)) 0 0 0 0 tI _ 25 [(0, vR h0), (1, vI x1)] [vI r_7] b_7 σ_7
          refine V_ifne 28 37 rfl (show decode M_Model_test.2.1 25 = .ok (.ifCond .ne 12, 3) by decide +kernel) rfl ?_ ?_
          · skip
            refine V_aload_n 29 rfl (show decode M_Model_test.2.1 28 = .ok (.aload_n 0, 1) by decide +kernel) 0 rfl ?_
            refine V_bipush 31 rfl (show decode M_Model_test.2.1 29 = .ok (.bipush 62, 2) by decide +kernel) (v := 62) rfl ?_
            refine V_callV (tb := tI) (as := [vI (62 : Int32)]) (rest := []) (na := 1) 34 rfl ck_Model (by decide) (s_Model_isSign h0 (62 : Int32) (b_7 && cK σ_7 h0 13) σ_7) rfl rfl (Nat.le_of_ble_eq_true rfl) (cal_Model_isSign _ _ _ _ _ (by omega) (by omega) (by omega)) (show decode M_Model_test.2.1 31 = .ok (.invokevirtual 198, 3) by decide +kernel) wd_1807 wd_1809 wd_140 (fun r_8 b_8 σ_8 => ?_)
            show V M_Model_test (4 + (D + 1)) 0 0 0 0 tI _ 34 [(0, vR h0), (1, vI x1)] [vI r_8] b_8 σ_8
            refine V_ifeq 37 62 rfl (show decode M_Model_test.2.1 34 = .ok (.ifCond .eq 28, 3) by decide +kernel) rfl ?_ ?_
            · skip
              exact V_sub [] rfl (hJ62 b_8 σ_8)
            · skip
              exact V_sub [0, 1] rfl (hJ37 b_8 σ_8)
          · skip
            exact V_sub [0, 1] rfl (hJ37 b_7 σ_7)
        · skip
          exact V_sub [0, 1] rfl (hJ37 b_2 σ_2)
def b_Model_sumT_10 (h0 : Nat) (x1 : Int32) (g_Model_term : Nat → Int32 → Bool → Sto → Rs Int32) (L10 : Bool → Sto → Rs Int32) (b : Bool) (σ : Sto) : Rs Int32 := (bd_ (f_Model_isSign h0 (43 : Int32) (b && cK σ h0 13) σ) (fun (r_2 : Int32) (b_2 : Bool) (σ_2 : Sto) => (lt_ (fun (b : Bool) (σ : Sto) => (lt_ (SI σ h0 13) (fun (x2_3 : Int32) => (bd_ (f_Model_next h0 ((b && cK σ h0 13) && cK σ h0 13) σ) (fun (r_4 : Unit) (b_4 : Bool) (σ_4 : Sto) => (bd_ (g_Model_term h0 x1 (b_4 && cK σ_4 h0 13) σ_4) (fun (r_5 : Int32) (b_5 : Bool) (σ_5 : Sto) => (if r_5 = 0 then ((0 : Int32), b_5, σ_5) else (bd_ (f_Model_step h0 (2 : Int32) x2_3 (b_5 && cK σ_5 h0 13) σ_5) (fun (r_6 : Unit) (b_6 : Bool) (σ_6 : Sto) => (L10 b_6 σ_6))))))))))) (fun J28 => (if r_2 = 0 then (bd_ (f_Model_isSign h0 (45 : Int32) (b_2 && cK σ_2 h0 13) σ_2) (fun (r_7 : Int32) (b_7 : Bool) (σ_7 : Sto) => (if r_7 = 0 then ((1 : Int32), b_7, σ_7) else (J28 b_7 σ_7)))) else (J28 b_2 σ_2))))))
def fb_Model_sumT (g_Model_either : Nat → Int32 → Bool → Sto → Rs Int32) (g_Model_both : Nat → Int32 → Bool → Sto → Rs Int32) (g_Model_test : Nat → Int32 → Bool → Sto → Rs Int32) (g_Model_sumT : Nat → Int32 → Bool → Sto → Rs Int32) (g_Model_term : Nat → Int32 → Bool → Sto → Rs Int32) (g_Model_part0 : Nat → Int32 → Bool → Sto → Rs Int32) (h0 : Nat) (x1 : Int32) (b : Bool) (σ : Sto) : Rs Int32 := (bd_ (g_Model_term h0 x1 (b && cK σ h0 13) σ) (fun (r_1 : Int32) (b_1 : Bool) (σ_1 : Sto) => (if r_1 = 0 then ((0 : Int32), b_1, σ_1) else (lp_ (b_Model_sumT_10 h0 x1 g_Model_term) (fun (b : Bool) (σ : Sto) => (0, false, σ)) fuel_ b_1 σ_1))))
set_option maxRecDepth 100000 in
set_option maxHeartbeats 4000000 in
theorem sb_Model_sumT (D : Nat) (g_Model_either : Nat → Int32 → Bool → Sto → Rs Int32) (g_Model_both : Nat → Int32 → Bool → Sto → Rs Int32) (g_Model_test : Nat → Int32 → Bool → Sto → Rs Int32) (g_Model_sumT : Nat → Int32 → Bool → Sto → Rs Int32) (g_Model_term : Nat → Int32 → Bool → Sto → Rs Int32) (g_Model_part0 : Nat → Int32 → Bool → Sto → Rs Int32) (hg_Model_either : ∀ (h0 : Nat) (x1 : Int32) (b : Bool) (σ : Sto), Snd M_Model_either (4 + D) 0 0 [vR h0, vI x1] b σ (tI (g_Model_either h0 x1 b σ).1) (g_Model_either h0 x1 b σ).2.1 (g_Model_either h0 x1 b σ).2.2) (hg_Model_both : ∀ (h0 : Nat) (x1 : Int32) (b : Bool) (σ : Sto), Snd M_Model_both (4 + D) 0 0 [vR h0, vI x1] b σ (tI (g_Model_both h0 x1 b σ).1) (g_Model_both h0 x1 b σ).2.1 (g_Model_both h0 x1 b σ).2.2) (hg_Model_test : ∀ (h0 : Nat) (x1 : Int32) (b : Bool) (σ : Sto), Snd M_Model_test (4 + D) 0 0 [vR h0, vI x1] b σ (tI (g_Model_test h0 x1 b σ).1) (g_Model_test h0 x1 b σ).2.1 (g_Model_test h0 x1 b σ).2.2) (hg_Model_sumT : ∀ (h0 : Nat) (x1 : Int32) (b : Bool) (σ : Sto), Snd M_Model_sumT (4 + D) 0 0 [vR h0, vI x1] b σ (tI (g_Model_sumT h0 x1 b σ).1) (g_Model_sumT h0 x1 b σ).2.1 (g_Model_sumT h0 x1 b σ).2.2) (hg_Model_term : ∀ (h0 : Nat) (x1 : Int32) (b : Bool) (σ : Sto), Snd M_Model_term (4 + D) 0 0 [vR h0, vI x1] b σ (tI (g_Model_term h0 x1 b σ).1) (g_Model_term h0 x1 b σ).2.1 (g_Model_term h0 x1 b σ).2.2) (hg_Model_part0 : ∀ (h0 : Nat) (x1 : Int32) (b : Bool) (σ : Sto), Snd M_Model_part0 (4 + D) 0 0 [vR h0, vI x1] b σ (tI (g_Model_part0 h0 x1 b σ).1) (g_Model_part0 h0 x1 b σ).2.1 (g_Model_part0 h0 x1 b σ).2.2) : ∀ (h0 : Nat) (x1 : Int32) (b : Bool) (σ : Sto), Snd M_Model_sumT (4 + (D + 1)) 0 0 [vR h0, vI x1] b σ (tI (fb_Model_sumT g_Model_either g_Model_both g_Model_test g_Model_sumT g_Model_term g_Model_part0 h0 x1 b σ).1) (fb_Model_sumT g_Model_either g_Model_both g_Model_test g_Model_sumT g_Model_term g_Model_part0 h0 x1 b σ).2.1 (fb_Model_sumT g_Model_either g_Model_both g_Model_test g_Model_sumT g_Model_term g_Model_part0 h0 x1 b σ).2.2 := by
  intro h0 x1 b σ
  refine Snd_of (tv := tI) (by decide) (Nat.le_of_ble_eq_true rfl) ?_
  show V M_Model_sumT (4 + (D + 1)) 0 0 0 0 tI (fb_Model_sumT g_Model_either g_Model_both g_Model_test g_Model_sumT g_Model_term g_Model_part0 h0 x1 b σ) 0 [(0, vR h0), (1, vI x1)] [] b σ
  unfold fb_Model_sumT
  refine V_aload_n 1 rfl (show decode M_Model_sumT.2.1 0 = .ok (.aload_n 0, 1) by decide +kernel) 0 rfl ?_
  refine V_iload_n 2 rfl (show decode M_Model_sumT.2.1 1 = .ok (.iload_n 1, 1) by decide +kernel) 1 rfl ?_
  refine V_callV (tb := tI) (as := [vI x1]) (rest := []) (na := 1) 5 rfl ck_Model (by decide) (hg_Model_term h0 x1 (b && cK σ h0 13) σ) rfl rfl (Nat.le_of_ble_eq_true rfl) (calg_Model_term _ _ _ _ _ _ (by omega) (by omega) (by omega)) (show decode M_Model_sumT.2.1 2 = .ok (.invokevirtual 214, 3) by decide +kernel) wd_1792 wd_1794 wd_137 (fun r_1 b_1 σ_1 => ?_)
  show V M_Model_sumT (4 + (D + 1)) 0 0 0 0 tI _ 5 [(0, vR h0), (1, vI x1)] [vI r_1] b_1 σ_1
  refine V_ifne 8 10 rfl (show decode M_Model_sumT.2.1 5 = .ok (.ifCond .ne 5, 3) by decide +kernel) rfl ?_ ?_
  · skip
    refine V_iconst 9 rfl (show decode M_Model_sumT.2.1 8 = .ok (.iconst 0, 1) by decide +kernel) (v := 0) rfl ?_
    exact V_zret rfl (by decide) (by decide) rfl (show decode M_Model_sumT.2.1 9 = .ok (.ireturn, 1) by decide +kernel)
  · skip
    refine V_sub [0, 1] rfl ?_
    refine lp_P (fun (L10 : Bool → Sto → Rs Int32) => ∀ (b : Bool) (σ : Sto), V M_Model_sumT (4 + (D + 1)) 0 0 0 0 tI (L10 b σ) 10 [(0, vR h0), (1, vI x1)] [] b σ) ?_ ?_ fuel_ b_1 σ_1
    · intro b σ; exact V_bad
    · intro L10 hL10 b σ
      unfold b_Model_sumT_10
      refine V_aload_n 11 rfl (show decode M_Model_sumT.2.1 10 = .ok (.aload_n 0, 1) by decide +kernel) 0 rfl ?_
      refine V_bipush 13 rfl (show decode M_Model_sumT.2.1 11 = .ok (.bipush 43, 2) by decide +kernel) (v := 43) rfl ?_
      refine V_callV (tb := tI) (as := [vI (43 : Int32)]) (rest := []) (na := 1) 16 rfl ck_Model (by decide) (s_Model_isSign h0 (43 : Int32) (b && cK σ h0 13) σ) rfl rfl (Nat.le_of_ble_eq_true rfl) (cal_Model_isSign _ _ _ _ _ (by omega) (by omega) (by omega)) (show decode M_Model_sumT.2.1 13 = .ok (.invokevirtual 198, 3) by decide +kernel) wd_1807 wd_1809 wd_140 (fun r_2 b_2 σ_2 => ?_)
      show V M_Model_sumT (4 + (D + 1)) 0 0 0 0 tI _ 16 [(0, vR h0), (1, vI x1)] [vI r_2] b_2 σ_2
      refine V_jn (fun (J28 : Bool → Sto → Rs Int32) => ∀ (b : Bool) (σ : Sto), V M_Model_sumT (4 + (D + 1)) 0 0 0 0 tI (J28 b σ) 28 [(0, vR h0), (1, vI x1)] [] b σ) ?_ (fun J28 hJ28 => ?_)
      · intro b σ
        refine V_aload_n 29 rfl (show decode M_Model_sumT.2.1 28 = .ok (.aload_n 0, 1) by decide +kernel) 0 rfl ?_
        refine V_get (j := 13) (v := vI (SI σ h0 13)) 32 rfl ck_Model (by decide) (by decide) (show decode M_Model_sumT.2.1 29 = .ok (.getfield 176, 3) by decide +kernel) wd_1517 rfl ?_
        refine V_istore_n (fun x2_3 => [(2, vI x2_3), (0, vR h0), (1, vI x1)]) 33 rfl (show decode M_Model_sumT.2.1 32 = .ok (.istore_n 2, 1) by decide +kernel) (by decide) (fun _ => rfl) (fun x2_3 => ?_)
        refine V_aload_n 34 rfl (show decode M_Model_sumT.2.1 33 = .ok (.aload_n 0, 1) by decide +kernel) 1 rfl ?_
        refine V_callV (tb := tU) (as := []) (rest := []) (na := 0) 37 rfl ck_Model (by decide) (s_Model_next h0 ((b && cK σ h0 13) && cK σ h0 13) σ) rfl rfl (Nat.le_of_ble_eq_true rfl) (cal_Model_next _ _ _ _ _ (by omega) (by omega) (by omega)) (show decode M_Model_sumT.2.1 34 = .ok (.invokevirtual 201, 3) by decide +kernel) wd_1752 wd_1754 wd_128 (fun r_4 b_4 σ_4 => ?_)
        show V M_Model_sumT (4 + (D + 1)) 0 0 0 0 tI _ 37 [(2, vI x2_3), (0, vR h0), (1, vI x1)] [] b_4 σ_4
        refine V_aload_n 38 rfl (show decode M_Model_sumT.2.1 37 = .ok (.aload_n 0, 1) by decide +kernel) 1 rfl ?_
        refine V_iload_n 39 rfl (show decode M_Model_sumT.2.1 38 = .ok (.iload_n 1, 1) by decide +kernel) 2 rfl ?_
        refine V_callV (tb := tI) (as := [vI x1]) (rest := []) (na := 1) 42 rfl ck_Model (by decide) (hg_Model_term h0 x1 (b_4 && cK σ_4 h0 13) σ_4) rfl rfl (Nat.le_of_ble_eq_true rfl) (calg_Model_term _ _ _ _ _ _ (by omega) (by omega) (by omega)) (show decode M_Model_sumT.2.1 39 = .ok (.invokevirtual 214, 3) by decide +kernel) wd_1792 wd_1794 wd_137 (fun r_5 b_5 σ_5 => ?_)
        show V M_Model_sumT (4 + (D + 1)) 0 0 0 0 tI _ 42 [(2, vI x2_3), (0, vR h0), (1, vI x1)] [vI r_5] b_5 σ_5
        refine V_ifne 45 47 rfl (show decode M_Model_sumT.2.1 42 = .ok (.ifCond .ne 5, 3) by decide +kernel) rfl ?_ ?_
        · skip
          refine V_iconst 46 rfl (show decode M_Model_sumT.2.1 45 = .ok (.iconst 0, 1) by decide +kernel) (v := 0) rfl ?_
          exact V_zret rfl (by decide) (by decide) rfl (show decode M_Model_sumT.2.1 46 = .ok (.ireturn, 1) by decide +kernel)
        · skip
          refine V_aload_n 48 rfl (show decode M_Model_sumT.2.1 47 = .ok (.aload_n 0, 1) by decide +kernel) 1 rfl ?_
          refine V_iconst 49 rfl (show decode M_Model_sumT.2.1 48 = .ok (.iconst 2, 1) by decide +kernel) (v := 2) rfl ?_
          refine V_iload_n 50 rfl (show decode M_Model_sumT.2.1 49 = .ok (.iload_n 2, 1) by decide +kernel) 0 rfl ?_
          refine V_callV (tb := tU) (as := [vI (2 : Int32), vI x2_3]) (rest := []) (na := 2) 53 rfl ck_Model (by decide) (s_Model_step h0 (2 : Int32) x2_3 (b_5 && cK σ_5 h0 13) σ_5) rfl rfl (Nat.le_of_ble_eq_true rfl) (cal_Model_step _ _ _ _ _ (by omega) (by omega) (by omega)) (show decode M_Model_sumT.2.1 50 = .ok (.invokevirtual 204, 3) by decide +kernel) wd_1800 wd_1802 wd_139 (fun r_6 b_6 σ_6 => ?_)
          show V M_Model_sumT (4 + (D + 1)) 0 0 0 0 tI _ 53 [(2, vI x2_3), (0, vR h0), (1, vI x1)] [] b_6 σ_6
          refine V_goto 10 (show decode M_Model_sumT.2.1 53 = .ok (.goto (-43), 3) by decide +kernel) rfl ?_
          exact V_sub [1, 2] rfl (hL10 b_6 σ_6)
      · skip
        refine V_ifne 19 28 rfl (show decode M_Model_sumT.2.1 16 = .ok (.ifCond .ne 12, 3) by decide +kernel) rfl ?_ ?_
        · skip
          refine V_aload_n 20 rfl (show decode M_Model_sumT.2.1 19 = .ok (.aload_n 0, 1) by decide +kernel) 0 rfl ?_
          refine V_bipush 22 rfl (show decode M_Model_sumT.2.1 20 = .ok (.bipush 45, 2) by decide +kernel) (v := 45) rfl ?_
          refine V_callV (tb := tI) (as := [vI (45 : Int32)]) (rest := []) (na := 1) 25 rfl ck_Model (by decide) (s_Model_isSign h0 (45 : Int32) (b_2 && cK σ_2 h0 13) σ_2) rfl rfl (Nat.le_of_ble_eq_true rfl) (cal_Model_isSign _ _ _ _ _ (by omega) (by omega) (by omega)) (show decode M_Model_sumT.2.1 22 = .ok (.invokevirtual 198, 3) by decide +kernel) wd_1807 wd_1809 wd_140 (fun r_7 b_7 σ_7 => ?_)
          show V M_Model_sumT (4 + (D + 1)) 0 0 0 0 tI _ 25 [(0, vR h0), (1, vI x1)] [vI r_7] b_7 σ_7
          refine V_ifeq 28 56 rfl (show decode M_Model_sumT.2.1 25 = .ok (.ifCond .eq 31, 3) by decide +kernel) rfl ?_ ?_
          · skip
            refine V_iconst 57 rfl (show decode M_Model_sumT.2.1 56 = .ok (.iconst 1, 1) by decide +kernel) (v := 1) rfl ?_
            exact V_zret rfl (by decide) (by decide) rfl (show decode M_Model_sumT.2.1 57 = .ok (.ireturn, 1) by decide +kernel)
          · skip
            exact V_sub [0, 1] rfl (hJ28 b_7 σ_7)
        · skip
          exact V_sub [0, 1] rfl (hJ28 b_2 σ_2)
def b_Model_term_10 (h0 : Nat) (x1 : Int32) (g_Model_part0 : Nat → Int32 → Bool → Sto → Rs Int32) (L10 : Bool → Sto → Rs Int32) (b : Bool) (σ : Sto) : Rs Int32 := (bd_ (f_Model_isSign h0 (42 : Int32) (b && cK σ h0 13) σ) (fun (r_2 : Int32) (b_2 : Bool) (σ_2 : Sto) => (lt_ (fun (b : Bool) (σ : Sto) => (lt_ (SI σ h0 13) (fun (x2_3 : Int32) => (bd_ (f_Model_next h0 ((b && cK σ h0 13) && cK σ h0 13) σ) (fun (r_4 : Unit) (b_4 : Bool) (σ_4 : Sto) => (bd_ (g_Model_part0 h0 x1 (b_4 && cK σ_4 h0 13) σ_4) (fun (r_5 : Int32) (b_5 : Bool) (σ_5 : Sto) => (if r_5 = 0 then ((0 : Int32), b_5, σ_5) else (bd_ (f_Model_step h0 (2 : Int32) x2_3 (b_5 && cK σ_5 h0 13) σ_5) (fun (r_6 : Unit) (b_6 : Bool) (σ_6 : Sto) => (L10 b_6 σ_6))))))))))) (fun J28 => (if r_2 = 0 then (bd_ (f_Model_isSign h0 (47 : Int32) (b_2 && cK σ_2 h0 13) σ_2) (fun (r_7 : Int32) (b_7 : Bool) (σ_7 : Sto) => (if r_7 = 0 then ((1 : Int32), b_7, σ_7) else (J28 b_7 σ_7)))) else (J28 b_2 σ_2))))))
def fb_Model_term (g_Model_either : Nat → Int32 → Bool → Sto → Rs Int32) (g_Model_both : Nat → Int32 → Bool → Sto → Rs Int32) (g_Model_test : Nat → Int32 → Bool → Sto → Rs Int32) (g_Model_sumT : Nat → Int32 → Bool → Sto → Rs Int32) (g_Model_term : Nat → Int32 → Bool → Sto → Rs Int32) (g_Model_part0 : Nat → Int32 → Bool → Sto → Rs Int32) (h0 : Nat) (x1 : Int32) (b : Bool) (σ : Sto) : Rs Int32 := (bd_ (g_Model_part0 h0 x1 (b && cK σ h0 13) σ) (fun (r_1 : Int32) (b_1 : Bool) (σ_1 : Sto) => (if r_1 = 0 then ((0 : Int32), b_1, σ_1) else (lp_ (b_Model_term_10 h0 x1 g_Model_part0) (fun (b : Bool) (σ : Sto) => (0, false, σ)) fuel_ b_1 σ_1))))
set_option maxRecDepth 100000 in
set_option maxHeartbeats 4000000 in
theorem sb_Model_term (D : Nat) (g_Model_either : Nat → Int32 → Bool → Sto → Rs Int32) (g_Model_both : Nat → Int32 → Bool → Sto → Rs Int32) (g_Model_test : Nat → Int32 → Bool → Sto → Rs Int32) (g_Model_sumT : Nat → Int32 → Bool → Sto → Rs Int32) (g_Model_term : Nat → Int32 → Bool → Sto → Rs Int32) (g_Model_part0 : Nat → Int32 → Bool → Sto → Rs Int32) (hg_Model_either : ∀ (h0 : Nat) (x1 : Int32) (b : Bool) (σ : Sto), Snd M_Model_either (4 + D) 0 0 [vR h0, vI x1] b σ (tI (g_Model_either h0 x1 b σ).1) (g_Model_either h0 x1 b σ).2.1 (g_Model_either h0 x1 b σ).2.2) (hg_Model_both : ∀ (h0 : Nat) (x1 : Int32) (b : Bool) (σ : Sto), Snd M_Model_both (4 + D) 0 0 [vR h0, vI x1] b σ (tI (g_Model_both h0 x1 b σ).1) (g_Model_both h0 x1 b σ).2.1 (g_Model_both h0 x1 b σ).2.2) (hg_Model_test : ∀ (h0 : Nat) (x1 : Int32) (b : Bool) (σ : Sto), Snd M_Model_test (4 + D) 0 0 [vR h0, vI x1] b σ (tI (g_Model_test h0 x1 b σ).1) (g_Model_test h0 x1 b σ).2.1 (g_Model_test h0 x1 b σ).2.2) (hg_Model_sumT : ∀ (h0 : Nat) (x1 : Int32) (b : Bool) (σ : Sto), Snd M_Model_sumT (4 + D) 0 0 [vR h0, vI x1] b σ (tI (g_Model_sumT h0 x1 b σ).1) (g_Model_sumT h0 x1 b σ).2.1 (g_Model_sumT h0 x1 b σ).2.2) (hg_Model_term : ∀ (h0 : Nat) (x1 : Int32) (b : Bool) (σ : Sto), Snd M_Model_term (4 + D) 0 0 [vR h0, vI x1] b σ (tI (g_Model_term h0 x1 b σ).1) (g_Model_term h0 x1 b σ).2.1 (g_Model_term h0 x1 b σ).2.2) (hg_Model_part0 : ∀ (h0 : Nat) (x1 : Int32) (b : Bool) (σ : Sto), Snd M_Model_part0 (4 + D) 0 0 [vR h0, vI x1] b σ (tI (g_Model_part0 h0 x1 b σ).1) (g_Model_part0 h0 x1 b σ).2.1 (g_Model_part0 h0 x1 b σ).2.2) : ∀ (h0 : Nat) (x1 : Int32) (b : Bool) (σ : Sto), Snd M_Model_term (4 + (D + 1)) 0 0 [vR h0, vI x1] b σ (tI (fb_Model_term g_Model_either g_Model_both g_Model_test g_Model_sumT g_Model_term g_Model_part0 h0 x1 b σ).1) (fb_Model_term g_Model_either g_Model_both g_Model_test g_Model_sumT g_Model_term g_Model_part0 h0 x1 b σ).2.1 (fb_Model_term g_Model_either g_Model_both g_Model_test g_Model_sumT g_Model_term g_Model_part0 h0 x1 b σ).2.2 := by
  intro h0 x1 b σ
  refine Snd_of (tv := tI) (by decide) (Nat.le_of_ble_eq_true rfl) ?_
  show V M_Model_term (4 + (D + 1)) 0 0 0 0 tI (fb_Model_term g_Model_either g_Model_both g_Model_test g_Model_sumT g_Model_term g_Model_part0 h0 x1 b σ) 0 [(0, vR h0), (1, vI x1)] [] b σ
  unfold fb_Model_term
  refine V_aload_n 1 rfl (show decode M_Model_term.2.1 0 = .ok (.aload_n 0, 1) by decide +kernel) 0 rfl ?_
  refine V_iload_n 2 rfl (show decode M_Model_term.2.1 1 = .ok (.iload_n 1, 1) by decide +kernel) 1 rfl ?_
  refine V_callV (tb := tI) (as := [vI x1]) (rest := []) (na := 1) 5 rfl ck_Model (by decide) (hg_Model_part0 h0 x1 (b && cK σ h0 13) σ) rfl rfl (Nat.le_of_ble_eq_true rfl) (calg_Model_part0 _ _ _ _ _ _ (by omega) (by omega) (by omega)) (show decode M_Model_term.2.1 2 = .ok (.invokevirtual 217, 3) by decide +kernel) wd_1796 wd_1798 wd_138 (fun r_1 b_1 σ_1 => ?_)
  show V M_Model_term (4 + (D + 1)) 0 0 0 0 tI _ 5 [(0, vR h0), (1, vI x1)] [vI r_1] b_1 σ_1
  refine V_ifne 8 10 rfl (show decode M_Model_term.2.1 5 = .ok (.ifCond .ne 5, 3) by decide +kernel) rfl ?_ ?_
  · skip
    refine V_iconst 9 rfl (show decode M_Model_term.2.1 8 = .ok (.iconst 0, 1) by decide +kernel) (v := 0) rfl ?_
    exact V_zret rfl (by decide) (by decide) rfl (show decode M_Model_term.2.1 9 = .ok (.ireturn, 1) by decide +kernel)
  · skip
    refine V_sub [0, 1] rfl ?_
    refine lp_P (fun (L10 : Bool → Sto → Rs Int32) => ∀ (b : Bool) (σ : Sto), V M_Model_term (4 + (D + 1)) 0 0 0 0 tI (L10 b σ) 10 [(0, vR h0), (1, vI x1)] [] b σ) ?_ ?_ fuel_ b_1 σ_1
    · intro b σ; exact V_bad
    · intro L10 hL10 b σ
      unfold b_Model_term_10
      refine V_aload_n 11 rfl (show decode M_Model_term.2.1 10 = .ok (.aload_n 0, 1) by decide +kernel) 0 rfl ?_
      refine V_bipush 13 rfl (show decode M_Model_term.2.1 11 = .ok (.bipush 42, 2) by decide +kernel) (v := 42) rfl ?_
      refine V_callV (tb := tI) (as := [vI (42 : Int32)]) (rest := []) (na := 1) 16 rfl ck_Model (by decide) (s_Model_isSign h0 (42 : Int32) (b && cK σ h0 13) σ) rfl rfl (Nat.le_of_ble_eq_true rfl) (cal_Model_isSign _ _ _ _ _ (by omega) (by omega) (by omega)) (show decode M_Model_term.2.1 13 = .ok (.invokevirtual 198, 3) by decide +kernel) wd_1807 wd_1809 wd_140 (fun r_2 b_2 σ_2 => ?_)
      show V M_Model_term (4 + (D + 1)) 0 0 0 0 tI _ 16 [(0, vR h0), (1, vI x1)] [vI r_2] b_2 σ_2
      refine V_jn (fun (J28 : Bool → Sto → Rs Int32) => ∀ (b : Bool) (σ : Sto), V M_Model_term (4 + (D + 1)) 0 0 0 0 tI (J28 b σ) 28 [(0, vR h0), (1, vI x1)] [] b σ) ?_ (fun J28 hJ28 => ?_)
      · intro b σ
        refine V_aload_n 29 rfl (show decode M_Model_term.2.1 28 = .ok (.aload_n 0, 1) by decide +kernel) 0 rfl ?_
        refine V_get (j := 13) (v := vI (SI σ h0 13)) 32 rfl ck_Model (by decide) (by decide) (show decode M_Model_term.2.1 29 = .ok (.getfield 176, 3) by decide +kernel) wd_1517 rfl ?_
        refine V_istore_n (fun x2_3 => [(2, vI x2_3), (0, vR h0), (1, vI x1)]) 33 rfl (show decode M_Model_term.2.1 32 = .ok (.istore_n 2, 1) by decide +kernel) (by decide) (fun _ => rfl) (fun x2_3 => ?_)
        refine V_aload_n 34 rfl (show decode M_Model_term.2.1 33 = .ok (.aload_n 0, 1) by decide +kernel) 1 rfl ?_
        refine V_callV (tb := tU) (as := []) (rest := []) (na := 0) 37 rfl ck_Model (by decide) (s_Model_next h0 ((b && cK σ h0 13) && cK σ h0 13) σ) rfl rfl (Nat.le_of_ble_eq_true rfl) (cal_Model_next _ _ _ _ _ (by omega) (by omega) (by omega)) (show decode M_Model_term.2.1 34 = .ok (.invokevirtual 201, 3) by decide +kernel) wd_1752 wd_1754 wd_128 (fun r_4 b_4 σ_4 => ?_)
        show V M_Model_term (4 + (D + 1)) 0 0 0 0 tI _ 37 [(2, vI x2_3), (0, vR h0), (1, vI x1)] [] b_4 σ_4
        refine V_aload_n 38 rfl (show decode M_Model_term.2.1 37 = .ok (.aload_n 0, 1) by decide +kernel) 1 rfl ?_
        refine V_iload_n 39 rfl (show decode M_Model_term.2.1 38 = .ok (.iload_n 1, 1) by decide +kernel) 2 rfl ?_
        refine V_callV (tb := tI) (as := [vI x1]) (rest := []) (na := 1) 42 rfl ck_Model (by decide) (hg_Model_part0 h0 x1 (b_4 && cK σ_4 h0 13) σ_4) rfl rfl (Nat.le_of_ble_eq_true rfl) (calg_Model_part0 _ _ _ _ _ _ (by omega) (by omega) (by omega)) (show decode M_Model_term.2.1 39 = .ok (.invokevirtual 217, 3) by decide +kernel) wd_1796 wd_1798 wd_138 (fun r_5 b_5 σ_5 => ?_)
        show V M_Model_term (4 + (D + 1)) 0 0 0 0 tI _ 42 [(2, vI x2_3), (0, vR h0), (1, vI x1)] [vI r_5] b_5 σ_5
        refine V_ifne 45 47 rfl (show decode M_Model_term.2.1 42 = .ok (.ifCond .ne 5, 3) by decide +kernel) rfl ?_ ?_
        · skip
          refine V_iconst 46 rfl (show decode M_Model_term.2.1 45 = .ok (.iconst 0, 1) by decide +kernel) (v := 0) rfl ?_
          exact V_zret rfl (by decide) (by decide) rfl (show decode M_Model_term.2.1 46 = .ok (.ireturn, 1) by decide +kernel)
        · skip
          refine V_aload_n 48 rfl (show decode M_Model_term.2.1 47 = .ok (.aload_n 0, 1) by decide +kernel) 1 rfl ?_
          refine V_iconst 49 rfl (show decode M_Model_term.2.1 48 = .ok (.iconst 2, 1) by decide +kernel) (v := 2) rfl ?_
          refine V_iload_n 50 rfl (show decode M_Model_term.2.1 49 = .ok (.iload_n 2, 1) by decide +kernel) 0 rfl ?_
          refine V_callV (tb := tU) (as := [vI (2 : Int32), vI x2_3]) (rest := []) (na := 2) 53 rfl ck_Model (by decide) (s_Model_step h0 (2 : Int32) x2_3 (b_5 && cK σ_5 h0 13) σ_5) rfl rfl (Nat.le_of_ble_eq_true rfl) (cal_Model_step _ _ _ _ _ (by omega) (by omega) (by omega)) (show decode M_Model_term.2.1 50 = .ok (.invokevirtual 204, 3) by decide +kernel) wd_1800 wd_1802 wd_139 (fun r_6 b_6 σ_6 => ?_)
          show V M_Model_term (4 + (D + 1)) 0 0 0 0 tI _ 53 [(2, vI x2_3), (0, vR h0), (1, vI x1)] [] b_6 σ_6
          refine V_goto 10 (show decode M_Model_term.2.1 53 = .ok (.goto (-43), 3) by decide +kernel) rfl ?_
          exact V_sub [1, 2] rfl (hL10 b_6 σ_6)
      · skip
        refine V_ifne 19 28 rfl (show decode M_Model_term.2.1 16 = .ok (.ifCond .ne 12, 3) by decide +kernel) rfl ?_ ?_
        · skip
          refine V_aload_n 20 rfl (show decode M_Model_term.2.1 19 = .ok (.aload_n 0, 1) by decide +kernel) 0 rfl ?_
          refine V_bipush 22 rfl (show decode M_Model_term.2.1 20 = .ok (.bipush 47, 2) by decide +kernel) (v := 47) rfl ?_
          refine V_callV (tb := tI) (as := [vI (47 : Int32)]) (rest := []) (na := 1) 25 rfl ck_Model (by decide) (s_Model_isSign h0 (47 : Int32) (b_2 && cK σ_2 h0 13) σ_2) rfl rfl (Nat.le_of_ble_eq_true rfl) (cal_Model_isSign _ _ _ _ _ (by omega) (by omega) (by omega)) (show decode M_Model_term.2.1 22 = .ok (.invokevirtual 198, 3) by decide +kernel) wd_1807 wd_1809 wd_140 (fun r_7 b_7 σ_7 => ?_)
          show V M_Model_term (4 + (D + 1)) 0 0 0 0 tI _ 25 [(0, vR h0), (1, vI x1)] [vI r_7] b_7 σ_7
          refine V_ifeq 28 56 rfl (show decode M_Model_term.2.1 25 = .ok (.ifCond .eq 31, 3) by decide +kernel) rfl ?_ ?_
          · skip
            refine V_iconst 57 rfl (show decode M_Model_term.2.1 56 = .ok (.iconst 1, 1) by decide +kernel) (v := 1) rfl ?_
            exact V_zret rfl (by decide) (by decide) rfl (show decode M_Model_term.2.1 57 = .ok (.ireturn, 1) by decide +kernel)
          · skip
            exact V_sub [0, 1] rfl (hJ28 b_7 σ_7)
        · skip
          exact V_sub [0, 1] rfl (hJ28 b_2 σ_2)
def fb_Model_part0 (g_Model_either : Nat → Int32 → Bool → Sto → Rs Int32) (g_Model_both : Nat → Int32 → Bool → Sto → Rs Int32) (g_Model_test : Nat → Int32 → Bool → Sto → Rs Int32) (g_Model_sumT : Nat → Int32 → Bool → Sto → Rs Int32) (g_Model_term : Nat → Int32 → Bool → Sto → Rs Int32) (g_Model_part0 : Nat → Int32 → Bool → Sto → Rs Int32) (h0 : Nat) (x1 : Int32) (b : Bool) (σ : Sto) : Rs Int32 := (if (SI σ h0 11) = (2 : Int32) then (bd_ (f_Model_step h0 (0 : Int32) (SI σ h0 12) (((b && cK σ h0 13) && cK σ h0 13) && cK σ h0 13) σ) (fun (r_1 : Unit) (b_1 : Bool) (σ_1 : Sto) => (lt_ (pI σ_1 h0 18 ((SI σ_1 h0 18) + (1 : Int32))) (fun (σ_2 : Sto) => (bd_ (f_Model_next h0 (((b_1 && cK σ_1 h0 13) && cK σ_1 h0 13) && cK σ_2 h0 13) σ_2) (fun (r_3 : Unit) (b_3 : Bool) (σ_3 : Sto) => ((1 : Int32), b_3, σ_3))))))) else (lt_ (fun (b : Bool) (σ : Sto) => (bd_ (f_Model_isSign h0 (33 : Int32) (b && cK σ h0 13) σ) (fun (r_4 : Int32) (b_4 : Bool) (σ_4 : Sto) => (lt_ (fun (b : Bool) (σ : Sto) => (bd_ (f_Model_isSign h0 (40 : Int32) (b && cK σ h0 13) σ) (fun (r_5 : Int32) (b_5 : Bool) (σ_5 : Sto) => (lt_ (fun (b : Bool) (σ : Sto) => ((0 : Int32), b, σ)) (fun J163 => (if r_5 = 0 then (J163 b_5 σ_5) else (if (SI σ_5 h0 14) = (8 : Int32) then (J163 (b_5 && cK σ_5 h0 13) σ_5) else (lt_ (pI σ_5 h0 14 ((SI σ_5 h0 14) + (1 : Int32))) (fun (σ_6 : Sto) => (bd_ (f_Model_next h0 ((((b_5 && cK σ_5 h0 13) && cK σ_5 h0 13) && cK σ_5 h0 13) && cK σ_6 h0 13) σ_6) (fun (r_7 : Unit) (b_7 : Bool) (σ_7 : Sto) => (bd_ (g_Model_either h0 x1 (b_7 && cK σ_7 h0 13) σ_7) (fun (r_8 : Int32) (b_8 : Bool) (σ_8 : Sto) => (lt_ (fun (b : Bool) (σ : Sto) => ((0 : Int32), b, σ)) (fun J196 => (if r_8 = 0 then (J196 b_8 σ_8) else (bd_ (f_Model_isSign h0 (41 : Int32) (b_8 && cK σ_8 h0 13) σ_8) (fun (r_9 : Int32) (b_9 : Bool) (σ_9 : Sto) => (if r_9 = 0 then (J196 b_9 σ_9) else (lt_ (pI σ_9 h0 14 ((SI σ_9 h0 14) - (1 : Int32))) (fun (σ_10 : Sto) => (bd_ (f_Model_next h0 (((b_9 && cK σ_9 h0 13) && cK σ_9 h0 13) && cK σ_10 h0 13) σ_10) (fun (r_11 : Unit) (b_11 : Bool) (σ_11 : Sto) => ((1 : Int32), b_11, σ_11)))))))))))))))))))))))) (fun J145 => (if r_4 = 0 then (J145 b_4 σ_4) else (if (SI σ_4 h0 15) < (8 : Int32) then (lt_ (pI σ_4 h0 15 ((SI σ_4 h0 15) + (1 : Int32))) (fun (σ_12 : Sto) => (bd_ (f_Model_next h0 ((((b_4 && cK σ_4 h0 13) && cK σ_4 h0 13) && cK σ_4 h0 13) && cK σ_12 h0 13) σ_12) (fun (r_13 : Unit) (b_13 : Bool) (σ_13 : Sto) => (bd_ (g_Model_part0 h0 x1 (b_13 && cK σ_13 h0 13) σ_13) (fun (r_14 : Int32) (b_14 : Bool) (σ_14 : Sto) => (if r_14 = 0 then ((0 : Int32), b_14, σ_14) else (lt_ (pI σ_14 h0 15 ((SI σ_14 h0 15) - (1 : Int32))) (fun (σ_15 : Sto) => (bd_ (f_Model_step h0 (2 : Int32) (33 : Int32) (((b_14 && cK σ_14 h0 13) && cK σ_14 h0 13) && cK σ_15 h0 13) σ_15) (fun (r_16 : Unit) (b_16 : Bool) (σ_16 : Sto) => ((1 : Int32), b_16, σ_16)))))))))))) else (J145 (b_4 && cK σ_4 h0 13) σ_4)))))))) (fun J84 => (if (SI σ h0 11) = (1 : Int32) then (if (SI σ h0 13) = 0 then (J84 (((b && cK σ h0 13) && cK σ h0 13) && cK σ h0 13) σ) else (bd_ (f_Model_isName x1 (SI σ h0 13) ((((b && cK σ h0 13) && cK σ h0 13) && cK σ h0 13) && cK σ h0 13) σ) (fun (r_17 : Int32) (b_17 : Bool) (σ_17 : Sto) => (if r_17 = 0 then (J84 b_17 σ_17) else (bd_ (f_Model_step h0 (1 : Int32) (SI σ_17 h0 13) ((b_17 && cK σ_17 h0 13) && cK σ_17 h0 13) σ_17) (fun (r_18 : Unit) (b_18 : Bool) (σ_18 : Sto) => (lt_ (pI σ_18 h0 18 ((SI σ_18 h0 18) + (1 : Int32))) (fun (σ_19 : Sto) => (bd_ (f_Model_next h0 (((b_18 && cK σ_18 h0 13) && cK σ_18 h0 13) && cK σ_19 h0 13) σ_19) (fun (r_20 : Unit) (b_20 : Bool) (σ_20 : Sto) => ((1 : Int32), b_20, σ_20))))))))))) else (J84 ((b && cK σ h0 13) && cK σ h0 13) σ)))))
set_option maxRecDepth 100000 in
set_option maxHeartbeats 4000000 in
theorem sb_Model_part0 (D : Nat) (g_Model_either : Nat → Int32 → Bool → Sto → Rs Int32) (g_Model_both : Nat → Int32 → Bool → Sto → Rs Int32) (g_Model_test : Nat → Int32 → Bool → Sto → Rs Int32) (g_Model_sumT : Nat → Int32 → Bool → Sto → Rs Int32) (g_Model_term : Nat → Int32 → Bool → Sto → Rs Int32) (g_Model_part0 : Nat → Int32 → Bool → Sto → Rs Int32) (hg_Model_either : ∀ (h0 : Nat) (x1 : Int32) (b : Bool) (σ : Sto), Snd M_Model_either (4 + D) 0 0 [vR h0, vI x1] b σ (tI (g_Model_either h0 x1 b σ).1) (g_Model_either h0 x1 b σ).2.1 (g_Model_either h0 x1 b σ).2.2) (hg_Model_both : ∀ (h0 : Nat) (x1 : Int32) (b : Bool) (σ : Sto), Snd M_Model_both (4 + D) 0 0 [vR h0, vI x1] b σ (tI (g_Model_both h0 x1 b σ).1) (g_Model_both h0 x1 b σ).2.1 (g_Model_both h0 x1 b σ).2.2) (hg_Model_test : ∀ (h0 : Nat) (x1 : Int32) (b : Bool) (σ : Sto), Snd M_Model_test (4 + D) 0 0 [vR h0, vI x1] b σ (tI (g_Model_test h0 x1 b σ).1) (g_Model_test h0 x1 b σ).2.1 (g_Model_test h0 x1 b σ).2.2) (hg_Model_sumT : ∀ (h0 : Nat) (x1 : Int32) (b : Bool) (σ : Sto), Snd M_Model_sumT (4 + D) 0 0 [vR h0, vI x1] b σ (tI (g_Model_sumT h0 x1 b σ).1) (g_Model_sumT h0 x1 b σ).2.1 (g_Model_sumT h0 x1 b σ).2.2) (hg_Model_term : ∀ (h0 : Nat) (x1 : Int32) (b : Bool) (σ : Sto), Snd M_Model_term (4 + D) 0 0 [vR h0, vI x1] b σ (tI (g_Model_term h0 x1 b σ).1) (g_Model_term h0 x1 b σ).2.1 (g_Model_term h0 x1 b σ).2.2) (hg_Model_part0 : ∀ (h0 : Nat) (x1 : Int32) (b : Bool) (σ : Sto), Snd M_Model_part0 (4 + D) 0 0 [vR h0, vI x1] b σ (tI (g_Model_part0 h0 x1 b σ).1) (g_Model_part0 h0 x1 b σ).2.1 (g_Model_part0 h0 x1 b σ).2.2) : ∀ (h0 : Nat) (x1 : Int32) (b : Bool) (σ : Sto), Snd M_Model_part0 (4 + (D + 1)) 0 0 [vR h0, vI x1] b σ (tI (fb_Model_part0 g_Model_either g_Model_both g_Model_test g_Model_sumT g_Model_term g_Model_part0 h0 x1 b σ).1) (fb_Model_part0 g_Model_either g_Model_both g_Model_test g_Model_sumT g_Model_term g_Model_part0 h0 x1 b σ).2.1 (fb_Model_part0 g_Model_either g_Model_both g_Model_test g_Model_sumT g_Model_term g_Model_part0 h0 x1 b σ).2.2 := by
  intro h0 x1 b σ
  refine Snd_of (tv := tI) (by decide) (Nat.le_of_ble_eq_true rfl) ?_
  show V M_Model_part0 (4 + (D + 1)) 0 0 0 0 tI (fb_Model_part0 g_Model_either g_Model_both g_Model_test g_Model_sumT g_Model_term g_Model_part0 h0 x1 b σ) 0 [(0, vR h0), (1, vI x1)] [] b σ
  unfold fb_Model_part0
  refine V_aload_n 1 rfl (show decode M_Model_part0.2.1 0 = .ok (.aload_n 0, 1) by decide +kernel) 0 rfl ?_
  refine V_get (j := 11) (v := vI (SI σ h0 11)) 4 rfl ck_Model (by decide) (by decide) (show decode M_Model_part0.2.1 1 = .ok (.getfield 167, 3) by decide +kernel) wd_1515 rfl ?_
  refine V_iconst 5 rfl (show decode M_Model_part0.2.1 4 = .ok (.iconst 2, 1) by decide +kernel) (v := 2) rfl ?_
  refine V_icmpne 8 33 rfl (show decode M_Model_part0.2.1 5 = .ok (.if_icmp .ne 28, 3) by decide +kernel) rfl ?_ ?_
  · skip
    refine V_aload_n 9 rfl (show decode M_Model_part0.2.1 8 = .ok (.aload_n 0, 1) by decide +kernel) 0 rfl ?_
    refine V_iconst 10 rfl (show decode M_Model_part0.2.1 9 = .ok (.iconst 0, 1) by decide +kernel) (v := 0) rfl ?_
    refine V_aload_n 11 rfl (show decode M_Model_part0.2.1 10 = .ok (.aload_n 0, 1) by decide +kernel) 0 rfl ?_
    refine V_get (j := 12) (v := vI (SI σ h0 12)) 14 rfl ck_Model (by decide) (by decide) (show decode M_Model_part0.2.1 11 = .ok (.getfield 182, 3) by decide +kernel) wd_1516 rfl ?_
    refine V_callV (tb := tU) (as := [vI (0 : Int32), vI (SI σ h0 12)]) (rest := []) (na := 2) 17 rfl ck_Model (by decide) (s_Model_step h0 (0 : Int32) (SI σ h0 12) (((b && cK σ h0 13) && cK σ h0 13) && cK σ h0 13) σ) rfl rfl (Nat.le_of_ble_eq_true rfl) (cal_Model_step _ _ _ _ _ (by omega) (by omega) (by omega)) (show decode M_Model_part0.2.1 14 = .ok (.invokevirtual 204, 3) by decide +kernel) wd_1800 wd_1802 wd_139 (fun r_1 b_1 σ_1 => ?_)
    show V M_Model_part0 (4 + (D + 1)) 0 0 0 0 tI _ 17 [(0, vR h0), (1, vI x1)] [] b_1 σ_1
    refine V_aload_n 18 rfl (show decode M_Model_part0.2.1 17 = .ok (.aload_n 0, 1) by decide +kernel) 0 rfl ?_
    refine V_dup 19 rfl (show decode M_Model_part0.2.1 18 = .ok (.dup, 1) by decide +kernel) rfl ?_
    refine V_get (j := 18) (v := vI (SI σ_1 h0 18)) 22 rfl ck_Model (by decide) (by decide) (show decode M_Model_part0.2.1 19 = .ok (.getfield 220, 3) by decide +kernel) wd_1522 rfl ?_
    refine V_iconst 23 rfl (show decode M_Model_part0.2.1 22 = .ok (.iconst 1, 1) by decide +kernel) (v := 1) rfl ?_
    refine V_iadd 24 rfl (show decode M_Model_part0.2.1 23 = .ok (.iadd, 1) by decide +kernel) ?_
    refine V_putI (j := 18) 27 rfl ck_Model (by decide) (by decide) (show decode M_Model_part0.2.1 24 = .ok (.putfield 220, 3) by decide +kernel) wd_1522 rfl (fun _ => rfl) rfl rfl (fun σ_2 => ?_)
    refine V_aload_n 28 rfl (show decode M_Model_part0.2.1 27 = .ok (.aload_n 0, 1) by decide +kernel) 0 rfl ?_
    refine V_callV (tb := tU) (as := []) (rest := []) (na := 0) 31 rfl ck_Model (by decide) (s_Model_next h0 (((b_1 && cK σ_1 h0 13) && cK σ_1 h0 13) && cK σ_2 h0 13) σ_2) rfl rfl (Nat.le_of_ble_eq_true rfl) (cal_Model_next _ _ _ _ _ (by omega) (by omega) (by omega)) (show decode M_Model_part0.2.1 28 = .ok (.invokevirtual 201, 3) by decide +kernel) wd_1752 wd_1754 wd_128 (fun r_3 b_3 σ_3 => ?_)
    show V M_Model_part0 (4 + (D + 1)) 0 0 0 0 tI _ 31 [(0, vR h0), (1, vI x1)] [] b_3 σ_3
    refine V_iconst 32 rfl (show decode M_Model_part0.2.1 31 = .ok (.iconst 1, 1) by decide +kernel) (v := 1) rfl ?_
    exact V_zret rfl (by decide) (by decide) rfl (show decode M_Model_part0.2.1 32 = .ok (.ireturn, 1) by decide +kernel)
  · skip
    refine V_aload_n 34 rfl (show decode M_Model_part0.2.1 33 = .ok (.aload_n 0, 1) by decide +kernel) 0 rfl ?_
    refine V_get (j := 11) (v := vI (SI σ h0 11)) 37 rfl ck_Model (by decide) (by decide) (show decode M_Model_part0.2.1 34 = .ok (.getfield 167, 3) by decide +kernel) wd_1515 rfl ?_
    refine V_iconst 38 rfl (show decode M_Model_part0.2.1 37 = .ok (.iconst 1, 1) by decide +kernel) (v := 1) rfl ?_
    refine V_jn (fun (J84 : Bool → Sto → Rs Int32) => ∀ (b : Bool) (σ : Sto), V M_Model_part0 (4 + (D + 1)) 0 0 0 0 tI (J84 b σ) 84 [(0, vR h0), (1, vI x1)] [] b σ) ?_ (fun J84 hJ84 => ?_)
    · intro b σ
      refine V_aload_n 85 rfl (show decode M_Model_part0.2.1 84 = .ok (.aload_n 0, 1) by decide +kernel) 0 rfl ?_
      refine V_bipush 87 rfl (show decode M_Model_part0.2.1 85 = .ok (.bipush 33, 2) by decide +kernel) (v := 33) rfl ?_
      refine V_callV (tb := tI) (as := [vI (33 : Int32)]) (rest := []) (na := 1) 90 rfl ck_Model (by decide) (s_Model_isSign h0 (33 : Int32) (b && cK σ h0 13) σ) rfl rfl (Nat.le_of_ble_eq_true rfl) (cal_Model_isSign _ _ _ _ _ (by omega) (by omega) (by omega)) (show decode M_Model_part0.2.1 87 = .ok (.invokevirtual 198, 3) by decide +kernel) wd_1807 wd_1809 wd_140 (fun r_4 b_4 σ_4 => ?_)
      show V M_Model_part0 (4 + (D + 1)) 0 0 0 0 tI _ 90 [(0, vR h0), (1, vI x1)] [vI r_4] b_4 σ_4
      refine V_jn (fun (J145 : Bool → Sto → Rs Int32) => ∀ (b : Bool) (σ : Sto), V M_Model_part0 (4 + (D + 1)) 0 0 0 0 tI (J145 b σ) 145 [(0, vR h0), (1, vI x1)] [] b σ) ?_ (fun J145 hJ145 => ?_)
      · intro b σ
        refine V_aload_n 146 rfl (show decode M_Model_part0.2.1 145 = .ok (.aload_n 0, 1) by decide +kernel) 0 rfl ?_
        refine V_bipush 148 rfl (show decode M_Model_part0.2.1 146 = .ok (.bipush 40, 2) by decide +kernel) (v := 40) rfl ?_
        refine V_callV (tb := tI) (as := [vI (40 : Int32)]) (rest := []) (na := 1) 151 rfl ck_Model (by decide) (s_Model_isSign h0 (40 : Int32) (b && cK σ h0 13) σ) rfl rfl (Nat.le_of_ble_eq_true rfl) (cal_Model_isSign _ _ _ _ _ (by omega) (by omega) (by omega)) (show decode M_Model_part0.2.1 148 = .ok (.invokevirtual 198, 3) by decide +kernel) wd_1807 wd_1809 wd_140 (fun r_5 b_5 σ_5 => ?_)
        show V M_Model_part0 (4 + (D + 1)) 0 0 0 0 tI _ 151 [(0, vR h0), (1, vI x1)] [vI r_5] b_5 σ_5
        refine V_jn (fun (J163 : Bool → Sto → Rs Int32) => ∀ (b : Bool) (σ : Sto), V M_Model_part0 (4 + (D + 1)) 0 0 0 0 tI (J163 b σ) 163 [] [] b σ) ?_ (fun J163 hJ163 => ?_)
        · intro b σ
          refine V_iconst 164 rfl (show decode M_Model_part0.2.1 163 = .ok (.iconst 0, 1) by decide +kernel) (v := 0) rfl ?_
          exact V_zret rfl (by decide) (by decide) rfl (show decode M_Model_part0.2.1 164 = .ok (.ireturn, 1) by decide +kernel)
        · skip
          refine V_ifeq 154 163 rfl (show decode M_Model_part0.2.1 151 = .ok (.ifCond .eq 12, 3) by decide +kernel) rfl ?_ ?_
          · skip
            exact V_sub [] rfl (hJ163 b_5 σ_5)
          · skip
            refine V_aload_n 155 rfl (show decode M_Model_part0.2.1 154 = .ok (.aload_n 0, 1) by decide +kernel) 0 rfl ?_
            refine V_get (j := 14) (v := vI (SI σ_5 h0 14)) 158 rfl ck_Model (by decide) (by decide) (show decode M_Model_part0.2.1 155 = .ok (.getfield 230, 3) by decide +kernel) wd_1518 rfl ?_
            refine V_bipush 160 rfl (show decode M_Model_part0.2.1 158 = .ok (.bipush 8, 2) by decide +kernel) (v := 8) rfl ?_
            refine V_icmpne 163 165 rfl (show decode M_Model_part0.2.1 160 = .ok (.if_icmp .ne 5, 3) by decide +kernel) rfl ?_ ?_
            · skip
              exact V_sub [] rfl (hJ163 (b_5 && cK σ_5 h0 13) σ_5)
            · skip
              refine V_aload_n 166 rfl (show decode M_Model_part0.2.1 165 = .ok (.aload_n 0, 1) by decide +kernel) 0 rfl ?_
              refine V_dup 167 rfl (show decode M_Model_part0.2.1 166 = .ok (.dup, 1) by decide +kernel) rfl ?_
              refine V_get (j := 14) (v := vI (SI σ_5 h0 14)) 170 rfl ck_Model (by decide) (by decide) (show decode M_Model_part0.2.1 167 = .ok (.getfield 230, 3) by decide +kernel) wd_1518 rfl ?_
              refine V_iconst 171 rfl (show decode M_Model_part0.2.1 170 = .ok (.iconst 1, 1) by decide +kernel) (v := 1) rfl ?_
              refine V_iadd 172 rfl (show decode M_Model_part0.2.1 171 = .ok (.iadd, 1) by decide +kernel) ?_
              refine V_putI (j := 14) 175 rfl ck_Model (by decide) (by decide) (show decode M_Model_part0.2.1 172 = .ok (.putfield 230, 3) by decide +kernel) wd_1518 rfl (fun _ => rfl) rfl rfl (fun σ_6 => ?_)
              refine V_aload_n 176 rfl (show decode M_Model_part0.2.1 175 = .ok (.aload_n 0, 1) by decide +kernel) 0 rfl ?_
              refine V_callV (tb := tU) (as := []) (rest := []) (na := 0) 179 rfl ck_Model (by decide) (s_Model_next h0 ((((b_5 && cK σ_5 h0 13) && cK σ_5 h0 13) && cK σ_5 h0 13) && cK σ_6 h0 13) σ_6) rfl rfl (Nat.le_of_ble_eq_true rfl) (cal_Model_next _ _ _ _ _ (by omega) (by omega) (by omega)) (show decode M_Model_part0.2.1 176 = .ok (.invokevirtual 201, 3) by decide +kernel) wd_1752 wd_1754 wd_128 (fun r_7 b_7 σ_7 => ?_)
              show V M_Model_part0 (4 + (D + 1)) 0 0 0 0 tI _ 179 [(0, vR h0), (1, vI x1)] [] b_7 σ_7
              refine V_aload_n 180 rfl (show decode M_Model_part0.2.1 179 = .ok (.aload_n 0, 1) by decide +kernel) 0 rfl ?_
              refine V_iload_n 181 rfl (show decode M_Model_part0.2.1 180 = .ok (.iload_n 1, 1) by decide +kernel) 1 rfl ?_
              refine V_callV (tb := tI) (as := [vI x1]) (rest := []) (na := 1) 184 rfl ck_Model (by decide) (hg_Model_either h0 x1 (b_7 && cK σ_7 h0 13) σ_7) rfl rfl (Nat.le_of_ble_eq_true rfl) (calg_Model_either _ _ _ _ _ _ (by omega) (by omega) (by omega)) (show decode M_Model_part0.2.1 181 = .ok (.invokevirtual 233, 3) by decide +kernel) wd_1776 wd_1778 wd_133 (fun r_8 b_8 σ_8 => ?_)
              show V M_Model_part0 (4 + (D + 1)) 0 0 0 0 tI _ 184 [(0, vR h0), (1, vI x1)] [vI r_8] b_8 σ_8
              refine V_jn (fun (J196 : Bool → Sto → Rs Int32) => ∀ (b : Bool) (σ : Sto), V M_Model_part0 (4 + (D + 1)) 0 0 0 0 tI (J196 b σ) 196 [] [] b σ) ?_ (fun J196 hJ196 => ?_)
              · intro b σ
                refine V_iconst 197 rfl (show decode M_Model_part0.2.1 196 = .ok (.iconst 0, 1) by decide +kernel) (v := 0) rfl ?_
                exact V_zret rfl (by decide) (by decide) rfl (show decode M_Model_part0.2.1 197 = .ok (.ireturn, 1) by decide +kernel)
              · skip
                refine V_ifeq 187 196 rfl (show decode M_Model_part0.2.1 184 = .ok (.ifCond .eq 12, 3) by decide +kernel) rfl ?_ ?_
                · skip
                  exact V_sub [] rfl (hJ196 b_8 σ_8)
                · skip
                  refine V_aload_n 188 rfl (show decode M_Model_part0.2.1 187 = .ok (.aload_n 0, 1) by decide +kernel) 0 rfl ?_
                  refine V_bipush 190 rfl (show decode M_Model_part0.2.1 188 = .ok (.bipush 41, 2) by decide +kernel) (v := 41) rfl ?_
                  refine V_callV (tb := tI) (as := [vI (41 : Int32)]) (rest := []) (na := 1) 193 rfl ck_Model (by decide) (s_Model_isSign h0 (41 : Int32) (b_8 && cK σ_8 h0 13) σ_8) rfl rfl (Nat.le_of_ble_eq_true rfl) (cal_Model_isSign _ _ _ _ _ (by omega) (by omega) (by omega)) (show decode M_Model_part0.2.1 190 = .ok (.invokevirtual 198, 3) by decide +kernel) wd_1807 wd_1809 wd_140 (fun r_9 b_9 σ_9 => ?_)
                  show V M_Model_part0 (4 + (D + 1)) 0 0 0 0 tI _ 193 [(0, vR h0), (1, vI x1)] [vI r_9] b_9 σ_9
                  refine V_ifne 196 198 rfl (show decode M_Model_part0.2.1 193 = .ok (.ifCond .ne 5, 3) by decide +kernel) rfl ?_ ?_
                  · skip
                    exact V_sub [] rfl (hJ196 b_9 σ_9)
                  · skip
                    refine V_aload_n 199 rfl (show decode M_Model_part0.2.1 198 = .ok (.aload_n 0, 1) by decide +kernel) 0 rfl ?_
                    refine V_dup 200 rfl (show decode M_Model_part0.2.1 199 = .ok (.dup, 1) by decide +kernel) rfl ?_
                    refine V_get (j := 14) (v := vI (SI σ_9 h0 14)) 203 rfl ck_Model (by decide) (by decide) (show decode M_Model_part0.2.1 200 = .ok (.getfield 230, 3) by decide +kernel) wd_1518 rfl ?_
                    refine V_iconst 204 rfl (show decode M_Model_part0.2.1 203 = .ok (.iconst 1, 1) by decide +kernel) (v := 1) rfl ?_
                    refine V_isub 205 rfl (show decode M_Model_part0.2.1 204 = .ok (.isub, 1) by decide +kernel) ?_
                    refine V_putI (j := 14) 208 rfl ck_Model (by decide) (by decide) (show decode M_Model_part0.2.1 205 = .ok (.putfield 230, 3) by decide +kernel) wd_1518 rfl (fun _ => rfl) rfl rfl (fun σ_10 => ?_)
                    refine V_aload_n 209 rfl (show decode M_Model_part0.2.1 208 = .ok (.aload_n 0, 1) by decide +kernel) 0 rfl ?_
                    refine V_callV (tb := tU) (as := []) (rest := []) (na := 0) 212 rfl ck_Model (by decide) (s_Model_next h0 (((b_9 && cK σ_9 h0 13) && cK σ_9 h0 13) && cK σ_10 h0 13) σ_10) rfl rfl (Nat.le_of_ble_eq_true rfl) (cal_Model_next _ _ _ _ _ (by omega) (by omega) (by omega)) (show decode M_Model_part0.2.1 209 = .ok (.invokevirtual 201, 3) by decide +kernel) wd_1752 wd_1754 wd_128 (fun r_11 b_11 σ_11 => ?_)
                    show V M_Model_part0 (4 + (D + 1)) 0 0 0 0 tI _ 212 [(0, vR h0), (1, vI x1)] [] b_11 σ_11
                    refine V_iconst 213 rfl (show decode M_Model_part0.2.1 212 = .ok (.iconst 1, 1) by decide +kernel) (v := 1) rfl ?_
                    exact V_zret rfl (by decide) (by decide) rfl (show decode M_Model_part0.2.1 213 = .ok (.ireturn, 1) by decide +kernel)
      · skip
        refine V_ifeq 93 145 rfl (show decode M_Model_part0.2.1 90 = .ok (.ifCond .eq 55, 3) by decide +kernel) rfl ?_ ?_
        · skip
          exact V_sub [0, 1] rfl (hJ145 b_4 σ_4)
        · skip
          refine V_aload_n 94 rfl (show decode M_Model_part0.2.1 93 = .ok (.aload_n 0, 1) by decide +kernel) 0 rfl ?_
          refine V_get (j := 15) (v := vI (SI σ_4 h0 15)) 97 rfl ck_Model (by decide) (by decide) (show decode M_Model_part0.2.1 94 = .ok (.getfield 227, 3) by decide +kernel) wd_1519 rfl ?_
          refine V_bipush 99 rfl (show decode M_Model_part0.2.1 97 = .ok (.bipush 8, 2) by decide +kernel) (v := 8) rfl ?_
          refine V_icmpge 102 145 rfl (show decode M_Model_part0.2.1 99 = .ok (.if_icmp .ge 46, 3) by decide +kernel) rfl ?_ ?_
          · skip
            refine V_aload_n 103 rfl (show decode M_Model_part0.2.1 102 = .ok (.aload_n 0, 1) by decide +kernel) 0 rfl ?_
            refine V_dup 104 rfl (show decode M_Model_part0.2.1 103 = .ok (.dup, 1) by decide +kernel) rfl ?_
            refine V_get (j := 15) (v := vI (SI σ_4 h0 15)) 107 rfl ck_Model (by decide) (by decide) (show decode M_Model_part0.2.1 104 = .ok (.getfield 227, 3) by decide +kernel) wd_1519 rfl ?_
            refine V_iconst 108 rfl (show decode M_Model_part0.2.1 107 = .ok (.iconst 1, 1) by decide +kernel) (v := 1) rfl ?_
            refine V_iadd 109 rfl (show decode M_Model_part0.2.1 108 = .ok (.iadd, 1) by decide +kernel) ?_
            refine V_putI (j := 15) 112 rfl ck_Model (by decide) (by decide) (show decode M_Model_part0.2.1 109 = .ok (.putfield 227, 3) by decide +kernel) wd_1519 rfl (fun _ => rfl) rfl rfl (fun σ_12 => ?_)
            refine V_aload_n 113 rfl (show decode M_Model_part0.2.1 112 = .ok (.aload_n 0, 1) by decide +kernel) 0 rfl ?_
            refine V_callV (tb := tU) (as := []) (rest := []) (na := 0) 116 rfl ck_Model (by decide) (s_Model_next h0 ((((b_4 && cK σ_4 h0 13) && cK σ_4 h0 13) && cK σ_4 h0 13) && cK σ_12 h0 13) σ_12) rfl rfl (Nat.le_of_ble_eq_true rfl) (cal_Model_next _ _ _ _ _ (by omega) (by omega) (by omega)) (show decode M_Model_part0.2.1 113 = .ok (.invokevirtual 201, 3) by decide +kernel) wd_1752 wd_1754 wd_128 (fun r_13 b_13 σ_13 => ?_)
            show V M_Model_part0 (4 + (D + 1)) 0 0 0 0 tI _ 116 [(0, vR h0), (1, vI x1)] [] b_13 σ_13
            refine V_aload_n 117 rfl (show decode M_Model_part0.2.1 116 = .ok (.aload_n 0, 1) by decide +kernel) 0 rfl ?_
            refine V_iload_n 118 rfl (show decode M_Model_part0.2.1 117 = .ok (.iload_n 1, 1) by decide +kernel) 1 rfl ?_
            refine V_callV (tb := tI) (as := [vI x1]) (rest := []) (na := 1) 121 rfl ck_Model (by decide) (hg_Model_part0 h0 x1 (b_13 && cK σ_13 h0 13) σ_13) rfl rfl (Nat.le_of_ble_eq_true rfl) (calg_Model_part0 _ _ _ _ _ _ (by omega) (by omega) (by omega)) (show decode M_Model_part0.2.1 118 = .ok (.invokevirtual 217, 3) by decide +kernel) wd_1796 wd_1798 wd_138 (fun r_14 b_14 σ_14 => ?_)
            show V M_Model_part0 (4 + (D + 1)) 0 0 0 0 tI _ 121 [(0, vR h0), (1, vI x1)] [vI r_14] b_14 σ_14
            refine V_ifne 124 126 rfl (show decode M_Model_part0.2.1 121 = .ok (.ifCond .ne 5, 3) by decide +kernel) rfl ?_ ?_
            · skip
              refine V_iconst 125 rfl (show decode M_Model_part0.2.1 124 = .ok (.iconst 0, 1) by decide +kernel) (v := 0) rfl ?_
              exact V_zret rfl (by decide) (by decide) rfl (show decode M_Model_part0.2.1 125 = .ok (.ireturn, 1) by decide +kernel)
            · skip
              refine V_aload_n 127 rfl (show decode M_Model_part0.2.1 126 = .ok (.aload_n 0, 1) by decide +kernel) 0 rfl ?_
              refine V_dup 128 rfl (show decode M_Model_part0.2.1 127 = .ok (.dup, 1) by decide +kernel) rfl ?_
              refine V_get (j := 15) (v := vI (SI σ_14 h0 15)) 131 rfl ck_Model (by decide) (by decide) (show decode M_Model_part0.2.1 128 = .ok (.getfield 227, 3) by decide +kernel) wd_1519 rfl ?_
              refine V_iconst 132 rfl (show decode M_Model_part0.2.1 131 = .ok (.iconst 1, 1) by decide +kernel) (v := 1) rfl ?_
              refine V_isub 133 rfl (show decode M_Model_part0.2.1 132 = .ok (.isub, 1) by decide +kernel) ?_
              refine V_putI (j := 15) 136 rfl ck_Model (by decide) (by decide) (show decode M_Model_part0.2.1 133 = .ok (.putfield 227, 3) by decide +kernel) wd_1519 rfl (fun _ => rfl) rfl rfl (fun σ_15 => ?_)
              refine V_aload_n 137 rfl (show decode M_Model_part0.2.1 136 = .ok (.aload_n 0, 1) by decide +kernel) 0 rfl ?_
              refine V_iconst 138 rfl (show decode M_Model_part0.2.1 137 = .ok (.iconst 2, 1) by decide +kernel) (v := 2) rfl ?_
              refine V_bipush 140 rfl (show decode M_Model_part0.2.1 138 = .ok (.bipush 33, 2) by decide +kernel) (v := 33) rfl ?_
              refine V_callV (tb := tU) (as := [vI (2 : Int32), vI (33 : Int32)]) (rest := []) (na := 2) 143 rfl ck_Model (by decide) (s_Model_step h0 (2 : Int32) (33 : Int32) (((b_14 && cK σ_14 h0 13) && cK σ_14 h0 13) && cK σ_15 h0 13) σ_15) rfl rfl (Nat.le_of_ble_eq_true rfl) (cal_Model_step _ _ _ _ _ (by omega) (by omega) (by omega)) (show decode M_Model_part0.2.1 140 = .ok (.invokevirtual 204, 3) by decide +kernel) wd_1800 wd_1802 wd_139 (fun r_16 b_16 σ_16 => ?_)
              show V M_Model_part0 (4 + (D + 1)) 0 0 0 0 tI _ 143 [(0, vR h0), (1, vI x1)] [] b_16 σ_16
              refine V_iconst 144 rfl (show decode M_Model_part0.2.1 143 = .ok (.iconst 1, 1) by decide +kernel) (v := 1) rfl ?_
              exact V_zret rfl (by decide) (by decide) rfl (show decode M_Model_part0.2.1 144 = .ok (.ireturn, 1) by decide +kernel)
          · skip
            exact V_sub [0, 1] rfl (hJ145 (b_4 && cK σ_4 h0 13) σ_4)
    · skip
      refine V_icmpne 41 84 rfl (show decode M_Model_part0.2.1 38 = .ok (.if_icmp .ne 46, 3) by decide +kernel) rfl ?_ ?_
      · skip
        refine V_aload_n 42 rfl (show decode M_Model_part0.2.1 41 = .ok (.aload_n 0, 1) by decide +kernel) 0 rfl ?_
        refine V_get (j := 13) (v := vI (SI σ h0 13)) 45 rfl ck_Model (by decide) (by decide) (show decode M_Model_part0.2.1 42 = .ok (.getfield 176, 3) by decide +kernel) wd_1517 rfl ?_
        refine V_ifeq 48 84 rfl (show decode M_Model_part0.2.1 45 = .ok (.ifCond .eq 39, 3) by decide +kernel) rfl ?_ ?_
        · skip
          exact V_sub [0, 1] rfl (hJ84 (((b && cK σ h0 13) && cK σ h0 13) && cK σ h0 13) σ)
        · skip
          refine V_iload_n 49 rfl (show decode M_Model_part0.2.1 48 = .ok (.iload_n 1, 1) by decide +kernel) 1 rfl ?_
          refine V_aload_n 50 rfl (show decode M_Model_part0.2.1 49 = .ok (.aload_n 0, 1) by decide +kernel) 0 rfl ?_
          refine V_get (j := 13) (v := vI (SI σ h0 13)) 53 rfl ck_Model (by decide) (by decide) (show decode M_Model_part0.2.1 50 = .ok (.getfield 176, 3) by decide +kernel) wd_1517 rfl ?_
          refine V_callS (tb := tI) (as := [vI x1, vI (SI σ h0 13)]) (rest := []) (na := 2) 56 rfl (s_Model_isName x1 (SI σ h0 13) ((((b && cK σ h0 13) && cK σ h0 13) && cK σ h0 13) && cK σ h0 13) σ) rfl rfl (Nat.le_of_ble_eq_true rfl) (cal_Model_isName _ _ _ _ _ (by omega) (by omega) (by omega)) (show decode M_Model_part0.2.1 53 = .ok (.invokestatic 223, 3) by decide +kernel) wd_1804 wd_1805 (fun r_17 b_17 σ_17 => ?_)
          show V M_Model_part0 (4 + (D + 1)) 0 0 0 0 tI _ 56 [(0, vR h0), (1, vI x1)] [vI r_17] b_17 σ_17
          refine V_ifeq 59 84 rfl (show decode M_Model_part0.2.1 56 = .ok (.ifCond .eq 28, 3) by decide +kernel) rfl ?_ ?_
          · skip
            exact V_sub [0, 1] rfl (hJ84 b_17 σ_17)
          · skip
            refine V_aload_n 60 rfl (show decode M_Model_part0.2.1 59 = .ok (.aload_n 0, 1) by decide +kernel) 0 rfl ?_
            refine V_iconst 61 rfl (show decode M_Model_part0.2.1 60 = .ok (.iconst 1, 1) by decide +kernel) (v := 1) rfl ?_
            refine V_aload_n 62 rfl (show decode M_Model_part0.2.1 61 = .ok (.aload_n 0, 1) by decide +kernel) 0 rfl ?_
            refine V_get (j := 13) (v := vI (SI σ_17 h0 13)) 65 rfl ck_Model (by decide) (by decide) (show decode M_Model_part0.2.1 62 = .ok (.getfield 176, 3) by decide +kernel) wd_1517 rfl ?_
            refine V_callV (tb := tU) (as := [vI (1 : Int32), vI (SI σ_17 h0 13)]) (rest := []) (na := 2) 68 rfl ck_Model (by decide) (s_Model_step h0 (1 : Int32) (SI σ_17 h0 13) ((b_17 && cK σ_17 h0 13) && cK σ_17 h0 13) σ_17) rfl rfl (Nat.le_of_ble_eq_true rfl) (cal_Model_step _ _ _ _ _ (by omega) (by omega) (by omega)) (show decode M_Model_part0.2.1 65 = .ok (.invokevirtual 204, 3) by decide +kernel) wd_1800 wd_1802 wd_139 (fun r_18 b_18 σ_18 => ?_)
            show V M_Model_part0 (4 + (D + 1)) 0 0 0 0 tI _ 68 [(0, vR h0), (1, vI x1)] [] b_18 σ_18
            refine V_aload_n 69 rfl (show decode M_Model_part0.2.1 68 = .ok (.aload_n 0, 1) by decide +kernel) 0 rfl ?_
            refine V_dup 70 rfl (show decode M_Model_part0.2.1 69 = .ok (.dup, 1) by decide +kernel) rfl ?_
            refine V_get (j := 18) (v := vI (SI σ_18 h0 18)) 73 rfl ck_Model (by decide) (by decide) (show decode M_Model_part0.2.1 70 = .ok (.getfield 220, 3) by decide +kernel) wd_1522 rfl ?_
            refine V_iconst 74 rfl (show decode M_Model_part0.2.1 73 = .ok (.iconst 1, 1) by decide +kernel) (v := 1) rfl ?_
            refine V_iadd 75 rfl (show decode M_Model_part0.2.1 74 = .ok (.iadd, 1) by decide +kernel) ?_
            refine V_putI (j := 18) 78 rfl ck_Model (by decide) (by decide) (show decode M_Model_part0.2.1 75 = .ok (.putfield 220, 3) by decide +kernel) wd_1522 rfl (fun _ => rfl) rfl rfl (fun σ_19 => ?_)
            refine V_aload_n 79 rfl (show decode M_Model_part0.2.1 78 = .ok (.aload_n 0, 1) by decide +kernel) 0 rfl ?_
            refine V_callV (tb := tU) (as := []) (rest := []) (na := 0) 82 rfl ck_Model (by decide) (s_Model_next h0 (((b_18 && cK σ_18 h0 13) && cK σ_18 h0 13) && cK σ_19 h0 13) σ_19) rfl rfl (Nat.le_of_ble_eq_true rfl) (cal_Model_next _ _ _ _ _ (by omega) (by omega) (by omega)) (show decode M_Model_part0.2.1 79 = .ok (.invokevirtual 201, 3) by decide +kernel) wd_1752 wd_1754 wd_128 (fun r_20 b_20 σ_20 => ?_)
            show V M_Model_part0 (4 + (D + 1)) 0 0 0 0 tI _ 82 [(0, vR h0), (1, vI x1)] [] b_20 σ_20
            refine V_iconst 83 rfl (show decode M_Model_part0.2.1 82 = .ok (.iconst 1, 1) by decide +kernel) (v := 1) rfl ?_
            exact V_zret rfl (by decide) (by decide) rfl (show decode M_Model_part0.2.1 83 = .ok (.ireturn, 1) by decide +kernel)
      · skip
        exact V_sub [0, 1] rfl (hJ84 ((b && cK σ h0 13) && cK σ h0 13) σ)
def fx_Model : Nat → (Nat → Int32 → Bool → Sto → Rs Int32) × (Nat → Int32 → Bool → Sto → Rs Int32) × (Nat → Int32 → Bool → Sto → Rs Int32) × (Nat → Int32 → Bool → Sto → Rs Int32) × (Nat → Int32 → Bool → Sto → Rs Int32) × (Nat → Int32 → Bool → Sto → Rs Int32)
  | 0 => (fun (_ : Nat) (_ : Int32) (_ : Bool) (σ : Sto) => (0, false, σ), fun (_ : Nat) (_ : Int32) (_ : Bool) (σ : Sto) => (0, false, σ), fun (_ : Nat) (_ : Int32) (_ : Bool) (σ : Sto) => (0, false, σ), fun (_ : Nat) (_ : Int32) (_ : Bool) (σ : Sto) => (0, false, σ), fun (_ : Nat) (_ : Int32) (_ : Bool) (σ : Sto) => (0, false, σ), fun (_ : Nat) (_ : Int32) (_ : Bool) (σ : Sto) => (0, false, σ))
  | D + 1 => (fb_Model_either (fx_Model D).1 (fx_Model D).2.1 (fx_Model D).2.2.1 (fx_Model D).2.2.2.1 (fx_Model D).2.2.2.2.1 (fx_Model D).2.2.2.2.2, fb_Model_both (fx_Model D).1 (fx_Model D).2.1 (fx_Model D).2.2.1 (fx_Model D).2.2.2.1 (fx_Model D).2.2.2.2.1 (fx_Model D).2.2.2.2.2, fb_Model_test (fx_Model D).1 (fx_Model D).2.1 (fx_Model D).2.2.1 (fx_Model D).2.2.2.1 (fx_Model D).2.2.2.2.1 (fx_Model D).2.2.2.2.2, fb_Model_sumT (fx_Model D).1 (fx_Model D).2.1 (fx_Model D).2.2.1 (fx_Model D).2.2.2.1 (fx_Model D).2.2.2.2.1 (fx_Model D).2.2.2.2.2, fb_Model_term (fx_Model D).1 (fx_Model D).2.1 (fx_Model D).2.2.1 (fx_Model D).2.2.2.1 (fx_Model D).2.2.2.2.1 (fx_Model D).2.2.2.2.2, fb_Model_part0 (fx_Model D).1 (fx_Model D).2.1 (fx_Model D).2.2.1 (fx_Model D).2.2.2.1 (fx_Model D).2.2.2.2.1 (fx_Model D).2.2.2.2.2)
theorem fxs_Model : ∀ D : Nat, (∀ (h0 : Nat) (x1 : Int32) (b : Bool) (σ : Sto), Snd M_Model_either (4 + D) 0 0 [vR h0, vI x1] b σ (tI ((fx_Model D).1 h0 x1 b σ).1) ((fx_Model D).1 h0 x1 b σ).2.1 ((fx_Model D).1 h0 x1 b σ).2.2) ∧ (∀ (h0 : Nat) (x1 : Int32) (b : Bool) (σ : Sto), Snd M_Model_both (4 + D) 0 0 [vR h0, vI x1] b σ (tI ((fx_Model D).2.1 h0 x1 b σ).1) ((fx_Model D).2.1 h0 x1 b σ).2.1 ((fx_Model D).2.1 h0 x1 b σ).2.2) ∧ (∀ (h0 : Nat) (x1 : Int32) (b : Bool) (σ : Sto), Snd M_Model_test (4 + D) 0 0 [vR h0, vI x1] b σ (tI ((fx_Model D).2.2.1 h0 x1 b σ).1) ((fx_Model D).2.2.1 h0 x1 b σ).2.1 ((fx_Model D).2.2.1 h0 x1 b σ).2.2) ∧ (∀ (h0 : Nat) (x1 : Int32) (b : Bool) (σ : Sto), Snd M_Model_sumT (4 + D) 0 0 [vR h0, vI x1] b σ (tI ((fx_Model D).2.2.2.1 h0 x1 b σ).1) ((fx_Model D).2.2.2.1 h0 x1 b σ).2.1 ((fx_Model D).2.2.2.1 h0 x1 b σ).2.2) ∧ (∀ (h0 : Nat) (x1 : Int32) (b : Bool) (σ : Sto), Snd M_Model_term (4 + D) 0 0 [vR h0, vI x1] b σ (tI ((fx_Model D).2.2.2.2.1 h0 x1 b σ).1) ((fx_Model D).2.2.2.2.1 h0 x1 b σ).2.1 ((fx_Model D).2.2.2.2.1 h0 x1 b σ).2.2) ∧ (∀ (h0 : Nat) (x1 : Int32) (b : Bool) (σ : Sto), Snd M_Model_part0 (4 + D) 0 0 [vR h0, vI x1] b σ (tI ((fx_Model D).2.2.2.2.2 h0 x1 b σ).1) ((fx_Model D).2.2.2.2.2 h0 x1 b σ).2.1 ((fx_Model D).2.2.2.2.2 h0 x1 b σ).2.2)
  | 0 => ⟨fun _ _ _ _ => Snd_bad, fun _ _ _ _ => Snd_bad, fun _ _ _ _ => Snd_bad, fun _ _ _ _ => Snd_bad, fun _ _ _ _ => Snd_bad, fun _ _ _ _ => Snd_bad⟩
  | D + 1 => by
    obtain ⟨e0, e1, e2, e3, e4, e5⟩ := fxs_Model D
    exact ⟨sb_Model_either D (fx_Model D).1 (fx_Model D).2.1 (fx_Model D).2.2.1 (fx_Model D).2.2.2.1 (fx_Model D).2.2.2.2.1 (fx_Model D).2.2.2.2.2 e0 e1 e2 e3 e4 e5, sb_Model_both D (fx_Model D).1 (fx_Model D).2.1 (fx_Model D).2.2.1 (fx_Model D).2.2.2.1 (fx_Model D).2.2.2.2.1 (fx_Model D).2.2.2.2.2 e0 e1 e2 e3 e4 e5, sb_Model_test D (fx_Model D).1 (fx_Model D).2.1 (fx_Model D).2.2.1 (fx_Model D).2.2.2.1 (fx_Model D).2.2.2.2.1 (fx_Model D).2.2.2.2.2 e0 e1 e2 e3 e4 e5, sb_Model_sumT D (fx_Model D).1 (fx_Model D).2.1 (fx_Model D).2.2.1 (fx_Model D).2.2.2.1 (fx_Model D).2.2.2.2.1 (fx_Model D).2.2.2.2.2 e0 e1 e2 e3 e4 e5, sb_Model_term D (fx_Model D).1 (fx_Model D).2.1 (fx_Model D).2.2.1 (fx_Model D).2.2.2.1 (fx_Model D).2.2.2.2.1 (fx_Model D).2.2.2.2.2 e0 e1 e2 e3 e4 e5, sb_Model_part0 D (fx_Model D).1 (fx_Model D).2.1 (fx_Model D).2.2.1 (fx_Model D).2.2.2.1 (fx_Model D).2.2.2.2.1 (fx_Model D).2.2.2.2.2 e0 e1 e2 e3 e4 e5⟩
def f_Model_either : Nat → Int32 → Bool → Sto → Rs Int32 := (fx_Model dep_).1
theorem s_Model_either : ∀ (h0 : Nat) (x1 : Int32) (b : Bool) (σ : Sto), Snd M_Model_either 124 0 0 [vR h0, vI x1] b σ (tI (f_Model_either h0 x1 b σ).1) (f_Model_either h0 x1 b σ).2.1 (f_Model_either h0 x1 b σ).2.2 := by
  intro h0 x1 b σ
  have h := (fxs_Model dep_).1 h0 x1 b σ
  rw [show 4 + dep_ = 124 from rfl] at h
  unfold f_Model_either
  exact h
def f_Model_both : Nat → Int32 → Bool → Sto → Rs Int32 := (fx_Model dep_).2.1
theorem s_Model_both : ∀ (h0 : Nat) (x1 : Int32) (b : Bool) (σ : Sto), Snd M_Model_both 124 0 0 [vR h0, vI x1] b σ (tI (f_Model_both h0 x1 b σ).1) (f_Model_both h0 x1 b σ).2.1 (f_Model_both h0 x1 b σ).2.2 := by
  intro h0 x1 b σ
  have h := (fxs_Model dep_).2.1 h0 x1 b σ
  rw [show 4 + dep_ = 124 from rfl] at h
  unfold f_Model_both
  exact h
def f_Model_test : Nat → Int32 → Bool → Sto → Rs Int32 := (fx_Model dep_).2.2.1
theorem s_Model_test : ∀ (h0 : Nat) (x1 : Int32) (b : Bool) (σ : Sto), Snd M_Model_test 124 0 0 [vR h0, vI x1] b σ (tI (f_Model_test h0 x1 b σ).1) (f_Model_test h0 x1 b σ).2.1 (f_Model_test h0 x1 b σ).2.2 := by
  intro h0 x1 b σ
  have h := (fxs_Model dep_).2.2.1 h0 x1 b σ
  rw [show 4 + dep_ = 124 from rfl] at h
  unfold f_Model_test
  exact h
def f_Model_sumT : Nat → Int32 → Bool → Sto → Rs Int32 := (fx_Model dep_).2.2.2.1
theorem s_Model_sumT : ∀ (h0 : Nat) (x1 : Int32) (b : Bool) (σ : Sto), Snd M_Model_sumT 124 0 0 [vR h0, vI x1] b σ (tI (f_Model_sumT h0 x1 b σ).1) (f_Model_sumT h0 x1 b σ).2.1 (f_Model_sumT h0 x1 b σ).2.2 := by
  intro h0 x1 b σ
  have h := (fxs_Model dep_).2.2.2.1 h0 x1 b σ
  rw [show 4 + dep_ = 124 from rfl] at h
  unfold f_Model_sumT
  exact h
def f_Model_term : Nat → Int32 → Bool → Sto → Rs Int32 := (fx_Model dep_).2.2.2.2.1
theorem s_Model_term : ∀ (h0 : Nat) (x1 : Int32) (b : Bool) (σ : Sto), Snd M_Model_term 124 0 0 [vR h0, vI x1] b σ (tI (f_Model_term h0 x1 b σ).1) (f_Model_term h0 x1 b σ).2.1 (f_Model_term h0 x1 b σ).2.2 := by
  intro h0 x1 b σ
  have h := (fxs_Model dep_).2.2.2.2.1 h0 x1 b σ
  rw [show 4 + dep_ = 124 from rfl] at h
  unfold f_Model_term
  exact h
def f_Model_part0 : Nat → Int32 → Bool → Sto → Rs Int32 := (fx_Model dep_).2.2.2.2.2
theorem s_Model_part0 : ∀ (h0 : Nat) (x1 : Int32) (b : Bool) (σ : Sto), Snd M_Model_part0 124 0 0 [vR h0, vI x1] b σ (tI (f_Model_part0 h0 x1 b σ).1) (f_Model_part0 h0 x1 b σ).2.1 (f_Model_part0 h0 x1 b σ).2.2 := by
  intro h0 x1 b σ
  have h := (fxs_Model dep_).2.2.2.2.2 h0 x1 b σ
  rw [show 4 + dep_ = 124 from rfl] at h
  unfold f_Model_part0
  exact h
abbrev M_Model_boxAt : MD := (⟨"LongTrailModel", "boxAt", "(I)I"⟩, prog_14_method_9_code, 2, (some FieldType.int))
def f_Model_boxAt (h0 : Nat) (x1 : Int32) (b : Bool) (σ : Sto) : Rs Int32 := (((340 : Int32) + ((5 : Int32) * x1)), b, σ)
set_option maxRecDepth 100000 in
set_option maxHeartbeats 4000000 in
theorem s_Model_boxAt : ∀ (h0 : Nat) (x1 : Int32) (b : Bool) (σ : Sto), Snd M_Model_boxAt 1 0 0 [vR h0, vI x1] b σ (tI (f_Model_boxAt h0 x1 b σ).1) (f_Model_boxAt h0 x1 b σ).2.1 (f_Model_boxAt h0 x1 b σ).2.2 := by
  intro h0 x1 b σ
  refine Snd_of (tv := tI) (by decide) (Nat.le_of_ble_eq_true rfl) ?_
  show V M_Model_boxAt 1 0 0 0 0 tI (f_Model_boxAt h0 x1 b σ) 0 [(0, vR h0), (1, vI x1)] [] b σ
  unfold f_Model_boxAt
  refine V_sipush 3 rfl (show decode M_Model_boxAt.2.1 0 = .ok (.sipush 340, 3) by decide +kernel) (v := 340) rfl ?_
  refine V_iconst 4 rfl (show decode M_Model_boxAt.2.1 3 = .ok (.iconst 5, 1) by decide +kernel) (v := 5) rfl ?_
  refine V_iload_n 5 rfl (show decode M_Model_boxAt.2.1 4 = .ok (.iload_n 1, 1) by decide +kernel) 1 rfl ?_
  refine V_imul 6 rfl (show decode M_Model_boxAt.2.1 5 = .ok (.imul, 1) by decide +kernel) ?_
  refine V_iadd 7 rfl (show decode M_Model_boxAt.2.1 6 = .ok (.iadd, 1) by decide +kernel) ?_
  exact V_iret rfl (by decide) (by decide) (show decode M_Model_boxAt.2.1 7 = .ok (.ireturn, 1) by decide +kernel)
theorem cal_Model_boxAt (d mc ms k n : Nat) (h1 : 1 + 1 ≤ d) (h2 : k + 0 ≤ mc) (h3 : n + 0 ≤ ms) : Cal M_Model_boxAt 1 0 0 1 d mc ms k n := ⟨wd_1680, wd_181, by decide, h1, by decide, h2, h3⟩
abbrev M_Model_isOpen : MD := (⟨"LongTrailModel", "isOpen", "(II)Z"⟩, prog_14_method_59_code, 4, (some FieldType.boolean))
def f_Model_isOpen (h0 : Nat) (x1 : Int32) (x2 : Int32) (b : Bool) (σ : Sto) : Rs Int32 := (bd_ (f_Model_boxAt h0 x1 (b && cK σ h0 13) σ) (fun (r_1 : Int32) (b_1 : Bool) (σ_1 : Sto) => (lt_ r_1 (fun (x3_2 : Int32) => (lt_ (fun (b : Bool) (σ : Sto) => ((0 : Int32), b, σ)) (fun J33 => (if (SI σ_1 (SR σ_1 h0 0) (ix (x3_2 + (0 : Int32)))) = x2 then (if (SI σ_1 (SR σ_1 h0 0) (ix (x3_2 + (4 : Int32)))) = 0 then ((1 : Int32), ((((b_1 && cK σ_1 h0 13) && cA σ_1 (SR σ_1 h0 0) 21 (x3_2 + (0 : Int32))) && cK σ_1 h0 13) && cA σ_1 (SR σ_1 h0 0) 21 (x3_2 + (4 : Int32))), σ_1) else (J33 ((((b_1 && cK σ_1 h0 13) && cA σ_1 (SR σ_1 h0 0) 21 (x3_2 + (0 : Int32))) && cK σ_1 h0 13) && cA σ_1 (SR σ_1 h0 0) 21 (x3_2 + (4 : Int32))) σ_1)) else (J33 ((b_1 && cK σ_1 h0 13) && cA σ_1 (SR σ_1 h0 0) 21 (x3_2 + (0 : Int32))) σ_1))))))))
set_option maxRecDepth 100000 in
set_option maxHeartbeats 4000000 in
theorem s_Model_isOpen : ∀ (h0 : Nat) (x1 : Int32) (x2 : Int32) (b : Bool) (σ : Sto), Snd M_Model_isOpen 2 0 0 [vR h0, vI x1, vI x2] b σ (tI (f_Model_isOpen h0 x1 x2 b σ).1) (f_Model_isOpen h0 x1 x2 b σ).2.1 (f_Model_isOpen h0 x1 x2 b σ).2.2 := by
  intro h0 x1 x2 b σ
  refine Snd_of (tv := tI) (by decide) (Nat.le_of_ble_eq_true rfl) ?_
  show V M_Model_isOpen 2 0 0 0 0 tI (f_Model_isOpen h0 x1 x2 b σ) 0 [(0, vR h0), (1, vI x1), (2, vI x2)] [] b σ
  unfold f_Model_isOpen
  refine V_aload_n 1 rfl (show decode M_Model_isOpen.2.1 0 = .ok (.aload_n 0, 1) by decide +kernel) 0 rfl ?_
  refine V_iload_n 2 rfl (show decode M_Model_isOpen.2.1 1 = .ok (.iload_n 1, 1) by decide +kernel) 1 rfl ?_
  refine V_callV (tb := tI) (as := [vI x1]) (rest := []) (na := 1) 5 rfl ck_Model (by decide) (s_Model_boxAt h0 x1 (b && cK σ h0 13) σ) rfl rfl (Nat.le_of_ble_eq_true rfl) (cal_Model_boxAt _ _ _ _ _ (by decide) (by decide) (by decide)) (show decode M_Model_isOpen.2.1 2 = .ok (.invokevirtual 129, 3) by decide +kernel) wd_1677 wd_1679 wd_122 (fun r_1 b_1 σ_1 => ?_)
  show V M_Model_isOpen 2 0 0 0 0 tI _ 5 [(0, vR h0), (1, vI x1), (2, vI x2)] [vI r_1] b_1 σ_1
  refine V_istore_n (fun x3_2 => [(3, vI x3_2), (0, vR h0), (1, vI x1), (2, vI x2)]) 6 rfl (show decode M_Model_isOpen.2.1 5 = .ok (.istore_n 3, 1) by decide +kernel) (by decide) (fun _ => rfl) (fun x3_2 => ?_)
  refine V_aload_n 7 rfl (show decode M_Model_isOpen.2.1 6 = .ok (.aload_n 0, 1) by decide +kernel) 1 rfl ?_
  refine V_get (j := 0) (v := vR (SR σ_1 h0 0)) 10 rfl ck_Model (by decide) (by decide) (show decode M_Model_isOpen.2.1 7 = .ok (.getfield 7, 3) by decide +kernel) wd_1504 rfl ?_
  refine V_iload_n 11 rfl (show decode M_Model_isOpen.2.1 10 = .ok (.iload_n 3, 1) by decide +kernel) 0 rfl ?_
  refine V_iconst 12 rfl (show decode M_Model_isOpen.2.1 11 = .ok (.iconst 0, 1) by decide +kernel) (v := 0) rfl ?_
  refine V_iadd 13 rfl (show decode M_Model_isOpen.2.1 12 = .ok (.iadd, 1) by decide +kernel) ?_
  refine V_ald_int 14 rfl (show decode M_Model_isOpen.2.1 13 = .ok (.iaload, 1) by decide +kernel) ?_
  refine V_iload_n 15 rfl (show decode M_Model_isOpen.2.1 14 = .ok (.iload_n 2, 1) by decide +kernel) 3 rfl ?_
  refine V_jn (fun (J33 : Bool → Sto → Rs Int32) => ∀ (b : Bool) (σ : Sto), V M_Model_isOpen 2 0 0 0 0 tI (J33 b σ) 33 [] [] b σ) ?_ (fun J33 hJ33 => ?_)
  · intro b σ
    refine V_iconst 34 rfl (show decode M_Model_isOpen.2.1 33 = .ok (.iconst 0, 1) by decide +kernel) (v := 0) rfl ?_
    exact V_zret rfl (by decide) (by decide) rfl (show decode M_Model_isOpen.2.1 34 = .ok (.ireturn, 1) by decide +kernel)
  · skip
    refine V_icmpne 18 33 rfl (show decode M_Model_isOpen.2.1 15 = .ok (.if_icmp .ne 18, 3) by decide +kernel) rfl ?_ ?_
    · skip
      refine V_aload_n 19 rfl (show decode M_Model_isOpen.2.1 18 = .ok (.aload_n 0, 1) by decide +kernel) 1 rfl ?_
      refine V_get (j := 0) (v := vR (SR σ_1 h0 0)) 22 rfl ck_Model (by decide) (by decide) (show decode M_Model_isOpen.2.1 19 = .ok (.getfield 7, 3) by decide +kernel) wd_1504 rfl ?_
      refine V_iload_n 23 rfl (show decode M_Model_isOpen.2.1 22 = .ok (.iload_n 3, 1) by decide +kernel) 0 rfl ?_
      refine V_iconst 24 rfl (show decode M_Model_isOpen.2.1 23 = .ok (.iconst 4, 1) by decide +kernel) (v := 4) rfl ?_
      refine V_iadd 25 rfl (show decode M_Model_isOpen.2.1 24 = .ok (.iadd, 1) by decide +kernel) ?_
      refine V_ald_int 26 rfl (show decode M_Model_isOpen.2.1 25 = .ok (.iaload, 1) by decide +kernel) ?_
      refine V_ifne 29 33 rfl (show decode M_Model_isOpen.2.1 26 = .ok (.ifCond .ne 7, 3) by decide +kernel) rfl ?_ ?_
      · skip
        refine V_iconst 30 rfl (show decode M_Model_isOpen.2.1 29 = .ok (.iconst 1, 1) by decide +kernel) (v := 1) rfl ?_
        refine V_goto 34 (show decode M_Model_isOpen.2.1 30 = .ok (.goto 4, 3) by decide +kernel) rfl ?_
        exact V_zret rfl (by decide) (by decide) rfl (show decode M_Model_isOpen.2.1 34 = .ok (.ireturn, 1) by decide +kernel)
      · skip
        exact V_sub [] rfl (hJ33 ((((b_1 && cK σ_1 h0 13) && cA σ_1 (SR σ_1 h0 0) 21 (x3_2 + (0 : Int32))) && cK σ_1 h0 13) && cA σ_1 (SR σ_1 h0 0) 21 (x3_2 + (4 : Int32))) σ_1)
    · skip
      exact V_sub [] rfl (hJ33 ((b_1 && cK σ_1 h0 13) && cA σ_1 (SR σ_1 h0 0) 21 (x3_2 + (0 : Int32))) σ_1)
theorem cal_Model_isOpen (d mc ms k n : Nat) (h1 : 2 + 1 ≤ d) (h2 : k + 0 ≤ mc) (h3 : n + 0 ≤ ms) : Cal M_Model_isOpen 2 0 0 2 d mc ms k n := ⟨wd_1849, wd_181, by decide, h1, by decide, h2, h3⟩
abbrev M_Model_mileOf : MD := (⟨"LongTrailModel", "mileOf", "(I)I"⟩, prog_14_method_16_code, 2, (some FieldType.int))
def f_Model_mileOf (h0 : Nat) (x1 : Int32) (b : Bool) (σ : Sto) : Rs Int32 := (bd_ (f_Model_placeAt h0 x1 ((b && cK σ h0 13) && cK σ h0 13) σ) (fun (r_1 : Int32) (b_1 : Bool) (σ_1 : Sto) => ((SI σ_1 (SR σ h0 0) (ix (r_1 + (1 : Int32)))), (b_1 && cA σ_1 (SR σ h0 0) 21 (r_1 + (1 : Int32))), σ_1)))
set_option maxRecDepth 100000 in
set_option maxHeartbeats 4000000 in
theorem s_Model_mileOf : ∀ (h0 : Nat) (x1 : Int32) (b : Bool) (σ : Sto), Snd M_Model_mileOf 2 0 0 [vR h0, vI x1] b σ (tI (f_Model_mileOf h0 x1 b σ).1) (f_Model_mileOf h0 x1 b σ).2.1 (f_Model_mileOf h0 x1 b σ).2.2 := by
  intro h0 x1 b σ
  refine Snd_of (tv := tI) (by decide) (Nat.le_of_ble_eq_true rfl) ?_
  show V M_Model_mileOf 2 0 0 0 0 tI (f_Model_mileOf h0 x1 b σ) 0 [(0, vR h0), (1, vI x1)] [] b σ
  unfold f_Model_mileOf
  refine V_aload_n 1 rfl (show decode M_Model_mileOf.2.1 0 = .ok (.aload_n 0, 1) by decide +kernel) 0 rfl ?_
  refine V_get (j := 0) (v := vR (SR σ h0 0)) 4 rfl ck_Model (by decide) (by decide) (show decode M_Model_mileOf.2.1 1 = .ok (.getfield 7, 3) by decide +kernel) wd_1504 rfl ?_
  refine V_aload_n 5 rfl (show decode M_Model_mileOf.2.1 4 = .ok (.aload_n 0, 1) by decide +kernel) 0 rfl ?_
  refine V_iload_n 6 rfl (show decode M_Model_mileOf.2.1 5 = .ok (.iload_n 1, 1) by decide +kernel) 1 rfl ?_
  refine V_callV (tb := tI) (as := [vI x1]) (rest := [vR (SR σ h0 0)]) (na := 1) 9 rfl ck_Model (by decide) (s_Model_placeAt h0 x1 ((b && cK σ h0 13) && cK σ h0 13) σ) rfl rfl (Nat.le_of_ble_eq_true rfl) (cal_Model_placeAt _ _ _ _ _ (by decide) (by decide) (by decide)) (show decode M_Model_mileOf.2.1 6 = .ok (.invokevirtual 80, 3) by decide +kernel) wd_1625 wd_1627 wd_113 (fun r_1 b_1 σ_1 => ?_)
  show V M_Model_mileOf 2 0 0 0 0 tI _ 9 [(0, vR h0), (1, vI x1)] [vI r_1, vR (SR σ h0 0)] b_1 σ_1
  refine V_iconst 10 rfl (show decode M_Model_mileOf.2.1 9 = .ok (.iconst 1, 1) by decide +kernel) (v := 1) rfl ?_
  refine V_iadd 11 rfl (show decode M_Model_mileOf.2.1 10 = .ok (.iadd, 1) by decide +kernel) ?_
  refine V_ald_int 12 rfl (show decode M_Model_mileOf.2.1 11 = .ok (.iaload, 1) by decide +kernel) ?_
  exact V_iret rfl (by decide) (by decide) (show decode M_Model_mileOf.2.1 12 = .ok (.ireturn, 1) by decide +kernel)
theorem cal_Model_mileOf (d mc ms k n : Nat) (h1 : 2 + 1 ≤ d) (h2 : k + 0 ≤ mc) (h3 : n + 0 ≤ ms) : Cal M_Model_mileOf 2 0 0 1 d mc ms k n := ⟨wd_1624, wd_181, by decide, h1, by decide, h2, h3⟩
abbrev M_Model_boxesAt : MD := (⟨"LongTrailModel", "boxesAt", "(II)I"⟩, prog_14_method_60_code, 5, (some FieldType.int))
def b_Model_boxesAt_5 (h0 : Nat) (x1 : Int32) (x2 : Int32) (L5 : Int32 → Int32 → Bool → Sto → Rs Int32) (x3 : Int32) (x4 : Int32) (b : Bool) (σ : Sto) : Rs Int32 := (if x4 < (SI σ (SR σ h0 0) (ix (6 : Int32))) then (bd_ (f_Model_isOpen h0 x4 x1 (((b && cK σ h0 13) && cA σ (SR σ h0 0) 21 (6 : Int32)) && cK σ h0 13) σ) (fun (r_3 : Int32) (b_3 : Bool) (σ_3 : Sto) => (lt_ (fun (s0_58 : Int32) (s1_58 : Int32) (b : Bool) (σ : Sto) => (lt_ (s1_58 + s0_58) (fun (x3_4 : Int32) => (lt_ (x4 + (1 : Int32)) (fun (x4_5 : Int32) => (L5 x3_4 x4_5 b σ)))))) (fun J58 => (lt_ (fun (s0_57 : Int32) (b : Bool) (σ : Sto) => (J58 (0 : Int32) s0_57 b σ)) (fun J57 => (if r_3 = 0 then (J57 x3 b_3 σ_3) else (lt_ (fun (s0_53 : Int32) (b : Bool) (σ : Sto) => (J58 (1 : Int32) s0_53 b σ)) (fun J53 => (if x2 < 0 then (J53 x3 b_3 σ_3) else (bd_ (f_Model_boxAt h0 x4 ((b_3 && cK σ_3 h0 13) && cK σ_3 h0 13) σ_3) (fun (r_6 : Int32) (b_6 : Bool) (σ_6 : Sto) => (bd_ (f_Model_mileOf h0 (SI σ_6 (SR σ_3 h0 0) (ix (r_6 + (1 : Int32)))) ((b_6 && cA σ_6 (SR σ_3 h0 0) 21 (r_6 + (1 : Int32))) && cK σ_6 h0 13) σ_6) (fun (r_7 : Int32) (b_7 : Bool) (σ_7 : Sto) => (if r_7 = x2 then (J53 x3 b_7 σ_7) else (J57 x3 b_7 σ_7)))))))))))))))) else (x3, ((b && cK σ h0 13) && cA σ (SR σ h0 0) 21 (6 : Int32)), σ))
def f_Model_boxesAt (h0 : Nat) (x1 : Int32) (x2 : Int32) (b : Bool) (σ : Sto) : Rs Int32 := (lt_ (0 : Int32) (fun (x3_1 : Int32) => (lt_ (0 : Int32) (fun (x4_2 : Int32) => (lp_ (b_Model_boxesAt_5 h0 x1 x2) (fun (x3 : Int32) (x4 : Int32) (b : Bool) (σ : Sto) => (0, false, σ)) fuel_ x3_1 x4_2 b σ)))))
set_option maxRecDepth 100000 in
set_option maxHeartbeats 4000000 in
theorem s_Model_boxesAt : ∀ (h0 : Nat) (x1 : Int32) (x2 : Int32) (b : Bool) (σ : Sto), Snd M_Model_boxesAt 3 0 0 [vR h0, vI x1, vI x2] b σ (tI (f_Model_boxesAt h0 x1 x2 b σ).1) (f_Model_boxesAt h0 x1 x2 b σ).2.1 (f_Model_boxesAt h0 x1 x2 b σ).2.2 := by
  intro h0 x1 x2 b σ
  refine Snd_of (tv := tI) (by decide) (Nat.le_of_ble_eq_true rfl) ?_
  show V M_Model_boxesAt 3 0 0 0 0 tI (f_Model_boxesAt h0 x1 x2 b σ) 0 [(0, vR h0), (1, vI x1), (2, vI x2)] [] b σ
  unfold f_Model_boxesAt
  refine V_iconst 1 rfl (show decode M_Model_boxesAt.2.1 0 = .ok (.iconst 0, 1) by decide +kernel) (v := 0) rfl ?_
  refine V_istore_n (fun x3_1 => [(3, vI x3_1), (0, vR h0), (1, vI x1), (2, vI x2)]) 2 rfl (show decode M_Model_boxesAt.2.1 1 = .ok (.istore_n 3, 1) by decide +kernel) (by decide) (fun _ => rfl) (fun x3_1 => ?_)
  refine V_iconst 3 rfl (show decode M_Model_boxesAt.2.1 2 = .ok (.iconst 0, 1) by decide +kernel) (v := 0) rfl ?_
  refine V_istore (fun x4_2 => [(4, vI x4_2), (3, vI x3_1), (0, vR h0), (1, vI x1), (2, vI x2)]) 5 rfl (show decode M_Model_boxesAt.2.1 3 = .ok (.istore 4, 2) by decide +kernel) (by decide) (fun _ => rfl) (fun x4_2 => ?_)
  refine V_sub [2, 3, 4, 1, 0] rfl ?_
  refine lp_P (fun (L5 : Int32 → Int32 → Bool → Sto → Rs Int32) => ∀ (x3 : Int32) (x4 : Int32) (b : Bool) (σ : Sto), V M_Model_boxesAt 3 0 0 0 0 tI (L5 x3 x4 b σ) 5 [(0, vR h0), (1, vI x1), (2, vI x2), (3, vI x3), (4, vI x4)] [] b σ) ?_ ?_ fuel_ x3_1 x4_2 b σ
  · intro x3 x4 b σ; exact V_bad
  · intro L5 hL5 x3 x4 b σ
    unfold b_Model_boxesAt_5
    refine V_iload 7 rfl (show decode M_Model_boxesAt.2.1 5 = .ok (.iload 4, 2) by decide +kernel) 4 rfl ?_
    refine V_aload_n 8 rfl (show decode M_Model_boxesAt.2.1 7 = .ok (.aload_n 0, 1) by decide +kernel) 0 rfl ?_
    refine V_get (j := 0) (v := vR (SR σ h0 0)) 11 rfl ck_Model (by decide) (by decide) (show decode M_Model_boxesAt.2.1 8 = .ok (.getfield 7, 3) by decide +kernel) wd_1504 rfl ?_
    refine V_bipush 13 rfl (show decode M_Model_boxesAt.2.1 11 = .ok (.bipush 6, 2) by decide +kernel) (v := 6) rfl ?_
    refine V_ald_int 14 rfl (show decode M_Model_boxesAt.2.1 13 = .ok (.iaload, 1) by decide +kernel) ?_
    refine V_icmpge 17 66 rfl (show decode M_Model_boxesAt.2.1 14 = .ok (.if_icmp .ge 52, 3) by decide +kernel) rfl ?_ ?_
    · skip
      refine V_iload_n 18 rfl (show decode M_Model_boxesAt.2.1 17 = .ok (.iload_n 3, 1) by decide +kernel) 3 rfl ?_
      refine V_aload_n 19 rfl (show decode M_Model_boxesAt.2.1 18 = .ok (.aload_n 0, 1) by decide +kernel) 0 rfl ?_
      refine V_iload 21 rfl (show decode M_Model_boxesAt.2.1 19 = .ok (.iload 4, 2) by decide +kernel) 4 rfl ?_
      refine V_iload_n 22 rfl (show decode M_Model_boxesAt.2.1 21 = .ok (.iload_n 1, 1) by decide +kernel) 1 rfl ?_
      refine V_callV (tb := tI) (as := [vI x4, vI x1]) (rest := [vI x3]) (na := 2) 25 rfl ck_Model (by decide) (s_Model_isOpen h0 x4 x1 (((b && cK σ h0 13) && cA σ (SR σ h0 0) 21 (6 : Int32)) && cK σ h0 13) σ) rfl rfl (Nat.le_of_ble_eq_true rfl) (cal_Model_isOpen _ _ _ _ _ (by decide) (by decide) (by decide)) (show decode M_Model_boxesAt.2.1 22 = .ok (.invokevirtual 262, 3) by decide +kernel) wd_1846 wd_1848 wd_145 (fun r_3 b_3 σ_3 => ?_)
      show V M_Model_boxesAt 3 0 0 0 0 tI _ 25 [(0, vR h0), (1, vI x1), (2, vI x2), (3, vI x3), (4, vI x4)] [vI r_3, vI x3] b_3 σ_3
      refine V_jn (fun (J58 : Int32 → Int32 → Bool → Sto → Rs Int32) => ∀ (s0_58 : Int32) (s1_58 : Int32) (b : Bool) (σ : Sto), V M_Model_boxesAt 3 0 0 0 0 tI (J58 s0_58 s1_58 b σ) 58 [(0, vR h0), (1, vI x1), (2, vI x2), (4, vI x4)] [vI s0_58, vI s1_58] b σ) ?_ (fun J58 hJ58 => ?_)
      · intro s0_58 s1_58 b σ
        refine V_iadd 59 rfl (show decode M_Model_boxesAt.2.1 58 = .ok (.iadd, 1) by decide +kernel) ?_
        refine V_istore_n (fun x3_4 => [(3, vI x3_4), (0, vR h0), (1, vI x1), (2, vI x2), (4, vI x4)]) 60 rfl (show decode M_Model_boxesAt.2.1 59 = .ok (.istore_n 3, 1) by decide +kernel) (by decide) (fun _ => rfl) (fun x3_4 => ?_)
        refine V_iinc (fun x4_5 => [(4, vI x4_5), (3, vI x3_4), (0, vR h0), (1, vI x1), (2, vI x2)]) 63 rfl (show decode M_Model_boxesAt.2.1 60 = .ok (.iinc 4 1, 3) by decide +kernel) 4 rfl (w := 1) rfl (by decide) (fun _ => rfl) (fun x4_5 => ?_)
        refine V_goto 5 (show decode M_Model_boxesAt.2.1 63 = .ok (.goto (-58), 3) by decide +kernel) rfl ?_
        exact V_sub [2, 3, 4, 1, 0] rfl (hL5 x3_4 x4_5 b σ)
      · skip
        refine V_jn (fun (J57 : Int32 → Bool → Sto → Rs Int32) => ∀ (s0_57 : Int32) (b : Bool) (σ : Sto), V M_Model_boxesAt 3 0 0 0 0 tI (J57 s0_57 b σ) 57 [(0, vR h0), (1, vI x1), (2, vI x2), (4, vI x4)] [vI s0_57] b σ) ?_ (fun J57 hJ57 => ?_)
        · intro s0_57 b σ
          refine V_iconst 58 rfl (show decode M_Model_boxesAt.2.1 57 = .ok (.iconst 0, 1) by decide +kernel) (v := 0) rfl ?_
          exact V_sub [0, 1, 2, 3] rfl (hJ58 (0 : Int32) s0_57 b σ)
        · skip
          refine V_ifeq 28 57 rfl (show decode M_Model_boxesAt.2.1 25 = .ok (.ifCond .eq 32, 3) by decide +kernel) rfl ?_ ?_
          · skip
            exact V_sub [0, 1, 2, 4] rfl (hJ57 x3 b_3 σ_3)
          · skip
            refine V_iload_n 29 rfl (show decode M_Model_boxesAt.2.1 28 = .ok (.iload_n 2, 1) by decide +kernel) 2 rfl ?_
            refine V_jn (fun (J53 : Int32 → Bool → Sto → Rs Int32) => ∀ (s0_53 : Int32) (b : Bool) (σ : Sto), V M_Model_boxesAt 3 0 0 0 0 tI (J53 s0_53 b σ) 53 [(0, vR h0), (1, vI x1), (2, vI x2), (4, vI x4)] [vI s0_53] b σ) ?_ (fun J53 hJ53 => ?_)
            · intro s0_53 b σ
              refine V_iconst 54 rfl (show decode M_Model_boxesAt.2.1 53 = .ok (.iconst 1, 1) by decide +kernel) (v := 1) rfl ?_
              refine V_goto 58 (show decode M_Model_boxesAt.2.1 54 = .ok (.goto 4, 3) by decide +kernel) rfl ?_
              exact V_sub [0, 1, 2, 3] rfl (hJ58 (1 : Int32) s0_53 b σ)
            · skip
              refine V_iflt 32 53 rfl (show decode M_Model_boxesAt.2.1 29 = .ok (.ifCond .lt 24, 3) by decide +kernel) rfl ?_ ?_
              · skip
                exact V_sub [0, 1, 2, 4] rfl (hJ53 x3 b_3 σ_3)
              · skip
                refine V_aload_n 33 rfl (show decode M_Model_boxesAt.2.1 32 = .ok (.aload_n 0, 1) by decide +kernel) 0 rfl ?_
                refine V_aload_n 34 rfl (show decode M_Model_boxesAt.2.1 33 = .ok (.aload_n 0, 1) by decide +kernel) 0 rfl ?_
                refine V_get (j := 0) (v := vR (SR σ_3 h0 0)) 37 rfl ck_Model (by decide) (by decide) (show decode M_Model_boxesAt.2.1 34 = .ok (.getfield 7, 3) by decide +kernel) wd_1504 rfl ?_
                refine V_aload_n 38 rfl (show decode M_Model_boxesAt.2.1 37 = .ok (.aload_n 0, 1) by decide +kernel) 0 rfl ?_
                refine V_iload 40 rfl (show decode M_Model_boxesAt.2.1 38 = .ok (.iload 4, 2) by decide +kernel) 4 rfl ?_
                refine V_callV (tb := tI) (as := [vI x4]) (rest := [vR (SR σ_3 h0 0), vR h0, vI x3]) (na := 1) 43 rfl ck_Model (by decide) (s_Model_boxAt h0 x4 ((b_3 && cK σ_3 h0 13) && cK σ_3 h0 13) σ_3) rfl rfl (Nat.le_of_ble_eq_true rfl) (cal_Model_boxAt _ _ _ _ _ (by decide) (by decide) (by decide)) (show decode M_Model_boxesAt.2.1 40 = .ok (.invokevirtual 129, 3) by decide +kernel) wd_1677 wd_1679 wd_122 (fun r_6 b_6 σ_6 => ?_)
                show V M_Model_boxesAt 3 0 0 0 0 tI _ 43 [(0, vR h0), (1, vI x1), (2, vI x2), (3, vI x3), (4, vI x4)] [vI r_6, vR (SR σ_3 h0 0), vR h0, vI x3] b_6 σ_6
                refine V_iconst 44 rfl (show decode M_Model_boxesAt.2.1 43 = .ok (.iconst 1, 1) by decide +kernel) (v := 1) rfl ?_
                refine V_iadd 45 rfl (show decode M_Model_boxesAt.2.1 44 = .ok (.iadd, 1) by decide +kernel) ?_
                refine V_ald_int 46 rfl (show decode M_Model_boxesAt.2.1 45 = .ok (.iaload, 1) by decide +kernel) ?_
                refine V_callV (tb := tI) (as := [vI (SI σ_6 (SR σ_3 h0 0) (ix (r_6 + (1 : Int32))))]) (rest := [vI x3]) (na := 1) 49 rfl ck_Model (by decide) (s_Model_mileOf h0 (SI σ_6 (SR σ_3 h0 0) (ix (r_6 + (1 : Int32)))) ((b_6 && cA σ_6 (SR σ_3 h0 0) 21 (r_6 + (1 : Int32))) && cK σ_6 h0 13) σ_6) rfl rfl (Nat.le_of_ble_eq_true rfl) (cal_Model_mileOf _ _ _ _ _ (by decide) (by decide) (by decide)) (show decode M_Model_boxesAt.2.1 46 = .ok (.invokevirtual 92, 3) by decide +kernel) wd_1621 wd_1623 wd_112 (fun r_7 b_7 σ_7 => ?_)
                show V M_Model_boxesAt 3 0 0 0 0 tI _ 49 [(0, vR h0), (1, vI x1), (2, vI x2), (3, vI x3), (4, vI x4)] [vI r_7, vI x3] b_7 σ_7
                refine V_iload_n 50 rfl (show decode M_Model_boxesAt.2.1 49 = .ok (.iload_n 2, 1) by decide +kernel) 2 rfl ?_
                refine V_icmpne 53 57 rfl (show decode M_Model_boxesAt.2.1 50 = .ok (.if_icmp .ne 7, 3) by decide +kernel) rfl ?_ ?_
                · skip
                  exact V_sub [0, 1, 2, 4] rfl (hJ53 x3 b_7 σ_7)
                · skip
                  exact V_sub [0, 1, 2, 4] rfl (hJ57 x3 b_7 σ_7)
    · skip
      refine V_iload_n 67 rfl (show decode M_Model_boxesAt.2.1 66 = .ok (.iload_n 3, 1) by decide +kernel) 3 rfl ?_
      exact V_iret rfl (by decide) (by decide) (show decode M_Model_boxesAt.2.1 67 = .ok (.ireturn, 1) by decide +kernel)
theorem cal_Model_boxesAt (d mc ms k n : Nat) (h1 : 3 + 1 ≤ d) (h2 : k + 0 ≤ mc) (h3 : n + 0 ≤ ms) : Cal M_Model_boxesAt 3 0 0 2 d mc ms k n := ⟨wd_1845, wd_181, by decide, h1, by decide, h2, h3⟩
abbrev M_Model_fireAt : MD := (⟨"LongTrailModel", "fireAt", "(I)I"⟩, prog_14_method_7_code, 2, (some FieldType.int))
def f_Model_fireAt (h0 : Nat) (x1 : Int32) (b : Bool) (σ : Sto) : Rs Int32 := (((100 : Int32) + ((4 : Int32) * x1)), b, σ)
set_option maxRecDepth 100000 in
set_option maxHeartbeats 4000000 in
theorem s_Model_fireAt : ∀ (h0 : Nat) (x1 : Int32) (b : Bool) (σ : Sto), Snd M_Model_fireAt 1 0 0 [vR h0, vI x1] b σ (tI (f_Model_fireAt h0 x1 b σ).1) (f_Model_fireAt h0 x1 b σ).2.1 (f_Model_fireAt h0 x1 b σ).2.2 := by
  intro h0 x1 b σ
  refine Snd_of (tv := tI) (by decide) (Nat.le_of_ble_eq_true rfl) ?_
  show V M_Model_fireAt 1 0 0 0 0 tI (f_Model_fireAt h0 x1 b σ) 0 [(0, vR h0), (1, vI x1)] [] b σ
  unfold f_Model_fireAt
  refine V_bipush 2 rfl (show decode M_Model_fireAt.2.1 0 = .ok (.bipush 100, 2) by decide +kernel) (v := 100) rfl ?_
  refine V_iconst 3 rfl (show decode M_Model_fireAt.2.1 2 = .ok (.iconst 4, 1) by decide +kernel) (v := 4) rfl ?_
  refine V_iload_n 4 rfl (show decode M_Model_fireAt.2.1 3 = .ok (.iload_n 1, 1) by decide +kernel) 1 rfl ?_
  refine V_imul 5 rfl (show decode M_Model_fireAt.2.1 4 = .ok (.imul, 1) by decide +kernel) ?_
  refine V_iadd 6 rfl (show decode M_Model_fireAt.2.1 5 = .ok (.iadd, 1) by decide +kernel) ?_
  exact V_iret rfl (by decide) (by decide) (show decode M_Model_fireAt.2.1 6 = .ok (.ireturn, 1) by decide +kernel)
theorem cal_Model_fireAt (d mc ms k n : Nat) (h1 : 1 + 1 ≤ d) (h2 : k + 0 ≤ mc) (h3 : n + 0 ≤ ms) : Cal M_Model_fireAt 1 0 0 1 d mc ms k n := ⟨wd_1632, wd_181, by decide, h1, by decide, h2, h3⟩
abbrev M_Model_isOn : MD := (⟨"LongTrailModel", "isOn", "(I)Z"⟩, prog_14_method_32_code, 2, (some FieldType.boolean))
def f_Model_isOn (h0 : Nat) (x1 : Int32) (b : Bool) (σ : Sto) : Rs Int32 := (bd_ (f_Model_fireAt h0 x1 ((((b && cK σ h0 13) && cA σ (SR σ h0 0) 21 (0 : Int32)) && cK σ h0 13) && cK σ h0 13) σ) (fun (r_1 : Int32) (b_1 : Bool) (σ_1 : Sto) => (bd_ (f_Model_fireAt h0 x1 (((b_1 && cA σ_1 (SR σ h0 0) 21 (r_1 + (2 : Int32))) && cK σ_1 h0 13) && cK σ_1 h0 13) σ_1) (fun (r_2 : Int32) (b_2 : Bool) (σ_2 : Sto) => (bd_ (f_Model_isIn (((SI σ (SR σ h0 0) (ix (0 : Int32)))).toInt64) (((SI σ_1 (SR σ h0 0) (ix (r_1 + (2 : Int32))))).toInt64) (((SI σ_2 (SR σ_1 h0 0) (ix (r_2 + (3 : Int32))))).toInt64) (b_2 && cA σ_2 (SR σ_1 h0 0) 21 (r_2 + (3 : Int32))) σ_2) (fun (r_3 : Int32) (b_3 : Bool) (σ_3 : Sto) => (r_3, (b_3 && zok r_3), σ_3)))))))
set_option maxRecDepth 100000 in
set_option maxHeartbeats 4000000 in
theorem s_Model_isOn : ∀ (h0 : Nat) (x1 : Int32) (b : Bool) (σ : Sto), Snd M_Model_isOn 2 0 0 [vR h0, vI x1] b σ (tI (f_Model_isOn h0 x1 b σ).1) (f_Model_isOn h0 x1 b σ).2.1 (f_Model_isOn h0 x1 b σ).2.2 := by
  intro h0 x1 b σ
  refine Snd_of (tv := tI) (by decide) (Nat.le_of_ble_eq_true rfl) ?_
  show V M_Model_isOn 2 0 0 0 0 tI (f_Model_isOn h0 x1 b σ) 0 [(0, vR h0), (1, vI x1)] [] b σ
  unfold f_Model_isOn
  refine V_aload_n 1 rfl (show decode M_Model_isOn.2.1 0 = .ok (.aload_n 0, 1) by decide +kernel) 0 rfl ?_
  refine V_get (j := 0) (v := vR (SR σ h0 0)) 4 rfl ck_Model (by decide) (by decide) (show decode M_Model_isOn.2.1 1 = .ok (.getfield 7, 3) by decide +kernel) wd_1504 rfl ?_
  refine V_iconst 5 rfl (show decode M_Model_isOn.2.1 4 = .ok (.iconst 0, 1) by decide +kernel) (v := 0) rfl ?_
  refine V_ald_int 6 rfl (show decode M_Model_isOn.2.1 5 = .ok (.iaload, 1) by decide +kernel) ?_
  refine V_i2l 7 rfl (show decode M_Model_isOn.2.1 6 = .ok (.i2l, 1) by decide +kernel) ?_
  refine V_aload_n 8 rfl (show decode M_Model_isOn.2.1 7 = .ok (.aload_n 0, 1) by decide +kernel) 0 rfl ?_
  refine V_get (j := 0) (v := vR (SR σ h0 0)) 11 rfl ck_Model (by decide) (by decide) (show decode M_Model_isOn.2.1 8 = .ok (.getfield 7, 3) by decide +kernel) wd_1504 rfl ?_
  refine V_aload_n 12 rfl (show decode M_Model_isOn.2.1 11 = .ok (.aload_n 0, 1) by decide +kernel) 0 rfl ?_
  refine V_iload_n 13 rfl (show decode M_Model_isOn.2.1 12 = .ok (.iload_n 1, 1) by decide +kernel) 1 rfl ?_
  refine V_callV (tb := tI) (as := [vI x1]) (rest := [vR (SR σ h0 0), vL (((SI σ (SR σ h0 0) (ix (0 : Int32)))).toInt64)]) (na := 1) 16 rfl ck_Model (by decide) (s_Model_fireAt h0 x1 ((((b && cK σ h0 13) && cA σ (SR σ h0 0) 21 (0 : Int32)) && cK σ h0 13) && cK σ h0 13) σ) rfl rfl (Nat.le_of_ble_eq_true rfl) (cal_Model_fireAt _ _ _ _ _ (by decide) (by decide) (by decide)) (show decode M_Model_isOn.2.1 13 = .ok (.invokevirtual 95, 3) by decide +kernel) wd_1629 wd_1631 wd_114 (fun r_1 b_1 σ_1 => ?_)
  show V M_Model_isOn 2 0 0 0 0 tI _ 16 [(0, vR h0), (1, vI x1)] [vI r_1, vR (SR σ h0 0), vL (((SI σ (SR σ h0 0) (ix (0 : Int32)))).toInt64)] b_1 σ_1
  refine V_iconst 17 rfl (show decode M_Model_isOn.2.1 16 = .ok (.iconst 2, 1) by decide +kernel) (v := 2) rfl ?_
  refine V_iadd 18 rfl (show decode M_Model_isOn.2.1 17 = .ok (.iadd, 1) by decide +kernel) ?_
  refine V_ald_int 19 rfl (show decode M_Model_isOn.2.1 18 = .ok (.iaload, 1) by decide +kernel) ?_
  refine V_i2l 20 rfl (show decode M_Model_isOn.2.1 19 = .ok (.i2l, 1) by decide +kernel) ?_
  refine V_aload_n 21 rfl (show decode M_Model_isOn.2.1 20 = .ok (.aload_n 0, 1) by decide +kernel) 0 rfl ?_
  refine V_get (j := 0) (v := vR (SR σ_1 h0 0)) 24 rfl ck_Model (by decide) (by decide) (show decode M_Model_isOn.2.1 21 = .ok (.getfield 7, 3) by decide +kernel) wd_1504 rfl ?_
  refine V_aload_n 25 rfl (show decode M_Model_isOn.2.1 24 = .ok (.aload_n 0, 1) by decide +kernel) 0 rfl ?_
  refine V_iload_n 26 rfl (show decode M_Model_isOn.2.1 25 = .ok (.iload_n 1, 1) by decide +kernel) 1 rfl ?_
  refine V_callV (tb := tI) (as := [vI x1]) (rest := [vR (SR σ_1 h0 0), vL (((SI σ_1 (SR σ h0 0) (ix (r_1 + (2 : Int32))))).toInt64), vL (((SI σ (SR σ h0 0) (ix (0 : Int32)))).toInt64)]) (na := 1) 29 rfl ck_Model (by decide) (s_Model_fireAt h0 x1 (((b_1 && cA σ_1 (SR σ h0 0) 21 (r_1 + (2 : Int32))) && cK σ_1 h0 13) && cK σ_1 h0 13) σ_1) rfl rfl (Nat.le_of_ble_eq_true rfl) (cal_Model_fireAt _ _ _ _ _ (by decide) (by decide) (by decide)) (show decode M_Model_isOn.2.1 26 = .ok (.invokevirtual 95, 3) by decide +kernel) wd_1629 wd_1631 wd_114 (fun r_2 b_2 σ_2 => ?_)
  show V M_Model_isOn 2 0 0 0 0 tI _ 29 [(0, vR h0), (1, vI x1)] [vI r_2, vR (SR σ_1 h0 0), vL (((SI σ_1 (SR σ h0 0) (ix (r_1 + (2 : Int32))))).toInt64), vL (((SI σ (SR σ h0 0) (ix (0 : Int32)))).toInt64)] b_2 σ_2
  refine V_iconst 30 rfl (show decode M_Model_isOn.2.1 29 = .ok (.iconst 3, 1) by decide +kernel) (v := 3) rfl ?_
  refine V_iadd 31 rfl (show decode M_Model_isOn.2.1 30 = .ok (.iadd, 1) by decide +kernel) ?_
  refine V_ald_int 32 rfl (show decode M_Model_isOn.2.1 31 = .ok (.iaload, 1) by decide +kernel) ?_
  refine V_i2l 33 rfl (show decode M_Model_isOn.2.1 32 = .ok (.i2l, 1) by decide +kernel) ?_
  refine V_callS (tb := tI) (as := [vL (((SI σ (SR σ h0 0) (ix (0 : Int32)))).toInt64), vL (((SI σ_1 (SR σ h0 0) (ix (r_1 + (2 : Int32))))).toInt64), vL (((SI σ_2 (SR σ_1 h0 0) (ix (r_2 + (3 : Int32))))).toInt64)]) (rest := []) (na := 3) 36 rfl (s_Model_isIn (((SI σ (SR σ h0 0) (ix (0 : Int32)))).toInt64) (((SI σ_1 (SR σ h0 0) (ix (r_1 + (2 : Int32))))).toInt64) (((SI σ_2 (SR σ_1 h0 0) (ix (r_2 + (3 : Int32))))).toInt64) (b_2 && cA σ_2 (SR σ_1 h0 0) 21 (r_2 + (3 : Int32))) σ_2) rfl rfl (Nat.le_of_ble_eq_true rfl) (cal_Model_isIn _ _ _ _ _ (by decide) (by decide) (by decide)) (show decode M_Model_isOn.2.1 33 = .ok (.invokestatic 76, 3) by decide +kernel) wd_1617 wd_1618 (fun r_3 b_3 σ_3 => ?_)
  show V M_Model_isOn 2 0 0 0 0 tI _ 36 [(0, vR h0), (1, vI x1)] [vI r_3] b_3 σ_3
  exact V_zretc rfl (by decide) (by decide) (show decode M_Model_isOn.2.1 36 = .ok (.ireturn, 1) by decide +kernel)
theorem cal_Model_isOn (d mc ms k n : Nat) (h1 : 2 + 1 ≤ d) (h2 : k + 0 ≤ mc) (h3 : n + 0 ≤ ms) : Cal M_Model_isOn 2 0 0 1 d mc ms k n := ⟨wd_1726, wd_181, by decide, h1, by decide, h2, h3⟩
abbrev M_Model_least : MD := (⟨"LongTrailModel", "least", "(II)I"⟩, prog_14_method_4_code, 2, (some FieldType.int))
def f_Model_least (x0 : Int32) (x1 : Int32) (b : Bool) (σ : Sto) : Rs Int32 := (if x0 < x1 then (x0, b, σ) else (x1, b, σ))
set_option maxRecDepth 100000 in
set_option maxHeartbeats 4000000 in
theorem s_Model_least : ∀ (x0 : Int32) (x1 : Int32) (b : Bool) (σ : Sto), Snd M_Model_least 1 0 0 [vI x0, vI x1] b σ (tI (f_Model_least x0 x1 b σ).1) (f_Model_least x0 x1 b σ).2.1 (f_Model_least x0 x1 b σ).2.2 := by
  intro x0 x1 b σ
  refine Snd_of (tv := tI) (by decide) (Nat.le_of_ble_eq_true rfl) ?_
  show V M_Model_least 1 0 0 0 0 tI (f_Model_least x0 x1 b σ) 0 [(0, vI x0), (1, vI x1)] [] b σ
  unfold f_Model_least
  refine V_iload_n 1 rfl (show decode M_Model_least.2.1 0 = .ok (.iload_n 0, 1) by decide +kernel) 0 rfl ?_
  refine V_iload_n 2 rfl (show decode M_Model_least.2.1 1 = .ok (.iload_n 1, 1) by decide +kernel) 1 rfl ?_
  refine V_icmpge 5 9 rfl (show decode M_Model_least.2.1 2 = .ok (.if_icmp .ge 7, 3) by decide +kernel) rfl ?_ ?_
  · skip
    refine V_iload_n 6 rfl (show decode M_Model_least.2.1 5 = .ok (.iload_n 0, 1) by decide +kernel) 0 rfl ?_
    refine V_goto 10 (show decode M_Model_least.2.1 6 = .ok (.goto 4, 3) by decide +kernel) rfl ?_
    exact V_iret rfl (by decide) (by decide) (show decode M_Model_least.2.1 10 = .ok (.ireturn, 1) by decide +kernel)
  · skip
    refine V_iload_n 10 rfl (show decode M_Model_least.2.1 9 = .ok (.iload_n 1, 1) by decide +kernel) 1 rfl ?_
    exact V_iret rfl (by decide) (by decide) (show decode M_Model_least.2.1 10 = .ok (.ireturn, 1) by decide +kernel)
theorem cal_Model_least (d mc ms k n : Nat) (h1 : 1 + 1 ≤ d) (h2 : k + 0 ≤ mc) (h3 : n + 0 ≤ ms) : Cal M_Model_least 1 0 0 2 d mc ms k n := ⟨wd_1868, wd_181, by decide, h1, by decide, h2, h3⟩
abbrev M_Model_walkerAt : MD := (⟨"LongTrailModel", "walkerAt", "(I)I"⟩, prog_14_method_8_code, 2, (some FieldType.int))
def f_Model_walkerAt (h0 : Nat) (x1 : Int32) (b : Bool) (σ : Sto) : Rs Int32 := (((130 : Int32) + ((20 : Int32) * x1)), b, σ)
set_option maxRecDepth 100000 in
set_option maxHeartbeats 4000000 in
theorem s_Model_walkerAt : ∀ (h0 : Nat) (x1 : Int32) (b : Bool) (σ : Sto), Snd M_Model_walkerAt 1 0 0 [vR h0, vI x1] b σ (tI (f_Model_walkerAt h0 x1 b σ).1) (f_Model_walkerAt h0 x1 b σ).2.1 (f_Model_walkerAt h0 x1 b σ).2.2 := by
  intro h0 x1 b σ
  refine Snd_of (tv := tI) (by decide) (Nat.le_of_ble_eq_true rfl) ?_
  show V M_Model_walkerAt 1 0 0 0 0 tI (f_Model_walkerAt h0 x1 b σ) 0 [(0, vR h0), (1, vI x1)] [] b σ
  unfold f_Model_walkerAt
  refine V_sipush 3 rfl (show decode M_Model_walkerAt.2.1 0 = .ok (.sipush 130, 3) by decide +kernel) (v := 130) rfl ?_
  refine V_bipush 5 rfl (show decode M_Model_walkerAt.2.1 3 = .ok (.bipush 20, 2) by decide +kernel) (v := 20) rfl ?_
  refine V_iload_n 6 rfl (show decode M_Model_walkerAt.2.1 5 = .ok (.iload_n 1, 1) by decide +kernel) 1 rfl ?_
  refine V_imul 7 rfl (show decode M_Model_walkerAt.2.1 6 = .ok (.imul, 1) by decide +kernel) ?_
  refine V_iadd 8 rfl (show decode M_Model_walkerAt.2.1 7 = .ok (.iadd, 1) by decide +kernel) ?_
  exact V_iret rfl (by decide) (by decide) (show decode M_Model_walkerAt.2.1 8 = .ok (.ireturn, 1) by decide +kernel)
theorem cal_Model_walkerAt (d mc ms k n : Nat) (h1 : 1 + 1 ≤ d) (h2 : k + 0 ≤ mc) (h3 : n + 0 ≤ ms) : Cal M_Model_walkerAt 1 0 0 1 d mc ms k n := ⟨wd_1676, wd_181, by decide, h1, by decide, h2, h3⟩
abbrev M_Model_week : MD := (⟨"LongTrailModel", "week", "()I"⟩, prog_14_method_18_code, 1, (some FieldType.int))
def f_Model_week (h0 : Nat) (b : Bool) (σ : Sto) : Rs Int32 := (((SI σ (SR σ h0 0) (ix (0 : Int32))) / (7 : Int32)), (((b && cK σ h0 13) && cA σ (SR σ h0 0) 21 (0 : Int32)) && !decide ((7 : Int32) = 0)), σ)
set_option maxRecDepth 100000 in
set_option maxHeartbeats 4000000 in
theorem s_Model_week : ∀ (h0 : Nat) (b : Bool) (σ : Sto), Snd M_Model_week 1 0 0 [vR h0] b σ (tI (f_Model_week h0 b σ).1) (f_Model_week h0 b σ).2.1 (f_Model_week h0 b σ).2.2 := by
  intro h0 b σ
  refine Snd_of (tv := tI) (by decide) (Nat.le_of_ble_eq_true rfl) ?_
  show V M_Model_week 1 0 0 0 0 tI (f_Model_week h0 b σ) 0 [(0, vR h0)] [] b σ
  unfold f_Model_week
  refine V_aload_n 1 rfl (show decode M_Model_week.2.1 0 = .ok (.aload_n 0, 1) by decide +kernel) 0 rfl ?_
  refine V_get (j := 0) (v := vR (SR σ h0 0)) 4 rfl ck_Model (by decide) (by decide) (show decode M_Model_week.2.1 1 = .ok (.getfield 7, 3) by decide +kernel) wd_1504 rfl ?_
  refine V_iconst 5 rfl (show decode M_Model_week.2.1 4 = .ok (.iconst 0, 1) by decide +kernel) (v := 0) rfl ?_
  refine V_ald_int 6 rfl (show decode M_Model_week.2.1 5 = .ok (.iaload, 1) by decide +kernel) ?_
  refine V_bipush 8 rfl (show decode M_Model_week.2.1 6 = .ok (.bipush 7, 2) by decide +kernel) (v := 7) rfl ?_
  refine V_idiv 9 rfl (show decode M_Model_week.2.1 8 = .ok (.idiv, 1) by decide +kernel) ?_
  exact V_iret rfl (by decide) (by decide) (show decode M_Model_week.2.1 9 = .ok (.ireturn, 1) by decide +kernel)
theorem cal_Model_week (d mc ms k n : Nat) (h1 : 1 + 1 ≤ d) (h2 : k + 0 ≤ mc) (h3 : n + 0 ≤ ms) : Cal M_Model_week 1 0 0 0 d mc ms k n := ⟨wd_1929, wd_181, by decide, h1, by decide, h2, h3⟩
abbrev M_Model_bound : MD := (⟨"LongTrailModel", "bound", "(I)I"⟩, prog_14_method_71_code, 7, (some FieldType.int))
def b_Model_bound_136 (h0 : Nat) (x2_2 : Int32) (L136 : Int32 → Int32 → Bool → Sto → Rs Int32) (x3 : Int32) (x4 : Int32) (b : Bool) (σ : Sto) : Rs Int32 := (if x4 < (SI σ (SR σ h0 0) (ix (3 : Int32))) then (bd_ (f_Model_fireAt h0 x4 ((((b && cK σ h0 13) && cA σ (SR σ h0 0) 21 (3 : Int32)) && cK σ h0 13) && cK σ h0 13) σ) (fun (r_17 : Int32) (b_17 : Bool) (σ_17 : Sto) => (lt_ (SI σ_17 (SR σ h0 0) (ix (r_17 + (0 : Int32)))) (fun (x5_18 : Int32) => (bd_ (f_Model_isOn h0 x4 ((b_17 && cA σ_17 (SR σ h0 0) 21 (r_17 + (0 : Int32))) && cK σ_17 h0 13) σ_17) (fun (r_19 : Int32) (b_19 : Bool) (σ_19 : Sto) => (lt_ (fun (s0_187 : Int32) (b : Bool) (σ : Sto) => (lt_ s0_187 (fun (x3_20 : Int32) => (lt_ (x4 + (1 : Int32)) (fun (x4_21 : Int32) => (L136 x3_20 x4_21 b σ)))))) (fun J187 => (lt_ (fun (b : Bool) (σ : Sto) => (J187 x3 b σ)) (fun J186 => (if r_19 = 0 then (J186 b_19 σ_19) else (if x5_18 < x2_2 then (J186 b_19 σ_19) else (bd_ (f_Model_least x3 x5_18 b_19 σ_19) (fun (r_22 : Int32) (b_22 : Bool) (σ_22 : Sto) => (J187 r_22 b_22 σ_22))))))))))))))) else (x3, ((b && cK σ h0 13) && cA σ (SR σ h0 0) 21 (3 : Int32)), σ))
def b_Model_bound_23 (h0 : Nat) (x1 : Int32) (x2_2 : Int32) (L23 : Int32 → Int32 → Bool → Sto → Rs Int32) (x3 : Int32) (x4 : Int32) (b : Bool) (σ : Sto) : Rs Int32 := (if x4 < (SI σ (SR σ h0 0) (ix (2 : Int32))) then (bd_ (f_Model_mileOf h0 x4 (((b && cK σ h0 13) && cA σ (SR σ h0 0) 21 (2 : Int32)) && cK σ h0 13) σ) (fun (r_5 : Int32) (b_5 : Bool) (σ_5 : Sto) => (lt_ r_5 (fun (x5_6 : Int32) => (bd_ (f_Model_kindOf h0 x4 (b_5 && cK σ_5 h0 13) σ_5) (fun (r_7 : Int32) (b_7 : Bool) (σ_7 : Sto) => (lt_ (fun (s0_109 : Int32) (b : Bool) (σ : Sto) => (lt_ s0_109 (fun (x6_8 : Int32) => (lt_ (fun (s0_126 : Int32) (b : Bool) (σ : Sto) => (lt_ s0_126 (fun (x3_9 : Int32) => (lt_ (x4 + (1 : Int32)) (fun (x4_10 : Int32) => (L23 x3_9 x4_10 b σ)))))) (fun J126 => (if x6_8 = 0 then (J126 x3 b σ) else (bd_ (f_Model_least x3 x5_6 b σ) (fun (r_11 : Int32) (b_11 : Bool) (σ_11 : Sto) => (J126 r_11 b_11 σ_11))))))))) (fun J109 => (lt_ (fun (b : Bool) (σ : Sto) => (J109 (1 : Int32) b σ)) (fun J104 => (lt_ (fun (b : Bool) (σ : Sto) => (bd_ (f_Model_kindOf h0 x4 (b && cK σ h0 13) σ) (fun (r_12 : Int32) (b_12 : Bool) (σ_12 : Sto) => (lt_ (fun (b : Bool) (σ : Sto) => (J109 (0 : Int32) b σ)) (fun J108 => (if r_12 = (3 : Int32) then (if x2_2 < x5_6 then (bd_ (f_Model_boxesAt h0 x1 x5_6 (b_12 && cK σ_12 h0 13) σ_12) (fun (r_13 : Int32) (b_13 : Bool) (σ_13 : Sto) => (if 0 < r_13 then (J104 b_13 σ_13) else (J108 b_13 σ_13)))) else (J108 b_12 σ_12)) else (J108 b_12 σ_12))))))) (fun J78 => (if r_7 = (4 : Int32) then (bd_ (f_Model_placeAt h0 x4 ((b_7 && cK σ_7 h0 13) && cK σ_7 h0 13) σ_7) (fun (r_14 : Int32) (b_14 : Bool) (σ_14 : Sto) => (bd_ (f_Model_week h0 ((b_14 && cA σ_14 (SR σ_7 h0 0) 21 (r_14 + (2 : Int32))) && cK σ_14 h0 13) σ_14) (fun (r_15 : Int32) (b_15 : Bool) (σ_15 : Sto) => (if (SI σ_14 (SR σ_7 h0 0) (ix (r_14 + (2 : Int32)))) < r_15 then (J78 b_15 σ_15) else (if x5_6 < x2_2 then (J78 b_15 σ_15) else (J104 b_15 σ_15))))))) else (J78 b_7 σ_7)))))))))))))) else (lt_ (0 : Int32) (fun (x4_16 : Int32) => (lp_ (b_Model_bound_136 h0 x2_2) (fun (x3 : Int32) (x4 : Int32) (b : Bool) (σ : Sto) => (0, false, σ)) fuel_ x3 x4_16 ((b && cK σ h0 13) && cA σ (SR σ h0 0) 21 (2 : Int32)) σ))))
def f_Model_bound (h0 : Nat) (x1 : Int32) (b : Bool) (σ : Sto) : Rs Int32 := (bd_ (f_Model_walkerAt h0 x1 ((b && cK σ h0 13) && cK σ h0 13) σ) (fun (r_1 : Int32) (b_1 : Bool) (σ_1 : Sto) => (lt_ (SI σ_1 (SR σ h0 0) (ix (r_1 + (1 : Int32)))) (fun (x2_2 : Int32) => (lt_ (SI σ_1 (SR σ_1 h0 0) (ix (1 : Int32))) (fun (x3_3 : Int32) => (lt_ (0 : Int32) (fun (x4_4 : Int32) => (lp_ (b_Model_bound_23 h0 x1 x2_2) (fun (x3 : Int32) (x4 : Int32) (b : Bool) (σ : Sto) => (0, false, σ)) fuel_ x3_3 x4_4 (((b_1 && cA σ_1 (SR σ h0 0) 21 (r_1 + (1 : Int32))) && cK σ_1 h0 13) && cA σ_1 (SR σ_1 h0 0) 21 (1 : Int32)) σ_1)))))))))
set_option maxRecDepth 100000 in
set_option maxHeartbeats 4000000 in
theorem s_Model_bound : ∀ (h0 : Nat) (x1 : Int32) (b : Bool) (σ : Sto), Snd M_Model_bound 4 0 0 [vR h0, vI x1] b σ (tI (f_Model_bound h0 x1 b σ).1) (f_Model_bound h0 x1 b σ).2.1 (f_Model_bound h0 x1 b σ).2.2 := by
  intro h0 x1 b σ
  refine Snd_of (tv := tI) (by decide) (Nat.le_of_ble_eq_true rfl) ?_
  show V M_Model_bound 4 0 0 0 0 tI (f_Model_bound h0 x1 b σ) 0 [(0, vR h0), (1, vI x1)] [] b σ
  unfold f_Model_bound
  refine V_aload_n 1 rfl (show decode M_Model_bound.2.1 0 = .ok (.aload_n 0, 1) by decide +kernel) 0 rfl ?_
  refine V_get (j := 0) (v := vR (SR σ h0 0)) 4 rfl ck_Model (by decide) (by decide) (show decode M_Model_bound.2.1 1 = .ok (.getfield 7, 3) by decide +kernel) wd_1504 rfl ?_
  refine V_aload_n 5 rfl (show decode M_Model_bound.2.1 4 = .ok (.aload_n 0, 1) by decide +kernel) 0 rfl ?_
  refine V_iload_n 6 rfl (show decode M_Model_bound.2.1 5 = .ok (.iload_n 1, 1) by decide +kernel) 1 rfl ?_
  refine V_callV (tb := tI) (as := [vI x1]) (rest := [vR (SR σ h0 0)]) (na := 1) 9 rfl ck_Model (by decide) (s_Model_walkerAt h0 x1 ((b && cK σ h0 13) && cK σ h0 13) σ) rfl rfl (Nat.le_of_ble_eq_true rfl) (cal_Model_walkerAt _ _ _ _ _ (by decide) (by decide) (by decide)) (show decode M_Model_bound.2.1 6 = .ok (.invokevirtual 84, 3) by decide +kernel) wd_1673 wd_1675 wd_121 (fun r_1 b_1 σ_1 => ?_)
  show V M_Model_bound 4 0 0 0 0 tI _ 9 [(0, vR h0), (1, vI x1)] [vI r_1, vR (SR σ h0 0)] b_1 σ_1
  refine V_iconst 10 rfl (show decode M_Model_bound.2.1 9 = .ok (.iconst 1, 1) by decide +kernel) (v := 1) rfl ?_
  refine V_iadd 11 rfl (show decode M_Model_bound.2.1 10 = .ok (.iadd, 1) by decide +kernel) ?_
  refine V_ald_int 12 rfl (show decode M_Model_bound.2.1 11 = .ok (.iaload, 1) by decide +kernel) ?_
  refine V_istore_n (fun x2_2 => [(2, vI x2_2), (0, vR h0), (1, vI x1)]) 13 rfl (show decode M_Model_bound.2.1 12 = .ok (.istore_n 2, 1) by decide +kernel) (by decide) (fun _ => rfl) (fun x2_2 => ?_)
  refine V_aload_n 14 rfl (show decode M_Model_bound.2.1 13 = .ok (.aload_n 0, 1) by decide +kernel) 1 rfl ?_
  refine V_get (j := 0) (v := vR (SR σ_1 h0 0)) 17 rfl ck_Model (by decide) (by decide) (show decode M_Model_bound.2.1 14 = .ok (.getfield 7, 3) by decide +kernel) wd_1504 rfl ?_
  refine V_iconst 18 rfl (show decode M_Model_bound.2.1 17 = .ok (.iconst 1, 1) by decide +kernel) (v := 1) rfl ?_
  refine V_ald_int 19 rfl (show decode M_Model_bound.2.1 18 = .ok (.iaload, 1) by decide +kernel) ?_
  refine V_istore_n (fun x3_3 => [(3, vI x3_3), (2, vI x2_2), (0, vR h0), (1, vI x1)]) 20 rfl (show decode M_Model_bound.2.1 19 = .ok (.istore_n 3, 1) by decide +kernel) (by decide) (fun _ => rfl) (fun x3_3 => ?_)
  refine V_iconst 21 rfl (show decode M_Model_bound.2.1 20 = .ok (.iconst 0, 1) by decide +kernel) (v := 0) rfl ?_
  refine V_istore (fun x4_4 => [(4, vI x4_4), (3, vI x3_3), (2, vI x2_2), (0, vR h0), (1, vI x1)]) 23 rfl (show decode M_Model_bound.2.1 21 = .ok (.istore 4, 2) by decide +kernel) (by decide) (fun _ => rfl) (fun x4_4 => ?_)
  refine V_sub [3, 4, 2, 1, 0] rfl ?_
  refine lp_P (fun (L23 : Int32 → Int32 → Bool → Sto → Rs Int32) => ∀ (x3 : Int32) (x4 : Int32) (b : Bool) (σ : Sto), V M_Model_bound 4 0 0 0 0 tI (L23 x3 x4 b σ) 23 [(0, vR h0), (1, vI x1), (2, vI x2_2), (3, vI x3), (4, vI x4)] [] b σ) ?_ ?_ fuel_ x3_3 x4_4 (((b_1 && cA σ_1 (SR σ h0 0) 21 (r_1 + (1 : Int32))) && cK σ_1 h0 13) && cA σ_1 (SR σ_1 h0 0) 21 (1 : Int32)) σ_1
  · intro x3 x4 b σ; exact V_bad
  · intro L23 hL23 x3 x4 b σ
    unfold b_Model_bound_23
    refine V_iload 25 rfl (show decode M_Model_bound.2.1 23 = .ok (.iload 4, 2) by decide +kernel) 4 rfl ?_
    refine V_aload_n 26 rfl (show decode M_Model_bound.2.1 25 = .ok (.aload_n 0, 1) by decide +kernel) 0 rfl ?_
    refine V_get (j := 0) (v := vR (SR σ h0 0)) 29 rfl ck_Model (by decide) (by decide) (show decode M_Model_bound.2.1 26 = .ok (.getfield 7, 3) by decide +kernel) wd_1504 rfl ?_
    refine V_iconst 30 rfl (show decode M_Model_bound.2.1 29 = .ok (.iconst 2, 1) by decide +kernel) (v := 2) rfl ?_
    refine V_ald_int 31 rfl (show decode M_Model_bound.2.1 30 = .ok (.iaload, 1) by decide +kernel) ?_
    refine V_icmpge 34 133 rfl (show decode M_Model_bound.2.1 31 = .ok (.if_icmp .ge 102, 3) by decide +kernel) rfl ?_ ?_
    · skip
      refine V_aload_n 35 rfl (show decode M_Model_bound.2.1 34 = .ok (.aload_n 0, 1) by decide +kernel) 0 rfl ?_
      refine V_iload 37 rfl (show decode M_Model_bound.2.1 35 = .ok (.iload 4, 2) by decide +kernel) 4 rfl ?_
      refine V_callV (tb := tI) (as := [vI x4]) (rest := []) (na := 1) 40 rfl ck_Model (by decide) (s_Model_mileOf h0 x4 (((b && cK σ h0 13) && cA σ (SR σ h0 0) 21 (2 : Int32)) && cK σ h0 13) σ) rfl rfl (Nat.le_of_ble_eq_true rfl) (cal_Model_mileOf _ _ _ _ _ (by decide) (by decide) (by decide)) (show decode M_Model_bound.2.1 37 = .ok (.invokevirtual 92, 3) by decide +kernel) wd_1621 wd_1623 wd_112 (fun r_5 b_5 σ_5 => ?_)
      show V M_Model_bound 4 0 0 0 0 tI _ 40 [(0, vR h0), (1, vI x1), (2, vI x2_2), (3, vI x3), (4, vI x4)] [vI r_5] b_5 σ_5
      refine V_istore (fun x5_6 => [(5, vI x5_6), (0, vR h0), (1, vI x1), (2, vI x2_2), (3, vI x3), (4, vI x4)]) 42 rfl (show decode M_Model_bound.2.1 40 = .ok (.istore 5, 2) by decide +kernel) (by decide) (fun _ => rfl) (fun x5_6 => ?_)
      refine V_aload_n 43 rfl (show decode M_Model_bound.2.1 42 = .ok (.aload_n 0, 1) by decide +kernel) 1 rfl ?_
      refine V_iload 45 rfl (show decode M_Model_bound.2.1 43 = .ok (.iload 4, 2) by decide +kernel) 5 rfl ?_
      refine V_callV (tb := tI) (as := [vI x4]) (rest := []) (na := 1) 48 rfl ck_Model (by decide) (s_Model_kindOf h0 x4 (b_5 && cK σ_5 h0 13) σ_5) rfl rfl (Nat.le_of_ble_eq_true rfl) (cal_Model_kindOf _ _ _ _ _ (by decide) (by decide) (by decide)) (show decode M_Model_bound.2.1 45 = .ok (.invokevirtual 132, 3) by decide +kernel) wd_1685 wd_1687 wd_123 (fun r_7 b_7 σ_7 => ?_)
      show V M_Model_bound 4 0 0 0 0 tI _ 48 [(5, vI x5_6), (0, vR h0), (1, vI x1), (2, vI x2_2), (3, vI x3), (4, vI x4)] [vI r_7] b_7 σ_7
      refine V_iconst 49 rfl (show decode M_Model_bound.2.1 48 = .ok (.iconst 4, 1) by decide +kernel) (v := 4) rfl ?_
      refine V_jn (fun (J109 : Int32 → Bool → Sto → Rs Int32) => ∀ (s0_109 : Int32) (b : Bool) (σ : Sto), V M_Model_bound 4 0 0 0 0 tI (J109 s0_109 b σ) 109 [(0, vR h0), (1, vI x1), (2, vI x2_2), (3, vI x3), (4, vI x4), (5, vI x5_6)] [vI s0_109] b σ) ?_ (fun J109 hJ109 => ?_)
      · intro s0_109 b σ
        refine V_istore (fun x6_8 => [(6, vI x6_8), (0, vR h0), (1, vI x1), (2, vI x2_2), (3, vI x3), (4, vI x4), (5, vI x5_6)]) 111 rfl (show decode M_Model_bound.2.1 109 = .ok (.istore 6, 2) by decide +kernel) (by decide) (fun _ => rfl) (fun x6_8 => ?_)
        refine V_iload 113 rfl (show decode M_Model_bound.2.1 111 = .ok (.iload 6, 2) by decide +kernel) 0 rfl ?_
        refine V_jn (fun (J126 : Int32 → Bool → Sto → Rs Int32) => ∀ (s0_126 : Int32) (b : Bool) (σ : Sto), V M_Model_bound 4 0 0 0 0 tI (J126 s0_126 b σ) 126 [(0, vR h0), (1, vI x1), (2, vI x2_2), (4, vI x4)] [vI s0_126] b σ) ?_ (fun J126 hJ126 => ?_)
        · intro s0_126 b σ
          refine V_istore_n (fun x3_9 => [(3, vI x3_9), (0, vR h0), (1, vI x1), (2, vI x2_2), (4, vI x4)]) 127 rfl (show decode M_Model_bound.2.1 126 = .ok (.istore_n 3, 1) by decide +kernel) (by decide) (fun _ => rfl) (fun x3_9 => ?_)
          refine V_iinc (fun x4_10 => [(4, vI x4_10), (3, vI x3_9), (0, vR h0), (1, vI x1), (2, vI x2_2)]) 130 rfl (show decode M_Model_bound.2.1 127 = .ok (.iinc 4 1, 3) by decide +kernel) 4 rfl (w := 1) rfl (by decide) (fun _ => rfl) (fun x4_10 => ?_)
          refine V_goto 23 (show decode M_Model_bound.2.1 130 = .ok (.goto (-107), 3) by decide +kernel) rfl ?_
          exact V_sub [2, 3, 4, 1, 0] rfl (hL23 x3_9 x4_10 b σ)
        · skip
          refine V_ifeq 116 125 rfl (show decode M_Model_bound.2.1 113 = .ok (.ifCond .eq 12, 3) by decide +kernel) rfl ?_ ?_
          · skip
            refine V_iload_n 126 rfl (show decode M_Model_bound.2.1 125 = .ok (.iload_n 3, 1) by decide +kernel) 4 rfl ?_
            exact V_sub [1, 2, 3, 5] rfl (hJ126 x3 b σ)
          · skip
            refine V_iload_n 117 rfl (show decode M_Model_bound.2.1 116 = .ok (.iload_n 3, 1) by decide +kernel) 4 rfl ?_
            refine V_iload 119 rfl (show decode M_Model_bound.2.1 117 = .ok (.iload 5, 2) by decide +kernel) 6 rfl ?_
            refine V_callS (tb := tI) (as := [vI x3, vI x5_6]) (rest := []) (na := 2) 122 rfl (s_Model_least x3 x5_6 b σ) rfl rfl (Nat.le_of_ble_eq_true rfl) (cal_Model_least _ _ _ _ _ (by decide) (by decide) (by decide)) (show decode M_Model_bound.2.1 119 = .ok (.invokestatic 273, 3) by decide +kernel) wd_1866 wd_1867 (fun r_11 b_11 σ_11 => ?_)
            show V M_Model_bound 4 0 0 0 0 tI _ 122 [(6, vI x6_8), (0, vR h0), (1, vI x1), (2, vI x2_2), (3, vI x3), (4, vI x4), (5, vI x5_6)] [vI r_11] b_11 σ_11
            refine V_goto 126 (show decode M_Model_bound.2.1 122 = .ok (.goto 4, 3) by decide +kernel) rfl ?_
            exact V_sub [1, 2, 3, 5] rfl (hJ126 r_11 b_11 σ_11)
      · skip
        refine V_jn (fun (J104 : Bool → Sto → Rs Int32) => ∀ (b : Bool) (σ : Sto), V M_Model_bound 4 0 0 0 0 tI (J104 b σ) 104 [(0, vR h0), (1, vI x1), (2, vI x2_2), (3, vI x3), (4, vI x4), (5, vI x5_6)] [] b σ) ?_ (fun J104 hJ104 => ?_)
        · intro b σ
          refine V_iconst 105 rfl (show decode M_Model_bound.2.1 104 = .ok (.iconst 1, 1) by decide +kernel) (v := 1) rfl ?_
          refine V_goto 109 (show decode M_Model_bound.2.1 105 = .ok (.goto 4, 3) by decide +kernel) rfl ?_
          exact V_sub [0, 1, 2, 3, 4, 5] rfl (hJ109 (1 : Int32) b σ)
        · skip
          refine V_jn (fun (J78 : Bool → Sto → Rs Int32) => ∀ (b : Bool) (σ : Sto), V M_Model_bound 4 0 0 0 0 tI (J78 b σ) 78 [(0, vR h0), (1, vI x1), (2, vI x2_2), (3, vI x3), (4, vI x4), (5, vI x5_6)] [] b σ) ?_ (fun J78 hJ78 => ?_)
          · intro b σ
            refine V_aload_n 79 rfl (show decode M_Model_bound.2.1 78 = .ok (.aload_n 0, 1) by decide +kernel) 0 rfl ?_
            refine V_iload 81 rfl (show decode M_Model_bound.2.1 79 = .ok (.iload 4, 2) by decide +kernel) 4 rfl ?_
            refine V_callV (tb := tI) (as := [vI x4]) (rest := []) (na := 1) 84 rfl ck_Model (by decide) (s_Model_kindOf h0 x4 (b && cK σ h0 13) σ) rfl rfl (Nat.le_of_ble_eq_true rfl) (cal_Model_kindOf _ _ _ _ _ (by decide) (by decide) (by decide)) (show decode M_Model_bound.2.1 81 = .ok (.invokevirtual 132, 3) by decide +kernel) wd_1685 wd_1687 wd_123 (fun r_12 b_12 σ_12 => ?_)
            show V M_Model_bound 4 0 0 0 0 tI _ 84 [(0, vR h0), (1, vI x1), (2, vI x2_2), (3, vI x3), (4, vI x4), (5, vI x5_6)] [vI r_12] b_12 σ_12
            refine V_iconst 85 rfl (show decode M_Model_bound.2.1 84 = .ok (.iconst 3, 1) by decide +kernel) (v := 3) rfl ?_
            refine V_jn (fun (J108 : Bool → Sto → Rs Int32) => ∀ (b : Bool) (σ : Sto), V M_Model_bound 4 0 0 0 0 tI (J108 b σ) 108 [(0, vR h0), (1, vI x1), (2, vI x2_2), (3, vI x3), (4, vI x4), (5, vI x5_6)] [] b σ) ?_ (fun J108 hJ108 => ?_)
            · intro b σ
              refine V_iconst 109 rfl (show decode M_Model_bound.2.1 108 = .ok (.iconst 0, 1) by decide +kernel) (v := 0) rfl ?_
              exact V_sub [0, 1, 2, 3, 4, 5] rfl (hJ109 (0 : Int32) b σ)
            · skip
              refine V_icmpne 88 108 rfl (show decode M_Model_bound.2.1 85 = .ok (.if_icmp .ne 23, 3) by decide +kernel) rfl ?_ ?_
              · skip
                refine V_iload 90 rfl (show decode M_Model_bound.2.1 88 = .ok (.iload 5, 2) by decide +kernel) 5 rfl ?_
                refine V_iload_n 91 rfl (show decode M_Model_bound.2.1 90 = .ok (.iload_n 2, 1) by decide +kernel) 2 rfl ?_
                refine V_icmple 94 108 rfl (show decode M_Model_bound.2.1 91 = .ok (.if_icmp .le 17, 3) by decide +kernel) rfl ?_ ?_
                · skip
                  refine V_aload_n 95 rfl (show decode M_Model_bound.2.1 94 = .ok (.aload_n 0, 1) by decide +kernel) 0 rfl ?_
                  refine V_iload_n 96 rfl (show decode M_Model_bound.2.1 95 = .ok (.iload_n 1, 1) by decide +kernel) 1 rfl ?_
                  refine V_iload 98 rfl (show decode M_Model_bound.2.1 96 = .ok (.iload 5, 2) by decide +kernel) 5 rfl ?_
                  refine V_callV (tb := tI) (as := [vI x1, vI x5_6]) (rest := []) (na := 2) 101 rfl ck_Model (by decide) (s_Model_boxesAt h0 x1 x5_6 (b_12 && cK σ_12 h0 13) σ_12) rfl rfl (Nat.le_of_ble_eq_true rfl) (cal_Model_boxesAt _ _ _ _ _ (by decide) (by decide) (by decide)) (show decode M_Model_bound.2.1 98 = .ok (.invokevirtual 270, 3) by decide +kernel) wd_1842 wd_1844 wd_144 (fun r_13 b_13 σ_13 => ?_)
                  show V M_Model_bound 4 0 0 0 0 tI _ 101 [(0, vR h0), (1, vI x1), (2, vI x2_2), (3, vI x3), (4, vI x4), (5, vI x5_6)] [vI r_13] b_13 σ_13
                  refine V_ifle 104 108 rfl (show decode M_Model_bound.2.1 101 = .ok (.ifCond .le 7, 3) by decide +kernel) rfl ?_ ?_
                  · skip
                    exact V_sub [0, 1, 2, 3, 4, 5] rfl (hJ104 b_13 σ_13)
                  · skip
                    exact V_sub [0, 1, 2, 3, 4, 5] rfl (hJ108 b_13 σ_13)
                · skip
                  exact V_sub [0, 1, 2, 3, 4, 5] rfl (hJ108 b_12 σ_12)
              · skip
                exact V_sub [0, 1, 2, 3, 4, 5] rfl (hJ108 b_12 σ_12)
          · skip
            refine V_icmpne 52 78 rfl (show decode M_Model_bound.2.1 49 = .ok (.if_icmp .ne 29, 3) by decide +kernel) rfl ?_ ?_
            · skip
              refine V_aload_n 53 rfl (show decode M_Model_bound.2.1 52 = .ok (.aload_n 0, 1) by decide +kernel) 1 rfl ?_
              refine V_get (j := 0) (v := vR (SR σ_7 h0 0)) 56 rfl ck_Model (by decide) (by decide) (show decode M_Model_bound.2.1 53 = .ok (.getfield 7, 3) by decide +kernel) wd_1504 rfl ?_
              refine V_aload_n 57 rfl (show decode M_Model_bound.2.1 56 = .ok (.aload_n 0, 1) by decide +kernel) 1 rfl ?_
              refine V_iload 59 rfl (show decode M_Model_bound.2.1 57 = .ok (.iload 4, 2) by decide +kernel) 5 rfl ?_
              refine V_callV (tb := tI) (as := [vI x4]) (rest := [vR (SR σ_7 h0 0)]) (na := 1) 62 rfl ck_Model (by decide) (s_Model_placeAt h0 x4 ((b_7 && cK σ_7 h0 13) && cK σ_7 h0 13) σ_7) rfl rfl (Nat.le_of_ble_eq_true rfl) (cal_Model_placeAt _ _ _ _ _ (by decide) (by decide) (by decide)) (show decode M_Model_bound.2.1 59 = .ok (.invokevirtual 80, 3) by decide +kernel) wd_1625 wd_1627 wd_113 (fun r_14 b_14 σ_14 => ?_)
              show V M_Model_bound 4 0 0 0 0 tI _ 62 [(5, vI x5_6), (0, vR h0), (1, vI x1), (2, vI x2_2), (3, vI x3), (4, vI x4)] [vI r_14, vR (SR σ_7 h0 0)] b_14 σ_14
              refine V_iconst 63 rfl (show decode M_Model_bound.2.1 62 = .ok (.iconst 2, 1) by decide +kernel) (v := 2) rfl ?_
              refine V_iadd 64 rfl (show decode M_Model_bound.2.1 63 = .ok (.iadd, 1) by decide +kernel) ?_
              refine V_ald_int 65 rfl (show decode M_Model_bound.2.1 64 = .ok (.iaload, 1) by decide +kernel) ?_
              refine V_aload_n 66 rfl (show decode M_Model_bound.2.1 65 = .ok (.aload_n 0, 1) by decide +kernel) 1 rfl ?_
              refine V_callV (tb := tI) (as := []) (rest := [vI (SI σ_14 (SR σ_7 h0 0) (ix (r_14 + (2 : Int32))))]) (na := 0) 69 rfl ck_Model (by decide) (s_Model_week h0 ((b_14 && cA σ_14 (SR σ_7 h0 0) 21 (r_14 + (2 : Int32))) && cK σ_14 h0 13) σ_14) rfl rfl (Nat.le_of_ble_eq_true rfl) (cal_Model_week _ _ _ _ _ (by decide) (by decide) (by decide)) (show decode M_Model_bound.2.1 66 = .ok (.invokevirtual 284, 3) by decide +kernel) wd_1926 wd_1928 wd_156 (fun r_15 b_15 σ_15 => ?_)
              show V M_Model_bound 4 0 0 0 0 tI _ 69 [(5, vI x5_6), (0, vR h0), (1, vI x1), (2, vI x2_2), (3, vI x3), (4, vI x4)] [vI r_15, vI (SI σ_14 (SR σ_7 h0 0) (ix (r_14 + (2 : Int32))))] b_15 σ_15
              refine V_icmplt 72 78 rfl (show decode M_Model_bound.2.1 69 = .ok (.if_icmp .lt 9, 3) by decide +kernel) rfl ?_ ?_
              · skip
                exact V_sub [1, 2, 3, 4, 5, 0] rfl (hJ78 b_15 σ_15)
              · skip
                refine V_iload 74 rfl (show decode M_Model_bound.2.1 72 = .ok (.iload 5, 2) by decide +kernel) 0 rfl ?_
                refine V_iload_n 75 rfl (show decode M_Model_bound.2.1 74 = .ok (.iload_n 2, 1) by decide +kernel) 3 rfl ?_
                refine V_icmpge 78 104 rfl (show decode M_Model_bound.2.1 75 = .ok (.if_icmp .ge 29, 3) by decide +kernel) rfl ?_ ?_
                · skip
                  exact V_sub [1, 2, 3, 4, 5, 0] rfl (hJ78 b_15 σ_15)
                · skip
                  exact V_sub [1, 2, 3, 4, 5, 0] rfl (hJ104 b_15 σ_15)
            · skip
              exact V_sub [1, 2, 3, 4, 5, 0] rfl (hJ78 b_7 σ_7)
    · skip
      refine V_iconst 134 rfl (show decode M_Model_bound.2.1 133 = .ok (.iconst 0, 1) by decide +kernel) (v := 0) rfl ?_
      refine V_istore (fun x4_16 => [(4, vI x4_16), (0, vR h0), (1, vI x1), (2, vI x2_2), (3, vI x3)]) 136 rfl (show decode M_Model_bound.2.1 134 = .ok (.istore 4, 2) by decide +kernel) (by decide) (fun _ => rfl) (fun x4_16 => ?_)
      refine V_sub [1, 3, 4, 0] rfl ?_
      refine lp_P (fun (L136 : Int32 → Int32 → Bool → Sto → Rs Int32) => ∀ (x3 : Int32) (x4 : Int32) (b : Bool) (σ : Sto), V M_Model_bound 4 0 0 0 0 tI (L136 x3 x4 b σ) 136 [(0, vR h0), (2, vI x2_2), (3, vI x3), (4, vI x4)] [] b σ) ?_ ?_ fuel_ x3 x4_16 ((b && cK σ h0 13) && cA σ (SR σ h0 0) 21 (2 : Int32)) σ
      · intro x3 x4 b σ; exact V_bad
      · intro L136 hL136 x3 x4 b σ
        unfold b_Model_bound_136
        refine V_iload 138 rfl (show decode M_Model_bound.2.1 136 = .ok (.iload 4, 2) by decide +kernel) 3 rfl ?_
        refine V_aload_n 139 rfl (show decode M_Model_bound.2.1 138 = .ok (.aload_n 0, 1) by decide +kernel) 0 rfl ?_
        refine V_get (j := 0) (v := vR (SR σ h0 0)) 142 rfl ck_Model (by decide) (by decide) (show decode M_Model_bound.2.1 139 = .ok (.getfield 7, 3) by decide +kernel) wd_1504 rfl ?_
        refine V_iconst 143 rfl (show decode M_Model_bound.2.1 142 = .ok (.iconst 3, 1) by decide +kernel) (v := 3) rfl ?_
        refine V_ald_int 144 rfl (show decode M_Model_bound.2.1 143 = .ok (.iaload, 1) by decide +kernel) ?_
        refine V_icmpge 147 194 rfl (show decode M_Model_bound.2.1 144 = .ok (.if_icmp .ge 50, 3) by decide +kernel) rfl ?_ ?_
        · skip
          refine V_aload_n 148 rfl (show decode M_Model_bound.2.1 147 = .ok (.aload_n 0, 1) by decide +kernel) 0 rfl ?_
          refine V_get (j := 0) (v := vR (SR σ h0 0)) 151 rfl ck_Model (by decide) (by decide) (show decode M_Model_bound.2.1 148 = .ok (.getfield 7, 3) by decide +kernel) wd_1504 rfl ?_
          refine V_aload_n 152 rfl (show decode M_Model_bound.2.1 151 = .ok (.aload_n 0, 1) by decide +kernel) 0 rfl ?_
          refine V_iload 154 rfl (show decode M_Model_bound.2.1 152 = .ok (.iload 4, 2) by decide +kernel) 3 rfl ?_
          refine V_callV (tb := tI) (as := [vI x4]) (rest := [vR (SR σ h0 0)]) (na := 1) 157 rfl ck_Model (by decide) (s_Model_fireAt h0 x4 ((((b && cK σ h0 13) && cA σ (SR σ h0 0) 21 (3 : Int32)) && cK σ h0 13) && cK σ h0 13) σ) rfl rfl (Nat.le_of_ble_eq_true rfl) (cal_Model_fireAt _ _ _ _ _ (by decide) (by decide) (by decide)) (show decode M_Model_bound.2.1 154 = .ok (.invokevirtual 95, 3) by decide +kernel) wd_1629 wd_1631 wd_114 (fun r_17 b_17 σ_17 => ?_)
          show V M_Model_bound 4 0 0 0 0 tI _ 157 [(0, vR h0), (2, vI x2_2), (3, vI x3), (4, vI x4)] [vI r_17, vR (SR σ h0 0)] b_17 σ_17
          refine V_iconst 158 rfl (show decode M_Model_bound.2.1 157 = .ok (.iconst 0, 1) by decide +kernel) (v := 0) rfl ?_
          refine V_iadd 159 rfl (show decode M_Model_bound.2.1 158 = .ok (.iadd, 1) by decide +kernel) ?_
          refine V_ald_int 160 rfl (show decode M_Model_bound.2.1 159 = .ok (.iaload, 1) by decide +kernel) ?_
          refine V_istore (fun x5_18 => [(5, vI x5_18), (0, vR h0), (2, vI x2_2), (3, vI x3), (4, vI x4)]) 162 rfl (show decode M_Model_bound.2.1 160 = .ok (.istore 5, 2) by decide +kernel) (by decide) (fun _ => rfl) (fun x5_18 => ?_)
          refine V_aload_n 163 rfl (show decode M_Model_bound.2.1 162 = .ok (.aload_n 0, 1) by decide +kernel) 1 rfl ?_
          refine V_iload 165 rfl (show decode M_Model_bound.2.1 163 = .ok (.iload 4, 2) by decide +kernel) 4 rfl ?_
          refine V_callV (tb := tI) (as := [vI x4]) (rest := []) (na := 1) 168 rfl ck_Model (by decide) (s_Model_isOn h0 x4 ((b_17 && cA σ_17 (SR σ h0 0) 21 (r_17 + (0 : Int32))) && cK σ_17 h0 13) σ_17) rfl rfl (Nat.le_of_ble_eq_true rfl) (cal_Model_isOn _ _ _ _ _ (by decide) (by decide) (by decide)) (show decode M_Model_bound.2.1 165 = .ok (.invokevirtual 149, 3) by decide +kernel) wd_1723 wd_1725 wd_125 (fun r_19 b_19 σ_19 => ?_)
          show V M_Model_bound 4 0 0 0 0 tI _ 168 [(5, vI x5_18), (0, vR h0), (2, vI x2_2), (3, vI x3), (4, vI x4)] [vI r_19] b_19 σ_19
          refine V_jn (fun (J187 : Int32 → Bool → Sto → Rs Int32) => ∀ (s0_187 : Int32) (b : Bool) (σ : Sto), V M_Model_bound 4 0 0 0 0 tI (J187 s0_187 b σ) 187 [(0, vR h0), (2, vI x2_2), (4, vI x4)] [vI s0_187] b σ) ?_ (fun J187 hJ187 => ?_)
          · intro s0_187 b σ
            refine V_istore_n (fun x3_20 => [(3, vI x3_20), (0, vR h0), (2, vI x2_2), (4, vI x4)]) 188 rfl (show decode M_Model_bound.2.1 187 = .ok (.istore_n 3, 1) by decide +kernel) (by decide) (fun _ => rfl) (fun x3_20 => ?_)
            refine V_iinc (fun x4_21 => [(4, vI x4_21), (3, vI x3_20), (0, vR h0), (2, vI x2_2)]) 191 rfl (show decode M_Model_bound.2.1 188 = .ok (.iinc 4 1, 3) by decide +kernel) 3 rfl (w := 1) rfl (by decide) (fun _ => rfl) (fun x4_21 => ?_)
            refine V_goto 136 (show decode M_Model_bound.2.1 191 = .ok (.goto (-55), 3) by decide +kernel) rfl ?_
            exact V_sub [2, 3, 1, 0] rfl (hL136 x3_20 x4_21 b σ)
          · skip
            refine V_jn (fun (J186 : Bool → Sto → Rs Int32) => ∀ (b : Bool) (σ : Sto), V M_Model_bound 4 0 0 0 0 tI (J186 b σ) 186 [(0, vR h0), (2, vI x2_2), (3, vI x3), (4, vI x4)] [] b σ) ?_ (fun J186 hJ186 => ?_)
            · intro b σ
              refine V_iload_n 187 rfl (show decode M_Model_bound.2.1 186 = .ok (.iload_n 3, 1) by decide +kernel) 2 rfl ?_
              exact V_sub [0, 1, 3] rfl (hJ187 x3 b σ)
            · skip
              refine V_ifeq 171 186 rfl (show decode M_Model_bound.2.1 168 = .ok (.ifCond .eq 18, 3) by decide +kernel) rfl ?_ ?_
              · skip
                exact V_sub [1, 2, 3, 4] rfl (hJ186 b_19 σ_19)
              · skip
                refine V_iload 173 rfl (show decode M_Model_bound.2.1 171 = .ok (.iload 5, 2) by decide +kernel) 0 rfl ?_
                refine V_iload_n 174 rfl (show decode M_Model_bound.2.1 173 = .ok (.iload_n 2, 1) by decide +kernel) 2 rfl ?_
                refine V_icmplt 177 186 rfl (show decode M_Model_bound.2.1 174 = .ok (.if_icmp .lt 12, 3) by decide +kernel) rfl ?_ ?_
                · skip
                  exact V_sub [1, 2, 3, 4] rfl (hJ186 b_19 σ_19)
                · skip
                  refine V_iload_n 178 rfl (show decode M_Model_bound.2.1 177 = .ok (.iload_n 3, 1) by decide +kernel) 3 rfl ?_
                  refine V_iload 180 rfl (show decode M_Model_bound.2.1 178 = .ok (.iload 5, 2) by decide +kernel) 0 rfl ?_
                  refine V_callS (tb := tI) (as := [vI x3, vI x5_18]) (rest := []) (na := 2) 183 rfl (s_Model_least x3 x5_18 b_19 σ_19) rfl rfl (Nat.le_of_ble_eq_true rfl) (cal_Model_least _ _ _ _ _ (by decide) (by decide) (by decide)) (show decode M_Model_bound.2.1 180 = .ok (.invokestatic 273, 3) by decide +kernel) wd_1866 wd_1867 (fun r_22 b_22 σ_22 => ?_)
                  show V M_Model_bound 4 0 0 0 0 tI _ 183 [(5, vI x5_18), (0, vR h0), (2, vI x2_2), (3, vI x3), (4, vI x4)] [vI r_22] b_22 σ_22
                  refine V_goto 187 (show decode M_Model_bound.2.1 183 = .ok (.goto 4, 3) by decide +kernel) rfl ?_
                  exact V_sub [1, 2, 4] rfl (hJ187 r_22 b_22 σ_22)
        · skip
          refine V_iload_n 195 rfl (show decode M_Model_bound.2.1 194 = .ok (.iload_n 3, 1) by decide +kernel) 2 rfl ?_
          exact V_iret rfl (by decide) (by decide) (show decode M_Model_bound.2.1 195 = .ok (.ireturn, 1) by decide +kernel)
theorem cal_Model_bound (d mc ms k n : Nat) (h1 : 4 + 1 ≤ d) (h2 : k + 0 ≤ mc) (h3 : n + 0 ≤ ms) : Cal M_Model_bound 4 0 0 1 d mc ms k n := ⟨wd_1925, wd_181, by decide, h1, by decide, h2, h3⟩
abbrev M_Model_isWalker : MD := (⟨"LongTrailModel", "isWalker", "(I)Z"⟩, prog_14_method_12_code, 2, (some FieldType.boolean))
def f_Model_isWalker (h0 : Nat) (x1 : Int32) (b : Bool) (σ : Sto) : Rs Int32 := (bd_ (f_Model_isIn ((x1).toInt64) (0 : Int64) ((((SI σ (SR σ h0 0) (ix (5 : Int32))) - (1 : Int32))).toInt64) ((b && cK σ h0 13) && cA σ (SR σ h0 0) 21 (5 : Int32)) σ) (fun (r_1 : Int32) (b_1 : Bool) (σ_1 : Sto) => (r_1, (b_1 && zok r_1), σ_1)))
set_option maxRecDepth 100000 in
set_option maxHeartbeats 4000000 in
theorem s_Model_isWalker : ∀ (h0 : Nat) (x1 : Int32) (b : Bool) (σ : Sto), Snd M_Model_isWalker 2 0 0 [vR h0, vI x1] b σ (tI (f_Model_isWalker h0 x1 b σ).1) (f_Model_isWalker h0 x1 b σ).2.1 (f_Model_isWalker h0 x1 b σ).2.2 := by
  intro h0 x1 b σ
  refine Snd_of (tv := tI) (by decide) (Nat.le_of_ble_eq_true rfl) ?_
  show V M_Model_isWalker 2 0 0 0 0 tI (f_Model_isWalker h0 x1 b σ) 0 [(0, vR h0), (1, vI x1)] [] b σ
  unfold f_Model_isWalker
  refine V_iload_n 1 rfl (show decode M_Model_isWalker.2.1 0 = .ok (.iload_n 1, 1) by decide +kernel) 1 rfl ?_
  refine V_i2l 2 rfl (show decode M_Model_isWalker.2.1 1 = .ok (.i2l, 1) by decide +kernel) ?_
  refine V_lconst 3 rfl (show decode M_Model_isWalker.2.1 2 = .ok (.lconst 0, 1) by decide +kernel) (v := 0) rfl ?_
  refine V_aload_n 4 rfl (show decode M_Model_isWalker.2.1 3 = .ok (.aload_n 0, 1) by decide +kernel) 0 rfl ?_
  refine V_get (j := 0) (v := vR (SR σ h0 0)) 7 rfl ck_Model (by decide) (by decide) (show decode M_Model_isWalker.2.1 4 = .ok (.getfield 7, 3) by decide +kernel) wd_1504 rfl ?_
  refine V_iconst 8 rfl (show decode M_Model_isWalker.2.1 7 = .ok (.iconst 5, 1) by decide +kernel) (v := 5) rfl ?_
  refine V_ald_int 9 rfl (show decode M_Model_isWalker.2.1 8 = .ok (.iaload, 1) by decide +kernel) ?_
  refine V_iconst 10 rfl (show decode M_Model_isWalker.2.1 9 = .ok (.iconst 1, 1) by decide +kernel) (v := 1) rfl ?_
  refine V_isub 11 rfl (show decode M_Model_isWalker.2.1 10 = .ok (.isub, 1) by decide +kernel) ?_
  refine V_i2l 12 rfl (show decode M_Model_isWalker.2.1 11 = .ok (.i2l, 1) by decide +kernel) ?_
  refine V_callS (tb := tI) (as := [vL ((x1).toInt64), vL (0 : Int64), vL ((((SI σ (SR σ h0 0) (ix (5 : Int32))) - (1 : Int32))).toInt64)]) (rest := []) (na := 3) 15 rfl (s_Model_isIn ((x1).toInt64) (0 : Int64) ((((SI σ (SR σ h0 0) (ix (5 : Int32))) - (1 : Int32))).toInt64) ((b && cK σ h0 13) && cA σ (SR σ h0 0) 21 (5 : Int32)) σ) rfl rfl (Nat.le_of_ble_eq_true rfl) (cal_Model_isIn _ _ _ _ _ (by decide) (by decide) (by decide)) (show decode M_Model_isWalker.2.1 12 = .ok (.invokestatic 76, 3) by decide +kernel) wd_1617 wd_1618 (fun r_1 b_1 σ_1 => ?_)
  show V M_Model_isWalker 2 0 0 0 0 tI _ 15 [(0, vR h0), (1, vI x1)] [vI r_1] b_1 σ_1
  exact V_zretc rfl (by decide) (by decide) (show decode M_Model_isWalker.2.1 15 = .ok (.ireturn, 1) by decide +kernel)
theorem cal_Model_isWalker (d mc ms k n : Nat) (h1 : 2 + 1 ≤ d) (h2 : k + 0 ≤ mc) (h3 : n + 0 ≤ ms) : Cal M_Model_isWalker 2 0 0 1 d mc ms k n := ⟨wd_1840, wd_181, by decide, h1, by decide, h2, h3⟩
abbrev M_Model_box : MD := (⟨"LongTrailModel", "box", "(IIII)I"⟩, prog_14_method_66_code, 6, (some FieldType.int))
def f_Model_box (h0 : Nat) (x1 : Int32) (x2 : Int32) (x3 : Int32) (x4 : Int32) (b : Bool) (σ : Sto) : Rs Int32 := (bd_ (f_Model_isWalker h0 x1 (b && cK σ h0 13) σ) (fun (r_1 : Int32) (b_1 : Bool) (σ_1 : Sto) => (lt_ (fun (b : Bool) (σ : Sto) => ((-1000000001 : Int32), b, σ)) (fun J41 => (if r_1 = 0 then (J41 b_1 σ_1) else (bd_ (f_Model_isPlace h0 x2 (b_1 && cK σ_1 h0 13) σ_1) (fun (r_2 : Int32) (b_2 : Bool) (σ_2 : Sto) => (if r_2 = 0 then (J41 b_2 σ_2) else (bd_ (f_Model_isIn ((x3).toInt64) (1 : Int64) (20 : Int64) b_2 σ_2) (fun (r_3 : Int32) (b_3 : Bool) (σ_3 : Sto) => (if r_3 = 0 then (J41 b_3 σ_3) else (bd_ (f_Model_isIn ((x4).toInt64) (0 : Int64) (99 : Int64) b_3 σ_3) (fun (r_4 : Int32) (b_4 : Bool) (σ_4 : Sto) => (if r_4 = 0 then (J41 b_4 σ_4) else (bd_ (f_Model_kindOf h0 x2 (b_4 && cK σ_4 h0 13) σ_4) (fun (r_5 : Int32) (b_5 : Bool) (σ_5 : Sto) => (if r_5 = (3 : Int32) then (bd_ (f_Model_walkerAt h0 x1 ((b_5 && cK σ_5 h0 13) && cK σ_5 h0 13) σ_5) (fun (r_6 : Int32) (b_6 : Bool) (σ_6 : Sto) => (if (SI σ_6 (SR σ_5 h0 0) (ix r_6)) < (2 : Int32) then (if (SI σ_6 (SR σ_6 h0 0) (ix (6 : Int32))) = (20 : Int32) then ((-1000000003 : Int32), (((b_6 && cA σ_6 (SR σ_5 h0 0) 21 r_6) && cK σ_6 h0 13) && cA σ_6 (SR σ_6 h0 0) 21 (6 : Int32)), σ_6) else (bd_ (f_Model_boxAt h0 (SI σ_6 (SR σ_6 h0 0) (ix (6 : Int32))) ((((((b_6 && cA σ_6 (SR σ_5 h0 0) 21 r_6) && cK σ_6 h0 13) && cA σ_6 (SR σ_6 h0 0) 21 (6 : Int32)) && cK σ_6 h0 13) && cA σ_6 (SR σ_6 h0 0) 21 (6 : Int32)) && cK σ_6 h0 13) σ_6) (fun (r_7 : Int32) (b_7 : Bool) (σ_7 : Sto) => (lt_ r_7 (fun (x5_8 : Int32) => (lt_ (pI σ_7 (SR σ_7 h0 0) (ix (x5_8 + (0 : Int32))) x1) (fun (σ_9 : Sto) => (lt_ (pI σ_9 (SR σ_9 h0 0) (ix (x5_8 + (1 : Int32))) x2) (fun (σ_10 : Sto) => (lt_ (pI σ_10 (SR σ_10 h0 0) (ix (x5_8 + (2 : Int32))) x3) (fun (σ_11 : Sto) => (lt_ (pI σ_11 (SR σ_11 h0 0) (ix (x5_8 + (3 : Int32))) ((SI σ_11 (SR σ_11 h0 0) (ix (0 : Int32))) + x4)) (fun (σ_12 : Sto) => (lt_ (pI σ_12 (SR σ_12 h0 0) (ix (x5_8 + (4 : Int32))) (0 : Int32)) (fun (σ_13 : Sto) => (lt_ (pI σ_13 (SR σ_13 h0 0) (ix (6 : Int32)) ((SI σ_13 (SR σ_13 h0 0) (ix (6 : Int32))) + (1 : Int32))) (fun (σ_14 : Sto) => (((SI σ_14 (SR σ_14 h0 0) (ix (6 : Int32))) - (1 : Int32)), (((((((((((((((((b_7 && cK σ_7 h0 13) && cA σ_7 (SR σ_7 h0 0) 21 (x5_8 + (0 : Int32))) && cK σ_9 h0 13) && cA σ_9 (SR σ_9 h0 0) 21 (x5_8 + (1 : Int32))) && cK σ_10 h0 13) && cA σ_10 (SR σ_10 h0 0) 21 (x5_8 + (2 : Int32))) && cK σ_11 h0 13) && cK σ_11 h0 13) && cA σ_11 (SR σ_11 h0 0) 21 (0 : Int32)) && cA σ_11 (SR σ_11 h0 0) 21 (x5_8 + (3 : Int32))) && cK σ_12 h0 13) && cA σ_12 (SR σ_12 h0 0) 21 (x5_8 + (4 : Int32))) && cK σ_13 h0 13) && cA σ_13 (SR σ_13 h0 0) 21 (6 : Int32)) && cA σ_13 (SR σ_13 h0 0) 21 (6 : Int32)) && cK σ_14 h0 13) && cA σ_14 (SR σ_14 h0 0) 21 (6 : Int32)), σ_14)))))))))))))))))) else ((-1000000002 : Int32), (b_6 && cA σ_6 (SR σ_5 h0 0) 21 r_6), σ_6)))) else ((-1000000012 : Int32), b_5, σ_5))))))))))))))))))
set_option maxRecDepth 100000 in
set_option maxHeartbeats 4000000 in
theorem s_Model_box : ∀ (h0 : Nat) (x1 : Int32) (x2 : Int32) (x3 : Int32) (x4 : Int32) (b : Bool) (σ : Sto), Snd M_Model_box 3 0 0 [vR h0, vI x1, vI x2, vI x3, vI x4] b σ (tI (f_Model_box h0 x1 x2 x3 x4 b σ).1) (f_Model_box h0 x1 x2 x3 x4 b σ).2.1 (f_Model_box h0 x1 x2 x3 x4 b σ).2.2 := by
  intro h0 x1 x2 x3 x4 b σ
  refine Snd_of (tv := tI) (by decide) (Nat.le_of_ble_eq_true rfl) ?_
  show V M_Model_box 3 0 0 0 0 tI (f_Model_box h0 x1 x2 x3 x4 b σ) 0 [(0, vR h0), (1, vI x1), (2, vI x2), (3, vI x3), (4, vI x4)] [] b σ
  unfold f_Model_box
  refine V_aload_n 1 rfl (show decode M_Model_box.2.1 0 = .ok (.aload_n 0, 1) by decide +kernel) 0 rfl ?_
  refine V_iload_n 2 rfl (show decode M_Model_box.2.1 1 = .ok (.iload_n 1, 1) by decide +kernel) 1 rfl ?_
  refine V_callV (tb := tI) (as := [vI x1]) (rest := []) (na := 1) 5 rfl ck_Model (by decide) (s_Model_isWalker h0 x1 (b && cK σ h0 13) σ) rfl rfl (Nat.le_of_ble_eq_true rfl) (cal_Model_isWalker _ _ _ _ _ (by decide) (by decide) (by decide)) (show decode M_Model_box.2.1 2 = .ok (.invokevirtual 265, 3) by decide +kernel) wd_1837 wd_1839 wd_143 (fun r_1 b_1 σ_1 => ?_)
  show V M_Model_box 3 0 0 0 0 tI _ 5 [(0, vR h0), (1, vI x1), (2, vI x2), (3, vI x3), (4, vI x4)] [vI r_1] b_1 σ_1
  refine V_jn (fun (J41 : Bool → Sto → Rs Int32) => ∀ (b : Bool) (σ : Sto), V M_Model_box 3 0 0 0 0 tI (J41 b σ) 41 [] [] b σ) ?_ (fun J41 hJ41 => ?_)
  · intro b σ
    refine V_ldc 43 rfl (show decode M_Model_box.2.1 41 = .ok (.ldc 91, 2) by decide +kernel) wd_1620 ?_
    exact V_iret rfl (by decide) (by decide) (show decode M_Model_box.2.1 43 = .ok (.ireturn, 1) by decide +kernel)
  · skip
    refine V_ifeq 8 41 rfl (show decode M_Model_box.2.1 5 = .ok (.ifCond .eq 36, 3) by decide +kernel) rfl ?_ ?_
    · skip
      exact V_sub [] rfl (hJ41 b_1 σ_1)
    · skip
      refine V_aload_n 9 rfl (show decode M_Model_box.2.1 8 = .ok (.aload_n 0, 1) by decide +kernel) 0 rfl ?_
      refine V_iload_n 10 rfl (show decode M_Model_box.2.1 9 = .ok (.iload_n 2, 1) by decide +kernel) 2 rfl ?_
      refine V_callV (tb := tI) (as := [vI x2]) (rest := []) (na := 1) 13 rfl ck_Model (by decide) (s_Model_isPlace h0 x2 (b_1 && cK σ_1 h0 13) σ_1) rfl rfl (Nat.le_of_ble_eq_true rfl) (cal_Model_isPlace _ _ _ _ _ (by decide) (by decide) (by decide)) (show decode M_Model_box.2.1 10 = .ok (.invokevirtual 123, 3) by decide +kernel) wd_1661 wd_1663 wd_118 (fun r_2 b_2 σ_2 => ?_)
      show V M_Model_box 3 0 0 0 0 tI _ 13 [(0, vR h0), (1, vI x1), (2, vI x2), (3, vI x3), (4, vI x4)] [vI r_2] b_2 σ_2
      refine V_ifeq 16 41 rfl (show decode M_Model_box.2.1 13 = .ok (.ifCond .eq 28, 3) by decide +kernel) rfl ?_ ?_
      · skip
        exact V_sub [] rfl (hJ41 b_2 σ_2)
      · skip
        refine V_iload_n 17 rfl (show decode M_Model_box.2.1 16 = .ok (.iload_n 3, 1) by decide +kernel) 3 rfl ?_
        refine V_i2l 18 rfl (show decode M_Model_box.2.1 17 = .ok (.i2l, 1) by decide +kernel) ?_
        refine V_lconst 19 rfl (show decode M_Model_box.2.1 18 = .ok (.lconst 1, 1) by decide +kernel) (v := 1) rfl ?_
        refine V_ldc2 22 rfl (show decode M_Model_box.2.1 19 = .ok (.ldc2_w 87, 3) by decide +kernel) wd_1615 ?_
        refine V_callS (tb := tI) (as := [vL ((x3).toInt64), vL (1 : Int64), vL (20 : Int64)]) (rest := []) (na := 3) 25 rfl (s_Model_isIn ((x3).toInt64) (1 : Int64) (20 : Int64) b_2 σ_2) rfl rfl (Nat.le_of_ble_eq_true rfl) (cal_Model_isIn _ _ _ _ _ (by decide) (by decide) (by decide)) (show decode M_Model_box.2.1 22 = .ok (.invokestatic 76, 3) by decide +kernel) wd_1617 wd_1618 (fun r_3 b_3 σ_3 => ?_)
        show V M_Model_box 3 0 0 0 0 tI _ 25 [(0, vR h0), (1, vI x1), (2, vI x2), (3, vI x3), (4, vI x4)] [vI r_3] b_3 σ_3
        refine V_ifeq 28 41 rfl (show decode M_Model_box.2.1 25 = .ok (.ifCond .eq 16, 3) by decide +kernel) rfl ?_ ?_
        · skip
          exact V_sub [] rfl (hJ41 b_3 σ_3)
        · skip
          refine V_iload 30 rfl (show decode M_Model_box.2.1 28 = .ok (.iload 4, 2) by decide +kernel) 4 rfl ?_
          refine V_i2l 31 rfl (show decode M_Model_box.2.1 30 = .ok (.i2l, 1) by decide +kernel) ?_
          refine V_lconst 32 rfl (show decode M_Model_box.2.1 31 = .ok (.lconst 0, 1) by decide +kernel) (v := 0) rfl ?_
          refine V_ldc2 35 rfl (show decode M_Model_box.2.1 32 = .ok (.ldc2_w 260, 3) by decide +kernel) wd_1832 ?_
          refine V_callS (tb := tI) (as := [vL ((x4).toInt64), vL (0 : Int64), vL (99 : Int64)]) (rest := []) (na := 3) 38 rfl (s_Model_isIn ((x4).toInt64) (0 : Int64) (99 : Int64) b_3 σ_3) rfl rfl (Nat.le_of_ble_eq_true rfl) (cal_Model_isIn _ _ _ _ _ (by decide) (by decide) (by decide)) (show decode M_Model_box.2.1 35 = .ok (.invokestatic 76, 3) by decide +kernel) wd_1617 wd_1618 (fun r_4 b_4 σ_4 => ?_)
          show V M_Model_box 3 0 0 0 0 tI _ 38 [(0, vR h0), (1, vI x1), (2, vI x2), (3, vI x3), (4, vI x4)] [vI r_4] b_4 σ_4
          refine V_ifne 41 44 rfl (show decode M_Model_box.2.1 38 = .ok (.ifCond .ne 6, 3) by decide +kernel) rfl ?_ ?_
          · skip
            exact V_sub [] rfl (hJ41 b_4 σ_4)
          · skip
            refine V_aload_n 45 rfl (show decode M_Model_box.2.1 44 = .ok (.aload_n 0, 1) by decide +kernel) 0 rfl ?_
            refine V_iload_n 46 rfl (show decode M_Model_box.2.1 45 = .ok (.iload_n 2, 1) by decide +kernel) 2 rfl ?_
            refine V_callV (tb := tI) (as := [vI x2]) (rest := []) (na := 1) 49 rfl ck_Model (by decide) (s_Model_kindOf h0 x2 (b_4 && cK σ_4 h0 13) σ_4) rfl rfl (Nat.le_of_ble_eq_true rfl) (cal_Model_kindOf _ _ _ _ _ (by decide) (by decide) (by decide)) (show decode M_Model_box.2.1 46 = .ok (.invokevirtual 132, 3) by decide +kernel) wd_1685 wd_1687 wd_123 (fun r_5 b_5 σ_5 => ?_)
            show V M_Model_box 3 0 0 0 0 tI _ 49 [(0, vR h0), (1, vI x1), (2, vI x2), (3, vI x3), (4, vI x4)] [vI r_5] b_5 σ_5
            refine V_iconst 50 rfl (show decode M_Model_box.2.1 49 = .ok (.iconst 3, 1) by decide +kernel) (v := 3) rfl ?_
            refine V_icmpeq 53 56 rfl (show decode M_Model_box.2.1 50 = .ok (.if_icmp .eq 6, 3) by decide +kernel) rfl ?_ ?_
            · skip
              refine V_aload_n 57 rfl (show decode M_Model_box.2.1 56 = .ok (.aload_n 0, 1) by decide +kernel) 0 rfl ?_
              refine V_get (j := 0) (v := vR (SR σ_5 h0 0)) 60 rfl ck_Model (by decide) (by decide) (show decode M_Model_box.2.1 57 = .ok (.getfield 7, 3) by decide +kernel) wd_1504 rfl ?_
              refine V_aload_n 61 rfl (show decode M_Model_box.2.1 60 = .ok (.aload_n 0, 1) by decide +kernel) 0 rfl ?_
              refine V_iload_n 62 rfl (show decode M_Model_box.2.1 61 = .ok (.iload_n 1, 1) by decide +kernel) 1 rfl ?_
              refine V_callV (tb := tI) (as := [vI x1]) (rest := [vR (SR σ_5 h0 0)]) (na := 1) 65 rfl ck_Model (by decide) (s_Model_walkerAt h0 x1 ((b_5 && cK σ_5 h0 13) && cK σ_5 h0 13) σ_5) rfl rfl (Nat.le_of_ble_eq_true rfl) (cal_Model_walkerAt _ _ _ _ _ (by decide) (by decide) (by decide)) (show decode M_Model_box.2.1 62 = .ok (.invokevirtual 84, 3) by decide +kernel) wd_1673 wd_1675 wd_121 (fun r_6 b_6 σ_6 => ?_)
              show V M_Model_box 3 0 0 0 0 tI _ 65 [(0, vR h0), (1, vI x1), (2, vI x2), (3, vI x3), (4, vI x4)] [vI r_6, vR (SR σ_5 h0 0)] b_6 σ_6
              refine V_ald_int 66 rfl (show decode M_Model_box.2.1 65 = .ok (.iaload, 1) by decide +kernel) ?_
              refine V_iconst 67 rfl (show decode M_Model_box.2.1 66 = .ok (.iconst 2, 1) by decide +kernel) (v := 2) rfl ?_
              refine V_icmplt 70 73 rfl (show decode M_Model_box.2.1 67 = .ok (.if_icmp .lt 6, 3) by decide +kernel) rfl ?_ ?_
              · skip
                refine V_aload_n 74 rfl (show decode M_Model_box.2.1 73 = .ok (.aload_n 0, 1) by decide +kernel) 0 rfl ?_
                refine V_get (j := 0) (v := vR (SR σ_6 h0 0)) 77 rfl ck_Model (by decide) (by decide) (show decode M_Model_box.2.1 74 = .ok (.getfield 7, 3) by decide +kernel) wd_1504 rfl ?_
                refine V_bipush 79 rfl (show decode M_Model_box.2.1 77 = .ok (.bipush 6, 2) by decide +kernel) (v := 6) rfl ?_
                refine V_ald_int 80 rfl (show decode M_Model_box.2.1 79 = .ok (.iaload, 1) by decide +kernel) ?_
                refine V_bipush 82 rfl (show decode M_Model_box.2.1 80 = .ok (.bipush 20, 2) by decide +kernel) (v := 20) rfl ?_
                refine V_icmpne 85 88 rfl (show decode M_Model_box.2.1 82 = .ok (.if_icmp .ne 6, 3) by decide +kernel) rfl ?_ ?_
                · skip
                  refine V_ldc 87 rfl (show decode M_Model_box.2.1 85 = .ok (.ldc 119, 2) by decide +kernel) wd_1656 ?_
                  exact V_iret rfl (by decide) (by decide) (show decode M_Model_box.2.1 87 = .ok (.ireturn, 1) by decide +kernel)
                · skip
                  refine V_aload_n 89 rfl (show decode M_Model_box.2.1 88 = .ok (.aload_n 0, 1) by decide +kernel) 0 rfl ?_
                  refine V_aload_n 90 rfl (show decode M_Model_box.2.1 89 = .ok (.aload_n 0, 1) by decide +kernel) 0 rfl ?_
                  refine V_get (j := 0) (v := vR (SR σ_6 h0 0)) 93 rfl ck_Model (by decide) (by decide) (show decode M_Model_box.2.1 90 = .ok (.getfield 7, 3) by decide +kernel) wd_1504 rfl ?_
                  refine V_bipush 95 rfl (show decode M_Model_box.2.1 93 = .ok (.bipush 6, 2) by decide +kernel) (v := 6) rfl ?_
                  refine V_ald_int 96 rfl (show decode M_Model_box.2.1 95 = .ok (.iaload, 1) by decide +kernel) ?_
                  refine V_callV (tb := tI) (as := [vI (SI σ_6 (SR σ_6 h0 0) (ix (6 : Int32)))]) (rest := []) (na := 1) 99 rfl ck_Model (by decide) (s_Model_boxAt h0 (SI σ_6 (SR σ_6 h0 0) (ix (6 : Int32))) ((((((b_6 && cA σ_6 (SR σ_5 h0 0) 21 r_6) && cK σ_6 h0 13) && cA σ_6 (SR σ_6 h0 0) 21 (6 : Int32)) && cK σ_6 h0 13) && cA σ_6 (SR σ_6 h0 0) 21 (6 : Int32)) && cK σ_6 h0 13) σ_6) rfl rfl (Nat.le_of_ble_eq_true rfl) (cal_Model_boxAt _ _ _ _ _ (by decide) (by decide) (by decide)) (show decode M_Model_box.2.1 96 = .ok (.invokevirtual 129, 3) by decide +kernel) wd_1677 wd_1679 wd_122 (fun r_7 b_7 σ_7 => ?_)
                  show V M_Model_box 3 0 0 0 0 tI _ 99 [(0, vR h0), (1, vI x1), (2, vI x2), (3, vI x3), (4, vI x4)] [vI r_7] b_7 σ_7
                  refine V_istore (fun x5_8 => [(5, vI x5_8), (0, vR h0), (1, vI x1), (2, vI x2), (3, vI x3), (4, vI x4)]) 101 rfl (show decode M_Model_box.2.1 99 = .ok (.istore 5, 2) by decide +kernel) (by decide) (fun _ => rfl) (fun x5_8 => ?_)
                  refine V_aload_n 102 rfl (show decode M_Model_box.2.1 101 = .ok (.aload_n 0, 1) by decide +kernel) 1 rfl ?_
                  refine V_get (j := 0) (v := vR (SR σ_7 h0 0)) 105 rfl ck_Model (by decide) (by decide) (show decode M_Model_box.2.1 102 = .ok (.getfield 7, 3) by decide +kernel) wd_1504 rfl ?_
                  refine V_iload 107 rfl (show decode M_Model_box.2.1 105 = .ok (.iload 5, 2) by decide +kernel) 0 rfl ?_
                  refine V_iconst 108 rfl (show decode M_Model_box.2.1 107 = .ok (.iconst 0, 1) by decide +kernel) (v := 0) rfl ?_
                  refine V_iadd 109 rfl (show decode M_Model_box.2.1 108 = .ok (.iadd, 1) by decide +kernel) ?_
                  refine V_iload_n 110 rfl (show decode M_Model_box.2.1 109 = .ok (.iload_n 1, 1) by decide +kernel) 2 rfl ?_
                  refine V_ast_int 111 rfl (show decode M_Model_box.2.1 110 = .ok (.iastore, 1) by decide +kernel) (fun σ_9 => ?_)
                  refine V_aload_n 112 rfl (show decode M_Model_box.2.1 111 = .ok (.aload_n 0, 1) by decide +kernel) 1 rfl ?_
                  refine V_get (j := 0) (v := vR (SR σ_9 h0 0)) 115 rfl ck_Model (by decide) (by decide) (show decode M_Model_box.2.1 112 = .ok (.getfield 7, 3) by decide +kernel) wd_1504 rfl ?_
                  refine V_iload 117 rfl (show decode M_Model_box.2.1 115 = .ok (.iload 5, 2) by decide +kernel) 0 rfl ?_
                  refine V_iconst 118 rfl (show decode M_Model_box.2.1 117 = .ok (.iconst 1, 1) by decide +kernel) (v := 1) rfl ?_
                  refine V_iadd 119 rfl (show decode M_Model_box.2.1 118 = .ok (.iadd, 1) by decide +kernel) ?_
                  refine V_iload_n 120 rfl (show decode M_Model_box.2.1 119 = .ok (.iload_n 2, 1) by decide +kernel) 3 rfl ?_
                  refine V_ast_int 121 rfl (show decode M_Model_box.2.1 120 = .ok (.iastore, 1) by decide +kernel) (fun σ_10 => ?_)
                  refine V_aload_n 122 rfl (show decode M_Model_box.2.1 121 = .ok (.aload_n 0, 1) by decide +kernel) 1 rfl ?_
                  refine V_get (j := 0) (v := vR (SR σ_10 h0 0)) 125 rfl ck_Model (by decide) (by decide) (show decode M_Model_box.2.1 122 = .ok (.getfield 7, 3) by decide +kernel) wd_1504 rfl ?_
                  refine V_iload 127 rfl (show decode M_Model_box.2.1 125 = .ok (.iload 5, 2) by decide +kernel) 0 rfl ?_
                  refine V_iconst 128 rfl (show decode M_Model_box.2.1 127 = .ok (.iconst 2, 1) by decide +kernel) (v := 2) rfl ?_
                  refine V_iadd 129 rfl (show decode M_Model_box.2.1 128 = .ok (.iadd, 1) by decide +kernel) ?_
                  refine V_iload_n 130 rfl (show decode M_Model_box.2.1 129 = .ok (.iload_n 3, 1) by decide +kernel) 4 rfl ?_
                  refine V_ast_int 131 rfl (show decode M_Model_box.2.1 130 = .ok (.iastore, 1) by decide +kernel) (fun σ_11 => ?_)
                  refine V_aload_n 132 rfl (show decode M_Model_box.2.1 131 = .ok (.aload_n 0, 1) by decide +kernel) 1 rfl ?_
                  refine V_get (j := 0) (v := vR (SR σ_11 h0 0)) 135 rfl ck_Model (by decide) (by decide) (show decode M_Model_box.2.1 132 = .ok (.getfield 7, 3) by decide +kernel) wd_1504 rfl ?_
                  refine V_iload 137 rfl (show decode M_Model_box.2.1 135 = .ok (.iload 5, 2) by decide +kernel) 0 rfl ?_
                  refine V_iconst 138 rfl (show decode M_Model_box.2.1 137 = .ok (.iconst 3, 1) by decide +kernel) (v := 3) rfl ?_
                  refine V_iadd 139 rfl (show decode M_Model_box.2.1 138 = .ok (.iadd, 1) by decide +kernel) ?_
                  refine V_aload_n 140 rfl (show decode M_Model_box.2.1 139 = .ok (.aload_n 0, 1) by decide +kernel) 1 rfl ?_
                  refine V_get (j := 0) (v := vR (SR σ_11 h0 0)) 143 rfl ck_Model (by decide) (by decide) (show decode M_Model_box.2.1 140 = .ok (.getfield 7, 3) by decide +kernel) wd_1504 rfl ?_
                  refine V_iconst 144 rfl (show decode M_Model_box.2.1 143 = .ok (.iconst 0, 1) by decide +kernel) (v := 0) rfl ?_
                  refine V_ald_int 145 rfl (show decode M_Model_box.2.1 144 = .ok (.iaload, 1) by decide +kernel) ?_
                  refine V_iload 147 rfl (show decode M_Model_box.2.1 145 = .ok (.iload 4, 2) by decide +kernel) 5 rfl ?_
                  refine V_iadd 148 rfl (show decode M_Model_box.2.1 147 = .ok (.iadd, 1) by decide +kernel) ?_
                  refine V_ast_int 149 rfl (show decode M_Model_box.2.1 148 = .ok (.iastore, 1) by decide +kernel) (fun σ_12 => ?_)
                  refine V_aload_n 150 rfl (show decode M_Model_box.2.1 149 = .ok (.aload_n 0, 1) by decide +kernel) 1 rfl ?_
                  refine V_get (j := 0) (v := vR (SR σ_12 h0 0)) 153 rfl ck_Model (by decide) (by decide) (show decode M_Model_box.2.1 150 = .ok (.getfield 7, 3) by decide +kernel) wd_1504 rfl ?_
                  refine V_iload 155 rfl (show decode M_Model_box.2.1 153 = .ok (.iload 5, 2) by decide +kernel) 0 rfl ?_
                  refine V_iconst 156 rfl (show decode M_Model_box.2.1 155 = .ok (.iconst 4, 1) by decide +kernel) (v := 4) rfl ?_
                  refine V_iadd 157 rfl (show decode M_Model_box.2.1 156 = .ok (.iadd, 1) by decide +kernel) ?_
                  refine V_iconst 158 rfl (show decode M_Model_box.2.1 157 = .ok (.iconst 0, 1) by decide +kernel) (v := 0) rfl ?_
                  refine V_ast_int 159 rfl (show decode M_Model_box.2.1 158 = .ok (.iastore, 1) by decide +kernel) (fun σ_13 => ?_)
                  refine V_aload_n 160 rfl (show decode M_Model_box.2.1 159 = .ok (.aload_n 0, 1) by decide +kernel) 1 rfl ?_
                  refine V_get (j := 0) (v := vR (SR σ_13 h0 0)) 163 rfl ck_Model (by decide) (by decide) (show decode M_Model_box.2.1 160 = .ok (.getfield 7, 3) by decide +kernel) wd_1504 rfl ?_
                  refine V_bipush 165 rfl (show decode M_Model_box.2.1 163 = .ok (.bipush 6, 2) by decide +kernel) (v := 6) rfl ?_
                  refine V_dup2 166 rfl (show decode M_Model_box.2.1 165 = .ok (.dup2, 1) by decide +kernel) rfl rfl ?_
                  refine V_ald_int 167 rfl (show decode M_Model_box.2.1 166 = .ok (.iaload, 1) by decide +kernel) ?_
                  refine V_iconst 168 rfl (show decode M_Model_box.2.1 167 = .ok (.iconst 1, 1) by decide +kernel) (v := 1) rfl ?_
                  refine V_iadd 169 rfl (show decode M_Model_box.2.1 168 = .ok (.iadd, 1) by decide +kernel) ?_
                  refine V_ast_int 170 rfl (show decode M_Model_box.2.1 169 = .ok (.iastore, 1) by decide +kernel) (fun σ_14 => ?_)
                  refine V_aload_n 171 rfl (show decode M_Model_box.2.1 170 = .ok (.aload_n 0, 1) by decide +kernel) 1 rfl ?_
                  refine V_get (j := 0) (v := vR (SR σ_14 h0 0)) 174 rfl ck_Model (by decide) (by decide) (show decode M_Model_box.2.1 171 = .ok (.getfield 7, 3) by decide +kernel) wd_1504 rfl ?_
                  refine V_bipush 176 rfl (show decode M_Model_box.2.1 174 = .ok (.bipush 6, 2) by decide +kernel) (v := 6) rfl ?_
                  refine V_ald_int 177 rfl (show decode M_Model_box.2.1 176 = .ok (.iaload, 1) by decide +kernel) ?_
                  refine V_iconst 178 rfl (show decode M_Model_box.2.1 177 = .ok (.iconst 1, 1) by decide +kernel) (v := 1) rfl ?_
                  refine V_isub 179 rfl (show decode M_Model_box.2.1 178 = .ok (.isub, 1) by decide +kernel) ?_
                  exact V_iret rfl (by decide) (by decide) (show decode M_Model_box.2.1 179 = .ok (.ireturn, 1) by decide +kernel)
              · skip
                refine V_ldc 72 rfl (show decode M_Model_box.2.1 70 = .ok (.ldc 98, 2) by decide +kernel) wd_1633 ?_
                exact V_iret rfl (by decide) (by decide) (show decode M_Model_box.2.1 72 = .ok (.ireturn, 1) by decide +kernel)
            · skip
              refine V_ldc 55 rfl (show decode M_Model_box.2.1 53 = .ok (.ldc 138, 2) by decide +kernel) wd_1692 ?_
              exact V_iret rfl (by decide) (by decide) (show decode M_Model_box.2.1 55 = .ok (.ireturn, 1) by decide +kernel)
theorem cal_Model_box (d mc ms k n : Nat) (h1 : 3 + 1 ≤ d) (h2 : k + 0 ≤ mc) (h3 : n + 0 ≤ ms) : Cal M_Model_box 3 0 0 4 d mc ms k n := ⟨wd_1872, wd_181, by decide, h1, by decide, h2, h3⟩
abbrev M_Model_boxTold : MD := (⟨"LongTrailModel", "boxTold", "(II)I"⟩, prog_14_method_68_code, 3, (some FieldType.int))
def f_Model_boxTold (h0 : Nat) (x1 : Int32) (x2 : Int32) (b : Bool) (σ : Sto) : Rs Int32 := (bd_ (f_Model_isIn ((x1).toInt64) (0 : Int64) ((((SI σ (SR σ h0 0) (ix (6 : Int32))) - (1 : Int32))).toInt64) ((b && cK σ h0 13) && cA σ (SR σ h0 0) 21 (6 : Int32)) σ) (fun (r_1 : Int32) (b_1 : Bool) (σ_1 : Sto) => (lt_ (fun (b : Bool) (σ : Sto) => ((-1000000001 : Int32), b, σ)) (fun J46 => (if r_1 = 0 then (J46 b_1 σ_1) else (bd_ (f_Model_isIn ((x2).toInt64) (0 : Int64) (4 : Int64) b_1 σ_1) (fun (r_2 : Int32) (b_2 : Bool) (σ_2 : Sto) => (if r_2 = 0 then (J46 b_2 σ_2) else (bd_ (f_Model_boxAt h0 x1 ((b_2 && cK σ_2 h0 13) && cK σ_2 h0 13) σ_2) (fun (r_3 : Int32) (b_3 : Bool) (σ_3 : Sto) => ((SI σ_3 (SR σ_2 h0 0) (ix (r_3 + x2))), (b_3 && cA σ_3 (SR σ_2 h0 0) 21 (r_3 + x2)), σ_3)))))))))))
set_option maxRecDepth 100000 in
set_option maxHeartbeats 4000000 in
theorem s_Model_boxTold : ∀ (h0 : Nat) (x1 : Int32) (x2 : Int32) (b : Bool) (σ : Sto), Snd M_Model_boxTold 2 0 0 [vR h0, vI x1, vI x2] b σ (tI (f_Model_boxTold h0 x1 x2 b σ).1) (f_Model_boxTold h0 x1 x2 b σ).2.1 (f_Model_boxTold h0 x1 x2 b σ).2.2 := by
  intro h0 x1 x2 b σ
  refine Snd_of (tv := tI) (by decide) (Nat.le_of_ble_eq_true rfl) ?_
  show V M_Model_boxTold 2 0 0 0 0 tI (f_Model_boxTold h0 x1 x2 b σ) 0 [(0, vR h0), (1, vI x1), (2, vI x2)] [] b σ
  unfold f_Model_boxTold
  refine V_iload_n 1 rfl (show decode M_Model_boxTold.2.1 0 = .ok (.iload_n 1, 1) by decide +kernel) 1 rfl ?_
  refine V_i2l 2 rfl (show decode M_Model_boxTold.2.1 1 = .ok (.i2l, 1) by decide +kernel) ?_
  refine V_lconst 3 rfl (show decode M_Model_boxTold.2.1 2 = .ok (.lconst 0, 1) by decide +kernel) (v := 0) rfl ?_
  refine V_aload_n 4 rfl (show decode M_Model_boxTold.2.1 3 = .ok (.aload_n 0, 1) by decide +kernel) 0 rfl ?_
  refine V_get (j := 0) (v := vR (SR σ h0 0)) 7 rfl ck_Model (by decide) (by decide) (show decode M_Model_boxTold.2.1 4 = .ok (.getfield 7, 3) by decide +kernel) wd_1504 rfl ?_
  refine V_bipush 9 rfl (show decode M_Model_boxTold.2.1 7 = .ok (.bipush 6, 2) by decide +kernel) (v := 6) rfl ?_
  refine V_ald_int 10 rfl (show decode M_Model_boxTold.2.1 9 = .ok (.iaload, 1) by decide +kernel) ?_
  refine V_iconst 11 rfl (show decode M_Model_boxTold.2.1 10 = .ok (.iconst 1, 1) by decide +kernel) (v := 1) rfl ?_
  refine V_isub 12 rfl (show decode M_Model_boxTold.2.1 11 = .ok (.isub, 1) by decide +kernel) ?_
  refine V_i2l 13 rfl (show decode M_Model_boxTold.2.1 12 = .ok (.i2l, 1) by decide +kernel) ?_
  refine V_callS (tb := tI) (as := [vL ((x1).toInt64), vL (0 : Int64), vL ((((SI σ (SR σ h0 0) (ix (6 : Int32))) - (1 : Int32))).toInt64)]) (rest := []) (na := 3) 16 rfl (s_Model_isIn ((x1).toInt64) (0 : Int64) ((((SI σ (SR σ h0 0) (ix (6 : Int32))) - (1 : Int32))).toInt64) ((b && cK σ h0 13) && cA σ (SR σ h0 0) 21 (6 : Int32)) σ) rfl rfl (Nat.le_of_ble_eq_true rfl) (cal_Model_isIn _ _ _ _ _ (by decide) (by decide) (by decide)) (show decode M_Model_boxTold.2.1 13 = .ok (.invokestatic 76, 3) by decide +kernel) wd_1617 wd_1618 (fun r_1 b_1 σ_1 => ?_)
  show V M_Model_boxTold 2 0 0 0 0 tI _ 16 [(0, vR h0), (1, vI x1), (2, vI x2)] [vI r_1] b_1 σ_1
  refine V_jn (fun (J46 : Bool → Sto → Rs Int32) => ∀ (b : Bool) (σ : Sto), V M_Model_boxTold 2 0 0 0 0 tI (J46 b σ) 46 [] [] b σ) ?_ (fun J46 hJ46 => ?_)
  · intro b σ
    refine V_ldc 48 rfl (show decode M_Model_boxTold.2.1 46 = .ok (.ldc 91, 2) by decide +kernel) wd_1620 ?_
    exact V_iret rfl (by decide) (by decide) (show decode M_Model_boxTold.2.1 48 = .ok (.ireturn, 1) by decide +kernel)
  · skip
    refine V_ifeq 19 46 rfl (show decode M_Model_boxTold.2.1 16 = .ok (.ifCond .eq 30, 3) by decide +kernel) rfl ?_ ?_
    · skip
      exact V_sub [] rfl (hJ46 b_1 σ_1)
    · skip
      refine V_iload_n 20 rfl (show decode M_Model_boxTold.2.1 19 = .ok (.iload_n 2, 1) by decide +kernel) 2 rfl ?_
      refine V_i2l 21 rfl (show decode M_Model_boxTold.2.1 20 = .ok (.i2l, 1) by decide +kernel) ?_
      refine V_lconst 22 rfl (show decode M_Model_boxTold.2.1 21 = .ok (.lconst 0, 1) by decide +kernel) (v := 0) rfl ?_
      refine V_ldc2 25 rfl (show decode M_Model_boxTold.2.1 22 = .ok (.ldc2_w 279, 3) by decide +kernel) wd_1881 ?_
      refine V_callS (tb := tI) (as := [vL ((x2).toInt64), vL (0 : Int64), vL (4 : Int64)]) (rest := []) (na := 3) 28 rfl (s_Model_isIn ((x2).toInt64) (0 : Int64) (4 : Int64) b_1 σ_1) rfl rfl (Nat.le_of_ble_eq_true rfl) (cal_Model_isIn _ _ _ _ _ (by decide) (by decide) (by decide)) (show decode M_Model_boxTold.2.1 25 = .ok (.invokestatic 76, 3) by decide +kernel) wd_1617 wd_1618 (fun r_2 b_2 σ_2 => ?_)
      show V M_Model_boxTold 2 0 0 0 0 tI _ 28 [(0, vR h0), (1, vI x1), (2, vI x2)] [vI r_2] b_2 σ_2
      refine V_ifeq 31 46 rfl (show decode M_Model_boxTold.2.1 28 = .ok (.ifCond .eq 18, 3) by decide +kernel) rfl ?_ ?_
      · skip
        exact V_sub [] rfl (hJ46 b_2 σ_2)
      · skip
        refine V_aload_n 32 rfl (show decode M_Model_boxTold.2.1 31 = .ok (.aload_n 0, 1) by decide +kernel) 0 rfl ?_
        refine V_get (j := 0) (v := vR (SR σ_2 h0 0)) 35 rfl ck_Model (by decide) (by decide) (show decode M_Model_boxTold.2.1 32 = .ok (.getfield 7, 3) by decide +kernel) wd_1504 rfl ?_
        refine V_aload_n 36 rfl (show decode M_Model_boxTold.2.1 35 = .ok (.aload_n 0, 1) by decide +kernel) 0 rfl ?_
        refine V_iload_n 37 rfl (show decode M_Model_boxTold.2.1 36 = .ok (.iload_n 1, 1) by decide +kernel) 1 rfl ?_
        refine V_callV (tb := tI) (as := [vI x1]) (rest := [vR (SR σ_2 h0 0)]) (na := 1) 40 rfl ck_Model (by decide) (s_Model_boxAt h0 x1 ((b_2 && cK σ_2 h0 13) && cK σ_2 h0 13) σ_2) rfl rfl (Nat.le_of_ble_eq_true rfl) (cal_Model_boxAt _ _ _ _ _ (by decide) (by decide) (by decide)) (show decode M_Model_boxTold.2.1 37 = .ok (.invokevirtual 129, 3) by decide +kernel) wd_1677 wd_1679 wd_122 (fun r_3 b_3 σ_3 => ?_)
        show V M_Model_boxTold 2 0 0 0 0 tI _ 40 [(0, vR h0), (1, vI x1), (2, vI x2)] [vI r_3, vR (SR σ_2 h0 0)] b_3 σ_3
        refine V_iload_n 41 rfl (show decode M_Model_boxTold.2.1 40 = .ok (.iload_n 2, 1) by decide +kernel) 2 rfl ?_
        refine V_iadd 42 rfl (show decode M_Model_boxTold.2.1 41 = .ok (.iadd, 1) by decide +kernel) ?_
        refine V_ald_int 43 rfl (show decode M_Model_boxTold.2.1 42 = .ok (.iaload, 1) by decide +kernel) ?_
        refine V_goto 48 (show decode M_Model_boxTold.2.1 43 = .ok (.goto 5, 3) by decide +kernel) rfl ?_
        exact V_iret rfl (by decide) (by decide) (show decode M_Model_boxTold.2.1 48 = .ok (.ireturn, 1) by decide +kernel)
theorem cal_Model_boxTold (d mc ms k n : Nat) (h1 : 2 + 1 ≤ d) (h2 : k + 0 ≤ mc) (h3 : n + 0 ≤ ms) : Cal M_Model_boxTold 2 0 0 2 d mc ms k n := ⟨wd_1880, wd_181, by decide, h1, by decide, h2, h3⟩
abbrev M_Model_isMile : MD := (⟨"LongTrailModel", "isMile", "(I)Z"⟩, prog_14_method_14_code, 2, (some FieldType.boolean))
def f_Model_isMile (h0 : Nat) (x1 : Int32) (b : Bool) (σ : Sto) : Rs Int32 := (bd_ (f_Model_isIn ((x1).toInt64) (0 : Int64) (((SI σ (SR σ h0 0) (ix (1 : Int32)))).toInt64) ((b && cK σ h0 13) && cA σ (SR σ h0 0) 21 (1 : Int32)) σ) (fun (r_1 : Int32) (b_1 : Bool) (σ_1 : Sto) => (r_1, (b_1 && zok r_1), σ_1)))
set_option maxRecDepth 100000 in
set_option maxHeartbeats 4000000 in
theorem s_Model_isMile : ∀ (h0 : Nat) (x1 : Int32) (b : Bool) (σ : Sto), Snd M_Model_isMile 2 0 0 [vR h0, vI x1] b σ (tI (f_Model_isMile h0 x1 b σ).1) (f_Model_isMile h0 x1 b σ).2.1 (f_Model_isMile h0 x1 b σ).2.2 := by
  intro h0 x1 b σ
  refine Snd_of (tv := tI) (by decide) (Nat.le_of_ble_eq_true rfl) ?_
  show V M_Model_isMile 2 0 0 0 0 tI (f_Model_isMile h0 x1 b σ) 0 [(0, vR h0), (1, vI x1)] [] b σ
  unfold f_Model_isMile
  refine V_iload_n 1 rfl (show decode M_Model_isMile.2.1 0 = .ok (.iload_n 1, 1) by decide +kernel) 1 rfl ?_
  refine V_i2l 2 rfl (show decode M_Model_isMile.2.1 1 = .ok (.i2l, 1) by decide +kernel) ?_
  refine V_lconst 3 rfl (show decode M_Model_isMile.2.1 2 = .ok (.lconst 0, 1) by decide +kernel) (v := 0) rfl ?_
  refine V_aload_n 4 rfl (show decode M_Model_isMile.2.1 3 = .ok (.aload_n 0, 1) by decide +kernel) 0 rfl ?_
  refine V_get (j := 0) (v := vR (SR σ h0 0)) 7 rfl ck_Model (by decide) (by decide) (show decode M_Model_isMile.2.1 4 = .ok (.getfield 7, 3) by decide +kernel) wd_1504 rfl ?_
  refine V_iconst 8 rfl (show decode M_Model_isMile.2.1 7 = .ok (.iconst 1, 1) by decide +kernel) (v := 1) rfl ?_
  refine V_ald_int 9 rfl (show decode M_Model_isMile.2.1 8 = .ok (.iaload, 1) by decide +kernel) ?_
  refine V_i2l 10 rfl (show decode M_Model_isMile.2.1 9 = .ok (.i2l, 1) by decide +kernel) ?_
  refine V_callS (tb := tI) (as := [vL ((x1).toInt64), vL (0 : Int64), vL (((SI σ (SR σ h0 0) (ix (1 : Int32)))).toInt64)]) (rest := []) (na := 3) 13 rfl (s_Model_isIn ((x1).toInt64) (0 : Int64) (((SI σ (SR σ h0 0) (ix (1 : Int32)))).toInt64) ((b && cK σ h0 13) && cA σ (SR σ h0 0) 21 (1 : Int32)) σ) rfl rfl (Nat.le_of_ble_eq_true rfl) (cal_Model_isIn _ _ _ _ _ (by decide) (by decide) (by decide)) (show decode M_Model_isMile.2.1 10 = .ok (.invokestatic 76, 3) by decide +kernel) wd_1617 wd_1618 (fun r_1 b_1 σ_1 => ?_)
  show V M_Model_isMile 2 0 0 0 0 tI _ 13 [(0, vR h0), (1, vI x1)] [vI r_1] b_1 σ_1
  exact V_zretc rfl (by decide) (by decide) (show decode M_Model_isMile.2.1 13 = .ok (.ireturn, 1) by decide +kernel)
theorem cal_Model_isMile (d mc ms k n : Nat) (h1 : 2 + 1 ≤ d) (h2 : k + 0 ≤ mc) (h3 : n + 0 ≤ ms) : Cal M_Model_isMile 2 0 0 1 d mc ms k n := ⟨wd_1651, wd_181, by decide, h1, by decide, h2, h3⟩
abbrev M_Model_burns : MD := (⟨"LongTrailModel", "burns", "(I)I"⟩, prog_14_method_33_code, 4, (some FieldType.int))
def b_Model_burns_15 (h0 : Nat) (x1 : Int32) (L15 : Int32 → Int32 → Bool → Sto → Rs Int32) (x2 : Int32) (x3 : Int32) (b : Bool) (σ : Sto) : Rs Int32 := (if x3 < (SI σ (SR σ h0 0) (ix (3 : Int32))) then (lt_ (fun (s0_78 : Int32) (b : Bool) (σ : Sto) => (lt_ s0_78 (fun (x2_4 : Int32) => (lt_ (x3 + (1 : Int32)) (fun (x3_5 : Int32) => (L15 x2_4 x3_5 b σ)))))) (fun J78 => (lt_ (fun (b : Bool) (σ : Sto) => (J78 (1 : Int32) b σ)) (fun J73 => (if x2 = 0 then (bd_ (f_Model_isOn h0 x3 (((b && cK σ h0 13) && cA σ (SR σ h0 0) 21 (3 : Int32)) && cK σ h0 13) σ) (fun (r_6 : Int32) (b_6 : Bool) (σ_6 : Sto) => (lt_ (fun (b : Bool) (σ : Sto) => (J78 (0 : Int32) b σ)) (fun J77 => (if r_6 = 0 then (J77 b_6 σ_6) else (bd_ (f_Model_fireAt h0 x3 ((b_6 && cK σ_6 h0 13) && cK σ_6 h0 13) σ_6) (fun (r_7 : Int32) (b_7 : Bool) (σ_7 : Sto) => (bd_ (f_Model_fireAt h0 x3 (((b_7 && cA σ_7 (SR σ_6 h0 0) 21 (r_7 + (0 : Int32))) && cK σ_7 h0 13) && cK σ_7 h0 13) σ_7) (fun (r_8 : Int32) (b_8 : Bool) (σ_8 : Sto) => (bd_ (f_Model_isIn ((x1).toInt64) (((SI σ_7 (SR σ_6 h0 0) (ix (r_7 + (0 : Int32))))).toInt64) ((((SI σ_8 (SR σ_7 h0 0) (ix (r_8 + (1 : Int32)))) - (1 : Int32))).toInt64) (b_8 && cA σ_8 (SR σ_7 h0 0) 21 (r_8 + (1 : Int32))) σ_8) (fun (r_9 : Int32) (b_9 : Bool) (σ_9 : Sto) => (if r_9 = 0 then (J77 b_9 σ_9) else (J73 b_9 σ_9))))))))))))) else (J73 ((b && cK σ h0 13) && cA σ (SR σ h0 0) 21 (3 : Int32)) σ)))))) else (if x2 = 0 then ((0 : Int32), ((b && cK σ h0 13) && cA σ (SR σ h0 0) 21 (3 : Int32)), σ) else ((1 : Int32), ((b && cK σ h0 13) && cA σ (SR σ h0 0) 21 (3 : Int32)), σ)))
def f_Model_burns (h0 : Nat) (x1 : Int32) (b : Bool) (σ : Sto) : Rs Int32 := (bd_ (f_Model_isMile h0 x1 (b && cK σ h0 13) σ) (fun (r_1 : Int32) (b_1 : Bool) (σ_1 : Sto) => (if r_1 = 0 then ((-1000000001 : Int32), b_1, σ_1) else (lt_ (0 : Int32) (fun (x2_2 : Int32) => (lt_ (0 : Int32) (fun (x3_3 : Int32) => (lp_ (b_Model_burns_15 h0 x1) (fun (x2 : Int32) (x3 : Int32) (b : Bool) (σ : Sto) => (0, false, σ)) fuel_ x2_2 x3_3 b_1 σ_1))))))))
set_option maxRecDepth 100000 in
set_option maxHeartbeats 4000000 in
theorem s_Model_burns : ∀ (h0 : Nat) (x1 : Int32) (b : Bool) (σ : Sto), Snd M_Model_burns 3 0 0 [vR h0, vI x1] b σ (tI (f_Model_burns h0 x1 b σ).1) (f_Model_burns h0 x1 b σ).2.1 (f_Model_burns h0 x1 b σ).2.2 := by
  intro h0 x1 b σ
  refine Snd_of (tv := tI) (by decide) (Nat.le_of_ble_eq_true rfl) ?_
  show V M_Model_burns 3 0 0 0 0 tI (f_Model_burns h0 x1 b σ) 0 [(0, vR h0), (1, vI x1)] [] b σ
  unfold f_Model_burns
  refine V_aload_n 1 rfl (show decode M_Model_burns.2.1 0 = .ok (.aload_n 0, 1) by decide +kernel) 0 rfl ?_
  refine V_iload_n 2 rfl (show decode M_Model_burns.2.1 1 = .ok (.iload_n 1, 1) by decide +kernel) 1 rfl ?_
  refine V_callV (tb := tI) (as := [vI x1]) (rest := []) (na := 1) 5 rfl ck_Model (by decide) (s_Model_isMile h0 x1 (b && cK σ h0 13) σ) rfl rfl (Nat.le_of_ble_eq_true rfl) (cal_Model_isMile _ _ _ _ _ (by decide) (by decide) (by decide)) (show decode M_Model_burns.2.1 2 = .ok (.invokevirtual 113, 3) by decide +kernel) wd_1648 wd_1650 wd_116 (fun r_1 b_1 σ_1 => ?_)
  show V M_Model_burns 3 0 0 0 0 tI _ 5 [(0, vR h0), (1, vI x1)] [vI r_1] b_1 σ_1
  refine V_ifne 8 11 rfl (show decode M_Model_burns.2.1 5 = .ok (.ifCond .ne 6, 3) by decide +kernel) rfl ?_ ?_
  · skip
    refine V_ldc 10 rfl (show decode M_Model_burns.2.1 8 = .ok (.ldc 91, 2) by decide +kernel) wd_1620 ?_
    exact V_iret rfl (by decide) (by decide) (show decode M_Model_burns.2.1 10 = .ok (.ireturn, 1) by decide +kernel)
  · skip
    refine V_iconst 12 rfl (show decode M_Model_burns.2.1 11 = .ok (.iconst 0, 1) by decide +kernel) (v := 0) rfl ?_
    refine V_istore_n (fun x2_2 => [(2, vI x2_2), (0, vR h0), (1, vI x1)]) 13 rfl (show decode M_Model_burns.2.1 12 = .ok (.istore_n 2, 1) by decide +kernel) (by decide) (fun _ => rfl) (fun x2_2 => ?_)
    refine V_iconst 14 rfl (show decode M_Model_burns.2.1 13 = .ok (.iconst 0, 1) by decide +kernel) (v := 0) rfl ?_
    refine V_istore_n (fun x3_3 => [(3, vI x3_3), (2, vI x2_2), (0, vR h0), (1, vI x1)]) 15 rfl (show decode M_Model_burns.2.1 14 = .ok (.istore_n 3, 1) by decide +kernel) (by decide) (fun _ => rfl) (fun x3_3 => ?_)
    refine V_sub [2, 3, 1, 0] rfl ?_
    refine lp_P (fun (L15 : Int32 → Int32 → Bool → Sto → Rs Int32) => ∀ (x2 : Int32) (x3 : Int32) (b : Bool) (σ : Sto), V M_Model_burns 3 0 0 0 0 tI (L15 x2 x3 b σ) 15 [(0, vR h0), (1, vI x1), (2, vI x2), (3, vI x3)] [] b σ) ?_ ?_ fuel_ x2_2 x3_3 b_1 σ_1
    · intro x2 x3 b σ; exact V_bad
    · intro L15 hL15 x2 x3 b σ
      unfold b_Model_burns_15
      refine V_iload_n 16 rfl (show decode M_Model_burns.2.1 15 = .ok (.iload_n 3, 1) by decide +kernel) 3 rfl ?_
      refine V_aload_n 17 rfl (show decode M_Model_burns.2.1 16 = .ok (.aload_n 0, 1) by decide +kernel) 0 rfl ?_
      refine V_get (j := 0) (v := vR (SR σ h0 0)) 20 rfl ck_Model (by decide) (by decide) (show decode M_Model_burns.2.1 17 = .ok (.getfield 7, 3) by decide +kernel) wd_1504 rfl ?_
      refine V_iconst 21 rfl (show decode M_Model_burns.2.1 20 = .ok (.iconst 3, 1) by decide +kernel) (v := 3) rfl ?_
      refine V_ald_int 22 rfl (show decode M_Model_burns.2.1 21 = .ok (.iaload, 1) by decide +kernel) ?_
      refine V_icmpge 25 85 rfl (show decode M_Model_burns.2.1 22 = .ok (.if_icmp .ge 63, 3) by decide +kernel) rfl ?_ ?_
      · skip
        refine V_iload_n 26 rfl (show decode M_Model_burns.2.1 25 = .ok (.iload_n 2, 1) by decide +kernel) 2 rfl ?_
        refine V_jn (fun (J78 : Int32 → Bool → Sto → Rs Int32) => ∀ (s0_78 : Int32) (b : Bool) (σ : Sto), V M_Model_burns 3 0 0 0 0 tI (J78 s0_78 b σ) 78 [(0, vR h0), (1, vI x1), (3, vI x3)] [vI s0_78] b σ) ?_ (fun J78 hJ78 => ?_)
        · intro s0_78 b σ
          refine V_istore_n (fun x2_4 => [(2, vI x2_4), (0, vR h0), (1, vI x1), (3, vI x3)]) 79 rfl (show decode M_Model_burns.2.1 78 = .ok (.istore_n 2, 1) by decide +kernel) (by decide) (fun _ => rfl) (fun x2_4 => ?_)
          refine V_iinc (fun x3_5 => [(3, vI x3_5), (2, vI x2_4), (0, vR h0), (1, vI x1)]) 82 rfl (show decode M_Model_burns.2.1 79 = .ok (.iinc 3 1, 3) by decide +kernel) 3 rfl (w := 1) rfl (by decide) (fun _ => rfl) (fun x3_5 => ?_)
          refine V_goto 15 (show decode M_Model_burns.2.1 82 = .ok (.goto (-67), 3) by decide +kernel) rfl ?_
          exact V_sub [2, 3, 1, 0] rfl (hL15 x2_4 x3_5 b σ)
        · skip
          refine V_jn (fun (J73 : Bool → Sto → Rs Int32) => ∀ (b : Bool) (σ : Sto), V M_Model_burns 3 0 0 0 0 tI (J73 b σ) 73 [(0, vR h0), (1, vI x1), (3, vI x3)] [] b σ) ?_ (fun J73 hJ73 => ?_)
          · intro b σ
            refine V_iconst 74 rfl (show decode M_Model_burns.2.1 73 = .ok (.iconst 1, 1) by decide +kernel) (v := 1) rfl ?_
            refine V_goto 78 (show decode M_Model_burns.2.1 74 = .ok (.goto 4, 3) by decide +kernel) rfl ?_
            exact V_sub [0, 1, 2] rfl (hJ78 (1 : Int32) b σ)
          · skip
            refine V_ifne 29 73 rfl (show decode M_Model_burns.2.1 26 = .ok (.ifCond .ne 47, 3) by decide +kernel) rfl ?_ ?_
            · skip
              refine V_aload_n 30 rfl (show decode M_Model_burns.2.1 29 = .ok (.aload_n 0, 1) by decide +kernel) 0 rfl ?_
              refine V_iload_n 31 rfl (show decode M_Model_burns.2.1 30 = .ok (.iload_n 3, 1) by decide +kernel) 3 rfl ?_
              refine V_callV (tb := tI) (as := [vI x3]) (rest := []) (na := 1) 34 rfl ck_Model (by decide) (s_Model_isOn h0 x3 (((b && cK σ h0 13) && cA σ (SR σ h0 0) 21 (3 : Int32)) && cK σ h0 13) σ) rfl rfl (Nat.le_of_ble_eq_true rfl) (cal_Model_isOn _ _ _ _ _ (by decide) (by decide) (by decide)) (show decode M_Model_burns.2.1 31 = .ok (.invokevirtual 149, 3) by decide +kernel) wd_1723 wd_1725 wd_125 (fun r_6 b_6 σ_6 => ?_)
              show V M_Model_burns 3 0 0 0 0 tI _ 34 [(0, vR h0), (1, vI x1), (2, vI x2), (3, vI x3)] [vI r_6] b_6 σ_6
              refine V_jn (fun (J77 : Bool → Sto → Rs Int32) => ∀ (b : Bool) (σ : Sto), V M_Model_burns 3 0 0 0 0 tI (J77 b σ) 77 [(0, vR h0), (1, vI x1), (3, vI x3)] [] b σ) ?_ (fun J77 hJ77 => ?_)
              · intro b σ
                refine V_iconst 78 rfl (show decode M_Model_burns.2.1 77 = .ok (.iconst 0, 1) by decide +kernel) (v := 0) rfl ?_
                exact V_sub [0, 1, 2] rfl (hJ78 (0 : Int32) b σ)
              · skip
                refine V_ifeq 37 77 rfl (show decode M_Model_burns.2.1 34 = .ok (.ifCond .eq 43, 3) by decide +kernel) rfl ?_ ?_
                · skip
                  exact V_sub [0, 1, 3] rfl (hJ77 b_6 σ_6)
                · skip
                  refine V_iload_n 38 rfl (show decode M_Model_burns.2.1 37 = .ok (.iload_n 1, 1) by decide +kernel) 1 rfl ?_
                  refine V_i2l 39 rfl (show decode M_Model_burns.2.1 38 = .ok (.i2l, 1) by decide +kernel) ?_
                  refine V_aload_n 40 rfl (show decode M_Model_burns.2.1 39 = .ok (.aload_n 0, 1) by decide +kernel) 0 rfl ?_
                  refine V_get (j := 0) (v := vR (SR σ_6 h0 0)) 43 rfl ck_Model (by decide) (by decide) (show decode M_Model_burns.2.1 40 = .ok (.getfield 7, 3) by decide +kernel) wd_1504 rfl ?_
                  refine V_aload_n 44 rfl (show decode M_Model_burns.2.1 43 = .ok (.aload_n 0, 1) by decide +kernel) 0 rfl ?_
                  refine V_iload_n 45 rfl (show decode M_Model_burns.2.1 44 = .ok (.iload_n 3, 1) by decide +kernel) 3 rfl ?_
                  refine V_callV (tb := tI) (as := [vI x3]) (rest := [vR (SR σ_6 h0 0), vL ((x1).toInt64)]) (na := 1) 48 rfl ck_Model (by decide) (s_Model_fireAt h0 x3 ((b_6 && cK σ_6 h0 13) && cK σ_6 h0 13) σ_6) rfl rfl (Nat.le_of_ble_eq_true rfl) (cal_Model_fireAt _ _ _ _ _ (by decide) (by decide) (by decide)) (show decode M_Model_burns.2.1 45 = .ok (.invokevirtual 95, 3) by decide +kernel) wd_1629 wd_1631 wd_114 (fun r_7 b_7 σ_7 => ?_)
                  show V M_Model_burns 3 0 0 0 0 tI _ 48 [(0, vR h0), (1, vI x1), (2, vI x2), (3, vI x3)] [vI r_7, vR (SR σ_6 h0 0), vL ((x1).toInt64)] b_7 σ_7
                  refine V_iconst 49 rfl (show decode M_Model_burns.2.1 48 = .ok (.iconst 0, 1) by decide +kernel) (v := 0) rfl ?_
                  refine V_iadd 50 rfl (show decode M_Model_burns.2.1 49 = .ok (.iadd, 1) by decide +kernel) ?_
                  refine V_ald_int 51 rfl (show decode M_Model_burns.2.1 50 = .ok (.iaload, 1) by decide +kernel) ?_
                  refine V_i2l 52 rfl (show decode M_Model_burns.2.1 51 = .ok (.i2l, 1) by decide +kernel) ?_
                  refine V_aload_n 53 rfl (show decode M_Model_burns.2.1 52 = .ok (.aload_n 0, 1) by decide +kernel) 0 rfl ?_
                  refine V_get (j := 0) (v := vR (SR σ_7 h0 0)) 56 rfl ck_Model (by decide) (by decide) (show decode M_Model_burns.2.1 53 = .ok (.getfield 7, 3) by decide +kernel) wd_1504 rfl ?_
                  refine V_aload_n 57 rfl (show decode M_Model_burns.2.1 56 = .ok (.aload_n 0, 1) by decide +kernel) 0 rfl ?_
                  refine V_iload_n 58 rfl (show decode M_Model_burns.2.1 57 = .ok (.iload_n 3, 1) by decide +kernel) 3 rfl ?_
                  refine V_callV (tb := tI) (as := [vI x3]) (rest := [vR (SR σ_7 h0 0), vL (((SI σ_7 (SR σ_6 h0 0) (ix (r_7 + (0 : Int32))))).toInt64), vL ((x1).toInt64)]) (na := 1) 61 rfl ck_Model (by decide) (s_Model_fireAt h0 x3 (((b_7 && cA σ_7 (SR σ_6 h0 0) 21 (r_7 + (0 : Int32))) && cK σ_7 h0 13) && cK σ_7 h0 13) σ_7) rfl rfl (Nat.le_of_ble_eq_true rfl) (cal_Model_fireAt _ _ _ _ _ (by decide) (by decide) (by decide)) (show decode M_Model_burns.2.1 58 = .ok (.invokevirtual 95, 3) by decide +kernel) wd_1629 wd_1631 wd_114 (fun r_8 b_8 σ_8 => ?_)
                  show V M_Model_burns 3 0 0 0 0 tI _ 61 [(0, vR h0), (1, vI x1), (2, vI x2), (3, vI x3)] [vI r_8, vR (SR σ_7 h0 0), vL (((SI σ_7 (SR σ_6 h0 0) (ix (r_7 + (0 : Int32))))).toInt64), vL ((x1).toInt64)] b_8 σ_8
                  refine V_iconst 62 rfl (show decode M_Model_burns.2.1 61 = .ok (.iconst 1, 1) by decide +kernel) (v := 1) rfl ?_
                  refine V_iadd 63 rfl (show decode M_Model_burns.2.1 62 = .ok (.iadd, 1) by decide +kernel) ?_
                  refine V_ald_int 64 rfl (show decode M_Model_burns.2.1 63 = .ok (.iaload, 1) by decide +kernel) ?_
                  refine V_iconst 65 rfl (show decode M_Model_burns.2.1 64 = .ok (.iconst 1, 1) by decide +kernel) (v := 1) rfl ?_
                  refine V_isub 66 rfl (show decode M_Model_burns.2.1 65 = .ok (.isub, 1) by decide +kernel) ?_
                  refine V_i2l 67 rfl (show decode M_Model_burns.2.1 66 = .ok (.i2l, 1) by decide +kernel) ?_
                  refine V_callS (tb := tI) (as := [vL ((x1).toInt64), vL (((SI σ_7 (SR σ_6 h0 0) (ix (r_7 + (0 : Int32))))).toInt64), vL ((((SI σ_8 (SR σ_7 h0 0) (ix (r_8 + (1 : Int32)))) - (1 : Int32))).toInt64)]) (rest := []) (na := 3) 70 rfl (s_Model_isIn ((x1).toInt64) (((SI σ_7 (SR σ_6 h0 0) (ix (r_7 + (0 : Int32))))).toInt64) ((((SI σ_8 (SR σ_7 h0 0) (ix (r_8 + (1 : Int32)))) - (1 : Int32))).toInt64) (b_8 && cA σ_8 (SR σ_7 h0 0) 21 (r_8 + (1 : Int32))) σ_8) rfl rfl (Nat.le_of_ble_eq_true rfl) (cal_Model_isIn _ _ _ _ _ (by decide) (by decide) (by decide)) (show decode M_Model_burns.2.1 67 = .ok (.invokestatic 76, 3) by decide +kernel) wd_1617 wd_1618 (fun r_9 b_9 σ_9 => ?_)
                  show V M_Model_burns 3 0 0 0 0 tI _ 70 [(0, vR h0), (1, vI x1), (2, vI x2), (3, vI x3)] [vI r_9] b_9 σ_9
                  refine V_ifeq 73 77 rfl (show decode M_Model_burns.2.1 70 = .ok (.ifCond .eq 7, 3) by decide +kernel) rfl ?_ ?_
                  · skip
                    exact V_sub [0, 1, 3] rfl (hJ77 b_9 σ_9)
                  · skip
                    exact V_sub [0, 1, 3] rfl (hJ73 b_9 σ_9)
            · skip
              exact V_sub [0, 1, 3] rfl (hJ73 ((b && cK σ h0 13) && cA σ (SR σ h0 0) 21 (3 : Int32)) σ)
      · skip
        refine V_iload_n 86 rfl (show decode M_Model_burns.2.1 85 = .ok (.iload_n 2, 1) by decide +kernel) 2 rfl ?_
        refine V_ifeq 89 93 rfl (show decode M_Model_burns.2.1 86 = .ok (.ifCond .eq 7, 3) by decide +kernel) rfl ?_ ?_
        · skip
          refine V_iconst 94 rfl (show decode M_Model_burns.2.1 93 = .ok (.iconst 0, 1) by decide +kernel) (v := 0) rfl ?_
          exact V_iret rfl (by decide) (by decide) (show decode M_Model_burns.2.1 94 = .ok (.ireturn, 1) by decide +kernel)
        · skip
          refine V_iconst 90 rfl (show decode M_Model_burns.2.1 89 = .ok (.iconst 1, 1) by decide +kernel) (v := 1) rfl ?_
          refine V_goto 94 (show decode M_Model_burns.2.1 90 = .ok (.goto 4, 3) by decide +kernel) rfl ?_
          exact V_iret rfl (by decide) (by decide) (show decode M_Model_burns.2.1 94 = .ok (.ireturn, 1) by decide +kernel)
theorem cal_Model_burns (d mc ms k n : Nat) (h1 : 3 + 1 ≤ d) (h2 : k + 0 ≤ mc) (h3 : n + 0 ≤ ms) : Cal M_Model_burns 3 0 0 1 d mc ms k n := ⟨wd_1722, wd_181, by decide, h1, by decide, h2, h3⟩
