/-! methods -/
abbrev M_Supply_addRide : MD := (⟨"LongTrail$Supply", "addRide", "(III)I"⟩, prog_8_method_3_code, 4, (some FieldType.int))
def f_Supply_addRide (h0 : Nat) (x1 : Int32) (x2 : Int32) (x3 : Int32) (b : Bool) (σ : Sto) : Rs Int32 := (lt_ (pI σ (SR σ h0 1) (ix (SI σ h0 4)) x1) (fun (σ_1 : Sto) => (lt_ (pI σ_1 (SR σ_1 h0 2) (ix (SI σ_1 h0 4)) x2) (fun (σ_2 : Sto) => (lt_ (pI σ_2 (SR σ_2 h0 3) (ix (SI σ_2 h0 4)) x3) (fun (σ_3 : Sto) => (lt_ (pI σ_3 h0 4 ((SI σ_3 h0 4) + (1 : Int32))) (fun (σ_4 : Sto) => (((SI σ_4 h0 4) - (1 : Int32)), ((((((((((((b && cK σ h0 7) && cK σ h0 7) && cA σ (SR σ h0 1) 21 (SI σ h0 4)) && cK σ_1 h0 7) && cK σ_1 h0 7) && cA σ_1 (SR σ_1 h0 2) 21 (SI σ_1 h0 4)) && cK σ_2 h0 7) && cK σ_2 h0 7) && cA σ_2 (SR σ_2 h0 3) 21 (SI σ_2 h0 4)) && cK σ_3 h0 7) && cK σ_3 h0 7) && cK σ_4 h0 7), σ_4)))))))))
set_option maxRecDepth 100000 in
set_option maxHeartbeats 4000000 in
theorem s_Supply_addRide : ∀ (h0 : Nat) (x1 : Int32) (x2 : Int32) (x3 : Int32) (b : Bool) (σ : Sto), Snd M_Supply_addRide 1 0 0 [vR h0, vI x1, vI x2, vI x3] b σ (tI (f_Supply_addRide h0 x1 x2 x3 b σ).1) (f_Supply_addRide h0 x1 x2 x3 b σ).2.1 (f_Supply_addRide h0 x1 x2 x3 b σ).2.2 := by
  intro h0 x1 x2 x3 b σ
  refine Snd_of (tv := tI) (by decide) (Nat.le_of_ble_eq_true rfl) ?_
  show V M_Supply_addRide 1 0 0 0 0 tI (f_Supply_addRide h0 x1 x2 x3 b σ) 0 [(0, vR h0), (1, vI x1), (2, vI x2), (3, vI x3)] [] b σ
  unfold f_Supply_addRide
  refine V_aload_n 1 rfl (show decode M_Supply_addRide.2.1 0 = .ok (.aload_n 0, 1) by decide +kernel) 0 rfl ?_
  refine V_get (j := 1) (v := vR (SR σ h0 1)) 4 rfl ck_Supply (by decide) (by decide) (show decode M_Supply_addRide.2.1 1 = .ok (.getfield 15, 3) by decide +kernel) wd_361 rfl ?_
  refine V_aload_n 5 rfl (show decode M_Supply_addRide.2.1 4 = .ok (.aload_n 0, 1) by decide +kernel) 0 rfl ?_
  refine V_get (j := 4) (v := vI (SI σ h0 4)) 8 rfl ck_Supply (by decide) (by decide) (show decode M_Supply_addRide.2.1 5 = .ok (.getfield 43, 3) by decide +kernel) wd_364 rfl ?_
  refine V_iload_n 9 rfl (show decode M_Supply_addRide.2.1 8 = .ok (.iload_n 1, 1) by decide +kernel) 1 rfl ?_
  refine V_ast_int 10 rfl (show decode M_Supply_addRide.2.1 9 = .ok (.iastore, 1) by decide +kernel) (fun σ_1 => ?_)
  refine V_aload_n 11 rfl (show decode M_Supply_addRide.2.1 10 = .ok (.aload_n 0, 1) by decide +kernel) 0 rfl ?_
  refine V_get (j := 2) (v := vR (SR σ_1 h0 2)) 14 rfl ck_Supply (by decide) (by decide) (show decode M_Supply_addRide.2.1 11 = .ok (.getfield 19, 3) by decide +kernel) wd_362 rfl ?_
  refine V_aload_n 15 rfl (show decode M_Supply_addRide.2.1 14 = .ok (.aload_n 0, 1) by decide +kernel) 0 rfl ?_
  refine V_get (j := 4) (v := vI (SI σ_1 h0 4)) 18 rfl ck_Supply (by decide) (by decide) (show decode M_Supply_addRide.2.1 15 = .ok (.getfield 43, 3) by decide +kernel) wd_364 rfl ?_
  refine V_iload_n 19 rfl (show decode M_Supply_addRide.2.1 18 = .ok (.iload_n 2, 1) by decide +kernel) 2 rfl ?_
  refine V_ast_int 20 rfl (show decode M_Supply_addRide.2.1 19 = .ok (.iastore, 1) by decide +kernel) (fun σ_2 => ?_)
  refine V_aload_n 21 rfl (show decode M_Supply_addRide.2.1 20 = .ok (.aload_n 0, 1) by decide +kernel) 0 rfl ?_
  refine V_get (j := 3) (v := vR (SR σ_2 h0 3)) 24 rfl ck_Supply (by decide) (by decide) (show decode M_Supply_addRide.2.1 21 = .ok (.getfield 22, 3) by decide +kernel) wd_363 rfl ?_
  refine V_aload_n 25 rfl (show decode M_Supply_addRide.2.1 24 = .ok (.aload_n 0, 1) by decide +kernel) 0 rfl ?_
  refine V_get (j := 4) (v := vI (SI σ_2 h0 4)) 28 rfl ck_Supply (by decide) (by decide) (show decode M_Supply_addRide.2.1 25 = .ok (.getfield 43, 3) by decide +kernel) wd_364 rfl ?_
  refine V_iload_n 29 rfl (show decode M_Supply_addRide.2.1 28 = .ok (.iload_n 3, 1) by decide +kernel) 3 rfl ?_
  refine V_ast_int 30 rfl (show decode M_Supply_addRide.2.1 29 = .ok (.iastore, 1) by decide +kernel) (fun σ_3 => ?_)
  refine V_aload_n 31 rfl (show decode M_Supply_addRide.2.1 30 = .ok (.aload_n 0, 1) by decide +kernel) 0 rfl ?_
  refine V_dup 32 rfl (show decode M_Supply_addRide.2.1 31 = .ok (.dup, 1) by decide +kernel) rfl ?_
  refine V_get (j := 4) (v := vI (SI σ_3 h0 4)) 35 rfl ck_Supply (by decide) (by decide) (show decode M_Supply_addRide.2.1 32 = .ok (.getfield 43, 3) by decide +kernel) wd_364 rfl ?_
  refine V_iconst 36 rfl (show decode M_Supply_addRide.2.1 35 = .ok (.iconst 1, 1) by decide +kernel) (v := 1) rfl ?_
  refine V_iadd 37 rfl (show decode M_Supply_addRide.2.1 36 = .ok (.iadd, 1) by decide +kernel) ?_
  refine V_putI (j := 4) 40 rfl ck_Supply (by decide) (by decide) (show decode M_Supply_addRide.2.1 37 = .ok (.putfield 43, 3) by decide +kernel) wd_364 rfl (fun _ => rfl) rfl rfl (fun σ_4 => ?_)
  refine V_aload_n 41 rfl (show decode M_Supply_addRide.2.1 40 = .ok (.aload_n 0, 1) by decide +kernel) 0 rfl ?_
  refine V_get (j := 4) (v := vI (SI σ_4 h0 4)) 44 rfl ck_Supply (by decide) (by decide) (show decode M_Supply_addRide.2.1 41 = .ok (.getfield 43, 3) by decide +kernel) wd_364 rfl ?_
  refine V_iconst 45 rfl (show decode M_Supply_addRide.2.1 44 = .ok (.iconst 1, 1) by decide +kernel) (v := 1) rfl ?_
  refine V_isub 46 rfl (show decode M_Supply_addRide.2.1 45 = .ok (.isub, 1) by decide +kernel) ?_
  exact V_iret rfl (by decide) (by decide) (show decode M_Supply_addRide.2.1 46 = .ok (.ireturn, 1) by decide +kernel)
theorem cal_Supply_addRide (d mc ms k n : Nat) (h1 : 1 + 1 ≤ d) (h2 : k + 0 ≤ mc) (h3 : n + 0 ≤ ms) : Cal M_Supply_addRide 1 0 0 3 d mc ms k n := ⟨wd_1346, wd_176, by decide, h1, by decide, h2, h3⟩
abbrev M_Trail_ride : MD := (⟨"LongTrail", "ride", "(III)I"⟩, prog_1_method_33_code, 5, (some FieldType.int))
def f_Trail_ride (h0 : Nat) (x1 : Int32) (x2 : Int32) (x3 : Int32) (b : Bool) (σ : Sto) : Rs Int32 := (lt_ (SR σ (SR σ h0 0) 0) (fun (h4_1 : Nat) => (bd_ (f_Ground_hasPlace h4_1 x1 (((b && cK σ h0 12) && cK σ (SR σ h0 0) 11) && cK σ h4_1 2) σ) (fun (r_2 : Int32) (b_2 : Bool) (σ_2 : Sto) => (lt_ (fun (b : Bool) (σ : Sto) => ((-1000000001 : Int32), b, σ)) (fun J43 => (if r_2 = 0 then (J43 b_2 σ_2) else (bd_ (f_Ground_hasPlace h4_1 x2 (b_2 && cK σ_2 h4_1 2) σ_2) (fun (r_3 : Int32) (b_3 : Bool) (σ_3 : Sto) => (if r_3 = 0 then (J43 b_3 σ_3) else (if x1 = x2 then (J43 b_3 σ_3) else (bd_ (f_Trail_within x3 (1 : Int32) (999 : Int32) b_3 σ_3) (fun (r_4 : Int32) (b_4 : Bool) (σ_4 : Sto) => (if r_4 = 0 then (J43 b_4 σ_4) else (bd_ (f_Ground_isTown h4_1 x1 (b_4 && cK σ_4 h4_1 2) σ_4) (fun (r_5 : Int32) (b_5 : Bool) (σ_5 : Sto) => (lt_ (fun (b : Bool) (σ : Sto) => ((-1000000012 : Int32), b, σ)) (fun J64 => (if r_5 = 0 then (J64 b_5 σ_5) else (bd_ (f_Ground_isTown h4_1 x2 (b_5 && cK σ_5 h4_1 2) σ_5) (fun (r_6 : Int32) (b_6 : Bool) (σ_6 : Sto) => (if r_6 = 0 then (J64 b_6 σ_6) else (if (SI σ_6 (SR σ_6 (SR σ_6 h0 0) 4) 4) < (12 : Int32) then (bd_ (f_Supply_addRide (SR σ_6 (SR σ_6 h0 0) 4) x1 x2 x3 ((((((b_6 && cK σ_6 h0 12) && cK σ_6 (SR σ_6 h0 0) 11) && cK σ_6 (SR σ_6 (SR σ_6 h0 0) 4) 7) && cK σ_6 h0 12) && cK σ_6 (SR σ_6 h0 0) 11) && cK σ_6 (SR σ_6 (SR σ_6 h0 0) 4) 7) σ_6) (fun (r_7 : Int32) (b_7 : Bool) (σ_7 : Sto) => (r_7, b_7, σ_7))) else ((-1000000003 : Int32), (((b_6 && cK σ_6 h0 12) && cK σ_6 (SR σ_6 h0 0) 11) && cK σ_6 (SR σ_6 (SR σ_6 h0 0) 4) 7), σ_6))))))))))))))))))))))))
set_option maxRecDepth 100000 in
set_option maxHeartbeats 4000000 in
theorem s_Trail_ride : ∀ (h0 : Nat) (x1 : Int32) (x2 : Int32) (x3 : Int32) (b : Bool) (σ : Sto), Snd M_Trail_ride 3 0 0 [vR h0, vI x1, vI x2, vI x3] b σ (tI (f_Trail_ride h0 x1 x2 x3 b σ).1) (f_Trail_ride h0 x1 x2 x3 b σ).2.1 (f_Trail_ride h0 x1 x2 x3 b σ).2.2 := by
  intro h0 x1 x2 x3 b σ
  refine Snd_of (tv := tI) (by decide) (Nat.le_of_ble_eq_true rfl) ?_
  show V M_Trail_ride 3 0 0 0 0 tI (f_Trail_ride h0 x1 x2 x3 b σ) 0 [(0, vR h0), (1, vI x1), (2, vI x2), (3, vI x3)] [] b σ
  unfold f_Trail_ride
  refine V_aload_n 1 rfl (show decode M_Trail_ride.2.1 0 = .ok (.aload_n 0, 1) by decide +kernel) 0 rfl ?_
  refine V_get (j := 0) (v := vR (SR σ h0 0)) 4 rfl ck_Trail (by decide) (by decide) (show decode M_Trail_ride.2.1 1 = .ok (.getfield 10, 3) by decide +kernel) wd_599 rfl ?_
  refine V_getN (j := 0) (v := vR (SR σ (SR σ h0 0) 0)) 7 rfl ck_World (by decide) (by decide) (show decode M_Trail_ride.2.1 4 = .ok (.getfield 49, 3) by decide +kernel) wd_498 rfl ?_
  refine V_astore (fun h4_1 => [(4, vR h4_1), (0, vR h0), (1, vI x1), (2, vI x2), (3, vI x3)]) 9 rfl (show decode M_Trail_ride.2.1 7 = .ok (.astore 4, 2) by decide +kernel) (by decide) (fun _ => rfl) (fun h4_1 => ?_)
  refine V_aload 11 rfl (show decode M_Trail_ride.2.1 9 = .ok (.aload 4, 2) by decide +kernel) 0 rfl ?_
  refine V_iload_n 12 rfl (show decode M_Trail_ride.2.1 11 = .ok (.iload_n 1, 1) by decide +kernel) 2 rfl ?_
  refine V_callVN (tb := tI) (as := [vI x1]) (rest := []) (na := 1) 15 rfl ck_Ground (by decide) (s_Ground_hasPlace h4_1 x1 (((b && cK σ h0 12) && cK σ (SR σ h0 0) 11) && cK σ h4_1 2) σ) rfl rfl (Nat.le_of_ble_eq_true rfl) (cal_Ground_hasPlace _ _ _ _ _ (by decide) (by decide) (by decide)) (show decode M_Trail_ride.2.1 12 = .ok (.invokevirtual 89, 3) by decide +kernel) wd_666 wd_668 wd_5 (fun r_2 b_2 σ_2 => ?_)
  show V M_Trail_ride 3 0 0 0 0 tI _ 15 [(4, vR h4_1), (0, vR h0), (1, vI x1), (2, vI x2), (3, vI x3)] [vI r_2] b_2 σ_2
  refine V_jn (fun (J43 : Bool → Sto → Rs Int32) => ∀ (b : Bool) (σ : Sto), V M_Trail_ride 3 0 0 0 0 tI (J43 b σ) 43 [] [] b σ) ?_ (fun J43 hJ43 => ?_)
  · intro b σ
    refine V_ldc 45 rfl (show decode M_Trail_ride.2.1 43 = .ok (.ldc 44, 2) by decide +kernel) wd_631 ?_
    exact V_iret rfl (by decide) (by decide) (show decode M_Trail_ride.2.1 45 = .ok (.ireturn, 1) by decide +kernel)
  · skip
    refine V_ifeq 18 43 rfl (show decode M_Trail_ride.2.1 15 = .ok (.ifCond .eq 28, 3) by decide +kernel) rfl ?_ ?_
    · skip
      exact V_sub [] rfl (hJ43 b_2 σ_2)
    · skip
      refine V_aload 20 rfl (show decode M_Trail_ride.2.1 18 = .ok (.aload 4, 2) by decide +kernel) 0 rfl ?_
      refine V_iload_n 21 rfl (show decode M_Trail_ride.2.1 20 = .ok (.iload_n 2, 1) by decide +kernel) 3 rfl ?_
      refine V_callVN (tb := tI) (as := [vI x2]) (rest := []) (na := 1) 24 rfl ck_Ground (by decide) (s_Ground_hasPlace h4_1 x2 (b_2 && cK σ_2 h4_1 2) σ_2) rfl rfl (Nat.le_of_ble_eq_true rfl) (cal_Ground_hasPlace _ _ _ _ _ (by decide) (by decide) (by decide)) (show decode M_Trail_ride.2.1 21 = .ok (.invokevirtual 89, 3) by decide +kernel) wd_666 wd_668 wd_5 (fun r_3 b_3 σ_3 => ?_)
      show V M_Trail_ride 3 0 0 0 0 tI _ 24 [(4, vR h4_1), (0, vR h0), (1, vI x1), (2, vI x2), (3, vI x3)] [vI r_3] b_3 σ_3
      refine V_ifeq 27 43 rfl (show decode M_Trail_ride.2.1 24 = .ok (.ifCond .eq 19, 3) by decide +kernel) rfl ?_ ?_
      · skip
        exact V_sub [] rfl (hJ43 b_3 σ_3)
      · skip
        refine V_iload_n 28 rfl (show decode M_Trail_ride.2.1 27 = .ok (.iload_n 1, 1) by decide +kernel) 2 rfl ?_
        refine V_iload_n 29 rfl (show decode M_Trail_ride.2.1 28 = .ok (.iload_n 2, 1) by decide +kernel) 3 rfl ?_
        refine V_icmpeq 32 43 rfl (show decode M_Trail_ride.2.1 29 = .ok (.if_icmp .eq 14, 3) by decide +kernel) rfl ?_ ?_
        · skip
          exact V_sub [] rfl (hJ43 b_3 σ_3)
        · skip
          refine V_iload_n 33 rfl (show decode M_Trail_ride.2.1 32 = .ok (.iload_n 3, 1) by decide +kernel) 4 rfl ?_
          refine V_iconst 34 rfl (show decode M_Trail_ride.2.1 33 = .ok (.iconst 1, 1) by decide +kernel) (v := 1) rfl ?_
          refine V_sipush 37 rfl (show decode M_Trail_ride.2.1 34 = .ok (.sipush 999, 3) by decide +kernel) (v := 999) rfl ?_
          refine V_callS (tb := tI) (as := [vI x3, vI (1 : Int32), vI (999 : Int32)]) (rest := []) (na := 3) 40 rfl (s_Trail_within x3 (1 : Int32) (999 : Int32) b_3 σ_3) rfl rfl (Nat.le_of_ble_eq_true rfl) (cal_Trail_within _ _ _ _ _ (by decide) (by decide) (by decide)) (show decode M_Trail_ride.2.1 37 = .ok (.invokestatic 40, 3) by decide +kernel) wd_628 wd_629 (fun r_4 b_4 σ_4 => ?_)
          show V M_Trail_ride 3 0 0 0 0 tI _ 40 [(4, vR h4_1), (0, vR h0), (1, vI x1), (2, vI x2), (3, vI x3)] [vI r_4] b_4 σ_4
          refine V_ifne 43 46 rfl (show decode M_Trail_ride.2.1 40 = .ok (.ifCond .ne 6, 3) by decide +kernel) rfl ?_ ?_
          · skip
            exact V_sub [] rfl (hJ43 b_4 σ_4)
          · skip
            refine V_aload 48 rfl (show decode M_Trail_ride.2.1 46 = .ok (.aload 4, 2) by decide +kernel) 0 rfl ?_
            refine V_iload_n 49 rfl (show decode M_Trail_ride.2.1 48 = .ok (.iload_n 1, 1) by decide +kernel) 2 rfl ?_
            refine V_callVN (tb := tI) (as := [vI x1]) (rest := []) (na := 1) 52 rfl ck_Ground (by decide) (s_Ground_isTown h4_1 x1 (b_4 && cK σ_4 h4_1 2) σ_4) rfl rfl (Nat.le_of_ble_eq_true rfl) (cal_Ground_isTown _ _ _ _ _ (by decide) (by decide) (by decide)) (show decode M_Trail_ride.2.1 49 = .ok (.invokevirtual 120, 3) by decide +kernel) wd_697 wd_699 wd_10 (fun r_5 b_5 σ_5 => ?_)
            show V M_Trail_ride 3 0 0 0 0 tI _ 52 [(4, vR h4_1), (0, vR h0), (1, vI x1), (2, vI x2), (3, vI x3)] [vI r_5] b_5 σ_5
            refine V_jn (fun (J64 : Bool → Sto → Rs Int32) => ∀ (b : Bool) (σ : Sto), V M_Trail_ride 3 0 0 0 0 tI (J64 b σ) 64 [] [] b σ) ?_ (fun J64 hJ64 => ?_)
            · intro b σ
              refine V_ldc 66 rfl (show decode M_Trail_ride.2.1 64 = .ok (.ldc 119, 2) by decide +kernel) wd_692 ?_
              exact V_iret rfl (by decide) (by decide) (show decode M_Trail_ride.2.1 66 = .ok (.ireturn, 1) by decide +kernel)
            · skip
              refine V_ifeq 55 64 rfl (show decode M_Trail_ride.2.1 52 = .ok (.ifCond .eq 12, 3) by decide +kernel) rfl ?_ ?_
              · skip
                exact V_sub [] rfl (hJ64 b_5 σ_5)
              · skip
                refine V_aload 57 rfl (show decode M_Trail_ride.2.1 55 = .ok (.aload 4, 2) by decide +kernel) 0 rfl ?_
                refine V_iload_n 58 rfl (show decode M_Trail_ride.2.1 57 = .ok (.iload_n 2, 1) by decide +kernel) 3 rfl ?_
                refine V_callVN (tb := tI) (as := [vI x2]) (rest := []) (na := 1) 61 rfl ck_Ground (by decide) (s_Ground_isTown h4_1 x2 (b_5 && cK σ_5 h4_1 2) σ_5) rfl rfl (Nat.le_of_ble_eq_true rfl) (cal_Ground_isTown _ _ _ _ _ (by decide) (by decide) (by decide)) (show decode M_Trail_ride.2.1 58 = .ok (.invokevirtual 120, 3) by decide +kernel) wd_697 wd_699 wd_10 (fun r_6 b_6 σ_6 => ?_)
                show V M_Trail_ride 3 0 0 0 0 tI _ 61 [(4, vR h4_1), (0, vR h0), (1, vI x1), (2, vI x2), (3, vI x3)] [vI r_6] b_6 σ_6
                refine V_ifne 64 67 rfl (show decode M_Trail_ride.2.1 61 = .ok (.ifCond .ne 6, 3) by decide +kernel) rfl ?_ ?_
                · skip
                  exact V_sub [] rfl (hJ64 b_6 σ_6)
                · skip
                  refine V_aload_n 68 rfl (show decode M_Trail_ride.2.1 67 = .ok (.aload_n 0, 1) by decide +kernel) 1 rfl ?_
                  refine V_get (j := 0) (v := vR (SR σ_6 h0 0)) 71 rfl ck_Trail (by decide) (by decide) (show decode M_Trail_ride.2.1 68 = .ok (.getfield 10, 3) by decide +kernel) wd_599 rfl ?_
                  refine V_getN (j := 4) (v := vR (SR σ_6 (SR σ_6 h0 0) 4)) 74 rfl ck_World (by decide) (by decide) (show decode M_Trail_ride.2.1 71 = .ok (.getfield 297, 3) by decide +kernel) wd_506 rfl ?_
                  refine V_getN (j := 4) (v := vI (SI σ_6 (SR σ_6 (SR σ_6 h0 0) 4) 4)) 77 rfl ck_Supply (by decide) (by decide) (show decode M_Trail_ride.2.1 74 = .ok (.getfield 320, 3) by decide +kernel) wd_365 rfl ?_
                  refine V_bipush 79 rfl (show decode M_Trail_ride.2.1 77 = .ok (.bipush 12, 2) by decide +kernel) (v := 12) rfl ?_
                  refine V_icmplt 82 85 rfl (show decode M_Trail_ride.2.1 79 = .ok (.if_icmp .lt 6, 3) by decide +kernel) rfl ?_ ?_
                  · skip
                    refine V_aload_n 86 rfl (show decode M_Trail_ride.2.1 85 = .ok (.aload_n 0, 1) by decide +kernel) 1 rfl ?_
                    refine V_get (j := 0) (v := vR (SR σ_6 h0 0)) 89 rfl ck_Trail (by decide) (by decide) (show decode M_Trail_ride.2.1 86 = .ok (.getfield 10, 3) by decide +kernel) wd_599 rfl ?_
                    refine V_getN (j := 4) (v := vR (SR σ_6 (SR σ_6 h0 0) 4)) 92 rfl ck_World (by decide) (by decide) (show decode M_Trail_ride.2.1 89 = .ok (.getfield 297, 3) by decide +kernel) wd_506 rfl ?_
                    refine V_iload_n 93 rfl (show decode M_Trail_ride.2.1 92 = .ok (.iload_n 1, 1) by decide +kernel) 2 rfl ?_
                    refine V_iload_n 94 rfl (show decode M_Trail_ride.2.1 93 = .ok (.iload_n 2, 1) by decide +kernel) 3 rfl ?_
                    refine V_iload_n 95 rfl (show decode M_Trail_ride.2.1 94 = .ok (.iload_n 3, 1) by decide +kernel) 4 rfl ?_
                    refine V_callVN (tb := tI) (as := [vI x1, vI x2, vI x3]) (rest := []) (na := 3) 98 rfl ck_Supply (by decide) (s_Supply_addRide (SR σ_6 (SR σ_6 h0 0) 4) x1 x2 x3 ((((((b_6 && cK σ_6 h0 12) && cK σ_6 (SR σ_6 h0 0) 11) && cK σ_6 (SR σ_6 (SR σ_6 h0 0) 4) 7) && cK σ_6 h0 12) && cK σ_6 (SR σ_6 h0 0) 11) && cK σ_6 (SR σ_6 (SR σ_6 h0 0) 4) 7) σ_6) rfl rfl (Nat.le_of_ble_eq_true rfl) (cal_Supply_addRide _ _ _ _ _ (by decide) (by decide) (by decide)) (show decode M_Trail_ride.2.1 95 = .ok (.invokevirtual 323, 3) by decide +kernel) wd_1343 wd_1345 wd_90 (fun r_7 b_7 σ_7 => ?_)
                    show V M_Trail_ride 3 0 0 0 0 tI _ 98 [(4, vR h4_1), (0, vR h0), (1, vI x1), (2, vI x2), (3, vI x3)] [vI r_7] b_7 σ_7
                    exact V_iret rfl (by decide) (by decide) (show decode M_Trail_ride.2.1 98 = .ok (.ireturn, 1) by decide +kernel)
                  · skip
                    refine V_ldc 84 rfl (show decode M_Trail_ride.2.1 82 = .ok (.ldc 84, 2) by decide +kernel) wd_657 ?_
                    exact V_iret rfl (by decide) (by decide) (show decode M_Trail_ride.2.1 84 = .ok (.ireturn, 1) by decide +kernel)
theorem cal_Trail_ride (d mc ms k n : Nat) (h1 : 3 + 1 ≤ d) (h2 : k + 0 ≤ mc) (h3 : n + 0 ≤ ms) : Cal M_Trail_ride 3 0 0 3 d mc ms k n := ⟨wd_1342, wd_170, by decide, h1, by decide, h2, h3⟩
abbrev M_Ground_firstTownFrom : MD := (⟨"LongTrail$Ground", "firstTownFrom", "(I)I"⟩, prog_3_method_25_code, 4, (some FieldType.int))
def b_Ground_firstTownFrom_4 (h0 : Nat) (x1 : Int32) (L4 : Int32 → Int32 → Bool → Sto → Rs Int32) (x2 : Int32) (x3 : Int32) (b : Bool) (σ : Sto) : Rs Int32 := (if x3 < (SI σ h0 10) then (bd_ (f_Ground_isTown h0 x3 ((b && cK σ h0 2) && cK σ h0 2) σ) (fun (r_3 : Int32) (b_3 : Bool) (σ_3 : Sto) => (lt_ (fun (x2_51 : Int32) (b : Bool) (σ : Sto) => (lt_ (x3 + (1 : Int32)) (fun (x3_4 : Int32) => (L4 x2_51 x3_4 b σ)))) (fun J51 => (if r_3 = 0 then (J51 x2 b_3 σ_3) else (if (SI σ_3 (SR σ_3 h0 1) (ix x3)) < x1 then (J51 x2 ((b_3 && cK σ_3 h0 2) && cA σ_3 (SR σ_3 h0 1) 21 x3) σ_3) else (lt_ (fun (b : Bool) (σ : Sto) => (lt_ x3 (fun (x2_5 : Int32) => (J51 x2_5 b σ)))) (fun J49 => (if x2 < 0 then (J49 ((b_3 && cK σ_3 h0 2) && cA σ_3 (SR σ_3 h0 1) 21 x3) σ_3) else (if (SI σ_3 (SR σ_3 h0 1) (ix x3)) < (SI σ_3 (SR σ_3 h0 1) (ix x2)) then (J49 ((((((b_3 && cK σ_3 h0 2) && cA σ_3 (SR σ_3 h0 1) 21 x3) && cK σ_3 h0 2) && cA σ_3 (SR σ_3 h0 1) 21 x3) && cK σ_3 h0 2) && cA σ_3 (SR σ_3 h0 1) 21 x2) σ_3) else (J51 x2 ((((((b_3 && cK σ_3 h0 2) && cA σ_3 (SR σ_3 h0 1) 21 x3) && cK σ_3 h0 2) && cA σ_3 (SR σ_3 h0 1) 21 x3) && cK σ_3 h0 2) && cA σ_3 (SR σ_3 h0 1) 21 x2) σ_3))))))))))) else (x2, (b && cK σ h0 2), σ))
def f_Ground_firstTownFrom (h0 : Nat) (x1 : Int32) (b : Bool) (σ : Sto) : Rs Int32 := (lt_ (-1 : Int32) (fun (x2_1 : Int32) => (lt_ (0 : Int32) (fun (x3_2 : Int32) => (lp_ (b_Ground_firstTownFrom_4 h0 x1) (fun (x2 : Int32) (x3 : Int32) (b : Bool) (σ : Sto) => (0, false, σ)) fuel_ x2_1 x3_2 b σ)))))
set_option maxRecDepth 100000 in
set_option maxHeartbeats 4000000 in
theorem s_Ground_firstTownFrom : ∀ (h0 : Nat) (x1 : Int32) (b : Bool) (σ : Sto), Snd M_Ground_firstTownFrom 3 0 0 [vR h0, vI x1] b σ (tI (f_Ground_firstTownFrom h0 x1 b σ).1) (f_Ground_firstTownFrom h0 x1 b σ).2.1 (f_Ground_firstTownFrom h0 x1 b σ).2.2 := by
  intro h0 x1 b σ
  refine Snd_of (tv := tI) (by decide) (Nat.le_of_ble_eq_true rfl) ?_
  show V M_Ground_firstTownFrom 3 0 0 0 0 tI (f_Ground_firstTownFrom h0 x1 b σ) 0 [(0, vR h0), (1, vI x1)] [] b σ
  unfold f_Ground_firstTownFrom
  refine V_iconst 1 rfl (show decode M_Ground_firstTownFrom.2.1 0 = .ok (.iconst (-1), 1) by decide +kernel) (v := -1) rfl ?_
  refine V_istore_n (fun x2_1 => [(2, vI x2_1), (0, vR h0), (1, vI x1)]) 2 rfl (show decode M_Ground_firstTownFrom.2.1 1 = .ok (.istore_n 2, 1) by decide +kernel) (by decide) (fun _ => rfl) (fun x2_1 => ?_)
  refine V_iconst 3 rfl (show decode M_Ground_firstTownFrom.2.1 2 = .ok (.iconst 0, 1) by decide +kernel) (v := 0) rfl ?_
  refine V_istore_n (fun x3_2 => [(3, vI x3_2), (2, vI x2_1), (0, vR h0), (1, vI x1)]) 4 rfl (show decode M_Ground_firstTownFrom.2.1 3 = .ok (.istore_n 3, 1) by decide +kernel) (by decide) (fun _ => rfl) (fun x3_2 => ?_)
  refine V_sub [2, 3, 1, 0] rfl ?_
  refine lp_P (fun (L4 : Int32 → Int32 → Bool → Sto → Rs Int32) => ∀ (x2 : Int32) (x3 : Int32) (b : Bool) (σ : Sto), V M_Ground_firstTownFrom 3 0 0 0 0 tI (L4 x2 x3 b σ) 4 [(0, vR h0), (1, vI x1), (2, vI x2), (3, vI x3)] [] b σ) ?_ ?_ fuel_ x2_1 x3_2 b σ
  · intro x2 x3 b σ; exact V_bad
  · intro L4 hL4 x2 x3 b σ
    unfold b_Ground_firstTownFrom_4
    refine V_iload_n 5 rfl (show decode M_Ground_firstTownFrom.2.1 4 = .ok (.iload_n 3, 1) by decide +kernel) 3 rfl ?_
    refine V_aload_n 6 rfl (show decode M_Ground_firstTownFrom.2.1 5 = .ok (.aload_n 0, 1) by decide +kernel) 0 rfl ?_
    refine V_get (j := 10) (v := vI (SI σ h0 10)) 9 rfl ck_Ground (by decide) (by decide) (show decode M_Ground_firstTownFrom.2.1 6 = .ok (.getfield 50, 3) by decide +kernel) wd_235 rfl ?_
    refine V_icmpge 12 57 rfl (show decode M_Ground_firstTownFrom.2.1 9 = .ok (.if_icmp .ge 48, 3) by decide +kernel) rfl ?_ ?_
    · skip
      refine V_aload_n 13 rfl (show decode M_Ground_firstTownFrom.2.1 12 = .ok (.aload_n 0, 1) by decide +kernel) 0 rfl ?_
      refine V_iload_n 14 rfl (show decode M_Ground_firstTownFrom.2.1 13 = .ok (.iload_n 3, 1) by decide +kernel) 3 rfl ?_
      refine V_callV (tb := tI) (as := [vI x3]) (rest := []) (na := 1) 17 rfl ck_Ground (by decide) (s_Ground_isTown h0 x3 ((b && cK σ h0 2) && cK σ h0 2) σ) rfl rfl (Nat.le_of_ble_eq_true rfl) (cal_Ground_isTown _ _ _ _ _ (by decide) (by decide) (by decide)) (show decode M_Ground_firstTownFrom.2.1 14 = .ok (.invokevirtual 83, 3) by decide +kernel) wd_1371 wd_699 wd_10 (fun r_3 b_3 σ_3 => ?_)
      show V M_Ground_firstTownFrom 3 0 0 0 0 tI _ 17 [(0, vR h0), (1, vI x1), (2, vI x2), (3, vI x3)] [vI r_3] b_3 σ_3
      refine V_jn (fun (J51 : Int32 → Bool → Sto → Rs Int32) => ∀ (x2_51 : Int32) (b : Bool) (σ : Sto), V M_Ground_firstTownFrom 3 0 0 0 0 tI (J51 x2_51 b σ) 51 [(0, vR h0), (1, vI x1), (2, vI x2_51), (3, vI x3)] [] b σ) ?_ (fun J51 hJ51 => ?_)
      · intro x2_51 b σ
        refine V_iinc (fun x3_4 => [(3, vI x3_4), (0, vR h0), (1, vI x1), (2, vI x2_51)]) 54 rfl (show decode M_Ground_firstTownFrom.2.1 51 = .ok (.iinc 3 1, 3) by decide +kernel) 3 rfl (w := 1) rfl (by decide) (fun _ => rfl) (fun x3_4 => ?_)
        refine V_goto 4 (show decode M_Ground_firstTownFrom.2.1 54 = .ok (.goto (-50), 3) by decide +kernel) rfl ?_
        exact V_sub [1, 2, 3, 0] rfl (hL4 x2_51 x3_4 b σ)
      · skip
        refine V_ifeq 20 51 rfl (show decode M_Ground_firstTownFrom.2.1 17 = .ok (.ifCond .eq 34, 3) by decide +kernel) rfl ?_ ?_
        · skip
          exact V_sub [0, 1, 2, 3] rfl (hJ51 x2 b_3 σ_3)
        · skip
          refine V_aload_n 21 rfl (show decode M_Ground_firstTownFrom.2.1 20 = .ok (.aload_n 0, 1) by decide +kernel) 0 rfl ?_
          refine V_get (j := 1) (v := vR (SR σ_3 h0 1)) 24 rfl ck_Ground (by decide) (by decide) (show decode M_Ground_firstTownFrom.2.1 21 = .ok (.getfield 15, 3) by decide +kernel) wd_214 rfl ?_
          refine V_iload_n 25 rfl (show decode M_Ground_firstTownFrom.2.1 24 = .ok (.iload_n 3, 1) by decide +kernel) 3 rfl ?_
          refine V_ald_int 26 rfl (show decode M_Ground_firstTownFrom.2.1 25 = .ok (.iaload, 1) by decide +kernel) ?_
          refine V_iload_n 27 rfl (show decode M_Ground_firstTownFrom.2.1 26 = .ok (.iload_n 1, 1) by decide +kernel) 1 rfl ?_
          refine V_icmplt 30 51 rfl (show decode M_Ground_firstTownFrom.2.1 27 = .ok (.if_icmp .lt 24, 3) by decide +kernel) rfl ?_ ?_
          · skip
            exact V_sub [0, 1, 2, 3] rfl (hJ51 x2 ((b_3 && cK σ_3 h0 2) && cA σ_3 (SR σ_3 h0 1) 21 x3) σ_3)
          · skip
            refine V_iload_n 31 rfl (show decode M_Ground_firstTownFrom.2.1 30 = .ok (.iload_n 2, 1) by decide +kernel) 2 rfl ?_
            refine V_jn (fun (J49 : Bool → Sto → Rs Int32) => ∀ (b : Bool) (σ : Sto), V M_Ground_firstTownFrom 3 0 0 0 0 tI (J49 b σ) 49 [(0, vR h0), (1, vI x1), (3, vI x3)] [] b σ) ?_ (fun J49 hJ49 => ?_)
            · intro b σ
              refine V_iload_n 50 rfl (show decode M_Ground_firstTownFrom.2.1 49 = .ok (.iload_n 3, 1) by decide +kernel) 2 rfl ?_
              refine V_istore_n (fun x2_5 => [(2, vI x2_5), (0, vR h0), (1, vI x1), (3, vI x3)]) 51 rfl (show decode M_Ground_firstTownFrom.2.1 50 = .ok (.istore_n 2, 1) by decide +kernel) (by decide) (fun _ => rfl) (fun x2_5 => ?_)
              exact V_sub [1, 2, 0, 3] rfl (hJ51 x2_5 b σ)
            · skip
              refine V_iflt 34 49 rfl (show decode M_Ground_firstTownFrom.2.1 31 = .ok (.ifCond .lt 18, 3) by decide +kernel) rfl ?_ ?_
              · skip
                exact V_sub [0, 1, 3] rfl (hJ49 ((b_3 && cK σ_3 h0 2) && cA σ_3 (SR σ_3 h0 1) 21 x3) σ_3)
              · skip
                refine V_aload_n 35 rfl (show decode M_Ground_firstTownFrom.2.1 34 = .ok (.aload_n 0, 1) by decide +kernel) 0 rfl ?_
                refine V_get (j := 1) (v := vR (SR σ_3 h0 1)) 38 rfl ck_Ground (by decide) (by decide) (show decode M_Ground_firstTownFrom.2.1 35 = .ok (.getfield 15, 3) by decide +kernel) wd_214 rfl ?_
                refine V_iload_n 39 rfl (show decode M_Ground_firstTownFrom.2.1 38 = .ok (.iload_n 3, 1) by decide +kernel) 3 rfl ?_
                refine V_ald_int 40 rfl (show decode M_Ground_firstTownFrom.2.1 39 = .ok (.iaload, 1) by decide +kernel) ?_
                refine V_aload_n 41 rfl (show decode M_Ground_firstTownFrom.2.1 40 = .ok (.aload_n 0, 1) by decide +kernel) 0 rfl ?_
                refine V_get (j := 1) (v := vR (SR σ_3 h0 1)) 44 rfl ck_Ground (by decide) (by decide) (show decode M_Ground_firstTownFrom.2.1 41 = .ok (.getfield 15, 3) by decide +kernel) wd_214 rfl ?_
                refine V_iload_n 45 rfl (show decode M_Ground_firstTownFrom.2.1 44 = .ok (.iload_n 2, 1) by decide +kernel) 2 rfl ?_
                refine V_ald_int 46 rfl (show decode M_Ground_firstTownFrom.2.1 45 = .ok (.iaload, 1) by decide +kernel) ?_
                refine V_icmpge 49 51 rfl (show decode M_Ground_firstTownFrom.2.1 46 = .ok (.if_icmp .ge 5, 3) by decide +kernel) rfl ?_ ?_
                · skip
                  exact V_sub [0, 1, 3] rfl (hJ49 ((((((b_3 && cK σ_3 h0 2) && cA σ_3 (SR σ_3 h0 1) 21 x3) && cK σ_3 h0 2) && cA σ_3 (SR σ_3 h0 1) 21 x3) && cK σ_3 h0 2) && cA σ_3 (SR σ_3 h0 1) 21 x2) σ_3)
                · skip
                  exact V_sub [0, 1, 2, 3] rfl (hJ51 x2 ((((((b_3 && cK σ_3 h0 2) && cA σ_3 (SR σ_3 h0 1) 21 x3) && cK σ_3 h0 2) && cA σ_3 (SR σ_3 h0 1) 21 x3) && cK σ_3 h0 2) && cA σ_3 (SR σ_3 h0 1) 21 x2) σ_3)
    · skip
      refine V_iload_n 58 rfl (show decode M_Ground_firstTownFrom.2.1 57 = .ok (.iload_n 2, 1) by decide +kernel) 2 rfl ?_
      exact V_iret rfl (by decide) (by decide) (show decode M_Ground_firstTownFrom.2.1 58 = .ok (.ireturn, 1) by decide +kernel)
theorem cal_Ground_firstTownFrom (d mc ms k n : Nat) (h1 : 3 + 1 ≤ d) (h2 : k + 0 ≤ mc) (h3 : n + 0 ≤ ms) : Cal M_Ground_firstTownFrom 3 0 0 1 d mc ms k n := ⟨wd_1375, wd_172, by decide, h1, by decide, h2, h3⟩
abbrev M_Ground_hasFire : MD := (⟨"LongTrail$Ground", "hasFire", "(I)Z"⟩, prog_3_method_5_code, 2, (some FieldType.boolean))
def f_Ground_hasFire (h0 : Nat) (x1 : Int32) (b : Bool) (σ : Sto) : Rs Int32 := (bd_ (f_Trail_within x1 (0 : Int32) ((SI σ h0 11) - (1 : Int32)) (b && cK σ h0 2) σ) (fun (r_1 : Int32) (b_1 : Bool) (σ_1 : Sto) => (r_1, (b_1 && zok r_1), σ_1)))
set_option maxRecDepth 100000 in
set_option maxHeartbeats 4000000 in
theorem s_Ground_hasFire : ∀ (h0 : Nat) (x1 : Int32) (b : Bool) (σ : Sto), Snd M_Ground_hasFire 2 0 0 [vR h0, vI x1] b σ (tI (f_Ground_hasFire h0 x1 b σ).1) (f_Ground_hasFire h0 x1 b σ).2.1 (f_Ground_hasFire h0 x1 b σ).2.2 := by
  intro h0 x1 b σ
  refine Snd_of (tv := tI) (by decide) (Nat.le_of_ble_eq_true rfl) ?_
  show V M_Ground_hasFire 2 0 0 0 0 tI (f_Ground_hasFire h0 x1 b σ) 0 [(0, vR h0), (1, vI x1)] [] b σ
  unfold f_Ground_hasFire
  refine V_iload_n 1 rfl (show decode M_Ground_hasFire.2.1 0 = .ok (.iload_n 1, 1) by decide +kernel) 1 rfl ?_
  refine V_iconst 2 rfl (show decode M_Ground_hasFire.2.1 1 = .ok (.iconst 0, 1) by decide +kernel) (v := 0) rfl ?_
  refine V_aload_n 3 rfl (show decode M_Ground_hasFire.2.1 2 = .ok (.aload_n 0, 1) by decide +kernel) 0 rfl ?_
  refine V_get (j := 11) (v := vI (SI σ h0 11)) 6 rfl ck_Ground (by decide) (by decide) (show decode M_Ground_hasFire.2.1 3 = .ok (.getfield 53, 3) by decide +kernel) wd_238 rfl ?_
  refine V_iconst 7 rfl (show decode M_Ground_hasFire.2.1 6 = .ok (.iconst 1, 1) by decide +kernel) (v := 1) rfl ?_
  refine V_isub 8 rfl (show decode M_Ground_hasFire.2.1 7 = .ok (.isub, 1) by decide +kernel) ?_
  refine V_callSN (tb := tI) (as := [vI x1, vI (0 : Int32), vI ((SI σ h0 11) - (1 : Int32))]) (rest := []) (na := 3) 11 rfl (s_Trail_within x1 (0 : Int32) ((SI σ h0 11) - (1 : Int32)) (b && cK σ h0 2) σ) rfl rfl (Nat.le_of_ble_eq_true rfl) (cal_Trail_within _ _ _ _ _ (by decide) (by decide) (by decide)) (show decode M_Ground_hasFire.2.1 8 = .ok (.invokestatic 56, 3) by decide +kernel) wd_649 wd_629 (fun r_1 b_1 σ_1 => ?_)
  show V M_Ground_hasFire 2 0 0 0 0 tI _ 11 [(0, vR h0), (1, vI x1)] [vI r_1] b_1 σ_1
  exact V_zretc rfl (by decide) (by decide) (show decode M_Ground_hasFire.2.1 11 = .ok (.ireturn, 1) by decide +kernel)
theorem cal_Ground_hasFire (d mc ms k n : Nat) (h1 : 2 + 1 ≤ d) (h2 : k + 0 ≤ mc) (h3 : n + 0 ≤ ms) : Cal M_Ground_hasFire 2 0 0 1 d mc ms k n := ⟨wd_1366, wd_172, by decide, h1, by decide, h2, h3⟩
abbrev M_Ground_lastTownUpTo : MD := (⟨"LongTrail$Ground", "lastTownUpTo", "(I)I"⟩, prog_3_method_24_code, 4, (some FieldType.int))
def b_Ground_lastTownUpTo_4 (h0 : Nat) (x1 : Int32) (L4 : Int32 → Int32 → Bool → Sto → Rs Int32) (x2 : Int32) (x3 : Int32) (b : Bool) (σ : Sto) : Rs Int32 := (if x3 < (SI σ h0 10) then (bd_ (f_Ground_isTown h0 x3 ((b && cK σ h0 2) && cK σ h0 2) σ) (fun (r_3 : Int32) (b_3 : Bool) (σ_3 : Sto) => (lt_ (fun (x2_51 : Int32) (b : Bool) (σ : Sto) => (lt_ (x3 + (1 : Int32)) (fun (x3_4 : Int32) => (L4 x2_51 x3_4 b σ)))) (fun J51 => (if r_3 = 0 then (J51 x2 b_3 σ_3) else (if x1 < (SI σ_3 (SR σ_3 h0 1) (ix x3)) then (J51 x2 ((b_3 && cK σ_3 h0 2) && cA σ_3 (SR σ_3 h0 1) 21 x3) σ_3) else (lt_ (fun (b : Bool) (σ : Sto) => (lt_ x3 (fun (x2_5 : Int32) => (J51 x2_5 b σ)))) (fun J49 => (if x2 < 0 then (J49 ((b_3 && cK σ_3 h0 2) && cA σ_3 (SR σ_3 h0 1) 21 x3) σ_3) else (if (SI σ_3 (SR σ_3 h0 1) (ix x2)) < (SI σ_3 (SR σ_3 h0 1) (ix x3)) then (J49 ((((((b_3 && cK σ_3 h0 2) && cA σ_3 (SR σ_3 h0 1) 21 x3) && cK σ_3 h0 2) && cA σ_3 (SR σ_3 h0 1) 21 x3) && cK σ_3 h0 2) && cA σ_3 (SR σ_3 h0 1) 21 x2) σ_3) else (J51 x2 ((((((b_3 && cK σ_3 h0 2) && cA σ_3 (SR σ_3 h0 1) 21 x3) && cK σ_3 h0 2) && cA σ_3 (SR σ_3 h0 1) 21 x3) && cK σ_3 h0 2) && cA σ_3 (SR σ_3 h0 1) 21 x2) σ_3))))))))))) else (x2, (b && cK σ h0 2), σ))
def f_Ground_lastTownUpTo (h0 : Nat) (x1 : Int32) (b : Bool) (σ : Sto) : Rs Int32 := (lt_ (-1 : Int32) (fun (x2_1 : Int32) => (lt_ (0 : Int32) (fun (x3_2 : Int32) => (lp_ (b_Ground_lastTownUpTo_4 h0 x1) (fun (x2 : Int32) (x3 : Int32) (b : Bool) (σ : Sto) => (0, false, σ)) fuel_ x2_1 x3_2 b σ)))))
set_option maxRecDepth 100000 in
set_option maxHeartbeats 4000000 in
theorem s_Ground_lastTownUpTo : ∀ (h0 : Nat) (x1 : Int32) (b : Bool) (σ : Sto), Snd M_Ground_lastTownUpTo 3 0 0 [vR h0, vI x1] b σ (tI (f_Ground_lastTownUpTo h0 x1 b σ).1) (f_Ground_lastTownUpTo h0 x1 b σ).2.1 (f_Ground_lastTownUpTo h0 x1 b σ).2.2 := by
  intro h0 x1 b σ
  refine Snd_of (tv := tI) (by decide) (Nat.le_of_ble_eq_true rfl) ?_
  show V M_Ground_lastTownUpTo 3 0 0 0 0 tI (f_Ground_lastTownUpTo h0 x1 b σ) 0 [(0, vR h0), (1, vI x1)] [] b σ
  unfold f_Ground_lastTownUpTo
  refine V_iconst 1 rfl (show decode M_Ground_lastTownUpTo.2.1 0 = .ok (.iconst (-1), 1) by decide +kernel) (v := -1) rfl ?_
  refine V_istore_n (fun x2_1 => [(2, vI x2_1), (0, vR h0), (1, vI x1)]) 2 rfl (show decode M_Ground_lastTownUpTo.2.1 1 = .ok (.istore_n 2, 1) by decide +kernel) (by decide) (fun _ => rfl) (fun x2_1 => ?_)
  refine V_iconst 3 rfl (show decode M_Ground_lastTownUpTo.2.1 2 = .ok (.iconst 0, 1) by decide +kernel) (v := 0) rfl ?_
  refine V_istore_n (fun x3_2 => [(3, vI x3_2), (2, vI x2_1), (0, vR h0), (1, vI x1)]) 4 rfl (show decode M_Ground_lastTownUpTo.2.1 3 = .ok (.istore_n 3, 1) by decide +kernel) (by decide) (fun _ => rfl) (fun x3_2 => ?_)
  refine V_sub [2, 3, 1, 0] rfl ?_
  refine lp_P (fun (L4 : Int32 → Int32 → Bool → Sto → Rs Int32) => ∀ (x2 : Int32) (x3 : Int32) (b : Bool) (σ : Sto), V M_Ground_lastTownUpTo 3 0 0 0 0 tI (L4 x2 x3 b σ) 4 [(0, vR h0), (1, vI x1), (2, vI x2), (3, vI x3)] [] b σ) ?_ ?_ fuel_ x2_1 x3_2 b σ
  · intro x2 x3 b σ; exact V_bad
  · intro L4 hL4 x2 x3 b σ
    unfold b_Ground_lastTownUpTo_4
    refine V_iload_n 5 rfl (show decode M_Ground_lastTownUpTo.2.1 4 = .ok (.iload_n 3, 1) by decide +kernel) 3 rfl ?_
    refine V_aload_n 6 rfl (show decode M_Ground_lastTownUpTo.2.1 5 = .ok (.aload_n 0, 1) by decide +kernel) 0 rfl ?_
    refine V_get (j := 10) (v := vI (SI σ h0 10)) 9 rfl ck_Ground (by decide) (by decide) (show decode M_Ground_lastTownUpTo.2.1 6 = .ok (.getfield 50, 3) by decide +kernel) wd_235 rfl ?_
    refine V_icmpge 12 57 rfl (show decode M_Ground_lastTownUpTo.2.1 9 = .ok (.if_icmp .ge 48, 3) by decide +kernel) rfl ?_ ?_
    · skip
      refine V_aload_n 13 rfl (show decode M_Ground_lastTownUpTo.2.1 12 = .ok (.aload_n 0, 1) by decide +kernel) 0 rfl ?_
      refine V_iload_n 14 rfl (show decode M_Ground_lastTownUpTo.2.1 13 = .ok (.iload_n 3, 1) by decide +kernel) 3 rfl ?_
      refine V_callV (tb := tI) (as := [vI x3]) (rest := []) (na := 1) 17 rfl ck_Ground (by decide) (s_Ground_isTown h0 x3 ((b && cK σ h0 2) && cK σ h0 2) σ) rfl rfl (Nat.le_of_ble_eq_true rfl) (cal_Ground_isTown _ _ _ _ _ (by decide) (by decide) (by decide)) (show decode M_Ground_lastTownUpTo.2.1 14 = .ok (.invokevirtual 83, 3) by decide +kernel) wd_1371 wd_699 wd_10 (fun r_3 b_3 σ_3 => ?_)
      show V M_Ground_lastTownUpTo 3 0 0 0 0 tI _ 17 [(0, vR h0), (1, vI x1), (2, vI x2), (3, vI x3)] [vI r_3] b_3 σ_3
      refine V_jn (fun (J51 : Int32 → Bool → Sto → Rs Int32) => ∀ (x2_51 : Int32) (b : Bool) (σ : Sto), V M_Ground_lastTownUpTo 3 0 0 0 0 tI (J51 x2_51 b σ) 51 [(0, vR h0), (1, vI x1), (2, vI x2_51), (3, vI x3)] [] b σ) ?_ (fun J51 hJ51 => ?_)
      · intro x2_51 b σ
        refine V_iinc (fun x3_4 => [(3, vI x3_4), (0, vR h0), (1, vI x1), (2, vI x2_51)]) 54 rfl (show decode M_Ground_lastTownUpTo.2.1 51 = .ok (.iinc 3 1, 3) by decide +kernel) 3 rfl (w := 1) rfl (by decide) (fun _ => rfl) (fun x3_4 => ?_)
        refine V_goto 4 (show decode M_Ground_lastTownUpTo.2.1 54 = .ok (.goto (-50), 3) by decide +kernel) rfl ?_
        exact V_sub [1, 2, 3, 0] rfl (hL4 x2_51 x3_4 b σ)
      · skip
        refine V_ifeq 20 51 rfl (show decode M_Ground_lastTownUpTo.2.1 17 = .ok (.ifCond .eq 34, 3) by decide +kernel) rfl ?_ ?_
        · skip
          exact V_sub [0, 1, 2, 3] rfl (hJ51 x2 b_3 σ_3)
        · skip
          refine V_aload_n 21 rfl (show decode M_Ground_lastTownUpTo.2.1 20 = .ok (.aload_n 0, 1) by decide +kernel) 0 rfl ?_
          refine V_get (j := 1) (v := vR (SR σ_3 h0 1)) 24 rfl ck_Ground (by decide) (by decide) (show decode M_Ground_lastTownUpTo.2.1 21 = .ok (.getfield 15, 3) by decide +kernel) wd_214 rfl ?_
          refine V_iload_n 25 rfl (show decode M_Ground_lastTownUpTo.2.1 24 = .ok (.iload_n 3, 1) by decide +kernel) 3 rfl ?_
          refine V_ald_int 26 rfl (show decode M_Ground_lastTownUpTo.2.1 25 = .ok (.iaload, 1) by decide +kernel) ?_
          refine V_iload_n 27 rfl (show decode M_Ground_lastTownUpTo.2.1 26 = .ok (.iload_n 1, 1) by decide +kernel) 1 rfl ?_
          refine V_icmpgt 30 51 rfl (show decode M_Ground_lastTownUpTo.2.1 27 = .ok (.if_icmp .gt 24, 3) by decide +kernel) rfl ?_ ?_
          · skip
            exact V_sub [0, 1, 2, 3] rfl (hJ51 x2 ((b_3 && cK σ_3 h0 2) && cA σ_3 (SR σ_3 h0 1) 21 x3) σ_3)
          · skip
            refine V_iload_n 31 rfl (show decode M_Ground_lastTownUpTo.2.1 30 = .ok (.iload_n 2, 1) by decide +kernel) 2 rfl ?_
            refine V_jn (fun (J49 : Bool → Sto → Rs Int32) => ∀ (b : Bool) (σ : Sto), V M_Ground_lastTownUpTo 3 0 0 0 0 tI (J49 b σ) 49 [(0, vR h0), (1, vI x1), (3, vI x3)] [] b σ) ?_ (fun J49 hJ49 => ?_)
            · intro b σ
              refine V_iload_n 50 rfl (show decode M_Ground_lastTownUpTo.2.1 49 = .ok (.iload_n 3, 1) by decide +kernel) 2 rfl ?_
              refine V_istore_n (fun x2_5 => [(2, vI x2_5), (0, vR h0), (1, vI x1), (3, vI x3)]) 51 rfl (show decode M_Ground_lastTownUpTo.2.1 50 = .ok (.istore_n 2, 1) by decide +kernel) (by decide) (fun _ => rfl) (fun x2_5 => ?_)
              exact V_sub [1, 2, 0, 3] rfl (hJ51 x2_5 b σ)
            · skip
              refine V_iflt 34 49 rfl (show decode M_Ground_lastTownUpTo.2.1 31 = .ok (.ifCond .lt 18, 3) by decide +kernel) rfl ?_ ?_
              · skip
                exact V_sub [0, 1, 3] rfl (hJ49 ((b_3 && cK σ_3 h0 2) && cA σ_3 (SR σ_3 h0 1) 21 x3) σ_3)
              · skip
                refine V_aload_n 35 rfl (show decode M_Ground_lastTownUpTo.2.1 34 = .ok (.aload_n 0, 1) by decide +kernel) 0 rfl ?_
                refine V_get (j := 1) (v := vR (SR σ_3 h0 1)) 38 rfl ck_Ground (by decide) (by decide) (show decode M_Ground_lastTownUpTo.2.1 35 = .ok (.getfield 15, 3) by decide +kernel) wd_214 rfl ?_
                refine V_iload_n 39 rfl (show decode M_Ground_lastTownUpTo.2.1 38 = .ok (.iload_n 3, 1) by decide +kernel) 3 rfl ?_
                refine V_ald_int 40 rfl (show decode M_Ground_lastTownUpTo.2.1 39 = .ok (.iaload, 1) by decide +kernel) ?_
                refine V_aload_n 41 rfl (show decode M_Ground_lastTownUpTo.2.1 40 = .ok (.aload_n 0, 1) by decide +kernel) 0 rfl ?_
                refine V_get (j := 1) (v := vR (SR σ_3 h0 1)) 44 rfl ck_Ground (by decide) (by decide) (show decode M_Ground_lastTownUpTo.2.1 41 = .ok (.getfield 15, 3) by decide +kernel) wd_214 rfl ?_
                refine V_iload_n 45 rfl (show decode M_Ground_lastTownUpTo.2.1 44 = .ok (.iload_n 2, 1) by decide +kernel) 2 rfl ?_
                refine V_ald_int 46 rfl (show decode M_Ground_lastTownUpTo.2.1 45 = .ok (.iaload, 1) by decide +kernel) ?_
                refine V_icmple 49 51 rfl (show decode M_Ground_lastTownUpTo.2.1 46 = .ok (.if_icmp .le 5, 3) by decide +kernel) rfl ?_ ?_
                · skip
                  exact V_sub [0, 1, 3] rfl (hJ49 ((((((b_3 && cK σ_3 h0 2) && cA σ_3 (SR σ_3 h0 1) 21 x3) && cK σ_3 h0 2) && cA σ_3 (SR σ_3 h0 1) 21 x3) && cK σ_3 h0 2) && cA σ_3 (SR σ_3 h0 1) 21 x2) σ_3)
                · skip
                  exact V_sub [0, 1, 2, 3] rfl (hJ51 x2 ((((((b_3 && cK σ_3 h0 2) && cA σ_3 (SR σ_3 h0 1) 21 x3) && cK σ_3 h0 2) && cA σ_3 (SR σ_3 h0 1) 21 x3) && cK σ_3 h0 2) && cA σ_3 (SR σ_3 h0 1) 21 x2) σ_3)
    · skip
      refine V_iload_n 58 rfl (show decode M_Ground_lastTownUpTo.2.1 57 = .ok (.iload_n 2, 1) by decide +kernel) 2 rfl ?_
      exact V_iret rfl (by decide) (by decide) (show decode M_Ground_lastTownUpTo.2.1 58 = .ok (.ireturn, 1) by decide +kernel)
theorem cal_Ground_lastTownUpTo (d mc ms k n : Nat) (h1 : 3 + 1 ≤ d) (h2 : k + 0 ≤ mc) (h3 : n + 0 ≤ ms) : Cal M_Ground_lastTownUpTo 3 0 0 1 d mc ms k n := ⟨wd_1370, wd_172, by decide, h1, by decide, h2, h3⟩
abbrev M_Trail_round : MD := (⟨"LongTrail", "round", "(I)I"⟩, prog_1_method_35_code, 5, (some FieldType.int))
def f_Trail_round (h0 : Nat) (x1 : Int32) (b : Bool) (σ : Sto) : Rs Int32 := (lt_ (SR σ (SR σ h0 0) 0) (fun (h2_1 : Nat) => (bd_ (f_Ground_hasFire h2_1 x1 (((b && cK σ h0 12) && cK σ (SR σ h0 0) 11) && cK σ h2_1 2) σ) (fun (r_2 : Int32) (b_2 : Bool) (σ_2 : Sto) => (if r_2 = 0 then ((-1000000001 : Int32), b_2, σ_2) else (bd_ (f_Ground_lastTownUpTo h2_1 (SI σ_2 (SR σ_2 h2_1 5) (ix x1)) (((b_2 && cK σ_2 h2_1 2) && cA σ_2 (SR σ_2 h2_1 5) 21 x1) && cK σ_2 h2_1 2) σ_2) (fun (r_3 : Int32) (b_3 : Bool) (σ_3 : Sto) => (lt_ r_3 (fun (x3_4 : Int32) => (bd_ (f_Ground_firstTownFrom h2_1 (SI σ_3 (SR σ_3 h2_1 6) (ix x1)) (((b_3 && cK σ_3 h2_1 2) && cA σ_3 (SR σ_3 h2_1 6) 21 x1) && cK σ_3 h2_1 2) σ_3) (fun (r_5 : Int32) (b_5 : Bool) (σ_5 : Sto) => (lt_ r_5 (fun (x4_6 : Int32) => (lt_ (fun (b : Bool) (σ : Sto) => ((-1000000005 : Int32), b, σ)) (fun J51 => (if x3_4 < 0 then (J51 b_5 σ_5) else (if x4_6 < 0 then (J51 b_5 σ_5) else (bd_ (f_Supply_leastMinutes (SR σ_5 (SR σ_5 h0 0) 4) x3_4 x4_6 (((b_5 && cK σ_5 h0 12) && cK σ_5 (SR σ_5 h0 0) 11) && cK σ_5 (SR σ_5 (SR σ_5 h0 0) 4) 7) σ_5) (fun (r_7 : Int32) (b_7 : Bool) (σ_7 : Sto) => (r_7, b_7, σ_7))))))))))))))))))))
set_option maxRecDepth 100000 in
set_option maxHeartbeats 4000000 in
theorem s_Trail_round : ∀ (h0 : Nat) (x1 : Int32) (b : Bool) (σ : Sto), Snd M_Trail_round 4 0 0 [vR h0, vI x1] b σ (tI (f_Trail_round h0 x1 b σ).1) (f_Trail_round h0 x1 b σ).2.1 (f_Trail_round h0 x1 b σ).2.2 := by
  intro h0 x1 b σ
  refine Snd_of (tv := tI) (by decide) (Nat.le_of_ble_eq_true rfl) ?_
  show V M_Trail_round 4 0 0 0 0 tI (f_Trail_round h0 x1 b σ) 0 [(0, vR h0), (1, vI x1)] [] b σ
  unfold f_Trail_round
  refine V_aload_n 1 rfl (show decode M_Trail_round.2.1 0 = .ok (.aload_n 0, 1) by decide +kernel) 0 rfl ?_
  refine V_get (j := 0) (v := vR (SR σ h0 0)) 4 rfl ck_Trail (by decide) (by decide) (show decode M_Trail_round.2.1 1 = .ok (.getfield 10, 3) by decide +kernel) wd_599 rfl ?_
  refine V_getN (j := 0) (v := vR (SR σ (SR σ h0 0) 0)) 7 rfl ck_World (by decide) (by decide) (show decode M_Trail_round.2.1 4 = .ok (.getfield 49, 3) by decide +kernel) wd_498 rfl ?_
  refine V_astore_n (fun h2_1 => [(2, vR h2_1), (0, vR h0), (1, vI x1)]) 8 rfl (show decode M_Trail_round.2.1 7 = .ok (.astore_n 2, 1) by decide +kernel) (by decide) (fun _ => rfl) (fun h2_1 => ?_)
  refine V_aload_n 9 rfl (show decode M_Trail_round.2.1 8 = .ok (.aload_n 2, 1) by decide +kernel) 0 rfl ?_
  refine V_iload_n 10 rfl (show decode M_Trail_round.2.1 9 = .ok (.iload_n 1, 1) by decide +kernel) 2 rfl ?_
  refine V_callVN (tb := tI) (as := [vI x1]) (rest := []) (na := 1) 13 rfl ck_Ground (by decide) (s_Ground_hasFire h2_1 x1 (((b && cK σ h0 12) && cK σ (SR σ h0 0) 11) && cK σ h2_1 2) σ) rfl rfl (Nat.le_of_ble_eq_true rfl) (cal_Ground_hasFire _ _ _ _ _ (by decide) (by decide) (by decide)) (show decode M_Trail_round.2.1 10 = .ok (.invokevirtual 329, 3) by decide +kernel) wd_1363 wd_1365 wd_92 (fun r_2 b_2 σ_2 => ?_)
  show V M_Trail_round 4 0 0 0 0 tI _ 13 [(2, vR h2_1), (0, vR h0), (1, vI x1)] [vI r_2] b_2 σ_2
  refine V_ifne 16 19 rfl (show decode M_Trail_round.2.1 13 = .ok (.ifCond .ne 6, 3) by decide +kernel) rfl ?_ ?_
  · skip
    refine V_ldc 18 rfl (show decode M_Trail_round.2.1 16 = .ok (.ldc 44, 2) by decide +kernel) wd_631 ?_
    exact V_iret rfl (by decide) (by decide) (show decode M_Trail_round.2.1 18 = .ok (.ireturn, 1) by decide +kernel)
  · skip
    refine V_aload_n 20 rfl (show decode M_Trail_round.2.1 19 = .ok (.aload_n 2, 1) by decide +kernel) 0 rfl ?_
    refine V_aload_n 21 rfl (show decode M_Trail_round.2.1 20 = .ok (.aload_n 2, 1) by decide +kernel) 0 rfl ?_
    refine V_getN (j := 5) (v := vR (SR σ_2 h2_1 5)) 24 rfl ck_Ground (by decide) (by decide) (show decode M_Trail_round.2.1 21 = .ok (.getfield 332, 3) by decide +kernel) wd_225 rfl ?_
    refine V_iload_n 25 rfl (show decode M_Trail_round.2.1 24 = .ok (.iload_n 1, 1) by decide +kernel) 2 rfl ?_
    refine V_ald_int 26 rfl (show decode M_Trail_round.2.1 25 = .ok (.iaload, 1) by decide +kernel) ?_
    refine V_callVN (tb := tI) (as := [vI (SI σ_2 (SR σ_2 h2_1 5) (ix x1))]) (rest := []) (na := 1) 29 rfl ck_Ground (by decide) (s_Ground_lastTownUpTo h2_1 (SI σ_2 (SR σ_2 h2_1 5) (ix x1)) (((b_2 && cK σ_2 h2_1 2) && cA σ_2 (SR σ_2 h2_1 5) 21 x1) && cK σ_2 h2_1 2) σ_2) rfl rfl (Nat.le_of_ble_eq_true rfl) (cal_Ground_lastTownUpTo _ _ _ _ _ (by decide) (by decide) (by decide)) (show decode M_Trail_round.2.1 26 = .ok (.invokevirtual 335, 3) by decide +kernel) wd_1367 wd_1369 wd_93 (fun r_3 b_3 σ_3 => ?_)
    show V M_Trail_round 4 0 0 0 0 tI _ 29 [(2, vR h2_1), (0, vR h0), (1, vI x1)] [vI r_3] b_3 σ_3
    refine V_istore_n (fun x3_4 => [(3, vI x3_4), (2, vR h2_1), (0, vR h0), (1, vI x1)]) 30 rfl (show decode M_Trail_round.2.1 29 = .ok (.istore_n 3, 1) by decide +kernel) (by decide) (fun _ => rfl) (fun x3_4 => ?_)
    refine V_aload_n 31 rfl (show decode M_Trail_round.2.1 30 = .ok (.aload_n 2, 1) by decide +kernel) 1 rfl ?_
    refine V_aload_n 32 rfl (show decode M_Trail_round.2.1 31 = .ok (.aload_n 2, 1) by decide +kernel) 1 rfl ?_
    refine V_getN (j := 6) (v := vR (SR σ_3 h2_1 6)) 35 rfl ck_Ground (by decide) (by decide) (show decode M_Trail_round.2.1 32 = .ok (.getfield 338, 3) by decide +kernel) wd_227 rfl ?_
    refine V_iload_n 36 rfl (show decode M_Trail_round.2.1 35 = .ok (.iload_n 1, 1) by decide +kernel) 3 rfl ?_
    refine V_ald_int 37 rfl (show decode M_Trail_round.2.1 36 = .ok (.iaload, 1) by decide +kernel) ?_
    refine V_callVN (tb := tI) (as := [vI (SI σ_3 (SR σ_3 h2_1 6) (ix x1))]) (rest := []) (na := 1) 40 rfl ck_Ground (by decide) (s_Ground_firstTownFrom h2_1 (SI σ_3 (SR σ_3 h2_1 6) (ix x1)) (((b_3 && cK σ_3 h2_1 2) && cA σ_3 (SR σ_3 h2_1 6) 21 x1) && cK σ_3 h2_1 2) σ_3) rfl rfl (Nat.le_of_ble_eq_true rfl) (cal_Ground_firstTownFrom _ _ _ _ _ (by decide) (by decide) (by decide)) (show decode M_Trail_round.2.1 37 = .ok (.invokevirtual 341, 3) by decide +kernel) wd_1372 wd_1374 wd_94 (fun r_5 b_5 σ_5 => ?_)
    show V M_Trail_round 4 0 0 0 0 tI _ 40 [(3, vI x3_4), (2, vR h2_1), (0, vR h0), (1, vI x1)] [vI r_5] b_5 σ_5
    refine V_istore (fun x4_6 => [(4, vI x4_6), (3, vI x3_4), (2, vR h2_1), (0, vR h0), (1, vI x1)]) 42 rfl (show decode M_Trail_round.2.1 40 = .ok (.istore 4, 2) by decide +kernel) (by decide) (fun _ => rfl) (fun x4_6 => ?_)
    refine V_iload_n 43 rfl (show decode M_Trail_round.2.1 42 = .ok (.iload_n 3, 1) by decide +kernel) 1 rfl ?_
    refine V_jn (fun (J51 : Bool → Sto → Rs Int32) => ∀ (b : Bool) (σ : Sto), V M_Trail_round 4 0 0 0 0 tI (J51 b σ) 51 [] [] b σ) ?_ (fun J51 hJ51 => ?_)
    · intro b σ
      refine V_ldc 53 rfl (show decode M_Trail_round.2.1 51 = .ok (.ldc 123, 2) by decide +kernel) wd_706 ?_
      refine V_goto 69 (show decode M_Trail_round.2.1 53 = .ok (.goto 16, 3) by decide +kernel) rfl ?_
      exact V_iret rfl (by decide) (by decide) (show decode M_Trail_round.2.1 69 = .ok (.ireturn, 1) by decide +kernel)
    · skip
      refine V_iflt 46 51 rfl (show decode M_Trail_round.2.1 43 = .ok (.ifCond .lt 8, 3) by decide +kernel) rfl ?_ ?_
      · skip
        exact V_sub [] rfl (hJ51 b_5 σ_5)
      · skip
        refine V_iload 48 rfl (show decode M_Trail_round.2.1 46 = .ok (.iload 4, 2) by decide +kernel) 0 rfl ?_
        refine V_ifge 51 56 rfl (show decode M_Trail_round.2.1 48 = .ok (.ifCond .ge 8, 3) by decide +kernel) rfl ?_ ?_
        · skip
          exact V_sub [] rfl (hJ51 b_5 σ_5)
        · skip
          refine V_aload_n 57 rfl (show decode M_Trail_round.2.1 56 = .ok (.aload_n 0, 1) by decide +kernel) 3 rfl ?_
          refine V_get (j := 0) (v := vR (SR σ_5 h0 0)) 60 rfl ck_Trail (by decide) (by decide) (show decode M_Trail_round.2.1 57 = .ok (.getfield 10, 3) by decide +kernel) wd_599 rfl ?_
          refine V_getN (j := 4) (v := vR (SR σ_5 (SR σ_5 h0 0) 4)) 63 rfl ck_World (by decide) (by decide) (show decode M_Trail_round.2.1 60 = .ok (.getfield 297, 3) by decide +kernel) wd_506 rfl ?_
          refine V_iload_n 64 rfl (show decode M_Trail_round.2.1 63 = .ok (.iload_n 3, 1) by decide +kernel) 1 rfl ?_
          refine V_iload 66 rfl (show decode M_Trail_round.2.1 64 = .ok (.iload 4, 2) by decide +kernel) 0 rfl ?_
          refine V_callVN (tb := tI) (as := [vI x3_4, vI x4_6]) (rest := []) (na := 2) 69 rfl ck_Supply (by decide) (s_Supply_leastMinutes (SR σ_5 (SR σ_5 h0 0) 4) x3_4 x4_6 (((b_5 && cK σ_5 h0 12) && cK σ_5 (SR σ_5 h0 0) 11) && cK σ_5 (SR σ_5 (SR σ_5 h0 0) 4) 7) σ_5) rfl rfl (Nat.le_of_ble_eq_true rfl) (cal_Supply_leastMinutes _ _ _ _ _ (by decide) (by decide) (by decide)) (show decode M_Trail_round.2.1 66 = .ok (.invokevirtual 326, 3) by decide +kernel) wd_1351 wd_1353 wd_91 (fun r_7 b_7 σ_7 => ?_)
          show V M_Trail_round 4 0 0 0 0 tI _ 69 [(4, vI x4_6), (3, vI x3_4), (2, vR h2_1), (0, vR h0), (1, vI x1)] [vI r_7] b_7 σ_7
          exact V_iret rfl (by decide) (by decide) (show decode M_Trail_round.2.1 69 = .ok (.ireturn, 1) by decide +kernel)
theorem cal_Trail_round (d mc ms k n : Nat) (h1 : 4 + 1 ≤ d) (h2 : k + 0 ≤ mc) (h3 : n + 0 ≤ ms) : Cal M_Trail_round 4 0 0 1 d mc ms k n := ⟨wd_1362, wd_170, by decide, h1, by decide, h2, h3⟩
abbrev M_Trail_run : MD := (⟨"LongTrail", "run", "(I)I"⟩, prog_1_method_25_code, 4, (some FieldType.int))
def b_Trail_run_14 (h0 : Nat) (x1 : Int32) (L14 : Int32 → Bool → Sto → Rs Int32) (x3 : Int32) (b : Bool) (σ : Sto) : Rs Int32 := (if x3 < x1 then (bd_ (f_World_passDay (SR σ h0 0) ((b && cK σ h0 12) && cK σ (SR σ h0 0) 11) σ) (fun (r_4 : Int32) (b_4 : Bool) (σ_4 : Sto) => (lt_ (x3 + (1 : Int32)) (fun (x3_5 : Int32) => (L14 x3_5 b_4 σ_4))))) else ((SI σ (SR σ h0 0) 8), ((b && cK σ h0 12) && cK σ (SR σ h0 0) 11), σ))
def f_Trail_run (h0 : Nat) (x1 : Int32) (b : Bool) (σ : Sto) : Rs Int32 := (bd_ (f_Trail_refusalOfDays h0 x1 (b && cK σ h0 12) σ) (fun (r_1 : Int32) (b_1 : Bool) (σ_1 : Sto) => (lt_ r_1 (fun (x2_2 : Int32) => (if x2_2 = 0 then (lt_ (0 : Int32) (fun (x3_3 : Int32) => (lp_ (b_Trail_run_14 h0 x1) (fun (x3 : Int32) (b : Bool) (σ : Sto) => (0, false, σ)) fuel_ x3_3 b_1 σ_1))) else (x2_2, b_1, σ_1))))))
set_option maxRecDepth 100000 in
set_option maxHeartbeats 4000000 in
theorem s_Trail_run : ∀ (h0 : Nat) (x1 : Int32) (b : Bool) (σ : Sto), Snd M_Trail_run 7 0 0 [vR h0, vI x1] b σ (tI (f_Trail_run h0 x1 b σ).1) (f_Trail_run h0 x1 b σ).2.1 (f_Trail_run h0 x1 b σ).2.2 := by
  intro h0 x1 b σ
  refine Snd_of (tv := tI) (by decide) (Nat.le_of_ble_eq_true rfl) ?_
  show V M_Trail_run 7 0 0 0 0 tI (f_Trail_run h0 x1 b σ) 0 [(0, vR h0), (1, vI x1)] [] b σ
  unfold f_Trail_run
  refine V_aload_n 1 rfl (show decode M_Trail_run.2.1 0 = .ok (.aload_n 0, 1) by decide +kernel) 0 rfl ?_
  refine V_iload_n 2 rfl (show decode M_Trail_run.2.1 1 = .ok (.iload_n 1, 1) by decide +kernel) 1 rfl ?_
  refine V_callV (tb := tI) (as := [vI x1]) (rest := []) (na := 1) 5 rfl ck_Trail (by decide) (s_Trail_refusalOfDays h0 x1 (b && cK σ h0 12) σ) rfl rfl (Nat.le_of_ble_eq_true rfl) (cal_Trail_refusalOfDays _ _ _ _ _ (by decide) (by decide) (by decide)) (show decode M_Trail_run.2.1 2 = .ok (.invokevirtual 255, 3) by decide +kernel) wd_1079 wd_1081 wd_43 (fun r_1 b_1 σ_1 => ?_)
  show V M_Trail_run 7 0 0 0 0 tI _ 5 [(0, vR h0), (1, vI x1)] [vI r_1] b_1 σ_1
  refine V_istore_n (fun x2_2 => [(2, vI x2_2), (0, vR h0), (1, vI x1)]) 6 rfl (show decode M_Trail_run.2.1 5 = .ok (.istore_n 2, 1) by decide +kernel) (by decide) (fun _ => rfl) (fun x2_2 => ?_)
  refine V_iload_n 7 rfl (show decode M_Trail_run.2.1 6 = .ok (.iload_n 2, 1) by decide +kernel) 0 rfl ?_
  refine V_ifeq 10 12 rfl (show decode M_Trail_run.2.1 7 = .ok (.ifCond .eq 5, 3) by decide +kernel) rfl ?_ ?_
  · skip
    refine V_iconst 13 rfl (show decode M_Trail_run.2.1 12 = .ok (.iconst 0, 1) by decide +kernel) (v := 0) rfl ?_
    refine V_istore_n (fun x3_3 => [(3, vI x3_3), (2, vI x2_2), (0, vR h0), (1, vI x1)]) 14 rfl (show decode M_Trail_run.2.1 13 = .ok (.istore_n 3, 1) by decide +kernel) (by decide) (fun _ => rfl) (fun x3_3 => ?_)
    refine V_sub [2, 3, 0] rfl ?_
    refine lp_P (fun (L14 : Int32 → Bool → Sto → Rs Int32) => ∀ (x3 : Int32) (b : Bool) (σ : Sto), V M_Trail_run 7 0 0 0 0 tI (L14 x3 b σ) 14 [(0, vR h0), (1, vI x1), (3, vI x3)] [] b σ) ?_ ?_ fuel_ x3_3 b_1 σ_1
    · intro x3 b σ; exact V_bad
    · intro L14 hL14 x3 b σ
      unfold b_Trail_run_14
      refine V_iload_n 15 rfl (show decode M_Trail_run.2.1 14 = .ok (.iload_n 3, 1) by decide +kernel) 2 rfl ?_
      refine V_iload_n 16 rfl (show decode M_Trail_run.2.1 15 = .ok (.iload_n 1, 1) by decide +kernel) 1 rfl ?_
      refine V_icmpge 19 33 rfl (show decode M_Trail_run.2.1 16 = .ok (.if_icmp .ge 17, 3) by decide +kernel) rfl ?_ ?_
      · skip
        refine V_aload_n 20 rfl (show decode M_Trail_run.2.1 19 = .ok (.aload_n 0, 1) by decide +kernel) 0 rfl ?_
        refine V_get (j := 0) (v := vR (SR σ h0 0)) 23 rfl ck_Trail (by decide) (by decide) (show decode M_Trail_run.2.1 20 = .ok (.getfield 10, 3) by decide +kernel) wd_599 rfl ?_
        refine V_callVN (tb := tI) (as := []) (rest := []) (na := 0) 26 rfl ck_World (by decide) (s_World_passDay (SR σ h0 0) ((b && cK σ h0 12) && cK σ (SR σ h0 0) 11) σ) rfl rfl (Nat.le_of_ble_eq_true rfl) (cal_World_passDay _ _ _ _ _ (by decide) (by decide) (by decide)) (show decode M_Trail_run.2.1 23 = .ok (.invokevirtual 258, 3) by decide +kernel) wd_1083 wd_1085 wd_44 (fun r_4 b_4 σ_4 => ?_)
        show V M_Trail_run 7 0 0 0 0 tI _ 26 [(0, vR h0), (1, vI x1), (3, vI x3)] [vI r_4] b_4 σ_4
        refine V_pop 27 rfl (show decode M_Trail_run.2.1 26 = .ok (.pop, 1) by decide +kernel) rfl ?_
        refine V_iinc (fun x3_5 => [(3, vI x3_5), (0, vR h0), (1, vI x1)]) 30 rfl (show decode M_Trail_run.2.1 27 = .ok (.iinc 3 1, 3) by decide +kernel) 2 rfl (w := 1) rfl (by decide) (fun _ => rfl) (fun x3_5 => ?_)
        refine V_goto 14 (show decode M_Trail_run.2.1 30 = .ok (.goto (-16), 3) by decide +kernel) rfl ?_
        exact V_sub [1, 2, 0] rfl (hL14 x3_5 b_4 σ_4)
      · skip
        refine V_aload_n 34 rfl (show decode M_Trail_run.2.1 33 = .ok (.aload_n 0, 1) by decide +kernel) 0 rfl ?_
        refine V_get (j := 0) (v := vR (SR σ h0 0)) 37 rfl ck_Trail (by decide) (by decide) (show decode M_Trail_run.2.1 34 = .ok (.getfield 10, 3) by decide +kernel) wd_599 rfl ?_
        refine V_getN (j := 8) (v := vI (SI σ (SR σ h0 0) 8)) 40 rfl ck_World (by decide) (by decide) (show decode M_Trail_run.2.1 37 = .ok (.getfield 138, 3) by decide +kernel) wd_514 rfl ?_
        exact V_iret rfl (by decide) (by decide) (show decode M_Trail_run.2.1 40 = .ok (.ireturn, 1) by decide +kernel)
  · skip
    refine V_iload_n 11 rfl (show decode M_Trail_run.2.1 10 = .ok (.iload_n 2, 1) by decide +kernel) 0 rfl ?_
    exact V_iret rfl (by decide) (by decide) (show decode M_Trail_run.2.1 11 = .ok (.ireturn, 1) by decide +kernel)
theorem cal_Trail_run (d mc ms k n : Nat) (h1 : 7 + 1 ≤ d) (h2 : k + 0 ≤ mc) (h3 : n + 0 ≤ ms) : Cal M_Trail_run 7 0 0 1 d mc ms k n := ⟨wd_1078, wd_170, by decide, h1, by decide, h2, h3⟩
abbrev M_Trail_send : MD := (⟨"LongTrail", "send", "(III)I"⟩, prog_1_method_23_code, 4, (some FieldType.int))
def f_Trail_send (h0 : Nat) (x1 : Int32) (x2 : Int32) (x3 : Int32) (b : Bool) (σ : Sto) : Rs Int32 := (bd_ (f_Post_hasBox (SR σ (SR σ h0 0) 2) x1 (((b && cK σ h0 12) && cK σ (SR σ h0 0) 11) && cK σ (SR σ (SR σ h0 0) 2) 5) σ) (fun (r_1 : Int32) (b_1 : Bool) (σ_1 : Sto) => (lt_ (fun (b : Bool) (σ : Sto) => ((-1000000001 : Int32), b, σ)) (fun J38 => (if r_1 = 0 then (J38 b_1 σ_1) else (bd_ (f_Ground_hasPlace (SR σ_1 (SR σ_1 h0 0) 0) x2 (((b_1 && cK σ_1 h0 12) && cK σ_1 (SR σ_1 h0 0) 11) && cK σ_1 (SR σ_1 (SR σ_1 h0 0) 0) 2) σ_1) (fun (r_2 : Int32) (b_2 : Bool) (σ_2 : Sto) => (if r_2 = 0 then (J38 b_2 σ_2) else (bd_ (f_Trail_within x3 (0 : Int32) (99 : Int32) b_2 σ_2) (fun (r_3 : Int32) (b_3 : Bool) (σ_3 : Sto) => (if r_3 = 0 then (J38 b_3 σ_3) else (bd_ (f_Ground_isTown (SR σ_3 (SR σ_3 h0 0) 0) x2 (((b_3 && cK σ_3 h0 12) && cK σ_3 (SR σ_3 h0 0) 11) && cK σ_3 (SR σ_3 (SR σ_3 h0 0) 0) 2) σ_3) (fun (r_4 : Int32) (b_4 : Bool) (σ_4 : Sto) => (if r_4 = 0 then ((-1000000012 : Int32), b_4, σ_4) else (if (SI σ_4 (SR σ_4 (SR σ_4 (SR σ_4 h0 0) 2) 4) (ix x1)) = 0 then (lt_ (pI σ_4 (SR σ_4 (SR σ_4 (SR σ_4 h0 0) 2) 1) (ix x1) x2) (fun (σ_5 : Sto) => (lt_ (pI σ_5 (SR σ_5 (SR σ_5 (SR σ_5 h0 0) 2) 3) (ix x1) ((SI σ_5 (SR σ_5 h0 0) 8) + x3)) (fun (σ_6 : Sto) => ((1 : Int32), ((((((((((((((b_4 && cK σ_4 h0 12) && cK σ_4 (SR σ_4 h0 0) 11) && cK σ_4 (SR σ_4 (SR σ_4 h0 0) 2) 5) && cA σ_4 (SR σ_4 (SR σ_4 (SR σ_4 h0 0) 2) 4) 21 x1) && cK σ_4 h0 12) && cK σ_4 (SR σ_4 h0 0) 11) && cK σ_4 (SR σ_4 (SR σ_4 h0 0) 2) 5) && cA σ_4 (SR σ_4 (SR σ_4 (SR σ_4 h0 0) 2) 1) 21 x1) && cK σ_5 h0 12) && cK σ_5 (SR σ_5 h0 0) 11) && cK σ_5 (SR σ_5 (SR σ_5 h0 0) 2) 5) && cK σ_5 h0 12) && cK σ_5 (SR σ_5 h0 0) 11) && cA σ_5 (SR σ_5 (SR σ_5 (SR σ_5 h0 0) 2) 3) 21 x1), σ_6))))) else ((-1000000002 : Int32), ((((b_4 && cK σ_4 h0 12) && cK σ_4 (SR σ_4 h0 0) 11) && cK σ_4 (SR σ_4 (SR σ_4 h0 0) 2) 5) && cA σ_4 (SR σ_4 (SR σ_4 (SR σ_4 h0 0) 2) 4) 21 x1), σ_4))))))))))))))))
set_option maxRecDepth 100000 in
set_option maxHeartbeats 4000000 in
theorem s_Trail_send : ∀ (h0 : Nat) (x1 : Int32) (x2 : Int32) (x3 : Int32) (b : Bool) (σ : Sto), Snd M_Trail_send 3 0 0 [vR h0, vI x1, vI x2, vI x3] b σ (tI (f_Trail_send h0 x1 x2 x3 b σ).1) (f_Trail_send h0 x1 x2 x3 b σ).2.1 (f_Trail_send h0 x1 x2 x3 b σ).2.2 := by
  intro h0 x1 x2 x3 b σ
  refine Snd_of (tv := tI) (by decide) (Nat.le_of_ble_eq_true rfl) ?_
  show V M_Trail_send 3 0 0 0 0 tI (f_Trail_send h0 x1 x2 x3 b σ) 0 [(0, vR h0), (1, vI x1), (2, vI x2), (3, vI x3)] [] b σ
  unfold f_Trail_send
  refine V_aload_n 1 rfl (show decode M_Trail_send.2.1 0 = .ok (.aload_n 0, 1) by decide +kernel) 0 rfl ?_
  refine V_get (j := 0) (v := vR (SR σ h0 0)) 4 rfl ck_Trail (by decide) (by decide) (show decode M_Trail_send.2.1 1 = .ok (.getfield 10, 3) by decide +kernel) wd_599 rfl ?_
  refine V_getN (j := 2) (v := vR (SR σ (SR σ h0 0) 2)) 7 rfl ck_World (by decide) (by decide) (show decode M_Trail_send.2.1 4 = .ok (.getfield 107, 3) by decide +kernel) wd_502 rfl ?_
  refine V_iload_n 8 rfl (show decode M_Trail_send.2.1 7 = .ok (.iload_n 1, 1) by decide +kernel) 1 rfl ?_
  refine V_callVN (tb := tI) (as := [vI x1]) (rest := []) (na := 1) 11 rfl ck_Post (by decide) (s_Post_hasBox (SR σ (SR σ h0 0) 2) x1 (((b && cK σ h0 12) && cK σ (SR σ h0 0) 11) && cK σ (SR σ (SR σ h0 0) 2) 5) σ) rfl rfl (Nat.le_of_ble_eq_true rfl) (cal_Post_hasBox _ _ _ _ _ (by decide) (by decide) (by decide)) (show decode M_Trail_send.2.1 8 = .ok (.invokevirtual 237, 3) by decide +kernel) wd_1066 wd_1068 wd_42 (fun r_1 b_1 σ_1 => ?_)
  show V M_Trail_send 3 0 0 0 0 tI _ 11 [(0, vR h0), (1, vI x1), (2, vI x2), (3, vI x3)] [vI r_1] b_1 σ_1
  refine V_jn (fun (J38 : Bool → Sto → Rs Int32) => ∀ (b : Bool) (σ : Sto), V M_Trail_send 3 0 0 0 0 tI (J38 b σ) 38 [] [] b σ) ?_ (fun J38 hJ38 => ?_)
  · intro b σ
    refine V_ldc 40 rfl (show decode M_Trail_send.2.1 38 = .ok (.ldc 44, 2) by decide +kernel) wd_631 ?_
    exact V_iret rfl (by decide) (by decide) (show decode M_Trail_send.2.1 40 = .ok (.ireturn, 1) by decide +kernel)
  · skip
    refine V_ifeq 14 38 rfl (show decode M_Trail_send.2.1 11 = .ok (.ifCond .eq 27, 3) by decide +kernel) rfl ?_ ?_
    · skip
      exact V_sub [] rfl (hJ38 b_1 σ_1)
    · skip
      refine V_aload_n 15 rfl (show decode M_Trail_send.2.1 14 = .ok (.aload_n 0, 1) by decide +kernel) 0 rfl ?_
      refine V_get (j := 0) (v := vR (SR σ_1 h0 0)) 18 rfl ck_Trail (by decide) (by decide) (show decode M_Trail_send.2.1 15 = .ok (.getfield 10, 3) by decide +kernel) wd_599 rfl ?_
      refine V_getN (j := 0) (v := vR (SR σ_1 (SR σ_1 h0 0) 0)) 21 rfl ck_World (by decide) (by decide) (show decode M_Trail_send.2.1 18 = .ok (.getfield 49, 3) by decide +kernel) wd_498 rfl ?_
      refine V_iload_n 22 rfl (show decode M_Trail_send.2.1 21 = .ok (.iload_n 2, 1) by decide +kernel) 2 rfl ?_
      refine V_callVN (tb := tI) (as := [vI x2]) (rest := []) (na := 1) 25 rfl ck_Ground (by decide) (s_Ground_hasPlace (SR σ_1 (SR σ_1 h0 0) 0) x2 (((b_1 && cK σ_1 h0 12) && cK σ_1 (SR σ_1 h0 0) 11) && cK σ_1 (SR σ_1 (SR σ_1 h0 0) 0) 2) σ_1) rfl rfl (Nat.le_of_ble_eq_true rfl) (cal_Ground_hasPlace _ _ _ _ _ (by decide) (by decide) (by decide)) (show decode M_Trail_send.2.1 22 = .ok (.invokevirtual 89, 3) by decide +kernel) wd_666 wd_668 wd_5 (fun r_2 b_2 σ_2 => ?_)
      show V M_Trail_send 3 0 0 0 0 tI _ 25 [(0, vR h0), (1, vI x1), (2, vI x2), (3, vI x3)] [vI r_2] b_2 σ_2
      refine V_ifeq 28 38 rfl (show decode M_Trail_send.2.1 25 = .ok (.ifCond .eq 13, 3) by decide +kernel) rfl ?_ ?_
      · skip
        exact V_sub [] rfl (hJ38 b_2 σ_2)
      · skip
        refine V_iload_n 29 rfl (show decode M_Trail_send.2.1 28 = .ok (.iload_n 3, 1) by decide +kernel) 3 rfl ?_
        refine V_iconst 30 rfl (show decode M_Trail_send.2.1 29 = .ok (.iconst 0, 1) by decide +kernel) (v := 0) rfl ?_
        refine V_bipush 32 rfl (show decode M_Trail_send.2.1 30 = .ok (.bipush 99, 2) by decide +kernel) (v := 99) rfl ?_
        refine V_callS (tb := tI) (as := [vI x3, vI (0 : Int32), vI (99 : Int32)]) (rest := []) (na := 3) 35 rfl (s_Trail_within x3 (0 : Int32) (99 : Int32) b_2 σ_2) rfl rfl (Nat.le_of_ble_eq_true rfl) (cal_Trail_within _ _ _ _ _ (by decide) (by decide) (by decide)) (show decode M_Trail_send.2.1 32 = .ok (.invokestatic 40, 3) by decide +kernel) wd_628 wd_629 (fun r_3 b_3 σ_3 => ?_)
        show V M_Trail_send 3 0 0 0 0 tI _ 35 [(0, vR h0), (1, vI x1), (2, vI x2), (3, vI x3)] [vI r_3] b_3 σ_3
        refine V_ifne 38 41 rfl (show decode M_Trail_send.2.1 35 = .ok (.ifCond .ne 6, 3) by decide +kernel) rfl ?_ ?_
        · skip
          exact V_sub [] rfl (hJ38 b_3 σ_3)
        · skip
          refine V_aload_n 42 rfl (show decode M_Trail_send.2.1 41 = .ok (.aload_n 0, 1) by decide +kernel) 0 rfl ?_
          refine V_get (j := 0) (v := vR (SR σ_3 h0 0)) 45 rfl ck_Trail (by decide) (by decide) (show decode M_Trail_send.2.1 42 = .ok (.getfield 10, 3) by decide +kernel) wd_599 rfl ?_
          refine V_getN (j := 0) (v := vR (SR σ_3 (SR σ_3 h0 0) 0)) 48 rfl ck_World (by decide) (by decide) (show decode M_Trail_send.2.1 45 = .ok (.getfield 49, 3) by decide +kernel) wd_498 rfl ?_
          refine V_iload_n 49 rfl (show decode M_Trail_send.2.1 48 = .ok (.iload_n 2, 1) by decide +kernel) 2 rfl ?_
          refine V_callVN (tb := tI) (as := [vI x2]) (rest := []) (na := 1) 52 rfl ck_Ground (by decide) (s_Ground_isTown (SR σ_3 (SR σ_3 h0 0) 0) x2 (((b_3 && cK σ_3 h0 12) && cK σ_3 (SR σ_3 h0 0) 11) && cK σ_3 (SR σ_3 (SR σ_3 h0 0) 0) 2) σ_3) rfl rfl (Nat.le_of_ble_eq_true rfl) (cal_Ground_isTown _ _ _ _ _ (by decide) (by decide) (by decide)) (show decode M_Trail_send.2.1 49 = .ok (.invokevirtual 120, 3) by decide +kernel) wd_697 wd_699 wd_10 (fun r_4 b_4 σ_4 => ?_)
          show V M_Trail_send 3 0 0 0 0 tI _ 52 [(0, vR h0), (1, vI x1), (2, vI x2), (3, vI x3)] [vI r_4] b_4 σ_4
          refine V_ifne 55 58 rfl (show decode M_Trail_send.2.1 52 = .ok (.ifCond .ne 6, 3) by decide +kernel) rfl ?_ ?_
          · skip
            refine V_ldc 57 rfl (show decode M_Trail_send.2.1 55 = .ok (.ldc 119, 2) by decide +kernel) wd_692 ?_
            exact V_iret rfl (by decide) (by decide) (show decode M_Trail_send.2.1 57 = .ok (.ireturn, 1) by decide +kernel)
          · skip
            refine V_aload_n 59 rfl (show decode M_Trail_send.2.1 58 = .ok (.aload_n 0, 1) by decide +kernel) 0 rfl ?_
            refine V_get (j := 0) (v := vR (SR σ_4 h0 0)) 62 rfl ck_Trail (by decide) (by decide) (show decode M_Trail_send.2.1 59 = .ok (.getfield 10, 3) by decide +kernel) wd_599 rfl ?_
            refine V_getN (j := 2) (v := vR (SR σ_4 (SR σ_4 h0 0) 2)) 65 rfl ck_World (by decide) (by decide) (show decode M_Trail_send.2.1 62 = .ok (.getfield 107, 3) by decide +kernel) wd_502 rfl ?_
            refine V_getN (j := 4) (v := vR (SR σ_4 (SR σ_4 (SR σ_4 h0 0) 2) 4)) 68 rfl ck_Post (by decide) (by decide) (show decode M_Trail_send.2.1 65 = .ok (.getfield 240, 3) by decide +kernel) wd_306 rfl ?_
            refine V_iload_n 69 rfl (show decode M_Trail_send.2.1 68 = .ok (.iload_n 1, 1) by decide +kernel) 1 rfl ?_
            refine V_ald_int 70 rfl (show decode M_Trail_send.2.1 69 = .ok (.iaload, 1) by decide +kernel) ?_
            refine V_ifeq 73 76 rfl (show decode M_Trail_send.2.1 70 = .ok (.ifCond .eq 6, 3) by decide +kernel) rfl ?_ ?_
            · skip
              refine V_aload_n 77 rfl (show decode M_Trail_send.2.1 76 = .ok (.aload_n 0, 1) by decide +kernel) 0 rfl ?_
              refine V_get (j := 0) (v := vR (SR σ_4 h0 0)) 80 rfl ck_Trail (by decide) (by decide) (show decode M_Trail_send.2.1 77 = .ok (.getfield 10, 3) by decide +kernel) wd_599 rfl ?_
              refine V_getN (j := 2) (v := vR (SR σ_4 (SR σ_4 h0 0) 2)) 83 rfl ck_World (by decide) (by decide) (show decode M_Trail_send.2.1 80 = .ok (.getfield 107, 3) by decide +kernel) wd_502 rfl ?_
              refine V_getN (j := 1) (v := vR (SR σ_4 (SR σ_4 (SR σ_4 h0 0) 2) 1)) 86 rfl ck_Post (by decide) (by decide) (show decode M_Trail_send.2.1 83 = .ok (.getfield 243, 3) by decide +kernel) wd_300 rfl ?_
              refine V_iload_n 87 rfl (show decode M_Trail_send.2.1 86 = .ok (.iload_n 1, 1) by decide +kernel) 1 rfl ?_
              refine V_iload_n 88 rfl (show decode M_Trail_send.2.1 87 = .ok (.iload_n 2, 1) by decide +kernel) 2 rfl ?_
              refine V_ast_int 89 rfl (show decode M_Trail_send.2.1 88 = .ok (.iastore, 1) by decide +kernel) (fun σ_5 => ?_)
              refine V_aload_n 90 rfl (show decode M_Trail_send.2.1 89 = .ok (.aload_n 0, 1) by decide +kernel) 0 rfl ?_
              refine V_get (j := 0) (v := vR (SR σ_5 h0 0)) 93 rfl ck_Trail (by decide) (by decide) (show decode M_Trail_send.2.1 90 = .ok (.getfield 10, 3) by decide +kernel) wd_599 rfl ?_
              refine V_getN (j := 2) (v := vR (SR σ_5 (SR σ_5 h0 0) 2)) 96 rfl ck_World (by decide) (by decide) (show decode M_Trail_send.2.1 93 = .ok (.getfield 107, 3) by decide +kernel) wd_502 rfl ?_
              refine V_getN (j := 3) (v := vR (SR σ_5 (SR σ_5 (SR σ_5 h0 0) 2) 3)) 99 rfl ck_Post (by decide) (by decide) (show decode M_Trail_send.2.1 96 = .ok (.getfield 246, 3) by decide +kernel) wd_304 rfl ?_
              refine V_iload_n 100 rfl (show decode M_Trail_send.2.1 99 = .ok (.iload_n 1, 1) by decide +kernel) 1 rfl ?_
              refine V_aload_n 101 rfl (show decode M_Trail_send.2.1 100 = .ok (.aload_n 0, 1) by decide +kernel) 0 rfl ?_
              refine V_get (j := 0) (v := vR (SR σ_5 h0 0)) 104 rfl ck_Trail (by decide) (by decide) (show decode M_Trail_send.2.1 101 = .ok (.getfield 10, 3) by decide +kernel) wd_599 rfl ?_
              refine V_getN (j := 8) (v := vI (SI σ_5 (SR σ_5 h0 0) 8)) 107 rfl ck_World (by decide) (by decide) (show decode M_Trail_send.2.1 104 = .ok (.getfield 138, 3) by decide +kernel) wd_514 rfl ?_
              refine V_iload_n 108 rfl (show decode M_Trail_send.2.1 107 = .ok (.iload_n 3, 1) by decide +kernel) 3 rfl ?_
              refine V_iadd 109 rfl (show decode M_Trail_send.2.1 108 = .ok (.iadd, 1) by decide +kernel) ?_
              refine V_ast_int 110 rfl (show decode M_Trail_send.2.1 109 = .ok (.iastore, 1) by decide +kernel) (fun σ_6 => ?_)
              refine V_iconst 111 rfl (show decode M_Trail_send.2.1 110 = .ok (.iconst 1, 1) by decide +kernel) (v := 1) rfl ?_
              exact V_iret rfl (by decide) (by decide) (show decode M_Trail_send.2.1 111 = .ok (.ireturn, 1) by decide +kernel)
            · skip
              refine V_ldc 75 rfl (show decode M_Trail_send.2.1 73 = .ok (.ldc 66, 2) by decide +kernel) wd_640 ?_
              exact V_iret rfl (by decide) (by decide) (show decode M_Trail_send.2.1 75 = .ok (.ireturn, 1) by decide +kernel)
theorem cal_Trail_send (d mc ms k n : Nat) (h1 : 3 + 1 ≤ d) (h2 : k + 0 ≤ mc) (h3 : n + 0 ≤ ms) : Cal M_Trail_send 3 0 0 3 d mc ms k n := ⟨wd_1065, wd_170, by decide, h1, by decide, h2, h3⟩
abbrev M_Arrays_fill_rJJV : MD := (⟨"java/util/Arrays", "fill", "([JJ)V"⟩, prog_22_method_101_code, 5, (none : Option FieldType))
def b_Arrays_fill_rJJV_6 (h0 : Nat) (l1 : Int64) (x4_2 : Int32) (L6 : Int32 → Bool → Sto → Rs Unit) (x3 : Int32) (b : Bool) (σ : Sto) : Rs Unit := (if x3 < x4_2 then (lt_ (pL σ h0 (ix x3) l1) (fun (σ_3 : Sto) => (lt_ (x3 + (1 : Int32)) (fun (x3_4 : Int32) => (L6 x3_4 (b && cA σ h0 23 x3) σ_3))))) else ((), b, σ))
def f_Arrays_fill_rJJV (h0 : Nat) (l1 : Int64) (b : Bool) (σ : Sto) : Rs Unit := (lt_ (0 : Int32) (fun (x3_1 : Int32) => (lt_ (Int32.ofNat (Sln σ h0)) (fun (x4_2 : Int32) => (lp_ (b_Arrays_fill_rJJV_6 h0 l1 x4_2) (fun (x3 : Int32) (b : Bool) (σ : Sto) => ((), false, σ)) fuel_ x3_1 (b && cK σ h0 23) σ)))))
set_option maxRecDepth 100000 in
set_option maxHeartbeats 4000000 in
theorem s_Arrays_fill_rJJV : ∀ (h0 : Nat) (l1 : Int64) (b : Bool) (σ : Sto), Snd M_Arrays_fill_rJJV 1 0 0 [vR h0, vL l1] b σ (tU (f_Arrays_fill_rJJV h0 l1 b σ).1) (f_Arrays_fill_rJJV h0 l1 b σ).2.1 (f_Arrays_fill_rJJV h0 l1 b σ).2.2 := by
  intro h0 l1 b σ
  refine Snd_of (tv := tU) (by decide) (Nat.le_of_ble_eq_true rfl) ?_
  show V M_Arrays_fill_rJJV 1 0 0 0 0 tU (f_Arrays_fill_rJJV h0 l1 b σ) 0 [(0, vR h0), (1, vL l1)] [] b σ
  unfold f_Arrays_fill_rJJV
  refine V_iconst 1 rfl (show decode M_Arrays_fill_rJJV.2.1 0 = .ok (.iconst 0, 1) by decide +kernel) (v := 0) rfl ?_
  refine V_istore_n (fun x3_1 => [(3, vI x3_1), (0, vR h0), (1, vL l1)]) 2 rfl (show decode M_Arrays_fill_rJJV.2.1 1 = .ok (.istore_n 3, 1) by decide +kernel) (by decide) (fun _ => rfl) (fun x3_1 => ?_)
  refine V_aload_n 3 rfl (show decode M_Arrays_fill_rJJV.2.1 2 = .ok (.aload_n 0, 1) by decide +kernel) 1 rfl ?_
  refine V_alen_long 4 rfl (show decode M_Arrays_fill_rJJV.2.1 3 = .ok (.arraylength, 1) by decide +kernel) ?_
  refine V_istore (fun x4_2 => [(4, vI x4_2), (3, vI x3_1), (0, vR h0), (1, vL l1)]) 6 rfl (show decode M_Arrays_fill_rJJV.2.1 4 = .ok (.istore 4, 2) by decide +kernel) (by decide) (fun _ => rfl) (fun x4_2 => ?_)
  refine V_sub [2, 3, 1, 0] rfl ?_
  refine lp_P (fun (L6 : Int32 → Bool → Sto → Rs Unit) => ∀ (x3 : Int32) (b : Bool) (σ : Sto), V M_Arrays_fill_rJJV 1 0 0 0 0 tU (L6 x3 b σ) 6 [(0, vR h0), (1, vL l1), (3, vI x3), (4, vI x4_2)] [] b σ) ?_ ?_ fuel_ x3_1 (b && cK σ h0 23) σ
  · intro x3 b σ; exact V_bad
  · intro L6 hL6 x3 b σ
    unfold b_Arrays_fill_rJJV_6
    refine V_iload_n 7 rfl (show decode M_Arrays_fill_rJJV.2.1 6 = .ok (.iload_n 3, 1) by decide +kernel) 2 rfl ?_
    refine V_iload 9 rfl (show decode M_Arrays_fill_rJJV.2.1 7 = .ok (.iload 4, 2) by decide +kernel) 3 rfl ?_
    refine V_icmpge 12 22 rfl (show decode M_Arrays_fill_rJJV.2.1 9 = .ok (.if_icmp .ge 13, 3) by decide +kernel) rfl ?_ ?_
    · skip
      refine V_aload_n 13 rfl (show decode M_Arrays_fill_rJJV.2.1 12 = .ok (.aload_n 0, 1) by decide +kernel) 0 rfl ?_
      refine V_iload_n 14 rfl (show decode M_Arrays_fill_rJJV.2.1 13 = .ok (.iload_n 3, 1) by decide +kernel) 2 rfl ?_
      refine V_lload_n 15 rfl (show decode M_Arrays_fill_rJJV.2.1 14 = .ok (.lload_n 1, 1) by decide +kernel) 1 rfl ?_
      refine V_ast_long 16 rfl (show decode M_Arrays_fill_rJJV.2.1 15 = .ok (.lastore, 1) by decide +kernel) (fun σ_3 => ?_)
      refine V_iinc (fun x3_4 => [(3, vI x3_4), (0, vR h0), (1, vL l1), (4, vI x4_2)]) 19 rfl (show decode M_Arrays_fill_rJJV.2.1 16 = .ok (.iinc 3 1, 3) by decide +kernel) 2 rfl (w := 1) rfl (by decide) (fun _ => rfl) (fun x3_4 => ?_)
      refine V_goto 6 (show decode M_Arrays_fill_rJJV.2.1 19 = .ok (.goto (-13), 3) by decide +kernel) rfl ?_
      exact V_sub [1, 2, 0, 3] rfl (hL6 x3_4 (b && cA σ h0 23 x3) σ_3)
    · skip
      exact V_vret rfl (by decide) (by decide) (show decode M_Arrays_fill_rJJV.2.1 22 = .ok (.return_, 1) by decide +kernel)
theorem cal_Arrays_fill_rJJV (d mc ms k n : Nat) (h1 : 1 + 1 ≤ d) (h2 : k + 0 ≤ mc) (h3 : n + 0 ≤ ms) : Cal M_Arrays_fill_rJJV 1 0 0 2 d mc ms k n := ⟨wd_1433, wd_189, by decide, h1, by decide, h2, h3⟩
abbrev M_Sheet_clearAs : MD := (⟨"LongTrail$Sheet", "clearAs", "(II)V"⟩, prog_7_method_2_code, 3, (none : Option FieldType))
def f_Sheet_clearAs (h0 : Nat) (x1 : Int32) (x2 : Int32) (b : Bool) (σ : Sto) : Rs Unit := (lt_ (pI σ h0 0 x1) (fun (σ_1 : Sto) => (lt_ (pI σ_1 h0 1 x2) (fun (σ_2 : Sto) => (bd_ (f_Arrays_fill_rJJV (SR σ_2 h0 2) (0 : Int64) (((b && cK σ h0 6) && cK σ_1 h0 6) && cK σ_2 h0 6) σ_2) (fun (r_3 : Unit) (b_3 : Bool) (σ_3 : Sto) => ((), b_3, σ_3)))))))
set_option maxRecDepth 100000 in
set_option maxHeartbeats 4000000 in
theorem s_Sheet_clearAs : ∀ (h0 : Nat) (x1 : Int32) (x2 : Int32) (b : Bool) (σ : Sto), Snd M_Sheet_clearAs 2 0 0 [vR h0, vI x1, vI x2] b σ (tU (f_Sheet_clearAs h0 x1 x2 b σ).1) (f_Sheet_clearAs h0 x1 x2 b σ).2.1 (f_Sheet_clearAs h0 x1 x2 b σ).2.2 := by
  intro h0 x1 x2 b σ
  refine Snd_of (tv := tU) (by decide) (Nat.le_of_ble_eq_true rfl) ?_
  show V M_Sheet_clearAs 2 0 0 0 0 tU (f_Sheet_clearAs h0 x1 x2 b σ) 0 [(0, vR h0), (1, vI x1), (2, vI x2)] [] b σ
  unfold f_Sheet_clearAs
  refine V_aload_n 1 rfl (show decode M_Sheet_clearAs.2.1 0 = .ok (.aload_n 0, 1) by decide +kernel) 0 rfl ?_
  refine V_iload_n 2 rfl (show decode M_Sheet_clearAs.2.1 1 = .ok (.iload_n 1, 1) by decide +kernel) 1 rfl ?_
  refine V_putI (j := 0) 5 rfl ck_Sheet (by decide) (by decide) (show decode M_Sheet_clearAs.2.1 2 = .ok (.putfield 9, 3) by decide +kernel) wd_586 rfl (fun _ => rfl) rfl rfl (fun σ_1 => ?_)
  refine V_aload_n 6 rfl (show decode M_Sheet_clearAs.2.1 5 = .ok (.aload_n 0, 1) by decide +kernel) 0 rfl ?_
  refine V_iload_n 7 rfl (show decode M_Sheet_clearAs.2.1 6 = .ok (.iload_n 2, 1) by decide +kernel) 2 rfl ?_
  refine V_putI (j := 1) 10 rfl ck_Sheet (by decide) (by decide) (show decode M_Sheet_clearAs.2.1 7 = .ok (.putfield 17, 3) by decide +kernel) wd_588 rfl (fun _ => rfl) rfl rfl (fun σ_2 => ?_)
  refine V_aload_n 11 rfl (show decode M_Sheet_clearAs.2.1 10 = .ok (.aload_n 0, 1) by decide +kernel) 0 rfl ?_
  refine V_get (j := 2) (v := vR (SR σ_2 h0 2)) 14 rfl ck_Sheet (by decide) (by decide) (show decode M_Sheet_clearAs.2.1 11 = .ok (.getfield 13, 3) by decide +kernel) wd_590 rfl ?_
  refine V_lconst 15 rfl (show decode M_Sheet_clearAs.2.1 14 = .ok (.lconst 0, 1) by decide +kernel) (v := 0) rfl ?_
  refine V_callS (tb := tU) (as := [vR (SR σ_2 h0 2), vL (0 : Int64)]) (rest := []) (na := 2) 18 rfl (s_Arrays_fill_rJJV (SR σ_2 h0 2) (0 : Int64) (((b && cK σ h0 6) && cK σ_1 h0 6) && cK σ_2 h0 6) σ_2) rfl rfl (Nat.le_of_ble_eq_true rfl) (cal_Arrays_fill_rJJV _ _ _ _ _ (by decide) (by decide) (by decide)) (show decode M_Sheet_clearAs.2.1 15 = .ok (.invokestatic 20, 3) by decide +kernel) wd_1431 wd_1432 (fun r_3 b_3 σ_3 => ?_)
  show V M_Sheet_clearAs 2 0 0 0 0 tU _ 18 [(0, vR h0), (1, vI x1), (2, vI x2)] [] b_3 σ_3
  exact V_vret rfl (by decide) (by decide) (show decode M_Sheet_clearAs.2.1 18 = .ok (.return_, 1) by decide +kernel)
theorem cal_Sheet_clearAs (d mc ms k n : Nat) (h1 : 2 + 1 ≤ d) (h2 : k + 0 ≤ mc) (h3 : n + 0 ≤ ms) : Cal M_Sheet_clearAs 2 0 0 2 d mc ms k n := ⟨wd_1430, wd_180, by decide, h1, by decide, h2, h3⟩
abbrev M_Trail_sheet : MD := (⟨"LongTrail", "sheet", "(III)I"⟩, prog_1_method_38_code, 4, (some FieldType.int))
def f_Trail_sheet (h0 : Nat) (x1 : Int32) (x2 : Int32) (x3 : Int32) (b : Bool) (σ : Sto) : Rs Int32 := (bd_ (f_Trail_hasSheet h0 x1 (b && cK σ h0 12) σ) (fun (r_1 : Int32) (b_1 : Bool) (σ_1 : Sto) => (lt_ (fun (b : Bool) (σ : Sto) => ((-1000000001 : Int32), b, σ)) (fun J17 => (if r_1 = 0 then (J17 b_1 σ_1) else (bd_ (f_Trail_within x2 (-1 : Int32) (2 : Int32) b_1 σ_1) (fun (r_2 : Int32) (b_2 : Bool) (σ_2 : Sto) => (if r_2 = 0 then (J17 b_2 σ_2) else (if x2 = (-1 : Int32) then (bd_ (f_Sheet_clearAs (SR σ_2 (SR σ_2 h0 4) (ix x1)) (-1 : Int32) (0 : Int32) (((b_2 && cK σ_2 h0 12) && cA σ_2 (SR σ_2 h0 4) 27 x1) && cK σ_2 (SR σ_2 (SR σ_2 h0 4) (ix x1)) 6) σ_2) (fun (r_3 : Unit) (b_3 : Bool) (σ_3 : Sto) => ((0 : Int32), b_3, σ_3))) else (if (24 : Int32) < x3 then ((-1000000001 : Int32), b_2, σ_2) else (if x3 < 0 then ((-1000000014 : Int32), b_2, σ_2) else (bd_ (f_Sheet_clearAs (SR σ_2 (SR σ_2 h0 4) (ix x1)) x2 x3 (((b_2 && cK σ_2 h0 12) && cA σ_2 (SR σ_2 h0 4) 27 x1) && cK σ_2 (SR σ_2 (SR σ_2 h0 4) (ix x1)) 6) σ_2) (fun (r_4 : Unit) (b_4 : Bool) (σ_4 : Sto) => (x3, b_4, σ_4))))))))))))))
set_option maxRecDepth 100000 in
set_option maxHeartbeats 4000000 in
theorem s_Trail_sheet : ∀ (h0 : Nat) (x1 : Int32) (x2 : Int32) (x3 : Int32) (b : Bool) (σ : Sto), Snd M_Trail_sheet 3 0 0 [vR h0, vI x1, vI x2, vI x3] b σ (tI (f_Trail_sheet h0 x1 x2 x3 b σ).1) (f_Trail_sheet h0 x1 x2 x3 b σ).2.1 (f_Trail_sheet h0 x1 x2 x3 b σ).2.2 := by
  intro h0 x1 x2 x3 b σ
  refine Snd_of (tv := tI) (by decide) (Nat.le_of_ble_eq_true rfl) ?_
  show V M_Trail_sheet 3 0 0 0 0 tI (f_Trail_sheet h0 x1 x2 x3 b σ) 0 [(0, vR h0), (1, vI x1), (2, vI x2), (3, vI x3)] [] b σ
  unfold f_Trail_sheet
  refine V_aload_n 1 rfl (show decode M_Trail_sheet.2.1 0 = .ok (.aload_n 0, 1) by decide +kernel) 0 rfl ?_
  refine V_iload_n 2 rfl (show decode M_Trail_sheet.2.1 1 = .ok (.iload_n 1, 1) by decide +kernel) 1 rfl ?_
  refine V_callV (tb := tI) (as := [vI x1]) (rest := []) (na := 1) 5 rfl ck_Trail (by decide) (s_Trail_hasSheet h0 x1 (b && cK σ h0 12) σ) rfl rfl (Nat.le_of_ble_eq_true rfl) (cal_Trail_hasSheet _ _ _ _ _ (by decide) (by decide) (by decide)) (show decode M_Trail_sheet.2.1 2 = .ok (.invokevirtual 360, 3) by decide +kernel) wd_1423 wd_1425 wd_103 (fun r_1 b_1 σ_1 => ?_)
  show V M_Trail_sheet 3 0 0 0 0 tI _ 5 [(0, vR h0), (1, vI x1), (2, vI x2), (3, vI x3)] [vI r_1] b_1 σ_1
  refine V_jn (fun (J17 : Bool → Sto → Rs Int32) => ∀ (b : Bool) (σ : Sto), V M_Trail_sheet 3 0 0 0 0 tI (J17 b σ) 17 [] [] b σ) ?_ (fun J17 hJ17 => ?_)
  · intro b σ
    refine V_ldc 19 rfl (show decode M_Trail_sheet.2.1 17 = .ok (.ldc 44, 2) by decide +kernel) wd_631 ?_
    exact V_iret rfl (by decide) (by decide) (show decode M_Trail_sheet.2.1 19 = .ok (.ireturn, 1) by decide +kernel)
  · skip
    refine V_ifeq 8 17 rfl (show decode M_Trail_sheet.2.1 5 = .ok (.ifCond .eq 12, 3) by decide +kernel) rfl ?_ ?_
    · skip
      exact V_sub [] rfl (hJ17 b_1 σ_1)
    · skip
      refine V_iload_n 9 rfl (show decode M_Trail_sheet.2.1 8 = .ok (.iload_n 2, 1) by decide +kernel) 2 rfl ?_
      refine V_iconst 10 rfl (show decode M_Trail_sheet.2.1 9 = .ok (.iconst (-1), 1) by decide +kernel) (v := -1) rfl ?_
      refine V_iconst 11 rfl (show decode M_Trail_sheet.2.1 10 = .ok (.iconst 2, 1) by decide +kernel) (v := 2) rfl ?_
      refine V_callS (tb := tI) (as := [vI x2, vI (-1 : Int32), vI (2 : Int32)]) (rest := []) (na := 3) 14 rfl (s_Trail_within x2 (-1 : Int32) (2 : Int32) b_1 σ_1) rfl rfl (Nat.le_of_ble_eq_true rfl) (cal_Trail_within _ _ _ _ _ (by decide) (by decide) (by decide)) (show decode M_Trail_sheet.2.1 11 = .ok (.invokestatic 40, 3) by decide +kernel) wd_628 wd_629 (fun r_2 b_2 σ_2 => ?_)
      show V M_Trail_sheet 3 0 0 0 0 tI _ 14 [(0, vR h0), (1, vI x1), (2, vI x2), (3, vI x3)] [vI r_2] b_2 σ_2
      refine V_ifne 17 20 rfl (show decode M_Trail_sheet.2.1 14 = .ok (.ifCond .ne 6, 3) by decide +kernel) rfl ?_ ?_
      · skip
        exact V_sub [] rfl (hJ17 b_2 σ_2)
      · skip
        refine V_iload_n 21 rfl (show decode M_Trail_sheet.2.1 20 = .ok (.iload_n 2, 1) by decide +kernel) 2 rfl ?_
        refine V_iconst 22 rfl (show decode M_Trail_sheet.2.1 21 = .ok (.iconst (-1), 1) by decide +kernel) (v := -1) rfl ?_
        refine V_icmpne 25 38 rfl (show decode M_Trail_sheet.2.1 22 = .ok (.if_icmp .ne 16, 3) by decide +kernel) rfl ?_ ?_
        · skip
          refine V_aload_n 26 rfl (show decode M_Trail_sheet.2.1 25 = .ok (.aload_n 0, 1) by decide +kernel) 0 rfl ?_
          refine V_get (j := 4) (v := vR (SR σ_2 h0 4)) 29 rfl ck_Trail (by decide) (by decide) (show decode M_Trail_sheet.2.1 26 = .ok (.getfield 32, 3) by decide +kernel) wd_603 rfl ?_
          refine V_iload_n 30 rfl (show decode M_Trail_sheet.2.1 29 = .ok (.iload_n 1, 1) by decide +kernel) 1 rfl ?_
          refine V_ald_r27 31 rfl (show decode M_Trail_sheet.2.1 30 = .ok (.aaload, 1) by decide +kernel) ?_
          refine V_iconst 32 rfl (show decode M_Trail_sheet.2.1 31 = .ok (.iconst (-1), 1) by decide +kernel) (v := -1) rfl ?_
          refine V_iconst 33 rfl (show decode M_Trail_sheet.2.1 32 = .ok (.iconst 0, 1) by decide +kernel) (v := 0) rfl ?_
          refine V_callVN (tb := tU) (as := [vI (-1 : Int32), vI (0 : Int32)]) (rest := []) (na := 2) 36 rfl ck_Sheet (by decide) (s_Sheet_clearAs (SR σ_2 (SR σ_2 h0 4) (ix x1)) (-1 : Int32) (0 : Int32) (((b_2 && cK σ_2 h0 12) && cA σ_2 (SR σ_2 h0 4) 27 x1) && cK σ_2 (SR σ_2 (SR σ_2 h0 4) (ix x1)) 6) σ_2) rfl rfl (Nat.le_of_ble_eq_true rfl) (cal_Sheet_clearAs _ _ _ _ _ (by decide) (by decide) (by decide)) (show decode M_Trail_sheet.2.1 33 = .ok (.invokevirtual 363, 3) by decide +kernel) wd_1427 wd_1429 wd_104 (fun r_3 b_3 σ_3 => ?_)
          show V M_Trail_sheet 3 0 0 0 0 tI _ 36 [(0, vR h0), (1, vI x1), (2, vI x2), (3, vI x3)] [] b_3 σ_3
          refine V_iconst 37 rfl (show decode M_Trail_sheet.2.1 36 = .ok (.iconst 0, 1) by decide +kernel) (v := 0) rfl ?_
          exact V_iret rfl (by decide) (by decide) (show decode M_Trail_sheet.2.1 37 = .ok (.ireturn, 1) by decide +kernel)
        · skip
          refine V_iload_n 39 rfl (show decode M_Trail_sheet.2.1 38 = .ok (.iload_n 3, 1) by decide +kernel) 3 rfl ?_
          refine V_bipush 41 rfl (show decode M_Trail_sheet.2.1 39 = .ok (.bipush 24, 2) by decide +kernel) (v := 24) rfl ?_
          refine V_icmple 44 47 rfl (show decode M_Trail_sheet.2.1 41 = .ok (.if_icmp .le 6, 3) by decide +kernel) rfl ?_ ?_
          · skip
            refine V_ldc 46 rfl (show decode M_Trail_sheet.2.1 44 = .ok (.ldc 44, 2) by decide +kernel) wd_631 ?_
            exact V_iret rfl (by decide) (by decide) (show decode M_Trail_sheet.2.1 46 = .ok (.ireturn, 1) by decide +kernel)
          · skip
            refine V_iload_n 48 rfl (show decode M_Trail_sheet.2.1 47 = .ok (.iload_n 3, 1) by decide +kernel) 3 rfl ?_
            refine V_ifge 51 55 rfl (show decode M_Trail_sheet.2.1 48 = .ok (.ifCond .ge 7, 3) by decide +kernel) rfl ?_ ?_
            · skip
              refine V_ldcw 54 rfl (show decode M_Trail_sheet.2.1 51 = .ok (.ldc_w 367, 3) by decide +kernel) wd_1434 ?_
              exact V_iret rfl (by decide) (by decide) (show decode M_Trail_sheet.2.1 54 = .ok (.ireturn, 1) by decide +kernel)
            · skip
              refine V_aload_n 56 rfl (show decode M_Trail_sheet.2.1 55 = .ok (.aload_n 0, 1) by decide +kernel) 0 rfl ?_
              refine V_get (j := 4) (v := vR (SR σ_2 h0 4)) 59 rfl ck_Trail (by decide) (by decide) (show decode M_Trail_sheet.2.1 56 = .ok (.getfield 32, 3) by decide +kernel) wd_603 rfl ?_
              refine V_iload_n 60 rfl (show decode M_Trail_sheet.2.1 59 = .ok (.iload_n 1, 1) by decide +kernel) 1 rfl ?_
              refine V_ald_r27 61 rfl (show decode M_Trail_sheet.2.1 60 = .ok (.aaload, 1) by decide +kernel) ?_
              refine V_iload_n 62 rfl (show decode M_Trail_sheet.2.1 61 = .ok (.iload_n 2, 1) by decide +kernel) 2 rfl ?_
              refine V_iload_n 63 rfl (show decode M_Trail_sheet.2.1 62 = .ok (.iload_n 3, 1) by decide +kernel) 3 rfl ?_
              refine V_callVN (tb := tU) (as := [vI x2, vI x3]) (rest := []) (na := 2) 66 rfl ck_Sheet (by decide) (s_Sheet_clearAs (SR σ_2 (SR σ_2 h0 4) (ix x1)) x2 x3 (((b_2 && cK σ_2 h0 12) && cA σ_2 (SR σ_2 h0 4) 27 x1) && cK σ_2 (SR σ_2 (SR σ_2 h0 4) (ix x1)) 6) σ_2) rfl rfl (Nat.le_of_ble_eq_true rfl) (cal_Sheet_clearAs _ _ _ _ _ (by decide) (by decide) (by decide)) (show decode M_Trail_sheet.2.1 63 = .ok (.invokevirtual 363, 3) by decide +kernel) wd_1427 wd_1429 wd_104 (fun r_4 b_4 σ_4 => ?_)
              show V M_Trail_sheet 3 0 0 0 0 tI _ 66 [(0, vR h0), (1, vI x1), (2, vI x2), (3, vI x3)] [] b_4 σ_4
              refine V_iload_n 67 rfl (show decode M_Trail_sheet.2.1 66 = .ok (.iload_n 3, 1) by decide +kernel) 3 rfl ?_
              exact V_iret rfl (by decide) (by decide) (show decode M_Trail_sheet.2.1 67 = .ok (.ireturn, 1) by decide +kernel)
theorem cal_Trail_sheet (d mc ms k n : Nat) (h1 : 3 + 1 ≤ d) (h2 : k + 0 ≤ mc) (h3 : n + 0 ≤ ms) : Cal M_Trail_sheet 3 0 0 3 d mc ms k n := ⟨wd_1422, wd_170, by decide, h1, by decide, h2, h3⟩
abbrev M_Trail_shoes : MD := (⟨"LongTrail", "shoes", "(I)I"⟩, prog_1_method_19_code, 5, (some FieldType.int))
def f_Trail_shoes (h0 : Nat) (x1 : Int32) (b : Bool) (σ : Sto) : Rs Int32 := (bd_ (f_World_hasWalker (SR σ h0 0) x1 ((b && cK σ h0 12) && cK σ (SR σ h0 0) 11) σ) (fun (r_1 : Int32) (b_1 : Bool) (σ_1 : Sto) => (if r_1 = 0 then ((-1000000001 : Int32), b_1, σ_1) else (lt_ (SR σ_1 (SR σ_1 (SR σ_1 h0 0) 6) (ix x1)) (fun (h2_2 : Nat) => (bd_ (f_Ground_placeAt (SR σ_1 (SR σ_1 h0 0) 0) (SI σ_1 h2_2 6) (((((((b_1 && cK σ_1 h0 12) && cK σ_1 (SR σ_1 h0 0) 11) && cA σ_1 (SR σ_1 (SR σ_1 h0 0) 6) 26 x1) && cK σ_1 h0 12) && cK σ_1 (SR σ_1 h0 0) 11) && cK σ_1 h2_2 10) && cK σ_1 (SR σ_1 (SR σ_1 h0 0) 0) 2) σ_1) (fun (r_3 : Int32) (b_3 : Bool) (σ_3 : Sto) => (lt_ r_3 (fun (x3_4 : Int32) => (lt_ (fun (b : Bool) (σ : Sto) => ((-1000000002 : Int32), b, σ)) (fun J65 => (if (SI σ_3 h2_2 5) = (1 : Int32) then (if x3_4 < 0 then (J65 (b_3 && cK σ_3 h2_2 10) σ_3) else (bd_ (f_Ground_isTown (SR σ_3 (SR σ_3 h0 0) 0) x3_4 ((((b_3 && cK σ_3 h2_2 10) && cK σ_3 h0 12) && cK σ_3 (SR σ_3 h0 0) 11) && cK σ_3 (SR σ_3 (SR σ_3 h0 0) 0) 2) σ_3) (fun (r_5 : Int32) (b_5 : Bool) (σ_5 : Sto) => (if r_5 = 0 then (J65 b_5 σ_5) else (lt_ (SI σ_5 h2_2 12) (fun (x4_6 : Int32) => (lt_ (pI σ_5 h2_2 12 (0 : Int32)) (fun (σ_7 : Sto) => (x4_6, ((b_5 && cK σ_5 h2_2 10) && cK σ_5 h2_2 10), σ_7))))))))) else (J65 (b_3 && cK σ_3 h2_2 10) σ_3)))))))))))))
set_option maxRecDepth 100000 in
set_option maxHeartbeats 4000000 in
theorem s_Trail_shoes : ∀ (h0 : Nat) (x1 : Int32) (b : Bool) (σ : Sto), Snd M_Trail_shoes 3 0 0 [vR h0, vI x1] b σ (tI (f_Trail_shoes h0 x1 b σ).1) (f_Trail_shoes h0 x1 b σ).2.1 (f_Trail_shoes h0 x1 b σ).2.2 := by
  intro h0 x1 b σ
  refine Snd_of (tv := tI) (by decide) (Nat.le_of_ble_eq_true rfl) ?_
  show V M_Trail_shoes 3 0 0 0 0 tI (f_Trail_shoes h0 x1 b σ) 0 [(0, vR h0), (1, vI x1)] [] b σ
  unfold f_Trail_shoes
  refine V_aload_n 1 rfl (show decode M_Trail_shoes.2.1 0 = .ok (.aload_n 0, 1) by decide +kernel) 0 rfl ?_
  refine V_get (j := 0) (v := vR (SR σ h0 0)) 4 rfl ck_Trail (by decide) (by decide) (show decode M_Trail_shoes.2.1 1 = .ok (.getfield 10, 3) by decide +kernel) wd_599 rfl ?_
  refine V_iload_n 5 rfl (show decode M_Trail_shoes.2.1 4 = .ok (.iload_n 1, 1) by decide +kernel) 1 rfl ?_
  refine V_callVN (tb := tI) (as := [vI x1]) (rest := []) (na := 1) 8 rfl ck_World (by decide) (s_World_hasWalker (SR σ h0 0) x1 ((b && cK σ h0 12) && cK σ (SR σ h0 0) 11) σ) rfl rfl (Nat.le_of_ble_eq_true rfl) (cal_World_hasWalker _ _ _ _ _ (by decide) (by decide) (by decide)) (show decode M_Trail_shoes.2.1 5 = .ok (.invokevirtual 202, 3) by decide +kernel) wd_1016 wd_1018 wd_35 (fun r_1 b_1 σ_1 => ?_)
  show V M_Trail_shoes 3 0 0 0 0 tI _ 8 [(0, vR h0), (1, vI x1)] [vI r_1] b_1 σ_1
  refine V_ifne 11 14 rfl (show decode M_Trail_shoes.2.1 8 = .ok (.ifCond .ne 6, 3) by decide +kernel) rfl ?_ ?_
  · skip
    refine V_ldc 13 rfl (show decode M_Trail_shoes.2.1 11 = .ok (.ldc 44, 2) by decide +kernel) wd_631 ?_
    exact V_iret rfl (by decide) (by decide) (show decode M_Trail_shoes.2.1 13 = .ok (.ireturn, 1) by decide +kernel)
  · skip
    refine V_aload_n 15 rfl (show decode M_Trail_shoes.2.1 14 = .ok (.aload_n 0, 1) by decide +kernel) 0 rfl ?_
    refine V_get (j := 0) (v := vR (SR σ_1 h0 0)) 18 rfl ck_Trail (by decide) (by decide) (show decode M_Trail_shoes.2.1 15 = .ok (.getfield 10, 3) by decide +kernel) wd_599 rfl ?_
    refine V_getN (j := 6) (v := vR (SR σ_1 (SR σ_1 h0 0) 6)) 21 rfl ck_World (by decide) (by decide) (show decode M_Trail_shoes.2.1 18 = .ok (.getfield 194, 3) by decide +kernel) wd_510 rfl ?_
    refine V_iload_n 22 rfl (show decode M_Trail_shoes.2.1 21 = .ok (.iload_n 1, 1) by decide +kernel) 1 rfl ?_
    refine V_ald_r26 23 rfl (show decode M_Trail_shoes.2.1 22 = .ok (.aaload, 1) by decide +kernel) ?_
    refine V_astore_n (fun h2_2 => [(2, vR h2_2), (0, vR h0), (1, vI x1)]) 24 rfl (show decode M_Trail_shoes.2.1 23 = .ok (.astore_n 2, 1) by decide +kernel) (by decide) (fun _ => rfl) (fun h2_2 => ?_)
    refine V_aload_n 25 rfl (show decode M_Trail_shoes.2.1 24 = .ok (.aload_n 0, 1) by decide +kernel) 1 rfl ?_
    refine V_get (j := 0) (v := vR (SR σ_1 h0 0)) 28 rfl ck_Trail (by decide) (by decide) (show decode M_Trail_shoes.2.1 25 = .ok (.getfield 10, 3) by decide +kernel) wd_599 rfl ?_
    refine V_getN (j := 0) (v := vR (SR σ_1 (SR σ_1 h0 0) 0)) 31 rfl ck_World (by decide) (by decide) (show decode M_Trail_shoes.2.1 28 = .ok (.getfield 49, 3) by decide +kernel) wd_498 rfl ?_
    refine V_aload_n 32 rfl (show decode M_Trail_shoes.2.1 31 = .ok (.aload_n 2, 1) by decide +kernel) 0 rfl ?_
    refine V_getN (j := 6) (v := vI (SI σ_1 h2_2 6)) 35 rfl ck_Walker (by decide) (by decide) (show decode M_Trail_shoes.2.1 32 = .ok (.getfield 211, 3) by decide +kernel) wd_435 rfl ?_
    refine V_callVN (tb := tI) (as := [vI (SI σ_1 h2_2 6)]) (rest := []) (na := 1) 38 rfl ck_Ground (by decide) (s_Ground_placeAt (SR σ_1 (SR σ_1 h0 0) 0) (SI σ_1 h2_2 6) (((((((b_1 && cK σ_1 h0 12) && cK σ_1 (SR σ_1 h0 0) 11) && cA σ_1 (SR σ_1 (SR σ_1 h0 0) 6) 26 x1) && cK σ_1 h0 12) && cK σ_1 (SR σ_1 h0 0) 11) && cK σ_1 h2_2 10) && cK σ_1 (SR σ_1 (SR σ_1 h0 0) 0) 2) σ_1) rfl rfl (Nat.le_of_ble_eq_true rfl) (cal_Ground_placeAt _ _ _ _ _ (by decide) (by decide) (by decide)) (show decode M_Trail_shoes.2.1 35 = .ok (.invokevirtual 77, 3) by decide +kernel) wd_653 wd_655 wd_3 (fun r_3 b_3 σ_3 => ?_)
    show V M_Trail_shoes 3 0 0 0 0 tI _ 38 [(2, vR h2_2), (0, vR h0), (1, vI x1)] [vI r_3] b_3 σ_3
    refine V_istore_n (fun x3_4 => [(3, vI x3_4), (2, vR h2_2), (0, vR h0), (1, vI x1)]) 39 rfl (show decode M_Trail_shoes.2.1 38 = .ok (.istore_n 3, 1) by decide +kernel) (by decide) (fun _ => rfl) (fun x3_4 => ?_)
    refine V_aload_n 40 rfl (show decode M_Trail_shoes.2.1 39 = .ok (.aload_n 2, 1) by decide +kernel) 1 rfl ?_
    refine V_getN (j := 5) (v := vI (SI σ_3 h2_2 5)) 43 rfl ck_Walker (by decide) (by decide) (show decode M_Trail_shoes.2.1 40 = .ok (.getfield 214, 3) by decide +kernel) wd_432 rfl ?_
    refine V_iconst 44 rfl (show decode M_Trail_shoes.2.1 43 = .ok (.iconst 1, 1) by decide +kernel) (v := 1) rfl ?_
    refine V_jn (fun (J65 : Bool → Sto → Rs Int32) => ∀ (b : Bool) (σ : Sto), V M_Trail_shoes 3 0 0 0 0 tI (J65 b σ) 65 [] [] b σ) ?_ (fun J65 hJ65 => ?_)
    · intro b σ
      refine V_ldc 67 rfl (show decode M_Trail_shoes.2.1 65 = .ok (.ldc 66, 2) by decide +kernel) wd_640 ?_
      exact V_iret rfl (by decide) (by decide) (show decode M_Trail_shoes.2.1 67 = .ok (.ireturn, 1) by decide +kernel)
    · skip
      refine V_icmpne 47 65 rfl (show decode M_Trail_shoes.2.1 44 = .ok (.if_icmp .ne 21, 3) by decide +kernel) rfl ?_ ?_
      · skip
        refine V_iload_n 48 rfl (show decode M_Trail_shoes.2.1 47 = .ok (.iload_n 3, 1) by decide +kernel) 0 rfl ?_
        refine V_iflt 51 65 rfl (show decode M_Trail_shoes.2.1 48 = .ok (.ifCond .lt 17, 3) by decide +kernel) rfl ?_ ?_
        · skip
          exact V_sub [] rfl (hJ65 (b_3 && cK σ_3 h2_2 10) σ_3)
        · skip
          refine V_aload_n 52 rfl (show decode M_Trail_shoes.2.1 51 = .ok (.aload_n 0, 1) by decide +kernel) 2 rfl ?_
          refine V_get (j := 0) (v := vR (SR σ_3 h0 0)) 55 rfl ck_Trail (by decide) (by decide) (show decode M_Trail_shoes.2.1 52 = .ok (.getfield 10, 3) by decide +kernel) wd_599 rfl ?_
          refine V_getN (j := 0) (v := vR (SR σ_3 (SR σ_3 h0 0) 0)) 58 rfl ck_World (by decide) (by decide) (show decode M_Trail_shoes.2.1 55 = .ok (.getfield 49, 3) by decide +kernel) wd_498 rfl ?_
          refine V_iload_n 59 rfl (show decode M_Trail_shoes.2.1 58 = .ok (.iload_n 3, 1) by decide +kernel) 0 rfl ?_
          refine V_callVN (tb := tI) (as := [vI x3_4]) (rest := []) (na := 1) 62 rfl ck_Ground (by decide) (s_Ground_isTown (SR σ_3 (SR σ_3 h0 0) 0) x3_4 ((((b_3 && cK σ_3 h2_2 10) && cK σ_3 h0 12) && cK σ_3 (SR σ_3 h0 0) 11) && cK σ_3 (SR σ_3 (SR σ_3 h0 0) 0) 2) σ_3) rfl rfl (Nat.le_of_ble_eq_true rfl) (cal_Ground_isTown _ _ _ _ _ (by decide) (by decide) (by decide)) (show decode M_Trail_shoes.2.1 59 = .ok (.invokevirtual 120, 3) by decide +kernel) wd_697 wd_699 wd_10 (fun r_5 b_5 σ_5 => ?_)
          show V M_Trail_shoes 3 0 0 0 0 tI _ 62 [(3, vI x3_4), (2, vR h2_2), (0, vR h0), (1, vI x1)] [vI r_5] b_5 σ_5
          refine V_ifne 65 68 rfl (show decode M_Trail_shoes.2.1 62 = .ok (.ifCond .ne 6, 3) by decide +kernel) rfl ?_ ?_
          · skip
            exact V_sub [] rfl (hJ65 b_5 σ_5)
          · skip
            refine V_aload_n 69 rfl (show decode M_Trail_shoes.2.1 68 = .ok (.aload_n 2, 1) by decide +kernel) 1 rfl ?_
            refine V_getN (j := 12) (v := vI (SI σ_5 h2_2 12)) 72 rfl ck_Walker (by decide) (by decide) (show decode M_Trail_shoes.2.1 69 = .ok (.getfield 217, 3) by decide +kernel) wd_448 rfl ?_
            refine V_istore (fun x4_6 => [(4, vI x4_6), (3, vI x3_4), (2, vR h2_2), (0, vR h0), (1, vI x1)]) 74 rfl (show decode M_Trail_shoes.2.1 72 = .ok (.istore 4, 2) by decide +kernel) (by decide) (fun _ => rfl) (fun x4_6 => ?_)
            refine V_aload_n 75 rfl (show decode M_Trail_shoes.2.1 74 = .ok (.aload_n 2, 1) by decide +kernel) 2 rfl ?_
            refine V_iconst 76 rfl (show decode M_Trail_shoes.2.1 75 = .ok (.iconst 0, 1) by decide +kernel) (v := 0) rfl ?_
            refine V_putIN (j := 12) 79 rfl ck_Walker (by decide) (by decide) (show decode M_Trail_shoes.2.1 76 = .ok (.putfield 217, 3) by decide +kernel) wd_448 rfl (fun _ => rfl) rfl rfl (fun σ_7 => ?_)
            refine V_iload 81 rfl (show decode M_Trail_shoes.2.1 79 = .ok (.iload 4, 2) by decide +kernel) 0 rfl ?_
            exact V_iret rfl (by decide) (by decide) (show decode M_Trail_shoes.2.1 81 = .ok (.ireturn, 1) by decide +kernel)
      · skip
        exact V_sub [] rfl (hJ65 (b_3 && cK σ_3 h2_2 10) σ_3)
theorem cal_Trail_shoes (d mc ms k n : Nat) (h1 : 3 + 1 ≤ d) (h2 : k + 0 ≤ mc) (h3 : n + 0 ≤ ms) : Cal M_Trail_shoes 3 0 0 1 d mc ms k n := ⟨wd_1036, wd_170, by decide, h1, by decide, h2, h3⟩
abbrev M_Trail_shut : MD := (⟨"LongTrail", "shut", "(II)I"⟩, prog_1_method_6_code, 5, (some FieldType.int))
def f_Trail_shut (h0 : Nat) (x1 : Int32) (x2 : Int32) (b : Bool) (σ : Sto) : Rs Int32 := (lt_ (SR σ (SR σ h0 0) 0) (fun (h3_1 : Nat) => (bd_ (f_Ground_hasPlace h3_1 x1 (((b && cK σ h0 12) && cK σ (SR σ h0 0) 11) && cK σ h3_1 2) σ) (fun (r_2 : Int32) (b_2 : Bool) (σ_2 : Sto) => (lt_ (fun (b : Bool) (σ : Sto) => ((-1000000001 : Int32), b, σ)) (fun J26 => (if r_2 = 0 then (J26 b_2 σ_2) else (bd_ (f_Trail_within x2 (0 : Int32) (127 : Int32) b_2 σ_2) (fun (r_3 : Int32) (b_3 : Bool) (σ_3 : Sto) => (if r_3 = 0 then (J26 b_3 σ_3) else (bd_ (f_Ground_isTown h3_1 x1 (b_3 && cK σ_3 h3_1 2) σ_3) (fun (r_4 : Int32) (b_4 : Bool) (σ_4 : Sto) => (if r_4 = 0 then ((-1000000012 : Int32), b_4, σ_4) else (lt_ (SI σ_4 (SR σ_4 h3_1 3) (ix x1)) (fun (x4_5 : Int32) => (lt_ (pI σ_4 (SR σ_4 h3_1 3) (ix x1) x2) (fun (σ_6 : Sto) => (x4_5, ((((b_4 && cK σ_4 h3_1 2) && cA σ_4 (SR σ_4 h3_1 3) 21 x1) && cK σ_4 h3_1 2) && cA σ_4 (SR σ_4 h3_1 3) 21 x1), σ_6))))))))))))))))))
set_option maxRecDepth 100000 in
set_option maxHeartbeats 4000000 in
theorem s_Trail_shut : ∀ (h0 : Nat) (x1 : Int32) (x2 : Int32) (b : Bool) (σ : Sto), Snd M_Trail_shut 3 0 0 [vR h0, vI x1, vI x2] b σ (tI (f_Trail_shut h0 x1 x2 b σ).1) (f_Trail_shut h0 x1 x2 b σ).2.1 (f_Trail_shut h0 x1 x2 b σ).2.2 := by
  intro h0 x1 x2 b σ
  refine Snd_of (tv := tI) (by decide) (Nat.le_of_ble_eq_true rfl) ?_
  show V M_Trail_shut 3 0 0 0 0 tI (f_Trail_shut h0 x1 x2 b σ) 0 [(0, vR h0), (1, vI x1), (2, vI x2)] [] b σ
  unfold f_Trail_shut
  refine V_aload_n 1 rfl (show decode M_Trail_shut.2.1 0 = .ok (.aload_n 0, 1) by decide +kernel) 0 rfl ?_
  refine V_get (j := 0) (v := vR (SR σ h0 0)) 4 rfl ck_Trail (by decide) (by decide) (show decode M_Trail_shut.2.1 1 = .ok (.getfield 10, 3) by decide +kernel) wd_599 rfl ?_
  refine V_getN (j := 0) (v := vR (SR σ (SR σ h0 0) 0)) 7 rfl ck_World (by decide) (by decide) (show decode M_Trail_shut.2.1 4 = .ok (.getfield 49, 3) by decide +kernel) wd_498 rfl ?_
  refine V_astore_n (fun h3_1 => [(3, vR h3_1), (0, vR h0), (1, vI x1), (2, vI x2)]) 8 rfl (show decode M_Trail_shut.2.1 7 = .ok (.astore_n 3, 1) by decide +kernel) (by decide) (fun _ => rfl) (fun h3_1 => ?_)
  refine V_aload_n 9 rfl (show decode M_Trail_shut.2.1 8 = .ok (.aload_n 3, 1) by decide +kernel) 0 rfl ?_
  refine V_iload_n 10 rfl (show decode M_Trail_shut.2.1 9 = .ok (.iload_n 1, 1) by decide +kernel) 2 rfl ?_
  refine V_callVN (tb := tI) (as := [vI x1]) (rest := []) (na := 1) 13 rfl ck_Ground (by decide) (s_Ground_hasPlace h3_1 x1 (((b && cK σ h0 12) && cK σ (SR σ h0 0) 11) && cK σ h3_1 2) σ) rfl rfl (Nat.le_of_ble_eq_true rfl) (cal_Ground_hasPlace _ _ _ _ _ (by decide) (by decide) (by decide)) (show decode M_Trail_shut.2.1 10 = .ok (.invokevirtual 89, 3) by decide +kernel) wd_666 wd_668 wd_5 (fun r_2 b_2 σ_2 => ?_)
  show V M_Trail_shut 3 0 0 0 0 tI _ 13 [(3, vR h3_1), (0, vR h0), (1, vI x1), (2, vI x2)] [vI r_2] b_2 σ_2
  refine V_jn (fun (J26 : Bool → Sto → Rs Int32) => ∀ (b : Bool) (σ : Sto), V M_Trail_shut 3 0 0 0 0 tI (J26 b σ) 26 [] [] b σ) ?_ (fun J26 hJ26 => ?_)
  · intro b σ
    refine V_ldc 28 rfl (show decode M_Trail_shut.2.1 26 = .ok (.ldc 44, 2) by decide +kernel) wd_631 ?_
    exact V_iret rfl (by decide) (by decide) (show decode M_Trail_shut.2.1 28 = .ok (.ireturn, 1) by decide +kernel)
  · skip
    refine V_ifeq 16 26 rfl (show decode M_Trail_shut.2.1 13 = .ok (.ifCond .eq 13, 3) by decide +kernel) rfl ?_ ?_
    · skip
      exact V_sub [] rfl (hJ26 b_2 σ_2)
    · skip
      refine V_iload_n 17 rfl (show decode M_Trail_shut.2.1 16 = .ok (.iload_n 2, 1) by decide +kernel) 3 rfl ?_
      refine V_iconst 18 rfl (show decode M_Trail_shut.2.1 17 = .ok (.iconst 0, 1) by decide +kernel) (v := 0) rfl ?_
      refine V_bipush 20 rfl (show decode M_Trail_shut.2.1 18 = .ok (.bipush 127, 2) by decide +kernel) (v := 127) rfl ?_
      refine V_callS (tb := tI) (as := [vI x2, vI (0 : Int32), vI (127 : Int32)]) (rest := []) (na := 3) 23 rfl (s_Trail_within x2 (0 : Int32) (127 : Int32) b_2 σ_2) rfl rfl (Nat.le_of_ble_eq_true rfl) (cal_Trail_within _ _ _ _ _ (by decide) (by decide) (by decide)) (show decode M_Trail_shut.2.1 20 = .ok (.invokestatic 40, 3) by decide +kernel) wd_628 wd_629 (fun r_3 b_3 σ_3 => ?_)
      show V M_Trail_shut 3 0 0 0 0 tI _ 23 [(3, vR h3_1), (0, vR h0), (1, vI x1), (2, vI x2)] [vI r_3] b_3 σ_3
      refine V_ifne 26 29 rfl (show decode M_Trail_shut.2.1 23 = .ok (.ifCond .ne 6, 3) by decide +kernel) rfl ?_ ?_
      · skip
        exact V_sub [] rfl (hJ26 b_3 σ_3)
      · skip
        refine V_aload_n 30 rfl (show decode M_Trail_shut.2.1 29 = .ok (.aload_n 3, 1) by decide +kernel) 0 rfl ?_
        refine V_iload_n 31 rfl (show decode M_Trail_shut.2.1 30 = .ok (.iload_n 1, 1) by decide +kernel) 2 rfl ?_
        refine V_callVN (tb := tI) (as := [vI x1]) (rest := []) (na := 1) 34 rfl ck_Ground (by decide) (s_Ground_isTown h3_1 x1 (b_3 && cK σ_3 h3_1 2) σ_3) rfl rfl (Nat.le_of_ble_eq_true rfl) (cal_Ground_isTown _ _ _ _ _ (by decide) (by decide) (by decide)) (show decode M_Trail_shut.2.1 31 = .ok (.invokevirtual 120, 3) by decide +kernel) wd_697 wd_699 wd_10 (fun r_4 b_4 σ_4 => ?_)
        show V M_Trail_shut 3 0 0 0 0 tI _ 34 [(3, vR h3_1), (0, vR h0), (1, vI x1), (2, vI x2)] [vI r_4] b_4 σ_4
        refine V_ifne 37 40 rfl (show decode M_Trail_shut.2.1 34 = .ok (.ifCond .ne 6, 3) by decide +kernel) rfl ?_ ?_
        · skip
          refine V_ldc 39 rfl (show decode M_Trail_shut.2.1 37 = .ok (.ldc 119, 2) by decide +kernel) wd_692 ?_
          exact V_iret rfl (by decide) (by decide) (show decode M_Trail_shut.2.1 39 = .ok (.ireturn, 1) by decide +kernel)
        · skip
          refine V_aload_n 41 rfl (show decode M_Trail_shut.2.1 40 = .ok (.aload_n 3, 1) by decide +kernel) 0 rfl ?_
          refine V_getN (j := 3) (v := vR (SR σ_4 h3_1 3)) 44 rfl ck_Ground (by decide) (by decide) (show decode M_Trail_shut.2.1 41 = .ok (.getfield 101, 3) by decide +kernel) wd_221 rfl ?_
          refine V_iload_n 45 rfl (show decode M_Trail_shut.2.1 44 = .ok (.iload_n 1, 1) by decide +kernel) 2 rfl ?_
          refine V_ald_int 46 rfl (show decode M_Trail_shut.2.1 45 = .ok (.iaload, 1) by decide +kernel) ?_
          refine V_istore (fun x4_5 => [(4, vI x4_5), (3, vR h3_1), (0, vR h0), (1, vI x1), (2, vI x2)]) 48 rfl (show decode M_Trail_shut.2.1 46 = .ok (.istore 4, 2) by decide +kernel) (by decide) (fun _ => rfl) (fun x4_5 => ?_)
          refine V_aload_n 49 rfl (show decode M_Trail_shut.2.1 48 = .ok (.aload_n 3, 1) by decide +kernel) 1 rfl ?_
          refine V_getN (j := 3) (v := vR (SR σ_4 h3_1 3)) 52 rfl ck_Ground (by decide) (by decide) (show decode M_Trail_shut.2.1 49 = .ok (.getfield 101, 3) by decide +kernel) wd_221 rfl ?_
          refine V_iload_n 53 rfl (show decode M_Trail_shut.2.1 52 = .ok (.iload_n 1, 1) by decide +kernel) 3 rfl ?_
          refine V_iload_n 54 rfl (show decode M_Trail_shut.2.1 53 = .ok (.iload_n 2, 1) by decide +kernel) 4 rfl ?_
          refine V_ast_int 55 rfl (show decode M_Trail_shut.2.1 54 = .ok (.iastore, 1) by decide +kernel) (fun σ_6 => ?_)
          refine V_iload 57 rfl (show decode M_Trail_shut.2.1 55 = .ok (.iload 4, 2) by decide +kernel) 0 rfl ?_
          exact V_iret rfl (by decide) (by decide) (show decode M_Trail_shut.2.1 57 = .ok (.ireturn, 1) by decide +kernel)
theorem cal_Trail_shut (d mc ms k n : Nat) (h1 : 3 + 1 ≤ d) (h2 : k + 0 ≤ mc) (h3 : n + 0 ≤ ms) : Cal M_Trail_shut 3 0 0 2 d mc ms k n := ⟨wd_696, wd_170, by decide, h1, by decide, h2, h3⟩
abbrev M_Sheet_total : MD := (⟨"LongTrail$Sheet", "total", "()J"⟩, prog_7_method_3_code, 4, (some FieldType.long))
def b_Sheet_total_4 (h0 : Nat) (L4 : Int64 → Int32 → Bool → Sto → Rs Int64) (l1 : Int64) (x3 : Int32) (b : Bool) (σ : Sto) : Rs Int64 := (if x3 < (SI σ h0 1) then (lt_ (l1 + (SL σ (SR σ h0 2) (ix x3))) (fun (l1_3 : Int64) => (lt_ (x3 + (1 : Int32)) (fun (x3_4 : Int32) => (L4 l1_3 x3_4 (((b && cK σ h0 6) && cK σ h0 6) && cA σ (SR σ h0 2) 23 x3) σ))))) else (l1, (b && cK σ h0 6), σ))
def f_Sheet_total (h0 : Nat) (b : Bool) (σ : Sto) : Rs Int64 := (lt_ (0 : Int64) (fun (l1_1 : Int64) => (lt_ (0 : Int32) (fun (x3_2 : Int32) => (lp_ (b_Sheet_total_4 h0) (fun (l1 : Int64) (x3 : Int32) (b : Bool) (σ : Sto) => (0, false, σ)) fuel_ l1_1 x3_2 b σ)))))
set_option maxRecDepth 100000 in
set_option maxHeartbeats 4000000 in
theorem s_Sheet_total : ∀ (h0 : Nat) (b : Bool) (σ : Sto), Snd M_Sheet_total 1 0 0 [vR h0] b σ (tL (f_Sheet_total h0 b σ).1) (f_Sheet_total h0 b σ).2.1 (f_Sheet_total h0 b σ).2.2 := by
  intro h0 b σ
  refine Snd_of (tv := tL) (by decide) (Nat.le_of_ble_eq_true rfl) ?_
  show V M_Sheet_total 1 0 0 0 0 tL (f_Sheet_total h0 b σ) 0 [(0, vR h0)] [] b σ
  unfold f_Sheet_total
  refine V_lconst 1 rfl (show decode M_Sheet_total.2.1 0 = .ok (.lconst 0, 1) by decide +kernel) (v := 0) rfl ?_
  refine V_lstore_n (fun l1_1 => [(1, vL l1_1), (0, vR h0)]) 2 rfl (show decode M_Sheet_total.2.1 1 = .ok (.lstore_n 1, 1) by decide +kernel) (by decide) (fun _ => rfl) (fun l1_1 => ?_)
  refine V_iconst 3 rfl (show decode M_Sheet_total.2.1 2 = .ok (.iconst 0, 1) by decide +kernel) (v := 0) rfl ?_
  refine V_istore_n (fun x3_2 => [(3, vI x3_2), (1, vL l1_1), (0, vR h0)]) 4 rfl (show decode M_Sheet_total.2.1 3 = .ok (.istore_n 3, 1) by decide +kernel) (by decide) (fun _ => rfl) (fun x3_2 => ?_)
  refine V_sub [2, 1, 0] rfl ?_
  refine lp_P (fun (L4 : Int64 → Int32 → Bool → Sto → Rs Int64) => ∀ (l1 : Int64) (x3 : Int32) (b : Bool) (σ : Sto), V M_Sheet_total 1 0 0 0 0 tL (L4 l1 x3 b σ) 4 [(0, vR h0), (1, vL l1), (3, vI x3)] [] b σ) ?_ ?_ fuel_ l1_1 x3_2 b σ
  · intro l1 x3 b σ; exact V_bad
  · intro L4 hL4 l1 x3 b σ
    unfold b_Sheet_total_4
    refine V_iload_n 5 rfl (show decode M_Sheet_total.2.1 4 = .ok (.iload_n 3, 1) by decide +kernel) 2 rfl ?_
    refine V_aload_n 6 rfl (show decode M_Sheet_total.2.1 5 = .ok (.aload_n 0, 1) by decide +kernel) 0 rfl ?_
    refine V_get (j := 1) (v := vI (SI σ h0 1)) 9 rfl ck_Sheet (by decide) (by decide) (show decode M_Sheet_total.2.1 6 = .ok (.getfield 17, 3) by decide +kernel) wd_588 rfl ?_
    refine V_icmpge 12 27 rfl (show decode M_Sheet_total.2.1 9 = .ok (.if_icmp .ge 18, 3) by decide +kernel) rfl ?_ ?_
    · skip
      refine V_lload_n 13 rfl (show decode M_Sheet_total.2.1 12 = .ok (.lload_n 1, 1) by decide +kernel) 1 rfl ?_
      refine V_aload_n 14 rfl (show decode M_Sheet_total.2.1 13 = .ok (.aload_n 0, 1) by decide +kernel) 0 rfl ?_
      refine V_get (j := 2) (v := vR (SR σ h0 2)) 17 rfl ck_Sheet (by decide) (by decide) (show decode M_Sheet_total.2.1 14 = .ok (.getfield 13, 3) by decide +kernel) wd_590 rfl ?_
      refine V_iload_n 18 rfl (show decode M_Sheet_total.2.1 17 = .ok (.iload_n 3, 1) by decide +kernel) 2 rfl ?_
      refine V_ald_long 19 rfl (show decode M_Sheet_total.2.1 18 = .ok (.laload, 1) by decide +kernel) ?_
      refine V_ladd 20 rfl (show decode M_Sheet_total.2.1 19 = .ok (.ladd, 1) by decide +kernel) ?_
      refine V_lstore_n (fun l1_3 => [(1, vL l1_3), (0, vR h0), (3, vI x3)]) 21 rfl (show decode M_Sheet_total.2.1 20 = .ok (.lstore_n 1, 1) by decide +kernel) (by decide) (fun _ => rfl) (fun l1_3 => ?_)
      refine V_iinc (fun x3_4 => [(3, vI x3_4), (1, vL l1_3), (0, vR h0)]) 24 rfl (show decode M_Sheet_total.2.1 21 = .ok (.iinc 3 1, 3) by decide +kernel) 2 rfl (w := 1) rfl (by decide) (fun _ => rfl) (fun x3_4 => ?_)
      refine V_goto 4 (show decode M_Sheet_total.2.1 24 = .ok (.goto (-20), 3) by decide +kernel) rfl ?_
      exact V_sub [2, 1, 0] rfl (hL4 l1_3 x3_4 (((b && cK σ h0 6) && cK σ h0 6) && cA σ (SR σ h0 2) 23 x3) σ)
    · skip
      refine V_lload_n 28 rfl (show decode M_Sheet_total.2.1 27 = .ok (.lload_n 1, 1) by decide +kernel) 1 rfl ?_
      exact V_lret rfl (by decide) (by decide) (show decode M_Sheet_total.2.1 28 = .ok (.lreturn, 1) by decide +kernel)
theorem cal_Sheet_total (d mc ms k n : Nat) (h1 : 1 + 1 ≤ d) (h2 : k + 0 ≤ mc) (h3 : n + 0 ≤ ms) : Cal M_Sheet_total 1 0 0 0 d mc ms k n := ⟨wd_1448, wd_180, by decide, h1, by decide, h2, h3⟩
abbrev M_Trail_sum : MD := (⟨"LongTrail", "sum", "(II)I"⟩, prog_1_method_40_code, 3, (some FieldType.int))
def f_Trail_sum (h0 : Nat) (x1 : Int32) (x2 : Int32) (b : Bool) (σ : Sto) : Rs Int32 := (bd_ (f_Trail_hasSheet h0 x1 (b && cK σ h0 12) σ) (fun (r_1 : Int32) (b_1 : Bool) (σ_1 : Sto) => (if r_1 = 0 then ((-1000000001 : Int32), b_1, σ_1) else (if (SI σ_1 (SR σ_1 (SR σ_1 h0 4) (ix x1)) 0) = (-1 : Int32) then ((-1000000011 : Int32), (((b_1 && cK σ_1 h0 12) && cA σ_1 (SR σ_1 h0 4) 27 x1) && cK σ_1 (SR σ_1 (SR σ_1 h0 4) (ix x1)) 6), σ_1) else (bd_ (f_Sheet_total (SR σ_1 (SR σ_1 h0 4) (ix x1)) ((((((b_1 && cK σ_1 h0 12) && cA σ_1 (SR σ_1 h0 4) 27 x1) && cK σ_1 (SR σ_1 (SR σ_1 h0 4) (ix x1)) 6) && cK σ_1 h0 12) && cA σ_1 (SR σ_1 h0 4) 27 x1) && cK σ_1 (SR σ_1 (SR σ_1 h0 4) (ix x1)) 6) σ_1) (fun (r_2 : Int64) (b_2 : Bool) (σ_2 : Sto) => ((((r_2 * ((x2).toInt64))).toInt32), b_2, σ_2)))))))
set_option maxRecDepth 100000 in
set_option maxHeartbeats 4000000 in
theorem s_Trail_sum : ∀ (h0 : Nat) (x1 : Int32) (x2 : Int32) (b : Bool) (σ : Sto), Snd M_Trail_sum 3 0 0 [vR h0, vI x1, vI x2] b σ (tI (f_Trail_sum h0 x1 x2 b σ).1) (f_Trail_sum h0 x1 x2 b σ).2.1 (f_Trail_sum h0 x1 x2 b σ).2.2 := by
  intro h0 x1 x2 b σ
  refine Snd_of (tv := tI) (by decide) (Nat.le_of_ble_eq_true rfl) ?_
  show V M_Trail_sum 3 0 0 0 0 tI (f_Trail_sum h0 x1 x2 b σ) 0 [(0, vR h0), (1, vI x1), (2, vI x2)] [] b σ
  unfold f_Trail_sum
  refine V_aload_n 1 rfl (show decode M_Trail_sum.2.1 0 = .ok (.aload_n 0, 1) by decide +kernel) 0 rfl ?_
  refine V_iload_n 2 rfl (show decode M_Trail_sum.2.1 1 = .ok (.iload_n 1, 1) by decide +kernel) 1 rfl ?_
  refine V_callV (tb := tI) (as := [vI x1]) (rest := []) (na := 1) 5 rfl ck_Trail (by decide) (s_Trail_hasSheet h0 x1 (b && cK σ h0 12) σ) rfl rfl (Nat.le_of_ble_eq_true rfl) (cal_Trail_hasSheet _ _ _ _ _ (by decide) (by decide) (by decide)) (show decode M_Trail_sum.2.1 2 = .ok (.invokevirtual 360, 3) by decide +kernel) wd_1423 wd_1425 wd_103 (fun r_1 b_1 σ_1 => ?_)
  show V M_Trail_sum 3 0 0 0 0 tI _ 5 [(0, vR h0), (1, vI x1), (2, vI x2)] [vI r_1] b_1 σ_1
  refine V_ifne 8 11 rfl (show decode M_Trail_sum.2.1 5 = .ok (.ifCond .ne 6, 3) by decide +kernel) rfl ?_ ?_
  · skip
    refine V_ldc 10 rfl (show decode M_Trail_sum.2.1 8 = .ok (.ldc 44, 2) by decide +kernel) wd_631 ?_
    exact V_iret rfl (by decide) (by decide) (show decode M_Trail_sum.2.1 10 = .ok (.ireturn, 1) by decide +kernel)
  · skip
    refine V_aload_n 12 rfl (show decode M_Trail_sum.2.1 11 = .ok (.aload_n 0, 1) by decide +kernel) 0 rfl ?_
    refine V_get (j := 4) (v := vR (SR σ_1 h0 4)) 15 rfl ck_Trail (by decide) (by decide) (show decode M_Trail_sum.2.1 12 = .ok (.getfield 32, 3) by decide +kernel) wd_603 rfl ?_
    refine V_iload_n 16 rfl (show decode M_Trail_sum.2.1 15 = .ok (.iload_n 1, 1) by decide +kernel) 1 rfl ?_
    refine V_ald_r27 17 rfl (show decode M_Trail_sum.2.1 16 = .ok (.aaload, 1) by decide +kernel) ?_
    refine V_getN (j := 0) (v := vI (SI σ_1 (SR σ_1 (SR σ_1 h0 4) (ix x1)) 0)) 20 rfl ck_Sheet (by decide) (by decide) (show decode M_Trail_sum.2.1 17 = .ok (.getfield 368, 3) by decide +kernel) wd_587 rfl ?_
    refine V_iconst 21 rfl (show decode M_Trail_sum.2.1 20 = .ok (.iconst (-1), 1) by decide +kernel) (v := -1) rfl ?_
    refine V_icmpne 24 28 rfl (show decode M_Trail_sum.2.1 21 = .ok (.if_icmp .ne 7, 3) by decide +kernel) rfl ?_ ?_
    · skip
      refine V_ldcw 27 rfl (show decode M_Trail_sum.2.1 24 = .ok (.ldc_w 371, 3) by decide +kernel) wd_1439 ?_
      exact V_iret rfl (by decide) (by decide) (show decode M_Trail_sum.2.1 27 = .ok (.ireturn, 1) by decide +kernel)
    · skip
      refine V_aload_n 29 rfl (show decode M_Trail_sum.2.1 28 = .ok (.aload_n 0, 1) by decide +kernel) 0 rfl ?_
      refine V_get (j := 4) (v := vR (SR σ_1 h0 4)) 32 rfl ck_Trail (by decide) (by decide) (show decode M_Trail_sum.2.1 29 = .ok (.getfield 32, 3) by decide +kernel) wd_603 rfl ?_
      refine V_iload_n 33 rfl (show decode M_Trail_sum.2.1 32 = .ok (.iload_n 1, 1) by decide +kernel) 1 rfl ?_
      refine V_ald_r27 34 rfl (show decode M_Trail_sum.2.1 33 = .ok (.aaload, 1) by decide +kernel) ?_
      refine V_callVN (tb := tL) (as := []) (rest := []) (na := 0) 37 rfl ck_Sheet (by decide) (s_Sheet_total (SR σ_1 (SR σ_1 h0 4) (ix x1)) ((((((b_1 && cK σ_1 h0 12) && cA σ_1 (SR σ_1 h0 4) 27 x1) && cK σ_1 (SR σ_1 (SR σ_1 h0 4) (ix x1)) 6) && cK σ_1 h0 12) && cA σ_1 (SR σ_1 h0 4) 27 x1) && cK σ_1 (SR σ_1 (SR σ_1 h0 4) (ix x1)) 6) σ_1) rfl rfl (Nat.le_of_ble_eq_true rfl) (cal_Sheet_total _ _ _ _ _ (by decide) (by decide) (by decide)) (show decode M_Trail_sum.2.1 34 = .ok (.invokevirtual 377, 3) by decide +kernel) wd_1445 wd_1447 wd_105 (fun r_2 b_2 σ_2 => ?_)
      show V M_Trail_sum 3 0 0 0 0 tI _ 37 [(0, vR h0), (1, vI x1), (2, vI x2)] [vL r_2] b_2 σ_2
      refine V_iload_n 38 rfl (show decode M_Trail_sum.2.1 37 = .ok (.iload_n 2, 1) by decide +kernel) 2 rfl ?_
      refine V_i2l 39 rfl (show decode M_Trail_sum.2.1 38 = .ok (.i2l, 1) by decide +kernel) ?_
      refine V_lmul 40 rfl (show decode M_Trail_sum.2.1 39 = .ok (.lmul, 1) by decide +kernel) ?_
      refine V_l2i 41 rfl (show decode M_Trail_sum.2.1 40 = .ok (.l2i, 1) by decide +kernel) ?_
      exact V_iret rfl (by decide) (by decide) (show decode M_Trail_sum.2.1 41 = .ok (.ireturn, 1) by decide +kernel)
theorem cal_Trail_sum (d mc ms k n : Nat) (h1 : 3 + 1 ≤ d) (h2 : k + 0 ≤ mc) (h3 : n + 0 ≤ ms) : Cal M_Trail_sum 3 0 0 2 d mc ms k n := ⟨wd_1444, wd_170, by decide, h1, by decide, h2, h3⟩
abbrev M_Trail_tell : MD := (⟨"LongTrail", "tell", "(I)I"⟩, prog_1_method_42_code, 2, (some FieldType.int))
def f_Trail_tell (h0 : Nat) (x1 : Int32) (b : Bool) (σ : Sto) : Rs Int32 := (if (SI σ h0 6) < (60 : Int32) then (lt_ (pI σ (SR σ h0 5) (ix (SI σ h0 6)) x1) (fun (σ_1 : Sto) => (lt_ (pI σ_1 h0 6 ((SI σ_1 h0 6) + (1 : Int32))) (fun (σ_2 : Sto) => ((SI σ_2 h0 6), (((((((b && cK σ h0 12) && cK σ h0 12) && cK σ h0 12) && cA σ (SR σ h0 5) 21 (SI σ h0 6)) && cK σ_1 h0 12) && cK σ_1 h0 12) && cK σ_2 h0 12), σ_2))))) else ((-1000000003 : Int32), (b && cK σ h0 12), σ))
set_option maxRecDepth 100000 in
set_option maxHeartbeats 4000000 in
theorem s_Trail_tell : ∀ (h0 : Nat) (x1 : Int32) (b : Bool) (σ : Sto), Snd M_Trail_tell 1 0 0 [vR h0, vI x1] b σ (tI (f_Trail_tell h0 x1 b σ).1) (f_Trail_tell h0 x1 b σ).2.1 (f_Trail_tell h0 x1 b σ).2.2 := by
  intro h0 x1 b σ
  refine Snd_of (tv := tI) (by decide) (Nat.le_of_ble_eq_true rfl) ?_
  show V M_Trail_tell 1 0 0 0 0 tI (f_Trail_tell h0 x1 b σ) 0 [(0, vR h0), (1, vI x1)] [] b σ
  unfold f_Trail_tell
  refine V_aload_n 1 rfl (show decode M_Trail_tell.2.1 0 = .ok (.aload_n 0, 1) by decide +kernel) 0 rfl ?_
  refine V_get (j := 6) (v := vI (SI σ h0 6)) 4 rfl ck_Trail (by decide) (by decide) (show decode M_Trail_tell.2.1 1 = .ok (.getfield 390, 3) by decide +kernel) wd_605 rfl ?_
  refine V_bipush 6 rfl (show decode M_Trail_tell.2.1 4 = .ok (.bipush 60, 2) by decide +kernel) (v := 60) rfl ?_
  refine V_icmplt 9 12 rfl (show decode M_Trail_tell.2.1 6 = .ok (.if_icmp .lt 6, 3) by decide +kernel) rfl ?_ ?_
  · skip
    refine V_aload_n 13 rfl (show decode M_Trail_tell.2.1 12 = .ok (.aload_n 0, 1) by decide +kernel) 0 rfl ?_
    refine V_get (j := 5) (v := vR (SR σ h0 5)) 16 rfl ck_Trail (by decide) (by decide) (show decode M_Trail_tell.2.1 13 = .ok (.getfield 36, 3) by decide +kernel) wd_604 rfl ?_
    refine V_aload_n 17 rfl (show decode M_Trail_tell.2.1 16 = .ok (.aload_n 0, 1) by decide +kernel) 0 rfl ?_
    refine V_get (j := 6) (v := vI (SI σ h0 6)) 20 rfl ck_Trail (by decide) (by decide) (show decode M_Trail_tell.2.1 17 = .ok (.getfield 390, 3) by decide +kernel) wd_605 rfl ?_
    refine V_iload_n 21 rfl (show decode M_Trail_tell.2.1 20 = .ok (.iload_n 1, 1) by decide +kernel) 1 rfl ?_
    refine V_ast_int 22 rfl (show decode M_Trail_tell.2.1 21 = .ok (.iastore, 1) by decide +kernel) (fun σ_1 => ?_)
    refine V_aload_n 23 rfl (show decode M_Trail_tell.2.1 22 = .ok (.aload_n 0, 1) by decide +kernel) 0 rfl ?_
    refine V_dup 24 rfl (show decode M_Trail_tell.2.1 23 = .ok (.dup, 1) by decide +kernel) rfl ?_
    refine V_get (j := 6) (v := vI (SI σ_1 h0 6)) 27 rfl ck_Trail (by decide) (by decide) (show decode M_Trail_tell.2.1 24 = .ok (.getfield 390, 3) by decide +kernel) wd_605 rfl ?_
    refine V_iconst 28 rfl (show decode M_Trail_tell.2.1 27 = .ok (.iconst 1, 1) by decide +kernel) (v := 1) rfl ?_
    refine V_iadd 29 rfl (show decode M_Trail_tell.2.1 28 = .ok (.iadd, 1) by decide +kernel) ?_
    refine V_putI (j := 6) 32 rfl ck_Trail (by decide) (by decide) (show decode M_Trail_tell.2.1 29 = .ok (.putfield 390, 3) by decide +kernel) wd_605 rfl (fun _ => rfl) rfl rfl (fun σ_2 => ?_)
    refine V_aload_n 33 rfl (show decode M_Trail_tell.2.1 32 = .ok (.aload_n 0, 1) by decide +kernel) 0 rfl ?_
    refine V_get (j := 6) (v := vI (SI σ_2 h0 6)) 36 rfl ck_Trail (by decide) (by decide) (show decode M_Trail_tell.2.1 33 = .ok (.getfield 390, 3) by decide +kernel) wd_605 rfl ?_
    exact V_iret rfl (by decide) (by decide) (show decode M_Trail_tell.2.1 36 = .ok (.ireturn, 1) by decide +kernel)
  · skip
    refine V_ldc 11 rfl (show decode M_Trail_tell.2.1 9 = .ok (.ldc 84, 2) by decide +kernel) wd_657 ?_
    exact V_iret rfl (by decide) (by decide) (show decode M_Trail_tell.2.1 11 = .ok (.ireturn, 1) by decide +kernel)
theorem cal_Trail_tell (d mc ms k n : Nat) (h1 : 1 + 1 ≤ d) (h2 : k + 0 ≤ mc) (h3 : n + 0 ≤ ms) : Cal M_Trail_tell 1 0 0 1 d mc ms k n := ⟨wd_1461, wd_170, by decide, h1, by decide, h2, h3⟩
abbrev M_Laws_add : MD := (⟨"LongTrail$Laws", "add", "(LLongTrail$Text;)I"⟩, prog_4_method_3_code, 2, (some FieldType.int))
def f_Laws_add (h0 : Nat) (h1 : Nat) (b : Bool) (σ : Sto) : Rs Int32 := (lt_ (pR σ (SR σ h0 0) (ix (SI σ h0 1)) h1) (fun (σ_1 : Sto) => (lt_ (pI σ_1 h0 1 ((SI σ_1 h0 1) + (1 : Int32))) (fun (σ_2 : Sto) => (((SI σ_2 h0 1) - (1 : Int32)), ((((((b && cK σ h0 3) && cK σ h0 3) && (cA σ (SR σ h0 0) 25 (SI σ h0 1) && (decide (h1 = 0) || cK σ h1 9))) && cK σ_1 h0 3) && cK σ_1 h0 3) && cK σ_2 h0 3), σ_2)))))
set_option maxRecDepth 100000 in
set_option maxHeartbeats 4000000 in
theorem s_Laws_add : ∀ (h0 : Nat) (h1 : Nat) (b : Bool) (σ : Sto), Snd M_Laws_add 1 0 0 [vR h0, vR h1] b σ (tI (f_Laws_add h0 h1 b σ).1) (f_Laws_add h0 h1 b σ).2.1 (f_Laws_add h0 h1 b σ).2.2 := by
  intro h0 h1 b σ
  refine Snd_of (tv := tI) (by decide) (Nat.le_of_ble_eq_true rfl) ?_
  show V M_Laws_add 1 0 0 0 0 tI (f_Laws_add h0 h1 b σ) 0 [(0, vR h0), (1, vR h1)] [] b σ
  unfold f_Laws_add
  refine V_aload_n 1 rfl (show decode M_Laws_add.2.1 0 = .ok (.aload_n 0, 1) by decide +kernel) 0 rfl ?_
  refine V_get (j := 0) (v := vR (SR σ h0 0)) 4 rfl ck_Laws (by decide) (by decide) (show decode M_Laws_add.2.1 1 = .ok (.getfield 11, 3) by decide +kernel) wd_274 rfl ?_
  refine V_aload_n 5 rfl (show decode M_Laws_add.2.1 4 = .ok (.aload_n 0, 1) by decide +kernel) 0 rfl ?_
  refine V_get (j := 1) (v := vI (SI σ h0 1)) 8 rfl ck_Laws (by decide) (by decide) (show decode M_Laws_add.2.1 5 = .ok (.getfield 24, 3) by decide +kernel) wd_275 rfl ?_
  refine V_aload_n 9 rfl (show decode M_Laws_add.2.1 8 = .ok (.aload_n 1, 1) by decide +kernel) 1 rfl ?_
  refine V_ast_r25 10 rfl (show decode M_Laws_add.2.1 9 = .ok (.aastore, 1) by decide +kernel) (fun σ_1 => ?_)
  refine V_aload_n 11 rfl (show decode M_Laws_add.2.1 10 = .ok (.aload_n 0, 1) by decide +kernel) 0 rfl ?_
  refine V_dup 12 rfl (show decode M_Laws_add.2.1 11 = .ok (.dup, 1) by decide +kernel) rfl ?_
  refine V_get (j := 1) (v := vI (SI σ_1 h0 1)) 15 rfl ck_Laws (by decide) (by decide) (show decode M_Laws_add.2.1 12 = .ok (.getfield 24, 3) by decide +kernel) wd_275 rfl ?_
  refine V_iconst 16 rfl (show decode M_Laws_add.2.1 15 = .ok (.iconst 1, 1) by decide +kernel) (v := 1) rfl ?_
  refine V_iadd 17 rfl (show decode M_Laws_add.2.1 16 = .ok (.iadd, 1) by decide +kernel) ?_
  refine V_putI (j := 1) 20 rfl ck_Laws (by decide) (by decide) (show decode M_Laws_add.2.1 17 = .ok (.putfield 24, 3) by decide +kernel) wd_275 rfl (fun _ => rfl) rfl rfl (fun σ_2 => ?_)
  refine V_aload_n 21 rfl (show decode M_Laws_add.2.1 20 = .ok (.aload_n 0, 1) by decide +kernel) 0 rfl ?_
  refine V_get (j := 1) (v := vI (SI σ_2 h0 1)) 24 rfl ck_Laws (by decide) (by decide) (show decode M_Laws_add.2.1 21 = .ok (.getfield 24, 3) by decide +kernel) wd_275 rfl ?_
  refine V_iconst 25 rfl (show decode M_Laws_add.2.1 24 = .ok (.iconst 1, 1) by decide +kernel) (v := 1) rfl ?_
  refine V_isub 26 rfl (show decode M_Laws_add.2.1 25 = .ok (.isub, 1) by decide +kernel) ?_
  exact V_iret rfl (by decide) (by decide) (show decode M_Laws_add.2.1 26 = .ok (.ireturn, 1) by decide +kernel)
theorem cal_Laws_add (d mc ms k n : Nat) (h1 : 1 + 1 ≤ d) (h2 : k + 0 ≤ mc) (h3 : n + 0 ≤ ms) : Cal M_Laws_add 1 0 0 1 d mc ms k n := ⟨wd_986, wd_173, by decide, h1, by decide, h2, h3⟩
abbrev M_Tape_isDigit : MD := (⟨"LongTrail$Tape", "isDigit", "(B)Z"⟩, prog_9_method_12_code, 1, (some FieldType.boolean))
def f_Tape_isDigit (x0 : Int32) (b : Bool) (σ : Sto) : Rs Int32 := (lt_ (fun (b : Bool) (σ : Sto) => ((0 : Int32), b, σ)) (fun J16 => (if x0 < (48 : Int32) then (J16 b σ) else (if (57 : Int32) < x0 then (J16 b σ) else ((1 : Int32), b, σ)))))
set_option maxRecDepth 100000 in
set_option maxHeartbeats 4000000 in
theorem s_Tape_isDigit : ∀ (x0 : Int32) (b : Bool) (σ : Sto), Snd M_Tape_isDigit 1 0 0 [vI x0] b σ (tI (f_Tape_isDigit x0 b σ).1) (f_Tape_isDigit x0 b σ).2.1 (f_Tape_isDigit x0 b σ).2.2 := by
  intro x0 b σ
  refine Snd_of (tv := tI) (by decide) (Nat.le_of_ble_eq_true rfl) ?_
  show V M_Tape_isDigit 1 0 0 0 0 tI (f_Tape_isDigit x0 b σ) 0 [(0, vI x0)] [] b σ
  unfold f_Tape_isDigit
  refine V_iload_n 1 rfl (show decode M_Tape_isDigit.2.1 0 = .ok (.iload_n 0, 1) by decide +kernel) 0 rfl ?_
  refine V_bipush 3 rfl (show decode M_Tape_isDigit.2.1 1 = .ok (.bipush 48, 2) by decide +kernel) (v := 48) rfl ?_
  refine V_jn (fun (J16 : Bool → Sto → Rs Int32) => ∀ (b : Bool) (σ : Sto), V M_Tape_isDigit 1 0 0 0 0 tI (J16 b σ) 16 [] [] b σ) ?_ (fun J16 hJ16 => ?_)
  · intro b σ
    refine V_iconst 17 rfl (show decode M_Tape_isDigit.2.1 16 = .ok (.iconst 0, 1) by decide +kernel) (v := 0) rfl ?_
    exact V_zret rfl (by decide) (by decide) rfl (show decode M_Tape_isDigit.2.1 17 = .ok (.ireturn, 1) by decide +kernel)
  · skip
    refine V_icmplt 6 16 rfl (show decode M_Tape_isDigit.2.1 3 = .ok (.if_icmp .lt 13, 3) by decide +kernel) rfl ?_ ?_
    · skip
      exact V_sub [] rfl (hJ16 b σ)
    · skip
      refine V_iload_n 7 rfl (show decode M_Tape_isDigit.2.1 6 = .ok (.iload_n 0, 1) by decide +kernel) 0 rfl ?_
      refine V_bipush 9 rfl (show decode M_Tape_isDigit.2.1 7 = .ok (.bipush 57, 2) by decide +kernel) (v := 57) rfl ?_
      refine V_icmpgt 12 16 rfl (show decode M_Tape_isDigit.2.1 9 = .ok (.if_icmp .gt 7, 3) by decide +kernel) rfl ?_ ?_
      · skip
        exact V_sub [] rfl (hJ16 b σ)
      · skip
        refine V_iconst 13 rfl (show decode M_Tape_isDigit.2.1 12 = .ok (.iconst 1, 1) by decide +kernel) (v := 1) rfl ?_
        refine V_goto 17 (show decode M_Tape_isDigit.2.1 13 = .ok (.goto 4, 3) by decide +kernel) rfl ?_
        exact V_zret rfl (by decide) (by decide) rfl (show decode M_Tape_isDigit.2.1 17 = .ok (.ireturn, 1) by decide +kernel)
theorem cal_Tape_isDigit (d mc ms k n : Nat) (h1 : 1 + 1 ≤ d) (h2 : k + 0 ≤ mc) (h3 : n + 0 ≤ ms) : Cal M_Tape_isDigit 1 0 0 1 d mc ms k n := ⟨wd_777, wd_179, by decide, h1, by decide, h2, h3⟩
abbrev M_Tape_isLetter : MD := (⟨"LongTrail$Tape", "isLetter", "(B)Z"⟩, prog_9_method_11_code, 1, (some FieldType.boolean))
def f_Tape_isLetter (x0 : Int32) (b : Bool) (σ : Sto) : Rs Int32 := (lt_ (fun (b : Bool) (σ : Sto) => ((0 : Int32), b, σ)) (fun J16 => (if x0 < (97 : Int32) then (J16 b σ) else (if (122 : Int32) < x0 then (J16 b σ) else ((1 : Int32), b, σ)))))
set_option maxRecDepth 100000 in
set_option maxHeartbeats 4000000 in
theorem s_Tape_isLetter : ∀ (x0 : Int32) (b : Bool) (σ : Sto), Snd M_Tape_isLetter 1 0 0 [vI x0] b σ (tI (f_Tape_isLetter x0 b σ).1) (f_Tape_isLetter x0 b σ).2.1 (f_Tape_isLetter x0 b σ).2.2 := by
  intro x0 b σ
  refine Snd_of (tv := tI) (by decide) (Nat.le_of_ble_eq_true rfl) ?_
  show V M_Tape_isLetter 1 0 0 0 0 tI (f_Tape_isLetter x0 b σ) 0 [(0, vI x0)] [] b σ
  unfold f_Tape_isLetter
  refine V_iload_n 1 rfl (show decode M_Tape_isLetter.2.1 0 = .ok (.iload_n 0, 1) by decide +kernel) 0 rfl ?_
  refine V_bipush 3 rfl (show decode M_Tape_isLetter.2.1 1 = .ok (.bipush 97, 2) by decide +kernel) (v := 97) rfl ?_
  refine V_jn (fun (J16 : Bool → Sto → Rs Int32) => ∀ (b : Bool) (σ : Sto), V M_Tape_isLetter 1 0 0 0 0 tI (J16 b σ) 16 [] [] b σ) ?_ (fun J16 hJ16 => ?_)
  · intro b σ
    refine V_iconst 17 rfl (show decode M_Tape_isLetter.2.1 16 = .ok (.iconst 0, 1) by decide +kernel) (v := 0) rfl ?_
    exact V_zret rfl (by decide) (by decide) rfl (show decode M_Tape_isLetter.2.1 17 = .ok (.ireturn, 1) by decide +kernel)
  · skip
    refine V_icmplt 6 16 rfl (show decode M_Tape_isLetter.2.1 3 = .ok (.if_icmp .lt 13, 3) by decide +kernel) rfl ?_ ?_
    · skip
      exact V_sub [] rfl (hJ16 b σ)
    · skip
      refine V_iload_n 7 rfl (show decode M_Tape_isLetter.2.1 6 = .ok (.iload_n 0, 1) by decide +kernel) 0 rfl ?_
      refine V_bipush 9 rfl (show decode M_Tape_isLetter.2.1 7 = .ok (.bipush 122, 2) by decide +kernel) (v := 122) rfl ?_
      refine V_icmpgt 12 16 rfl (show decode M_Tape_isLetter.2.1 9 = .ok (.if_icmp .gt 7, 3) by decide +kernel) rfl ?_ ?_
      · skip
        exact V_sub [] rfl (hJ16 b σ)
      · skip
        refine V_iconst 13 rfl (show decode M_Tape_isLetter.2.1 12 = .ok (.iconst 1, 1) by decide +kernel) (v := 1) rfl ?_
        refine V_goto 17 (show decode M_Tape_isLetter.2.1 13 = .ok (.goto 4, 3) by decide +kernel) rfl ?_
        exact V_zret rfl (by decide) (by decide) rfl (show decode M_Tape_isLetter.2.1 17 = .ok (.ireturn, 1) by decide +kernel)
theorem cal_Tape_isLetter (d mc ms k n : Nat) (h1 : 1 + 1 ≤ d) (h2 : k + 0 ≤ mc) (h3 : n + 0 ≤ ms) : Cal M_Tape_isLetter 1 0 0 1 d mc ms k n := ⟨wd_770, wd_179, by decide, h1, by decide, h2, h3⟩
abbrev M_Tape_takeDigits : MD := (⟨"LongTrail$Tape", "takeDigits", "()V"⟩, prog_9_method_10_code, 1, (none : Option FieldType))
def b_Tape_takeDigits_5 (h0 : Nat) (L5 : Bool → Sto → Rs Unit) (b : Bool) (σ : Sto) : Rs Unit := (lt_ (fun (b : Bool) (σ : Sto) => (lt_ (fun (s0_87 : Int32) (s1_87 : Nat) (b : Bool) (σ : Sto) => (lt_ (pI σ s1_87 4 s0_87) (fun (σ_2 : Sto) => ((), (b && cK σ s1_87 8), σ_2)))) (fun J87 => (if (4 : Int32) < ((SI σ h0 3) - (SI σ h0 2)) then (J87 (4 : Int32) h0 ((b && cK σ h0 8) && cK σ h0 8) σ) else (J87 (2 : Int32) h0 ((b && cK σ h0 8) && cK σ h0 8) σ))))) (fun J68 => (if (SI σ h0 3) < (SI σ h0 1) then (bd_ (f_Tape_isDigit (SI σ (SR σ h0 0) (ix (SI σ h0 3))) (((((b && cK σ h0 8) && cK σ h0 8) && cK σ h0 8) && cK σ h0 8) && cA σ (SR σ h0 0) 22 (SI σ h0 3)) σ) (fun (r_3 : Int32) (b_3 : Bool) (σ_3 : Sto) => (if r_3 = 0 then (J68 b_3 σ_3) else (lt_ (pI σ_3 h0 6 ((((10 : Int32) * (SI σ_3 h0 6)) + (SI σ_3 (SR σ_3 h0 0) (ix (SI σ_3 h0 3)))) - (48 : Int32))) (fun (σ_4 : Sto) => (lt_ (pI σ_4 h0 3 ((SI σ_4 h0 3) + (1 : Int32))) (fun (σ_5 : Sto) => (L5 (((((((b_3 && cK σ_3 h0 8) && cK σ_3 h0 8) && cK σ_3 h0 8) && cA σ_3 (SR σ_3 h0 0) 22 (SI σ_3 h0 3)) && cK σ_3 h0 8) && cK σ_4 h0 8) && cK σ_4 h0 8) σ_5)))))))) else (J68 ((b && cK σ h0 8) && cK σ h0 8) σ))))
def f_Tape_takeDigits (h0 : Nat) (b : Bool) (σ : Sto) : Rs Unit := (lt_ (pI σ h0 6 (0 : Int32)) (fun (σ_1 : Sto) => (lp_ (b_Tape_takeDigits_5 h0) (fun (b : Bool) (σ : Sto) => ((), false, σ)) fuel_ (b && cK σ h0 8) σ_1)))
set_option maxRecDepth 100000 in
set_option maxHeartbeats 4000000 in
theorem s_Tape_takeDigits : ∀ (h0 : Nat) (b : Bool) (σ : Sto), Snd M_Tape_takeDigits 2 0 0 [vR h0] b σ (tU (f_Tape_takeDigits h0 b σ).1) (f_Tape_takeDigits h0 b σ).2.1 (f_Tape_takeDigits h0 b σ).2.2 := by
  intro h0 b σ
  refine Snd_of (tv := tU) (by decide) (Nat.le_of_ble_eq_true rfl) ?_
  show V M_Tape_takeDigits 2 0 0 0 0 tU (f_Tape_takeDigits h0 b σ) 0 [(0, vR h0)] [] b σ
  unfold f_Tape_takeDigits
  refine V_aload_n 1 rfl (show decode M_Tape_takeDigits.2.1 0 = .ok (.aload_n 0, 1) by decide +kernel) 0 rfl ?_
  refine V_iconst 2 rfl (show decode M_Tape_takeDigits.2.1 1 = .ok (.iconst 0, 1) by decide +kernel) (v := 0) rfl ?_
  refine V_putI (j := 6) 5 rfl ck_Tape (by decide) (by decide) (show decode M_Tape_takeDigits.2.1 2 = .ok (.putfield 86, 3) by decide +kernel) wd_547 rfl (fun _ => rfl) rfl rfl (fun σ_1 => ?_)
  refine V_sub [0] rfl ?_
  refine lp_P (fun (L5 : Bool → Sto → Rs Unit) => ∀ (b : Bool) (σ : Sto), V M_Tape_takeDigits 2 0 0 0 0 tU (L5 b σ) 5 [(0, vR h0)] [] b σ) ?_ ?_ fuel_ (b && cK σ h0 8) σ_1
  · intro b σ; exact V_bad
  · intro L5 hL5 b σ
    unfold b_Tape_takeDigits_5
    refine V_aload_n 6 rfl (show decode M_Tape_takeDigits.2.1 5 = .ok (.aload_n 0, 1) by decide +kernel) 0 rfl ?_
    refine V_get (j := 3) (v := vI (SI σ h0 3)) 9 rfl ck_Tape (by decide) (by decide) (show decode M_Tape_takeDigits.2.1 6 = .ok (.getfield 30, 3) by decide +kernel) wd_544 rfl ?_
    refine V_aload_n 10 rfl (show decode M_Tape_takeDigits.2.1 9 = .ok (.aload_n 0, 1) by decide +kernel) 0 rfl ?_
    refine V_get (j := 1) (v := vI (SI σ h0 1)) 13 rfl ck_Tape (by decide) (by decide) (show decode M_Tape_takeDigits.2.1 10 = .ok (.getfield 17, 3) by decide +kernel) wd_541 rfl ?_
    refine V_jn (fun (J68 : Bool → Sto → Rs Unit) => ∀ (b : Bool) (σ : Sto), V M_Tape_takeDigits 2 0 0 0 0 tU (J68 b σ) 68 [(0, vR h0)] [] b σ) ?_ (fun J68 hJ68 => ?_)
    · intro b σ
      refine V_aload_n 69 rfl (show decode M_Tape_takeDigits.2.1 68 = .ok (.aload_n 0, 1) by decide +kernel) 0 rfl ?_
      refine V_aload_n 70 rfl (show decode M_Tape_takeDigits.2.1 69 = .ok (.aload_n 0, 1) by decide +kernel) 0 rfl ?_
      refine V_get (j := 3) (v := vI (SI σ h0 3)) 73 rfl ck_Tape (by decide) (by decide) (show decode M_Tape_takeDigits.2.1 70 = .ok (.getfield 30, 3) by decide +kernel) wd_544 rfl ?_
      refine V_aload_n 74 rfl (show decode M_Tape_takeDigits.2.1 73 = .ok (.aload_n 0, 1) by decide +kernel) 0 rfl ?_
      refine V_get (j := 2) (v := vI (SI σ h0 2)) 77 rfl ck_Tape (by decide) (by decide) (show decode M_Tape_takeDigits.2.1 74 = .ok (.getfield 63, 3) by decide +kernel) wd_543 rfl ?_
      refine V_isub 78 rfl (show decode M_Tape_takeDigits.2.1 77 = .ok (.isub, 1) by decide +kernel) ?_
      refine V_iconst 79 rfl (show decode M_Tape_takeDigits.2.1 78 = .ok (.iconst 4, 1) by decide +kernel) (v := 4) rfl ?_
      refine V_jn (fun (J87 : Int32 → Nat → Bool → Sto → Rs Unit) => ∀ (s0_87 : Int32) (s1_87 : Nat) (b : Bool) (σ : Sto), V M_Tape_takeDigits 2 0 0 0 0 tU (J87 s0_87 s1_87 b σ) 87 [] [vI s0_87, vR s1_87] b σ) ?_ (fun J87 hJ87 => ?_)
      · intro s0_87 s1_87 b σ
        refine V_putI (j := 4) 90 rfl ck_Tape (by decide) (by decide) (show decode M_Tape_takeDigits.2.1 87 = .ok (.putfield 33, 3) by decide +kernel) wd_545 rfl (fun _ => rfl) rfl rfl (fun σ_2 => ?_)
        exact V_vret rfl (by decide) (by decide) (show decode M_Tape_takeDigits.2.1 90 = .ok (.return_, 1) by decide +kernel)
      · skip
        refine V_icmple 82 86 rfl (show decode M_Tape_takeDigits.2.1 79 = .ok (.if_icmp .le 7, 3) by decide +kernel) rfl ?_ ?_
        · skip
          refine V_iconst 83 rfl (show decode M_Tape_takeDigits.2.1 82 = .ok (.iconst 4, 1) by decide +kernel) (v := 4) rfl ?_
          refine V_goto 87 (show decode M_Tape_takeDigits.2.1 83 = .ok (.goto 4, 3) by decide +kernel) rfl ?_
          exact V_sub [] rfl (hJ87 (4 : Int32) h0 ((b && cK σ h0 8) && cK σ h0 8) σ)
        · skip
          refine V_iconst 87 rfl (show decode M_Tape_takeDigits.2.1 86 = .ok (.iconst 2, 1) by decide +kernel) (v := 2) rfl ?_
          exact V_sub [] rfl (hJ87 (2 : Int32) h0 ((b && cK σ h0 8) && cK σ h0 8) σ)
    · skip
      refine V_icmpge 16 68 rfl (show decode M_Tape_takeDigits.2.1 13 = .ok (.if_icmp .ge 55, 3) by decide +kernel) rfl ?_ ?_
      · skip
        refine V_aload_n 17 rfl (show decode M_Tape_takeDigits.2.1 16 = .ok (.aload_n 0, 1) by decide +kernel) 0 rfl ?_
        refine V_get (j := 0) (v := vR (SR σ h0 0)) 20 rfl ck_Tape (by decide) (by decide) (show decode M_Tape_takeDigits.2.1 17 = .ok (.getfield 9, 3) by decide +kernel) wd_540 rfl ?_
        refine V_aload_n 21 rfl (show decode M_Tape_takeDigits.2.1 20 = .ok (.aload_n 0, 1) by decide +kernel) 0 rfl ?_
        refine V_get (j := 3) (v := vI (SI σ h0 3)) 24 rfl ck_Tape (by decide) (by decide) (show decode M_Tape_takeDigits.2.1 21 = .ok (.getfield 30, 3) by decide +kernel) wd_544 rfl ?_
        refine V_ald_byte 25 rfl (show decode M_Tape_takeDigits.2.1 24 = .ok (.baload, 1) by decide +kernel) ?_
        refine V_callS (tb := tI) (as := [vI (SI σ (SR σ h0 0) (ix (SI σ h0 3)))]) (rest := []) (na := 1) 28 rfl (s_Tape_isDigit (SI σ (SR σ h0 0) (ix (SI σ h0 3))) (((((b && cK σ h0 8) && cK σ h0 8) && cK σ h0 8) && cK σ h0 8) && cA σ (SR σ h0 0) 22 (SI σ h0 3)) σ) rfl rfl (Nat.le_of_ble_eq_true rfl) (cal_Tape_isDigit _ _ _ _ _ (by decide) (by decide) (by decide)) (show decode M_Tape_takeDigits.2.1 25 = .ok (.invokestatic 80, 3) by decide +kernel) wd_775 wd_776 (fun r_3 b_3 σ_3 => ?_)
        show V M_Tape_takeDigits 2 0 0 0 0 tU _ 28 [(0, vR h0)] [vI r_3] b_3 σ_3
        refine V_ifeq 31 68 rfl (show decode M_Tape_takeDigits.2.1 28 = .ok (.ifCond .eq 40, 3) by decide +kernel) rfl ?_ ?_
        · skip
          exact V_sub [0] rfl (hJ68 b_3 σ_3)
        · skip
          refine V_aload_n 32 rfl (show decode M_Tape_takeDigits.2.1 31 = .ok (.aload_n 0, 1) by decide +kernel) 0 rfl ?_
          refine V_bipush 34 rfl (show decode M_Tape_takeDigits.2.1 32 = .ok (.bipush 10, 2) by decide +kernel) (v := 10) rfl ?_
          refine V_aload_n 35 rfl (show decode M_Tape_takeDigits.2.1 34 = .ok (.aload_n 0, 1) by decide +kernel) 0 rfl ?_
          refine V_get (j := 6) (v := vI (SI σ_3 h0 6)) 38 rfl ck_Tape (by decide) (by decide) (show decode M_Tape_takeDigits.2.1 35 = .ok (.getfield 86, 3) by decide +kernel) wd_547 rfl ?_
          refine V_imul 39 rfl (show decode M_Tape_takeDigits.2.1 38 = .ok (.imul, 1) by decide +kernel) ?_
          refine V_aload_n 40 rfl (show decode M_Tape_takeDigits.2.1 39 = .ok (.aload_n 0, 1) by decide +kernel) 0 rfl ?_
          refine V_get (j := 0) (v := vR (SR σ_3 h0 0)) 43 rfl ck_Tape (by decide) (by decide) (show decode M_Tape_takeDigits.2.1 40 = .ok (.getfield 9, 3) by decide +kernel) wd_540 rfl ?_
          refine V_aload_n 44 rfl (show decode M_Tape_takeDigits.2.1 43 = .ok (.aload_n 0, 1) by decide +kernel) 0 rfl ?_
          refine V_get (j := 3) (v := vI (SI σ_3 h0 3)) 47 rfl ck_Tape (by decide) (by decide) (show decode M_Tape_takeDigits.2.1 44 = .ok (.getfield 30, 3) by decide +kernel) wd_544 rfl ?_
          refine V_ald_byte 48 rfl (show decode M_Tape_takeDigits.2.1 47 = .ok (.baload, 1) by decide +kernel) ?_
          refine V_iadd 49 rfl (show decode M_Tape_takeDigits.2.1 48 = .ok (.iadd, 1) by decide +kernel) ?_
          refine V_bipush 51 rfl (show decode M_Tape_takeDigits.2.1 49 = .ok (.bipush 48, 2) by decide +kernel) (v := 48) rfl ?_
          refine V_isub 52 rfl (show decode M_Tape_takeDigits.2.1 51 = .ok (.isub, 1) by decide +kernel) ?_
          refine V_putI (j := 6) 55 rfl ck_Tape (by decide) (by decide) (show decode M_Tape_takeDigits.2.1 52 = .ok (.putfield 86, 3) by decide +kernel) wd_547 rfl (fun _ => rfl) rfl rfl (fun σ_4 => ?_)
          refine V_aload_n 56 rfl (show decode M_Tape_takeDigits.2.1 55 = .ok (.aload_n 0, 1) by decide +kernel) 0 rfl ?_
          refine V_dup 57 rfl (show decode M_Tape_takeDigits.2.1 56 = .ok (.dup, 1) by decide +kernel) rfl ?_
          refine V_get (j := 3) (v := vI (SI σ_4 h0 3)) 60 rfl ck_Tape (by decide) (by decide) (show decode M_Tape_takeDigits.2.1 57 = .ok (.getfield 30, 3) by decide +kernel) wd_544 rfl ?_
          refine V_iconst 61 rfl (show decode M_Tape_takeDigits.2.1 60 = .ok (.iconst 1, 1) by decide +kernel) (v := 1) rfl ?_
          refine V_iadd 62 rfl (show decode M_Tape_takeDigits.2.1 61 = .ok (.iadd, 1) by decide +kernel) ?_
          refine V_putI (j := 3) 65 rfl ck_Tape (by decide) (by decide) (show decode M_Tape_takeDigits.2.1 62 = .ok (.putfield 30, 3) by decide +kernel) wd_544 rfl (fun _ => rfl) rfl rfl (fun σ_5 => ?_)
          refine V_goto 5 (show decode M_Tape_takeDigits.2.1 65 = .ok (.goto (-60), 3) by decide +kernel) rfl ?_
          exact V_sub [0] rfl (hL5 (((((((b_3 && cK σ_3 h0 8) && cK σ_3 h0 8) && cK σ_3 h0 8) && cA σ_3 (SR σ_3 h0 0) 22 (SI σ_3 h0 3)) && cK σ_3 h0 8) && cK σ_4 h0 8) && cK σ_4 h0 8) σ_5)
      · skip
        exact V_sub [0] rfl (hJ68 ((b && cK σ h0 8) && cK σ h0 8) σ)
theorem cal_Tape_takeDigits (d mc ms k n : Nat) (h1 : 2 + 1 ≤ d) (h2 : k + 0 ≤ mc) (h3 : n + 0 ≤ ms) : Cal M_Tape_takeDigits 2 0 0 0 d mc ms k n := ⟨wd_781, wd_179, by decide, h1, by decide, h2, h3⟩
abbrev M_Tape_takeLetters : MD := (⟨"LongTrail$Tape", "takeLetters", "()V"⟩, prog_9_method_9_code, 1, (none : Option FieldType))
def b_Tape_takeLetters_5 (h0 : Nat) (L5 : Bool → Sto → Rs Unit) (b : Bool) (σ : Sto) : Rs Unit := (if (SI σ h0 3) < (SI σ h0 1) then (bd_ (f_Tape_isLetter (SI σ (SR σ h0 0) (ix (SI σ h0 3))) (((((b && cK σ h0 8) && cK σ h0 8) && cK σ h0 8) && cK σ h0 8) && cA σ (SR σ h0 0) 22 (SI σ h0 3)) σ) (fun (r_2 : Int32) (b_2 : Bool) (σ_2 : Sto) => (if r_2 = 0 then ((), b_2, σ_2) else (lt_ (pI σ_2 h0 3 ((SI σ_2 h0 3) + (1 : Int32))) (fun (σ_3 : Sto) => (L5 ((b_2 && cK σ_2 h0 8) && cK σ_2 h0 8) σ_3)))))) else ((), ((b && cK σ h0 8) && cK σ h0 8), σ))
def f_Tape_takeLetters (h0 : Nat) (b : Bool) (σ : Sto) : Rs Unit := (lt_ (pI σ h0 4 (1 : Int32)) (fun (σ_1 : Sto) => (lp_ (b_Tape_takeLetters_5 h0) (fun (b : Bool) (σ : Sto) => ((), false, σ)) fuel_ (b && cK σ h0 8) σ_1)))
set_option maxRecDepth 100000 in
set_option maxHeartbeats 4000000 in
theorem s_Tape_takeLetters : ∀ (h0 : Nat) (b : Bool) (σ : Sto), Snd M_Tape_takeLetters 2 0 0 [vR h0] b σ (tU (f_Tape_takeLetters h0 b σ).1) (f_Tape_takeLetters h0 b σ).2.1 (f_Tape_takeLetters h0 b σ).2.2 := by
  intro h0 b σ
  refine Snd_of (tv := tU) (by decide) (Nat.le_of_ble_eq_true rfl) ?_
  show V M_Tape_takeLetters 2 0 0 0 0 tU (f_Tape_takeLetters h0 b σ) 0 [(0, vR h0)] [] b σ
  unfold f_Tape_takeLetters
  refine V_aload_n 1 rfl (show decode M_Tape_takeLetters.2.1 0 = .ok (.aload_n 0, 1) by decide +kernel) 0 rfl ?_
  refine V_iconst 2 rfl (show decode M_Tape_takeLetters.2.1 1 = .ok (.iconst 1, 1) by decide +kernel) (v := 1) rfl ?_
  refine V_putI (j := 4) 5 rfl ck_Tape (by decide) (by decide) (show decode M_Tape_takeLetters.2.1 2 = .ok (.putfield 33, 3) by decide +kernel) wd_545 rfl (fun _ => rfl) rfl rfl (fun σ_1 => ?_)
  refine V_sub [0] rfl ?_
  refine lp_P (fun (L5 : Bool → Sto → Rs Unit) => ∀ (b : Bool) (σ : Sto), V M_Tape_takeLetters 2 0 0 0 0 tU (L5 b σ) 5 [(0, vR h0)] [] b σ) ?_ ?_ fuel_ (b && cK σ h0 8) σ_1
  · intro b σ; exact V_bad
  · intro L5 hL5 b σ
    unfold b_Tape_takeLetters_5
    refine V_aload_n 6 rfl (show decode M_Tape_takeLetters.2.1 5 = .ok (.aload_n 0, 1) by decide +kernel) 0 rfl ?_
    refine V_get (j := 3) (v := vI (SI σ h0 3)) 9 rfl ck_Tape (by decide) (by decide) (show decode M_Tape_takeLetters.2.1 6 = .ok (.getfield 30, 3) by decide +kernel) wd_544 rfl ?_
    refine V_aload_n 10 rfl (show decode M_Tape_takeLetters.2.1 9 = .ok (.aload_n 0, 1) by decide +kernel) 0 rfl ?_
    refine V_get (j := 1) (v := vI (SI σ h0 1)) 13 rfl ck_Tape (by decide) (by decide) (show decode M_Tape_takeLetters.2.1 10 = .ok (.getfield 17, 3) by decide +kernel) wd_541 rfl ?_
    refine V_icmpge 16 44 rfl (show decode M_Tape_takeLetters.2.1 13 = .ok (.if_icmp .ge 31, 3) by decide +kernel) rfl ?_ ?_
    · skip
      refine V_aload_n 17 rfl (show decode M_Tape_takeLetters.2.1 16 = .ok (.aload_n 0, 1) by decide +kernel) 0 rfl ?_
      refine V_get (j := 0) (v := vR (SR σ h0 0)) 20 rfl ck_Tape (by decide) (by decide) (show decode M_Tape_takeLetters.2.1 17 = .ok (.getfield 9, 3) by decide +kernel) wd_540 rfl ?_
      refine V_aload_n 21 rfl (show decode M_Tape_takeLetters.2.1 20 = .ok (.aload_n 0, 1) by decide +kernel) 0 rfl ?_
      refine V_get (j := 3) (v := vI (SI σ h0 3)) 24 rfl ck_Tape (by decide) (by decide) (show decode M_Tape_takeLetters.2.1 21 = .ok (.getfield 30, 3) by decide +kernel) wd_544 rfl ?_
      refine V_ald_byte 25 rfl (show decode M_Tape_takeLetters.2.1 24 = .ok (.baload, 1) by decide +kernel) ?_
      refine V_callS (tb := tI) (as := [vI (SI σ (SR σ h0 0) (ix (SI σ h0 3)))]) (rest := []) (na := 1) 28 rfl (s_Tape_isLetter (SI σ (SR σ h0 0) (ix (SI σ h0 3))) (((((b && cK σ h0 8) && cK σ h0 8) && cK σ h0 8) && cK σ h0 8) && cA σ (SR σ h0 0) 22 (SI σ h0 3)) σ) rfl rfl (Nat.le_of_ble_eq_true rfl) (cal_Tape_isLetter _ _ _ _ _ (by decide) (by decide) (by decide)) (show decode M_Tape_takeLetters.2.1 25 = .ok (.invokestatic 73, 3) by decide +kernel) wd_768 wd_769 (fun r_2 b_2 σ_2 => ?_)
      show V M_Tape_takeLetters 2 0 0 0 0 tU _ 28 [(0, vR h0)] [vI r_2] b_2 σ_2
      refine V_ifeq 31 44 rfl (show decode M_Tape_takeLetters.2.1 28 = .ok (.ifCond .eq 16, 3) by decide +kernel) rfl ?_ ?_
      · skip
        exact V_vret rfl (by decide) (by decide) (show decode M_Tape_takeLetters.2.1 44 = .ok (.return_, 1) by decide +kernel)
      · skip
        refine V_aload_n 32 rfl (show decode M_Tape_takeLetters.2.1 31 = .ok (.aload_n 0, 1) by decide +kernel) 0 rfl ?_
        refine V_dup 33 rfl (show decode M_Tape_takeLetters.2.1 32 = .ok (.dup, 1) by decide +kernel) rfl ?_
        refine V_get (j := 3) (v := vI (SI σ_2 h0 3)) 36 rfl ck_Tape (by decide) (by decide) (show decode M_Tape_takeLetters.2.1 33 = .ok (.getfield 30, 3) by decide +kernel) wd_544 rfl ?_
        refine V_iconst 37 rfl (show decode M_Tape_takeLetters.2.1 36 = .ok (.iconst 1, 1) by decide +kernel) (v := 1) rfl ?_
        refine V_iadd 38 rfl (show decode M_Tape_takeLetters.2.1 37 = .ok (.iadd, 1) by decide +kernel) ?_
        refine V_putI (j := 3) 41 rfl ck_Tape (by decide) (by decide) (show decode M_Tape_takeLetters.2.1 38 = .ok (.putfield 30, 3) by decide +kernel) wd_544 rfl (fun _ => rfl) rfl rfl (fun σ_3 => ?_)
        refine V_goto 5 (show decode M_Tape_takeLetters.2.1 41 = .ok (.goto (-36), 3) by decide +kernel) rfl ?_
        exact V_sub [0] rfl (hL5 ((b_2 && cK σ_2 h0 8) && cK σ_2 h0 8) σ_3)
    · skip
      exact V_vret rfl (by decide) (by decide) (show decode M_Tape_takeLetters.2.1 44 = .ok (.return_, 1) by decide +kernel)
theorem cal_Tape_takeLetters (d mc ms k n : Nat) (h1 : 2 + 1 ≤ d) (h2 : k + 0 ≤ mc) (h3 : n + 0 ≤ ms) : Cal M_Tape_takeLetters 2 0 0 0 d mc ms k n := ⟨wd_774, wd_179, by decide, h1, by decide, h2, h3⟩
abbrev M_Tape_nextWord : MD := (⟨"LongTrail$Tape", "nextWord", "()V"⟩, prog_9_method_8_code, 3, (none : Option FieldType))
def b_Tape_nextWord_35 (h0 : Nat) (x1_1 : Int32) (x2_2 : Int32) (L35 : Bool → Sto → Rs Unit) (b : Bool) (σ : Sto) : Rs Unit := (lt_ (fun (b : Bool) (σ : Sto) => (lt_ (pI σ h0 3 (SI σ h0 2)) (fun (σ_4 : Sto) => (lt_ (pI σ_4 h0 5 (0 : Int32)) (fun (σ_5 : Sto) => (lt_ (fun (b : Bool) (σ : Sto) => (if x1_1 = 0 then ((), b, σ) else (if (SI σ h0 2) = x2_2 then (lt_ (fun (b : Bool) (σ : Sto) => (lt_ (pI σ h0 4 (4 : Int32)) (fun (σ_6 : Sto) => ((), (b && cK σ h0 8), σ_6)))) (fun J205 => (if (SI σ h0 4) = (1 : Int32) then (J205 ((b && cK σ h0 8) && cK σ h0 8) σ) else (if (SI σ h0 4) = (2 : Int32) then (J205 (((b && cK σ h0 8) && cK σ h0 8) && cK σ h0 8) σ) else ((), (((b && cK σ h0 8) && cK σ h0 8) && cK σ h0 8), σ))))) else ((), (b && cK σ h0 8), σ)))) (fun J177 => (if (SI σ_5 h0 2) < (SI σ_5 h0 1) then (bd_ (f_Tape_isLetter (SI σ_5 (SR σ_5 h0 0) (ix (SI σ_5 h0 2))) ((((((((b && cK σ h0 8) && cK σ h0 8) && cK σ_4 h0 8) && cK σ_5 h0 8) && cK σ_5 h0 8) && cK σ_5 h0 8) && cK σ_5 h0 8) && cA σ_5 (SR σ_5 h0 0) 22 (SI σ_5 h0 2)) σ_5) (fun (r_7 : Int32) (b_7 : Bool) (σ_7 : Sto) => (if r_7 = 0 then (bd_ (f_Tape_isDigit (SI σ_7 (SR σ_7 h0 0) (ix (SI σ_7 h0 2))) (((b_7 && cK σ_7 h0 8) && cK σ_7 h0 8) && cA σ_7 (SR σ_7 h0 0) 22 (SI σ_7 h0 2)) σ_7) (fun (r_8 : Int32) (b_8 : Bool) (σ_8 : Sto) => (if r_8 = 0 then (lt_ (pI σ_8 h0 4 (3 : Int32)) (fun (σ_9 : Sto) => (lt_ (pI σ_9 h0 5 (SI σ_9 (SR σ_9 h0 0) (ix (SI σ_9 h0 2)))) (fun (σ_10 : Sto) => (lt_ (pI σ_10 h0 3 ((SI σ_10 h0 2) + (1 : Int32))) (fun (σ_11 : Sto) => (J177 (((((((b_8 && cK σ_8 h0 8) && cK σ_9 h0 8) && cK σ_9 h0 8) && cA σ_9 (SR σ_9 h0 0) 22 (SI σ_9 h0 2)) && cK σ_9 h0 8) && cK σ_10 h0 8) && cK σ_10 h0 8) σ_11))))))) else (bd_ (f_Tape_takeDigits h0 (b_8 && cK σ_8 h0 8) σ_8) (fun (r_12 : Unit) (b_12 : Bool) (σ_12 : Sto) => (J177 b_12 σ_12)))))) else (bd_ (f_Tape_takeLetters h0 (b_7 && cK σ_7 h0 8) σ_7) (fun (r_13 : Unit) (b_13 : Bool) (σ_13 : Sto) => (J177 b_13 σ_13)))))) else (lt_ (pI σ_5 h0 4 (5 : Int32)) (fun (σ_14 : Sto) => (J177 ((((((b && cK σ h0 8) && cK σ h0 8) && cK σ_4 h0 8) && cK σ_5 h0 8) && cK σ_5 h0 8) && cK σ_5 h0 8) σ_14))))))))))) (fun J73 => (if (SI σ h0 2) < (SI σ h0 1) then (if (SI σ (SR σ h0 0) (ix (SI σ h0 2))) = (32 : Int32) then (lt_ (pI σ h0 2 ((SI σ h0 2) + (1 : Int32))) (fun (σ_15 : Sto) => (L35 (((((((b && cK σ h0 8) && cK σ h0 8) && cK σ h0 8) && cK σ h0 8) && cA σ (SR σ h0 0) 22 (SI σ h0 2)) && cK σ h0 8) && cK σ h0 8) σ_15))) else (J73 (((((b && cK σ h0 8) && cK σ h0 8) && cK σ h0 8) && cK σ h0 8) && cA σ (SR σ h0 0) 22 (SI σ h0 2)) σ)) else (J73 ((b && cK σ h0 8) && cK σ h0 8) σ))))
def f_Tape_nextWord (h0 : Nat) (b : Bool) (σ : Sto) : Rs Unit := (lt_ (fun (s0_21 : Int32) (b : Bool) (σ : Sto) => (lt_ s0_21 (fun (x1_1 : Int32) => (lt_ (SI σ h0 3) (fun (x2_2 : Int32) => (lt_ (pI σ h0 2 (SI σ h0 3)) (fun (σ_3 : Sto) => (lp_ (b_Tape_nextWord_35 h0 x1_1 x2_2) (fun (b : Bool) (σ : Sto) => ((), false, σ)) fuel_ (((b && cK σ h0 8) && cK σ h0 8) && cK σ h0 8) σ_3)))))))) (fun J21 => (lt_ (fun (b : Bool) (σ : Sto) => (J21 (1 : Int32) b σ)) (fun J16 => (if (SI σ h0 4) = (1 : Int32) then (J16 (b && cK σ h0 8) σ) else (if (SI σ h0 4) = (2 : Int32) then (J16 ((b && cK σ h0 8) && cK σ h0 8) σ) else (J21 (0 : Int32) ((b && cK σ h0 8) && cK σ h0 8) σ)))))))
set_option maxRecDepth 100000 in
set_option maxHeartbeats 4000000 in
theorem s_Tape_nextWord : ∀ (h0 : Nat) (b : Bool) (σ : Sto), Snd M_Tape_nextWord 3 0 0 [vR h0] b σ (tU (f_Tape_nextWord h0 b σ).1) (f_Tape_nextWord h0 b σ).2.1 (f_Tape_nextWord h0 b σ).2.2 := by
  intro h0 b σ
  refine Snd_of (tv := tU) (by decide) (Nat.le_of_ble_eq_true rfl) ?_
  show V M_Tape_nextWord 3 0 0 0 0 tU (f_Tape_nextWord h0 b σ) 0 [(0, vR h0)] [] b σ
  unfold f_Tape_nextWord
  refine V_aload_n 1 rfl (show decode M_Tape_nextWord.2.1 0 = .ok (.aload_n 0, 1) by decide +kernel) 0 rfl ?_
  refine V_get (j := 4) (v := vI (SI σ h0 4)) 4 rfl ck_Tape (by decide) (by decide) (show decode M_Tape_nextWord.2.1 1 = .ok (.getfield 33, 3) by decide +kernel) wd_545 rfl ?_
  refine V_iconst 5 rfl (show decode M_Tape_nextWord.2.1 4 = .ok (.iconst 1, 1) by decide +kernel) (v := 1) rfl ?_
  refine V_jn (fun (J21 : Int32 → Bool → Sto → Rs Unit) => ∀ (s0_21 : Int32) (b : Bool) (σ : Sto), V M_Tape_nextWord 3 0 0 0 0 tU (J21 s0_21 b σ) 21 [(0, vR h0)] [vI s0_21] b σ) ?_ (fun J21 hJ21 => ?_)
  · intro s0_21 b σ
    refine V_istore_n (fun x1_1 => [(1, vI x1_1), (0, vR h0)]) 22 rfl (show decode M_Tape_nextWord.2.1 21 = .ok (.istore_n 1, 1) by decide +kernel) (by decide) (fun _ => rfl) (fun x1_1 => ?_)
    refine V_aload_n 23 rfl (show decode M_Tape_nextWord.2.1 22 = .ok (.aload_n 0, 1) by decide +kernel) 1 rfl ?_
    refine V_get (j := 3) (v := vI (SI σ h0 3)) 26 rfl ck_Tape (by decide) (by decide) (show decode M_Tape_nextWord.2.1 23 = .ok (.getfield 30, 3) by decide +kernel) wd_544 rfl ?_
    refine V_istore_n (fun x2_2 => [(2, vI x2_2), (1, vI x1_1), (0, vR h0)]) 27 rfl (show decode M_Tape_nextWord.2.1 26 = .ok (.istore_n 2, 1) by decide +kernel) (by decide) (fun _ => rfl) (fun x2_2 => ?_)
    refine V_aload_n 28 rfl (show decode M_Tape_nextWord.2.1 27 = .ok (.aload_n 0, 1) by decide +kernel) 2 rfl ?_
    refine V_aload_n 29 rfl (show decode M_Tape_nextWord.2.1 28 = .ok (.aload_n 0, 1) by decide +kernel) 2 rfl ?_
    refine V_get (j := 3) (v := vI (SI σ h0 3)) 32 rfl ck_Tape (by decide) (by decide) (show decode M_Tape_nextWord.2.1 29 = .ok (.getfield 30, 3) by decide +kernel) wd_544 rfl ?_
    refine V_putI (j := 2) 35 rfl ck_Tape (by decide) (by decide) (show decode M_Tape_nextWord.2.1 32 = .ok (.putfield 63, 3) by decide +kernel) wd_543 rfl (fun _ => rfl) rfl rfl (fun σ_3 => ?_)
    refine V_sub [2, 1, 0] rfl ?_
    refine lp_P (fun (L35 : Bool → Sto → Rs Unit) => ∀ (b : Bool) (σ : Sto), V M_Tape_nextWord 3 0 0 0 0 tU (L35 b σ) 35 [(0, vR h0), (1, vI x1_1), (2, vI x2_2)] [] b σ) ?_ ?_ fuel_ (((b && cK σ h0 8) && cK σ h0 8) && cK σ h0 8) σ_3
    · intro b σ; exact V_bad
    · intro L35 hL35 b σ
      unfold b_Tape_nextWord_35
      refine V_aload_n 36 rfl (show decode M_Tape_nextWord.2.1 35 = .ok (.aload_n 0, 1) by decide +kernel) 0 rfl ?_
      refine V_get (j := 2) (v := vI (SI σ h0 2)) 39 rfl ck_Tape (by decide) (by decide) (show decode M_Tape_nextWord.2.1 36 = .ok (.getfield 63, 3) by decide +kernel) wd_543 rfl ?_
      refine V_aload_n 40 rfl (show decode M_Tape_nextWord.2.1 39 = .ok (.aload_n 0, 1) by decide +kernel) 0 rfl ?_
      refine V_get (j := 1) (v := vI (SI σ h0 1)) 43 rfl ck_Tape (by decide) (by decide) (show decode M_Tape_nextWord.2.1 40 = .ok (.getfield 17, 3) by decide +kernel) wd_541 rfl ?_
      refine V_jn (fun (J73 : Bool → Sto → Rs Unit) => ∀ (b : Bool) (σ : Sto), V M_Tape_nextWord 3 0 0 0 0 tU (J73 b σ) 73 [(0, vR h0), (1, vI x1_1), (2, vI x2_2)] [] b σ) ?_ (fun J73 hJ73 => ?_)
      · intro b σ
        refine V_aload_n 74 rfl (show decode M_Tape_nextWord.2.1 73 = .ok (.aload_n 0, 1) by decide +kernel) 0 rfl ?_
        refine V_aload_n 75 rfl (show decode M_Tape_nextWord.2.1 74 = .ok (.aload_n 0, 1) by decide +kernel) 0 rfl ?_
        refine V_get (j := 2) (v := vI (SI σ h0 2)) 78 rfl ck_Tape (by decide) (by decide) (show decode M_Tape_nextWord.2.1 75 = .ok (.getfield 63, 3) by decide +kernel) wd_543 rfl ?_
        refine V_putI (j := 3) 81 rfl ck_Tape (by decide) (by decide) (show decode M_Tape_nextWord.2.1 78 = .ok (.putfield 30, 3) by decide +kernel) wd_544 rfl (fun _ => rfl) rfl rfl (fun σ_4 => ?_)
        refine V_aload_n 82 rfl (show decode M_Tape_nextWord.2.1 81 = .ok (.aload_n 0, 1) by decide +kernel) 0 rfl ?_
        refine V_iconst 83 rfl (show decode M_Tape_nextWord.2.1 82 = .ok (.iconst 0, 1) by decide +kernel) (v := 0) rfl ?_
        refine V_putI (j := 5) 86 rfl ck_Tape (by decide) (by decide) (show decode M_Tape_nextWord.2.1 83 = .ok (.putfield 70, 3) by decide +kernel) wd_546 rfl (fun _ => rfl) rfl rfl (fun σ_5 => ?_)
        refine V_aload_n 87 rfl (show decode M_Tape_nextWord.2.1 86 = .ok (.aload_n 0, 1) by decide +kernel) 0 rfl ?_
        refine V_get (j := 2) (v := vI (SI σ_5 h0 2)) 90 rfl ck_Tape (by decide) (by decide) (show decode M_Tape_nextWord.2.1 87 = .ok (.getfield 63, 3) by decide +kernel) wd_543 rfl ?_
        refine V_aload_n 91 rfl (show decode M_Tape_nextWord.2.1 90 = .ok (.aload_n 0, 1) by decide +kernel) 0 rfl ?_
        refine V_get (j := 1) (v := vI (SI σ_5 h0 1)) 94 rfl ck_Tape (by decide) (by decide) (show decode M_Tape_nextWord.2.1 91 = .ok (.getfield 17, 3) by decide +kernel) wd_541 rfl ?_
        refine V_jn (fun (J177 : Bool → Sto → Rs Unit) => ∀ (b : Bool) (σ : Sto), V M_Tape_nextWord 3 0 0 0 0 tU (J177 b σ) 177 [(0, vR h0), (1, vI x1_1), (2, vI x2_2)] [] b σ) ?_ (fun J177 hJ177 => ?_)
        · intro b σ
          refine V_iload_n 178 rfl (show decode M_Tape_nextWord.2.1 177 = .ok (.iload_n 1, 1) by decide +kernel) 1 rfl ?_
          refine V_ifeq 181 210 rfl (show decode M_Tape_nextWord.2.1 178 = .ok (.ifCond .eq 32, 3) by decide +kernel) rfl ?_ ?_
          · skip
            exact V_vret rfl (by decide) (by decide) (show decode M_Tape_nextWord.2.1 210 = .ok (.return_, 1) by decide +kernel)
          · skip
            refine V_aload_n 182 rfl (show decode M_Tape_nextWord.2.1 181 = .ok (.aload_n 0, 1) by decide +kernel) 0 rfl ?_
            refine V_get (j := 2) (v := vI (SI σ h0 2)) 185 rfl ck_Tape (by decide) (by decide) (show decode M_Tape_nextWord.2.1 182 = .ok (.getfield 63, 3) by decide +kernel) wd_543 rfl ?_
            refine V_iload_n 186 rfl (show decode M_Tape_nextWord.2.1 185 = .ok (.iload_n 2, 1) by decide +kernel) 2 rfl ?_
            refine V_icmpne 189 210 rfl (show decode M_Tape_nextWord.2.1 186 = .ok (.if_icmp .ne 24, 3) by decide +kernel) rfl ?_ ?_
            · skip
              refine V_aload_n 190 rfl (show decode M_Tape_nextWord.2.1 189 = .ok (.aload_n 0, 1) by decide +kernel) 0 rfl ?_
              refine V_get (j := 4) (v := vI (SI σ h0 4)) 193 rfl ck_Tape (by decide) (by decide) (show decode M_Tape_nextWord.2.1 190 = .ok (.getfield 33, 3) by decide +kernel) wd_545 rfl ?_
              refine V_iconst 194 rfl (show decode M_Tape_nextWord.2.1 193 = .ok (.iconst 1, 1) by decide +kernel) (v := 1) rfl ?_
              refine V_jn (fun (J205 : Bool → Sto → Rs Unit) => ∀ (b : Bool) (σ : Sto), V M_Tape_nextWord 3 0 0 0 0 tU (J205 b σ) 205 [(0, vR h0)] [] b σ) ?_ (fun J205 hJ205 => ?_)
              · intro b σ
                refine V_aload_n 206 rfl (show decode M_Tape_nextWord.2.1 205 = .ok (.aload_n 0, 1) by decide +kernel) 0 rfl ?_
                refine V_iconst 207 rfl (show decode M_Tape_nextWord.2.1 206 = .ok (.iconst 4, 1) by decide +kernel) (v := 4) rfl ?_
                refine V_putI (j := 4) 210 rfl ck_Tape (by decide) (by decide) (show decode M_Tape_nextWord.2.1 207 = .ok (.putfield 33, 3) by decide +kernel) wd_545 rfl (fun _ => rfl) rfl rfl (fun σ_6 => ?_)
                exact V_vret rfl (by decide) (by decide) (show decode M_Tape_nextWord.2.1 210 = .ok (.return_, 1) by decide +kernel)
              · skip
                refine V_icmpeq 197 205 rfl (show decode M_Tape_nextWord.2.1 194 = .ok (.if_icmp .eq 11, 3) by decide +kernel) rfl ?_ ?_
                · skip
                  exact V_sub [0] rfl (hJ205 ((b && cK σ h0 8) && cK σ h0 8) σ)
                · skip
                  refine V_aload_n 198 rfl (show decode M_Tape_nextWord.2.1 197 = .ok (.aload_n 0, 1) by decide +kernel) 0 rfl ?_
                  refine V_get (j := 4) (v := vI (SI σ h0 4)) 201 rfl ck_Tape (by decide) (by decide) (show decode M_Tape_nextWord.2.1 198 = .ok (.getfield 33, 3) by decide +kernel) wd_545 rfl ?_
                  refine V_iconst 202 rfl (show decode M_Tape_nextWord.2.1 201 = .ok (.iconst 2, 1) by decide +kernel) (v := 2) rfl ?_
                  refine V_icmpne 205 210 rfl (show decode M_Tape_nextWord.2.1 202 = .ok (.if_icmp .ne 8, 3) by decide +kernel) rfl ?_ ?_
                  · skip
                    exact V_sub [0] rfl (hJ205 (((b && cK σ h0 8) && cK σ h0 8) && cK σ h0 8) σ)
                  · skip
                    exact V_vret rfl (by decide) (by decide) (show decode M_Tape_nextWord.2.1 210 = .ok (.return_, 1) by decide +kernel)
            · skip
              exact V_vret rfl (by decide) (by decide) (show decode M_Tape_nextWord.2.1 210 = .ok (.return_, 1) by decide +kernel)
        · skip
          refine V_icmplt 97 105 rfl (show decode M_Tape_nextWord.2.1 94 = .ok (.if_icmp .lt 11, 3) by decide +kernel) rfl ?_ ?_
          · skip
            refine V_aload_n 106 rfl (show decode M_Tape_nextWord.2.1 105 = .ok (.aload_n 0, 1) by decide +kernel) 0 rfl ?_
            refine V_get (j := 0) (v := vR (SR σ_5 h0 0)) 109 rfl ck_Tape (by decide) (by decide) (show decode M_Tape_nextWord.2.1 106 = .ok (.getfield 9, 3) by decide +kernel) wd_540 rfl ?_
            refine V_aload_n 110 rfl (show decode M_Tape_nextWord.2.1 109 = .ok (.aload_n 0, 1) by decide +kernel) 0 rfl ?_
            refine V_get (j := 2) (v := vI (SI σ_5 h0 2)) 113 rfl ck_Tape (by decide) (by decide) (show decode M_Tape_nextWord.2.1 110 = .ok (.getfield 63, 3) by decide +kernel) wd_543 rfl ?_
            refine V_ald_byte 114 rfl (show decode M_Tape_nextWord.2.1 113 = .ok (.baload, 1) by decide +kernel) ?_
            refine V_callS (tb := tI) (as := [vI (SI σ_5 (SR σ_5 h0 0) (ix (SI σ_5 h0 2)))]) (rest := []) (na := 1) 117 rfl (s_Tape_isLetter (SI σ_5 (SR σ_5 h0 0) (ix (SI σ_5 h0 2))) ((((((((b && cK σ h0 8) && cK σ h0 8) && cK σ_4 h0 8) && cK σ_5 h0 8) && cK σ_5 h0 8) && cK σ_5 h0 8) && cK σ_5 h0 8) && cA σ_5 (SR σ_5 h0 0) 22 (SI σ_5 h0 2)) σ_5) rfl rfl (Nat.le_of_ble_eq_true rfl) (cal_Tape_isLetter _ _ _ _ _ (by decide) (by decide) (by decide)) (show decode M_Tape_nextWord.2.1 114 = .ok (.invokestatic 73, 3) by decide +kernel) wd_768 wd_769 (fun r_7 b_7 σ_7 => ?_)
            show V M_Tape_nextWord 3 0 0 0 0 tU _ 117 [(0, vR h0), (1, vI x1_1), (2, vI x2_2)] [vI r_7] b_7 σ_7
            refine V_ifeq 120 127 rfl (show decode M_Tape_nextWord.2.1 117 = .ok (.ifCond .eq 10, 3) by decide +kernel) rfl ?_ ?_
            · skip
              refine V_aload_n 128 rfl (show decode M_Tape_nextWord.2.1 127 = .ok (.aload_n 0, 1) by decide +kernel) 0 rfl ?_
              refine V_get (j := 0) (v := vR (SR σ_7 h0 0)) 131 rfl ck_Tape (by decide) (by decide) (show decode M_Tape_nextWord.2.1 128 = .ok (.getfield 9, 3) by decide +kernel) wd_540 rfl ?_
              refine V_aload_n 132 rfl (show decode M_Tape_nextWord.2.1 131 = .ok (.aload_n 0, 1) by decide +kernel) 0 rfl ?_
              refine V_get (j := 2) (v := vI (SI σ_7 h0 2)) 135 rfl ck_Tape (by decide) (by decide) (show decode M_Tape_nextWord.2.1 132 = .ok (.getfield 63, 3) by decide +kernel) wd_543 rfl ?_
              refine V_ald_byte 136 rfl (show decode M_Tape_nextWord.2.1 135 = .ok (.baload, 1) by decide +kernel) ?_
              refine V_callS (tb := tI) (as := [vI (SI σ_7 (SR σ_7 h0 0) (ix (SI σ_7 h0 2)))]) (rest := []) (na := 1) 139 rfl (s_Tape_isDigit (SI σ_7 (SR σ_7 h0 0) (ix (SI σ_7 h0 2))) (((b_7 && cK σ_7 h0 8) && cK σ_7 h0 8) && cA σ_7 (SR σ_7 h0 0) 22 (SI σ_7 h0 2)) σ_7) rfl rfl (Nat.le_of_ble_eq_true rfl) (cal_Tape_isDigit _ _ _ _ _ (by decide) (by decide) (by decide)) (show decode M_Tape_nextWord.2.1 136 = .ok (.invokestatic 80, 3) by decide +kernel) wd_775 wd_776 (fun r_8 b_8 σ_8 => ?_)
              show V M_Tape_nextWord 3 0 0 0 0 tU _ 139 [(0, vR h0), (1, vI x1_1), (2, vI x2_2)] [vI r_8] b_8 σ_8
              refine V_ifeq 142 149 rfl (show decode M_Tape_nextWord.2.1 139 = .ok (.ifCond .eq 10, 3) by decide +kernel) rfl ?_ ?_
              · skip
                refine V_aload_n 150 rfl (show decode M_Tape_nextWord.2.1 149 = .ok (.aload_n 0, 1) by decide +kernel) 0 rfl ?_
                refine V_iconst 151 rfl (show decode M_Tape_nextWord.2.1 150 = .ok (.iconst 3, 1) by decide +kernel) (v := 3) rfl ?_
                refine V_putI (j := 4) 154 rfl ck_Tape (by decide) (by decide) (show decode M_Tape_nextWord.2.1 151 = .ok (.putfield 33, 3) by decide +kernel) wd_545 rfl (fun _ => rfl) rfl rfl (fun σ_9 => ?_)
                refine V_aload_n 155 rfl (show decode M_Tape_nextWord.2.1 154 = .ok (.aload_n 0, 1) by decide +kernel) 0 rfl ?_
                refine V_aload_n 156 rfl (show decode M_Tape_nextWord.2.1 155 = .ok (.aload_n 0, 1) by decide +kernel) 0 rfl ?_
                refine V_get (j := 0) (v := vR (SR σ_9 h0 0)) 159 rfl ck_Tape (by decide) (by decide) (show decode M_Tape_nextWord.2.1 156 = .ok (.getfield 9, 3) by decide +kernel) wd_540 rfl ?_
                refine V_aload_n 160 rfl (show decode M_Tape_nextWord.2.1 159 = .ok (.aload_n 0, 1) by decide +kernel) 0 rfl ?_
                refine V_get (j := 2) (v := vI (SI σ_9 h0 2)) 163 rfl ck_Tape (by decide) (by decide) (show decode M_Tape_nextWord.2.1 160 = .ok (.getfield 63, 3) by decide +kernel) wd_543 rfl ?_
                refine V_ald_byte 164 rfl (show decode M_Tape_nextWord.2.1 163 = .ok (.baload, 1) by decide +kernel) ?_
                refine V_putI (j := 5) 167 rfl ck_Tape (by decide) (by decide) (show decode M_Tape_nextWord.2.1 164 = .ok (.putfield 70, 3) by decide +kernel) wd_546 rfl (fun _ => rfl) rfl rfl (fun σ_10 => ?_)
                refine V_aload_n 168 rfl (show decode M_Tape_nextWord.2.1 167 = .ok (.aload_n 0, 1) by decide +kernel) 0 rfl ?_
                refine V_aload_n 169 rfl (show decode M_Tape_nextWord.2.1 168 = .ok (.aload_n 0, 1) by decide +kernel) 0 rfl ?_
                refine V_get (j := 2) (v := vI (SI σ_10 h0 2)) 172 rfl ck_Tape (by decide) (by decide) (show decode M_Tape_nextWord.2.1 169 = .ok (.getfield 63, 3) by decide +kernel) wd_543 rfl ?_
                refine V_iconst 173 rfl (show decode M_Tape_nextWord.2.1 172 = .ok (.iconst 1, 1) by decide +kernel) (v := 1) rfl ?_
                refine V_iadd 174 rfl (show decode M_Tape_nextWord.2.1 173 = .ok (.iadd, 1) by decide +kernel) ?_
                refine V_putI (j := 3) 177 rfl ck_Tape (by decide) (by decide) (show decode M_Tape_nextWord.2.1 174 = .ok (.putfield 30, 3) by decide +kernel) wd_544 rfl (fun _ => rfl) rfl rfl (fun σ_11 => ?_)
                exact V_sub [0, 1, 2] rfl (hJ177 (((((((b_8 && cK σ_8 h0 8) && cK σ_9 h0 8) && cK σ_9 h0 8) && cA σ_9 (SR σ_9 h0 0) 22 (SI σ_9 h0 2)) && cK σ_9 h0 8) && cK σ_10 h0 8) && cK σ_10 h0 8) σ_11)
              · skip
                refine V_aload_n 143 rfl (show decode M_Tape_nextWord.2.1 142 = .ok (.aload_n 0, 1) by decide +kernel) 0 rfl ?_
                refine V_callV (tb := tU) (as := []) (rest := []) (na := 0) 146 rfl ck_Tape (by decide) (s_Tape_takeDigits h0 (b_8 && cK σ_8 h0 8) σ_8) rfl rfl (Nat.le_of_ble_eq_true rfl) (cal_Tape_takeDigits _ _ _ _ _ (by decide) (by decide) (by decide)) (show decode M_Tape_nextWord.2.1 143 = .ok (.invokevirtual 83, 3) by decide +kernel) wd_778 wd_780 wd_20 (fun r_12 b_12 σ_12 => ?_)
                show V M_Tape_nextWord 3 0 0 0 0 tU _ 146 [(0, vR h0), (1, vI x1_1), (2, vI x2_2)] [] b_12 σ_12
                refine V_goto 177 (show decode M_Tape_nextWord.2.1 146 = .ok (.goto 31, 3) by decide +kernel) rfl ?_
                exact V_sub [0, 1, 2] rfl (hJ177 b_12 σ_12)
            · skip
              refine V_aload_n 121 rfl (show decode M_Tape_nextWord.2.1 120 = .ok (.aload_n 0, 1) by decide +kernel) 0 rfl ?_
              refine V_callV (tb := tU) (as := []) (rest := []) (na := 0) 124 rfl ck_Tape (by decide) (s_Tape_takeLetters h0 (b_7 && cK σ_7 h0 8) σ_7) rfl rfl (Nat.le_of_ble_eq_true rfl) (cal_Tape_takeLetters _ _ _ _ _ (by decide) (by decide) (by decide)) (show decode M_Tape_nextWord.2.1 121 = .ok (.invokevirtual 77, 3) by decide +kernel) wd_771 wd_773 wd_19 (fun r_13 b_13 σ_13 => ?_)
              show V M_Tape_nextWord 3 0 0 0 0 tU _ 124 [(0, vR h0), (1, vI x1_1), (2, vI x2_2)] [] b_13 σ_13
              refine V_goto 177 (show decode M_Tape_nextWord.2.1 124 = .ok (.goto 53, 3) by decide +kernel) rfl ?_
              exact V_sub [0, 1, 2] rfl (hJ177 b_13 σ_13)
          · skip
            refine V_aload_n 98 rfl (show decode M_Tape_nextWord.2.1 97 = .ok (.aload_n 0, 1) by decide +kernel) 0 rfl ?_
            refine V_iconst 99 rfl (show decode M_Tape_nextWord.2.1 98 = .ok (.iconst 5, 1) by decide +kernel) (v := 5) rfl ?_
            refine V_putI (j := 4) 102 rfl ck_Tape (by decide) (by decide) (show decode M_Tape_nextWord.2.1 99 = .ok (.putfield 33, 3) by decide +kernel) wd_545 rfl (fun _ => rfl) rfl rfl (fun σ_14 => ?_)
            refine V_goto 177 (show decode M_Tape_nextWord.2.1 102 = .ok (.goto 75, 3) by decide +kernel) rfl ?_
            exact V_sub [0, 1, 2] rfl (hJ177 ((((((b && cK σ h0 8) && cK σ h0 8) && cK σ_4 h0 8) && cK σ_5 h0 8) && cK σ_5 h0 8) && cK σ_5 h0 8) σ_14)
      · skip
        refine V_icmpge 46 73 rfl (show decode M_Tape_nextWord.2.1 43 = .ok (.if_icmp .ge 30, 3) by decide +kernel) rfl ?_ ?_
        · skip
          refine V_aload_n 47 rfl (show decode M_Tape_nextWord.2.1 46 = .ok (.aload_n 0, 1) by decide +kernel) 0 rfl ?_
          refine V_get (j := 0) (v := vR (SR σ h0 0)) 50 rfl ck_Tape (by decide) (by decide) (show decode M_Tape_nextWord.2.1 47 = .ok (.getfield 9, 3) by decide +kernel) wd_540 rfl ?_
          refine V_aload_n 51 rfl (show decode M_Tape_nextWord.2.1 50 = .ok (.aload_n 0, 1) by decide +kernel) 0 rfl ?_
          refine V_get (j := 2) (v := vI (SI σ h0 2)) 54 rfl ck_Tape (by decide) (by decide) (show decode M_Tape_nextWord.2.1 51 = .ok (.getfield 63, 3) by decide +kernel) wd_543 rfl ?_
          refine V_ald_byte 55 rfl (show decode M_Tape_nextWord.2.1 54 = .ok (.baload, 1) by decide +kernel) ?_
          refine V_bipush 57 rfl (show decode M_Tape_nextWord.2.1 55 = .ok (.bipush 32, 2) by decide +kernel) (v := 32) rfl ?_
          refine V_icmpne 60 73 rfl (show decode M_Tape_nextWord.2.1 57 = .ok (.if_icmp .ne 16, 3) by decide +kernel) rfl ?_ ?_
          · skip
            refine V_aload_n 61 rfl (show decode M_Tape_nextWord.2.1 60 = .ok (.aload_n 0, 1) by decide +kernel) 0 rfl ?_
            refine V_dup 62 rfl (show decode M_Tape_nextWord.2.1 61 = .ok (.dup, 1) by decide +kernel) rfl ?_
            refine V_get (j := 2) (v := vI (SI σ h0 2)) 65 rfl ck_Tape (by decide) (by decide) (show decode M_Tape_nextWord.2.1 62 = .ok (.getfield 63, 3) by decide +kernel) wd_543 rfl ?_
            refine V_iconst 66 rfl (show decode M_Tape_nextWord.2.1 65 = .ok (.iconst 1, 1) by decide +kernel) (v := 1) rfl ?_
            refine V_iadd 67 rfl (show decode M_Tape_nextWord.2.1 66 = .ok (.iadd, 1) by decide +kernel) ?_
            refine V_putI (j := 2) 70 rfl ck_Tape (by decide) (by decide) (show decode M_Tape_nextWord.2.1 67 = .ok (.putfield 63, 3) by decide +kernel) wd_543 rfl (fun _ => rfl) rfl rfl (fun σ_15 => ?_)
            refine V_goto 35 (show decode M_Tape_nextWord.2.1 70 = .ok (.goto (-35), 3) by decide +kernel) rfl ?_
            exact V_sub [0, 1, 2] rfl (hL35 (((((((b && cK σ h0 8) && cK σ h0 8) && cK σ h0 8) && cK σ h0 8) && cA σ (SR σ h0 0) 22 (SI σ h0 2)) && cK σ h0 8) && cK σ h0 8) σ_15)
          · skip
            exact V_sub [0, 1, 2] rfl (hJ73 (((((b && cK σ h0 8) && cK σ h0 8) && cK σ h0 8) && cK σ h0 8) && cA σ (SR σ h0 0) 22 (SI σ h0 2)) σ)
        · skip
          exact V_sub [0, 1, 2] rfl (hJ73 ((b && cK σ h0 8) && cK σ h0 8) σ)
  · skip
    refine V_jn (fun (J16 : Bool → Sto → Rs Unit) => ∀ (b : Bool) (σ : Sto), V M_Tape_nextWord 3 0 0 0 0 tU (J16 b σ) 16 [(0, vR h0)] [] b σ) ?_ (fun J16 hJ16 => ?_)
    · intro b σ
      refine V_iconst 17 rfl (show decode M_Tape_nextWord.2.1 16 = .ok (.iconst 1, 1) by decide +kernel) (v := 1) rfl ?_
      refine V_goto 21 (show decode M_Tape_nextWord.2.1 17 = .ok (.goto 4, 3) by decide +kernel) rfl ?_
      exact V_sub [0] rfl (hJ21 (1 : Int32) b σ)
    · skip
      refine V_icmpeq 8 16 rfl (show decode M_Tape_nextWord.2.1 5 = .ok (.if_icmp .eq 11, 3) by decide +kernel) rfl ?_ ?_
      · skip
        exact V_sub [0] rfl (hJ16 (b && cK σ h0 8) σ)
      · skip
        refine V_aload_n 9 rfl (show decode M_Tape_nextWord.2.1 8 = .ok (.aload_n 0, 1) by decide +kernel) 0 rfl ?_
        refine V_get (j := 4) (v := vI (SI σ h0 4)) 12 rfl ck_Tape (by decide) (by decide) (show decode M_Tape_nextWord.2.1 9 = .ok (.getfield 33, 3) by decide +kernel) wd_545 rfl ?_
        refine V_iconst 13 rfl (show decode M_Tape_nextWord.2.1 12 = .ok (.iconst 2, 1) by decide +kernel) (v := 2) rfl ?_
        refine V_icmpne 16 20 rfl (show decode M_Tape_nextWord.2.1 13 = .ok (.if_icmp .ne 7, 3) by decide +kernel) rfl ?_ ?_
        · skip
          exact V_sub [0] rfl (hJ16 ((b && cK σ h0 8) && cK σ h0 8) σ)
        · skip
          refine V_iconst 21 rfl (show decode M_Tape_nextWord.2.1 20 = .ok (.iconst 0, 1) by decide +kernel) (v := 0) rfl ?_
          exact V_sub [0] rfl (hJ21 (0 : Int32) ((b && cK σ h0 8) && cK σ h0 8) σ)
theorem cal_Tape_nextWord (d mc ms k n : Nat) (h1 : 3 + 1 ≤ d) (h2 : k + 0 ≤ mc) (h3 : n + 0 ≤ ms) : Cal M_Tape_nextWord 3 0 0 0 d mc ms k n := ⟨wd_767, wd_179, by decide, h1, by decide, h2, h3⟩
abbrev M_Tape_noteFault : MD := (⟨"LongTrail$Tape", "noteFault", "()V"⟩, prog_9_method_5_code, 1, (none : Option FieldType))
def f_Tape_noteFault (h0 : Nat) (b : Bool) (σ : Sto) : Rs Unit := (if (SI σ h0 11) < 0 then (lt_ (pI σ h0 11 (SI σ h0 2)) (fun (σ_1 : Sto) => ((), (((b && cK σ h0 8) && cK σ h0 8) && cK σ h0 8), σ_1))) else ((), (b && cK σ h0 8), σ))
set_option maxRecDepth 100000 in
set_option maxHeartbeats 4000000 in
theorem s_Tape_noteFault : ∀ (h0 : Nat) (b : Bool) (σ : Sto), Snd M_Tape_noteFault 1 0 0 [vR h0] b σ (tU (f_Tape_noteFault h0 b σ).1) (f_Tape_noteFault h0 b σ).2.1 (f_Tape_noteFault h0 b σ).2.2 := by
  intro h0 b σ
  refine Snd_of (tv := tU) (by decide) (Nat.le_of_ble_eq_true rfl) ?_
  show V M_Tape_noteFault 1 0 0 0 0 tU (f_Tape_noteFault h0 b σ) 0 [(0, vR h0)] [] b σ
  unfold f_Tape_noteFault
  refine V_aload_n 1 rfl (show decode M_Tape_noteFault.2.1 0 = .ok (.aload_n 0, 1) by decide +kernel) 0 rfl ?_
  refine V_get (j := 11) (v := vI (SI σ h0 11)) 4 rfl ck_Tape (by decide) (by decide) (show decode M_Tape_noteFault.2.1 1 = .ok (.getfield 21, 3) by decide +kernel) wd_552 rfl ?_
  refine V_ifge 7 15 rfl (show decode M_Tape_noteFault.2.1 4 = .ok (.ifCond .ge 11, 3) by decide +kernel) rfl ?_ ?_
  · skip
    refine V_aload_n 8 rfl (show decode M_Tape_noteFault.2.1 7 = .ok (.aload_n 0, 1) by decide +kernel) 0 rfl ?_
    refine V_aload_n 9 rfl (show decode M_Tape_noteFault.2.1 8 = .ok (.aload_n 0, 1) by decide +kernel) 0 rfl ?_
    refine V_get (j := 2) (v := vI (SI σ h0 2)) 12 rfl ck_Tape (by decide) (by decide) (show decode M_Tape_noteFault.2.1 9 = .ok (.getfield 63, 3) by decide +kernel) wd_543 rfl ?_
    refine V_putI (j := 11) 15 rfl ck_Tape (by decide) (by decide) (show decode M_Tape_noteFault.2.1 12 = .ok (.putfield 21, 3) by decide +kernel) wd_552 rfl (fun _ => rfl) rfl rfl (fun σ_1 => ?_)
    exact V_vret rfl (by decide) (by decide) (show decode M_Tape_noteFault.2.1 15 = .ok (.return_, 1) by decide +kernel)
  · skip
    exact V_vret rfl (by decide) (by decide) (show decode M_Tape_noteFault.2.1 15 = .ok (.return_, 1) by decide +kernel)
theorem cal_Tape_noteFault (d mc ms k n : Nat) (h1 : 1 + 1 ≤ d) (h2 : k + 0 ≤ mc) (h3 : n + 0 ≤ ms) : Cal M_Tape_noteFault 1 0 0 0 d mc ms k n := ⟨wd_834, wd_179, by decide, h1, by decide, h2, h3⟩
abbrev M_String_isLatin1 : MD := (⟨"java/lang/String", "isLatin1", "()Z"⟩, prog_18_method_154_code, 1, (some FieldType.boolean))
def f_String_isLatin1 (h0 : Nat) (b : Bool) (σ : Sto) : Rs Int32 := (lt_ (fun (b : Bool) (σ : Sto) => ((0 : Int32), b, σ)) (fun J17 => (if (1 : Int32) = 0 then (J17 b σ) else (if (0 : Int32) = 0 then ((1 : Int32), (b && sok σ h0), σ) else (J17 (b && sok σ h0) σ)))))
set_option maxRecDepth 100000 in
set_option maxHeartbeats 4000000 in
theorem s_String_isLatin1 : ∀ (h0 : Nat) (b : Bool) (σ : Sto), Snd M_String_isLatin1 1 0 0 [vR h0] b σ (tI (f_String_isLatin1 h0 b σ).1) (f_String_isLatin1 h0 b σ).2.1 (f_String_isLatin1 h0 b σ).2.2 := by
  intro h0 b σ
  refine Snd_of (tv := tI) (by decide) (Nat.le_of_ble_eq_true rfl) ?_
  show V M_String_isLatin1 1 0 0 0 0 tI (f_String_isLatin1 h0 b σ) 0 [(0, vR h0)] [] b σ
  unfold f_String_isLatin1
  refine V_csG 3 rfl (show decode M_String_isLatin1.2.1 0 = .ok (.getstatic 38, 3) by decide +kernel) wd_799 ?_
  refine V_jn (fun (J17 : Bool → Sto → Rs Int32) => ∀ (b : Bool) (σ : Sto), V M_String_isLatin1 1 0 0 0 0 tI (J17 b σ) 17 [] [] b σ) ?_ (fun J17 hJ17 => ?_)
  · intro b σ
    refine V_iconst 18 rfl (show decode M_String_isLatin1.2.1 17 = .ok (.iconst 0, 1) by decide +kernel) (v := 0) rfl ?_
    exact V_zret rfl (by decide) (by decide) rfl (show decode M_String_isLatin1.2.1 18 = .ok (.ireturn, 1) by decide +kernel)
  · skip
    refine V_ifeq 6 17 rfl (show decode M_String_isLatin1.2.1 3 = .ok (.ifCond .eq 14, 3) by decide +kernel) rfl ?_ ?_
    · skip
      exact V_sub [] rfl (hJ17 b σ)
    · skip
      refine V_aload_n 7 rfl (show decode M_String_isLatin1.2.1 6 = .ok (.aload_n 0, 1) by decide +kernel) 0 rfl ?_
      refine V_scod 10 rfl (show decode M_String_isLatin1.2.1 7 = .ok (.getfield 15, 3) by decide +kernel) wd_2079 ?_
      refine V_ifne 13 17 rfl (show decode M_String_isLatin1.2.1 10 = .ok (.ifCond .ne 7, 3) by decide +kernel) rfl ?_ ?_
      · skip
        refine V_iconst 14 rfl (show decode M_String_isLatin1.2.1 13 = .ok (.iconst 1, 1) by decide +kernel) (v := 1) rfl ?_
        refine V_goto 18 (show decode M_String_isLatin1.2.1 14 = .ok (.goto 4, 3) by decide +kernel) rfl ?_
        exact V_zret rfl (by decide) (by decide) rfl (show decode M_String_isLatin1.2.1 18 = .ok (.ireturn, 1) by decide +kernel)
      · skip
        exact V_sub [] rfl (hJ17 (b && sok σ h0) σ)
theorem cal_String_isLatin1 (d mc ms k n : Nat) (h1 : 1 + 1 ≤ d) (h2 : k + 0 ≤ mc) (h3 : n + 0 ≤ ms) : Cal M_String_isLatin1 1 0 0 0 d mc ms k n := ⟨wd_798, wd_182, by decide, h1, by decide, h2, h3⟩
abbrev M_Preconditions_checkIndex : MD := (⟨"jdk/internal/util/Preconditions", "checkIndex", "(IILjava/util/function/BiFunction;)I"⟩, prog_23_method_11_code, 3, (some FieldType.int))
def f_Preconditions_checkIndex (x0 : Int32) (x1 : Int32) (h2 : Nat) (b : Bool) (σ : Sto) : Rs Int32 := (if x0 < 0 then (0, false, σ) else (if x0 < x1 then (x0, b, σ) else (0, false, σ)))
set_option maxRecDepth 100000 in
set_option maxHeartbeats 4000000 in
theorem s_Preconditions_checkIndex : ∀ (x0 : Int32) (x1 : Int32) (h2 : Nat) (b : Bool) (σ : Sto), Snd M_Preconditions_checkIndex 1 0 0 [vI x0, vI x1, vR h2] b σ (tI (f_Preconditions_checkIndex x0 x1 h2 b σ).1) (f_Preconditions_checkIndex x0 x1 h2 b σ).2.1 (f_Preconditions_checkIndex x0 x1 h2 b σ).2.2 := by
  intro x0 x1 h2 b σ
  refine Snd_of (tv := tI) (by decide) (Nat.le_of_ble_eq_true rfl) ?_
  show V M_Preconditions_checkIndex 1 0 0 0 0 tI (f_Preconditions_checkIndex x0 x1 h2 b σ) 0 [(0, vI x0), (1, vI x1), (2, vR h2)] [] b σ
  unfold f_Preconditions_checkIndex
  refine V_iload_n 1 rfl (show decode M_Preconditions_checkIndex.2.1 0 = .ok (.iload_n 0, 1) by decide +kernel) 0 rfl ?_
  refine V_iflt 4 9 rfl (show decode M_Preconditions_checkIndex.2.1 1 = .ok (.ifCond .lt 8, 3) by decide +kernel) rfl ?_ ?_
  · skip
    exact V_bad
  · skip
    refine V_iload_n 5 rfl (show decode M_Preconditions_checkIndex.2.1 4 = .ok (.iload_n 0, 1) by decide +kernel) 0 rfl ?_
    refine V_iload_n 6 rfl (show decode M_Preconditions_checkIndex.2.1 5 = .ok (.iload_n 1, 1) by decide +kernel) 1 rfl ?_
    refine V_icmplt 9 16 rfl (show decode M_Preconditions_checkIndex.2.1 6 = .ok (.if_icmp .lt 10, 3) by decide +kernel) rfl ?_ ?_
    · skip
      refine V_iload_n 17 rfl (show decode M_Preconditions_checkIndex.2.1 16 = .ok (.iload_n 0, 1) by decide +kernel) 0 rfl ?_
      exact V_iret rfl (by decide) (by decide) (show decode M_Preconditions_checkIndex.2.1 17 = .ok (.ireturn, 1) by decide +kernel)
    · skip
      exact V_bad
theorem cal_Preconditions_checkIndex (d mc ms k n : Nat) (h1 : 1 + 1 ≤ d) (h2 : k + 0 ≤ mc) (h3 : n + 0 ≤ ms) : Cal M_Preconditions_checkIndex 1 0 0 3 d mc ms k n := ⟨wd_811, wd_184, by decide, h1, by decide, h2, h3⟩
abbrev M_String_checkIndex : MD := (⟨"java/lang/String", "checkIndex", "(II)V"⟩, prog_18_method_155_code, 2, (none : Option FieldType))
def f_String_checkIndex (x0 : Int32) (x1 : Int32) (b : Bool) (σ : Sto) : Rs Unit := (bd_ (f_Preconditions_checkIndex x0 x1 (Scs σ 11) b σ) (fun (r_1 : Int32) (b_1 : Bool) (σ_1 : Sto) => ((), b_1, σ_1)))
set_option maxRecDepth 100000 in
set_option maxHeartbeats 4000000 in
theorem s_String_checkIndex : ∀ (x0 : Int32) (x1 : Int32) (b : Bool) (σ : Sto), Snd M_String_checkIndex 2 0 0 [vI x0, vI x1] b σ (tU (f_String_checkIndex x0 x1 b σ).1) (f_String_checkIndex x0 x1 b σ).2.1 (f_String_checkIndex x0 x1 b σ).2.2 := by
  intro x0 x1 b σ
  refine Snd_of (tv := tU) (by decide) (Nat.le_of_ble_eq_true rfl) ?_
  show V M_String_checkIndex 2 0 0 0 0 tU (f_String_checkIndex x0 x1 b σ) 0 [(0, vI x0), (1, vI x1)] [] b σ
  unfold f_String_checkIndex
  refine V_iload_n 1 rfl (show decode M_String_checkIndex.2.1 0 = .ok (.iload_n 0, 1) by decide +kernel) 0 rfl ?_
  refine V_iload_n 2 rfl (show decode M_String_checkIndex.2.1 1 = .ok (.iload_n 1, 1) by decide +kernel) 1 rfl ?_
  refine V_sfG 5 rfl (show decode M_String_checkIndex.2.1 2 = .ok (.getstatic 1053, 3) by decide +kernel) wd_807 ?_
  refine V_callS (tb := tI) (as := [vI x0, vI x1, vR (Scs σ 11)]) (rest := []) (na := 3) 8 rfl (s_Preconditions_checkIndex x0 x1 (Scs σ 11) b σ) rfl rfl (Nat.le_of_ble_eq_true rfl) (cal_Preconditions_checkIndex _ _ _ _ _ (by decide) (by decide) (by decide)) (show decode M_String_checkIndex.2.1 5 = .ok (.invokestatic 1059, 3) by decide +kernel) wd_809 wd_810 (fun r_1 b_1 σ_1 => ?_)
  show V M_String_checkIndex 2 0 0 0 0 tU _ 8 [(0, vI x0), (1, vI x1)] [vI r_1] b_1 σ_1
  refine V_pop 9 rfl (show decode M_String_checkIndex.2.1 8 = .ok (.pop, 1) by decide +kernel) rfl ?_
  exact V_vret rfl (by decide) (by decide) (show decode M_String_checkIndex.2.1 9 = .ok (.return_, 1) by decide +kernel)
theorem cal_String_checkIndex (d mc ms k n : Nat) (h1 : 2 + 1 ≤ d) (h2 : k + 0 ≤ mc) (h3 : n + 0 ≤ ms) : Cal M_String_checkIndex 2 0 0 2 d mc ms k n := ⟨wd_806, wd_182, by decide, h1, by decide, h2, h3⟩
abbrev M_StringLatin1_charAt : MD := (⟨"java/lang/StringLatin1", "charAt", "([BI)C"⟩, prog_19_method_2_code, 2, (some FieldType.char))
def f_StringLatin1_charAt (h0 : Nat) (x1 : Int32) (b : Bool) (σ : Sto) : Rs Int32 := (bd_ (f_String_checkIndex x1 (Int32.ofNat (slen_ σ h0)) (b && sokv σ h0) σ) (fun (r_1 : Unit) (b_1 : Bool) (σ_1 : Sto) => ((((((sbyt_ σ_1 h0 (ix x1)) &&& (255 : Int32))).toUInt32 % 65536).toInt32), ((b_1 && (sokv σ_1 h0 && inb x1 (slen_ σ_1 h0))) && cok (((((sbyt_ σ_1 h0 (ix x1)) &&& (255 : Int32))).toUInt32 % 65536).toInt32)), σ_1)))
set_option maxRecDepth 100000 in
set_option maxHeartbeats 4000000 in
theorem s_StringLatin1_charAt : ∀ (h0 : Nat) (x1 : Int32) (b : Bool) (σ : Sto), Snd M_StringLatin1_charAt 3 0 0 [vR h0, vI x1] b σ (tI (f_StringLatin1_charAt h0 x1 b σ).1) (f_StringLatin1_charAt h0 x1 b σ).2.1 (f_StringLatin1_charAt h0 x1 b σ).2.2 := by
  intro h0 x1 b σ
  refine Snd_of (tv := tI) (by decide) (Nat.le_of_ble_eq_true rfl) ?_
  show V M_StringLatin1_charAt 3 0 0 0 0 tI (f_StringLatin1_charAt h0 x1 b σ) 0 [(0, vR h0), (1, vI x1)] [] b σ
  unfold f_StringLatin1_charAt
  refine V_iload_n 1 rfl (show decode M_StringLatin1_charAt.2.1 0 = .ok (.iload_n 1, 1) by decide +kernel) 1 rfl ?_
  refine V_aload_n 2 rfl (show decode M_StringLatin1_charAt.2.1 1 = .ok (.aload_n 0, 1) by decide +kernel) 0 rfl ?_
  refine V_slen 3 rfl (show decode M_StringLatin1_charAt.2.1 2 = .ok (.arraylength, 1) by decide +kernel) ?_
  refine V_callS (tb := tU) (as := [vI x1, vI (Int32.ofNat (slen_ σ h0))]) (rest := []) (na := 2) 6 rfl (s_String_checkIndex x1 (Int32.ofNat (slen_ σ h0)) (b && sokv σ h0) σ) rfl rfl (Nat.le_of_ble_eq_true rfl) (cal_String_checkIndex _ _ _ _ _ (by decide) (by decide) (by decide)) (show decode M_StringLatin1_charAt.2.1 3 = .ok (.invokestatic 9, 3) by decide +kernel) wd_804 wd_805 (fun r_1 b_1 σ_1 => ?_)
  show V M_StringLatin1_charAt 3 0 0 0 0 tI _ 6 [(0, vR h0), (1, vI x1)] [] b_1 σ_1
  refine V_aload_n 7 rfl (show decode M_StringLatin1_charAt.2.1 6 = .ok (.aload_n 0, 1) by decide +kernel) 0 rfl ?_
  refine V_iload_n 8 rfl (show decode M_StringLatin1_charAt.2.1 7 = .ok (.iload_n 1, 1) by decide +kernel) 1 rfl ?_
  refine V_sbyt 9 rfl (show decode M_StringLatin1_charAt.2.1 8 = .ok (.baload, 1) by decide +kernel) ?_
  refine V_sipush 12 rfl (show decode M_StringLatin1_charAt.2.1 9 = .ok (.sipush 255, 3) by decide +kernel) (v := 255) rfl ?_
  refine V_iand 13 rfl (show decode M_StringLatin1_charAt.2.1 12 = .ok (.iand, 1) by decide +kernel) ?_
  refine V_i2c 14 rfl (show decode M_StringLatin1_charAt.2.1 13 = .ok (.i2c, 1) by decide +kernel) ?_
  exact V_cretc rfl (by decide) (by decide) (show decode M_StringLatin1_charAt.2.1 14 = .ok (.ireturn, 1) by decide +kernel)
theorem cal_StringLatin1_charAt (d mc ms k n : Nat) (h1 : 3 + 1 ≤ d) (h2 : k + 0 ≤ mc) (h3 : n + 0 ≤ ms) : Cal M_StringLatin1_charAt 3 0 0 2 d mc ms k n := ⟨wd_803, wd_183, by decide, h1, by decide, h2, h3⟩
abbrev M_String_charAt : MD := (⟨"java/lang/String", "charAt", "(I)C"⟩, prog_18_method_56_code, 2, (some FieldType.char))
def f_String_charAt (h0 : Nat) (x1 : Int32) (b : Bool) (σ : Sto) : Rs Int32 := (bd_ (f_String_isLatin1 h0 (b && sok σ h0) σ) (fun (r_1 : Int32) (b_1 : Bool) (σ_1 : Sto) => (if r_1 = 0 then (0, false, σ_1) else (bd_ (f_StringLatin1_charAt (sval σ_1 h0) x1 (b_1 && sok σ_1 h0) σ_1) (fun (r_2 : Int32) (b_2 : Bool) (σ_2 : Sto) => (r_2, (b_2 && cok r_2), σ_2))))))
set_option maxRecDepth 100000 in
set_option maxHeartbeats 4000000 in
theorem s_String_charAt : ∀ (h0 : Nat) (x1 : Int32) (b : Bool) (σ : Sto), Snd M_String_charAt 4 0 0 [vR h0, vI x1] b σ (tI (f_String_charAt h0 x1 b σ).1) (f_String_charAt h0 x1 b σ).2.1 (f_String_charAt h0 x1 b σ).2.2 := by
  intro h0 x1 b σ
  refine Snd_of (tv := tI) (by decide) (Nat.le_of_ble_eq_true rfl) ?_
  show V M_String_charAt 4 0 0 0 0 tI (f_String_charAt h0 x1 b σ) 0 [(0, vR h0), (1, vI x1)] [] b σ
  unfold f_String_charAt
  refine V_aload_n 1 rfl (show decode M_String_charAt.2.1 0 = .ok (.aload_n 0, 1) by decide +kernel) 0 rfl ?_
  refine V_callX (tb := tI) (as := []) (rest := []) (na := 0) 4 rfl (s_String_isLatin1 h0 (b && sok σ h0) σ) rfl rfl (Nat.le_of_ble_eq_true rfl) (cal_String_isLatin1 _ _ _ _ _ (by decide) (by decide) (by decide)) (show decode M_String_charAt.2.1 1 = .ok (.invokevirtual 492, 3) by decide +kernel) wd_795 wd_796 wd_797 (fun r_1 b_1 σ_1 => ?_)
  show V M_String_charAt 4 0 0 0 0 tI _ 4 [(0, vR h0), (1, vI x1)] [vI r_1] b_1 σ_1
  refine V_ifeq 7 16 rfl (show decode M_String_charAt.2.1 4 = .ok (.ifCond .eq 12, 3) by decide +kernel) rfl ?_ ?_
  · skip
    exact V_bad
  · skip
    refine V_aload_n 8 rfl (show decode M_String_charAt.2.1 7 = .ok (.aload_n 0, 1) by decide +kernel) 0 rfl ?_
    refine V_sval 11 rfl (show decode M_String_charAt.2.1 8 = .ok (.getfield 9, 3) by decide +kernel) wd_2080 ?_
    refine V_iload_n 12 rfl (show decode M_String_charAt.2.1 11 = .ok (.iload_n 1, 1) by decide +kernel) 1 rfl ?_
    refine V_callS (tb := tI) (as := [vR (sval σ_1 h0), vI x1]) (rest := []) (na := 2) 15 rfl (s_StringLatin1_charAt (sval σ_1 h0) x1 (b_1 && sok σ_1 h0) σ_1) rfl rfl (Nat.le_of_ble_eq_true rfl) (cal_StringLatin1_charAt _ _ _ _ _ (by decide) (by decide) (by decide)) (show decode M_String_charAt.2.1 12 = .ok (.invokestatic 495, 3) by decide +kernel) wd_801 wd_802 (fun r_2 b_2 σ_2 => ?_)
    show V M_String_charAt 4 0 0 0 0 tI _ 15 [(0, vR h0), (1, vI x1)] [vI r_2] b_2 σ_2
    exact V_cretc rfl (by decide) (by decide) (show decode M_String_charAt.2.1 15 = .ok (.ireturn, 1) by decide +kernel)
theorem cal_String_charAt (d mc ms k n : Nat) (h1 : 4 + 1 ≤ d) (h2 : k + 0 ≤ mc) (h3 : n + 0 ≤ ms) : Cal M_String_charAt 4 0 0 1 d mc ms k n := ⟨wd_794, wd_182, by decide, h1, by decide, h2, h3⟩
abbrev M_Tape_standsAt : MD := (⟨"LongTrail$Tape", "standsAt", "(I)Z"⟩, prog_9_method_14_code, 3, (some FieldType.boolean))
def b_Tape_standsAt_2 (h0 : Nat) (x1 : Int32) (L2 : Int32 → Bool → Sto → Rs Int32) (x2 : Int32) (b : Bool) (σ : Sto) : Rs Int32 := (if x2 < (4 : Int32) then (bd_ (f_String_charAt (Scs σ 1) (x1 + x2) (((((b && cK σ h0 8) && cK σ h0 8) && cA σ (SR σ h0 0) 22 ((SI σ h0 2) + x2)) && !decide (Scs σ 1 = 0)) && sok σ (Scs σ 1)) σ) (fun (r_2 : Int32) (b_2 : Bool) (σ_2 : Sto) => (if (SI σ (SR σ h0 0) (ix ((SI σ h0 2) + x2))) = r_2 then (lt_ (x2 + (1 : Int32)) (fun (x2_3 : Int32) => (L2 x2_3 b_2 σ_2))) else ((0 : Int32), b_2, σ_2)))) else ((1 : Int32), b, σ))
def f_Tape_standsAt (h0 : Nat) (x1 : Int32) (b : Bool) (σ : Sto) : Rs Int32 := (lt_ (0 : Int32) (fun (x2_1 : Int32) => (lp_ (b_Tape_standsAt_2 h0 x1) (fun (x2 : Int32) (b : Bool) (σ : Sto) => (0, false, σ)) fuel_ x2_1 b σ)))
set_option maxRecDepth 100000 in
set_option maxHeartbeats 4000000 in
theorem s_Tape_standsAt : ∀ (h0 : Nat) (x1 : Int32) (b : Bool) (σ : Sto), Snd M_Tape_standsAt 5 0 0 [vR h0, vI x1] b σ (tI (f_Tape_standsAt h0 x1 b σ).1) (f_Tape_standsAt h0 x1 b σ).2.1 (f_Tape_standsAt h0 x1 b σ).2.2 := by
  intro h0 x1 b σ
  refine Snd_of (tv := tI) (by decide) (Nat.le_of_ble_eq_true rfl) ?_
  show V M_Tape_standsAt 5 0 0 0 0 tI (f_Tape_standsAt h0 x1 b σ) 0 [(0, vR h0), (1, vI x1)] [] b σ
  unfold f_Tape_standsAt
  refine V_iconst 1 rfl (show decode M_Tape_standsAt.2.1 0 = .ok (.iconst 0, 1) by decide +kernel) (v := 0) rfl ?_
  refine V_istore_n (fun x2_1 => [(2, vI x2_1), (0, vR h0), (1, vI x1)]) 2 rfl (show decode M_Tape_standsAt.2.1 1 = .ok (.istore_n 2, 1) by decide +kernel) (by decide) (fun _ => rfl) (fun x2_1 => ?_)
  refine V_sub [1, 2, 0] rfl ?_
  refine lp_P (fun (L2 : Int32 → Bool → Sto → Rs Int32) => ∀ (x2 : Int32) (b : Bool) (σ : Sto), V M_Tape_standsAt 5 0 0 0 0 tI (L2 x2 b σ) 2 [(0, vR h0), (1, vI x1), (2, vI x2)] [] b σ) ?_ ?_ fuel_ x2_1 b σ
  · intro x2 b σ; exact V_bad
  · intro L2 hL2 x2 b σ
    unfold b_Tape_standsAt_2
    refine V_iload_n 3 rfl (show decode M_Tape_standsAt.2.1 2 = .ok (.iload_n 2, 1) by decide +kernel) 2 rfl ?_
    refine V_iconst 4 rfl (show decode M_Tape_standsAt.2.1 3 = .ok (.iconst 4, 1) by decide +kernel) (v := 4) rfl ?_
    refine V_icmpge 7 37 rfl (show decode M_Tape_standsAt.2.1 4 = .ok (.if_icmp .ge 33, 3) by decide +kernel) rfl ?_ ?_
    · skip
      refine V_aload_n 8 rfl (show decode M_Tape_standsAt.2.1 7 = .ok (.aload_n 0, 1) by decide +kernel) 0 rfl ?_
      refine V_get (j := 0) (v := vR (SR σ h0 0)) 11 rfl ck_Tape (by decide) (by decide) (show decode M_Tape_standsAt.2.1 8 = .ok (.getfield 9, 3) by decide +kernel) wd_540 rfl ?_
      refine V_aload_n 12 rfl (show decode M_Tape_standsAt.2.1 11 = .ok (.aload_n 0, 1) by decide +kernel) 0 rfl ?_
      refine V_get (j := 2) (v := vI (SI σ h0 2)) 15 rfl ck_Tape (by decide) (by decide) (show decode M_Tape_standsAt.2.1 12 = .ok (.getfield 63, 3) by decide +kernel) wd_543 rfl ?_
      refine V_iload_n 16 rfl (show decode M_Tape_standsAt.2.1 15 = .ok (.iload_n 2, 1) by decide +kernel) 2 rfl ?_
      refine V_iadd 17 rfl (show decode M_Tape_standsAt.2.1 16 = .ok (.iadd, 1) by decide +kernel) ?_
      refine V_ald_byte 18 rfl (show decode M_Tape_standsAt.2.1 17 = .ok (.baload, 1) by decide +kernel) ?_
      refine V_ldcS1 20 rfl rfl (show decode M_Tape_standsAt.2.1 18 = .ok (.ldc 95, 2) by decide +kernel) ?_
      refine V_iload_n 21 rfl (show decode M_Tape_standsAt.2.1 20 = .ok (.iload_n 1, 1) by decide +kernel) 1 rfl ?_
      refine V_iload_n 22 rfl (show decode M_Tape_standsAt.2.1 21 = .ok (.iload_n 2, 1) by decide +kernel) 2 rfl ?_
      refine V_iadd 23 rfl (show decode M_Tape_standsAt.2.1 22 = .ok (.iadd, 1) by decide +kernel) ?_
      refine V_callX (tb := tI) (as := [vI (x1 + x2)]) (rest := [vI (SI σ (SR σ h0 0) (ix ((SI σ h0 2) + x2)))]) (na := 1) 26 rfl (s_String_charAt (Scs σ 1) (x1 + x2) (((((b && cK σ h0 8) && cK σ h0 8) && cA σ (SR σ h0 0) 22 ((SI σ h0 2) + x2)) && !decide (Scs σ 1 = 0)) && sok σ (Scs σ 1)) σ) rfl rfl (Nat.le_of_ble_eq_true rfl) (cal_String_charAt _ _ _ _ _ (by decide) (by decide) (by decide)) (show decode M_Tape_standsAt.2.1 23 = .ok (.invokevirtual 97, 3) by decide +kernel) wd_791 wd_792 wd_793 (fun r_2 b_2 σ_2 => ?_)
      show V M_Tape_standsAt 5 0 0 0 0 tI _ 26 [(0, vR h0), (1, vI x1), (2, vI x2)] [vI r_2, vI (SI σ (SR σ h0 0) (ix ((SI σ h0 2) + x2)))] b_2 σ_2
      refine V_icmpeq 29 31 rfl (show decode M_Tape_standsAt.2.1 26 = .ok (.if_icmp .eq 5, 3) by decide +kernel) rfl ?_ ?_
      · skip
        refine V_iinc (fun x2_3 => [(2, vI x2_3), (0, vR h0), (1, vI x1)]) 34 rfl (show decode M_Tape_standsAt.2.1 31 = .ok (.iinc 2 1, 3) by decide +kernel) 2 rfl (w := 1) rfl (by decide) (fun _ => rfl) (fun x2_3 => ?_)
        refine V_goto 2 (show decode M_Tape_standsAt.2.1 34 = .ok (.goto (-32), 3) by decide +kernel) rfl ?_
        exact V_sub [1, 2, 0] rfl (hL2 x2_3 b_2 σ_2)
      · skip
        refine V_iconst 30 rfl (show decode M_Tape_standsAt.2.1 29 = .ok (.iconst 0, 1) by decide +kernel) (v := 0) rfl ?_
        exact V_zret rfl (by decide) (by decide) rfl (show decode M_Tape_standsAt.2.1 30 = .ok (.ireturn, 1) by decide +kernel)
    · skip
      refine V_iconst 38 rfl (show decode M_Tape_standsAt.2.1 37 = .ok (.iconst 1, 1) by decide +kernel) (v := 1) rfl ?_
      exact V_zret rfl (by decide) (by decide) rfl (show decode M_Tape_standsAt.2.1 38 = .ok (.ireturn, 1) by decide +kernel)
theorem cal_Tape_standsAt (d mc ms k n : Nat) (h1 : 5 + 1 ≤ d) (h2 : k + 0 ≤ mc) (h3 : n + 0 ≤ ms) : Cal M_Tape_standsAt 5 0 0 1 d mc ms k n := ⟨wd_789, wd_179, by decide, h1, by decide, h2, h3⟩
abbrev M_Tape_readKey : MD := (⟨"LongTrail$Tape", "readKey", "()V"⟩, prog_9_method_13_code, 2, (none : Option FieldType))
def b_Tape_readKey_2 (h0 : Nat) (L2 : Int32 → Bool → Sto → Rs Unit) (x1 : Int32) (b : Bool) (σ : Sto) : Rs Unit := (if (3 : Int32) < x1 then (bd_ (f_Tape_noteFault h0 (b && cK σ h0 8) σ) (fun (r_2 : Unit) (b_2 : Bool) (σ_2 : Sto) => ((), b_2, σ_2))) else (lt_ (fun (b : Bool) (σ : Sto) => (lt_ (x1 + (1 : Int32)) (fun (x1_3 : Int32) => (L2 x1_3 b σ)))) (fun J48 => (if (SI σ h0 4) = (1 : Int32) then (if ((SI σ h0 3) - (SI σ h0 2)) = (4 : Int32) then (bd_ (f_Tape_standsAt h0 (x1 * (4 : Int32)) ((((b && cK σ h0 8) && cK σ h0 8) && cK σ h0 8) && cK σ h0 8) σ) (fun (r_4 : Int32) (b_4 : Bool) (σ_4 : Sto) => (if r_4 = 0 then (J48 b_4 σ_4) else (lt_ (pI σ_4 h0 7 x1) (fun (σ_5 : Sto) => (bd_ (f_Tape_nextWord h0 ((b_4 && cK σ_4 h0 8) && cK σ_5 h0 8) σ_5) (fun (r_6 : Unit) (b_6 : Bool) (σ_6 : Sto) => ((), b_6, σ_6)))))))) else (J48 (((b && cK σ h0 8) && cK σ h0 8) && cK σ h0 8) σ)) else (J48 (b && cK σ h0 8) σ)))))
def f_Tape_readKey (h0 : Nat) (b : Bool) (σ : Sto) : Rs Unit := (lt_ (0 : Int32) (fun (x1_1 : Int32) => (lp_ (b_Tape_readKey_2 h0) (fun (x1 : Int32) (b : Bool) (σ : Sto) => ((), false, σ)) fuel_ x1_1 b σ)))
set_option maxRecDepth 100000 in
set_option maxHeartbeats 4000000 in
theorem s_Tape_readKey : ∀ (h0 : Nat) (b : Bool) (σ : Sto), Snd M_Tape_readKey 6 0 0 [vR h0] b σ (tU (f_Tape_readKey h0 b σ).1) (f_Tape_readKey h0 b σ).2.1 (f_Tape_readKey h0 b σ).2.2 := by
  intro h0 b σ
  refine Snd_of (tv := tU) (by decide) (Nat.le_of_ble_eq_true rfl) ?_
  show V M_Tape_readKey 6 0 0 0 0 tU (f_Tape_readKey h0 b σ) 0 [(0, vR h0)] [] b σ
  unfold f_Tape_readKey
  refine V_iconst 1 rfl (show decode M_Tape_readKey.2.1 0 = .ok (.iconst 0, 1) by decide +kernel) (v := 0) rfl ?_
  refine V_istore_n (fun x1_1 => [(1, vI x1_1), (0, vR h0)]) 2 rfl (show decode M_Tape_readKey.2.1 1 = .ok (.istore_n 1, 1) by decide +kernel) (by decide) (fun _ => rfl) (fun x1_1 => ?_)
  refine V_sub [1, 0] rfl ?_
  refine lp_P (fun (L2 : Int32 → Bool → Sto → Rs Unit) => ∀ (x1 : Int32) (b : Bool) (σ : Sto), V M_Tape_readKey 6 0 0 0 0 tU (L2 x1 b σ) 2 [(0, vR h0), (1, vI x1)] [] b σ) ?_ ?_ fuel_ x1_1 b σ
  · intro x1 b σ; exact V_bad
  · intro L2 hL2 x1 b σ
    unfold b_Tape_readKey_2
    refine V_iload_n 3 rfl (show decode M_Tape_readKey.2.1 2 = .ok (.iload_n 1, 1) by decide +kernel) 1 rfl ?_
    refine V_iconst 4 rfl (show decode M_Tape_readKey.2.1 3 = .ok (.iconst 3, 1) by decide +kernel) (v := 3) rfl ?_
    refine V_icmpgt 7 54 rfl (show decode M_Tape_readKey.2.1 4 = .ok (.if_icmp .gt 50, 3) by decide +kernel) rfl ?_ ?_
    · skip
      refine V_aload_n 55 rfl (show decode M_Tape_readKey.2.1 54 = .ok (.aload_n 0, 1) by decide +kernel) 0 rfl ?_
      refine V_callV (tb := tU) (as := []) (rest := []) (na := 0) 58 rfl ck_Tape (by decide) (s_Tape_noteFault h0 (b && cK σ h0 8) σ) rfl rfl (Nat.le_of_ble_eq_true rfl) (cal_Tape_noteFault _ _ _ _ _ (by decide) (by decide) (by decide)) (show decode M_Tape_readKey.2.1 55 = .ok (.invokevirtual 46, 3) by decide +kernel) wd_831 wd_833 wd_23 (fun r_2 b_2 σ_2 => ?_)
      show V M_Tape_readKey 6 0 0 0 0 tU _ 58 [(0, vR h0), (1, vI x1)] [] b_2 σ_2
      exact V_vret rfl (by decide) (by decide) (show decode M_Tape_readKey.2.1 58 = .ok (.return_, 1) by decide +kernel)
    · skip
      refine V_aload_n 8 rfl (show decode M_Tape_readKey.2.1 7 = .ok (.aload_n 0, 1) by decide +kernel) 0 rfl ?_
      refine V_get (j := 4) (v := vI (SI σ h0 4)) 11 rfl ck_Tape (by decide) (by decide) (show decode M_Tape_readKey.2.1 8 = .ok (.getfield 33, 3) by decide +kernel) wd_545 rfl ?_
      refine V_iconst 12 rfl (show decode M_Tape_readKey.2.1 11 = .ok (.iconst 1, 1) by decide +kernel) (v := 1) rfl ?_
      refine V_jn (fun (J48 : Bool → Sto → Rs Unit) => ∀ (b : Bool) (σ : Sto), V M_Tape_readKey 6 0 0 0 0 tU (J48 b σ) 48 [(0, vR h0), (1, vI x1)] [] b σ) ?_ (fun J48 hJ48 => ?_)
      · intro b σ
        refine V_iinc (fun x1_3 => [(1, vI x1_3), (0, vR h0)]) 51 rfl (show decode M_Tape_readKey.2.1 48 = .ok (.iinc 1 1, 3) by decide +kernel) 1 rfl (w := 1) rfl (by decide) (fun _ => rfl) (fun x1_3 => ?_)
        refine V_goto 2 (show decode M_Tape_readKey.2.1 51 = .ok (.goto (-49), 3) by decide +kernel) rfl ?_
        exact V_sub [1, 0] rfl (hL2 x1_3 b σ)
      · skip
        refine V_icmpne 15 48 rfl (show decode M_Tape_readKey.2.1 12 = .ok (.if_icmp .ne 36, 3) by decide +kernel) rfl ?_ ?_
        · skip
          refine V_aload_n 16 rfl (show decode M_Tape_readKey.2.1 15 = .ok (.aload_n 0, 1) by decide +kernel) 0 rfl ?_
          refine V_get (j := 3) (v := vI (SI σ h0 3)) 19 rfl ck_Tape (by decide) (by decide) (show decode M_Tape_readKey.2.1 16 = .ok (.getfield 30, 3) by decide +kernel) wd_544 rfl ?_
          refine V_aload_n 20 rfl (show decode M_Tape_readKey.2.1 19 = .ok (.aload_n 0, 1) by decide +kernel) 0 rfl ?_
          refine V_get (j := 2) (v := vI (SI σ h0 2)) 23 rfl ck_Tape (by decide) (by decide) (show decode M_Tape_readKey.2.1 20 = .ok (.getfield 63, 3) by decide +kernel) wd_543 rfl ?_
          refine V_isub 24 rfl (show decode M_Tape_readKey.2.1 23 = .ok (.isub, 1) by decide +kernel) ?_
          refine V_iconst 25 rfl (show decode M_Tape_readKey.2.1 24 = .ok (.iconst 4, 1) by decide +kernel) (v := 4) rfl ?_
          refine V_icmpne 28 48 rfl (show decode M_Tape_readKey.2.1 25 = .ok (.if_icmp .ne 23, 3) by decide +kernel) rfl ?_ ?_
          · skip
            refine V_aload_n 29 rfl (show decode M_Tape_readKey.2.1 28 = .ok (.aload_n 0, 1) by decide +kernel) 0 rfl ?_
            refine V_iload_n 30 rfl (show decode M_Tape_readKey.2.1 29 = .ok (.iload_n 1, 1) by decide +kernel) 1 rfl ?_
            refine V_iconst 31 rfl (show decode M_Tape_readKey.2.1 30 = .ok (.iconst 4, 1) by decide +kernel) (v := 4) rfl ?_
            refine V_imul 32 rfl (show decode M_Tape_readKey.2.1 31 = .ok (.imul, 1) by decide +kernel) ?_
            refine V_callV (tb := tI) (as := [vI (x1 * (4 : Int32))]) (rest := []) (na := 1) 35 rfl ck_Tape (by decide) (s_Tape_standsAt h0 (x1 * (4 : Int32)) ((((b && cK σ h0 8) && cK σ h0 8) && cK σ h0 8) && cK σ h0 8) σ) rfl rfl (Nat.le_of_ble_eq_true rfl) (cal_Tape_standsAt _ _ _ _ _ (by decide) (by decide) (by decide)) (show decode M_Tape_readKey.2.1 32 = .ok (.invokevirtual 91, 3) by decide +kernel) wd_786 wd_788 wd_22 (fun r_4 b_4 σ_4 => ?_)
            show V M_Tape_readKey 6 0 0 0 0 tU _ 35 [(0, vR h0), (1, vI x1)] [vI r_4] b_4 σ_4
            refine V_ifeq 38 48 rfl (show decode M_Tape_readKey.2.1 35 = .ok (.ifCond .eq 13, 3) by decide +kernel) rfl ?_ ?_
            · skip
              exact V_sub [0, 1] rfl (hJ48 b_4 σ_4)
            · skip
              refine V_aload_n 39 rfl (show decode M_Tape_readKey.2.1 38 = .ok (.aload_n 0, 1) by decide +kernel) 0 rfl ?_
              refine V_iload_n 40 rfl (show decode M_Tape_readKey.2.1 39 = .ok (.iload_n 1, 1) by decide +kernel) 1 rfl ?_
              refine V_putI (j := 7) 43 rfl ck_Tape (by decide) (by decide) (show decode M_Tape_readKey.2.1 40 = .ok (.putfield 51, 3) by decide +kernel) wd_548 rfl (fun _ => rfl) rfl rfl (fun σ_5 => ?_)
              refine V_aload_n 44 rfl (show decode M_Tape_readKey.2.1 43 = .ok (.aload_n 0, 1) by decide +kernel) 0 rfl ?_
              refine V_callV (tb := tU) (as := []) (rest := []) (na := 0) 47 rfl ck_Tape (by decide) (s_Tape_nextWord h0 ((b_4 && cK σ_4 h0 8) && cK σ_5 h0 8) σ_5) rfl rfl (Nat.le_of_ble_eq_true rfl) (cal_Tape_nextWord _ _ _ _ _ (by decide) (by decide) (by decide)) (show decode M_Tape_readKey.2.1 44 = .ok (.invokevirtual 36, 3) by decide +kernel) wd_764 wd_766 wd_18 (fun r_6 b_6 σ_6 => ?_)
              show V M_Tape_readKey 6 0 0 0 0 tU _ 47 [(0, vR h0), (1, vI x1)] [] b_6 σ_6
              exact V_vret rfl (by decide) (by decide) (show decode M_Tape_readKey.2.1 47 = .ok (.return_, 1) by decide +kernel)
          · skip
            exact V_sub [0, 1] rfl (hJ48 (((b && cK σ h0 8) && cK σ h0 8) && cK σ h0 8) σ)
        · skip
          exact V_sub [0, 1] rfl (hJ48 (b && cK σ h0 8) σ)
theorem cal_Tape_readKey (d mc ms k n : Nat) (h1 : 6 + 1 ≤ d) (h2 : k + 0 ≤ mc) (h3 : n + 0 ≤ ms) : Cal M_Tape_readKey 6 0 0 0 d mc ms k n := ⟨wd_785, wd_179, by decide, h1, by decide, h2, h3⟩
abbrev M_Tape_addStep : MD := (⟨"LongTrail$Tape", "addStep", "(I)V"⟩, prog_9_method_6_code, 2, (none : Option FieldType))
def f_Tape_addStep (h0 : Nat) (x1 : Int32) (b : Bool) (σ : Sto) : Rs Unit := (if (SI σ h0 9) < (Int32.ofNat (Sln σ (SR σ h0 8))) then (lt_ (pI σ (SR σ h0 8) (ix (SI σ h0 9)) x1) (fun (σ_1 : Sto) => (lt_ (pI σ_1 h0 9 ((SI σ_1 h0 9) + (1 : Int32))) (fun (σ_2 : Sto) => ((), ((((((((b && cK σ h0 8) && cK σ h0 8) && cK σ (SR σ h0 8) 21) && cK σ h0 8) && cK σ h0 8) && cA σ (SR σ h0 8) 21 (SI σ h0 9)) && cK σ_1 h0 8) && cK σ_1 h0 8), σ_2))))) else ((), (((b && cK σ h0 8) && cK σ h0 8) && cK σ (SR σ h0 8) 21), σ))
set_option maxRecDepth 100000 in
set_option maxHeartbeats 4000000 in
theorem s_Tape_addStep : ∀ (h0 : Nat) (x1 : Int32) (b : Bool) (σ : Sto), Snd M_Tape_addStep 1 0 0 [vR h0, vI x1] b σ (tU (f_Tape_addStep h0 x1 b σ).1) (f_Tape_addStep h0 x1 b σ).2.1 (f_Tape_addStep h0 x1 b σ).2.2 := by
  intro h0 x1 b σ
  refine Snd_of (tv := tU) (by decide) (Nat.le_of_ble_eq_true rfl) ?_
  show V M_Tape_addStep 1 0 0 0 0 tU (f_Tape_addStep h0 x1 b σ) 0 [(0, vR h0), (1, vI x1)] [] b σ
  unfold f_Tape_addStep
  refine V_aload_n 1 rfl (show decode M_Tape_addStep.2.1 0 = .ok (.aload_n 0, 1) by decide +kernel) 0 rfl ?_
  refine V_get (j := 9) (v := vI (SI σ h0 9)) 4 rfl ck_Tape (by decide) (by decide) (show decode M_Tape_addStep.2.1 1 = .ok (.getfield 24, 3) by decide +kernel) wd_550 rfl ?_
  refine V_aload_n 5 rfl (show decode M_Tape_addStep.2.1 4 = .ok (.aload_n 0, 1) by decide +kernel) 0 rfl ?_
  refine V_get (j := 8) (v := vR (SR σ h0 8)) 8 rfl ck_Tape (by decide) (by decide) (show decode M_Tape_addStep.2.1 5 = .ok (.getfield 13, 3) by decide +kernel) wd_549 rfl ?_
  refine V_alen_int 9 rfl (show decode M_Tape_addStep.2.1 8 = .ok (.arraylength, 1) by decide +kernel) ?_
  refine V_icmpge 12 32 rfl (show decode M_Tape_addStep.2.1 9 = .ok (.if_icmp .ge 23, 3) by decide +kernel) rfl ?_ ?_
  · skip
    refine V_aload_n 13 rfl (show decode M_Tape_addStep.2.1 12 = .ok (.aload_n 0, 1) by decide +kernel) 0 rfl ?_
    refine V_get (j := 8) (v := vR (SR σ h0 8)) 16 rfl ck_Tape (by decide) (by decide) (show decode M_Tape_addStep.2.1 13 = .ok (.getfield 13, 3) by decide +kernel) wd_549 rfl ?_
    refine V_aload_n 17 rfl (show decode M_Tape_addStep.2.1 16 = .ok (.aload_n 0, 1) by decide +kernel) 0 rfl ?_
    refine V_get (j := 9) (v := vI (SI σ h0 9)) 20 rfl ck_Tape (by decide) (by decide) (show decode M_Tape_addStep.2.1 17 = .ok (.getfield 24, 3) by decide +kernel) wd_550 rfl ?_
    refine V_iload_n 21 rfl (show decode M_Tape_addStep.2.1 20 = .ok (.iload_n 1, 1) by decide +kernel) 1 rfl ?_
    refine V_ast_int 22 rfl (show decode M_Tape_addStep.2.1 21 = .ok (.iastore, 1) by decide +kernel) (fun σ_1 => ?_)
    refine V_aload_n 23 rfl (show decode M_Tape_addStep.2.1 22 = .ok (.aload_n 0, 1) by decide +kernel) 0 rfl ?_
    refine V_dup 24 rfl (show decode M_Tape_addStep.2.1 23 = .ok (.dup, 1) by decide +kernel) rfl ?_
    refine V_get (j := 9) (v := vI (SI σ_1 h0 9)) 27 rfl ck_Tape (by decide) (by decide) (show decode M_Tape_addStep.2.1 24 = .ok (.getfield 24, 3) by decide +kernel) wd_550 rfl ?_
    refine V_iconst 28 rfl (show decode M_Tape_addStep.2.1 27 = .ok (.iconst 1, 1) by decide +kernel) (v := 1) rfl ?_
    refine V_iadd 29 rfl (show decode M_Tape_addStep.2.1 28 = .ok (.iadd, 1) by decide +kernel) ?_
    refine V_putI (j := 9) 32 rfl ck_Tape (by decide) (by decide) (show decode M_Tape_addStep.2.1 29 = .ok (.putfield 24, 3) by decide +kernel) wd_550 rfl (fun _ => rfl) rfl rfl (fun σ_2 => ?_)
    exact V_vret rfl (by decide) (by decide) (show decode M_Tape_addStep.2.1 32 = .ok (.return_, 1) by decide +kernel)
  · skip
    exact V_vret rfl (by decide) (by decide) (show decode M_Tape_addStep.2.1 32 = .ok (.return_, 1) by decide +kernel)
theorem cal_Tape_addStep (d mc ms k n : Nat) (h1 : 1 + 1 ≤ d) (h2 : k + 0 ≤ mc) (h3 : n + 0 ≤ ms) : Cal M_Tape_addStep 1 0 0 1 d mc ms k n := ⟨wd_927, wd_179, by decide, h1, by decide, h2, h3⟩
abbrev M_Tape_levelOf : MD := (⟨"LongTrail$Tape", "levelOf", "(I)I"⟩, prog_9_method_16_code, 1, (some FieldType.int))
def f_Tape_levelOf (x0 : Int32) (b : Bool) (σ : Sto) : Rs Int32 := (if x0 = (38 : Int32) then ((1 : Int32), b, σ) else (if x0 = (42 : Int32) then ((4 : Int32), b, σ) else (if x0 = (43 : Int32) then ((3 : Int32), b, σ) else (if x0 = (45 : Int32) then ((3 : Int32), b, σ) else (if x0 = (47 : Int32) then ((4 : Int32), b, σ) else (if x0 = (60 : Int32) then ((2 : Int32), b, σ) else (if x0 = (61 : Int32) then ((2 : Int32), b, σ) else (if x0 = (62 : Int32) then ((2 : Int32), b, σ) else (if x0 = (124 : Int32) then ((0 : Int32), b, σ) else ((-1 : Int32), b, σ))))))))))
set_option maxRecDepth 100000 in
set_option maxHeartbeats 4000000 in
theorem s_Tape_levelOf : ∀ (x0 : Int32) (b : Bool) (σ : Sto), Snd M_Tape_levelOf 1 0 0 [vI x0] b σ (tI (f_Tape_levelOf x0 b σ).1) (f_Tape_levelOf x0 b σ).2.1 (f_Tape_levelOf x0 b σ).2.2 := by
  intro x0 b σ
  refine Snd_of (tv := tI) (by decide) (Nat.le_of_ble_eq_true rfl) ?_
  show V M_Tape_levelOf 1 0 0 0 0 tI (f_Tape_levelOf x0 b σ) 0 [(0, vI x0)] [] b σ
  unfold f_Tape_levelOf
  refine V_iload_n 1 rfl (show decode M_Tape_levelOf.2.1 0 = .ok (.iload_n 0, 1) by decide +kernel) 0 rfl ?_
  refine V_ite (fun hs1_38 => ?_) (fun hs1_38 => ?_)
  · refine V_lsw (off := 85) 86 (show decode M_Tape_levelOf.2.1 1 = .ok (.lookupswitch 93 #[(38, 85), (42, 91), (43, 89), (45, 89), (47, 91), (60, 87), (61, 87), (62, 87), (124, 83)], 83) by decide +kernel) (by decide) (by rw [hs1_38]; decide) rfl ?_
    refine V_iconst 87 rfl (show decode M_Tape_levelOf.2.1 86 = .ok (.iconst 1, 1) by decide +kernel) (v := 1) rfl ?_
    exact V_iret rfl (by decide) (by decide) (show decode M_Tape_levelOf.2.1 87 = .ok (.ireturn, 1) by decide +kernel)
  refine V_ite (fun hs1_42 => ?_) (fun hs1_42 => ?_)
  · refine V_lsw (off := 91) 92 (show decode M_Tape_levelOf.2.1 1 = .ok (.lookupswitch 93 #[(38, 85), (42, 91), (43, 89), (45, 89), (47, 91), (60, 87), (61, 87), (62, 87), (124, 83)], 83) by decide +kernel) (by decide) (by rw [hs1_42]; decide) rfl ?_
    refine V_iconst 93 rfl (show decode M_Tape_levelOf.2.1 92 = .ok (.iconst 4, 1) by decide +kernel) (v := 4) rfl ?_
    exact V_iret rfl (by decide) (by decide) (show decode M_Tape_levelOf.2.1 93 = .ok (.ireturn, 1) by decide +kernel)
  refine V_ite (fun hs1_43 => ?_) (fun hs1_43 => ?_)
  · refine V_lsw (off := 89) 90 (show decode M_Tape_levelOf.2.1 1 = .ok (.lookupswitch 93 #[(38, 85), (42, 91), (43, 89), (45, 89), (47, 91), (60, 87), (61, 87), (62, 87), (124, 83)], 83) by decide +kernel) (by decide) (by rw [hs1_43]; decide) rfl ?_
    refine V_iconst 91 rfl (show decode M_Tape_levelOf.2.1 90 = .ok (.iconst 3, 1) by decide +kernel) (v := 3) rfl ?_
    exact V_iret rfl (by decide) (by decide) (show decode M_Tape_levelOf.2.1 91 = .ok (.ireturn, 1) by decide +kernel)
  refine V_ite (fun hs1_45 => ?_) (fun hs1_45 => ?_)
  · refine V_lsw (off := 89) 90 (show decode M_Tape_levelOf.2.1 1 = .ok (.lookupswitch 93 #[(38, 85), (42, 91), (43, 89), (45, 89), (47, 91), (60, 87), (61, 87), (62, 87), (124, 83)], 83) by decide +kernel) (by decide) (by rw [hs1_45]; decide) rfl ?_
    refine V_iconst 91 rfl (show decode M_Tape_levelOf.2.1 90 = .ok (.iconst 3, 1) by decide +kernel) (v := 3) rfl ?_
    exact V_iret rfl (by decide) (by decide) (show decode M_Tape_levelOf.2.1 91 = .ok (.ireturn, 1) by decide +kernel)
  refine V_ite (fun hs1_47 => ?_) (fun hs1_47 => ?_)
  · refine V_lsw (off := 91) 92 (show decode M_Tape_levelOf.2.1 1 = .ok (.lookupswitch 93 #[(38, 85), (42, 91), (43, 89), (45, 89), (47, 91), (60, 87), (61, 87), (62, 87), (124, 83)], 83) by decide +kernel) (by decide) (by rw [hs1_47]; decide) rfl ?_
    refine V_iconst 93 rfl (show decode M_Tape_levelOf.2.1 92 = .ok (.iconst 4, 1) by decide +kernel) (v := 4) rfl ?_
    exact V_iret rfl (by decide) (by decide) (show decode M_Tape_levelOf.2.1 93 = .ok (.ireturn, 1) by decide +kernel)
  refine V_ite (fun hs1_60 => ?_) (fun hs1_60 => ?_)
  · refine V_lsw (off := 87) 88 (show decode M_Tape_levelOf.2.1 1 = .ok (.lookupswitch 93 #[(38, 85), (42, 91), (43, 89), (45, 89), (47, 91), (60, 87), (61, 87), (62, 87), (124, 83)], 83) by decide +kernel) (by decide) (by rw [hs1_60]; decide) rfl ?_
    refine V_iconst 89 rfl (show decode M_Tape_levelOf.2.1 88 = .ok (.iconst 2, 1) by decide +kernel) (v := 2) rfl ?_
    exact V_iret rfl (by decide) (by decide) (show decode M_Tape_levelOf.2.1 89 = .ok (.ireturn, 1) by decide +kernel)
  refine V_ite (fun hs1_61 => ?_) (fun hs1_61 => ?_)
  · refine V_lsw (off := 87) 88 (show decode M_Tape_levelOf.2.1 1 = .ok (.lookupswitch 93 #[(38, 85), (42, 91), (43, 89), (45, 89), (47, 91), (60, 87), (61, 87), (62, 87), (124, 83)], 83) by decide +kernel) (by decide) (by rw [hs1_61]; decide) rfl ?_
    refine V_iconst 89 rfl (show decode M_Tape_levelOf.2.1 88 = .ok (.iconst 2, 1) by decide +kernel) (v := 2) rfl ?_
    exact V_iret rfl (by decide) (by decide) (show decode M_Tape_levelOf.2.1 89 = .ok (.ireturn, 1) by decide +kernel)
  refine V_ite (fun hs1_62 => ?_) (fun hs1_62 => ?_)
  · refine V_lsw (off := 87) 88 (show decode M_Tape_levelOf.2.1 1 = .ok (.lookupswitch 93 #[(38, 85), (42, 91), (43, 89), (45, 89), (47, 91), (60, 87), (61, 87), (62, 87), (124, 83)], 83) by decide +kernel) (by decide) (by rw [hs1_62]; decide) rfl ?_
    refine V_iconst 89 rfl (show decode M_Tape_levelOf.2.1 88 = .ok (.iconst 2, 1) by decide +kernel) (v := 2) rfl ?_
    exact V_iret rfl (by decide) (by decide) (show decode M_Tape_levelOf.2.1 89 = .ok (.ireturn, 1) by decide +kernel)
  refine V_ite (fun hs1_124 => ?_) (fun hs1_124 => ?_)
  · refine V_lsw (off := 83) 84 (show decode M_Tape_levelOf.2.1 1 = .ok (.lookupswitch 93 #[(38, 85), (42, 91), (43, 89), (45, 89), (47, 91), (60, 87), (61, 87), (62, 87), (124, 83)], 83) by decide +kernel) (by decide) (by rw [hs1_124]; decide) rfl ?_
    refine V_iconst 85 rfl (show decode M_Tape_levelOf.2.1 84 = .ok (.iconst 0, 1) by decide +kernel) (v := 0) rfl ?_
    exact V_iret rfl (by decide) (by decide) (show decode M_Tape_levelOf.2.1 85 = .ok (.ireturn, 1) by decide +kernel)
  · refine V_lsw (off := 93) 94 (show decode M_Tape_levelOf.2.1 1 = .ok (.lookupswitch 93 #[(38, 85), (42, 91), (43, 89), (45, 89), (47, 91), (60, 87), (61, 87), (62, 87), (124, 83)], 83) by decide +kernel) (by decide) ((lv_osw hs1_38 rfl).trans ((lv_osw hs1_42 rfl).trans ((lv_osw hs1_43 rfl).trans ((lv_osw hs1_45 rfl).trans ((lv_osw hs1_47 rfl).trans ((lv_osw hs1_60 rfl).trans ((lv_osw hs1_61 rfl).trans ((lv_osw hs1_62 rfl).trans ((lv_osw hs1_124 rfl).trans (rfl)))))))))) rfl ?_
    refine V_iconst 95 rfl (show decode M_Tape_levelOf.2.1 94 = .ok (.iconst (-1), 1) by decide +kernel) (v := -1) rfl ?_
    exact V_iret rfl (by decide) (by decide) (show decode M_Tape_levelOf.2.1 95 = .ok (.ireturn, 1) by decide +kernel)
theorem cal_Tape_levelOf (d mc ms k n : Nat) (h1 : 1 + 1 ≤ d) (h2 : k + 0 ≤ mc) (h3 : n + 0 ≤ ms) : Cal M_Tape_levelOf 1 0 0 1 d mc ms k n := ⟨wd_934, wd_179, by decide, h1, by decide, h2, h3⟩
abbrev M_Tape_addOperand : MD := (⟨"LongTrail$Tape", "addOperand", "(I)V"⟩, prog_9_method_7_code, 2, (none : Option FieldType))
def f_Tape_addOperand (h0 : Nat) (x1 : Int32) (b : Bool) (σ : Sto) : Rs Unit := (bd_ (f_Tape_addStep h0 x1 (b && cK σ h0 8) σ) (fun (r_1 : Unit) (b_1 : Bool) (σ_1 : Sto) => (lt_ (pI σ_1 h0 10 ((SI σ_1 h0 10) + (1 : Int32))) (fun (σ_2 : Sto) => (bd_ (f_Tape_nextWord h0 (((b_1 && cK σ_1 h0 8) && cK σ_1 h0 8) && cK σ_2 h0 8) σ_2) (fun (r_3 : Unit) (b_3 : Bool) (σ_3 : Sto) => ((), b_3, σ_3)))))))
set_option maxRecDepth 100000 in
set_option maxHeartbeats 4000000 in
theorem s_Tape_addOperand : ∀ (h0 : Nat) (x1 : Int32) (b : Bool) (σ : Sto), Snd M_Tape_addOperand 4 0 0 [vR h0, vI x1] b σ (tU (f_Tape_addOperand h0 x1 b σ).1) (f_Tape_addOperand h0 x1 b σ).2.1 (f_Tape_addOperand h0 x1 b σ).2.2 := by
  intro h0 x1 b σ
  refine Snd_of (tv := tU) (by decide) (Nat.le_of_ble_eq_true rfl) ?_
  show V M_Tape_addOperand 4 0 0 0 0 tU (f_Tape_addOperand h0 x1 b σ) 0 [(0, vR h0), (1, vI x1)] [] b σ
  unfold f_Tape_addOperand
  refine V_aload_n 1 rfl (show decode M_Tape_addOperand.2.1 0 = .ok (.aload_n 0, 1) by decide +kernel) 0 rfl ?_
  refine V_iload_n 2 rfl (show decode M_Tape_addOperand.2.1 1 = .ok (.iload_n 1, 1) by decide +kernel) 1 rfl ?_
  refine V_callV (tb := tU) (as := [vI x1]) (rest := []) (na := 1) 5 rfl ck_Tape (by decide) (s_Tape_addStep h0 x1 (b && cK σ h0 8) σ) rfl rfl (Nat.le_of_ble_eq_true rfl) (cal_Tape_addStep _ _ _ _ _ (by decide) (by decide) (by decide)) (show decode M_Tape_addOperand.2.1 2 = .ok (.invokevirtual 66, 3) by decide +kernel) wd_924 wd_926 wd_28 (fun r_1 b_1 σ_1 => ?_)
  show V M_Tape_addOperand 4 0 0 0 0 tU _ 5 [(0, vR h0), (1, vI x1)] [] b_1 σ_1
  refine V_aload_n 6 rfl (show decode M_Tape_addOperand.2.1 5 = .ok (.aload_n 0, 1) by decide +kernel) 0 rfl ?_
  refine V_dup 7 rfl (show decode M_Tape_addOperand.2.1 6 = .ok (.dup, 1) by decide +kernel) rfl ?_
  refine V_get (j := 10) (v := vI (SI σ_1 h0 10)) 10 rfl ck_Tape (by decide) (by decide) (show decode M_Tape_addOperand.2.1 7 = .ok (.getfield 27, 3) by decide +kernel) wd_551 rfl ?_
  refine V_iconst 11 rfl (show decode M_Tape_addOperand.2.1 10 = .ok (.iconst 1, 1) by decide +kernel) (v := 1) rfl ?_
  refine V_iadd 12 rfl (show decode M_Tape_addOperand.2.1 11 = .ok (.iadd, 1) by decide +kernel) ?_
  refine V_putI (j := 10) 15 rfl ck_Tape (by decide) (by decide) (show decode M_Tape_addOperand.2.1 12 = .ok (.putfield 27, 3) by decide +kernel) wd_551 rfl (fun _ => rfl) rfl rfl (fun σ_2 => ?_)
  refine V_aload_n 16 rfl (show decode M_Tape_addOperand.2.1 15 = .ok (.aload_n 0, 1) by decide +kernel) 0 rfl ?_
  refine V_callV (tb := tU) (as := []) (rest := []) (na := 0) 19 rfl ck_Tape (by decide) (s_Tape_nextWord h0 (((b_1 && cK σ_1 h0 8) && cK σ_1 h0 8) && cK σ_2 h0 8) σ_2) rfl rfl (Nat.le_of_ble_eq_true rfl) (cal_Tape_nextWord _ _ _ _ _ (by decide) (by decide) (by decide)) (show decode M_Tape_addOperand.2.1 16 = .ok (.invokevirtual 36, 3) by decide +kernel) wd_764 wd_766 wd_18 (fun r_3 b_3 σ_3 => ?_)
  show V M_Tape_addOperand 4 0 0 0 0 tU _ 19 [(0, vR h0), (1, vI x1)] [] b_3 σ_3
  exact V_vret rfl (by decide) (by decide) (show decode M_Tape_addOperand.2.1 19 = .ok (.return_, 1) by decide +kernel)
theorem cal_Tape_addOperand (d mc ms k n : Nat) (h1 : 4 + 1 ≤ d) (h2 : k + 0 ≤ mc) (h3 : n + 0 ≤ ms) : Cal M_Tape_addOperand 4 0 0 1 d mc ms k n := ⟨wd_923, wd_179, by decide, h1, by decide, h2, h3⟩
abbrev M_Tape_namesOf : MD := (⟨"LongTrail$Tape", "namesOf", "(I)Ljava/lang/String;"⟩, prog_9_method_20_code, 1, (some (FieldType.object "java/lang/String")))
def f_Tape_namesOf (x0 : Int32) (b : Bool) (σ : Sto) : Rs Nat := (if x0 = (0 : Int32) then ((Scs σ 2), (b && !decide (Scs σ 2 = 0)), σ) else (if x0 = (1 : Int32) then ((Scs σ 3), (b && !decide (Scs σ 3 = 0)), σ) else (if x0 = (2 : Int32) then ((Scs σ 4), (b && !decide (Scs σ 4 = 0)), σ) else ((Scs σ 5), (b && !decide (Scs σ 5 = 0)), σ))))
set_option maxRecDepth 100000 in
set_option maxHeartbeats 4000000 in
theorem s_Tape_namesOf : ∀ (x0 : Int32) (b : Bool) (σ : Sto), Snd M_Tape_namesOf 1 0 0 [vI x0] b σ (tR (f_Tape_namesOf x0 b σ).1) (f_Tape_namesOf x0 b σ).2.1 (f_Tape_namesOf x0 b σ).2.2 := by
  intro x0 b σ
  refine Snd_of (tv := tR) (by decide) (Nat.le_of_ble_eq_true rfl) ?_
  show V M_Tape_namesOf 1 0 0 0 0 tR (f_Tape_namesOf x0 b σ) 0 [(0, vI x0)] [] b σ
  unfold f_Tape_namesOf
  refine V_iload_n 1 rfl (show decode M_Tape_namesOf.2.1 0 = .ok (.iload_n 0, 1) by decide +kernel) 0 rfl ?_
  refine V_ite (fun hs1_0 => ?_) (fun hs1_0 => ?_)
  · refine V_tswIn (off := 27) 28 (show decode M_Tape_namesOf.2.1 1 = .ok (.tableswitch 36 0 2 #[27, 30, 33], 27) by decide +kernel) (by rw [hs1_0]; decide) (by rw [hs1_0]; decide) (by rw [hs1_0]; decide) rfl ?_
    refine V_ldcS2 30 rfl rfl (show decode M_Tape_namesOf.2.1 28 = .ok (.ldc 128, 2) by decide +kernel) ?_
    exact V_aret rfl (by decide) (by decide) (Or.inl ⟨_, rfl⟩) (show decode M_Tape_namesOf.2.1 30 = .ok (.areturn, 1) by decide +kernel)
  refine V_ite (fun hs1_1 => ?_) (fun hs1_1 => ?_)
  · refine V_tswIn (off := 30) 31 (show decode M_Tape_namesOf.2.1 1 = .ok (.tableswitch 36 0 2 #[27, 30, 33], 27) by decide +kernel) (by rw [hs1_1]; decide) (by rw [hs1_1]; decide) (by rw [hs1_1]; decide) rfl ?_
    refine V_ldcS3 33 rfl rfl (show decode M_Tape_namesOf.2.1 31 = .ok (.ldc 130, 2) by decide +kernel) ?_
    exact V_aret rfl (by decide) (by decide) (Or.inl ⟨_, rfl⟩) (show decode M_Tape_namesOf.2.1 33 = .ok (.areturn, 1) by decide +kernel)
  refine V_ite (fun hs1_2 => ?_) (fun hs1_2 => ?_)
  · refine V_tswIn (off := 33) 34 (show decode M_Tape_namesOf.2.1 1 = .ok (.tableswitch 36 0 2 #[27, 30, 33], 27) by decide +kernel) (by rw [hs1_2]; decide) (by rw [hs1_2]; decide) (by rw [hs1_2]; decide) rfl ?_
    refine V_ldcS4 36 rfl rfl (show decode M_Tape_namesOf.2.1 34 = .ok (.ldc 132, 2) by decide +kernel) ?_
    exact V_aret rfl (by decide) (by decide) (Or.inl ⟨_, rfl⟩) (show decode M_Tape_namesOf.2.1 36 = .ok (.areturn, 1) by decide +kernel)
  · refine V_tswD 37 (show decode M_Tape_namesOf.2.1 1 = .ok (.tableswitch 36 0 2 #[27, 30, 33], 27) by decide +kernel) rfl (by decide) ?_ ?_
    · intro z hz hz2
      have hm : z = 0 ∨ z = 1 ∨ z = 2 := by simp at hz2; omega
      rcases hm with rfl | rfl | rfl
      · exact absurd (Int32.toInt_inj.mp (hz.trans (by decide))) hs1_0
      · exact absurd (Int32.toInt_inj.mp (hz.trans (by decide))) hs1_1
      · exact absurd (Int32.toInt_inj.mp (hz.trans (by decide))) hs1_2
    · skip
      refine V_ldcS5 39 rfl rfl (show decode M_Tape_namesOf.2.1 37 = .ok (.ldc 134, 2) by decide +kernel) ?_
      exact V_aret rfl (by decide) (by decide) (Or.inl ⟨_, rfl⟩) (show decode M_Tape_namesOf.2.1 39 = .ok (.areturn, 1) by decide +kernel)
theorem cal_Tape_namesOf (d mc ms k n : Nat) (h1 : 1 + 1 ≤ d) (h2 : k + 0 ≤ mc) (h3 : n + 0 ≤ ms) : Cal M_Tape_namesOf 1 0 0 1 d mc ms k n := ⟨wd_849, wd_179, by decide, h1, by decide, h2, h3⟩
abbrev M_String_coder : MD := (⟨"java/lang/String", "coder", "()B"⟩, prog_18_method_152_code, 1, (some FieldType.byte))
def f_String_coder (h0 : Nat) (b : Bool) (σ : Sto) : Rs Int32 := (if (1 : Int32) = 0 then ((1 : Int32), (b && bok (1 : Int32)), σ) else ((0 : Int32), ((b && sok σ h0) && bok (0 : Int32)), σ))
set_option maxRecDepth 100000 in
set_option maxHeartbeats 4000000 in
theorem s_String_coder : ∀ (h0 : Nat) (b : Bool) (σ : Sto), Snd M_String_coder 1 0 0 [vR h0] b σ (tI (f_String_coder h0 b σ).1) (f_String_coder h0 b σ).2.1 (f_String_coder h0 b σ).2.2 := by
  intro h0 b σ
  refine Snd_of (tv := tI) (by decide) (Nat.le_of_ble_eq_true rfl) ?_
  show V M_String_coder 1 0 0 0 0 tI (f_String_coder h0 b σ) 0 [(0, vR h0)] [] b σ
  unfold f_String_coder
  refine V_csG 3 rfl (show decode M_String_coder.2.1 0 = .ok (.getstatic 38, 3) by decide +kernel) wd_799 ?_
  refine V_ifeq 6 13 rfl (show decode M_String_coder.2.1 3 = .ok (.ifCond .eq 10, 3) by decide +kernel) rfl ?_ ?_
  · skip
    refine V_iconst 14 rfl (show decode M_String_coder.2.1 13 = .ok (.iconst 1, 1) by decide +kernel) (v := 1) rfl ?_
    exact V_bretc rfl (by decide) (by decide) (show decode M_String_coder.2.1 14 = .ok (.ireturn, 1) by decide +kernel)
  · skip
    refine V_aload_n 7 rfl (show decode M_String_coder.2.1 6 = .ok (.aload_n 0, 1) by decide +kernel) 0 rfl ?_
    refine V_scod 10 rfl (show decode M_String_coder.2.1 7 = .ok (.getfield 15, 3) by decide +kernel) wd_2079 ?_
    refine V_goto 14 (show decode M_String_coder.2.1 10 = .ok (.goto 4, 3) by decide +kernel) rfl ?_
    exact V_bretc rfl (by decide) (by decide) (show decode M_String_coder.2.1 14 = .ok (.ireturn, 1) by decide +kernel)
theorem cal_String_coder (d mc ms k n : Nat) (h1 : 1 + 1 ≤ d) (h2 : k + 0 ≤ mc) (h3 : n + 0 ≤ ms) : Cal M_String_coder 1 0 0 0 d mc ms k n := ⟨wd_869, wd_182, by decide, h1, by decide, h2, h3⟩
abbrev M_String_length : MD := (⟨"java/lang/String", "length", "()I"⟩, prog_18_method_54_code, 1, (some FieldType.int))
def f_String_length (h0 : Nat) (b : Bool) (σ : Sto) : Rs Int32 := (bd_ (f_String_coder h0 (((b && sok σ h0) && sokv σ (sval σ h0)) && sok σ h0) σ) (fun (r_1 : Int32) (b_1 : Bool) (σ_1 : Sto) => (((Int32.ofNat (slen_ σ (sval σ h0))) >>> (r_1 &&& 31)), b_1, σ_1)))
set_option maxRecDepth 100000 in
set_option maxHeartbeats 4000000 in
theorem s_String_length : ∀ (h0 : Nat) (b : Bool) (σ : Sto), Snd M_String_length 2 0 0 [vR h0] b σ (tI (f_String_length h0 b σ).1) (f_String_length h0 b σ).2.1 (f_String_length h0 b σ).2.2 := by
  intro h0 b σ
  refine Snd_of (tv := tI) (by decide) (Nat.le_of_ble_eq_true rfl) ?_
  show V M_String_length 2 0 0 0 0 tI (f_String_length h0 b σ) 0 [(0, vR h0)] [] b σ
  unfold f_String_length
  refine V_aload_n 1 rfl (show decode M_String_length.2.1 0 = .ok (.aload_n 0, 1) by decide +kernel) 0 rfl ?_
  refine V_sval 4 rfl (show decode M_String_length.2.1 1 = .ok (.getfield 9, 3) by decide +kernel) wd_2080 ?_
  refine V_slen 5 rfl (show decode M_String_length.2.1 4 = .ok (.arraylength, 1) by decide +kernel) ?_
  refine V_aload_n 6 rfl (show decode M_String_length.2.1 5 = .ok (.aload_n 0, 1) by decide +kernel) 0 rfl ?_
  refine V_callX (tb := tI) (as := []) (rest := [vI (Int32.ofNat (slen_ σ (sval σ h0)))]) (na := 0) 9 rfl (s_String_coder h0 (((b && sok σ h0) && sokv σ (sval σ h0)) && sok σ h0) σ) rfl rfl (Nat.le_of_ble_eq_true rfl) (cal_String_coder _ _ _ _ _ (by decide) (by decide) (by decide)) (show decode M_String_length.2.1 6 = .ok (.invokevirtual 335, 3) by decide +kernel) wd_866 wd_867 wd_868 (fun r_1 b_1 σ_1 => ?_)
  show V M_String_length 2 0 0 0 0 tI _ 9 [(0, vR h0)] [vI r_1, vI (Int32.ofNat (slen_ σ (sval σ h0)))] b_1 σ_1
  refine V_ishr 10 rfl (show decode M_String_length.2.1 9 = .ok (.ishr, 1) by decide +kernel) ?_
  exact V_iret rfl (by decide) (by decide) (show decode M_String_length.2.1 10 = .ok (.ireturn, 1) by decide +kernel)
theorem cal_String_length (d mc ms k n : Nat) (h1 : 2 + 1 ≤ d) (h2 : k + 0 ≤ mc) (h3 : n + 0 ≤ ms) : Cal M_String_length 2 0 0 0 d mc ms k n := ⟨wd_865, wd_182, by decide, h1, by decide, h2, h3⟩
abbrev M_StringLatin1_canEncode : MD := (⟨"java/lang/StringLatin1", "canEncode", "(I)Z"⟩, prog_19_method_4_code, 1, (some FieldType.boolean))
def f_StringLatin1_canEncode (x0 : Int32) (b : Bool) (σ : Sto) : Rs Int32 := (lt_ (fun (b : Bool) (σ : Sto) => ((0 : Int32), b, σ)) (fun J15 => (if x0 < 0 then (J15 b σ) else (if (255 : Int32) < x0 then (J15 b σ) else ((1 : Int32), b, σ)))))
set_option maxRecDepth 100000 in
set_option maxHeartbeats 4000000 in
theorem s_StringLatin1_canEncode : ∀ (x0 : Int32) (b : Bool) (σ : Sto), Snd M_StringLatin1_canEncode 1 0 0 [vI x0] b σ (tI (f_StringLatin1_canEncode x0 b σ).1) (f_StringLatin1_canEncode x0 b σ).2.1 (f_StringLatin1_canEncode x0 b σ).2.2 := by
  intro x0 b σ
  refine Snd_of (tv := tI) (by decide) (Nat.le_of_ble_eq_true rfl) ?_
  show V M_StringLatin1_canEncode 1 0 0 0 0 tI (f_StringLatin1_canEncode x0 b σ) 0 [(0, vI x0)] [] b σ
  unfold f_StringLatin1_canEncode
  refine V_iload_n 1 rfl (show decode M_StringLatin1_canEncode.2.1 0 = .ok (.iload_n 0, 1) by decide +kernel) 0 rfl ?_
  refine V_jn (fun (J15 : Bool → Sto → Rs Int32) => ∀ (b : Bool) (σ : Sto), V M_StringLatin1_canEncode 1 0 0 0 0 tI (J15 b σ) 15 [] [] b σ) ?_ (fun J15 hJ15 => ?_)
  · intro b σ
    refine V_iconst 16 rfl (show decode M_StringLatin1_canEncode.2.1 15 = .ok (.iconst 0, 1) by decide +kernel) (v := 0) rfl ?_
    exact V_zret rfl (by decide) (by decide) rfl (show decode M_StringLatin1_canEncode.2.1 16 = .ok (.ireturn, 1) by decide +kernel)
  · skip
    refine V_iflt 4 15 rfl (show decode M_StringLatin1_canEncode.2.1 1 = .ok (.ifCond .lt 14, 3) by decide +kernel) rfl ?_ ?_
    · skip
      exact V_sub [] rfl (hJ15 b σ)
    · skip
      refine V_iload_n 5 rfl (show decode M_StringLatin1_canEncode.2.1 4 = .ok (.iload_n 0, 1) by decide +kernel) 0 rfl ?_
      refine V_sipush 8 rfl (show decode M_StringLatin1_canEncode.2.1 5 = .ok (.sipush 255, 3) by decide +kernel) (v := 255) rfl ?_
      refine V_icmpgt 11 15 rfl (show decode M_StringLatin1_canEncode.2.1 8 = .ok (.if_icmp .gt 7, 3) by decide +kernel) rfl ?_ ?_
      · skip
        exact V_sub [] rfl (hJ15 b σ)
      · skip
        refine V_iconst 12 rfl (show decode M_StringLatin1_canEncode.2.1 11 = .ok (.iconst 1, 1) by decide +kernel) (v := 1) rfl ?_
        refine V_goto 16 (show decode M_StringLatin1_canEncode.2.1 12 = .ok (.goto 4, 3) by decide +kernel) rfl ?_
        exact V_zret rfl (by decide) (by decide) rfl (show decode M_StringLatin1_canEncode.2.1 16 = .ok (.ireturn, 1) by decide +kernel)
theorem cal_StringLatin1_canEncode (d mc ms k n : Nat) (h1 : 1 + 1 ≤ d) (h2 : k + 0 ≤ mc) (h3 : n + 0 ≤ ms) : Cal M_StringLatin1_canEncode 1 0 0 1 d mc ms k n := ⟨wd_875, wd_183, by decide, h1, by decide, h2, h3⟩
abbrev M_StringLatin1_indexOfChar : MD := (⟨"java/lang/StringLatin1", "indexOfChar", "([BIII)I"⟩, prog_19_method_23_code, 6, (some FieldType.int))
def b_StringLatin1_indexOfChar_7 (h0 : Nat) (x3 : Int32) (x4_1 : Int32) (L7 : Int32 → Bool → Sto → Rs Int32) (x5 : Int32) (b : Bool) (σ : Sto) : Rs Int32 := (if x5 < x3 then (if (sbyt_ σ h0 (ix x5)) = x4_1 then (x5, (b && (sokv σ h0 && inb x5 (slen_ σ h0))), σ) else (lt_ (x5 + (1 : Int32)) (fun (x5_3 : Int32) => (L7 x5_3 (b && (sokv σ h0 && inb x5 (slen_ σ h0))) σ)))) else ((-1 : Int32), b, σ))
def f_StringLatin1_indexOfChar (h0 : Nat) (x1 : Int32) (x2 : Int32) (x3 : Int32) (b : Bool) (σ : Sto) : Rs Int32 := (lt_ ((x1).toInt8.toInt32) (fun (x4_1 : Int32) => (lt_ x2 (fun (x5_2 : Int32) => (lp_ (b_StringLatin1_indexOfChar_7 h0 x3 x4_1) (fun (x5 : Int32) (b : Bool) (σ : Sto) => (0, false, σ)) fuel_ x5_2 b σ)))))
set_option maxRecDepth 100000 in
set_option maxHeartbeats 4000000 in
theorem s_StringLatin1_indexOfChar : ∀ (h0 : Nat) (x1 : Int32) (x2 : Int32) (x3 : Int32) (b : Bool) (σ : Sto), Snd M_StringLatin1_indexOfChar 1 0 0 [vR h0, vI x1, vI x2, vI x3] b σ (tI (f_StringLatin1_indexOfChar h0 x1 x2 x3 b σ).1) (f_StringLatin1_indexOfChar h0 x1 x2 x3 b σ).2.1 (f_StringLatin1_indexOfChar h0 x1 x2 x3 b σ).2.2 := by
  intro h0 x1 x2 x3 b σ
  refine Snd_of (tv := tI) (by decide) (Nat.le_of_ble_eq_true rfl) ?_
  show V M_StringLatin1_indexOfChar 1 0 0 0 0 tI (f_StringLatin1_indexOfChar h0 x1 x2 x3 b σ) 0 [(0, vR h0), (1, vI x1), (2, vI x2), (3, vI x3)] [] b σ
  unfold f_StringLatin1_indexOfChar
  refine V_iload_n 1 rfl (show decode M_StringLatin1_indexOfChar.2.1 0 = .ok (.iload_n 1, 1) by decide +kernel) 1 rfl ?_
  refine V_i2b 2 rfl (show decode M_StringLatin1_indexOfChar.2.1 1 = .ok (.i2b, 1) by decide +kernel) ?_
  refine V_istore (fun x4_1 => [(4, vI x4_1), (0, vR h0), (1, vI x1), (2, vI x2), (3, vI x3)]) 4 rfl (show decode M_StringLatin1_indexOfChar.2.1 2 = .ok (.istore 4, 2) by decide +kernel) (by decide) (fun _ => rfl) (fun x4_1 => ?_)
  refine V_iload_n 5 rfl (show decode M_StringLatin1_indexOfChar.2.1 4 = .ok (.iload_n 2, 1) by decide +kernel) 3 rfl ?_
  refine V_istore (fun x5_2 => [(5, vI x5_2), (4, vI x4_1), (0, vR h0), (1, vI x1), (2, vI x2), (3, vI x3)]) 7 rfl (show decode M_StringLatin1_indexOfChar.2.1 5 = .ok (.istore 5, 2) by decide +kernel) (by decide) (fun _ => rfl) (fun x5_2 => ?_)
  refine V_sub [2, 5, 1, 0] rfl ?_
  refine lp_P (fun (L7 : Int32 → Bool → Sto → Rs Int32) => ∀ (x5 : Int32) (b : Bool) (σ : Sto), V M_StringLatin1_indexOfChar 1 0 0 0 0 tI (L7 x5 b σ) 7 [(0, vR h0), (3, vI x3), (4, vI x4_1), (5, vI x5)] [] b σ) ?_ ?_ fuel_ x5_2 b σ
  · intro x5 b σ; exact V_bad
  · intro L7 hL7 x5 b σ
    unfold b_StringLatin1_indexOfChar_7
    refine V_iload 9 rfl (show decode M_StringLatin1_indexOfChar.2.1 7 = .ok (.iload 5, 2) by decide +kernel) 3 rfl ?_
    refine V_iload_n 10 rfl (show decode M_StringLatin1_indexOfChar.2.1 9 = .ok (.iload_n 3, 1) by decide +kernel) 1 rfl ?_
    refine V_icmpge 13 31 rfl (show decode M_StringLatin1_indexOfChar.2.1 10 = .ok (.if_icmp .ge 21, 3) by decide +kernel) rfl ?_ ?_
    · skip
      refine V_aload_n 14 rfl (show decode M_StringLatin1_indexOfChar.2.1 13 = .ok (.aload_n 0, 1) by decide +kernel) 0 rfl ?_
      refine V_iload 16 rfl (show decode M_StringLatin1_indexOfChar.2.1 14 = .ok (.iload 5, 2) by decide +kernel) 3 rfl ?_
      refine V_sbyt 17 rfl (show decode M_StringLatin1_indexOfChar.2.1 16 = .ok (.baload, 1) by decide +kernel) ?_
      refine V_iload 19 rfl (show decode M_StringLatin1_indexOfChar.2.1 17 = .ok (.iload 4, 2) by decide +kernel) 2 rfl ?_
      refine V_icmpne 22 25 rfl (show decode M_StringLatin1_indexOfChar.2.1 19 = .ok (.if_icmp .ne 6, 3) by decide +kernel) rfl ?_ ?_
      · skip
        refine V_iload 24 rfl (show decode M_StringLatin1_indexOfChar.2.1 22 = .ok (.iload 5, 2) by decide +kernel) 3 rfl ?_
        exact V_iret rfl (by decide) (by decide) (show decode M_StringLatin1_indexOfChar.2.1 24 = .ok (.ireturn, 1) by decide +kernel)
      · skip
        refine V_iinc (fun x5_3 => [(5, vI x5_3), (0, vR h0), (3, vI x3), (4, vI x4_1)]) 28 rfl (show decode M_StringLatin1_indexOfChar.2.1 25 = .ok (.iinc 5 1, 3) by decide +kernel) 3 rfl (w := 1) rfl (by decide) (fun _ => rfl) (fun x5_3 => ?_)
        refine V_goto 7 (show decode M_StringLatin1_indexOfChar.2.1 28 = .ok (.goto (-21), 3) by decide +kernel) rfl ?_
        exact V_sub [1, 2, 3, 0] rfl (hL7 x5_3 (b && (sokv σ h0 && inb x5 (slen_ σ h0))) σ)
    · skip
      refine V_iconst 32 rfl (show decode M_StringLatin1_indexOfChar.2.1 31 = .ok (.iconst (-1), 1) by decide +kernel) (v := -1) rfl ?_
      exact V_iret rfl (by decide) (by decide) (show decode M_StringLatin1_indexOfChar.2.1 32 = .ok (.ireturn, 1) by decide +kernel)
theorem cal_StringLatin1_indexOfChar (d mc ms k n : Nat) (h1 : 1 + 1 ≤ d) (h2 : k + 0 ≤ mc) (h3 : n + 0 ≤ ms) : Cal M_StringLatin1_indexOfChar 1 0 0 4 d mc ms k n := ⟨wd_884, wd_183, by decide, h1, by decide, h2, h3⟩
abbrev M_StringLatin1_indexOf_rBIIII : MD := (⟨"java/lang/StringLatin1", "indexOf", "([BIII)I"⟩, prog_19_method_22_code, 4, (some FieldType.int))
def f_StringLatin1_indexOf_rBIIII (h0 : Nat) (x1 : Int32) (x2 : Int32) (x3 : Int32) (b : Bool) (σ : Sto) : Rs Int32 := (bd_ (f_StringLatin1_canEncode x1 b σ) (fun (r_1 : Int32) (b_1 : Bool) (σ_1 : Sto) => (if r_1 = 0 then ((-1 : Int32), b_1, σ_1) else (lt_ (mxI x2 (0 : Int32)) (fun (x2_2 : Int32) => (lt_ (mnI x3 (Int32.ofNat (slen_ σ_1 h0))) (fun (x3_3 : Int32) => (if x2_2 < x3_3 then (bd_ (f_StringLatin1_indexOfChar h0 x1 x2_2 x3_3 (b_1 && sokv σ_1 h0) σ_1) (fun (r_4 : Int32) (b_4 : Bool) (σ_4 : Sto) => (r_4, b_4, σ_4))) else ((-1 : Int32), (b_1 && sokv σ_1 h0), σ_1)))))))))
set_option maxRecDepth 100000 in
set_option maxHeartbeats 4000000 in
theorem s_StringLatin1_indexOf_rBIIII : ∀ (h0 : Nat) (x1 : Int32) (x2 : Int32) (x3 : Int32) (b : Bool) (σ : Sto), Snd M_StringLatin1_indexOf_rBIIII 2 0 0 [vR h0, vI x1, vI x2, vI x3] b σ (tI (f_StringLatin1_indexOf_rBIIII h0 x1 x2 x3 b σ).1) (f_StringLatin1_indexOf_rBIIII h0 x1 x2 x3 b σ).2.1 (f_StringLatin1_indexOf_rBIIII h0 x1 x2 x3 b σ).2.2 := by
  intro h0 x1 x2 x3 b σ
  refine Snd_of (tv := tI) (by decide) (Nat.le_of_ble_eq_true rfl) ?_
  show V M_StringLatin1_indexOf_rBIIII 2 0 0 0 0 tI (f_StringLatin1_indexOf_rBIIII h0 x1 x2 x3 b σ) 0 [(0, vR h0), (1, vI x1), (2, vI x2), (3, vI x3)] [] b σ
  unfold f_StringLatin1_indexOf_rBIIII
  refine V_iload_n 1 rfl (show decode M_StringLatin1_indexOf_rBIIII.2.1 0 = .ok (.iload_n 1, 1) by decide +kernel) 1 rfl ?_
  refine V_callS (tb := tI) (as := [vI x1]) (rest := []) (na := 1) 4 rfl (s_StringLatin1_canEncode x1 b σ) rfl rfl (Nat.le_of_ble_eq_true rfl) (cal_StringLatin1_canEncode _ _ _ _ _ (by decide) (by decide) (by decide)) (show decode M_StringLatin1_indexOf_rBIIII.2.1 1 = .ok (.invokestatic 88, 3) by decide +kernel) wd_873 wd_874 (fun r_1 b_1 σ_1 => ?_)
  show V M_StringLatin1_indexOf_rBIIII 2 0 0 0 0 tI _ 4 [(0, vR h0), (1, vI x1), (2, vI x2), (3, vI x3)] [vI r_1] b_1 σ_1
  refine V_ifne 7 9 rfl (show decode M_StringLatin1_indexOf_rBIIII.2.1 4 = .ok (.ifCond .ne 5, 3) by decide +kernel) rfl ?_ ?_
  · skip
    refine V_iconst 8 rfl (show decode M_StringLatin1_indexOf_rBIIII.2.1 7 = .ok (.iconst (-1), 1) by decide +kernel) (v := -1) rfl ?_
    exact V_iret rfl (by decide) (by decide) (show decode M_StringLatin1_indexOf_rBIIII.2.1 8 = .ok (.ireturn, 1) by decide +kernel)
  · skip
    refine V_iload_n 10 rfl (show decode M_StringLatin1_indexOf_rBIIII.2.1 9 = .ok (.iload_n 2, 1) by decide +kernel) 2 rfl ?_
    refine V_iconst 11 rfl (show decode M_StringLatin1_indexOf_rBIIII.2.1 10 = .ok (.iconst 0, 1) by decide +kernel) (v := 0) rfl ?_
    refine V_max 14 rfl (show decode M_StringLatin1_indexOf_rBIIII.2.1 11 = .ok (.invokestatic 92, 3) by decide +kernel) wd_876 wd_877 wd_186 wd_maxc (by decide) (Nat.le_of_ble_eq_true rfl) (by decide) (by decide) ?_
    refine V_istore_n (fun x2_2 => [(2, vI x2_2), (0, vR h0), (1, vI x1), (3, vI x3)]) 15 rfl (show decode M_StringLatin1_indexOf_rBIIII.2.1 14 = .ok (.istore_n 2, 1) by decide +kernel) (by decide) (fun _ => rfl) (fun x2_2 => ?_)
    refine V_iload_n 16 rfl (show decode M_StringLatin1_indexOf_rBIIII.2.1 15 = .ok (.iload_n 3, 1) by decide +kernel) 3 rfl ?_
    refine V_aload_n 17 rfl (show decode M_StringLatin1_indexOf_rBIIII.2.1 16 = .ok (.aload_n 0, 1) by decide +kernel) 1 rfl ?_
    refine V_slen 18 rfl (show decode M_StringLatin1_indexOf_rBIIII.2.1 17 = .ok (.arraylength, 1) by decide +kernel) ?_
    refine V_min 21 rfl (show decode M_StringLatin1_indexOf_rBIIII.2.1 18 = .ok (.invokestatic 38, 3) by decide +kernel) wd_879 wd_880 wd_186 wd_minc (by decide) (Nat.le_of_ble_eq_true rfl) (by decide) (by decide) ?_
    refine V_istore_n (fun x3_3 => [(3, vI x3_3), (2, vI x2_2), (0, vR h0), (1, vI x1)]) 22 rfl (show decode M_StringLatin1_indexOf_rBIIII.2.1 21 = .ok (.istore_n 3, 1) by decide +kernel) (by decide) (fun _ => rfl) (fun x3_3 => ?_)
    refine V_iload_n 23 rfl (show decode M_StringLatin1_indexOf_rBIIII.2.1 22 = .ok (.iload_n 2, 1) by decide +kernel) 1 rfl ?_
    refine V_iload_n 24 rfl (show decode M_StringLatin1_indexOf_rBIIII.2.1 23 = .ok (.iload_n 3, 1) by decide +kernel) 0 rfl ?_
    refine V_icmplt 27 29 rfl (show decode M_StringLatin1_indexOf_rBIIII.2.1 24 = .ok (.if_icmp .lt 5, 3) by decide +kernel) rfl ?_ ?_
    · skip
      refine V_aload_n 30 rfl (show decode M_StringLatin1_indexOf_rBIIII.2.1 29 = .ok (.aload_n 0, 1) by decide +kernel) 2 rfl ?_
      refine V_iload_n 31 rfl (show decode M_StringLatin1_indexOf_rBIIII.2.1 30 = .ok (.iload_n 1, 1) by decide +kernel) 3 rfl ?_
      refine V_iload_n 32 rfl (show decode M_StringLatin1_indexOf_rBIIII.2.1 31 = .ok (.iload_n 2, 1) by decide +kernel) 1 rfl ?_
      refine V_iload_n 33 rfl (show decode M_StringLatin1_indexOf_rBIIII.2.1 32 = .ok (.iload_n 3, 1) by decide +kernel) 0 rfl ?_
      refine V_callS (tb := tI) (as := [vR h0, vI x1, vI x2_2, vI x3_3]) (rest := []) (na := 4) 36 rfl (s_StringLatin1_indexOfChar h0 x1 x2_2 x3_3 (b_1 && sokv σ_1 h0) σ_1) rfl rfl (Nat.le_of_ble_eq_true rfl) (cal_StringLatin1_indexOfChar _ _ _ _ _ (by decide) (by decide) (by decide)) (show decode M_StringLatin1_indexOf_rBIIII.2.1 33 = .ok (.invokestatic 95, 3) by decide +kernel) wd_882 wd_883 (fun r_4 b_4 σ_4 => ?_)
      show V M_StringLatin1_indexOf_rBIIII 2 0 0 0 0 tI _ 36 [(3, vI x3_3), (2, vI x2_2), (0, vR h0), (1, vI x1)] [vI r_4] b_4 σ_4
      exact V_iret rfl (by decide) (by decide) (show decode M_StringLatin1_indexOf_rBIIII.2.1 36 = .ok (.ireturn, 1) by decide +kernel)
    · skip
      refine V_iconst 28 rfl (show decode M_StringLatin1_indexOf_rBIIII.2.1 27 = .ok (.iconst (-1), 1) by decide +kernel) (v := -1) rfl ?_
      exact V_iret rfl (by decide) (by decide) (show decode M_StringLatin1_indexOf_rBIIII.2.1 28 = .ok (.ireturn, 1) by decide +kernel)
theorem cal_StringLatin1_indexOf_rBIIII (d mc ms k n : Nat) (h1 : 2 + 1 ≤ d) (h2 : k + 0 ≤ mc) (h3 : n + 0 ≤ ms) : Cal M_StringLatin1_indexOf_rBIIII 2 0 0 4 d mc ms k n := ⟨wd_872, wd_183, by decide, h1, by decide, h2, h3⟩
abbrev M_String_indexOf_III : MD := (⟨"java/lang/String", "indexOf", "(II)I"⟩, prog_18_method_80_code, 3, (some FieldType.int))
def f_String_indexOf_III (h0 : Nat) (x1 : Int32) (x2 : Int32) (b : Bool) (σ : Sto) : Rs Int32 := (bd_ (f_String_isLatin1 h0 (b && sok σ h0) σ) (fun (r_1 : Int32) (b_1 : Bool) (σ_1 : Sto) => (if r_1 = 0 then (0, false, σ_1) else (bd_ (f_String_length h0 ((b_1 && sok σ_1 h0) && sok σ_1 h0) σ_1) (fun (r_2 : Int32) (b_2 : Bool) (σ_2 : Sto) => (bd_ (f_StringLatin1_indexOf_rBIIII (sval σ_1 h0) x1 x2 r_2 b_2 σ_2) (fun (r_3 : Int32) (b_3 : Bool) (σ_3 : Sto) => (r_3, b_3, σ_3))))))))
set_option maxRecDepth 100000 in
set_option maxHeartbeats 4000000 in
theorem s_String_indexOf_III : ∀ (h0 : Nat) (x1 : Int32) (x2 : Int32) (b : Bool) (σ : Sto), Snd M_String_indexOf_III 3 0 0 [vR h0, vI x1, vI x2] b σ (tI (f_String_indexOf_III h0 x1 x2 b σ).1) (f_String_indexOf_III h0 x1 x2 b σ).2.1 (f_String_indexOf_III h0 x1 x2 b σ).2.2 := by
  intro h0 x1 x2 b σ
  refine Snd_of (tv := tI) (by decide) (Nat.le_of_ble_eq_true rfl) ?_
  show V M_String_indexOf_III 3 0 0 0 0 tI (f_String_indexOf_III h0 x1 x2 b σ) 0 [(0, vR h0), (1, vI x1), (2, vI x2)] [] b σ
  unfold f_String_indexOf_III
  refine V_aload_n 1 rfl (show decode M_String_indexOf_III.2.1 0 = .ok (.aload_n 0, 1) by decide +kernel) 0 rfl ?_
  refine V_callX (tb := tI) (as := []) (rest := []) (na := 0) 4 rfl (s_String_isLatin1 h0 (b && sok σ h0) σ) rfl rfl (Nat.le_of_ble_eq_true rfl) (cal_String_isLatin1 _ _ _ _ _ (by decide) (by decide) (by decide)) (show decode M_String_indexOf_III.2.1 1 = .ok (.invokevirtual 492, 3) by decide +kernel) wd_795 wd_796 wd_797 (fun r_1 b_1 σ_1 => ?_)
  show V M_String_indexOf_III 3 0 0 0 0 tI _ 4 [(0, vR h0), (1, vI x1), (2, vI x2)] [vI r_1] b_1 σ_1
  refine V_ifeq 7 23 rfl (show decode M_String_indexOf_III.2.1 4 = .ok (.ifCond .eq 19, 3) by decide +kernel) rfl ?_ ?_
  · skip
    exact V_bad
  · skip
    refine V_aload_n 8 rfl (show decode M_String_indexOf_III.2.1 7 = .ok (.aload_n 0, 1) by decide +kernel) 0 rfl ?_
    refine V_sval 11 rfl (show decode M_String_indexOf_III.2.1 8 = .ok (.getfield 9, 3) by decide +kernel) wd_2080 ?_
    refine V_iload_n 12 rfl (show decode M_String_indexOf_III.2.1 11 = .ok (.iload_n 1, 1) by decide +kernel) 1 rfl ?_
    refine V_iload_n 13 rfl (show decode M_String_indexOf_III.2.1 12 = .ok (.iload_n 2, 1) by decide +kernel) 2 rfl ?_
    refine V_aload_n 14 rfl (show decode M_String_indexOf_III.2.1 13 = .ok (.aload_n 0, 1) by decide +kernel) 0 rfl ?_
    refine V_callX (tb := tI) (as := []) (rest := [vI x2, vI x1, vR (sval σ_1 h0)]) (na := 0) 17 rfl (s_String_length h0 ((b_1 && sok σ_1 h0) && sok σ_1 h0) σ_1) rfl rfl (Nat.le_of_ble_eq_true rfl) (cal_String_length _ _ _ _ _ (by decide) (by decide) (by decide)) (show decode M_String_indexOf_III.2.1 14 = .ok (.invokevirtual 505, 3) by decide +kernel) wd_862 wd_863 wd_864 (fun r_2 b_2 σ_2 => ?_)
    show V M_String_indexOf_III 3 0 0 0 0 tI _ 17 [(0, vR h0), (1, vI x1), (2, vI x2)] [vI r_2, vI x2, vI x1, vR (sval σ_1 h0)] b_2 σ_2
    refine V_callS (tb := tI) (as := [vR (sval σ_1 h0), vI x1, vI x2, vI r_2]) (rest := []) (na := 4) 20 rfl (s_StringLatin1_indexOf_rBIIII (sval σ_1 h0) x1 x2 r_2 b_2 σ_2) rfl rfl (Nat.le_of_ble_eq_true rfl) (cal_StringLatin1_indexOf_rBIIII _ _ _ _ _ (by decide) (by decide) (by decide)) (show decode M_String_indexOf_III.2.1 17 = .ok (.invokestatic 637, 3) by decide +kernel) wd_870 wd_871 (fun r_3 b_3 σ_3 => ?_)
    show V M_String_indexOf_III 3 0 0 0 0 tI _ 20 [(0, vR h0), (1, vI x1), (2, vI x2)] [vI r_3] b_3 σ_3
    refine V_goto 36 (show decode M_String_indexOf_III.2.1 20 = .ok (.goto 16, 3) by decide +kernel) rfl ?_
    exact V_iret rfl (by decide) (by decide) (show decode M_String_indexOf_III.2.1 36 = .ok (.ireturn, 1) by decide +kernel)
theorem cal_String_indexOf_III (d mc ms k n : Nat) (h1 : 3 + 1 ≤ d) (h2 : k + 0 ≤ mc) (h3 : n + 0 ≤ ms) : Cal M_String_indexOf_III 3 0 0 2 d mc ms k n := ⟨wd_861, wd_182, by decide, h1, by decide, h2, h3⟩
abbrev M_String_indexOf_II : MD := (⟨"java/lang/String", "indexOf", "(I)I"⟩, prog_18_method_79_code, 2, (some FieldType.int))
def f_String_indexOf_II (h0 : Nat) (x1 : Int32) (b : Bool) (σ : Sto) : Rs Int32 := (bd_ (f_String_indexOf_III h0 x1 (0 : Int32) (b && sok σ h0) σ) (fun (r_1 : Int32) (b_1 : Bool) (σ_1 : Sto) => (r_1, b_1, σ_1)))
set_option maxRecDepth 100000 in
set_option maxHeartbeats 4000000 in
theorem s_String_indexOf_II : ∀ (h0 : Nat) (x1 : Int32) (b : Bool) (σ : Sto), Snd M_String_indexOf_II 4 0 0 [vR h0, vI x1] b σ (tI (f_String_indexOf_II h0 x1 b σ).1) (f_String_indexOf_II h0 x1 b σ).2.1 (f_String_indexOf_II h0 x1 b σ).2.2 := by
  intro h0 x1 b σ
  refine Snd_of (tv := tI) (by decide) (Nat.le_of_ble_eq_true rfl) ?_
  show V M_String_indexOf_II 4 0 0 0 0 tI (f_String_indexOf_II h0 x1 b σ) 0 [(0, vR h0), (1, vI x1)] [] b σ
  unfold f_String_indexOf_II
  refine V_aload_n 1 rfl (show decode M_String_indexOf_II.2.1 0 = .ok (.aload_n 0, 1) by decide +kernel) 0 rfl ?_
  refine V_iload_n 2 rfl (show decode M_String_indexOf_II.2.1 1 = .ok (.iload_n 1, 1) by decide +kernel) 1 rfl ?_
  refine V_iconst 3 rfl (show decode M_String_indexOf_II.2.1 2 = .ok (.iconst 0, 1) by decide +kernel) (v := 0) rfl ?_
  refine V_callX (tb := tI) (as := [vI x1, vI (0 : Int32)]) (rest := []) (na := 2) 6 rfl (s_String_indexOf_III h0 x1 (0 : Int32) (b && sok σ h0) σ) rfl rfl (Nat.le_of_ble_eq_true rfl) (cal_String_indexOf_III _ _ _ _ _ (by decide) (by decide) (by decide)) (show decode M_String_indexOf_II.2.1 3 = .ok (.invokevirtual 633, 3) by decide +kernel) wd_858 wd_859 wd_860 (fun r_1 b_1 σ_1 => ?_)
  show V M_String_indexOf_II 4 0 0 0 0 tI _ 6 [(0, vR h0), (1, vI x1)] [vI r_1] b_1 σ_1
  exact V_iret rfl (by decide) (by decide) (show decode M_String_indexOf_II.2.1 6 = .ok (.ireturn, 1) by decide +kernel)
theorem cal_String_indexOf_II (d mc ms k n : Nat) (h1 : 4 + 1 ≤ d) (h2 : k + 0 ≤ mc) (h3 : n + 0 ≤ ms) : Cal M_String_indexOf_II 4 0 0 1 d mc ms k n := ⟨wd_857, wd_182, by decide, h1, by decide, h2, h3⟩
abbrev M_Tape_nameHere : MD := (⟨"LongTrail$Tape", "nameHere", "()I"⟩, prog_9_method_19_code, 1, (some FieldType.int))
def f_Tape_nameHere (h0 : Nat) (b : Bool) (σ : Sto) : Rs Int32 := (lt_ (fun (b : Bool) (σ : Sto) => ((-1 : Int32), b, σ)) (fun J44 => (if (SI σ h0 4) = (1 : Int32) then (if ((SI σ h0 3) - (SI σ h0 2)) = (1 : Int32) then (bd_ (f_Tape_namesOf (SI σ h0 7) ((((b && cK σ h0 8) && cK σ h0 8) && cK σ h0 8) && cK σ h0 8) σ) (fun (r_1 : Nat) (b_1 : Bool) (σ_1 : Sto) => (bd_ (f_String_indexOf_II r_1 ((((SI σ_1 (SR σ_1 h0 0) (ix (SI σ_1 h0 2)))).toUInt32 % 65536).toInt32) ((((b_1 && cK σ_1 h0 8) && cK σ_1 h0 8) && cA σ_1 (SR σ_1 h0 0) 22 (SI σ_1 h0 2)) && sok σ_1 r_1) σ_1) (fun (r_2 : Int32) (b_2 : Bool) (σ_2 : Sto) => (r_2, b_2, σ_2))))) else (J44 (((b && cK σ h0 8) && cK σ h0 8) && cK σ h0 8) σ)) else (J44 (b && cK σ h0 8) σ))))
set_option maxRecDepth 100000 in
set_option maxHeartbeats 4000000 in
theorem s_Tape_nameHere : ∀ (h0 : Nat) (b : Bool) (σ : Sto), Snd M_Tape_nameHere 5 0 0 [vR h0] b σ (tI (f_Tape_nameHere h0 b σ).1) (f_Tape_nameHere h0 b σ).2.1 (f_Tape_nameHere h0 b σ).2.2 := by
  intro h0 b σ
  refine Snd_of (tv := tI) (by decide) (Nat.le_of_ble_eq_true rfl) ?_
  show V M_Tape_nameHere 5 0 0 0 0 tI (f_Tape_nameHere h0 b σ) 0 [(0, vR h0)] [] b σ
  unfold f_Tape_nameHere
  refine V_aload_n 1 rfl (show decode M_Tape_nameHere.2.1 0 = .ok (.aload_n 0, 1) by decide +kernel) 0 rfl ?_
  refine V_get (j := 4) (v := vI (SI σ h0 4)) 4 rfl ck_Tape (by decide) (by decide) (show decode M_Tape_nameHere.2.1 1 = .ok (.getfield 33, 3) by decide +kernel) wd_545 rfl ?_
  refine V_iconst 5 rfl (show decode M_Tape_nameHere.2.1 4 = .ok (.iconst 1, 1) by decide +kernel) (v := 1) rfl ?_
  refine V_jn (fun (J44 : Bool → Sto → Rs Int32) => ∀ (b : Bool) (σ : Sto), V M_Tape_nameHere 5 0 0 0 0 tI (J44 b σ) 44 [] [] b σ) ?_ (fun J44 hJ44 => ?_)
  · intro b σ
    refine V_iconst 45 rfl (show decode M_Tape_nameHere.2.1 44 = .ok (.iconst (-1), 1) by decide +kernel) (v := -1) rfl ?_
    exact V_iret rfl (by decide) (by decide) (show decode M_Tape_nameHere.2.1 45 = .ok (.ireturn, 1) by decide +kernel)
  · skip
    refine V_icmpne 8 44 rfl (show decode M_Tape_nameHere.2.1 5 = .ok (.if_icmp .ne 39, 3) by decide +kernel) rfl ?_ ?_
    · skip
      refine V_aload_n 9 rfl (show decode M_Tape_nameHere.2.1 8 = .ok (.aload_n 0, 1) by decide +kernel) 0 rfl ?_
      refine V_get (j := 3) (v := vI (SI σ h0 3)) 12 rfl ck_Tape (by decide) (by decide) (show decode M_Tape_nameHere.2.1 9 = .ok (.getfield 30, 3) by decide +kernel) wd_544 rfl ?_
      refine V_aload_n 13 rfl (show decode M_Tape_nameHere.2.1 12 = .ok (.aload_n 0, 1) by decide +kernel) 0 rfl ?_
      refine V_get (j := 2) (v := vI (SI σ h0 2)) 16 rfl ck_Tape (by decide) (by decide) (show decode M_Tape_nameHere.2.1 13 = .ok (.getfield 63, 3) by decide +kernel) wd_543 rfl ?_
      refine V_isub 17 rfl (show decode M_Tape_nameHere.2.1 16 = .ok (.isub, 1) by decide +kernel) ?_
      refine V_iconst 18 rfl (show decode M_Tape_nameHere.2.1 17 = .ok (.iconst 1, 1) by decide +kernel) (v := 1) rfl ?_
      refine V_icmpne 21 44 rfl (show decode M_Tape_nameHere.2.1 18 = .ok (.if_icmp .ne 26, 3) by decide +kernel) rfl ?_ ?_
      · skip
        refine V_aload_n 22 rfl (show decode M_Tape_nameHere.2.1 21 = .ok (.aload_n 0, 1) by decide +kernel) 0 rfl ?_
        refine V_get (j := 7) (v := vI (SI σ h0 7)) 25 rfl ck_Tape (by decide) (by decide) (show decode M_Tape_nameHere.2.1 22 = .ok (.getfield 51, 3) by decide +kernel) wd_548 rfl ?_
        refine V_callS (tb := tR) (as := [vI (SI σ h0 7)]) (rest := []) (na := 1) 28 rfl (s_Tape_namesOf (SI σ h0 7) ((((b && cK σ h0 8) && cK σ h0 8) && cK σ h0 8) && cK σ h0 8) σ) rfl rfl (Nat.le_of_ble_eq_true rfl) (cal_Tape_namesOf _ _ _ _ _ (by decide) (by decide) (by decide)) (show decode M_Tape_nameHere.2.1 25 = .ok (.invokestatic 121, 3) by decide +kernel) wd_847 wd_848 (fun r_1 b_1 σ_1 => ?_)
        show V M_Tape_nameHere 5 0 0 0 0 tI _ 28 [(0, vR h0)] [vR r_1] b_1 σ_1
        refine V_aload_n 29 rfl (show decode M_Tape_nameHere.2.1 28 = .ok (.aload_n 0, 1) by decide +kernel) 0 rfl ?_
        refine V_get (j := 0) (v := vR (SR σ_1 h0 0)) 32 rfl ck_Tape (by decide) (by decide) (show decode M_Tape_nameHere.2.1 29 = .ok (.getfield 9, 3) by decide +kernel) wd_540 rfl ?_
        refine V_aload_n 33 rfl (show decode M_Tape_nameHere.2.1 32 = .ok (.aload_n 0, 1) by decide +kernel) 0 rfl ?_
        refine V_get (j := 2) (v := vI (SI σ_1 h0 2)) 36 rfl ck_Tape (by decide) (by decide) (show decode M_Tape_nameHere.2.1 33 = .ok (.getfield 63, 3) by decide +kernel) wd_543 rfl ?_
        refine V_ald_byte 37 rfl (show decode M_Tape_nameHere.2.1 36 = .ok (.baload, 1) by decide +kernel) ?_
        refine V_i2c 38 rfl (show decode M_Tape_nameHere.2.1 37 = .ok (.i2c, 1) by decide +kernel) ?_
        refine V_callX (tb := tI) (as := [vI ((((SI σ_1 (SR σ_1 h0 0) (ix (SI σ_1 h0 2)))).toUInt32 % 65536).toInt32)]) (rest := []) (na := 1) 41 rfl (s_String_indexOf_II r_1 ((((SI σ_1 (SR σ_1 h0 0) (ix (SI σ_1 h0 2)))).toUInt32 % 65536).toInt32) ((((b_1 && cK σ_1 h0 8) && cK σ_1 h0 8) && cA σ_1 (SR σ_1 h0 0) 22 (SI σ_1 h0 2)) && sok σ_1 r_1) σ_1) rfl rfl (Nat.le_of_ble_eq_true rfl) (cal_String_indexOf_II _ _ _ _ _ (by decide) (by decide) (by decide)) (show decode M_Tape_nameHere.2.1 38 = .ok (.invokevirtual 125, 3) by decide +kernel) wd_854 wd_855 wd_856 (fun r_2 b_2 σ_2 => ?_)
        show V M_Tape_nameHere 5 0 0 0 0 tI _ 41 [(0, vR h0)] [vI r_2] b_2 σ_2
        refine V_goto 45 (show decode M_Tape_nameHere.2.1 41 = .ok (.goto 4, 3) by decide +kernel) rfl ?_
        exact V_iret rfl (by decide) (by decide) (show decode M_Tape_nameHere.2.1 45 = .ok (.ireturn, 1) by decide +kernel)
      · skip
        exact V_sub [] rfl (hJ44 (((b && cK σ h0 8) && cK σ h0 8) && cK σ h0 8) σ)
    · skip
      exact V_sub [] rfl (hJ44 (b && cK σ h0 8) σ)
theorem cal_Tape_nameHere (d mc ms k n : Nat) (h1 : 5 + 1 ≤ d) (h2 : k + 0 ≤ mc) (h3 : n + 0 ≤ ms) : Cal M_Tape_nameHere 5 0 0 0 d mc ms k n := ⟨wd_846, wd_179, by decide, h1, by decide, h2, h3⟩
abbrev M_Tape_readClosing : MD := (⟨"LongTrail$Tape", "readClosing", "()V"⟩, prog_9_method_18_code, 1, (none : Option FieldType))
def f_Tape_readClosing (h0 : Nat) (b : Bool) (σ : Sto) : Rs Unit := (lt_ (fun (b : Bool) (σ : Sto) => (bd_ (f_Tape_noteFault h0 (b && cK σ h0 8) σ) (fun (r_1 : Unit) (b_1 : Bool) (σ_1 : Sto) => ((), b_1, σ_1)))) (fun J23 => (if (SI σ h0 5) = (41 : Int32) then (if (SI σ h0 11) < 0 then (bd_ (f_Tape_nextWord h0 (((b && cK σ h0 8) && cK σ h0 8) && cK σ h0 8) σ) (fun (r_2 : Unit) (b_2 : Bool) (σ_2 : Sto) => ((), b_2, σ_2))) else (J23 ((b && cK σ h0 8) && cK σ h0 8) σ)) else (J23 (b && cK σ h0 8) σ))))
set_option maxRecDepth 100000 in
set_option maxHeartbeats 4000000 in
theorem s_Tape_readClosing : ∀ (h0 : Nat) (b : Bool) (σ : Sto), Snd M_Tape_readClosing 4 0 0 [vR h0] b σ (tU (f_Tape_readClosing h0 b σ).1) (f_Tape_readClosing h0 b σ).2.1 (f_Tape_readClosing h0 b σ).2.2 := by
  intro h0 b σ
  refine Snd_of (tv := tU) (by decide) (Nat.le_of_ble_eq_true rfl) ?_
  show V M_Tape_readClosing 4 0 0 0 0 tU (f_Tape_readClosing h0 b σ) 0 [(0, vR h0)] [] b σ
  unfold f_Tape_readClosing
  refine V_aload_n 1 rfl (show decode M_Tape_readClosing.2.1 0 = .ok (.aload_n 0, 1) by decide +kernel) 0 rfl ?_
  refine V_get (j := 5) (v := vI (SI σ h0 5)) 4 rfl ck_Tape (by decide) (by decide) (show decode M_Tape_readClosing.2.1 1 = .ok (.getfield 70, 3) by decide +kernel) wd_546 rfl ?_
  refine V_bipush 6 rfl (show decode M_Tape_readClosing.2.1 4 = .ok (.bipush 41, 2) by decide +kernel) (v := 41) rfl ?_
  refine V_jn (fun (J23 : Bool → Sto → Rs Unit) => ∀ (b : Bool) (σ : Sto), V M_Tape_readClosing 4 0 0 0 0 tU (J23 b σ) 23 [(0, vR h0)] [] b σ) ?_ (fun J23 hJ23 => ?_)
  · intro b σ
    refine V_aload_n 24 rfl (show decode M_Tape_readClosing.2.1 23 = .ok (.aload_n 0, 1) by decide +kernel) 0 rfl ?_
    refine V_callV (tb := tU) (as := []) (rest := []) (na := 0) 27 rfl ck_Tape (by decide) (s_Tape_noteFault h0 (b && cK σ h0 8) σ) rfl rfl (Nat.le_of_ble_eq_true rfl) (cal_Tape_noteFault _ _ _ _ _ (by decide) (by decide) (by decide)) (show decode M_Tape_readClosing.2.1 24 = .ok (.invokevirtual 46, 3) by decide +kernel) wd_831 wd_833 wd_23 (fun r_1 b_1 σ_1 => ?_)
    show V M_Tape_readClosing 4 0 0 0 0 tU _ 27 [(0, vR h0)] [] b_1 σ_1
    exact V_vret rfl (by decide) (by decide) (show decode M_Tape_readClosing.2.1 27 = .ok (.return_, 1) by decide +kernel)
  · skip
    refine V_icmpne 9 23 rfl (show decode M_Tape_readClosing.2.1 6 = .ok (.if_icmp .ne 17, 3) by decide +kernel) rfl ?_ ?_
    · skip
      refine V_aload_n 10 rfl (show decode M_Tape_readClosing.2.1 9 = .ok (.aload_n 0, 1) by decide +kernel) 0 rfl ?_
      refine V_get (j := 11) (v := vI (SI σ h0 11)) 13 rfl ck_Tape (by decide) (by decide) (show decode M_Tape_readClosing.2.1 10 = .ok (.getfield 21, 3) by decide +kernel) wd_552 rfl ?_
      refine V_ifge 16 23 rfl (show decode M_Tape_readClosing.2.1 13 = .ok (.ifCond .ge 10, 3) by decide +kernel) rfl ?_ ?_
      · skip
        refine V_aload_n 17 rfl (show decode M_Tape_readClosing.2.1 16 = .ok (.aload_n 0, 1) by decide +kernel) 0 rfl ?_
        refine V_callV (tb := tU) (as := []) (rest := []) (na := 0) 20 rfl ck_Tape (by decide) (s_Tape_nextWord h0 (((b && cK σ h0 8) && cK σ h0 8) && cK σ h0 8) σ) rfl rfl (Nat.le_of_ble_eq_true rfl) (cal_Tape_nextWord _ _ _ _ _ (by decide) (by decide) (by decide)) (show decode M_Tape_readClosing.2.1 17 = .ok (.invokevirtual 36, 3) by decide +kernel) wd_764 wd_766 wd_18 (fun r_2 b_2 σ_2 => ?_)
        show V M_Tape_readClosing 4 0 0 0 0 tU _ 20 [(0, vR h0)] [] b_2 σ_2
        refine V_goto 27 (show decode M_Tape_readClosing.2.1 20 = .ok (.goto 7, 3) by decide +kernel) rfl ?_
        exact V_vret rfl (by decide) (by decide) (show decode M_Tape_readClosing.2.1 27 = .ok (.return_, 1) by decide +kernel)
      · skip
        exact V_sub [0] rfl (hJ23 ((b && cK σ h0 8) && cK σ h0 8) σ)
    · skip
      exact V_sub [0] rfl (hJ23 (b && cK σ h0 8) σ)
theorem cal_Tape_readClosing (d mc ms k n : Nat) (h1 : 4 + 1 ≤ d) (h2 : k + 0 ≤ mc) (h3 : n + 0 ≤ ms) : Cal M_Tape_readClosing 4 0 0 0 d mc ms k n := ⟨wd_931, wd_179, by decide, h1, by decide, h2, h3⟩
abbrev M_Tape_readLevel : MD := (⟨"LongTrail$Tape", "readLevel", "(III)V"⟩, prog_9_method_15_code, 6, (none : Option FieldType))
abbrev M_Tape_readPart : MD := (⟨"LongTrail$Tape", "readPart", "(II)V"⟩, prog_9_method_17_code, 4, (none : Option FieldType))
theorem calg_Tape_readLevel (d' d mc ms k n : Nat) (h1 : d' + 1 ≤ d) (h2 : k + 0 ≤ mc) (h3 : n + 0 ≤ ms) : Cal M_Tape_readLevel d' 0 0 3 d mc ms k n := ⟨wd_838, wd_179, by decide, h1, by decide, h2, h3⟩
theorem calg_Tape_readPart (d' d mc ms k n : Nat) (h1 : d' + 1 ≤ d) (h2 : k + 0 ≤ mc) (h3 : n + 0 ≤ ms) : Cal M_Tape_readPart d' 0 0 2 d mc ms k n := ⟨wd_842, wd_179, by decide, h1, by decide, h2, h3⟩
def b_Tape_readLevel_32 (h0 : Nat) (x1 : Int32) (x2 : Int32) (x3 : Int32) (g_Tape_readLevel : Nat → Int32 → Int32 → Int32 → Bool → Sto → Rs Unit) (L32 : Int32 → Bool → Sto → Rs Unit) (x4 : Int32) (b : Bool) (σ : Sto) : Rs Unit := (if x4 < (96 : Int32) then (if (SI σ h0 11) < 0 then (bd_ (f_Tape_levelOf (SI σ h0 5) ((b && cK σ h0 8) && cK σ h0 8) σ) (fun (r_4 : Int32) (b_4 : Bool) (σ_4 : Sto) => (if r_4 = x1 then (lt_ (SI σ_4 h0 5) (fun (x5_5 : Int32) => (bd_ (f_Tape_nextWord h0 ((b_4 && cK σ_4 h0 8) && cK σ_4 h0 8) σ_4) (fun (r_6 : Unit) (b_6 : Bool) (σ_6 : Sto) => (bd_ (g_Tape_readLevel h0 (x1 + (1 : Int32)) x2 x3 (b_6 && cK σ_6 h0 8) σ_6) (fun (r_7 : Unit) (b_7 : Bool) (σ_7 : Sto) => (bd_ (f_Tape_addStep h0 (-x5_5) (b_7 && cK σ_7 h0 8) σ_7) (fun (r_8 : Unit) (b_8 : Bool) (σ_8 : Sto) => (if x1 = (2 : Int32) then ((), b_8, σ_8) else (lt_ (x4 + (1 : Int32)) (fun (x4_9 : Int32) => (L32 x4_9 b_8 σ_8)))))))))))) else ((), b_4, σ_4)))) else ((), (b && cK σ h0 8), σ)) else ((), b, σ))
def fb_Tape_readLevel (g_Tape_readLevel : Nat → Int32 → Int32 → Int32 → Bool → Sto → Rs Unit) (g_Tape_readPart : Nat → Int32 → Int32 → Bool → Sto → Rs Unit) (h0 : Nat) (x1 : Int32) (x2 : Int32) (x3 : Int32) (b : Bool) (σ : Sto) : Rs Unit := (if (SI σ h0 11) < 0 then (if (4 : Int32) < x1 then (bd_ (g_Tape_readPart h0 x2 x3 ((b && cK σ h0 8) && cK σ h0 8) σ) (fun (r_1 : Unit) (b_1 : Bool) (σ_1 : Sto) => ((), b_1, σ_1))) else (bd_ (g_Tape_readLevel h0 (x1 + (1 : Int32)) x2 x3 ((b && cK σ h0 8) && cK σ h0 8) σ) (fun (r_2 : Unit) (b_2 : Bool) (σ_2 : Sto) => (lt_ (0 : Int32) (fun (x4_3 : Int32) => (lp_ (b_Tape_readLevel_32 h0 x1 x2 x3 g_Tape_readLevel) (fun (x4 : Int32) (b : Bool) (σ : Sto) => ((), false, σ)) fuel_ x4_3 b_2 σ_2)))))) else ((), (b && cK σ h0 8), σ))
set_option maxRecDepth 100000 in
set_option maxHeartbeats 4000000 in
theorem sb_Tape_readLevel (D : Nat) (g_Tape_readLevel : Nat → Int32 → Int32 → Int32 → Bool → Sto → Rs Unit) (g_Tape_readPart : Nat → Int32 → Int32 → Bool → Sto → Rs Unit) (hg_Tape_readLevel : ∀ (h0 : Nat) (x1 : Int32) (x2 : Int32) (x3 : Int32) (b : Bool) (σ : Sto), Snd M_Tape_readLevel (6 + D) 0 0 [vR h0, vI x1, vI x2, vI x3] b σ (tU (g_Tape_readLevel h0 x1 x2 x3 b σ).1) (g_Tape_readLevel h0 x1 x2 x3 b σ).2.1 (g_Tape_readLevel h0 x1 x2 x3 b σ).2.2) (hg_Tape_readPart : ∀ (h0 : Nat) (x1 : Int32) (x2 : Int32) (b : Bool) (σ : Sto), Snd M_Tape_readPart (6 + D) 0 0 [vR h0, vI x1, vI x2] b σ (tU (g_Tape_readPart h0 x1 x2 b σ).1) (g_Tape_readPart h0 x1 x2 b σ).2.1 (g_Tape_readPart h0 x1 x2 b σ).2.2) : ∀ (h0 : Nat) (x1 : Int32) (x2 : Int32) (x3 : Int32) (b : Bool) (σ : Sto), Snd M_Tape_readLevel (6 + (D + 1)) 0 0 [vR h0, vI x1, vI x2, vI x3] b σ (tU (fb_Tape_readLevel g_Tape_readLevel g_Tape_readPart h0 x1 x2 x3 b σ).1) (fb_Tape_readLevel g_Tape_readLevel g_Tape_readPart h0 x1 x2 x3 b σ).2.1 (fb_Tape_readLevel g_Tape_readLevel g_Tape_readPart h0 x1 x2 x3 b σ).2.2 := by
  intro h0 x1 x2 x3 b σ
  refine Snd_of (tv := tU) (by decide) (Nat.le_of_ble_eq_true rfl) ?_
  show V M_Tape_readLevel (6 + (D + 1)) 0 0 0 0 tU (fb_Tape_readLevel g_Tape_readLevel g_Tape_readPart h0 x1 x2 x3 b σ) 0 [(0, vR h0), (1, vI x1), (2, vI x2), (3, vI x3)] [] b σ
  unfold fb_Tape_readLevel
  refine V_aload_n 1 rfl (show decode M_Tape_readLevel.2.1 0 = .ok (.aload_n 0, 1) by decide +kernel) 0 rfl ?_
  refine V_get (j := 11) (v := vI (SI σ h0 11)) 4 rfl ck_Tape (by decide) (by decide) (show decode M_Tape_readLevel.2.1 1 = .ok (.getfield 21, 3) by decide +kernel) wd_552 rfl ?_
  refine V_iflt 7 8 rfl (show decode M_Tape_readLevel.2.1 4 = .ok (.ifCond .lt 4, 3) by decide +kernel) rfl ?_ ?_
  · skip
    refine V_iload_n 9 rfl (show decode M_Tape_readLevel.2.1 8 = .ok (.iload_n 1, 1) by decide +kernel) 1 rfl ?_
    refine V_iconst 10 rfl (show decode M_Tape_readLevel.2.1 9 = .ok (.iconst 4, 1) by decide +kernel) (v := 4) rfl ?_
    refine V_icmple 13 20 rfl (show decode M_Tape_readLevel.2.1 10 = .ok (.if_icmp .le 10, 3) by decide +kernel) rfl ?_ ?_
    · skip
      refine V_aload_n 14 rfl (show decode M_Tape_readLevel.2.1 13 = .ok (.aload_n 0, 1) by decide +kernel) 0 rfl ?_
      refine V_iload_n 15 rfl (show decode M_Tape_readLevel.2.1 14 = .ok (.iload_n 2, 1) by decide +kernel) 2 rfl ?_
      refine V_iload_n 16 rfl (show decode M_Tape_readLevel.2.1 15 = .ok (.iload_n 3, 1) by decide +kernel) 3 rfl ?_
      refine V_callV (tb := tU) (as := [vI x2, vI x3]) (rest := []) (na := 2) 19 rfl ck_Tape (by decide) (hg_Tape_readPart h0 x2 x3 ((b && cK σ h0 8) && cK σ h0 8) σ) rfl rfl (Nat.le_of_ble_eq_true rfl) (calg_Tape_readPart _ _ _ _ _ _ (by omega) (by omega) (by omega)) (show decode M_Tape_readLevel.2.1 16 = .ok (.invokevirtual 103, 3) by decide +kernel) wd_839 wd_841 wd_25 (fun r_1 b_1 σ_1 => ?_)
      show V M_Tape_readLevel (6 + (D + 1)) 0 0 0 0 tU _ 19 [(0, vR h0), (1, vI x1), (2, vI x2), (3, vI x3)] [] b_1 σ_1
      exact V_vret rfl (by decide) (by decide) (show decode M_Tape_readLevel.2.1 19 = .ok (.return_, 1) by decide +kernel)
    · skip
      refine V_aload_n 21 rfl (show decode M_Tape_readLevel.2.1 20 = .ok (.aload_n 0, 1) by decide +kernel) 0 rfl ?_
      refine V_iload_n 22 rfl (show decode M_Tape_readLevel.2.1 21 = .ok (.iload_n 1, 1) by decide +kernel) 1 rfl ?_
      refine V_iconst 23 rfl (show decode M_Tape_readLevel.2.1 22 = .ok (.iconst 1, 1) by decide +kernel) (v := 1) rfl ?_
      refine V_iadd 24 rfl (show decode M_Tape_readLevel.2.1 23 = .ok (.iadd, 1) by decide +kernel) ?_
      refine V_iload_n 25 rfl (show decode M_Tape_readLevel.2.1 24 = .ok (.iload_n 2, 1) by decide +kernel) 2 rfl ?_
      refine V_iload_n 26 rfl (show decode M_Tape_readLevel.2.1 25 = .ok (.iload_n 3, 1) by decide +kernel) 3 rfl ?_
      refine V_callV (tb := tU) (as := [vI (x1 + (1 : Int32)), vI x2, vI x3]) (rest := []) (na := 3) 29 rfl ck_Tape (by decide) (hg_Tape_readLevel h0 (x1 + (1 : Int32)) x2 x3 ((b && cK σ h0 8) && cK σ h0 8) σ) rfl rfl (Nat.le_of_ble_eq_true rfl) (calg_Tape_readLevel _ _ _ _ _ _ (by omega) (by omega) (by omega)) (show decode M_Tape_readLevel.2.1 26 = .ok (.invokevirtual 42, 3) by decide +kernel) wd_835 wd_837 wd_24 (fun r_2 b_2 σ_2 => ?_)
      show V M_Tape_readLevel (6 + (D + 1)) 0 0 0 0 tU _ 29 [(0, vR h0), (1, vI x1), (2, vI x2), (3, vI x3)] [] b_2 σ_2
      refine V_iconst 30 rfl (show decode M_Tape_readLevel.2.1 29 = .ok (.iconst 0, 1) by decide +kernel) (v := 0) rfl ?_
      refine V_istore (fun x4_3 => [(4, vI x4_3), (0, vR h0), (1, vI x1), (2, vI x2), (3, vI x3)]) 32 rfl (show decode M_Tape_readLevel.2.1 30 = .ok (.istore 4, 2) by decide +kernel) (by decide) (fun _ => rfl) (fun x4_3 => ?_)
      refine V_sub [1, 2, 3, 4, 0] rfl ?_
      refine lp_P (fun (L32 : Int32 → Bool → Sto → Rs Unit) => ∀ (x4 : Int32) (b : Bool) (σ : Sto), V M_Tape_readLevel (6 + (D + 1)) 0 0 0 0 tU (L32 x4 b σ) 32 [(0, vR h0), (1, vI x1), (2, vI x2), (3, vI x3), (4, vI x4)] [] b σ) ?_ ?_ fuel_ x4_3 b_2 σ_2
      · intro x4 b σ; exact V_bad
      · intro L32 hL32 x4 b σ
        unfold b_Tape_readLevel_32
        refine V_iload 34 rfl (show decode M_Tape_readLevel.2.1 32 = .ok (.iload 4, 2) by decide +kernel) 4 rfl ?_
        refine V_bipush 36 rfl (show decode M_Tape_readLevel.2.1 34 = .ok (.bipush 96, 2) by decide +kernel) (v := 96) rfl ?_
        refine V_icmpge 39 95 rfl (show decode M_Tape_readLevel.2.1 36 = .ok (.if_icmp .ge 59, 3) by decide +kernel) rfl ?_ ?_
        · skip
          refine V_aload_n 40 rfl (show decode M_Tape_readLevel.2.1 39 = .ok (.aload_n 0, 1) by decide +kernel) 0 rfl ?_
          refine V_get (j := 11) (v := vI (SI σ h0 11)) 43 rfl ck_Tape (by decide) (by decide) (show decode M_Tape_readLevel.2.1 40 = .ok (.getfield 21, 3) by decide +kernel) wd_552 rfl ?_
          refine V_ifge 46 95 rfl (show decode M_Tape_readLevel.2.1 43 = .ok (.ifCond .ge 52, 3) by decide +kernel) rfl ?_ ?_
          · skip
            refine V_aload_n 47 rfl (show decode M_Tape_readLevel.2.1 46 = .ok (.aload_n 0, 1) by decide +kernel) 0 rfl ?_
            refine V_get (j := 5) (v := vI (SI σ h0 5)) 50 rfl ck_Tape (by decide) (by decide) (show decode M_Tape_readLevel.2.1 47 = .ok (.getfield 70, 3) by decide +kernel) wd_546 rfl ?_
            refine V_callS (tb := tI) (as := [vI (SI σ h0 5)]) (rest := []) (na := 1) 53 rfl (s_Tape_levelOf (SI σ h0 5) ((b && cK σ h0 8) && cK σ h0 8) σ) rfl rfl (Nat.le_of_ble_eq_true rfl) (cal_Tape_levelOf _ _ _ _ _ (by omega) (by omega) (by omega)) (show decode M_Tape_readLevel.2.1 50 = .ok (.invokestatic 107, 3) by decide +kernel) wd_932 wd_933 (fun r_4 b_4 σ_4 => ?_)
            show V M_Tape_readLevel (6 + (D + 1)) 0 0 0 0 tU _ 53 [(0, vR h0), (1, vI x1), (2, vI x2), (3, vI x3), (4, vI x4)] [vI r_4] b_4 σ_4
            refine V_iload_n 54 rfl (show decode M_Tape_readLevel.2.1 53 = .ok (.iload_n 1, 1) by decide +kernel) 1 rfl ?_
            refine V_icmpne 57 95 rfl (show decode M_Tape_readLevel.2.1 54 = .ok (.if_icmp .ne 41, 3) by decide +kernel) rfl ?_ ?_
            · skip
              refine V_aload_n 58 rfl (show decode M_Tape_readLevel.2.1 57 = .ok (.aload_n 0, 1) by decide +kernel) 0 rfl ?_
              refine V_get (j := 5) (v := vI (SI σ_4 h0 5)) 61 rfl ck_Tape (by decide) (by decide) (show decode M_Tape_readLevel.2.1 58 = .ok (.getfield 70, 3) by decide +kernel) wd_546 rfl ?_
              refine V_istore (fun x5_5 => [(5, vI x5_5), (0, vR h0), (1, vI x1), (2, vI x2), (3, vI x3), (4, vI x4)]) 63 rfl (show decode M_Tape_readLevel.2.1 61 = .ok (.istore 5, 2) by decide +kernel) (by decide) (fun _ => rfl) (fun x5_5 => ?_)
              refine V_aload_n 64 rfl (show decode M_Tape_readLevel.2.1 63 = .ok (.aload_n 0, 1) by decide +kernel) 1 rfl ?_
              refine V_callV (tb := tU) (as := []) (rest := []) (na := 0) 67 rfl ck_Tape (by decide) (s_Tape_nextWord h0 ((b_4 && cK σ_4 h0 8) && cK σ_4 h0 8) σ_4) rfl rfl (Nat.le_of_ble_eq_true rfl) (cal_Tape_nextWord _ _ _ _ _ (by omega) (by omega) (by omega)) (show decode M_Tape_readLevel.2.1 64 = .ok (.invokevirtual 36, 3) by decide +kernel) wd_764 wd_766 wd_18 (fun r_6 b_6 σ_6 => ?_)
              show V M_Tape_readLevel (6 + (D + 1)) 0 0 0 0 tU _ 67 [(5, vI x5_5), (0, vR h0), (1, vI x1), (2, vI x2), (3, vI x3), (4, vI x4)] [] b_6 σ_6
              refine V_aload_n 68 rfl (show decode M_Tape_readLevel.2.1 67 = .ok (.aload_n 0, 1) by decide +kernel) 1 rfl ?_
              refine V_iload_n 69 rfl (show decode M_Tape_readLevel.2.1 68 = .ok (.iload_n 1, 1) by decide +kernel) 2 rfl ?_
              refine V_iconst 70 rfl (show decode M_Tape_readLevel.2.1 69 = .ok (.iconst 1, 1) by decide +kernel) (v := 1) rfl ?_
              refine V_iadd 71 rfl (show decode M_Tape_readLevel.2.1 70 = .ok (.iadd, 1) by decide +kernel) ?_
              refine V_iload_n 72 rfl (show decode M_Tape_readLevel.2.1 71 = .ok (.iload_n 2, 1) by decide +kernel) 3 rfl ?_
              refine V_iload_n 73 rfl (show decode M_Tape_readLevel.2.1 72 = .ok (.iload_n 3, 1) by decide +kernel) 4 rfl ?_
              refine V_callV (tb := tU) (as := [vI (x1 + (1 : Int32)), vI x2, vI x3]) (rest := []) (na := 3) 76 rfl ck_Tape (by decide) (hg_Tape_readLevel h0 (x1 + (1 : Int32)) x2 x3 (b_6 && cK σ_6 h0 8) σ_6) rfl rfl (Nat.le_of_ble_eq_true rfl) (calg_Tape_readLevel _ _ _ _ _ _ (by omega) (by omega) (by omega)) (show decode M_Tape_readLevel.2.1 73 = .ok (.invokevirtual 42, 3) by decide +kernel) wd_835 wd_837 wd_24 (fun r_7 b_7 σ_7 => ?_)
              show V M_Tape_readLevel (6 + (D + 1)) 0 0 0 0 tU _ 76 [(5, vI x5_5), (0, vR h0), (1, vI x1), (2, vI x2), (3, vI x3), (4, vI x4)] [] b_7 σ_7
              refine V_aload_n 77 rfl (show decode M_Tape_readLevel.2.1 76 = .ok (.aload_n 0, 1) by decide +kernel) 1 rfl ?_
              refine V_iload 79 rfl (show decode M_Tape_readLevel.2.1 77 = .ok (.iload 5, 2) by decide +kernel) 0 rfl ?_
              refine V_ineg 80 rfl (show decode M_Tape_readLevel.2.1 79 = .ok (.ineg, 1) by decide +kernel) ?_
              refine V_callV (tb := tU) (as := [vI (-x5_5)]) (rest := []) (na := 1) 83 rfl ck_Tape (by decide) (s_Tape_addStep h0 (-x5_5) (b_7 && cK σ_7 h0 8) σ_7) rfl rfl (Nat.le_of_ble_eq_true rfl) (cal_Tape_addStep _ _ _ _ _ (by omega) (by omega) (by omega)) (show decode M_Tape_readLevel.2.1 80 = .ok (.invokevirtual 66, 3) by decide +kernel) wd_924 wd_926 wd_28 (fun r_8 b_8 σ_8 => ?_)
              show V M_Tape_readLevel (6 + (D + 1)) 0 0 0 0 tU _ 83 [(5, vI x5_5), (0, vR h0), (1, vI x1), (2, vI x2), (3, vI x3), (4, vI x4)] [] b_8 σ_8
              refine V_iload_n 84 rfl (show decode M_Tape_readLevel.2.1 83 = .ok (.iload_n 1, 1) by decide +kernel) 2 rfl ?_
              refine V_iconst 85 rfl (show decode M_Tape_readLevel.2.1 84 = .ok (.iconst 2, 1) by decide +kernel) (v := 2) rfl ?_
              refine V_icmpne 88 89 rfl (show decode M_Tape_readLevel.2.1 85 = .ok (.if_icmp .ne 4, 3) by decide +kernel) rfl ?_ ?_
              · skip
                exact V_vret rfl (by decide) (by decide) (show decode M_Tape_readLevel.2.1 88 = .ok (.return_, 1) by decide +kernel)
              · skip
                refine V_iinc (fun x4_9 => [(4, vI x4_9), (5, vI x5_5), (0, vR h0), (1, vI x1), (2, vI x2), (3, vI x3)]) 92 rfl (show decode M_Tape_readLevel.2.1 89 = .ok (.iinc 4 1, 3) by decide +kernel) 5 rfl (w := 1) rfl (by decide) (fun _ => rfl) (fun x4_9 => ?_)
                refine V_goto 32 (show decode M_Tape_readLevel.2.1 92 = .ok (.goto (-60), 3) by decide +kernel) rfl ?_
                exact V_sub [2, 3, 4, 5, 0] rfl (hL32 x4_9 b_8 σ_8)
            · skip
              exact V_vret rfl (by decide) (by decide) (show decode M_Tape_readLevel.2.1 95 = .ok (.return_, 1) by decide +kernel)
          · skip
            exact V_vret rfl (by decide) (by decide) (show decode M_Tape_readLevel.2.1 95 = .ok (.return_, 1) by decide +kernel)
        · skip
          exact V_vret rfl (by decide) (by decide) (show decode M_Tape_readLevel.2.1 95 = .ok (.return_, 1) by decide +kernel)
  · skip
    exact V_vret rfl (by decide) (by decide) (show decode M_Tape_readLevel.2.1 7 = .ok (.return_, 1) by decide +kernel)
def fb_Tape_readPart (g_Tape_readLevel : Nat → Int32 → Int32 → Int32 → Bool → Sto → Rs Unit) (g_Tape_readPart : Nat → Int32 → Int32 → Bool → Sto → Rs Unit) (h0 : Nat) (x1 : Int32) (x2 : Int32) (b : Bool) (σ : Sto) : Rs Unit := (bd_ (f_Tape_nameHere h0 (b && cK σ h0 8) σ) (fun (r_1 : Int32) (b_1 : Bool) (σ_1 : Sto) => (lt_ r_1 (fun (x3_2 : Int32) => (if (SI σ_1 h0 4) = (2 : Int32) then (bd_ (f_Tape_addOperand h0 (SI σ_1 h0 6) (((b_1 && cK σ_1 h0 8) && cK σ_1 h0 8) && cK σ_1 h0 8) σ_1) (fun (r_3 : Unit) (b_3 : Bool) (σ_3 : Sto) => ((), b_3, σ_3))) else (if x3_2 < 0 then (lt_ (fun (b : Bool) (σ : Sto) => (lt_ (fun (b : Bool) (σ : Sto) => (bd_ (f_Tape_noteFault h0 (b && cK σ h0 8) σ) (fun (r_4 : Unit) (b_4 : Bool) (σ_4 : Sto) => ((), b_4, σ_4)))) (fun J109 => (if (SI σ h0 5) = (40 : Int32) then (if x1 < (8 : Int32) then (bd_ (f_Tape_nextWord h0 ((b && cK σ h0 8) && cK σ h0 8) σ) (fun (r_5 : Unit) (b_5 : Bool) (σ_5 : Sto) => (bd_ (g_Tape_readLevel h0 (0 : Int32) (x1 + (1 : Int32)) x2 (b_5 && cK σ_5 h0 8) σ_5) (fun (r_6 : Unit) (b_6 : Bool) (σ_6 : Sto) => (bd_ (f_Tape_readClosing h0 (b_6 && cK σ_6 h0 8) σ_6) (fun (r_7 : Unit) (b_7 : Bool) (σ_7 : Sto) => ((), b_7, σ_7))))))) else (J109 (b && cK σ h0 8) σ)) else (J109 (b && cK σ h0 8) σ))))) (fun J74 => (if (SI σ_1 h0 5) = (33 : Int32) then (if x2 < (8 : Int32) then (bd_ (f_Tape_nextWord h0 (((b_1 && cK σ_1 h0 8) && cK σ_1 h0 8) && cK σ_1 h0 8) σ_1) (fun (r_8 : Unit) (b_8 : Bool) (σ_8 : Sto) => (bd_ (g_Tape_readPart h0 x1 (x2 + (1 : Int32)) (b_8 && cK σ_8 h0 8) σ_8) (fun (r_9 : Unit) (b_9 : Bool) (σ_9 : Sto) => (bd_ (f_Tape_addStep h0 (-33 : Int32) (b_9 && cK σ_9 h0 8) σ_9) (fun (r_10 : Unit) (b_10 : Bool) (σ_10 : Sto) => ((), b_10, σ_10))))))) else (J74 ((b_1 && cK σ_1 h0 8) && cK σ_1 h0 8) σ_1)) else (J74 ((b_1 && cK σ_1 h0 8) && cK σ_1 h0 8) σ_1)))) else (bd_ (f_Tape_addOperand h0 ((-1 : Int32) - x3_2) ((b_1 && cK σ_1 h0 8) && cK σ_1 h0 8) σ_1) (fun (r_11 : Unit) (b_11 : Bool) (σ_11 : Sto) => ((), b_11, σ_11)))))))))
set_option maxRecDepth 100000 in
set_option maxHeartbeats 4000000 in
theorem sb_Tape_readPart (D : Nat) (g_Tape_readLevel : Nat → Int32 → Int32 → Int32 → Bool → Sto → Rs Unit) (g_Tape_readPart : Nat → Int32 → Int32 → Bool → Sto → Rs Unit) (hg_Tape_readLevel : ∀ (h0 : Nat) (x1 : Int32) (x2 : Int32) (x3 : Int32) (b : Bool) (σ : Sto), Snd M_Tape_readLevel (6 + D) 0 0 [vR h0, vI x1, vI x2, vI x3] b σ (tU (g_Tape_readLevel h0 x1 x2 x3 b σ).1) (g_Tape_readLevel h0 x1 x2 x3 b σ).2.1 (g_Tape_readLevel h0 x1 x2 x3 b σ).2.2) (hg_Tape_readPart : ∀ (h0 : Nat) (x1 : Int32) (x2 : Int32) (b : Bool) (σ : Sto), Snd M_Tape_readPart (6 + D) 0 0 [vR h0, vI x1, vI x2] b σ (tU (g_Tape_readPart h0 x1 x2 b σ).1) (g_Tape_readPart h0 x1 x2 b σ).2.1 (g_Tape_readPart h0 x1 x2 b σ).2.2) : ∀ (h0 : Nat) (x1 : Int32) (x2 : Int32) (b : Bool) (σ : Sto), Snd M_Tape_readPart (6 + (D + 1)) 0 0 [vR h0, vI x1, vI x2] b σ (tU (fb_Tape_readPart g_Tape_readLevel g_Tape_readPart h0 x1 x2 b σ).1) (fb_Tape_readPart g_Tape_readLevel g_Tape_readPart h0 x1 x2 b σ).2.1 (fb_Tape_readPart g_Tape_readLevel g_Tape_readPart h0 x1 x2 b σ).2.2 := by
  intro h0 x1 x2 b σ
  refine Snd_of (tv := tU) (by decide) (Nat.le_of_ble_eq_true rfl) ?_
  show V M_Tape_readPart (6 + (D + 1)) 0 0 0 0 tU (fb_Tape_readPart g_Tape_readLevel g_Tape_readPart h0 x1 x2 b σ) 0 [(0, vR h0), (1, vI x1), (2, vI x2)] [] b σ
  unfold fb_Tape_readPart
  refine V_aload_n 1 rfl (show decode M_Tape_readPart.2.1 0 = .ok (.aload_n 0, 1) by decide +kernel) 0 rfl ?_
  refine V_callV (tb := tI) (as := []) (rest := []) (na := 0) 4 rfl ck_Tape (by decide) (s_Tape_nameHere h0 (b && cK σ h0 8) σ) rfl rfl (Nat.le_of_ble_eq_true rfl) (cal_Tape_nameHere _ _ _ _ _ (by omega) (by omega) (by omega)) (show decode M_Tape_readPart.2.1 1 = .ok (.invokevirtual 111, 3) by decide +kernel) wd_843 wd_845 wd_26 (fun r_1 b_1 σ_1 => ?_)
  show V M_Tape_readPart (6 + (D + 1)) 0 0 0 0 tU _ 4 [(0, vR h0), (1, vI x1), (2, vI x2)] [vI r_1] b_1 σ_1
  refine V_istore_n (fun x3_2 => [(3, vI x3_2), (0, vR h0), (1, vI x1), (2, vI x2)]) 5 rfl (show decode M_Tape_readPart.2.1 4 = .ok (.istore_n 3, 1) by decide +kernel) (by decide) (fun _ => rfl) (fun x3_2 => ?_)
  refine V_aload_n 6 rfl (show decode M_Tape_readPart.2.1 5 = .ok (.aload_n 0, 1) by decide +kernel) 1 rfl ?_
  refine V_get (j := 4) (v := vI (SI σ_1 h0 4)) 9 rfl ck_Tape (by decide) (by decide) (show decode M_Tape_readPart.2.1 6 = .ok (.getfield 33, 3) by decide +kernel) wd_545 rfl ?_
  refine V_iconst 10 rfl (show decode M_Tape_readPart.2.1 9 = .ok (.iconst 2, 1) by decide +kernel) (v := 2) rfl ?_
  refine V_icmpne 13 24 rfl (show decode M_Tape_readPart.2.1 10 = .ok (.if_icmp .ne 14, 3) by decide +kernel) rfl ?_ ?_
  · skip
    refine V_aload_n 14 rfl (show decode M_Tape_readPart.2.1 13 = .ok (.aload_n 0, 1) by decide +kernel) 1 rfl ?_
    refine V_aload_n 15 rfl (show decode M_Tape_readPart.2.1 14 = .ok (.aload_n 0, 1) by decide +kernel) 1 rfl ?_
    refine V_get (j := 6) (v := vI (SI σ_1 h0 6)) 18 rfl ck_Tape (by decide) (by decide) (show decode M_Tape_readPart.2.1 15 = .ok (.getfield 86, 3) by decide +kernel) wd_547 rfl ?_
    refine V_callV (tb := tU) (as := [vI (SI σ_1 h0 6)]) (rest := []) (na := 1) 21 rfl ck_Tape (by decide) (s_Tape_addOperand h0 (SI σ_1 h0 6) (((b_1 && cK σ_1 h0 8) && cK σ_1 h0 8) && cK σ_1 h0 8) σ_1) rfl rfl (Nat.le_of_ble_eq_true rfl) (cal_Tape_addOperand _ _ _ _ _ (by omega) (by omega) (by omega)) (show decode M_Tape_readPart.2.1 18 = .ok (.invokevirtual 115, 3) by decide +kernel) wd_920 wd_922 wd_27 (fun r_3 b_3 σ_3 => ?_)
    show V M_Tape_readPart (6 + (D + 1)) 0 0 0 0 tU _ 21 [(3, vI x3_2), (0, vR h0), (1, vI x1), (2, vI x2)] [] b_3 σ_3
    refine V_goto 113 (show decode M_Tape_readPart.2.1 21 = .ok (.goto 92, 3) by decide +kernel) rfl ?_
    exact V_vret rfl (by decide) (by decide) (show decode M_Tape_readPart.2.1 113 = .ok (.return_, 1) by decide +kernel)
  · skip
    refine V_iload_n 25 rfl (show decode M_Tape_readPart.2.1 24 = .ok (.iload_n 3, 1) by decide +kernel) 0 rfl ?_
    refine V_iflt 28 38 rfl (show decode M_Tape_readPart.2.1 25 = .ok (.ifCond .lt 13, 3) by decide +kernel) rfl ?_ ?_
    · skip
      refine V_aload_n 39 rfl (show decode M_Tape_readPart.2.1 38 = .ok (.aload_n 0, 1) by decide +kernel) 1 rfl ?_
      refine V_get (j := 5) (v := vI (SI σ_1 h0 5)) 42 rfl ck_Tape (by decide) (by decide) (show decode M_Tape_readPart.2.1 39 = .ok (.getfield 70, 3) by decide +kernel) wd_546 rfl ?_
      refine V_bipush 44 rfl (show decode M_Tape_readPart.2.1 42 = .ok (.bipush 33, 2) by decide +kernel) (v := 33) rfl ?_
      refine V_jn (fun (J74 : Bool → Sto → Rs Unit) => ∀ (b : Bool) (σ : Sto), V M_Tape_readPart (6 + (D + 1)) 0 0 0 0 tU (J74 b σ) 74 [(0, vR h0), (1, vI x1), (2, vI x2)] [] b σ) ?_ (fun J74 hJ74 => ?_)
      · intro b σ
        refine V_aload_n 75 rfl (show decode M_Tape_readPart.2.1 74 = .ok (.aload_n 0, 1) by decide +kernel) 0 rfl ?_
        refine V_get (j := 5) (v := vI (SI σ h0 5)) 78 rfl ck_Tape (by decide) (by decide) (show decode M_Tape_readPart.2.1 75 = .ok (.getfield 70, 3) by decide +kernel) wd_546 rfl ?_
        refine V_bipush 80 rfl (show decode M_Tape_readPart.2.1 78 = .ok (.bipush 40, 2) by decide +kernel) (v := 40) rfl ?_
        refine V_jn (fun (J109 : Bool → Sto → Rs Unit) => ∀ (b : Bool) (σ : Sto), V M_Tape_readPart (6 + (D + 1)) 0 0 0 0 tU (J109 b σ) 109 [(0, vR h0)] [] b σ) ?_ (fun J109 hJ109 => ?_)
        · intro b σ
          refine V_aload_n 110 rfl (show decode M_Tape_readPart.2.1 109 = .ok (.aload_n 0, 1) by decide +kernel) 0 rfl ?_
          refine V_callV (tb := tU) (as := []) (rest := []) (na := 0) 113 rfl ck_Tape (by decide) (s_Tape_noteFault h0 (b && cK σ h0 8) σ) rfl rfl (Nat.le_of_ble_eq_true rfl) (cal_Tape_noteFault _ _ _ _ _ (by omega) (by omega) (by omega)) (show decode M_Tape_readPart.2.1 110 = .ok (.invokevirtual 46, 3) by decide +kernel) wd_831 wd_833 wd_23 (fun r_4 b_4 σ_4 => ?_)
          show V M_Tape_readPart (6 + (D + 1)) 0 0 0 0 tU _ 113 [(0, vR h0)] [] b_4 σ_4
          exact V_vret rfl (by decide) (by decide) (show decode M_Tape_readPart.2.1 113 = .ok (.return_, 1) by decide +kernel)
        · skip
          refine V_icmpne 83 109 rfl (show decode M_Tape_readPart.2.1 80 = .ok (.if_icmp .ne 29, 3) by decide +kernel) rfl ?_ ?_
          · skip
            refine V_iload_n 84 rfl (show decode M_Tape_readPart.2.1 83 = .ok (.iload_n 1, 1) by decide +kernel) 1 rfl ?_
            refine V_bipush 86 rfl (show decode M_Tape_readPart.2.1 84 = .ok (.bipush 8, 2) by decide +kernel) (v := 8) rfl ?_
            refine V_icmpge 89 109 rfl (show decode M_Tape_readPart.2.1 86 = .ok (.if_icmp .ge 23, 3) by decide +kernel) rfl ?_ ?_
            · skip
              refine V_aload_n 90 rfl (show decode M_Tape_readPart.2.1 89 = .ok (.aload_n 0, 1) by decide +kernel) 0 rfl ?_
              refine V_callV (tb := tU) (as := []) (rest := []) (na := 0) 93 rfl ck_Tape (by decide) (s_Tape_nextWord h0 ((b && cK σ h0 8) && cK σ h0 8) σ) rfl rfl (Nat.le_of_ble_eq_true rfl) (cal_Tape_nextWord _ _ _ _ _ (by omega) (by omega) (by omega)) (show decode M_Tape_readPart.2.1 90 = .ok (.invokevirtual 36, 3) by decide +kernel) wd_764 wd_766 wd_18 (fun r_5 b_5 σ_5 => ?_)
              show V M_Tape_readPart (6 + (D + 1)) 0 0 0 0 tU _ 93 [(0, vR h0), (1, vI x1), (2, vI x2)] [] b_5 σ_5
              refine V_aload_n 94 rfl (show decode M_Tape_readPart.2.1 93 = .ok (.aload_n 0, 1) by decide +kernel) 0 rfl ?_
              refine V_iconst 95 rfl (show decode M_Tape_readPart.2.1 94 = .ok (.iconst 0, 1) by decide +kernel) (v := 0) rfl ?_
              refine V_iload_n 96 rfl (show decode M_Tape_readPart.2.1 95 = .ok (.iload_n 1, 1) by decide +kernel) 1 rfl ?_
              refine V_iconst 97 rfl (show decode M_Tape_readPart.2.1 96 = .ok (.iconst 1, 1) by decide +kernel) (v := 1) rfl ?_
              refine V_iadd 98 rfl (show decode M_Tape_readPart.2.1 97 = .ok (.iadd, 1) by decide +kernel) ?_
              refine V_iload_n 99 rfl (show decode M_Tape_readPart.2.1 98 = .ok (.iload_n 2, 1) by decide +kernel) 2 rfl ?_
              refine V_callV (tb := tU) (as := [vI (0 : Int32), vI (x1 + (1 : Int32)), vI x2]) (rest := []) (na := 3) 102 rfl ck_Tape (by decide) (hg_Tape_readLevel h0 (0 : Int32) (x1 + (1 : Int32)) x2 (b_5 && cK σ_5 h0 8) σ_5) rfl rfl (Nat.le_of_ble_eq_true rfl) (calg_Tape_readLevel _ _ _ _ _ _ (by omega) (by omega) (by omega)) (show decode M_Tape_readPart.2.1 99 = .ok (.invokevirtual 42, 3) by decide +kernel) wd_835 wd_837 wd_24 (fun r_6 b_6 σ_6 => ?_)
              show V M_Tape_readPart (6 + (D + 1)) 0 0 0 0 tU _ 102 [(0, vR h0), (1, vI x1), (2, vI x2)] [] b_6 σ_6
              refine V_aload_n 103 rfl (show decode M_Tape_readPart.2.1 102 = .ok (.aload_n 0, 1) by decide +kernel) 0 rfl ?_
              refine V_callV (tb := tU) (as := []) (rest := []) (na := 0) 106 rfl ck_Tape (by decide) (s_Tape_readClosing h0 (b_6 && cK σ_6 h0 8) σ_6) rfl rfl (Nat.le_of_ble_eq_true rfl) (cal_Tape_readClosing _ _ _ _ _ (by omega) (by omega) (by omega)) (show decode M_Tape_readPart.2.1 103 = .ok (.invokevirtual 118, 3) by decide +kernel) wd_928 wd_930 wd_29 (fun r_7 b_7 σ_7 => ?_)
              show V M_Tape_readPart (6 + (D + 1)) 0 0 0 0 tU _ 106 [(0, vR h0), (1, vI x1), (2, vI x2)] [] b_7 σ_7
              refine V_goto 113 (show decode M_Tape_readPart.2.1 106 = .ok (.goto 7, 3) by decide +kernel) rfl ?_
              exact V_vret rfl (by decide) (by decide) (show decode M_Tape_readPart.2.1 113 = .ok (.return_, 1) by decide +kernel)
            · skip
              exact V_sub [0] rfl (hJ109 (b && cK σ h0 8) σ)
          · skip
            exact V_sub [0] rfl (hJ109 (b && cK σ h0 8) σ)
      · skip
        refine V_icmpne 47 74 rfl (show decode M_Tape_readPart.2.1 44 = .ok (.if_icmp .ne 30, 3) by decide +kernel) rfl ?_ ?_
        · skip
          refine V_iload_n 48 rfl (show decode M_Tape_readPart.2.1 47 = .ok (.iload_n 2, 1) by decide +kernel) 3 rfl ?_
          refine V_bipush 50 rfl (show decode M_Tape_readPart.2.1 48 = .ok (.bipush 8, 2) by decide +kernel) (v := 8) rfl ?_
          refine V_icmpge 53 74 rfl (show decode M_Tape_readPart.2.1 50 = .ok (.if_icmp .ge 24, 3) by decide +kernel) rfl ?_ ?_
          · skip
            refine V_aload_n 54 rfl (show decode M_Tape_readPart.2.1 53 = .ok (.aload_n 0, 1) by decide +kernel) 1 rfl ?_
            refine V_callV (tb := tU) (as := []) (rest := []) (na := 0) 57 rfl ck_Tape (by decide) (s_Tape_nextWord h0 (((b_1 && cK σ_1 h0 8) && cK σ_1 h0 8) && cK σ_1 h0 8) σ_1) rfl rfl (Nat.le_of_ble_eq_true rfl) (cal_Tape_nextWord _ _ _ _ _ (by omega) (by omega) (by omega)) (show decode M_Tape_readPart.2.1 54 = .ok (.invokevirtual 36, 3) by decide +kernel) wd_764 wd_766 wd_18 (fun r_8 b_8 σ_8 => ?_)
            show V M_Tape_readPart (6 + (D + 1)) 0 0 0 0 tU _ 57 [(3, vI x3_2), (0, vR h0), (1, vI x1), (2, vI x2)] [] b_8 σ_8
            refine V_aload_n 58 rfl (show decode M_Tape_readPart.2.1 57 = .ok (.aload_n 0, 1) by decide +kernel) 1 rfl ?_
            refine V_iload_n 59 rfl (show decode M_Tape_readPart.2.1 58 = .ok (.iload_n 1, 1) by decide +kernel) 2 rfl ?_
            refine V_iload_n 60 rfl (show decode M_Tape_readPart.2.1 59 = .ok (.iload_n 2, 1) by decide +kernel) 3 rfl ?_
            refine V_iconst 61 rfl (show decode M_Tape_readPart.2.1 60 = .ok (.iconst 1, 1) by decide +kernel) (v := 1) rfl ?_
            refine V_iadd 62 rfl (show decode M_Tape_readPart.2.1 61 = .ok (.iadd, 1) by decide +kernel) ?_
            refine V_callV (tb := tU) (as := [vI x1, vI (x2 + (1 : Int32))]) (rest := []) (na := 2) 65 rfl ck_Tape (by decide) (hg_Tape_readPart h0 x1 (x2 + (1 : Int32)) (b_8 && cK σ_8 h0 8) σ_8) rfl rfl (Nat.le_of_ble_eq_true rfl) (calg_Tape_readPart _ _ _ _ _ _ (by omega) (by omega) (by omega)) (show decode M_Tape_readPart.2.1 62 = .ok (.invokevirtual 103, 3) by decide +kernel) wd_839 wd_841 wd_25 (fun r_9 b_9 σ_9 => ?_)
            show V M_Tape_readPart (6 + (D + 1)) 0 0 0 0 tU _ 65 [(3, vI x3_2), (0, vR h0), (1, vI x1), (2, vI x2)] [] b_9 σ_9
            refine V_aload_n 66 rfl (show decode M_Tape_readPart.2.1 65 = .ok (.aload_n 0, 1) by decide +kernel) 1 rfl ?_
            refine V_bipush 68 rfl (show decode M_Tape_readPart.2.1 66 = .ok (.bipush (-33), 2) by decide +kernel) (v := -33) rfl ?_
            refine V_callV (tb := tU) (as := [vI (-33 : Int32)]) (rest := []) (na := 1) 71 rfl ck_Tape (by decide) (s_Tape_addStep h0 (-33 : Int32) (b_9 && cK σ_9 h0 8) σ_9) rfl rfl (Nat.le_of_ble_eq_true rfl) (cal_Tape_addStep _ _ _ _ _ (by omega) (by omega) (by omega)) (show decode M_Tape_readPart.2.1 68 = .ok (.invokevirtual 66, 3) by decide +kernel) wd_924 wd_926 wd_28 (fun r_10 b_10 σ_10 => ?_)
            show V M_Tape_readPart (6 + (D + 1)) 0 0 0 0 tU _ 71 [(3, vI x3_2), (0, vR h0), (1, vI x1), (2, vI x2)] [] b_10 σ_10
            refine V_goto 113 (show decode M_Tape_readPart.2.1 71 = .ok (.goto 42, 3) by decide +kernel) rfl ?_
            exact V_vret rfl (by decide) (by decide) (show decode M_Tape_readPart.2.1 113 = .ok (.return_, 1) by decide +kernel)
          · skip
            exact V_sub [1, 2, 3] rfl (hJ74 ((b_1 && cK σ_1 h0 8) && cK σ_1 h0 8) σ_1)
        · skip
          exact V_sub [1, 2, 3] rfl (hJ74 ((b_1 && cK σ_1 h0 8) && cK σ_1 h0 8) σ_1)
    · skip
      refine V_aload_n 29 rfl (show decode M_Tape_readPart.2.1 28 = .ok (.aload_n 0, 1) by decide +kernel) 1 rfl ?_
      refine V_iconst 30 rfl (show decode M_Tape_readPart.2.1 29 = .ok (.iconst (-1), 1) by decide +kernel) (v := -1) rfl ?_
      refine V_iload_n 31 rfl (show decode M_Tape_readPart.2.1 30 = .ok (.iload_n 3, 1) by decide +kernel) 0 rfl ?_
      refine V_isub 32 rfl (show decode M_Tape_readPart.2.1 31 = .ok (.isub, 1) by decide +kernel) ?_
      refine V_callV (tb := tU) (as := [vI ((-1 : Int32) - x3_2)]) (rest := []) (na := 1) 35 rfl ck_Tape (by decide) (s_Tape_addOperand h0 ((-1 : Int32) - x3_2) ((b_1 && cK σ_1 h0 8) && cK σ_1 h0 8) σ_1) rfl rfl (Nat.le_of_ble_eq_true rfl) (cal_Tape_addOperand _ _ _ _ _ (by omega) (by omega) (by omega)) (show decode M_Tape_readPart.2.1 32 = .ok (.invokevirtual 115, 3) by decide +kernel) wd_920 wd_922 wd_27 (fun r_11 b_11 σ_11 => ?_)
      show V M_Tape_readPart (6 + (D + 1)) 0 0 0 0 tU _ 35 [(3, vI x3_2), (0, vR h0), (1, vI x1), (2, vI x2)] [] b_11 σ_11
      refine V_goto 113 (show decode M_Tape_readPart.2.1 35 = .ok (.goto 78, 3) by decide +kernel) rfl ?_
      exact V_vret rfl (by decide) (by decide) (show decode M_Tape_readPart.2.1 113 = .ok (.return_, 1) by decide +kernel)
def fx_Tape : Nat → (Nat → Int32 → Int32 → Int32 → Bool → Sto → Rs Unit) × (Nat → Int32 → Int32 → Bool → Sto → Rs Unit)
  | 0 => (fun (_ : Nat) (_ : Int32) (_ : Int32) (_ : Int32) (_ : Bool) (σ : Sto) => ((), false, σ), fun (_ : Nat) (_ : Int32) (_ : Int32) (_ : Bool) (σ : Sto) => ((), false, σ))
  | D + 1 => (fb_Tape_readLevel (fx_Tape D).1 (fx_Tape D).2, fb_Tape_readPart (fx_Tape D).1 (fx_Tape D).2)
theorem fxs_Tape : ∀ D : Nat, (∀ (h0 : Nat) (x1 : Int32) (x2 : Int32) (x3 : Int32) (b : Bool) (σ : Sto), Snd M_Tape_readLevel (6 + D) 0 0 [vR h0, vI x1, vI x2, vI x3] b σ (tU ((fx_Tape D).1 h0 x1 x2 x3 b σ).1) ((fx_Tape D).1 h0 x1 x2 x3 b σ).2.1 ((fx_Tape D).1 h0 x1 x2 x3 b σ).2.2) ∧ (∀ (h0 : Nat) (x1 : Int32) (x2 : Int32) (b : Bool) (σ : Sto), Snd M_Tape_readPart (6 + D) 0 0 [vR h0, vI x1, vI x2] b σ (tU ((fx_Tape D).2 h0 x1 x2 b σ).1) ((fx_Tape D).2 h0 x1 x2 b σ).2.1 ((fx_Tape D).2 h0 x1 x2 b σ).2.2)
  | 0 => ⟨fun _ _ _ _ _ _ => Snd_bad, fun _ _ _ _ _ => Snd_bad⟩
  | D + 1 => by
    obtain ⟨e0, e1⟩ := fxs_Tape D
    exact ⟨sb_Tape_readLevel D (fx_Tape D).1 (fx_Tape D).2 e0 e1, sb_Tape_readPart D (fx_Tape D).1 (fx_Tape D).2 e0 e1⟩
def f_Tape_readLevel : Nat → Int32 → Int32 → Int32 → Bool → Sto → Rs Unit := (fx_Tape dep_).1
theorem s_Tape_readLevel : ∀ (h0 : Nat) (x1 : Int32) (x2 : Int32) (x3 : Int32) (b : Bool) (σ : Sto), Snd M_Tape_readLevel 126 0 0 [vR h0, vI x1, vI x2, vI x3] b σ (tU (f_Tape_readLevel h0 x1 x2 x3 b σ).1) (f_Tape_readLevel h0 x1 x2 x3 b σ).2.1 (f_Tape_readLevel h0 x1 x2 x3 b σ).2.2 := by
  intro h0 x1 x2 x3 b σ
  have h := (fxs_Tape dep_).1 h0 x1 x2 x3 b σ
  rw [show 6 + dep_ = 126 from rfl] at h
  unfold f_Tape_readLevel
  exact h
def f_Tape_readPart : Nat → Int32 → Int32 → Bool → Sto → Rs Unit := (fx_Tape dep_).2
theorem s_Tape_readPart : ∀ (h0 : Nat) (x1 : Int32) (x2 : Int32) (b : Bool) (σ : Sto), Snd M_Tape_readPart 126 0 0 [vR h0, vI x1, vI x2] b σ (tU (f_Tape_readPart h0 x1 x2 b σ).1) (f_Tape_readPart h0 x1 x2 b σ).2.1 (f_Tape_readPart h0 x1 x2 b σ).2.2 := by
  intro h0 x1 x2 b σ
  have h := (fxs_Tape dep_).2 h0 x1 x2 b σ
  rw [show 6 + dep_ = 126 from rfl] at h
  unfold f_Tape_readPart
  exact h
abbrev M_Tape_readText : MD := (⟨"LongTrail$Tape", "readText", "()I"⟩, prog_9_method_3_code, 1, (some FieldType.int))
def f_Tape_readText (h0 : Nat) (b : Bool) (σ : Sto) : Rs Int32 := (lt_ (pI σ h0 11 (-1 : Int32)) (fun (σ_1 : Sto) => (lt_ (pI σ_1 h0 9 (0 : Int32)) (fun (σ_2 : Sto) => (lt_ (pI σ_2 h0 10 (0 : Int32)) (fun (σ_3 : Sto) => (lt_ (pI σ_3 h0 3 (0 : Int32)) (fun (σ_4 : Sto) => (lt_ (pI σ_4 h0 4 (0 : Int32)) (fun (σ_5 : Sto) => (bd_ (f_Tape_nextWord h0 ((((((b && cK σ h0 8) && cK σ_1 h0 8) && cK σ_2 h0 8) && cK σ_3 h0 8) && cK σ_4 h0 8) && cK σ_5 h0 8) σ_5) (fun (r_6 : Unit) (b_6 : Bool) (σ_6 : Sto) => (bd_ (f_Tape_readKey h0 (b_6 && cK σ_6 h0 8) σ_6) (fun (r_7 : Unit) (b_7 : Bool) (σ_7 : Sto) => (bd_ (f_Tape_readLevel h0 (0 : Int32) (0 : Int32) (0 : Int32) (b_7 && cK σ_7 h0 8) σ_7) (fun (r_8 : Unit) (b_8 : Bool) (σ_8 : Sto) => (lt_ (fun (b : Bool) (σ : Sto) => ((SI σ h0 11), (b && cK σ h0 8), σ)) (fun J52 => (if (SI σ_8 h0 4) = (5 : Int32) then (J52 (b_8 && cK σ_8 h0 8) σ_8) else (bd_ (f_Tape_noteFault h0 ((b_8 && cK σ_8 h0 8) && cK σ_8 h0 8) σ_8) (fun (r_9 : Unit) (b_9 : Bool) (σ_9 : Sto) => (J52 b_9 σ_9))))))))))))))))))))))
set_option maxRecDepth 100000 in
set_option maxHeartbeats 4000000 in
theorem s_Tape_readText : ∀ (h0 : Nat) (b : Bool) (σ : Sto), Snd M_Tape_readText 127 0 0 [vR h0] b σ (tI (f_Tape_readText h0 b σ).1) (f_Tape_readText h0 b σ).2.1 (f_Tape_readText h0 b σ).2.2 := by
  intro h0 b σ
  refine Snd_of (tv := tI) (by decide) (Nat.le_of_ble_eq_true rfl) ?_
  show V M_Tape_readText 127 0 0 0 0 tI (f_Tape_readText h0 b σ) 0 [(0, vR h0)] [] b σ
  unfold f_Tape_readText
  refine V_aload_n 1 rfl (show decode M_Tape_readText.2.1 0 = .ok (.aload_n 0, 1) by decide +kernel) 0 rfl ?_
  refine V_iconst 2 rfl (show decode M_Tape_readText.2.1 1 = .ok (.iconst (-1), 1) by decide +kernel) (v := -1) rfl ?_
  refine V_putI (j := 11) 5 rfl ck_Tape (by decide) (by decide) (show decode M_Tape_readText.2.1 2 = .ok (.putfield 21, 3) by decide +kernel) wd_552 rfl (fun _ => rfl) rfl rfl (fun σ_1 => ?_)
  refine V_aload_n 6 rfl (show decode M_Tape_readText.2.1 5 = .ok (.aload_n 0, 1) by decide +kernel) 0 rfl ?_
  refine V_iconst 7 rfl (show decode M_Tape_readText.2.1 6 = .ok (.iconst 0, 1) by decide +kernel) (v := 0) rfl ?_
  refine V_putI (j := 9) 10 rfl ck_Tape (by decide) (by decide) (show decode M_Tape_readText.2.1 7 = .ok (.putfield 24, 3) by decide +kernel) wd_550 rfl (fun _ => rfl) rfl rfl (fun σ_2 => ?_)
  refine V_aload_n 11 rfl (show decode M_Tape_readText.2.1 10 = .ok (.aload_n 0, 1) by decide +kernel) 0 rfl ?_
  refine V_iconst 12 rfl (show decode M_Tape_readText.2.1 11 = .ok (.iconst 0, 1) by decide +kernel) (v := 0) rfl ?_
  refine V_putI (j := 10) 15 rfl ck_Tape (by decide) (by decide) (show decode M_Tape_readText.2.1 12 = .ok (.putfield 27, 3) by decide +kernel) wd_551 rfl (fun _ => rfl) rfl rfl (fun σ_3 => ?_)
  refine V_aload_n 16 rfl (show decode M_Tape_readText.2.1 15 = .ok (.aload_n 0, 1) by decide +kernel) 0 rfl ?_
  refine V_iconst 17 rfl (show decode M_Tape_readText.2.1 16 = .ok (.iconst 0, 1) by decide +kernel) (v := 0) rfl ?_
  refine V_putI (j := 3) 20 rfl ck_Tape (by decide) (by decide) (show decode M_Tape_readText.2.1 17 = .ok (.putfield 30, 3) by decide +kernel) wd_544 rfl (fun _ => rfl) rfl rfl (fun σ_4 => ?_)
  refine V_aload_n 21 rfl (show decode M_Tape_readText.2.1 20 = .ok (.aload_n 0, 1) by decide +kernel) 0 rfl ?_
  refine V_iconst 22 rfl (show decode M_Tape_readText.2.1 21 = .ok (.iconst 0, 1) by decide +kernel) (v := 0) rfl ?_
  refine V_putI (j := 4) 25 rfl ck_Tape (by decide) (by decide) (show decode M_Tape_readText.2.1 22 = .ok (.putfield 33, 3) by decide +kernel) wd_545 rfl (fun _ => rfl) rfl rfl (fun σ_5 => ?_)
  refine V_aload_n 26 rfl (show decode M_Tape_readText.2.1 25 = .ok (.aload_n 0, 1) by decide +kernel) 0 rfl ?_
  refine V_callV (tb := tU) (as := []) (rest := []) (na := 0) 29 rfl ck_Tape (by decide) (s_Tape_nextWord h0 ((((((b && cK σ h0 8) && cK σ_1 h0 8) && cK σ_2 h0 8) && cK σ_3 h0 8) && cK σ_4 h0 8) && cK σ_5 h0 8) σ_5) rfl rfl (Nat.le_of_ble_eq_true rfl) (cal_Tape_nextWord _ _ _ _ _ (by decide) (by decide) (by decide)) (show decode M_Tape_readText.2.1 26 = .ok (.invokevirtual 36, 3) by decide +kernel) wd_764 wd_766 wd_18 (fun r_6 b_6 σ_6 => ?_)
  show V M_Tape_readText 127 0 0 0 0 tI _ 29 [(0, vR h0)] [] b_6 σ_6
  refine V_aload_n 30 rfl (show decode M_Tape_readText.2.1 29 = .ok (.aload_n 0, 1) by decide +kernel) 0 rfl ?_
  refine V_callV (tb := tU) (as := []) (rest := []) (na := 0) 33 rfl ck_Tape (by decide) (s_Tape_readKey h0 (b_6 && cK σ_6 h0 8) σ_6) rfl rfl (Nat.le_of_ble_eq_true rfl) (cal_Tape_readKey _ _ _ _ _ (by decide) (by decide) (by decide)) (show decode M_Tape_readText.2.1 30 = .ok (.invokevirtual 39, 3) by decide +kernel) wd_782 wd_784 wd_21 (fun r_7 b_7 σ_7 => ?_)
  show V M_Tape_readText 127 0 0 0 0 tI _ 33 [(0, vR h0)] [] b_7 σ_7
  refine V_aload_n 34 rfl (show decode M_Tape_readText.2.1 33 = .ok (.aload_n 0, 1) by decide +kernel) 0 rfl ?_
  refine V_iconst 35 rfl (show decode M_Tape_readText.2.1 34 = .ok (.iconst 0, 1) by decide +kernel) (v := 0) rfl ?_
  refine V_iconst 36 rfl (show decode M_Tape_readText.2.1 35 = .ok (.iconst 0, 1) by decide +kernel) (v := 0) rfl ?_
  refine V_iconst 37 rfl (show decode M_Tape_readText.2.1 36 = .ok (.iconst 0, 1) by decide +kernel) (v := 0) rfl ?_
  refine V_callV (tb := tU) (as := [vI (0 : Int32), vI (0 : Int32), vI (0 : Int32)]) (rest := []) (na := 3) 40 rfl ck_Tape (by decide) (s_Tape_readLevel h0 (0 : Int32) (0 : Int32) (0 : Int32) (b_7 && cK σ_7 h0 8) σ_7) rfl rfl (Nat.le_of_ble_eq_true rfl) (calg_Tape_readLevel _ _ _ _ _ _ (by decide) (by decide) (by decide)) (show decode M_Tape_readText.2.1 37 = .ok (.invokevirtual 42, 3) by decide +kernel) wd_835 wd_837 wd_24 (fun r_8 b_8 σ_8 => ?_)
  show V M_Tape_readText 127 0 0 0 0 tI _ 40 [(0, vR h0)] [] b_8 σ_8
  refine V_aload_n 41 rfl (show decode M_Tape_readText.2.1 40 = .ok (.aload_n 0, 1) by decide +kernel) 0 rfl ?_
  refine V_get (j := 4) (v := vI (SI σ_8 h0 4)) 44 rfl ck_Tape (by decide) (by decide) (show decode M_Tape_readText.2.1 41 = .ok (.getfield 33, 3) by decide +kernel) wd_545 rfl ?_
  refine V_iconst 45 rfl (show decode M_Tape_readText.2.1 44 = .ok (.iconst 5, 1) by decide +kernel) (v := 5) rfl ?_
  refine V_jn (fun (J52 : Bool → Sto → Rs Int32) => ∀ (b : Bool) (σ : Sto), V M_Tape_readText 127 0 0 0 0 tI (J52 b σ) 52 [(0, vR h0)] [] b σ) ?_ (fun J52 hJ52 => ?_)
  · intro b σ
    refine V_aload_n 53 rfl (show decode M_Tape_readText.2.1 52 = .ok (.aload_n 0, 1) by decide +kernel) 0 rfl ?_
    refine V_get (j := 11) (v := vI (SI σ h0 11)) 56 rfl ck_Tape (by decide) (by decide) (show decode M_Tape_readText.2.1 53 = .ok (.getfield 21, 3) by decide +kernel) wd_552 rfl ?_
    exact V_iret rfl (by decide) (by decide) (show decode M_Tape_readText.2.1 56 = .ok (.ireturn, 1) by decide +kernel)
  · skip
    refine V_icmpeq 48 52 rfl (show decode M_Tape_readText.2.1 45 = .ok (.if_icmp .eq 7, 3) by decide +kernel) rfl ?_ ?_
    · skip
      exact V_sub [0] rfl (hJ52 (b_8 && cK σ_8 h0 8) σ_8)
    · skip
      refine V_aload_n 49 rfl (show decode M_Tape_readText.2.1 48 = .ok (.aload_n 0, 1) by decide +kernel) 0 rfl ?_
      refine V_callV (tb := tU) (as := []) (rest := []) (na := 0) 52 rfl ck_Tape (by decide) (s_Tape_noteFault h0 ((b_8 && cK σ_8 h0 8) && cK σ_8 h0 8) σ_8) rfl rfl (Nat.le_of_ble_eq_true rfl) (cal_Tape_noteFault _ _ _ _ _ (by decide) (by decide) (by decide)) (show decode M_Tape_readText.2.1 49 = .ok (.invokevirtual 46, 3) by decide +kernel) wd_831 wd_833 wd_23 (fun r_9 b_9 σ_9 => ?_)
      show V M_Tape_readText 127 0 0 0 0 tI _ 52 [(0, vR h0)] [] b_9 σ_9
      exact V_sub [0] rfl (hJ52 b_9 σ_9)
theorem cal_Tape_readText (d mc ms k n : Nat) (h1 : 127 + 1 ≤ d) (h2 : k + 0 ≤ mc) (h3 : n + 0 ≤ ms) : Cal M_Tape_readText 127 0 0 0 d mc ms k n := ⟨wd_763, wd_179, by decide, h1, by decide, h2, h3⟩
abbrev M_Text_init : MD := (⟨"LongTrail$Text", "<init>", "(IIII[I)V"⟩, prog_10_method_1_code, 6, (none : Option FieldType))
def f_Text_init (h0 : Nat) (x1 : Int32) (x2 : Int32) (x3 : Int32) (x4 : Int32) (h5 : Nat) (b : Bool) (σ : Sto) : Rs Unit := (lt_ (pI σ h0 0 x1) (fun (σ_1 : Sto) => (lt_ (pI σ_1 h0 1 x2) (fun (σ_2 : Sto) => (lt_ (pI σ_2 h0 2 x3) (fun (σ_3 : Sto) => (lt_ (pI σ_3 h0 3 x4) (fun (σ_4 : Sto) => (lt_ (pR σ_4 h0 4 h5) (fun (σ_5 : Sto) => ((), ((((((b && !decide (h0 = 0)) && cK σ h0 9) && cK σ_1 h0 9) && cK σ_2 h0 9) && cK σ_3 h0 9) && cK σ_4 h0 9), σ_5)))))))))))
set_option maxRecDepth 100000 in
set_option maxHeartbeats 4000000 in
theorem s_Text_init : ∀ (h0 : Nat) (x1 : Int32) (x2 : Int32) (x3 : Int32) (x4 : Int32) (h5 : Nat) (b : Bool) (σ : Sto), Snd M_Text_init 1 0 0 [vR h0, vI x1, vI x2, vI x3, vI x4, vR h5] b σ (tU (f_Text_init h0 x1 x2 x3 x4 h5 b σ).1) (f_Text_init h0 x1 x2 x3 x4 h5 b σ).2.1 (f_Text_init h0 x1 x2 x3 x4 h5 b σ).2.2 := by
  intro h0 x1 x2 x3 x4 h5 b σ
  refine Snd_of (tv := tU) (by decide) (Nat.le_of_ble_eq_true rfl) ?_
  show V M_Text_init 1 0 0 0 0 tU (f_Text_init h0 x1 x2 x3 x4 h5 b σ) 0 [(0, vR h0), (1, vI x1), (2, vI x2), (3, vI x3), (4, vI x4), (5, vR h5)] [] b σ
  unfold f_Text_init
  refine V_aload_n 1 rfl (show decode M_Text_init.2.1 0 = .ok (.aload_n 0, 1) by decide +kernel) 0 rfl ?_
  refine V_objI 4 rfl (show decode M_Text_init.2.1 1 = .ok (.invokespecial 1, 3) by decide +kernel) wd_958 wd_197 wd_objc (by decide) (Nat.le_of_ble_eq_true rfl) ?_
  refine V_aload_n 5 rfl (show decode M_Text_init.2.1 4 = .ok (.aload_n 0, 1) by decide +kernel) 0 rfl ?_
  refine V_iload_n 6 rfl (show decode M_Text_init.2.1 5 = .ok (.iload_n 1, 1) by decide +kernel) 1 rfl ?_
  refine V_putIF (j := 0) 9 rfl ck_Text (by decide) (by decide) (show decode M_Text_init.2.1 6 = .ok (.putfield 7, 3) by decide +kernel) wd_959 rfl rfl rfl (fun _ => rfl) rfl rfl (fun σ_1 => ?_)
  refine V_aload_n 10 rfl (show decode M_Text_init.2.1 9 = .ok (.aload_n 0, 1) by decide +kernel) 0 rfl ?_
  refine V_iload_n 11 rfl (show decode M_Text_init.2.1 10 = .ok (.iload_n 2, 1) by decide +kernel) 2 rfl ?_
  refine V_putIF (j := 1) 14 rfl ck_Text (by decide) (by decide) (show decode M_Text_init.2.1 11 = .ok (.putfield 13, 3) by decide +kernel) wd_962 rfl rfl rfl (fun _ => rfl) rfl rfl (fun σ_2 => ?_)
  refine V_aload_n 15 rfl (show decode M_Text_init.2.1 14 = .ok (.aload_n 0, 1) by decide +kernel) 0 rfl ?_
  refine V_iload_n 16 rfl (show decode M_Text_init.2.1 15 = .ok (.iload_n 3, 1) by decide +kernel) 3 rfl ?_
  refine V_putIF (j := 2) 19 rfl ck_Text (by decide) (by decide) (show decode M_Text_init.2.1 16 = .ok (.putfield 16, 3) by decide +kernel) wd_965 rfl rfl rfl (fun _ => rfl) rfl rfl (fun σ_3 => ?_)
  refine V_aload_n 20 rfl (show decode M_Text_init.2.1 19 = .ok (.aload_n 0, 1) by decide +kernel) 0 rfl ?_
  refine V_iload 22 rfl (show decode M_Text_init.2.1 20 = .ok (.iload 4, 2) by decide +kernel) 4 rfl ?_
  refine V_putIF (j := 3) 25 rfl ck_Text (by decide) (by decide) (show decode M_Text_init.2.1 22 = .ok (.putfield 19, 3) by decide +kernel) wd_968 rfl rfl rfl (fun _ => rfl) rfl rfl (fun σ_4 => ?_)
  refine V_aload_n 26 rfl (show decode M_Text_init.2.1 25 = .ok (.aload_n 0, 1) by decide +kernel) 0 rfl ?_
  refine V_aload 28 rfl (show decode M_Text_init.2.1 26 = .ok (.aload 5, 2) by decide +kernel) 5 rfl ?_
  refine V_putRF (j := 4) 31 rfl ck_Text (by decide) (by decide) (show decode M_Text_init.2.1 28 = .ok (.putfield 22, 3) by decide +kernel) wd_970 rfl rfl rfl (fun _ => rfl) (vr_nar_a _) (vr_fit_a _) (fun σ_5 => ?_)
  exact V_vret rfl (by decide) (by decide) (show decode M_Text_init.2.1 31 = .ok (.return_, 1) by decide +kernel)
theorem cal_Text_init (d mc ms k n : Nat) (h1 : 1 + 1 ≤ d) (h2 : k + 0 ≤ mc) (h3 : n + 0 ≤ ms) : Cal M_Text_init 1 0 0 5 d mc ms k n := ⟨wd_957, wd_188, by decide, h1, by decide, h2, h3⟩
abbrev M_Arrays_copyOf : MD := (⟨"java/util/Arrays", "copyOf", "([II)[I"⟩, prog_22_method_123_code, 3, (some (FieldType.array FieldType.int)))
def f_Arrays_copyOf (h0 : Nat) (x1 : Int32) (b : Bool) (σ : Sto) : Rs Nat := (if x1 = (Int32.ofNat (Sln σ h0)) then (0, false, σ) else (lt_ (nC σ 21 (ix x1)) (fun (σ_1 : Sto) => (lt_ (Shn σ) (fun (h2_2 : Nat) => (lt_ (rI σ_1 h2_2 (va_cpy (SI σ_1 h0) (SI σ_1 h2_2) (ix (0 : Int32)) (ix (0 : Int32)) (ix (mnI (Int32.ofNat (Sln σ_1 h0)) x1)))) (fun (σ_3 : Sto) => (h2_2, ((((b && cK σ h0 21) && (!decide (x1 < 0) && decide (ix x1 ≤ 96))) && cK σ_1 h0 21) && cpc σ_1 h0 h2_2 21 (0 : Int32) (0 : Int32) (mnI (Int32.ofNat (Sln σ_1 h0)) x1)), σ_3))))))))
set_option maxRecDepth 100000 in
set_option maxHeartbeats 4000000 in
theorem s_Arrays_copyOf : ∀ (h0 : Nat) (x1 : Int32) (b : Bool) (σ : Sto), Snd M_Arrays_copyOf 1 1 96 [vR h0, vI x1] b σ (tR (f_Arrays_copyOf h0 x1 b σ).1) (f_Arrays_copyOf h0 x1 b σ).2.1 (f_Arrays_copyOf h0 x1 b σ).2.2 := by
  intro h0 x1 b σ
  refine Snd_of (tv := tR) (by decide) (Nat.le_of_ble_eq_true rfl) ?_
  show V M_Arrays_copyOf 1 1 96 0 0 tR (f_Arrays_copyOf h0 x1 b σ) 0 [(0, vR h0), (1, vI x1)] [] b σ
  unfold f_Arrays_copyOf
  refine V_iload_n 1 rfl (show decode M_Arrays_copyOf.2.1 0 = .ok (.iload_n 1, 1) by decide +kernel) 1 rfl ?_
  refine V_aload_n 2 rfl (show decode M_Arrays_copyOf.2.1 1 = .ok (.aload_n 0, 1) by decide +kernel) 0 rfl ?_
  refine V_alen_int 3 rfl (show decode M_Arrays_copyOf.2.1 2 = .ok (.arraylength, 1) by decide +kernel) ?_
  refine V_icmpne 6 14 rfl (show decode M_Arrays_copyOf.2.1 3 = .ok (.if_icmp .ne 11, 3) by decide +kernel) rfl ?_ ?_
  · skip
    exact V_bad
  · skip
    refine V_iload_n 15 rfl (show decode M_Arrays_copyOf.2.1 14 = .ok (.iload_n 1, 1) by decide +kernel) 1 rfl ?_
    refine V_newa_int 17 96 rfl (show decode M_Arrays_copyOf.2.1 15 = .ok (.newarray .int, 2) by decide +kernel) wd_265 (by decide) (by decide) (by decide) (fun σ_1 => ?_)
    refine V_astore_n (fun h2_2 => [(2, vR h2_2), (0, vR h0), (1, vI x1)]) 18 rfl (show decode M_Arrays_copyOf.2.1 17 = .ok (.astore_n 2, 1) by decide +kernel) (by decide) (fun _ => rfl) (fun h2_2 => ?_)
    refine V_aload_n 19 rfl (show decode M_Arrays_copyOf.2.1 18 = .ok (.aload_n 0, 1) by decide +kernel) 1 rfl ?_
    refine V_iconst 20 rfl (show decode M_Arrays_copyOf.2.1 19 = .ok (.iconst 0, 1) by decide +kernel) (v := 0) rfl ?_
    refine V_aload_n 21 rfl (show decode M_Arrays_copyOf.2.1 20 = .ok (.aload_n 2, 1) by decide +kernel) 0 rfl ?_
    refine V_iconst 22 rfl (show decode M_Arrays_copyOf.2.1 21 = .ok (.iconst 0, 1) by decide +kernel) (v := 0) rfl ?_
    refine V_aload_n 23 rfl (show decode M_Arrays_copyOf.2.1 22 = .ok (.aload_n 0, 1) by decide +kernel) 1 rfl ?_
    refine V_alen_int 24 rfl (show decode M_Arrays_copyOf.2.1 23 = .ok (.arraylength, 1) by decide +kernel) ?_
    refine V_iload_n 25 rfl (show decode M_Arrays_copyOf.2.1 24 = .ok (.iload_n 1, 1) by decide +kernel) 2 rfl ?_
    refine V_min 28 rfl (show decode M_Arrays_copyOf.2.1 25 = .ok (.invokestatic 304, 3) by decide +kernel) wd_951 wd_880 wd_186 wd_minc (by decide) (Nat.le_of_ble_eq_true rfl) (by decide) (by decide) ?_
    refine V_acpI 31 rfl (show decode M_Arrays_copyOf.2.1 28 = .ok (.invokestatic 150, 3) by decide +kernel) wd_952 wd_954 wd_953 wd_190 (by decide) (Nat.le_of_ble_eq_true rfl) (fun σ_3 => ?_)
    refine V_aload_n 32 rfl (show decode M_Arrays_copyOf.2.1 31 = .ok (.aload_n 2, 1) by decide +kernel) 0 rfl ?_
    exact V_aret rfl (by decide) (by decide) (Or.inr ⟨_, rfl⟩) (show decode M_Arrays_copyOf.2.1 32 = .ok (.areturn, 1) by decide +kernel)
theorem cal_Arrays_copyOf (d mc ms k n : Nat) (h1 : 1 + 1 ≤ d) (h2 : k + 1 ≤ mc) (h3 : n + 96 ≤ ms) : Cal M_Arrays_copyOf 1 1 96 2 d mc ms k n := ⟨wd_943, wd_189, by decide, h1, by decide, h2, h3⟩
abbrev M_Tape_textFor : MD := (⟨"LongTrail$Tape", "textFor", "(II)LLongTrail$Text;"⟩, prog_9_method_4_code, 3, (some (FieldType.object "LongTrail$Text")))
def f_Tape_textFor (h0 : Nat) (x1 : Int32) (x2 : Int32) (b : Bool) (σ : Sto) : Rs Nat := (lt_ (nC σ 9 0) (fun (σ_1 : Sto) => (bd_ (f_Arrays_copyOf (SR σ_1 h0 8) (SI σ_1 h0 9) ((((b && cK σ_1 h0 8) && cK σ_1 h0 8) && cK σ_1 h0 8) && cK σ_1 h0 8) σ_1) (fun (r_2 : Nat) (b_2 : Bool) (σ_2 : Sto) => (bd_ (f_Text_init (Shn σ) (SI σ_1 h0 7) x1 x2 (SI σ_1 h0 10) r_2 (b_2 && cK σ_2 (Shn σ) 9) σ_2) (fun (r_3 : Unit) (b_3 : Bool) (σ_3 : Sto) => ((Shn σ), b_3, σ_3)))))))
set_option maxRecDepth 100000 in
set_option maxHeartbeats 4000000 in
theorem s_Tape_textFor : ∀ (h0 : Nat) (x1 : Int32) (x2 : Int32) (b : Bool) (σ : Sto), Snd M_Tape_textFor 2 2 101 [vR h0, vI x1, vI x2] b σ (tR (f_Tape_textFor h0 x1 x2 b σ).1) (f_Tape_textFor h0 x1 x2 b σ).2.1 (f_Tape_textFor h0 x1 x2 b σ).2.2 := by
  intro h0 x1 x2 b σ
  refine Snd_of (tv := tR) (by decide) (Nat.le_of_ble_eq_true rfl) ?_
  show V M_Tape_textFor 2 2 101 0 0 tR (f_Tape_textFor h0 x1 x2 b σ) 0 [(0, vR h0), (1, vI x1), (2, vI x2)] [] b σ
  unfold f_Tape_textFor
  refine V_new (ci := 8) 3 rfl ck_Text (by decide) nd_Text (show decode M_Tape_textFor.2.1 0 = .ok (.new 49, 3) by decide +kernel) wd_939 wd_940 wd_188 (by decide) (by decide) (fun σ_1 => ?_)
  refine V_dup 4 rfl (show decode M_Tape_textFor.2.1 3 = .ok (.dup, 1) by decide +kernel) rfl ?_
  refine V_aload_n 5 rfl (show decode M_Tape_textFor.2.1 4 = .ok (.aload_n 0, 1) by decide +kernel) 0 rfl ?_
  refine V_get (j := 7) (v := vI (SI σ_1 h0 7)) 8 rfl ck_Tape (by decide) (by decide) (show decode M_Tape_textFor.2.1 5 = .ok (.getfield 51, 3) by decide +kernel) wd_548 rfl ?_
  refine V_iload_n 9 rfl (show decode M_Tape_textFor.2.1 8 = .ok (.iload_n 1, 1) by decide +kernel) 1 rfl ?_
  refine V_iload_n 10 rfl (show decode M_Tape_textFor.2.1 9 = .ok (.iload_n 2, 1) by decide +kernel) 2 rfl ?_
  refine V_aload_n 11 rfl (show decode M_Tape_textFor.2.1 10 = .ok (.aload_n 0, 1) by decide +kernel) 0 rfl ?_
  refine V_get (j := 10) (v := vI (SI σ_1 h0 10)) 14 rfl ck_Tape (by decide) (by decide) (show decode M_Tape_textFor.2.1 11 = .ok (.getfield 27, 3) by decide +kernel) wd_551 rfl ?_
  refine V_aload_n 15 rfl (show decode M_Tape_textFor.2.1 14 = .ok (.aload_n 0, 1) by decide +kernel) 0 rfl ?_
  refine V_get (j := 8) (v := vR (SR σ_1 h0 8)) 18 rfl ck_Tape (by decide) (by decide) (show decode M_Tape_textFor.2.1 15 = .ok (.getfield 13, 3) by decide +kernel) wd_549 rfl ?_
  refine V_aload_n 19 rfl (show decode M_Tape_textFor.2.1 18 = .ok (.aload_n 0, 1) by decide +kernel) 0 rfl ?_
  refine V_get (j := 9) (v := vI (SI σ_1 h0 9)) 22 rfl ck_Tape (by decide) (by decide) (show decode M_Tape_textFor.2.1 19 = .ok (.getfield 24, 3) by decide +kernel) wd_550 rfl ?_
  refine V_callS (tb := tR) (as := [vR (SR σ_1 h0 8), vI (SI σ_1 h0 9)]) (rest := [vI (SI σ_1 h0 10), vI x2, vI x1, vI (SI σ_1 h0 7), vR (Shn σ), vR (Shn σ)]) (na := 2) 25 rfl (s_Arrays_copyOf (SR σ_1 h0 8) (SI σ_1 h0 9) ((((b && cK σ_1 h0 8) && cK σ_1 h0 8) && cK σ_1 h0 8) && cK σ_1 h0 8) σ_1) rfl rfl (Nat.le_of_ble_eq_true rfl) (cal_Arrays_copyOf _ _ _ _ _ (by decide) (by decide) (by decide)) (show decode M_Tape_textFor.2.1 22 = .ok (.invokestatic 54, 3) by decide +kernel) wd_941 wd_942 (fun r_2 b_2 σ_2 => ?_)
  show V M_Tape_textFor 2 2 101 2 101 tR _ 25 [(0, vR h0), (1, vI x1), (2, vI x2)] [vR r_2, vI (SI σ_1 h0 10), vI x2, vI x1, vI (SI σ_1 h0 7), vR (Shn σ), vR (Shn σ)] b_2 σ_2
  refine V_callIN (tb := tU) (as := [vI (SI σ_1 h0 7), vI x1, vI x2, vI (SI σ_1 h0 10), vR r_2]) (rest := [vR (Shn σ)]) (na := 5) 28 rfl ck_Text (by decide) (s_Text_init (Shn σ) (SI σ_1 h0 7) x1 x2 (SI σ_1 h0 10) r_2 (b_2 && cK σ_2 (Shn σ) 9) σ_2) rfl rfl (Nat.le_of_ble_eq_true rfl) (cal_Text_init _ _ _ _ _ (by decide) (by decide) (by decide)) (show decode M_Tape_textFor.2.1 25 = .ok (.invokespecial 60, 3) by decide +kernel) wd_955 wd_956 rfl rfl (fun r_3 b_3 σ_3 => ?_)
  show V M_Tape_textFor 2 2 101 2 101 tR _ 28 [(0, vR h0), (1, vI x1), (2, vI x2)] [vR (Shn σ)] b_3 σ_3
  exact V_aret rfl (by decide) (by decide) (Or.inl ⟨_, rfl⟩) (show decode M_Tape_textFor.2.1 28 = .ok (.areturn, 1) by decide +kernel)
theorem cal_Tape_textFor (d mc ms k n : Nat) (h1 : 2 + 1 ≤ d) (h2 : k + 2 ≤ mc) (h3 : n + 101 ≤ ms) : Cal M_Tape_textFor 2 2 101 2 d mc ms k n := ⟨wd_938, wd_179, by decide, h1, by decide, h2, h3⟩
abbrev M_Trail_text : MD := (⟨"LongTrail", "text", "(II)I"⟩, prog_1_method_14_code, 5, (some FieldType.int))
def f_Trail_text (h0 : Nat) (x1 : Int32) (x2 : Int32) (b : Bool) (σ : Sto) : Rs Int32 := (bd_ (f_Trail_within x1 (0 : Int32) (3 : Int32) b σ) (fun (r_1 : Int32) (b_1 : Bool) (σ_1 : Sto) => (lt_ (fun (s0_25 : Int32) (b : Bool) (σ : Sto) => (lt_ s0_25 (fun (x3_2 : Int32) => (lt_ (fun (s0_41 : Int32) (b : Bool) (σ : Sto) => (lt_ s0_41 (fun (x4_3 : Int32) => (lt_ (pI σ (SR σ h0 3) 1 (0 : Int32)) (fun (σ_4 : Sto) => (if x3_2 = 0 then (if x4_3 < 0 then (if (SI σ_4 (SR σ_4 (SR σ_4 h0 0) 1) 1) < (12 : Int32) then (bd_ (f_Tape_textFor (SR σ_4 h0 3) x1 x2 (((((((((b && cK σ h0 12) && cK σ (SR σ h0 3) 8) && cK σ_4 h0 12) && cK σ_4 (SR σ_4 h0 0) 11) && cK σ_4 (SR σ_4 (SR σ_4 h0 0) 1) 3) && cK σ_4 h0 12) && cK σ_4 (SR σ_4 h0 0) 11) && cK σ_4 h0 12) && cK σ_4 (SR σ_4 h0 3) 8) σ_4) (fun (r_5 : Nat) (b_5 : Bool) (σ_5 : Sto) => (bd_ (f_Laws_add (SR σ_4 (SR σ_4 h0 0) 1) r_5 (b_5 && cK σ_5 (SR σ_4 (SR σ_4 h0 0) 1) 3) σ_5) (fun (r_6 : Int32) (b_6 : Bool) (σ_6 : Sto) => (r_6, b_6, σ_6))))) else ((-1000000003 : Int32), (((((b && cK σ h0 12) && cK σ (SR σ h0 3) 8) && cK σ_4 h0 12) && cK σ_4 (SR σ_4 h0 0) 11) && cK σ_4 (SR σ_4 (SR σ_4 h0 0) 1) 3), σ_4)) else (((-100 : Int32) - x4_3), ((b && cK σ h0 12) && cK σ (SR σ h0 3) 8), σ_4)) else ((-1000000001 : Int32), ((b && cK σ h0 12) && cK σ (SR σ h0 3) 8), σ_4))))))) (fun J41 => (if x3_2 = 0 then (bd_ (f_Tape_readText (SR σ h0 3) ((b && cK σ h0 12) && cK σ (SR σ h0 3) 8) σ) (fun (r_7 : Int32) (b_7 : Bool) (σ_7 : Sto) => (J41 r_7 b_7 σ_7))) else (J41 (-1 : Int32) b σ))))))) (fun J25 => (lt_ (fun (b : Bool) (σ : Sto) => (J25 (1 : Int32) b σ)) (fun J20 => (if r_1 = 0 then (J20 b_1 σ_1) else (bd_ (f_Trail_within x2 (0 : Int32) (999 : Int32) b_1 σ_1) (fun (r_8 : Int32) (b_8 : Bool) (σ_8 : Sto) => (if r_8 = 0 then (J20 b_8 σ_8) else (J25 (0 : Int32) b_8 σ_8)))))))))))
set_option maxRecDepth 100000 in
set_option maxHeartbeats 4000000 in
theorem s_Trail_text : ∀ (h0 : Nat) (x1 : Int32) (x2 : Int32) (b : Bool) (σ : Sto), Snd M_Trail_text 128 2 101 [vR h0, vI x1, vI x2] b σ (tI (f_Trail_text h0 x1 x2 b σ).1) (f_Trail_text h0 x1 x2 b σ).2.1 (f_Trail_text h0 x1 x2 b σ).2.2 := by
  intro h0 x1 x2 b σ
  refine Snd_of (tv := tI) (by decide) (Nat.le_of_ble_eq_true rfl) ?_
  show V M_Trail_text 128 2 101 0 0 tI (f_Trail_text h0 x1 x2 b σ) 0 [(0, vR h0), (1, vI x1), (2, vI x2)] [] b σ
  unfold f_Trail_text
  refine V_iload_n 1 rfl (show decode M_Trail_text.2.1 0 = .ok (.iload_n 1, 1) by decide +kernel) 1 rfl ?_
  refine V_iconst 2 rfl (show decode M_Trail_text.2.1 1 = .ok (.iconst 0, 1) by decide +kernel) (v := 0) rfl ?_
  refine V_iconst 3 rfl (show decode M_Trail_text.2.1 2 = .ok (.iconst 3, 1) by decide +kernel) (v := 3) rfl ?_
  refine V_callS (tb := tI) (as := [vI x1, vI (0 : Int32), vI (3 : Int32)]) (rest := []) (na := 3) 6 rfl (s_Trail_within x1 (0 : Int32) (3 : Int32) b σ) rfl rfl (Nat.le_of_ble_eq_true rfl) (cal_Trail_within _ _ _ _ _ (by decide) (by decide) (by decide)) (show decode M_Trail_text.2.1 3 = .ok (.invokestatic 40, 3) by decide +kernel) wd_628 wd_629 (fun r_1 b_1 σ_1 => ?_)
  show V M_Trail_text 128 2 101 0 0 tI _ 6 [(0, vR h0), (1, vI x1), (2, vI x2)] [vI r_1] b_1 σ_1
  refine V_jn (fun (J25 : Int32 → Bool → Sto → Rs Int32) => ∀ (s0_25 : Int32) (b : Bool) (σ : Sto), V M_Trail_text 128 2 101 0 0 tI (J25 s0_25 b σ) 25 [(0, vR h0), (1, vI x1), (2, vI x2)] [vI s0_25] b σ) ?_ (fun J25 hJ25 => ?_)
  · intro s0_25 b σ
    refine V_istore_n (fun x3_2 => [(3, vI x3_2), (0, vR h0), (1, vI x1), (2, vI x2)]) 26 rfl (show decode M_Trail_text.2.1 25 = .ok (.istore_n 3, 1) by decide +kernel) (by decide) (fun _ => rfl) (fun x3_2 => ?_)
    refine V_iload_n 27 rfl (show decode M_Trail_text.2.1 26 = .ok (.iload_n 3, 1) by decide +kernel) 0 rfl ?_
    refine V_jn (fun (J41 : Int32 → Bool → Sto → Rs Int32) => ∀ (s0_41 : Int32) (b : Bool) (σ : Sto), V M_Trail_text 128 2 101 0 0 tI (J41 s0_41 b σ) 41 [(0, vR h0), (1, vI x1), (2, vI x2), (3, vI x3_2)] [vI s0_41] b σ) ?_ (fun J41 hJ41 => ?_)
    · intro s0_41 b σ
      refine V_istore (fun x4_3 => [(4, vI x4_3), (0, vR h0), (1, vI x1), (2, vI x2), (3, vI x3_2)]) 43 rfl (show decode M_Trail_text.2.1 41 = .ok (.istore 4, 2) by decide +kernel) (by decide) (fun _ => rfl) (fun x4_3 => ?_)
      refine V_aload_n 44 rfl (show decode M_Trail_text.2.1 43 = .ok (.aload_n 0, 1) by decide +kernel) 1 rfl ?_
      refine V_get (j := 3) (v := vR (SR σ h0 3)) 47 rfl ck_Trail (by decide) (by decide) (show decode M_Trail_text.2.1 44 = .ok (.getfield 25, 3) by decide +kernel) wd_602 rfl ?_
      refine V_iconst 48 rfl (show decode M_Trail_text.2.1 47 = .ok (.iconst 0, 1) by decide +kernel) (v := 0) rfl ?_
      refine V_putIN (j := 1) 51 rfl ck_Tape (by decide) (by decide) (show decode M_Trail_text.2.1 48 = .ok (.putfield 147, 3) by decide +kernel) wd_542 rfl (fun _ => rfl) rfl rfl (fun σ_4 => ?_)
      refine V_iload_n 52 rfl (show decode M_Trail_text.2.1 51 = .ok (.iload_n 3, 1) by decide +kernel) 4 rfl ?_
      refine V_ifeq 55 58 rfl (show decode M_Trail_text.2.1 52 = .ok (.ifCond .eq 6, 3) by decide +kernel) rfl ?_ ?_
      · skip
        refine V_iload 60 rfl (show decode M_Trail_text.2.1 58 = .ok (.iload 4, 2) by decide +kernel) 0 rfl ?_
        refine V_iflt 63 69 rfl (show decode M_Trail_text.2.1 60 = .ok (.ifCond .lt 9, 3) by decide +kernel) rfl ?_ ?_
        · skip
          refine V_aload_n 70 rfl (show decode M_Trail_text.2.1 69 = .ok (.aload_n 0, 1) by decide +kernel) 1 rfl ?_
          refine V_get (j := 0) (v := vR (SR σ_4 h0 0)) 73 rfl ck_Trail (by decide) (by decide) (show decode M_Trail_text.2.1 70 = .ok (.getfield 10, 3) by decide +kernel) wd_599 rfl ?_
          refine V_getN (j := 1) (v := vR (SR σ_4 (SR σ_4 h0 0) 1)) 76 rfl ck_World (by decide) (by decide) (show decode M_Trail_text.2.1 73 = .ok (.getfield 158, 3) by decide +kernel) wd_500 rfl ?_
          refine V_getN (j := 1) (v := vI (SI σ_4 (SR σ_4 (SR σ_4 h0 0) 1) 1)) 79 rfl ck_Laws (by decide) (by decide) (show decode M_Trail_text.2.1 76 = .ok (.getfield 162, 3) by decide +kernel) wd_276 rfl ?_
          refine V_bipush 81 rfl (show decode M_Trail_text.2.1 79 = .ok (.bipush 12, 2) by decide +kernel) (v := 12) rfl ?_
          refine V_icmplt 84 87 rfl (show decode M_Trail_text.2.1 81 = .ok (.if_icmp .lt 6, 3) by decide +kernel) rfl ?_ ?_
          · skip
            refine V_aload_n 88 rfl (show decode M_Trail_text.2.1 87 = .ok (.aload_n 0, 1) by decide +kernel) 1 rfl ?_
            refine V_get (j := 0) (v := vR (SR σ_4 h0 0)) 91 rfl ck_Trail (by decide) (by decide) (show decode M_Trail_text.2.1 88 = .ok (.getfield 10, 3) by decide +kernel) wd_599 rfl ?_
            refine V_getN (j := 1) (v := vR (SR σ_4 (SR σ_4 h0 0) 1)) 94 rfl ck_World (by decide) (by decide) (show decode M_Trail_text.2.1 91 = .ok (.getfield 158, 3) by decide +kernel) wd_500 rfl ?_
            refine V_aload_n 95 rfl (show decode M_Trail_text.2.1 94 = .ok (.aload_n 0, 1) by decide +kernel) 1 rfl ?_
            refine V_get (j := 3) (v := vR (SR σ_4 h0 3)) 98 rfl ck_Trail (by decide) (by decide) (show decode M_Trail_text.2.1 95 = .ok (.getfield 25, 3) by decide +kernel) wd_602 rfl ?_
            refine V_iload_n 99 rfl (show decode M_Trail_text.2.1 98 = .ok (.iload_n 1, 1) by decide +kernel) 2 rfl ?_
            refine V_iload_n 100 rfl (show decode M_Trail_text.2.1 99 = .ok (.iload_n 2, 1) by decide +kernel) 3 rfl ?_
            refine V_callVN (tb := tR) (as := [vI x1, vI x2]) (rest := [vR (SR σ_4 (SR σ_4 h0 0) 1)]) (na := 2) 103 rfl ck_Tape (by decide) (s_Tape_textFor (SR σ_4 h0 3) x1 x2 (((((((((b && cK σ h0 12) && cK σ (SR σ h0 3) 8) && cK σ_4 h0 12) && cK σ_4 (SR σ_4 h0 0) 11) && cK σ_4 (SR σ_4 (SR σ_4 h0 0) 1) 3) && cK σ_4 h0 12) && cK σ_4 (SR σ_4 h0 0) 11) && cK σ_4 h0 12) && cK σ_4 (SR σ_4 h0 3) 8) σ_4) rfl rfl (Nat.le_of_ble_eq_true rfl) (cal_Tape_textFor _ _ _ _ _ (by decide) (by decide) (by decide)) (show decode M_Trail_text.2.1 100 = .ok (.invokevirtual 165, 3) by decide +kernel) wd_935 wd_937 wd_30 (fun r_5 b_5 σ_5 => ?_)
            show V M_Trail_text 128 2 101 2 101 tI _ 103 [(4, vI x4_3), (0, vR h0), (1, vI x1), (2, vI x2), (3, vI x3_2)] [vR r_5, vR (SR σ_4 (SR σ_4 h0 0) 1)] b_5 σ_5
            refine V_callVN (tb := tI) (as := [vR r_5]) (rest := []) (na := 1) 106 rfl ck_Laws (by decide) (s_Laws_add (SR σ_4 (SR σ_4 h0 0) 1) r_5 (b_5 && cK σ_5 (SR σ_4 (SR σ_4 h0 0) 1) 3) σ_5) rfl rfl (Nat.le_of_ble_eq_true rfl) (cal_Laws_add _ _ _ _ _ (by decide) (by decide) (by decide)) (show decode M_Trail_text.2.1 103 = .ok (.invokevirtual 169, 3) by decide +kernel) wd_983 wd_985 wd_31 (fun r_6 b_6 σ_6 => ?_)
            show V M_Trail_text 128 2 101 2 101 tI _ 106 [(4, vI x4_3), (0, vR h0), (1, vI x1), (2, vI x2), (3, vI x3_2)] [vI r_6] b_6 σ_6
            exact V_iret rfl (by decide) (by decide) (show decode M_Trail_text.2.1 106 = .ok (.ireturn, 1) by decide +kernel)
          · skip
            refine V_ldc 86 rfl (show decode M_Trail_text.2.1 84 = .ok (.ldc 84, 2) by decide +kernel) wd_657 ?_
            exact V_iret rfl (by decide) (by decide) (show decode M_Trail_text.2.1 86 = .ok (.ireturn, 1) by decide +kernel)
        · skip
          refine V_bipush 65 rfl (show decode M_Trail_text.2.1 63 = .ok (.bipush (-100), 2) by decide +kernel) (v := -100) rfl ?_
          refine V_iload 67 rfl (show decode M_Trail_text.2.1 65 = .ok (.iload 4, 2) by decide +kernel) 0 rfl ?_
          refine V_isub 68 rfl (show decode M_Trail_text.2.1 67 = .ok (.isub, 1) by decide +kernel) ?_
          exact V_iret rfl (by decide) (by decide) (show decode M_Trail_text.2.1 68 = .ok (.ireturn, 1) by decide +kernel)
      · skip
        refine V_ldc 57 rfl (show decode M_Trail_text.2.1 55 = .ok (.ldc 44, 2) by decide +kernel) wd_631 ?_
        exact V_iret rfl (by decide) (by decide) (show decode M_Trail_text.2.1 57 = .ok (.ireturn, 1) by decide +kernel)
    · skip
      refine V_ifeq 30 34 rfl (show decode M_Trail_text.2.1 27 = .ok (.ifCond .eq 7, 3) by decide +kernel) rfl ?_ ?_
      · skip
        refine V_aload_n 35 rfl (show decode M_Trail_text.2.1 34 = .ok (.aload_n 0, 1) by decide +kernel) 1 rfl ?_
        refine V_get (j := 3) (v := vR (SR σ h0 3)) 38 rfl ck_Trail (by decide) (by decide) (show decode M_Trail_text.2.1 35 = .ok (.getfield 25, 3) by decide +kernel) wd_602 rfl ?_
        refine V_callVN (tb := tI) (as := []) (rest := []) (na := 0) 41 rfl ck_Tape (by decide) (s_Tape_readText (SR σ h0 3) ((b && cK σ h0 12) && cK σ (SR σ h0 3) 8) σ) rfl rfl (Nat.le_of_ble_eq_true rfl) (cal_Tape_readText _ _ _ _ _ (by decide) (by decide) (by decide)) (show decode M_Trail_text.2.1 38 = .ok (.invokevirtual 154, 3) by decide +kernel) wd_760 wd_762 wd_17 (fun r_7 b_7 σ_7 => ?_)
        show V M_Trail_text 128 2 101 0 0 tI _ 41 [(3, vI x3_2), (0, vR h0), (1, vI x1), (2, vI x2)] [vI r_7] b_7 σ_7
        exact V_sub [1, 2, 3, 0] rfl (hJ41 r_7 b_7 σ_7)
      · skip
        refine V_iconst 31 rfl (show decode M_Trail_text.2.1 30 = .ok (.iconst (-1), 1) by decide +kernel) (v := -1) rfl ?_
        refine V_goto 41 (show decode M_Trail_text.2.1 31 = .ok (.goto 10, 3) by decide +kernel) rfl ?_
        exact V_sub [1, 2, 3, 0] rfl (hJ41 (-1 : Int32) b σ)
  · skip
    refine V_jn (fun (J20 : Bool → Sto → Rs Int32) => ∀ (b : Bool) (σ : Sto), V M_Trail_text 128 2 101 0 0 tI (J20 b σ) 20 [(0, vR h0), (1, vI x1), (2, vI x2)] [] b σ) ?_ (fun J20 hJ20 => ?_)
    · intro b σ
      refine V_iconst 21 rfl (show decode M_Trail_text.2.1 20 = .ok (.iconst 1, 1) by decide +kernel) (v := 1) rfl ?_
      refine V_goto 25 (show decode M_Trail_text.2.1 21 = .ok (.goto 4, 3) by decide +kernel) rfl ?_
      exact V_sub [0, 1, 2] rfl (hJ25 (1 : Int32) b σ)
    · skip
      refine V_ifeq 9 20 rfl (show decode M_Trail_text.2.1 6 = .ok (.ifCond .eq 14, 3) by decide +kernel) rfl ?_ ?_
      · skip
        exact V_sub [0, 1, 2] rfl (hJ20 b_1 σ_1)
      · skip
        refine V_iload_n 10 rfl (show decode M_Trail_text.2.1 9 = .ok (.iload_n 2, 1) by decide +kernel) 2 rfl ?_
        refine V_iconst 11 rfl (show decode M_Trail_text.2.1 10 = .ok (.iconst 0, 1) by decide +kernel) (v := 0) rfl ?_
        refine V_sipush 14 rfl (show decode M_Trail_text.2.1 11 = .ok (.sipush 999, 3) by decide +kernel) (v := 999) rfl ?_
        refine V_callS (tb := tI) (as := [vI x2, vI (0 : Int32), vI (999 : Int32)]) (rest := []) (na := 3) 17 rfl (s_Trail_within x2 (0 : Int32) (999 : Int32) b_1 σ_1) rfl rfl (Nat.le_of_ble_eq_true rfl) (cal_Trail_within _ _ _ _ _ (by decide) (by decide) (by decide)) (show decode M_Trail_text.2.1 14 = .ok (.invokestatic 40, 3) by decide +kernel) wd_628 wd_629 (fun r_8 b_8 σ_8 => ?_)
        show V M_Trail_text 128 2 101 0 0 tI _ 17 [(0, vR h0), (1, vI x1), (2, vI x2)] [vI r_8] b_8 σ_8
        refine V_ifne 20 24 rfl (show decode M_Trail_text.2.1 17 = .ok (.ifCond .ne 7, 3) by decide +kernel) rfl ?_ ?_
        · skip
          exact V_sub [0, 1, 2] rfl (hJ20 b_8 σ_8)
        · skip
          refine V_iconst 25 rfl (show decode M_Trail_text.2.1 24 = .ok (.iconst 0, 1) by decide +kernel) (v := 0) rfl ?_
          exact V_sub [0, 1, 2] rfl (hJ25 (0 : Int32) b_8 σ_8)
theorem cal_Trail_text (d mc ms k n : Nat) (h1 : 128 + 1 ≤ d) (h2 : k + 2 ≤ mc) (h3 : n + 101 ≤ ms) : Cal M_Trail_text 128 2 101 2 d mc ms k n := ⟨wd_759, wd_170, by decide, h1, by decide, h2, h3⟩
abbrev M_Post_openIn : MD := (⟨"LongTrail$Post", "openIn", "(I)I"⟩, prog_6_method_7_code, 4, (some FieldType.int))
def b_Post_openIn_4 (h0 : Nat) (x1 : Int32) (L4 : Int32 → Int32 → Bool → Sto → Rs Int32) (x2 : Int32) (x3 : Int32) (b : Bool) (σ : Sto) : Rs Int32 := (if x3 < (SI σ h0 5) then (lt_ (fun (s0_37 : Int32) (s1_37 : Int32) (b : Bool) (σ : Sto) => (lt_ (s1_37 + s0_37) (fun (x2_3 : Int32) => (lt_ (x3 + (1 : Int32)) (fun (x3_4 : Int32) => (L4 x2_3 x3_4 b σ)))))) (fun J37 => (lt_ (fun (s0_36 : Int32) (b : Bool) (σ : Sto) => (J37 (0 : Int32) s0_36 b σ)) (fun J36 => (if (SI σ (SR σ h0 4) (ix x3)) = 0 then (if (SI σ (SR σ h0 1) (ix x3)) = x1 then (J37 (1 : Int32) x2 (((((b && cK σ h0 5) && cK σ h0 5) && cA σ (SR σ h0 4) 21 x3) && cK σ h0 5) && cA σ (SR σ h0 1) 21 x3) σ) else (J36 x2 (((((b && cK σ h0 5) && cK σ h0 5) && cA σ (SR σ h0 4) 21 x3) && cK σ h0 5) && cA σ (SR σ h0 1) 21 x3) σ)) else (J36 x2 (((b && cK σ h0 5) && cK σ h0 5) && cA σ (SR σ h0 4) 21 x3) σ)))))) else (x2, (b && cK σ h0 5), σ))
def f_Post_openIn (h0 : Nat) (x1 : Int32) (b : Bool) (σ : Sto) : Rs Int32 := (lt_ (0 : Int32) (fun (x2_1 : Int32) => (lt_ (0 : Int32) (fun (x3_2 : Int32) => (lp_ (b_Post_openIn_4 h0 x1) (fun (x2 : Int32) (x3 : Int32) (b : Bool) (σ : Sto) => (0, false, σ)) fuel_ x2_1 x3_2 b σ)))))
set_option maxRecDepth 100000 in
set_option maxHeartbeats 4000000 in
theorem s_Post_openIn : ∀ (h0 : Nat) (x1 : Int32) (b : Bool) (σ : Sto), Snd M_Post_openIn 1 0 0 [vR h0, vI x1] b σ (tI (f_Post_openIn h0 x1 b σ).1) (f_Post_openIn h0 x1 b σ).2.1 (f_Post_openIn h0 x1 b σ).2.2 := by
  intro h0 x1 b σ
  refine Snd_of (tv := tI) (by decide) (Nat.le_of_ble_eq_true rfl) ?_
  show V M_Post_openIn 1 0 0 0 0 tI (f_Post_openIn h0 x1 b σ) 0 [(0, vR h0), (1, vI x1)] [] b σ
  unfold f_Post_openIn
  refine V_iconst 1 rfl (show decode M_Post_openIn.2.1 0 = .ok (.iconst 0, 1) by decide +kernel) (v := 0) rfl ?_
  refine V_istore_n (fun x2_1 => [(2, vI x2_1), (0, vR h0), (1, vI x1)]) 2 rfl (show decode M_Post_openIn.2.1 1 = .ok (.istore_n 2, 1) by decide +kernel) (by decide) (fun _ => rfl) (fun x2_1 => ?_)
  refine V_iconst 3 rfl (show decode M_Post_openIn.2.1 2 = .ok (.iconst 0, 1) by decide +kernel) (v := 0) rfl ?_
  refine V_istore_n (fun x3_2 => [(3, vI x3_2), (2, vI x2_1), (0, vR h0), (1, vI x1)]) 4 rfl (show decode M_Post_openIn.2.1 3 = .ok (.istore_n 3, 1) by decide +kernel) (by decide) (fun _ => rfl) (fun x3_2 => ?_)
  refine V_sub [2, 3, 1, 0] rfl ?_
  refine lp_P (fun (L4 : Int32 → Int32 → Bool → Sto → Rs Int32) => ∀ (x2 : Int32) (x3 : Int32) (b : Bool) (σ : Sto), V M_Post_openIn 1 0 0 0 0 tI (L4 x2 x3 b σ) 4 [(0, vR h0), (1, vI x1), (2, vI x2), (3, vI x3)] [] b σ) ?_ ?_ fuel_ x2_1 x3_2 b σ
  · intro x2 x3 b σ; exact V_bad
  · intro L4 hL4 x2 x3 b σ
    unfold b_Post_openIn_4
    refine V_iload_n 5 rfl (show decode M_Post_openIn.2.1 4 = .ok (.iload_n 3, 1) by decide +kernel) 3 rfl ?_
    refine V_aload_n 6 rfl (show decode M_Post_openIn.2.1 5 = .ok (.aload_n 0, 1) by decide +kernel) 0 rfl ?_
    refine V_get (j := 5) (v := vI (SI σ h0 5)) 9 rfl ck_Post (by decide) (by decide) (show decode M_Post_openIn.2.1 6 = .ok (.getfield 31, 3) by decide +kernel) wd_307 rfl ?_
    refine V_icmpge 12 45 rfl (show decode M_Post_openIn.2.1 9 = .ok (.if_icmp .ge 36, 3) by decide +kernel) rfl ?_ ?_
    · skip
      refine V_iload_n 13 rfl (show decode M_Post_openIn.2.1 12 = .ok (.iload_n 2, 1) by decide +kernel) 2 rfl ?_
      refine V_aload_n 14 rfl (show decode M_Post_openIn.2.1 13 = .ok (.aload_n 0, 1) by decide +kernel) 0 rfl ?_
      refine V_get (j := 4) (v := vR (SR σ h0 4)) 17 rfl ck_Post (by decide) (by decide) (show decode M_Post_openIn.2.1 14 = .ok (.getfield 22, 3) by decide +kernel) wd_305 rfl ?_
      refine V_iload_n 18 rfl (show decode M_Post_openIn.2.1 17 = .ok (.iload_n 3, 1) by decide +kernel) 3 rfl ?_
      refine V_ald_int 19 rfl (show decode M_Post_openIn.2.1 18 = .ok (.iaload, 1) by decide +kernel) ?_
      refine V_jn (fun (J37 : Int32 → Int32 → Bool → Sto → Rs Int32) => ∀ (s0_37 : Int32) (s1_37 : Int32) (b : Bool) (σ : Sto), V M_Post_openIn 1 0 0 0 0 tI (J37 s0_37 s1_37 b σ) 37 [(0, vR h0), (1, vI x1), (3, vI x3)] [vI s0_37, vI s1_37] b σ) ?_ (fun J37 hJ37 => ?_)
      · intro s0_37 s1_37 b σ
        refine V_iadd 38 rfl (show decode M_Post_openIn.2.1 37 = .ok (.iadd, 1) by decide +kernel) ?_
        refine V_istore_n (fun x2_3 => [(2, vI x2_3), (0, vR h0), (1, vI x1), (3, vI x3)]) 39 rfl (show decode M_Post_openIn.2.1 38 = .ok (.istore_n 2, 1) by decide +kernel) (by decide) (fun _ => rfl) (fun x2_3 => ?_)
        refine V_iinc (fun x3_4 => [(3, vI x3_4), (2, vI x2_3), (0, vR h0), (1, vI x1)]) 42 rfl (show decode M_Post_openIn.2.1 39 = .ok (.iinc 3 1, 3) by decide +kernel) 3 rfl (w := 1) rfl (by decide) (fun _ => rfl) (fun x3_4 => ?_)
        refine V_goto 4 (show decode M_Post_openIn.2.1 42 = .ok (.goto (-38), 3) by decide +kernel) rfl ?_
        exact V_sub [2, 3, 1, 0] rfl (hL4 x2_3 x3_4 b σ)
      · skip
        refine V_jn (fun (J36 : Int32 → Bool → Sto → Rs Int32) => ∀ (s0_36 : Int32) (b : Bool) (σ : Sto), V M_Post_openIn 1 0 0 0 0 tI (J36 s0_36 b σ) 36 [(0, vR h0), (1, vI x1), (3, vI x3)] [vI s0_36] b σ) ?_ (fun J36 hJ36 => ?_)
        · intro s0_36 b σ
          refine V_iconst 37 rfl (show decode M_Post_openIn.2.1 36 = .ok (.iconst 0, 1) by decide +kernel) (v := 0) rfl ?_
          exact V_sub [0, 1, 2] rfl (hJ37 (0 : Int32) s0_36 b σ)
        · skip
          refine V_ifne 22 36 rfl (show decode M_Post_openIn.2.1 19 = .ok (.ifCond .ne 17, 3) by decide +kernel) rfl ?_ ?_
          · skip
            refine V_aload_n 23 rfl (show decode M_Post_openIn.2.1 22 = .ok (.aload_n 0, 1) by decide +kernel) 0 rfl ?_
            refine V_get (j := 1) (v := vR (SR σ h0 1)) 26 rfl ck_Post (by decide) (by decide) (show decode M_Post_openIn.2.1 23 = .ok (.getfield 13, 3) by decide +kernel) wd_299 rfl ?_
            refine V_iload_n 27 rfl (show decode M_Post_openIn.2.1 26 = .ok (.iload_n 3, 1) by decide +kernel) 3 rfl ?_
            refine V_ald_int 28 rfl (show decode M_Post_openIn.2.1 27 = .ok (.iaload, 1) by decide +kernel) ?_
            refine V_iload_n 29 rfl (show decode M_Post_openIn.2.1 28 = .ok (.iload_n 1, 1) by decide +kernel) 1 rfl ?_
            refine V_icmpne 32 36 rfl (show decode M_Post_openIn.2.1 29 = .ok (.if_icmp .ne 7, 3) by decide +kernel) rfl ?_ ?_
            · skip
              refine V_iconst 33 rfl (show decode M_Post_openIn.2.1 32 = .ok (.iconst 1, 1) by decide +kernel) (v := 1) rfl ?_
              refine V_goto 37 (show decode M_Post_openIn.2.1 33 = .ok (.goto 4, 3) by decide +kernel) rfl ?_
              exact V_sub [0, 1, 3] rfl (hJ37 (1 : Int32) x2 (((((b && cK σ h0 5) && cK σ h0 5) && cA σ (SR σ h0 4) 21 x3) && cK σ h0 5) && cA σ (SR σ h0 1) 21 x3) σ)
            · skip
              exact V_sub [0, 1, 3] rfl (hJ36 x2 (((((b && cK σ h0 5) && cK σ h0 5) && cA σ (SR σ h0 4) 21 x3) && cK σ h0 5) && cA σ (SR σ h0 1) 21 x3) σ)
          · skip
            exact V_sub [0, 1, 3] rfl (hJ36 x2 (((b && cK σ h0 5) && cK σ h0 5) && cA σ (SR σ h0 4) 21 x3) σ)
    · skip
      refine V_iload_n 46 rfl (show decode M_Post_openIn.2.1 45 = .ok (.iload_n 2, 1) by decide +kernel) 2 rfl ?_
      exact V_iret rfl (by decide) (by decide) (show decode M_Post_openIn.2.1 46 = .ok (.ireturn, 1) by decide +kernel)
theorem cal_Post_openIn (d mc ms k n : Nat) (h1 : 1 + 1 ≤ d) (h2 : k + 0 ≤ mc) (h3 : n + 0 ≤ ms) : Cal M_Post_openIn 1 0 0 1 d mc ms k n := ⟨wd_681, wd_174, by decide, h1, by decide, h2, h3⟩
abbrev M_Trail_told : MD := (⟨"LongTrail", "told", "(II)I"⟩, prog_1_method_4_code, 4, (some FieldType.int))
def f_Trail_told (h0 : Nat) (x1 : Int32) (x2 : Int32) (b : Bool) (σ : Sto) : Rs Int32 := (lt_ (SR σ (SR σ h0 0) 0) (fun (h3_1 : Nat) => (bd_ (f_Ground_hasPlace h3_1 x1 (((b && cK σ h0 12) && cK σ (SR σ h0 0) 11) && cK σ h3_1 2) σ) (fun (r_2 : Int32) (b_2 : Bool) (σ_2 : Sto) => (if r_2 = 0 then ((-1000000001 : Int32), b_2, σ_2) else (if x2 = (0 : Int32) then ((SI σ_2 (SR σ_2 h3_1 0) (ix x1)), ((b_2 && cK σ_2 h3_1 2) && cA σ_2 (SR σ_2 h3_1 0) 21 x1), σ_2) else (if x2 = (1 : Int32) then ((SI σ_2 (SR σ_2 h3_1 1) (ix x1)), ((b_2 && cK σ_2 h3_1 2) && cA σ_2 (SR σ_2 h3_1 1) 21 x1), σ_2) else (if x2 = (2 : Int32) then ((SI σ_2 (SR σ_2 h3_1 2) (ix x1)), ((b_2 && cK σ_2 h3_1 2) && cA σ_2 (SR σ_2 h3_1 2) 21 x1), σ_2) else (if x2 = (3 : Int32) then ((SI σ_2 (SR σ_2 h3_1 3) (ix x1)), ((b_2 && cK σ_2 h3_1 2) && cA σ_2 (SR σ_2 h3_1 3) 21 x1), σ_2) else (if x2 = (4 : Int32) then (bd_ (f_World_walkingAt (SR σ_2 h0 0) (SI σ_2 (SR σ_2 h3_1 1) (ix x1)) ((((b_2 && cK σ_2 h0 12) && cK σ_2 h3_1 2) && cA σ_2 (SR σ_2 h3_1 1) 21 x1) && cK σ_2 (SR σ_2 h0 0) 11) σ_2) (fun (r_3 : Int32) (b_3 : Bool) (σ_3 : Sto) => (r_3, b_3, σ_3))) else (if x2 = (5 : Int32) then (bd_ (f_Post_openIn (SR σ_2 (SR σ_2 h0 0) 2) x1 (((b_2 && cK σ_2 h0 12) && cK σ_2 (SR σ_2 h0 0) 11) && cK σ_2 (SR σ_2 (SR σ_2 h0 0) 2) 5) σ_2) (fun (r_4 : Int32) (b_4 : Bool) (σ_4 : Sto) => (r_4, b_4, σ_4))) else ((-1000000001 : Int32), b_2, σ_2))))))))))))
set_option maxRecDepth 100000 in
set_option maxHeartbeats 4000000 in
theorem s_Trail_told : ∀ (h0 : Nat) (x1 : Int32) (x2 : Int32) (b : Bool) (σ : Sto), Snd M_Trail_told 3 0 0 [vR h0, vI x1, vI x2] b σ (tI (f_Trail_told h0 x1 x2 b σ).1) (f_Trail_told h0 x1 x2 b σ).2.1 (f_Trail_told h0 x1 x2 b σ).2.2 := by
  intro h0 x1 x2 b σ
  refine Snd_of (tv := tI) (by decide) (Nat.le_of_ble_eq_true rfl) ?_
  show V M_Trail_told 3 0 0 0 0 tI (f_Trail_told h0 x1 x2 b σ) 0 [(0, vR h0), (1, vI x1), (2, vI x2)] [] b σ
  unfold f_Trail_told
  refine V_aload_n 1 rfl (show decode M_Trail_told.2.1 0 = .ok (.aload_n 0, 1) by decide +kernel) 0 rfl ?_
  refine V_get (j := 0) (v := vR (SR σ h0 0)) 4 rfl ck_Trail (by decide) (by decide) (show decode M_Trail_told.2.1 1 = .ok (.getfield 10, 3) by decide +kernel) wd_599 rfl ?_
  refine V_getN (j := 0) (v := vR (SR σ (SR σ h0 0) 0)) 7 rfl ck_World (by decide) (by decide) (show decode M_Trail_told.2.1 4 = .ok (.getfield 49, 3) by decide +kernel) wd_498 rfl ?_
  refine V_astore_n (fun h3_1 => [(3, vR h3_1), (0, vR h0), (1, vI x1), (2, vI x2)]) 8 rfl (show decode M_Trail_told.2.1 7 = .ok (.astore_n 3, 1) by decide +kernel) (by decide) (fun _ => rfl) (fun h3_1 => ?_)
  refine V_aload_n 9 rfl (show decode M_Trail_told.2.1 8 = .ok (.aload_n 3, 1) by decide +kernel) 0 rfl ?_
  refine V_iload_n 10 rfl (show decode M_Trail_told.2.1 9 = .ok (.iload_n 1, 1) by decide +kernel) 2 rfl ?_
  refine V_callVN (tb := tI) (as := [vI x1]) (rest := []) (na := 1) 13 rfl ck_Ground (by decide) (s_Ground_hasPlace h3_1 x1 (((b && cK σ h0 12) && cK σ (SR σ h0 0) 11) && cK σ h3_1 2) σ) rfl rfl (Nat.le_of_ble_eq_true rfl) (cal_Ground_hasPlace _ _ _ _ _ (by decide) (by decide) (by decide)) (show decode M_Trail_told.2.1 10 = .ok (.invokevirtual 89, 3) by decide +kernel) wd_666 wd_668 wd_5 (fun r_2 b_2 σ_2 => ?_)
  show V M_Trail_told 3 0 0 0 0 tI _ 13 [(3, vR h3_1), (0, vR h0), (1, vI x1), (2, vI x2)] [vI r_2] b_2 σ_2
  refine V_ifne 16 19 rfl (show decode M_Trail_told.2.1 13 = .ok (.ifCond .ne 6, 3) by decide +kernel) rfl ?_ ?_
  · skip
    refine V_ldc 18 rfl (show decode M_Trail_told.2.1 16 = .ok (.ldc 44, 2) by decide +kernel) wd_631 ?_
    exact V_iret rfl (by decide) (by decide) (show decode M_Trail_told.2.1 18 = .ok (.ireturn, 1) by decide +kernel)
  · skip
    refine V_iload_n 20 rfl (show decode M_Trail_told.2.1 19 = .ok (.iload_n 2, 1) by decide +kernel) 3 rfl ?_
    refine V_ite (fun hs20_0 => ?_) (fun hs20_0 => ?_)
    · refine V_tswIn (off := 40) 60 (show decode M_Trail_told.2.1 20 = .ok (.tableswitch 94 0 5 #[40, 47, 54, 61, 68, 82], 40) by decide +kernel) (by rw [hs20_0]; decide) (by rw [hs20_0]; decide) (by rw [hs20_0]; decide) rfl ?_
      refine V_aload_n 61 rfl (show decode M_Trail_told.2.1 60 = .ok (.aload_n 3, 1) by decide +kernel) 0 rfl ?_
      refine V_getN (j := 0) (v := vR (SR σ_2 h3_1 0)) 64 rfl ck_Ground (by decide) (by decide) (show decode M_Trail_told.2.1 61 = .ok (.getfield 92, 3) by decide +kernel) wd_213 rfl ?_
      refine V_iload_n 65 rfl (show decode M_Trail_told.2.1 64 = .ok (.iload_n 1, 1) by decide +kernel) 2 rfl ?_
      refine V_ald_int 66 rfl (show decode M_Trail_told.2.1 65 = .ok (.iaload, 1) by decide +kernel) ?_
      exact V_iret rfl (by decide) (by decide) (show decode M_Trail_told.2.1 66 = .ok (.ireturn, 1) by decide +kernel)
    refine V_ite (fun hs20_1 => ?_) (fun hs20_1 => ?_)
    · refine V_tswIn (off := 47) 67 (show decode M_Trail_told.2.1 20 = .ok (.tableswitch 94 0 5 #[40, 47, 54, 61, 68, 82], 40) by decide +kernel) (by rw [hs20_1]; decide) (by rw [hs20_1]; decide) (by rw [hs20_1]; decide) rfl ?_
      refine V_aload_n 68 rfl (show decode M_Trail_told.2.1 67 = .ok (.aload_n 3, 1) by decide +kernel) 0 rfl ?_
      refine V_getN (j := 1) (v := vR (SR σ_2 h3_1 1)) 71 rfl ck_Ground (by decide) (by decide) (show decode M_Trail_told.2.1 68 = .ok (.getfield 95, 3) by decide +kernel) wd_215 rfl ?_
      refine V_iload_n 72 rfl (show decode M_Trail_told.2.1 71 = .ok (.iload_n 1, 1) by decide +kernel) 2 rfl ?_
      refine V_ald_int 73 rfl (show decode M_Trail_told.2.1 72 = .ok (.iaload, 1) by decide +kernel) ?_
      exact V_iret rfl (by decide) (by decide) (show decode M_Trail_told.2.1 73 = .ok (.ireturn, 1) by decide +kernel)
    refine V_ite (fun hs20_2 => ?_) (fun hs20_2 => ?_)
    · refine V_tswIn (off := 54) 74 (show decode M_Trail_told.2.1 20 = .ok (.tableswitch 94 0 5 #[40, 47, 54, 61, 68, 82], 40) by decide +kernel) (by rw [hs20_2]; decide) (by rw [hs20_2]; decide) (by rw [hs20_2]; decide) rfl ?_
      refine V_aload_n 75 rfl (show decode M_Trail_told.2.1 74 = .ok (.aload_n 3, 1) by decide +kernel) 0 rfl ?_
      refine V_getN (j := 2) (v := vR (SR σ_2 h3_1 2)) 78 rfl ck_Ground (by decide) (by decide) (show decode M_Trail_told.2.1 75 = .ok (.getfield 98, 3) by decide +kernel) wd_219 rfl ?_
      refine V_iload_n 79 rfl (show decode M_Trail_told.2.1 78 = .ok (.iload_n 1, 1) by decide +kernel) 2 rfl ?_
      refine V_ald_int 80 rfl (show decode M_Trail_told.2.1 79 = .ok (.iaload, 1) by decide +kernel) ?_
      exact V_iret rfl (by decide) (by decide) (show decode M_Trail_told.2.1 80 = .ok (.ireturn, 1) by decide +kernel)
    refine V_ite (fun hs20_3 => ?_) (fun hs20_3 => ?_)
    · refine V_tswIn (off := 61) 81 (show decode M_Trail_told.2.1 20 = .ok (.tableswitch 94 0 5 #[40, 47, 54, 61, 68, 82], 40) by decide +kernel) (by rw [hs20_3]; decide) (by rw [hs20_3]; decide) (by rw [hs20_3]; decide) rfl ?_
      refine V_aload_n 82 rfl (show decode M_Trail_told.2.1 81 = .ok (.aload_n 3, 1) by decide +kernel) 0 rfl ?_
      refine V_getN (j := 3) (v := vR (SR σ_2 h3_1 3)) 85 rfl ck_Ground (by decide) (by decide) (show decode M_Trail_told.2.1 82 = .ok (.getfield 101, 3) by decide +kernel) wd_221 rfl ?_
      refine V_iload_n 86 rfl (show decode M_Trail_told.2.1 85 = .ok (.iload_n 1, 1) by decide +kernel) 2 rfl ?_
      refine V_ald_int 87 rfl (show decode M_Trail_told.2.1 86 = .ok (.iaload, 1) by decide +kernel) ?_
      exact V_iret rfl (by decide) (by decide) (show decode M_Trail_told.2.1 87 = .ok (.ireturn, 1) by decide +kernel)
    refine V_ite (fun hs20_4 => ?_) (fun hs20_4 => ?_)
    · refine V_tswIn (off := 68) 88 (show decode M_Trail_told.2.1 20 = .ok (.tableswitch 94 0 5 #[40, 47, 54, 61, 68, 82], 40) by decide +kernel) (by rw [hs20_4]; decide) (by rw [hs20_4]; decide) (by rw [hs20_4]; decide) rfl ?_
      refine V_aload_n 89 rfl (show decode M_Trail_told.2.1 88 = .ok (.aload_n 0, 1) by decide +kernel) 1 rfl ?_
      refine V_get (j := 0) (v := vR (SR σ_2 h0 0)) 92 rfl ck_Trail (by decide) (by decide) (show decode M_Trail_told.2.1 89 = .ok (.getfield 10, 3) by decide +kernel) wd_599 rfl ?_
      refine V_aload_n 93 rfl (show decode M_Trail_told.2.1 92 = .ok (.aload_n 3, 1) by decide +kernel) 0 rfl ?_
      refine V_getN (j := 1) (v := vR (SR σ_2 h3_1 1)) 96 rfl ck_Ground (by decide) (by decide) (show decode M_Trail_told.2.1 93 = .ok (.getfield 95, 3) by decide +kernel) wd_215 rfl ?_
      refine V_iload_n 97 rfl (show decode M_Trail_told.2.1 96 = .ok (.iload_n 1, 1) by decide +kernel) 2 rfl ?_
      refine V_ald_int 98 rfl (show decode M_Trail_told.2.1 97 = .ok (.iaload, 1) by decide +kernel) ?_
      refine V_callVN (tb := tI) (as := [vI (SI σ_2 (SR σ_2 h3_1 1) (ix x1))]) (rest := []) (na := 1) 101 rfl ck_World (by decide) (s_World_walkingAt (SR σ_2 h0 0) (SI σ_2 (SR σ_2 h3_1 1) (ix x1)) ((((b_2 && cK σ_2 h0 12) && cK σ_2 h3_1 2) && cA σ_2 (SR σ_2 h3_1 1) 21 x1) && cK σ_2 (SR σ_2 h0 0) 11) σ_2) rfl rfl (Nat.le_of_ble_eq_true rfl) (cal_World_walkingAt _ _ _ _ _ (by decide) (by decide) (by decide)) (show decode M_Trail_told.2.1 98 = .ok (.invokevirtual 104, 3) by decide +kernel) wd_670 wd_672 wd_6 (fun r_3 b_3 σ_3 => ?_)
      show V M_Trail_told 3 0 0 0 0 tI _ 101 [(3, vR h3_1), (0, vR h0), (1, vI x1), (2, vI x2)] [vI r_3] b_3 σ_3
      exact V_iret rfl (by decide) (by decide) (show decode M_Trail_told.2.1 101 = .ok (.ireturn, 1) by decide +kernel)
    refine V_ite (fun hs20_5 => ?_) (fun hs20_5 => ?_)
    · refine V_tswIn (off := 82) 102 (show decode M_Trail_told.2.1 20 = .ok (.tableswitch 94 0 5 #[40, 47, 54, 61, 68, 82], 40) by decide +kernel) (by rw [hs20_5]; decide) (by rw [hs20_5]; decide) (by rw [hs20_5]; decide) rfl ?_
      refine V_aload_n 103 rfl (show decode M_Trail_told.2.1 102 = .ok (.aload_n 0, 1) by decide +kernel) 1 rfl ?_
      refine V_get (j := 0) (v := vR (SR σ_2 h0 0)) 106 rfl ck_Trail (by decide) (by decide) (show decode M_Trail_told.2.1 103 = .ok (.getfield 10, 3) by decide +kernel) wd_599 rfl ?_
      refine V_getN (j := 2) (v := vR (SR σ_2 (SR σ_2 h0 0) 2)) 109 rfl ck_World (by decide) (by decide) (show decode M_Trail_told.2.1 106 = .ok (.getfield 107, 3) by decide +kernel) wd_502 rfl ?_
      refine V_iload_n 110 rfl (show decode M_Trail_told.2.1 109 = .ok (.iload_n 1, 1) by decide +kernel) 2 rfl ?_
      refine V_callVN (tb := tI) (as := [vI x1]) (rest := []) (na := 1) 113 rfl ck_Post (by decide) (s_Post_openIn (SR σ_2 (SR σ_2 h0 0) 2) x1 (((b_2 && cK σ_2 h0 12) && cK σ_2 (SR σ_2 h0 0) 11) && cK σ_2 (SR σ_2 (SR σ_2 h0 0) 2) 5) σ_2) rfl rfl (Nat.le_of_ble_eq_true rfl) (cal_Post_openIn _ _ _ _ _ (by decide) (by decide) (by decide)) (show decode M_Trail_told.2.1 110 = .ok (.invokevirtual 111, 3) by decide +kernel) wd_678 wd_680 wd_8 (fun r_4 b_4 σ_4 => ?_)
      show V M_Trail_told 3 0 0 0 0 tI _ 113 [(3, vR h3_1), (0, vR h0), (1, vI x1), (2, vI x2)] [vI r_4] b_4 σ_4
      exact V_iret rfl (by decide) (by decide) (show decode M_Trail_told.2.1 113 = .ok (.ireturn, 1) by decide +kernel)
    · refine V_tswD 114 (show decode M_Trail_told.2.1 20 = .ok (.tableswitch 94 0 5 #[40, 47, 54, 61, 68, 82], 40) by decide +kernel) rfl (by decide) ?_ ?_
      · intro z hz hz2
        have hm : z = 0 ∨ z = 1 ∨ z = 2 ∨ z = 3 ∨ z = 4 ∨ z = 5 := by simp at hz2; omega
        rcases hm with rfl | rfl | rfl | rfl | rfl | rfl
        · exact absurd (Int32.toInt_inj.mp (hz.trans (by decide))) hs20_0
        · exact absurd (Int32.toInt_inj.mp (hz.trans (by decide))) hs20_1
        · exact absurd (Int32.toInt_inj.mp (hz.trans (by decide))) hs20_2
        · exact absurd (Int32.toInt_inj.mp (hz.trans (by decide))) hs20_3
        · exact absurd (Int32.toInt_inj.mp (hz.trans (by decide))) hs20_4
        · exact absurd (Int32.toInt_inj.mp (hz.trans (by decide))) hs20_5
      · skip
        refine V_ldc 116 rfl (show decode M_Trail_told.2.1 114 = .ok (.ldc 44, 2) by decide +kernel) wd_631 ?_
        exact V_iret rfl (by decide) (by decide) (show decode M_Trail_told.2.1 116 = .ok (.ireturn, 1) by decide +kernel)
theorem cal_Trail_told (d mc ms k n : Nat) (h1 : 3 + 1 ≤ d) (h2 : k + 0 ≤ mc) (h3 : n + 0 ≤ ms) : Cal M_Trail_told 3 0 0 2 d mc ms k n := ⟨wd_665, wd_170, by decide, h1, by decide, h2, h3⟩
abbrev M_Trail_trim : MD := (⟨"LongTrail", "trim", "(I)I"⟩, prog_1_method_13_code, 2, (some FieldType.int))
def f_Trail_trim (h0 : Nat) (x1 : Int32) (b : Bool) (σ : Sto) : Rs Int32 := (bd_ (f_Trail_within x1 (0 : Int32) (SI σ (SR σ h0 3) 1) ((b && cK σ h0 12) && cK σ (SR σ h0 3) 8) σ) (fun (r_1 : Int32) (b_1 : Bool) (σ_1 : Sto) => (if r_1 = 0 then ((-1000000001 : Int32), b_1, σ_1) else (lt_ (pI σ_1 (SR σ_1 h0 3) 1 x1) (fun (σ_2 : Sto) => (x1, ((b_1 && cK σ_1 h0 12) && cK σ_1 (SR σ_1 h0 3) 8), σ_2))))))
set_option maxRecDepth 100000 in
set_option maxHeartbeats 4000000 in
theorem s_Trail_trim : ∀ (h0 : Nat) (x1 : Int32) (b : Bool) (σ : Sto), Snd M_Trail_trim 2 0 0 [vR h0, vI x1] b σ (tI (f_Trail_trim h0 x1 b σ).1) (f_Trail_trim h0 x1 b σ).2.1 (f_Trail_trim h0 x1 b σ).2.2 := by
  intro h0 x1 b σ
  refine Snd_of (tv := tI) (by decide) (Nat.le_of_ble_eq_true rfl) ?_
  show V M_Trail_trim 2 0 0 0 0 tI (f_Trail_trim h0 x1 b σ) 0 [(0, vR h0), (1, vI x1)] [] b σ
  unfold f_Trail_trim
  refine V_iload_n 1 rfl (show decode M_Trail_trim.2.1 0 = .ok (.iload_n 1, 1) by decide +kernel) 1 rfl ?_
  refine V_iconst 2 rfl (show decode M_Trail_trim.2.1 1 = .ok (.iconst 0, 1) by decide +kernel) (v := 0) rfl ?_
  refine V_aload_n 3 rfl (show decode M_Trail_trim.2.1 2 = .ok (.aload_n 0, 1) by decide +kernel) 0 rfl ?_
  refine V_get (j := 3) (v := vR (SR σ h0 3)) 6 rfl ck_Trail (by decide) (by decide) (show decode M_Trail_trim.2.1 3 = .ok (.getfield 25, 3) by decide +kernel) wd_602 rfl ?_
  refine V_getN (j := 1) (v := vI (SI σ (SR σ h0 3) 1)) 9 rfl ck_Tape (by decide) (by decide) (show decode M_Trail_trim.2.1 6 = .ok (.getfield 147, 3) by decide +kernel) wd_542 rfl ?_
  refine V_callS (tb := tI) (as := [vI x1, vI (0 : Int32), vI (SI σ (SR σ h0 3) 1)]) (rest := []) (na := 3) 12 rfl (s_Trail_within x1 (0 : Int32) (SI σ (SR σ h0 3) 1) ((b && cK σ h0 12) && cK σ (SR σ h0 3) 8) σ) rfl rfl (Nat.le_of_ble_eq_true rfl) (cal_Trail_within _ _ _ _ _ (by decide) (by decide) (by decide)) (show decode M_Trail_trim.2.1 9 = .ok (.invokestatic 40, 3) by decide +kernel) wd_628 wd_629 (fun r_1 b_1 σ_1 => ?_)
  show V M_Trail_trim 2 0 0 0 0 tI _ 12 [(0, vR h0), (1, vI x1)] [vI r_1] b_1 σ_1
  refine V_ifne 15 18 rfl (show decode M_Trail_trim.2.1 12 = .ok (.ifCond .ne 6, 3) by decide +kernel) rfl ?_ ?_
  · skip
    refine V_ldc 17 rfl (show decode M_Trail_trim.2.1 15 = .ok (.ldc 44, 2) by decide +kernel) wd_631 ?_
    exact V_iret rfl (by decide) (by decide) (show decode M_Trail_trim.2.1 17 = .ok (.ireturn, 1) by decide +kernel)
  · skip
    refine V_aload_n 19 rfl (show decode M_Trail_trim.2.1 18 = .ok (.aload_n 0, 1) by decide +kernel) 0 rfl ?_
    refine V_get (j := 3) (v := vR (SR σ_1 h0 3)) 22 rfl ck_Trail (by decide) (by decide) (show decode M_Trail_trim.2.1 19 = .ok (.getfield 25, 3) by decide +kernel) wd_602 rfl ?_
    refine V_iload_n 23 rfl (show decode M_Trail_trim.2.1 22 = .ok (.iload_n 1, 1) by decide +kernel) 1 rfl ?_
    refine V_putIN (j := 1) 26 rfl ck_Tape (by decide) (by decide) (show decode M_Trail_trim.2.1 23 = .ok (.putfield 147, 3) by decide +kernel) wd_542 rfl (fun _ => rfl) rfl rfl (fun σ_2 => ?_)
    refine V_iload_n 27 rfl (show decode M_Trail_trim.2.1 26 = .ok (.iload_n 1, 1) by decide +kernel) 1 rfl ?_
    exact V_iret rfl (by decide) (by decide) (show decode M_Trail_trim.2.1 27 = .ok (.ireturn, 1) by decide +kernel)
theorem cal_Trail_trim (d mc ms k n : Nat) (h1 : 2 + 1 ≤ d) (h2 : k + 0 ≤ mc) (h3 : n + 0 ≤ ms) : Cal M_Trail_trim 2 0 0 1 d mc ms k n := ⟨wd_755, wd_170, by decide, h1, by decide, h2, h3⟩
abbrev M_Walker_comeNew : MD := (⟨"LongTrail$Walker", "comeNew", "(IIIII)V"⟩, prog_11_method_2_code, 6, (none : Option FieldType))
def f_Walker_comeNew (h0 : Nat) (x1 : Int32) (x2 : Int32) (x3 : Int32) (x4 : Int32) (x5 : Int32) (b : Bool) (σ : Sto) : Rs Unit := (lt_ (pI σ h0 0 x1) (fun (σ_1 : Sto) => (lt_ (pI σ_1 h0 1 x2) (fun (σ_2 : Sto) => (lt_ (pI σ_2 h0 2 x3) (fun (σ_3 : Sto) => (lt_ (pI σ_3 h0 3 x4) (fun (σ_4 : Sto) => (lt_ (pI σ_4 h0 4 x5) (fun (σ_5 : Sto) => (lt_ (pI σ_5 h0 5 (0 : Int32)) (fun (σ_6 : Sto) => (lt_ (pI σ_6 h0 6 (0 : Int32)) (fun (σ_7 : Sto) => (lt_ (pI σ_7 h0 7 (0 : Int32)) (fun (σ_8 : Sto) => (lt_ (pI σ_8 h0 8 (0 : Int32)) (fun (σ_9 : Sto) => (lt_ (pI σ_9 h0 9 (0 : Int32)) (fun (σ_10 : Sto) => (lt_ (pI σ_10 h0 10 (0 : Int32)) (fun (σ_11 : Sto) => (lt_ (pI σ_11 h0 11 (0 : Int32)) (fun (σ_12 : Sto) => (lt_ (pI σ_12 h0 12 (0 : Int32)) (fun (σ_13 : Sto) => (lt_ (pI σ_13 h0 13 (0 : Int32)) (fun (σ_14 : Sto) => (lt_ (pI σ_14 h0 14 (0 : Int32)) (fun (σ_15 : Sto) => (lt_ (pI σ_15 h0 15 (0 : Int32)) (fun (σ_16 : Sto) => (lt_ (pI σ_16 h0 16 (0 : Int32)) (fun (σ_17 : Sto) => (lt_ (pI σ_17 h0 17 (0 : Int32)) (fun (σ_18 : Sto) => ((), ((((((((((((((((((b && cK σ h0 10) && cK σ_1 h0 10) && cK σ_2 h0 10) && cK σ_3 h0 10) && cK σ_4 h0 10) && cK σ_5 h0 10) && cK σ_6 h0 10) && cK σ_7 h0 10) && cK σ_8 h0 10) && cK σ_9 h0 10) && cK σ_10 h0 10) && cK σ_11 h0 10) && cK σ_12 h0 10) && cK σ_13 h0 10) && cK σ_14 h0 10) && cK σ_15 h0 10) && cK σ_16 h0 10) && cK σ_17 h0 10), σ_18)))))))))))))))))))))))))))))))))))))
set_option maxRecDepth 100000 in
set_option maxHeartbeats 4000000 in
theorem s_Walker_comeNew : ∀ (h0 : Nat) (x1 : Int32) (x2 : Int32) (x3 : Int32) (x4 : Int32) (x5 : Int32) (b : Bool) (σ : Sto), Snd M_Walker_comeNew 1 0 0 [vR h0, vI x1, vI x2, vI x3, vI x4, vI x5] b σ (tU (f_Walker_comeNew h0 x1 x2 x3 x4 x5 b σ).1) (f_Walker_comeNew h0 x1 x2 x3 x4 x5 b σ).2.1 (f_Walker_comeNew h0 x1 x2 x3 x4 x5 b σ).2.2 := by
  intro h0 x1 x2 x3 x4 x5 b σ
  refine Snd_of (tv := tU) (by decide) (Nat.le_of_ble_eq_true rfl) ?_
  show V M_Walker_comeNew 1 0 0 0 0 tU (f_Walker_comeNew h0 x1 x2 x3 x4 x5 b σ) 0 [(0, vR h0), (1, vI x1), (2, vI x2), (3, vI x3), (4, vI x4), (5, vI x5)] [] b σ
  unfold f_Walker_comeNew
  refine V_aload_n 1 rfl (show decode M_Walker_comeNew.2.1 0 = .ok (.aload_n 0, 1) by decide +kernel) 0 rfl ?_
  refine V_iload_n 2 rfl (show decode M_Walker_comeNew.2.1 1 = .ok (.iload_n 1, 1) by decide +kernel) 1 rfl ?_
  refine V_putI (j := 0) 5 rfl ck_Walker (by decide) (by decide) (show decode M_Walker_comeNew.2.1 2 = .ok (.putfield 7, 3) by decide +kernel) wd_424 rfl (fun _ => rfl) rfl rfl (fun σ_1 => ?_)
  refine V_aload_n 6 rfl (show decode M_Walker_comeNew.2.1 5 = .ok (.aload_n 0, 1) by decide +kernel) 0 rfl ?_
  refine V_iload_n 7 rfl (show decode M_Walker_comeNew.2.1 6 = .ok (.iload_n 2, 1) by decide +kernel) 2 rfl ?_
  refine V_putI (j := 1) 10 rfl ck_Walker (by decide) (by decide) (show decode M_Walker_comeNew.2.1 7 = .ok (.putfield 13, 3) by decide +kernel) wd_425 rfl (fun _ => rfl) rfl rfl (fun σ_2 => ?_)
  refine V_aload_n 11 rfl (show decode M_Walker_comeNew.2.1 10 = .ok (.aload_n 0, 1) by decide +kernel) 0 rfl ?_
  refine V_iload_n 12 rfl (show decode M_Walker_comeNew.2.1 11 = .ok (.iload_n 3, 1) by decide +kernel) 3 rfl ?_
  refine V_putI (j := 2) 15 rfl ck_Walker (by decide) (by decide) (show decode M_Walker_comeNew.2.1 12 = .ok (.putfield 16, 3) by decide +kernel) wd_427 rfl (fun _ => rfl) rfl rfl (fun σ_3 => ?_)
  refine V_aload_n 16 rfl (show decode M_Walker_comeNew.2.1 15 = .ok (.aload_n 0, 1) by decide +kernel) 0 rfl ?_
  refine V_iload 18 rfl (show decode M_Walker_comeNew.2.1 16 = .ok (.iload 4, 2) by decide +kernel) 4 rfl ?_
  refine V_putI (j := 3) 21 rfl ck_Walker (by decide) (by decide) (show decode M_Walker_comeNew.2.1 18 = .ok (.putfield 19, 3) by decide +kernel) wd_428 rfl (fun _ => rfl) rfl rfl (fun σ_4 => ?_)
  refine V_aload_n 22 rfl (show decode M_Walker_comeNew.2.1 21 = .ok (.aload_n 0, 1) by decide +kernel) 0 rfl ?_
  refine V_iload 24 rfl (show decode M_Walker_comeNew.2.1 22 = .ok (.iload 5, 2) by decide +kernel) 5 rfl ?_
  refine V_putI (j := 4) 27 rfl ck_Walker (by decide) (by decide) (show decode M_Walker_comeNew.2.1 24 = .ok (.putfield 22, 3) by decide +kernel) wd_429 rfl (fun _ => rfl) rfl rfl (fun σ_5 => ?_)
  refine V_aload_n 28 rfl (show decode M_Walker_comeNew.2.1 27 = .ok (.aload_n 0, 1) by decide +kernel) 0 rfl ?_
  refine V_iconst 29 rfl (show decode M_Walker_comeNew.2.1 28 = .ok (.iconst 0, 1) by decide +kernel) (v := 0) rfl ?_
  refine V_putI (j := 5) 32 rfl ck_Walker (by decide) (by decide) (show decode M_Walker_comeNew.2.1 29 = .ok (.putfield 25, 3) by decide +kernel) wd_430 rfl (fun _ => rfl) rfl rfl (fun σ_6 => ?_)
  refine V_aload_n 33 rfl (show decode M_Walker_comeNew.2.1 32 = .ok (.aload_n 0, 1) by decide +kernel) 0 rfl ?_
  refine V_iconst 34 rfl (show decode M_Walker_comeNew.2.1 33 = .ok (.iconst 0, 1) by decide +kernel) (v := 0) rfl ?_
  refine V_putI (j := 6) 37 rfl ck_Walker (by decide) (by decide) (show decode M_Walker_comeNew.2.1 34 = .ok (.putfield 28, 3) by decide +kernel) wd_433 rfl (fun _ => rfl) rfl rfl (fun σ_7 => ?_)
  refine V_aload_n 38 rfl (show decode M_Walker_comeNew.2.1 37 = .ok (.aload_n 0, 1) by decide +kernel) 0 rfl ?_
  refine V_iconst 39 rfl (show decode M_Walker_comeNew.2.1 38 = .ok (.iconst 0, 1) by decide +kernel) (v := 0) rfl ?_
  refine V_putI (j := 7) 42 rfl ck_Walker (by decide) (by decide) (show decode M_Walker_comeNew.2.1 39 = .ok (.putfield 31, 3) by decide +kernel) wd_436 rfl (fun _ => rfl) rfl rfl (fun σ_8 => ?_)
  refine V_aload_n 43 rfl (show decode M_Walker_comeNew.2.1 42 = .ok (.aload_n 0, 1) by decide +kernel) 0 rfl ?_
  refine V_iconst 44 rfl (show decode M_Walker_comeNew.2.1 43 = .ok (.iconst 0, 1) by decide +kernel) (v := 0) rfl ?_
  refine V_putI (j := 8) 47 rfl ck_Walker (by decide) (by decide) (show decode M_Walker_comeNew.2.1 44 = .ok (.putfield 34, 3) by decide +kernel) wd_439 rfl (fun _ => rfl) rfl rfl (fun σ_9 => ?_)
  refine V_aload_n 48 rfl (show decode M_Walker_comeNew.2.1 47 = .ok (.aload_n 0, 1) by decide +kernel) 0 rfl ?_
  refine V_iconst 49 rfl (show decode M_Walker_comeNew.2.1 48 = .ok (.iconst 0, 1) by decide +kernel) (v := 0) rfl ?_
  refine V_putI (j := 9) 52 rfl ck_Walker (by decide) (by decide) (show decode M_Walker_comeNew.2.1 49 = .ok (.putfield 37, 3) by decide +kernel) wd_441 rfl (fun _ => rfl) rfl rfl (fun σ_10 => ?_)
  refine V_aload_n 53 rfl (show decode M_Walker_comeNew.2.1 52 = .ok (.aload_n 0, 1) by decide +kernel) 0 rfl ?_
  refine V_iconst 54 rfl (show decode M_Walker_comeNew.2.1 53 = .ok (.iconst 0, 1) by decide +kernel) (v := 0) rfl ?_
  refine V_putI (j := 10) 57 rfl ck_Walker (by decide) (by decide) (show decode M_Walker_comeNew.2.1 54 = .ok (.putfield 40, 3) by decide +kernel) wd_443 rfl (fun _ => rfl) rfl rfl (fun σ_11 => ?_)
  refine V_aload_n 58 rfl (show decode M_Walker_comeNew.2.1 57 = .ok (.aload_n 0, 1) by decide +kernel) 0 rfl ?_
  refine V_iconst 59 rfl (show decode M_Walker_comeNew.2.1 58 = .ok (.iconst 0, 1) by decide +kernel) (v := 0) rfl ?_
  refine V_putI (j := 11) 62 rfl ck_Walker (by decide) (by decide) (show decode M_Walker_comeNew.2.1 59 = .ok (.putfield 43, 3) by decide +kernel) wd_444 rfl (fun _ => rfl) rfl rfl (fun σ_12 => ?_)
  refine V_aload_n 63 rfl (show decode M_Walker_comeNew.2.1 62 = .ok (.aload_n 0, 1) by decide +kernel) 0 rfl ?_
  refine V_iconst 64 rfl (show decode M_Walker_comeNew.2.1 63 = .ok (.iconst 0, 1) by decide +kernel) (v := 0) rfl ?_
  refine V_putI (j := 12) 67 rfl ck_Walker (by decide) (by decide) (show decode M_Walker_comeNew.2.1 64 = .ok (.putfield 46, 3) by decide +kernel) wd_446 rfl (fun _ => rfl) rfl rfl (fun σ_13 => ?_)
  refine V_aload_n 68 rfl (show decode M_Walker_comeNew.2.1 67 = .ok (.aload_n 0, 1) by decide +kernel) 0 rfl ?_
  refine V_iconst 69 rfl (show decode M_Walker_comeNew.2.1 68 = .ok (.iconst 0, 1) by decide +kernel) (v := 0) rfl ?_
  refine V_putI (j := 13) 72 rfl ck_Walker (by decide) (by decide) (show decode M_Walker_comeNew.2.1 69 = .ok (.putfield 49, 3) by decide +kernel) wd_449 rfl (fun _ => rfl) rfl rfl (fun σ_14 => ?_)
  refine V_aload_n 73 rfl (show decode M_Walker_comeNew.2.1 72 = .ok (.aload_n 0, 1) by decide +kernel) 0 rfl ?_
  refine V_iconst 74 rfl (show decode M_Walker_comeNew.2.1 73 = .ok (.iconst 0, 1) by decide +kernel) (v := 0) rfl ?_
  refine V_putI (j := 14) 77 rfl ck_Walker (by decide) (by decide) (show decode M_Walker_comeNew.2.1 74 = .ok (.putfield 52, 3) by decide +kernel) wd_452 rfl (fun _ => rfl) rfl rfl (fun σ_15 => ?_)
  refine V_aload_n 78 rfl (show decode M_Walker_comeNew.2.1 77 = .ok (.aload_n 0, 1) by decide +kernel) 0 rfl ?_
  refine V_iconst 79 rfl (show decode M_Walker_comeNew.2.1 78 = .ok (.iconst 0, 1) by decide +kernel) (v := 0) rfl ?_
  refine V_putI (j := 15) 82 rfl ck_Walker (by decide) (by decide) (show decode M_Walker_comeNew.2.1 79 = .ok (.putfield 55, 3) by decide +kernel) wd_454 rfl (fun _ => rfl) rfl rfl (fun σ_16 => ?_)
  refine V_aload_n 83 rfl (show decode M_Walker_comeNew.2.1 82 = .ok (.aload_n 0, 1) by decide +kernel) 0 rfl ?_
  refine V_iconst 84 rfl (show decode M_Walker_comeNew.2.1 83 = .ok (.iconst 0, 1) by decide +kernel) (v := 0) rfl ?_
  refine V_putI (j := 16) 87 rfl ck_Walker (by decide) (by decide) (show decode M_Walker_comeNew.2.1 84 = .ok (.putfield 58, 3) by decide +kernel) wd_456 rfl (fun _ => rfl) rfl rfl (fun σ_17 => ?_)
  refine V_aload_n 88 rfl (show decode M_Walker_comeNew.2.1 87 = .ok (.aload_n 0, 1) by decide +kernel) 0 rfl ?_
  refine V_iconst 89 rfl (show decode M_Walker_comeNew.2.1 88 = .ok (.iconst 0, 1) by decide +kernel) (v := 0) rfl ?_
  refine V_putI (j := 17) 92 rfl ck_Walker (by decide) (by decide) (show decode M_Walker_comeNew.2.1 89 = .ok (.putfield 61, 3) by decide +kernel) wd_458 rfl (fun _ => rfl) rfl rfl (fun σ_18 => ?_)
  exact V_vret rfl (by decide) (by decide) (show decode M_Walker_comeNew.2.1 92 = .ok (.return_, 1) by decide +kernel)
theorem cal_Walker_comeNew (d mc ms k n : Nat) (h1 : 1 + 1 ≤ d) (h2 : k + 0 ≤ mc) (h3 : n + 0 ≤ ms) : Cal M_Walker_comeNew 1 0 0 5 d mc ms k n := ⟨wd_1011, wd_178, by decide, h1, by decide, h2, h3⟩
abbrev M_Trail_walker : MD := (⟨"LongTrail", "walker", "(IIIII)I"⟩, prog_1_method_17_code, 6, (some FieldType.int))
def f_Trail_walker (h0 : Nat) (x1 : Int32) (x2 : Int32) (x3 : Int32) (x4 : Int32) (x5 : Int32) (b : Bool) (σ : Sto) : Rs Int32 := (bd_ (f_Trail_within x1 (SI σ (SR σ h0 0) 8) (999 : Int32) ((b && cK σ h0 12) && cK σ (SR σ h0 0) 11) σ) (fun (r_1 : Int32) (b_1 : Bool) (σ_1 : Sto) => (lt_ (fun (b : Bool) (σ : Sto) => ((-1000000001 : Int32), b, σ)) (fun J36 => (if r_1 = 0 then (J36 b_1 σ_1) else (bd_ (f_Trail_within x2 (1 : Int32) (40 : Int32) b_1 σ_1) (fun (r_2 : Int32) (b_2 : Bool) (σ_2 : Sto) => (if r_2 = 0 then (J36 b_2 σ_2) else (bd_ (f_Trail_within x3 (0 : Int32) (5 : Int32) b_2 σ_2) (fun (r_3 : Int32) (b_3 : Bool) (σ_3 : Sto) => (if r_3 = 0 then (J36 b_3 σ_3) else (bd_ (f_Trail_within x4 (1 : Int32) (20 : Int32) b_3 σ_3) (fun (r_4 : Int32) (b_4 : Bool) (σ_4 : Sto) => (lt_ (fun (b : Bool) (σ : Sto) => ((-1000000001 : Int32), b, σ)) (fun J61 => (if r_4 = 0 then (J61 b_4 σ_4) else (bd_ (f_Trail_within x5 (1 : Int32) (99 : Int32) b_4 σ_4) (fun (r_5 : Int32) (b_5 : Bool) (σ_5 : Sto) => (if r_5 = 0 then (J61 b_5 σ_5) else (if (SI σ_5 (SR σ_5 h0 0) 7) < (10 : Int32) then (bd_ (f_Walker_comeNew (SR σ_5 (SR σ_5 (SR σ_5 h0 0) 6) (ix (SI σ_5 (SR σ_5 h0 0) 7))) x1 x2 x3 x4 x5 ((((((((b_5 && cK σ_5 h0 12) && cK σ_5 (SR σ_5 h0 0) 11) && cK σ_5 h0 12) && cK σ_5 (SR σ_5 h0 0) 11) && cK σ_5 h0 12) && cK σ_5 (SR σ_5 h0 0) 11) && cA σ_5 (SR σ_5 (SR σ_5 h0 0) 6) 26 (SI σ_5 (SR σ_5 h0 0) 7)) && cK σ_5 (SR σ_5 (SR σ_5 (SR σ_5 h0 0) 6) (ix (SI σ_5 (SR σ_5 h0 0) 7))) 10) σ_5) (fun (r_6 : Unit) (b_6 : Bool) (σ_6 : Sto) => (lt_ (pI σ_6 (SR σ_6 h0 0) 7 ((SI σ_6 (SR σ_6 h0 0) 7) + (1 : Int32))) (fun (σ_7 : Sto) => (((SI σ_7 (SR σ_7 h0 0) 7) - (1 : Int32)), (((((b_6 && cK σ_6 h0 12) && cK σ_6 (SR σ_6 h0 0) 11) && cK σ_6 (SR σ_6 h0 0) 11) && cK σ_7 h0 12) && cK σ_7 (SR σ_7 h0 0) 11), σ_7))))) else ((-1000000003 : Int32), ((b_5 && cK σ_5 h0 12) && cK σ_5 (SR σ_5 h0 0) 11), σ_5)))))))))))))))))))))
set_option maxRecDepth 100000 in
set_option maxHeartbeats 4000000 in
theorem s_Trail_walker : ∀ (h0 : Nat) (x1 : Int32) (x2 : Int32) (x3 : Int32) (x4 : Int32) (x5 : Int32) (b : Bool) (σ : Sto), Snd M_Trail_walker 2 0 0 [vR h0, vI x1, vI x2, vI x3, vI x4, vI x5] b σ (tI (f_Trail_walker h0 x1 x2 x3 x4 x5 b σ).1) (f_Trail_walker h0 x1 x2 x3 x4 x5 b σ).2.1 (f_Trail_walker h0 x1 x2 x3 x4 x5 b σ).2.2 := by
  intro h0 x1 x2 x3 x4 x5 b σ
  refine Snd_of (tv := tI) (by decide) (Nat.le_of_ble_eq_true rfl) ?_
  show V M_Trail_walker 2 0 0 0 0 tI (f_Trail_walker h0 x1 x2 x3 x4 x5 b σ) 0 [(0, vR h0), (1, vI x1), (2, vI x2), (3, vI x3), (4, vI x4), (5, vI x5)] [] b σ
  unfold f_Trail_walker
  refine V_iload_n 1 rfl (show decode M_Trail_walker.2.1 0 = .ok (.iload_n 1, 1) by decide +kernel) 1 rfl ?_
  refine V_aload_n 2 rfl (show decode M_Trail_walker.2.1 1 = .ok (.aload_n 0, 1) by decide +kernel) 0 rfl ?_
  refine V_get (j := 0) (v := vR (SR σ h0 0)) 5 rfl ck_Trail (by decide) (by decide) (show decode M_Trail_walker.2.1 2 = .ok (.getfield 10, 3) by decide +kernel) wd_599 rfl ?_
  refine V_getN (j := 8) (v := vI (SI σ (SR σ h0 0) 8)) 8 rfl ck_World (by decide) (by decide) (show decode M_Trail_walker.2.1 5 = .ok (.getfield 138, 3) by decide +kernel) wd_514 rfl ?_
  refine V_sipush 11 rfl (show decode M_Trail_walker.2.1 8 = .ok (.sipush 999, 3) by decide +kernel) (v := 999) rfl ?_
  refine V_callS (tb := tI) (as := [vI x1, vI (SI σ (SR σ h0 0) 8), vI (999 : Int32)]) (rest := []) (na := 3) 14 rfl (s_Trail_within x1 (SI σ (SR σ h0 0) 8) (999 : Int32) ((b && cK σ h0 12) && cK σ (SR σ h0 0) 11) σ) rfl rfl (Nat.le_of_ble_eq_true rfl) (cal_Trail_within _ _ _ _ _ (by decide) (by decide) (by decide)) (show decode M_Trail_walker.2.1 11 = .ok (.invokestatic 40, 3) by decide +kernel) wd_628 wd_629 (fun r_1 b_1 σ_1 => ?_)
  show V M_Trail_walker 2 0 0 0 0 tI _ 14 [(0, vR h0), (1, vI x1), (2, vI x2), (3, vI x3), (4, vI x4), (5, vI x5)] [vI r_1] b_1 σ_1
  refine V_jn (fun (J36 : Bool → Sto → Rs Int32) => ∀ (b : Bool) (σ : Sto), V M_Trail_walker 2 0 0 0 0 tI (J36 b σ) 36 [] [] b σ) ?_ (fun J36 hJ36 => ?_)
  · intro b σ
    refine V_ldc 38 rfl (show decode M_Trail_walker.2.1 36 = .ok (.ldc 44, 2) by decide +kernel) wd_631 ?_
    exact V_iret rfl (by decide) (by decide) (show decode M_Trail_walker.2.1 38 = .ok (.ireturn, 1) by decide +kernel)
  · skip
    refine V_ifeq 17 36 rfl (show decode M_Trail_walker.2.1 14 = .ok (.ifCond .eq 22, 3) by decide +kernel) rfl ?_ ?_
    · skip
      exact V_sub [] rfl (hJ36 b_1 σ_1)
    · skip
      refine V_iload_n 18 rfl (show decode M_Trail_walker.2.1 17 = .ok (.iload_n 2, 1) by decide +kernel) 2 rfl ?_
      refine V_iconst 19 rfl (show decode M_Trail_walker.2.1 18 = .ok (.iconst 1, 1) by decide +kernel) (v := 1) rfl ?_
      refine V_bipush 21 rfl (show decode M_Trail_walker.2.1 19 = .ok (.bipush 40, 2) by decide +kernel) (v := 40) rfl ?_
      refine V_callS (tb := tI) (as := [vI x2, vI (1 : Int32), vI (40 : Int32)]) (rest := []) (na := 3) 24 rfl (s_Trail_within x2 (1 : Int32) (40 : Int32) b_1 σ_1) rfl rfl (Nat.le_of_ble_eq_true rfl) (cal_Trail_within _ _ _ _ _ (by decide) (by decide) (by decide)) (show decode M_Trail_walker.2.1 21 = .ok (.invokestatic 40, 3) by decide +kernel) wd_628 wd_629 (fun r_2 b_2 σ_2 => ?_)
      show V M_Trail_walker 2 0 0 0 0 tI _ 24 [(0, vR h0), (1, vI x1), (2, vI x2), (3, vI x3), (4, vI x4), (5, vI x5)] [vI r_2] b_2 σ_2
      refine V_ifeq 27 36 rfl (show decode M_Trail_walker.2.1 24 = .ok (.ifCond .eq 12, 3) by decide +kernel) rfl ?_ ?_
      · skip
        exact V_sub [] rfl (hJ36 b_2 σ_2)
      · skip
        refine V_iload_n 28 rfl (show decode M_Trail_walker.2.1 27 = .ok (.iload_n 3, 1) by decide +kernel) 3 rfl ?_
        refine V_iconst 29 rfl (show decode M_Trail_walker.2.1 28 = .ok (.iconst 0, 1) by decide +kernel) (v := 0) rfl ?_
        refine V_iconst 30 rfl (show decode M_Trail_walker.2.1 29 = .ok (.iconst 5, 1) by decide +kernel) (v := 5) rfl ?_
        refine V_callS (tb := tI) (as := [vI x3, vI (0 : Int32), vI (5 : Int32)]) (rest := []) (na := 3) 33 rfl (s_Trail_within x3 (0 : Int32) (5 : Int32) b_2 σ_2) rfl rfl (Nat.le_of_ble_eq_true rfl) (cal_Trail_within _ _ _ _ _ (by decide) (by decide) (by decide)) (show decode M_Trail_walker.2.1 30 = .ok (.invokestatic 40, 3) by decide +kernel) wd_628 wd_629 (fun r_3 b_3 σ_3 => ?_)
        show V M_Trail_walker 2 0 0 0 0 tI _ 33 [(0, vR h0), (1, vI x1), (2, vI x2), (3, vI x3), (4, vI x4), (5, vI x5)] [vI r_3] b_3 σ_3
        refine V_ifne 36 39 rfl (show decode M_Trail_walker.2.1 33 = .ok (.ifCond .ne 6, 3) by decide +kernel) rfl ?_ ?_
        · skip
          exact V_sub [] rfl (hJ36 b_3 σ_3)
        · skip
          refine V_iload 41 rfl (show decode M_Trail_walker.2.1 39 = .ok (.iload 4, 2) by decide +kernel) 4 rfl ?_
          refine V_iconst 42 rfl (show decode M_Trail_walker.2.1 41 = .ok (.iconst 1, 1) by decide +kernel) (v := 1) rfl ?_
          refine V_bipush 44 rfl (show decode M_Trail_walker.2.1 42 = .ok (.bipush 20, 2) by decide +kernel) (v := 20) rfl ?_
          refine V_callS (tb := tI) (as := [vI x4, vI (1 : Int32), vI (20 : Int32)]) (rest := []) (na := 3) 47 rfl (s_Trail_within x4 (1 : Int32) (20 : Int32) b_3 σ_3) rfl rfl (Nat.le_of_ble_eq_true rfl) (cal_Trail_within _ _ _ _ _ (by decide) (by decide) (by decide)) (show decode M_Trail_walker.2.1 44 = .ok (.invokestatic 40, 3) by decide +kernel) wd_628 wd_629 (fun r_4 b_4 σ_4 => ?_)
          show V M_Trail_walker 2 0 0 0 0 tI _ 47 [(0, vR h0), (1, vI x1), (2, vI x2), (3, vI x3), (4, vI x4), (5, vI x5)] [vI r_4] b_4 σ_4
          refine V_jn (fun (J61 : Bool → Sto → Rs Int32) => ∀ (b : Bool) (σ : Sto), V M_Trail_walker 2 0 0 0 0 tI (J61 b σ) 61 [] [] b σ) ?_ (fun J61 hJ61 => ?_)
          · intro b σ
            refine V_ldc 63 rfl (show decode M_Trail_walker.2.1 61 = .ok (.ldc 44, 2) by decide +kernel) wd_631 ?_
            exact V_iret rfl (by decide) (by decide) (show decode M_Trail_walker.2.1 63 = .ok (.ireturn, 1) by decide +kernel)
          · skip
            refine V_ifeq 50 61 rfl (show decode M_Trail_walker.2.1 47 = .ok (.ifCond .eq 14, 3) by decide +kernel) rfl ?_ ?_
            · skip
              exact V_sub [] rfl (hJ61 b_4 σ_4)
            · skip
              refine V_iload 52 rfl (show decode M_Trail_walker.2.1 50 = .ok (.iload 5, 2) by decide +kernel) 5 rfl ?_
              refine V_iconst 53 rfl (show decode M_Trail_walker.2.1 52 = .ok (.iconst 1, 1) by decide +kernel) (v := 1) rfl ?_
              refine V_bipush 55 rfl (show decode M_Trail_walker.2.1 53 = .ok (.bipush 99, 2) by decide +kernel) (v := 99) rfl ?_
              refine V_callS (tb := tI) (as := [vI x5, vI (1 : Int32), vI (99 : Int32)]) (rest := []) (na := 3) 58 rfl (s_Trail_within x5 (1 : Int32) (99 : Int32) b_4 σ_4) rfl rfl (Nat.le_of_ble_eq_true rfl) (cal_Trail_within _ _ _ _ _ (by decide) (by decide) (by decide)) (show decode M_Trail_walker.2.1 55 = .ok (.invokestatic 40, 3) by decide +kernel) wd_628 wd_629 (fun r_5 b_5 σ_5 => ?_)
              show V M_Trail_walker 2 0 0 0 0 tI _ 58 [(0, vR h0), (1, vI x1), (2, vI x2), (3, vI x3), (4, vI x4), (5, vI x5)] [vI r_5] b_5 σ_5
              refine V_ifne 61 64 rfl (show decode M_Trail_walker.2.1 58 = .ok (.ifCond .ne 6, 3) by decide +kernel) rfl ?_ ?_
              · skip
                exact V_sub [] rfl (hJ61 b_5 σ_5)
              · skip
                refine V_aload_n 65 rfl (show decode M_Trail_walker.2.1 64 = .ok (.aload_n 0, 1) by decide +kernel) 0 rfl ?_
                refine V_get (j := 0) (v := vR (SR σ_5 h0 0)) 68 rfl ck_Trail (by decide) (by decide) (show decode M_Trail_walker.2.1 65 = .ok (.getfield 10, 3) by decide +kernel) wd_599 rfl ?_
                refine V_getN (j := 7) (v := vI (SI σ_5 (SR σ_5 h0 0) 7)) 71 rfl ck_World (by decide) (by decide) (show decode M_Trail_walker.2.1 68 = .ok (.getfield 45, 3) by decide +kernel) wd_511 rfl ?_
                refine V_bipush 73 rfl (show decode M_Trail_walker.2.1 71 = .ok (.bipush 10, 2) by decide +kernel) (v := 10) rfl ?_
                refine V_icmplt 76 79 rfl (show decode M_Trail_walker.2.1 73 = .ok (.if_icmp .lt 6, 3) by decide +kernel) rfl ?_ ?_
                · skip
                  refine V_aload_n 80 rfl (show decode M_Trail_walker.2.1 79 = .ok (.aload_n 0, 1) by decide +kernel) 0 rfl ?_
                  refine V_get (j := 0) (v := vR (SR σ_5 h0 0)) 83 rfl ck_Trail (by decide) (by decide) (show decode M_Trail_walker.2.1 80 = .ok (.getfield 10, 3) by decide +kernel) wd_599 rfl ?_
                  refine V_getN (j := 6) (v := vR (SR σ_5 (SR σ_5 h0 0) 6)) 86 rfl ck_World (by decide) (by decide) (show decode M_Trail_walker.2.1 83 = .ok (.getfield 194, 3) by decide +kernel) wd_510 rfl ?_
                  refine V_aload_n 87 rfl (show decode M_Trail_walker.2.1 86 = .ok (.aload_n 0, 1) by decide +kernel) 0 rfl ?_
                  refine V_get (j := 0) (v := vR (SR σ_5 h0 0)) 90 rfl ck_Trail (by decide) (by decide) (show decode M_Trail_walker.2.1 87 = .ok (.getfield 10, 3) by decide +kernel) wd_599 rfl ?_
                  refine V_getN (j := 7) (v := vI (SI σ_5 (SR σ_5 h0 0) 7)) 93 rfl ck_World (by decide) (by decide) (show decode M_Trail_walker.2.1 90 = .ok (.getfield 45, 3) by decide +kernel) wd_511 rfl ?_
                  refine V_ald_r26 94 rfl (show decode M_Trail_walker.2.1 93 = .ok (.aaload, 1) by decide +kernel) ?_
                  refine V_iload_n 95 rfl (show decode M_Trail_walker.2.1 94 = .ok (.iload_n 1, 1) by decide +kernel) 1 rfl ?_
                  refine V_iload_n 96 rfl (show decode M_Trail_walker.2.1 95 = .ok (.iload_n 2, 1) by decide +kernel) 2 rfl ?_
                  refine V_iload_n 97 rfl (show decode M_Trail_walker.2.1 96 = .ok (.iload_n 3, 1) by decide +kernel) 3 rfl ?_
                  refine V_iload 99 rfl (show decode M_Trail_walker.2.1 97 = .ok (.iload 4, 2) by decide +kernel) 4 rfl ?_
                  refine V_iload 101 rfl (show decode M_Trail_walker.2.1 99 = .ok (.iload 5, 2) by decide +kernel) 5 rfl ?_
                  refine V_callVN (tb := tU) (as := [vI x1, vI x2, vI x3, vI x4, vI x5]) (rest := []) (na := 5) 104 rfl ck_Walker (by decide) (s_Walker_comeNew (SR σ_5 (SR σ_5 (SR σ_5 h0 0) 6) (ix (SI σ_5 (SR σ_5 h0 0) 7))) x1 x2 x3 x4 x5 ((((((((b_5 && cK σ_5 h0 12) && cK σ_5 (SR σ_5 h0 0) 11) && cK σ_5 h0 12) && cK σ_5 (SR σ_5 h0 0) 11) && cK σ_5 h0 12) && cK σ_5 (SR σ_5 h0 0) 11) && cA σ_5 (SR σ_5 (SR σ_5 h0 0) 6) 26 (SI σ_5 (SR σ_5 h0 0) 7)) && cK σ_5 (SR σ_5 (SR σ_5 (SR σ_5 h0 0) 6) (ix (SI σ_5 (SR σ_5 h0 0) 7))) 10) σ_5) rfl rfl (Nat.le_of_ble_eq_true rfl) (cal_Walker_comeNew _ _ _ _ _ (by decide) (by decide) (by decide)) (show decode M_Trail_walker.2.1 101 = .ok (.invokevirtual 198, 3) by decide +kernel) wd_1008 wd_1010 wd_34 (fun r_6 b_6 σ_6 => ?_)
                  show V M_Trail_walker 2 0 0 0 0 tI _ 104 [(0, vR h0), (1, vI x1), (2, vI x2), (3, vI x3), (4, vI x4), (5, vI x5)] [] b_6 σ_6
                  refine V_aload_n 105 rfl (show decode M_Trail_walker.2.1 104 = .ok (.aload_n 0, 1) by decide +kernel) 0 rfl ?_
                  refine V_get (j := 0) (v := vR (SR σ_6 h0 0)) 108 rfl ck_Trail (by decide) (by decide) (show decode M_Trail_walker.2.1 105 = .ok (.getfield 10, 3) by decide +kernel) wd_599 rfl ?_
                  refine V_dup 109 rfl (show decode M_Trail_walker.2.1 108 = .ok (.dup, 1) by decide +kernel) rfl ?_
                  refine V_getN (j := 7) (v := vI (SI σ_6 (SR σ_6 h0 0) 7)) 112 rfl ck_World (by decide) (by decide) (show decode M_Trail_walker.2.1 109 = .ok (.getfield 45, 3) by decide +kernel) wd_511 rfl ?_
                  refine V_iconst 113 rfl (show decode M_Trail_walker.2.1 112 = .ok (.iconst 1, 1) by decide +kernel) (v := 1) rfl ?_
                  refine V_iadd 114 rfl (show decode M_Trail_walker.2.1 113 = .ok (.iadd, 1) by decide +kernel) ?_
                  refine V_putIN (j := 7) 117 rfl ck_World (by decide) (by decide) (show decode M_Trail_walker.2.1 114 = .ok (.putfield 45, 3) by decide +kernel) wd_511 rfl (fun _ => rfl) rfl rfl (fun σ_7 => ?_)
                  refine V_aload_n 118 rfl (show decode M_Trail_walker.2.1 117 = .ok (.aload_n 0, 1) by decide +kernel) 0 rfl ?_
                  refine V_get (j := 0) (v := vR (SR σ_7 h0 0)) 121 rfl ck_Trail (by decide) (by decide) (show decode M_Trail_walker.2.1 118 = .ok (.getfield 10, 3) by decide +kernel) wd_599 rfl ?_
                  refine V_getN (j := 7) (v := vI (SI σ_7 (SR σ_7 h0 0) 7)) 124 rfl ck_World (by decide) (by decide) (show decode M_Trail_walker.2.1 121 = .ok (.getfield 45, 3) by decide +kernel) wd_511 rfl ?_
                  refine V_iconst 125 rfl (show decode M_Trail_walker.2.1 124 = .ok (.iconst 1, 1) by decide +kernel) (v := 1) rfl ?_
                  refine V_isub 126 rfl (show decode M_Trail_walker.2.1 125 = .ok (.isub, 1) by decide +kernel) ?_
                  exact V_iret rfl (by decide) (by decide) (show decode M_Trail_walker.2.1 126 = .ok (.ireturn, 1) by decide +kernel)
                · skip
                  refine V_ldc 78 rfl (show decode M_Trail_walker.2.1 76 = .ok (.ldc 84, 2) by decide +kernel) wd_657 ?_
                  exact V_iret rfl (by decide) (by decide) (show decode M_Trail_walker.2.1 78 = .ok (.ireturn, 1) by decide +kernel)
theorem cal_Trail_walker (d mc ms k n : Nat) (h1 : 2 + 1 ≤ d) (h2 : k + 0 ≤ mc) (h3 : n + 0 ≤ ms) : Cal M_Trail_walker 2 0 0 5 d mc ms k n := ⟨wd_1007, wd_170, by decide, h1, by decide, h2, h3⟩
