/-! methods -/
abbrev M_Model_rideOf : MD := (⟨"LongTrailModel", "rideOf", "(II)I"⟩, prog_14_method_97_code, 6, (some FieldType.int))
def b_Model_rideOf_43 (h0 : Nat) (x2 : Int32) (x3 : Int32) (L34 : Int32 → Bool → Sto → Rs Int32) (L43 : Int32 → Bool → Sto → Rs Int32) (x4 : Int32) (b : Bool) (σ : Sto) : Rs Int32 := (if x4 < (SI σ (SR σ h0 0) (ix (8 : Int32))) then (lt_ ((480 : Int32) + ((3 : Int32) * x4)) (fun (x5_6 : Int32) => (bd_ (f_Model_least (SI σ (SR σ h0 26) (ix (SI σ (SR σ h0 0) (ix x5_6)))) ((SI σ (SR σ h0 26) (ix (SI σ (SR σ h0 0) (ix (x5_6 + (1 : Int32)))))) + (SI σ (SR σ h0 0) (ix (x5_6 + (2 : Int32))))) (((((((((((((((b && cK σ h0 13) && cA σ (SR σ h0 0) 21 (8 : Int32)) && cK σ h0 13) && cK σ h0 13) && cA σ (SR σ h0 0) 21 x5_6) && cK σ h0 13) && cK σ h0 13) && cA σ (SR σ h0 0) 21 x5_6) && cA σ (SR σ h0 26) 21 (SI σ (SR σ h0 0) (ix x5_6))) && cK σ h0 13) && cK σ h0 13) && cA σ (SR σ h0 0) 21 (x5_6 + (1 : Int32))) && cA σ (SR σ h0 26) 21 (SI σ (SR σ h0 0) (ix (x5_6 + (1 : Int32))))) && cK σ h0 13) && cA σ (SR σ h0 0) 21 (x5_6 + (2 : Int32))) σ) (fun (r_7 : Int32) (b_7 : Bool) (σ_7 : Sto) => (lt_ (pI σ_7 (SR σ h0 26) (ix (SI σ (SR σ h0 0) (ix x5_6))) r_7) (fun (σ_8 : Sto) => (bd_ (f_Model_least (SI σ_8 (SR σ_8 h0 26) (ix (SI σ_8 (SR σ_8 h0 0) (ix (x5_6 + (1 : Int32)))))) ((SI σ_8 (SR σ_8 h0 26) (ix (SI σ_8 (SR σ_8 h0 0) (ix x5_6)))) + (SI σ_8 (SR σ_8 h0 0) (ix (x5_6 + (2 : Int32))))) ((((((((((((((b_7 && cA σ_7 (SR σ h0 26) 21 (SI σ (SR σ h0 0) (ix x5_6))) && cK σ_8 h0 13) && cK σ_8 h0 13) && cA σ_8 (SR σ_8 h0 0) 21 (x5_6 + (1 : Int32))) && cK σ_8 h0 13) && cK σ_8 h0 13) && cA σ_8 (SR σ_8 h0 0) 21 (x5_6 + (1 : Int32))) && cA σ_8 (SR σ_8 h0 26) 21 (SI σ_8 (SR σ_8 h0 0) (ix (x5_6 + (1 : Int32))))) && cK σ_8 h0 13) && cK σ_8 h0 13) && cA σ_8 (SR σ_8 h0 0) 21 x5_6) && cA σ_8 (SR σ_8 h0 26) 21 (SI σ_8 (SR σ_8 h0 0) (ix x5_6))) && cK σ_8 h0 13) && cA σ_8 (SR σ_8 h0 0) 21 (x5_6 + (2 : Int32))) σ_8) (fun (r_9 : Int32) (b_9 : Bool) (σ_9 : Sto) => (lt_ (pI σ_9 (SR σ_8 h0 26) (ix (SI σ_8 (SR σ_8 h0 0) (ix (x5_6 + (1 : Int32))))) r_9) (fun (σ_10 : Sto) => (lt_ (x4 + (1 : Int32)) (fun (x4_11 : Int32) => (L43 x4_11 (b_9 && cA σ_9 (SR σ_8 h0 26) 21 (SI σ_8 (SR σ_8 h0 0) (ix (x5_6 + (1 : Int32))))) σ_10))))))))))))) else (lt_ (x3 + (1 : Int32)) (fun (x3_12 : Int32) => (L34 x3_12 ((b && cK σ h0 13) && cA σ (SR σ h0 0) 21 (8 : Int32)) σ))))
def b_Model_rideOf_34 (h0 : Nat) (x2 : Int32) (L34 : Int32 → Bool → Sto → Rs Int32) (x3 : Int32) (b : Bool) (σ : Sto) : Rs Int32 := (if x3 < (16 : Int32) then (lt_ (0 : Int32) (fun (x4_5 : Int32) => (lp_ (b_Model_rideOf_43 h0 x2 x3 L34) (fun (x4 : Int32) (b : Bool) (σ : Sto) => (0, false, σ)) fuel_ x4_5 b σ))) else (if (SI σ (SR σ h0 26) (ix x2)) < (100000 : Int32) then ((SI σ (SR σ h0 26) (ix x2)), ((((b && cK σ h0 13) && cA σ (SR σ h0 26) 21 x2) && cK σ h0 13) && cA σ (SR σ h0 26) 21 x2), σ) else ((-1 : Int32), ((b && cK σ h0 13) && cA σ (SR σ h0 26) 21 x2), σ)))
def b_Model_rideOf_2 (h0 : Nat) (x1 : Int32) (x2 : Int32) (L2 : Int32 → Bool → Sto → Rs Int32) (x3 : Int32) (b : Bool) (σ : Sto) : Rs Int32 := (if x3 < (16 : Int32) then (lt_ (fun (s0_25 : Int32) (s1_25 : Int32) (s2_25 : Nat) (b : Bool) (σ : Sto) => (lt_ (pI σ s2_25 (ix s1_25) s0_25) (fun (σ_2 : Sto) => (lt_ (x3 + (1 : Int32)) (fun (x3_3 : Int32) => (L2 x3_3 (b && cA σ s2_25 21 s1_25) σ_2)))))) (fun J25 => (if x3 = x1 then (J25 (0 : Int32) x3 (SR σ h0 26) (b && cK σ h0 13) σ) else (J25 (100000 : Int32) x3 (SR σ h0 26) (b && cK σ h0 13) σ)))) else (lt_ (0 : Int32) (fun (x3_4 : Int32) => (lp_ (b_Model_rideOf_34 h0 x2) (fun (x3 : Int32) (b : Bool) (σ : Sto) => (0, false, σ)) fuel_ x3_4 b σ))))
def f_Model_rideOf (h0 : Nat) (x1 : Int32) (x2 : Int32) (b : Bool) (σ : Sto) : Rs Int32 := (lt_ (0 : Int32) (fun (x3_1 : Int32) => (lp_ (b_Model_rideOf_2 h0 x1 x2) (fun (x3 : Int32) (b : Bool) (σ : Sto) => (0, false, σ)) fuel_ x3_1 b σ)))
set_option maxRecDepth 100000 in
set_option maxHeartbeats 4000000 in
theorem s_Model_rideOf : ∀ (h0 : Nat) (x1 : Int32) (x2 : Int32) (b : Bool) (σ : Sto), Snd M_Model_rideOf 2 0 0 [vR h0, vI x1, vI x2] b σ (tI (f_Model_rideOf h0 x1 x2 b σ).1) (f_Model_rideOf h0 x1 x2 b σ).2.1 (f_Model_rideOf h0 x1 x2 b σ).2.2 := by
  intro h0 x1 x2 b σ
  refine Snd_of (tv := tI) (by decide) (Nat.le_of_ble_eq_true rfl) ?_
  show V M_Model_rideOf 2 0 0 0 0 tI (f_Model_rideOf h0 x1 x2 b σ) 0 [(0, vR h0), (1, vI x1), (2, vI x2)] [] b σ
  unfold f_Model_rideOf
  refine V_iconst 1 rfl (show decode M_Model_rideOf.2.1 0 = .ok (.iconst 0, 1) by decide +kernel) (v := 0) rfl ?_
  refine V_istore_n (fun x3_1 => [(3, vI x3_1), (0, vR h0), (1, vI x1), (2, vI x2)]) 2 rfl (show decode M_Model_rideOf.2.1 1 = .ok (.istore_n 3, 1) by decide +kernel) (by decide) (fun _ => rfl) (fun x3_1 => ?_)
  refine V_sub [1, 2, 3, 0] rfl ?_
  refine lp_P (fun (L2 : Int32 → Bool → Sto → Rs Int32) => ∀ (x3 : Int32) (b : Bool) (σ : Sto), V M_Model_rideOf 2 0 0 0 0 tI (L2 x3 b σ) 2 [(0, vR h0), (1, vI x1), (2, vI x2), (3, vI x3)] [] b σ) ?_ ?_ fuel_ x3_1 b σ
  · intro x3 b σ; exact V_bad
  · intro L2 hL2 x3 b σ
    unfold b_Model_rideOf_2
    refine V_iload_n 3 rfl (show decode M_Model_rideOf.2.1 2 = .ok (.iload_n 3, 1) by decide +kernel) 3 rfl ?_
    refine V_bipush 5 rfl (show decode M_Model_rideOf.2.1 3 = .ok (.bipush 16, 2) by decide +kernel) (v := 16) rfl ?_
    refine V_icmpge 8 32 rfl (show decode M_Model_rideOf.2.1 5 = .ok (.if_icmp .ge 27, 3) by decide +kernel) rfl ?_ ?_
    · skip
      refine V_aload_n 9 rfl (show decode M_Model_rideOf.2.1 8 = .ok (.aload_n 0, 1) by decide +kernel) 0 rfl ?_
      refine V_get (j := 26) (v := vR (SR σ h0 26)) 12 rfl ck_Model (by decide) (by decide) (show decode M_Model_rideOf.2.1 9 = .ok (.getfield 50, 3) by decide +kernel) wd_1530 rfl ?_
      refine V_iload_n 13 rfl (show decode M_Model_rideOf.2.1 12 = .ok (.iload_n 3, 1) by decide +kernel) 3 rfl ?_
      refine V_iload_n 14 rfl (show decode M_Model_rideOf.2.1 13 = .ok (.iload_n 3, 1) by decide +kernel) 3 rfl ?_
      refine V_iload_n 15 rfl (show decode M_Model_rideOf.2.1 14 = .ok (.iload_n 1, 1) by decide +kernel) 1 rfl ?_
      refine V_jn (fun (J25 : Int32 → Int32 → Nat → Bool → Sto → Rs Int32) => ∀ (s0_25 : Int32) (s1_25 : Int32) (s2_25 : Nat) (b : Bool) (σ : Sto), V M_Model_rideOf 2 0 0 0 0 tI (J25 s0_25 s1_25 s2_25 b σ) 25 [(0, vR h0), (1, vI x1), (2, vI x2), (3, vI x3)] [vI s0_25, vI s1_25, vR s2_25] b σ) ?_ (fun J25 hJ25 => ?_)
      · intro s0_25 s1_25 s2_25 b σ
        refine V_ast_int 26 rfl (show decode M_Model_rideOf.2.1 25 = .ok (.iastore, 1) by decide +kernel) (fun σ_2 => ?_)
        refine V_iinc (fun x3_3 => [(3, vI x3_3), (0, vR h0), (1, vI x1), (2, vI x2)]) 29 rfl (show decode M_Model_rideOf.2.1 26 = .ok (.iinc 3 1, 3) by decide +kernel) 3 rfl (w := 1) rfl (by decide) (fun _ => rfl) (fun x3_3 => ?_)
        refine V_goto 2 (show decode M_Model_rideOf.2.1 29 = .ok (.goto (-27), 3) by decide +kernel) rfl ?_
        exact V_sub [1, 2, 3, 0] rfl (hL2 x3_3 (b && cA σ s2_25 21 s1_25) σ_2)
      · skip
        refine V_icmpne 18 22 rfl (show decode M_Model_rideOf.2.1 15 = .ok (.if_icmp .ne 7, 3) by decide +kernel) rfl ?_ ?_
        · skip
          refine V_iconst 19 rfl (show decode M_Model_rideOf.2.1 18 = .ok (.iconst 0, 1) by decide +kernel) (v := 0) rfl ?_
          refine V_goto 25 (show decode M_Model_rideOf.2.1 19 = .ok (.goto 6, 3) by decide +kernel) rfl ?_
          exact V_sub [0, 1, 2, 3] rfl (hJ25 (0 : Int32) x3 (SR σ h0 26) (b && cK σ h0 13) σ)
        · skip
          refine V_ldcw 25 rfl (show decode M_Model_rideOf.2.1 22 = .ok (.ldc_w 357, 3) by decide +kernel) wd_2014 ?_
          exact V_sub [0, 1, 2, 3] rfl (hJ25 (100000 : Int32) x3 (SR σ h0 26) (b && cK σ h0 13) σ)
    · skip
      refine V_iconst 33 rfl (show decode M_Model_rideOf.2.1 32 = .ok (.iconst 0, 1) by decide +kernel) (v := 0) rfl ?_
      refine V_istore_n (fun x3_4 => [(3, vI x3_4), (0, vR h0), (1, vI x1), (2, vI x2)]) 34 rfl (show decode M_Model_rideOf.2.1 33 = .ok (.istore_n 3, 1) by decide +kernel) (by decide) (fun _ => rfl) (fun x3_4 => ?_)
      refine V_sub [1, 3, 0] rfl ?_
      refine lp_P (fun (L34 : Int32 → Bool → Sto → Rs Int32) => ∀ (x3 : Int32) (b : Bool) (σ : Sto), V M_Model_rideOf 2 0 0 0 0 tI (L34 x3 b σ) 34 [(0, vR h0), (2, vI x2), (3, vI x3)] [] b σ) ?_ ?_ fuel_ x3_4 b σ
      · intro x3 b σ; exact V_bad
      · intro L34 hL34 x3 b σ
        unfold b_Model_rideOf_34
        refine V_iload_n 35 rfl (show decode M_Model_rideOf.2.1 34 = .ok (.iload_n 3, 1) by decide +kernel) 2 rfl ?_
        refine V_bipush 37 rfl (show decode M_Model_rideOf.2.1 35 = .ok (.bipush 16, 2) by decide +kernel) (v := 16) rfl ?_
        refine V_icmpge 40 181 rfl (show decode M_Model_rideOf.2.1 37 = .ok (.if_icmp .ge 144, 3) by decide +kernel) rfl ?_ ?_
        · skip
          refine V_iconst 41 rfl (show decode M_Model_rideOf.2.1 40 = .ok (.iconst 0, 1) by decide +kernel) (v := 0) rfl ?_
          refine V_istore (fun x4_5 => [(4, vI x4_5), (0, vR h0), (2, vI x2), (3, vI x3)]) 43 rfl (show decode M_Model_rideOf.2.1 41 = .ok (.istore 4, 2) by decide +kernel) (by decide) (fun _ => rfl) (fun x4_5 => ?_)
          refine V_sub [1, 2, 3, 0] rfl ?_
          refine lp_P (fun (L43 : Int32 → Bool → Sto → Rs Int32) => ∀ (x4 : Int32) (b : Bool) (σ : Sto), V M_Model_rideOf 2 0 0 0 0 tI (L43 x4 b σ) 43 [(0, vR h0), (2, vI x2), (3, vI x3), (4, vI x4)] [] b σ) ?_ ?_ fuel_ x4_5 b σ
          · intro x4 b σ; exact V_bad
          · intro L43 hL43 x4 b σ
            unfold b_Model_rideOf_43
            refine V_iload 45 rfl (show decode M_Model_rideOf.2.1 43 = .ok (.iload 4, 2) by decide +kernel) 3 rfl ?_
            refine V_aload_n 46 rfl (show decode M_Model_rideOf.2.1 45 = .ok (.aload_n 0, 1) by decide +kernel) 0 rfl ?_
            refine V_get (j := 0) (v := vR (SR σ h0 0)) 49 rfl ck_Model (by decide) (by decide) (show decode M_Model_rideOf.2.1 46 = .ok (.getfield 7, 3) by decide +kernel) wd_1504 rfl ?_
            refine V_bipush 51 rfl (show decode M_Model_rideOf.2.1 49 = .ok (.bipush 8, 2) by decide +kernel) (v := 8) rfl ?_
            refine V_ald_int 52 rfl (show decode M_Model_rideOf.2.1 51 = .ok (.iaload, 1) by decide +kernel) ?_
            refine V_icmpge 55 175 rfl (show decode M_Model_rideOf.2.1 52 = .ok (.if_icmp .ge 123, 3) by decide +kernel) rfl ?_ ?_
            · skip
              refine V_sipush 58 rfl (show decode M_Model_rideOf.2.1 55 = .ok (.sipush 480, 3) by decide +kernel) (v := 480) rfl ?_
              refine V_iconst 59 rfl (show decode M_Model_rideOf.2.1 58 = .ok (.iconst 3, 1) by decide +kernel) (v := 3) rfl ?_
              refine V_iload 61 rfl (show decode M_Model_rideOf.2.1 59 = .ok (.iload 4, 2) by decide +kernel) 3 rfl ?_
              refine V_imul 62 rfl (show decode M_Model_rideOf.2.1 61 = .ok (.imul, 1) by decide +kernel) ?_
              refine V_iadd 63 rfl (show decode M_Model_rideOf.2.1 62 = .ok (.iadd, 1) by decide +kernel) ?_
              refine V_istore (fun x5_6 => [(5, vI x5_6), (0, vR h0), (2, vI x2), (3, vI x3), (4, vI x4)]) 65 rfl (show decode M_Model_rideOf.2.1 63 = .ok (.istore 5, 2) by decide +kernel) (by decide) (fun _ => rfl) (fun x5_6 => ?_)
              refine V_aload_n 66 rfl (show decode M_Model_rideOf.2.1 65 = .ok (.aload_n 0, 1) by decide +kernel) 1 rfl ?_
              refine V_get (j := 26) (v := vR (SR σ h0 26)) 69 rfl ck_Model (by decide) (by decide) (show decode M_Model_rideOf.2.1 66 = .ok (.getfield 50, 3) by decide +kernel) wd_1530 rfl ?_
              refine V_aload_n 70 rfl (show decode M_Model_rideOf.2.1 69 = .ok (.aload_n 0, 1) by decide +kernel) 1 rfl ?_
              refine V_get (j := 0) (v := vR (SR σ h0 0)) 73 rfl ck_Model (by decide) (by decide) (show decode M_Model_rideOf.2.1 70 = .ok (.getfield 7, 3) by decide +kernel) wd_1504 rfl ?_
              refine V_iload 75 rfl (show decode M_Model_rideOf.2.1 73 = .ok (.iload 5, 2) by decide +kernel) 0 rfl ?_
              refine V_ald_int 76 rfl (show decode M_Model_rideOf.2.1 75 = .ok (.iaload, 1) by decide +kernel) ?_
              refine V_aload_n 77 rfl (show decode M_Model_rideOf.2.1 76 = .ok (.aload_n 0, 1) by decide +kernel) 1 rfl ?_
              refine V_get (j := 26) (v := vR (SR σ h0 26)) 80 rfl ck_Model (by decide) (by decide) (show decode M_Model_rideOf.2.1 77 = .ok (.getfield 50, 3) by decide +kernel) wd_1530 rfl ?_
              refine V_aload_n 81 rfl (show decode M_Model_rideOf.2.1 80 = .ok (.aload_n 0, 1) by decide +kernel) 1 rfl ?_
              refine V_get (j := 0) (v := vR (SR σ h0 0)) 84 rfl ck_Model (by decide) (by decide) (show decode M_Model_rideOf.2.1 81 = .ok (.getfield 7, 3) by decide +kernel) wd_1504 rfl ?_
              refine V_iload 86 rfl (show decode M_Model_rideOf.2.1 84 = .ok (.iload 5, 2) by decide +kernel) 0 rfl ?_
              refine V_ald_int 87 rfl (show decode M_Model_rideOf.2.1 86 = .ok (.iaload, 1) by decide +kernel) ?_
              refine V_ald_int 88 rfl (show decode M_Model_rideOf.2.1 87 = .ok (.iaload, 1) by decide +kernel) ?_
              refine V_aload_n 89 rfl (show decode M_Model_rideOf.2.1 88 = .ok (.aload_n 0, 1) by decide +kernel) 1 rfl ?_
              refine V_get (j := 26) (v := vR (SR σ h0 26)) 92 rfl ck_Model (by decide) (by decide) (show decode M_Model_rideOf.2.1 89 = .ok (.getfield 50, 3) by decide +kernel) wd_1530 rfl ?_
              refine V_aload_n 93 rfl (show decode M_Model_rideOf.2.1 92 = .ok (.aload_n 0, 1) by decide +kernel) 1 rfl ?_
              refine V_get (j := 0) (v := vR (SR σ h0 0)) 96 rfl ck_Model (by decide) (by decide) (show decode M_Model_rideOf.2.1 93 = .ok (.getfield 7, 3) by decide +kernel) wd_1504 rfl ?_
              refine V_iload 98 rfl (show decode M_Model_rideOf.2.1 96 = .ok (.iload 5, 2) by decide +kernel) 0 rfl ?_
              refine V_iconst 99 rfl (show decode M_Model_rideOf.2.1 98 = .ok (.iconst 1, 1) by decide +kernel) (v := 1) rfl ?_
              refine V_iadd 100 rfl (show decode M_Model_rideOf.2.1 99 = .ok (.iadd, 1) by decide +kernel) ?_
              refine V_ald_int 101 rfl (show decode M_Model_rideOf.2.1 100 = .ok (.iaload, 1) by decide +kernel) ?_
              refine V_ald_int 102 rfl (show decode M_Model_rideOf.2.1 101 = .ok (.iaload, 1) by decide +kernel) ?_
              refine V_aload_n 103 rfl (show decode M_Model_rideOf.2.1 102 = .ok (.aload_n 0, 1) by decide +kernel) 1 rfl ?_
              refine V_get (j := 0) (v := vR (SR σ h0 0)) 106 rfl ck_Model (by decide) (by decide) (show decode M_Model_rideOf.2.1 103 = .ok (.getfield 7, 3) by decide +kernel) wd_1504 rfl ?_
              refine V_iload 108 rfl (show decode M_Model_rideOf.2.1 106 = .ok (.iload 5, 2) by decide +kernel) 0 rfl ?_
              refine V_iconst 109 rfl (show decode M_Model_rideOf.2.1 108 = .ok (.iconst 2, 1) by decide +kernel) (v := 2) rfl ?_
              refine V_iadd 110 rfl (show decode M_Model_rideOf.2.1 109 = .ok (.iadd, 1) by decide +kernel) ?_
              refine V_ald_int 111 rfl (show decode M_Model_rideOf.2.1 110 = .ok (.iaload, 1) by decide +kernel) ?_
              refine V_iadd 112 rfl (show decode M_Model_rideOf.2.1 111 = .ok (.iadd, 1) by decide +kernel) ?_
              refine V_callS (tb := tI) (as := [vI (SI σ (SR σ h0 26) (ix (SI σ (SR σ h0 0) (ix x5_6)))), vI ((SI σ (SR σ h0 26) (ix (SI σ (SR σ h0 0) (ix (x5_6 + (1 : Int32)))))) + (SI σ (SR σ h0 0) (ix (x5_6 + (2 : Int32)))))]) (rest := [vI (SI σ (SR σ h0 0) (ix x5_6)), vR (SR σ h0 26)]) (na := 2) 115 rfl (s_Model_least (SI σ (SR σ h0 26) (ix (SI σ (SR σ h0 0) (ix x5_6)))) ((SI σ (SR σ h0 26) (ix (SI σ (SR σ h0 0) (ix (x5_6 + (1 : Int32)))))) + (SI σ (SR σ h0 0) (ix (x5_6 + (2 : Int32))))) (((((((((((((((b && cK σ h0 13) && cA σ (SR σ h0 0) 21 (8 : Int32)) && cK σ h0 13) && cK σ h0 13) && cA σ (SR σ h0 0) 21 x5_6) && cK σ h0 13) && cK σ h0 13) && cA σ (SR σ h0 0) 21 x5_6) && cA σ (SR σ h0 26) 21 (SI σ (SR σ h0 0) (ix x5_6))) && cK σ h0 13) && cK σ h0 13) && cA σ (SR σ h0 0) 21 (x5_6 + (1 : Int32))) && cA σ (SR σ h0 26) 21 (SI σ (SR σ h0 0) (ix (x5_6 + (1 : Int32))))) && cK σ h0 13) && cA σ (SR σ h0 0) 21 (x5_6 + (2 : Int32))) σ) rfl rfl (Nat.le_of_ble_eq_true rfl) (cal_Model_least _ _ _ _ _ (by decide) (by decide) (by decide)) (show decode M_Model_rideOf.2.1 112 = .ok (.invokestatic 273, 3) by decide +kernel) wd_1866 wd_1867 (fun r_7 b_7 σ_7 => ?_)
              show V M_Model_rideOf 2 0 0 0 0 tI _ 115 [(5, vI x5_6), (0, vR h0), (2, vI x2), (3, vI x3), (4, vI x4)] [vI r_7, vI (SI σ (SR σ h0 0) (ix x5_6)), vR (SR σ h0 26)] b_7 σ_7
              refine V_ast_int 116 rfl (show decode M_Model_rideOf.2.1 115 = .ok (.iastore, 1) by decide +kernel) (fun σ_8 => ?_)
              refine V_aload_n 117 rfl (show decode M_Model_rideOf.2.1 116 = .ok (.aload_n 0, 1) by decide +kernel) 1 rfl ?_
              refine V_get (j := 26) (v := vR (SR σ_8 h0 26)) 120 rfl ck_Model (by decide) (by decide) (show decode M_Model_rideOf.2.1 117 = .ok (.getfield 50, 3) by decide +kernel) wd_1530 rfl ?_
              refine V_aload_n 121 rfl (show decode M_Model_rideOf.2.1 120 = .ok (.aload_n 0, 1) by decide +kernel) 1 rfl ?_
              refine V_get (j := 0) (v := vR (SR σ_8 h0 0)) 124 rfl ck_Model (by decide) (by decide) (show decode M_Model_rideOf.2.1 121 = .ok (.getfield 7, 3) by decide +kernel) wd_1504 rfl ?_
              refine V_iload 126 rfl (show decode M_Model_rideOf.2.1 124 = .ok (.iload 5, 2) by decide +kernel) 0 rfl ?_
              refine V_iconst 127 rfl (show decode M_Model_rideOf.2.1 126 = .ok (.iconst 1, 1) by decide +kernel) (v := 1) rfl ?_
              refine V_iadd 128 rfl (show decode M_Model_rideOf.2.1 127 = .ok (.iadd, 1) by decide +kernel) ?_
              refine V_ald_int 129 rfl (show decode M_Model_rideOf.2.1 128 = .ok (.iaload, 1) by decide +kernel) ?_
              refine V_aload_n 130 rfl (show decode M_Model_rideOf.2.1 129 = .ok (.aload_n 0, 1) by decide +kernel) 1 rfl ?_
              refine V_get (j := 26) (v := vR (SR σ_8 h0 26)) 133 rfl ck_Model (by decide) (by decide) (show decode M_Model_rideOf.2.1 130 = .ok (.getfield 50, 3) by decide +kernel) wd_1530 rfl ?_
              refine V_aload_n 134 rfl (show decode M_Model_rideOf.2.1 133 = .ok (.aload_n 0, 1) by decide +kernel) 1 rfl ?_
              refine V_get (j := 0) (v := vR (SR σ_8 h0 0)) 137 rfl ck_Model (by decide) (by decide) (show decode M_Model_rideOf.2.1 134 = .ok (.getfield 7, 3) by decide +kernel) wd_1504 rfl ?_
              refine V_iload 139 rfl (show decode M_Model_rideOf.2.1 137 = .ok (.iload 5, 2) by decide +kernel) 0 rfl ?_
              refine V_iconst 140 rfl (show decode M_Model_rideOf.2.1 139 = .ok (.iconst 1, 1) by decide +kernel) (v := 1) rfl ?_
              refine V_iadd 141 rfl (show decode M_Model_rideOf.2.1 140 = .ok (.iadd, 1) by decide +kernel) ?_
              refine V_ald_int 142 rfl (show decode M_Model_rideOf.2.1 141 = .ok (.iaload, 1) by decide +kernel) ?_
              refine V_ald_int 143 rfl (show decode M_Model_rideOf.2.1 142 = .ok (.iaload, 1) by decide +kernel) ?_
              refine V_aload_n 144 rfl (show decode M_Model_rideOf.2.1 143 = .ok (.aload_n 0, 1) by decide +kernel) 1 rfl ?_
              refine V_get (j := 26) (v := vR (SR σ_8 h0 26)) 147 rfl ck_Model (by decide) (by decide) (show decode M_Model_rideOf.2.1 144 = .ok (.getfield 50, 3) by decide +kernel) wd_1530 rfl ?_
              refine V_aload_n 148 rfl (show decode M_Model_rideOf.2.1 147 = .ok (.aload_n 0, 1) by decide +kernel) 1 rfl ?_
              refine V_get (j := 0) (v := vR (SR σ_8 h0 0)) 151 rfl ck_Model (by decide) (by decide) (show decode M_Model_rideOf.2.1 148 = .ok (.getfield 7, 3) by decide +kernel) wd_1504 rfl ?_
              refine V_iload 153 rfl (show decode M_Model_rideOf.2.1 151 = .ok (.iload 5, 2) by decide +kernel) 0 rfl ?_
              refine V_ald_int 154 rfl (show decode M_Model_rideOf.2.1 153 = .ok (.iaload, 1) by decide +kernel) ?_
              refine V_ald_int 155 rfl (show decode M_Model_rideOf.2.1 154 = .ok (.iaload, 1) by decide +kernel) ?_
              refine V_aload_n 156 rfl (show decode M_Model_rideOf.2.1 155 = .ok (.aload_n 0, 1) by decide +kernel) 1 rfl ?_
              refine V_get (j := 0) (v := vR (SR σ_8 h0 0)) 159 rfl ck_Model (by decide) (by decide) (show decode M_Model_rideOf.2.1 156 = .ok (.getfield 7, 3) by decide +kernel) wd_1504 rfl ?_
              refine V_iload 161 rfl (show decode M_Model_rideOf.2.1 159 = .ok (.iload 5, 2) by decide +kernel) 0 rfl ?_
              refine V_iconst 162 rfl (show decode M_Model_rideOf.2.1 161 = .ok (.iconst 2, 1) by decide +kernel) (v := 2) rfl ?_
              refine V_iadd 163 rfl (show decode M_Model_rideOf.2.1 162 = .ok (.iadd, 1) by decide +kernel) ?_
              refine V_ald_int 164 rfl (show decode M_Model_rideOf.2.1 163 = .ok (.iaload, 1) by decide +kernel) ?_
              refine V_iadd 165 rfl (show decode M_Model_rideOf.2.1 164 = .ok (.iadd, 1) by decide +kernel) ?_
              refine V_callS (tb := tI) (as := [vI (SI σ_8 (SR σ_8 h0 26) (ix (SI σ_8 (SR σ_8 h0 0) (ix (x5_6 + (1 : Int32)))))), vI ((SI σ_8 (SR σ_8 h0 26) (ix (SI σ_8 (SR σ_8 h0 0) (ix x5_6)))) + (SI σ_8 (SR σ_8 h0 0) (ix (x5_6 + (2 : Int32)))))]) (rest := [vI (SI σ_8 (SR σ_8 h0 0) (ix (x5_6 + (1 : Int32)))), vR (SR σ_8 h0 26)]) (na := 2) 168 rfl (s_Model_least (SI σ_8 (SR σ_8 h0 26) (ix (SI σ_8 (SR σ_8 h0 0) (ix (x5_6 + (1 : Int32)))))) ((SI σ_8 (SR σ_8 h0 26) (ix (SI σ_8 (SR σ_8 h0 0) (ix x5_6)))) + (SI σ_8 (SR σ_8 h0 0) (ix (x5_6 + (2 : Int32))))) ((((((((((((((b_7 && cA σ_7 (SR σ h0 26) 21 (SI σ (SR σ h0 0) (ix x5_6))) && cK σ_8 h0 13) && cK σ_8 h0 13) && cA σ_8 (SR σ_8 h0 0) 21 (x5_6 + (1 : Int32))) && cK σ_8 h0 13) && cK σ_8 h0 13) && cA σ_8 (SR σ_8 h0 0) 21 (x5_6 + (1 : Int32))) && cA σ_8 (SR σ_8 h0 26) 21 (SI σ_8 (SR σ_8 h0 0) (ix (x5_6 + (1 : Int32))))) && cK σ_8 h0 13) && cK σ_8 h0 13) && cA σ_8 (SR σ_8 h0 0) 21 x5_6) && cA σ_8 (SR σ_8 h0 26) 21 (SI σ_8 (SR σ_8 h0 0) (ix x5_6))) && cK σ_8 h0 13) && cA σ_8 (SR σ_8 h0 0) 21 (x5_6 + (2 : Int32))) σ_8) rfl rfl (Nat.le_of_ble_eq_true rfl) (cal_Model_least _ _ _ _ _ (by decide) (by decide) (by decide)) (show decode M_Model_rideOf.2.1 165 = .ok (.invokestatic 273, 3) by decide +kernel) wd_1866 wd_1867 (fun r_9 b_9 σ_9 => ?_)
              show V M_Model_rideOf 2 0 0 0 0 tI _ 168 [(5, vI x5_6), (0, vR h0), (2, vI x2), (3, vI x3), (4, vI x4)] [vI r_9, vI (SI σ_8 (SR σ_8 h0 0) (ix (x5_6 + (1 : Int32)))), vR (SR σ_8 h0 26)] b_9 σ_9
              refine V_ast_int 169 rfl (show decode M_Model_rideOf.2.1 168 = .ok (.iastore, 1) by decide +kernel) (fun σ_10 => ?_)
              refine V_iinc (fun x4_11 => [(4, vI x4_11), (5, vI x5_6), (0, vR h0), (2, vI x2), (3, vI x3)]) 172 rfl (show decode M_Model_rideOf.2.1 169 = .ok (.iinc 4 1, 3) by decide +kernel) 4 rfl (w := 1) rfl (by decide) (fun _ => rfl) (fun x4_11 => ?_)
              refine V_goto 43 (show decode M_Model_rideOf.2.1 172 = .ok (.goto (-129), 3) by decide +kernel) rfl ?_
              exact V_sub [2, 3, 4, 0] rfl (hL43 x4_11 (b_9 && cA σ_9 (SR σ_8 h0 26) 21 (SI σ_8 (SR σ_8 h0 0) (ix (x5_6 + (1 : Int32))))) σ_10)
            · skip
              refine V_iinc (fun x3_12 => [(3, vI x3_12), (0, vR h0), (2, vI x2), (4, vI x4)]) 178 rfl (show decode M_Model_rideOf.2.1 175 = .ok (.iinc 3 1, 3) by decide +kernel) 2 rfl (w := 1) rfl (by decide) (fun _ => rfl) (fun x3_12 => ?_)
              refine V_goto 34 (show decode M_Model_rideOf.2.1 178 = .ok (.goto (-144), 3) by decide +kernel) rfl ?_
              exact V_sub [1, 2, 0] rfl (hL34 x3_12 ((b && cK σ h0 13) && cA σ (SR σ h0 0) 21 (8 : Int32)) σ)
        · skip
          refine V_aload_n 182 rfl (show decode M_Model_rideOf.2.1 181 = .ok (.aload_n 0, 1) by decide +kernel) 0 rfl ?_
          refine V_get (j := 26) (v := vR (SR σ h0 26)) 185 rfl ck_Model (by decide) (by decide) (show decode M_Model_rideOf.2.1 182 = .ok (.getfield 50, 3) by decide +kernel) wd_1530 rfl ?_
          refine V_iload_n 186 rfl (show decode M_Model_rideOf.2.1 185 = .ok (.iload_n 2, 1) by decide +kernel) 1 rfl ?_
          refine V_ald_int 187 rfl (show decode M_Model_rideOf.2.1 186 = .ok (.iaload, 1) by decide +kernel) ?_
          refine V_ldcw 190 rfl (show decode M_Model_rideOf.2.1 187 = .ok (.ldc_w 357, 3) by decide +kernel) wd_2014 ?_
          refine V_icmplt 193 197 rfl (show decode M_Model_rideOf.2.1 190 = .ok (.if_icmp .lt 7, 3) by decide +kernel) rfl ?_ ?_
          · skip
            refine V_aload_n 198 rfl (show decode M_Model_rideOf.2.1 197 = .ok (.aload_n 0, 1) by decide +kernel) 0 rfl ?_
            refine V_get (j := 26) (v := vR (SR σ h0 26)) 201 rfl ck_Model (by decide) (by decide) (show decode M_Model_rideOf.2.1 198 = .ok (.getfield 50, 3) by decide +kernel) wd_1530 rfl ?_
            refine V_iload_n 202 rfl (show decode M_Model_rideOf.2.1 201 = .ok (.iload_n 2, 1) by decide +kernel) 1 rfl ?_
            refine V_ald_int 203 rfl (show decode M_Model_rideOf.2.1 202 = .ok (.iaload, 1) by decide +kernel) ?_
            exact V_iret rfl (by decide) (by decide) (show decode M_Model_rideOf.2.1 203 = .ok (.ireturn, 1) by decide +kernel)
          · skip
            refine V_iconst 194 rfl (show decode M_Model_rideOf.2.1 193 = .ok (.iconst (-1), 1) by decide +kernel) (v := -1) rfl ?_
            refine V_goto 203 (show decode M_Model_rideOf.2.1 194 = .ok (.goto 9, 3) by decide +kernel) rfl ?_
            exact V_iret rfl (by decide) (by decide) (show decode M_Model_rideOf.2.1 203 = .ok (.ireturn, 1) by decide +kernel)
theorem cal_Model_rideOf (d mc ms k n : Nat) (h1 : 2 + 1 ≤ d) (h2 : k + 0 ≤ mc) (h3 : n + 0 ≤ ms) : Cal M_Model_rideOf 2 0 0 2 d mc ms k n := ⟨wd_2013, wd_181, by decide, h1, by decide, h2, h3⟩
abbrev M_Model_minutes : MD := (⟨"LongTrailModel", "minutes", "(II)I"⟩, prog_14_method_98_code, 3, (some FieldType.int))
def f_Model_minutes (h0 : Nat) (x1 : Int32) (x2 : Int32) (b : Bool) (σ : Sto) : Rs Int32 := (bd_ (f_Model_isPlace h0 x1 (b && cK σ h0 13) σ) (fun (r_1 : Int32) (b_1 : Bool) (σ_1 : Sto) => (lt_ (fun (b : Bool) (σ : Sto) => ((-1000000001 : Int32), b, σ)) (fun J16 => (if r_1 = 0 then (J16 b_1 σ_1) else (bd_ (f_Model_isPlace h0 x2 (b_1 && cK σ_1 h0 13) σ_1) (fun (r_2 : Int32) (b_2 : Bool) (σ_2 : Sto) => (if r_2 = 0 then (J16 b_2 σ_2) else (bd_ (f_Model_kindOf h0 x1 (b_2 && cK σ_2 h0 13) σ_2) (fun (r_3 : Int32) (b_3 : Bool) (σ_3 : Sto) => (lt_ (fun (b : Bool) (σ : Sto) => ((-1000000012 : Int32), b, σ)) (fun J49 => (if r_3 = (3 : Int32) then (bd_ (f_Model_kindOf h0 x2 (b_3 && cK σ_3 h0 13) σ_3) (fun (r_4 : Int32) (b_4 : Bool) (σ_4 : Sto) => (if r_4 = (3 : Int32) then (bd_ (f_Model_rideOf h0 x1 x2 (b_4 && cK σ_4 h0 13) σ_4) (fun (r_5 : Int32) (b_5 : Bool) (σ_5 : Sto) => (bd_ (f_Model_orNone r_5 b_5 σ_5) (fun (r_6 : Int32) (b_6 : Bool) (σ_6 : Sto) => (r_6, b_6, σ_6))))) else (J49 b_4 σ_4)))) else (J49 b_3 σ_3))))))))))))))
set_option maxRecDepth 100000 in
set_option maxHeartbeats 4000000 in
theorem s_Model_minutes : ∀ (h0 : Nat) (x1 : Int32) (x2 : Int32) (b : Bool) (σ : Sto), Snd M_Model_minutes 3 0 0 [vR h0, vI x1, vI x2] b σ (tI (f_Model_minutes h0 x1 x2 b σ).1) (f_Model_minutes h0 x1 x2 b σ).2.1 (f_Model_minutes h0 x1 x2 b σ).2.2 := by
  intro h0 x1 x2 b σ
  refine Snd_of (tv := tI) (by decide) (Nat.le_of_ble_eq_true rfl) ?_
  show V M_Model_minutes 3 0 0 0 0 tI (f_Model_minutes h0 x1 x2 b σ) 0 [(0, vR h0), (1, vI x1), (2, vI x2)] [] b σ
  unfold f_Model_minutes
  refine V_aload_n 1 rfl (show decode M_Model_minutes.2.1 0 = .ok (.aload_n 0, 1) by decide +kernel) 0 rfl ?_
  refine V_iload_n 2 rfl (show decode M_Model_minutes.2.1 1 = .ok (.iload_n 1, 1) by decide +kernel) 1 rfl ?_
  refine V_callV (tb := tI) (as := [vI x1]) (rest := []) (na := 1) 5 rfl ck_Model (by decide) (s_Model_isPlace h0 x1 (b && cK σ h0 13) σ) rfl rfl (Nat.le_of_ble_eq_true rfl) (cal_Model_isPlace _ _ _ _ _ (by decide) (by decide) (by decide)) (show decode M_Model_minutes.2.1 2 = .ok (.invokevirtual 123, 3) by decide +kernel) wd_1661 wd_1663 wd_118 (fun r_1 b_1 σ_1 => ?_)
  show V M_Model_minutes 3 0 0 0 0 tI _ 5 [(0, vR h0), (1, vI x1), (2, vI x2)] [vI r_1] b_1 σ_1
  refine V_jn (fun (J16 : Bool → Sto → Rs Int32) => ∀ (b : Bool) (σ : Sto), V M_Model_minutes 3 0 0 0 0 tI (J16 b σ) 16 [] [] b σ) ?_ (fun J16 hJ16 => ?_)
  · intro b σ
    refine V_ldc 18 rfl (show decode M_Model_minutes.2.1 16 = .ok (.ldc 91, 2) by decide +kernel) wd_1620 ?_
    exact V_iret rfl (by decide) (by decide) (show decode M_Model_minutes.2.1 18 = .ok (.ireturn, 1) by decide +kernel)
  · skip
    refine V_ifeq 8 16 rfl (show decode M_Model_minutes.2.1 5 = .ok (.ifCond .eq 11, 3) by decide +kernel) rfl ?_ ?_
    · skip
      exact V_sub [] rfl (hJ16 b_1 σ_1)
    · skip
      refine V_aload_n 9 rfl (show decode M_Model_minutes.2.1 8 = .ok (.aload_n 0, 1) by decide +kernel) 0 rfl ?_
      refine V_iload_n 10 rfl (show decode M_Model_minutes.2.1 9 = .ok (.iload_n 2, 1) by decide +kernel) 2 rfl ?_
      refine V_callV (tb := tI) (as := [vI x2]) (rest := []) (na := 1) 13 rfl ck_Model (by decide) (s_Model_isPlace h0 x2 (b_1 && cK σ_1 h0 13) σ_1) rfl rfl (Nat.le_of_ble_eq_true rfl) (cal_Model_isPlace _ _ _ _ _ (by decide) (by decide) (by decide)) (show decode M_Model_minutes.2.1 10 = .ok (.invokevirtual 123, 3) by decide +kernel) wd_1661 wd_1663 wd_118 (fun r_2 b_2 σ_2 => ?_)
      show V M_Model_minutes 3 0 0 0 0 tI _ 13 [(0, vR h0), (1, vI x1), (2, vI x2)] [vI r_2] b_2 σ_2
      refine V_ifne 16 19 rfl (show decode M_Model_minutes.2.1 13 = .ok (.ifCond .ne 6, 3) by decide +kernel) rfl ?_ ?_
      · skip
        exact V_sub [] rfl (hJ16 b_2 σ_2)
      · skip
        refine V_aload_n 20 rfl (show decode M_Model_minutes.2.1 19 = .ok (.aload_n 0, 1) by decide +kernel) 0 rfl ?_
        refine V_iload_n 21 rfl (show decode M_Model_minutes.2.1 20 = .ok (.iload_n 1, 1) by decide +kernel) 1 rfl ?_
        refine V_callV (tb := tI) (as := [vI x1]) (rest := []) (na := 1) 24 rfl ck_Model (by decide) (s_Model_kindOf h0 x1 (b_2 && cK σ_2 h0 13) σ_2) rfl rfl (Nat.le_of_ble_eq_true rfl) (cal_Model_kindOf _ _ _ _ _ (by decide) (by decide) (by decide)) (show decode M_Model_minutes.2.1 21 = .ok (.invokevirtual 132, 3) by decide +kernel) wd_1685 wd_1687 wd_123 (fun r_3 b_3 σ_3 => ?_)
        show V M_Model_minutes 3 0 0 0 0 tI _ 24 [(0, vR h0), (1, vI x1), (2, vI x2)] [vI r_3] b_3 σ_3
        refine V_iconst 25 rfl (show decode M_Model_minutes.2.1 24 = .ok (.iconst 3, 1) by decide +kernel) (v := 3) rfl ?_
        refine V_jn (fun (J49 : Bool → Sto → Rs Int32) => ∀ (b : Bool) (σ : Sto), V M_Model_minutes 3 0 0 0 0 tI (J49 b σ) 49 [] [] b σ) ?_ (fun J49 hJ49 => ?_)
        · intro b σ
          refine V_ldc 51 rfl (show decode M_Model_minutes.2.1 49 = .ok (.ldc 138, 2) by decide +kernel) wd_1692 ?_
          exact V_iret rfl (by decide) (by decide) (show decode M_Model_minutes.2.1 51 = .ok (.ireturn, 1) by decide +kernel)
        · skip
          refine V_icmpne 28 49 rfl (show decode M_Model_minutes.2.1 25 = .ok (.if_icmp .ne 24, 3) by decide +kernel) rfl ?_ ?_
          · skip
            refine V_aload_n 29 rfl (show decode M_Model_minutes.2.1 28 = .ok (.aload_n 0, 1) by decide +kernel) 0 rfl ?_
            refine V_iload_n 30 rfl (show decode M_Model_minutes.2.1 29 = .ok (.iload_n 2, 1) by decide +kernel) 2 rfl ?_
            refine V_callV (tb := tI) (as := [vI x2]) (rest := []) (na := 1) 33 rfl ck_Model (by decide) (s_Model_kindOf h0 x2 (b_3 && cK σ_3 h0 13) σ_3) rfl rfl (Nat.le_of_ble_eq_true rfl) (cal_Model_kindOf _ _ _ _ _ (by decide) (by decide) (by decide)) (show decode M_Model_minutes.2.1 30 = .ok (.invokevirtual 132, 3) by decide +kernel) wd_1685 wd_1687 wd_123 (fun r_4 b_4 σ_4 => ?_)
            show V M_Model_minutes 3 0 0 0 0 tI _ 33 [(0, vR h0), (1, vI x1), (2, vI x2)] [vI r_4] b_4 σ_4
            refine V_iconst 34 rfl (show decode M_Model_minutes.2.1 33 = .ok (.iconst 3, 1) by decide +kernel) (v := 3) rfl ?_
            refine V_icmpne 37 49 rfl (show decode M_Model_minutes.2.1 34 = .ok (.if_icmp .ne 15, 3) by decide +kernel) rfl ?_ ?_
            · skip
              refine V_aload_n 38 rfl (show decode M_Model_minutes.2.1 37 = .ok (.aload_n 0, 1) by decide +kernel) 0 rfl ?_
              refine V_iload_n 39 rfl (show decode M_Model_minutes.2.1 38 = .ok (.iload_n 1, 1) by decide +kernel) 1 rfl ?_
              refine V_iload_n 40 rfl (show decode M_Model_minutes.2.1 39 = .ok (.iload_n 2, 1) by decide +kernel) 2 rfl ?_
              refine V_callV (tb := tI) (as := [vI x1, vI x2]) (rest := []) (na := 2) 43 rfl ck_Model (by decide) (s_Model_rideOf h0 x1 x2 (b_4 && cK σ_4 h0 13) σ_4) rfl rfl (Nat.le_of_ble_eq_true rfl) (cal_Model_rideOf _ _ _ _ _ (by decide) (by decide) (by decide)) (show decode M_Model_minutes.2.1 40 = .ok (.invokevirtual 358, 3) by decide +kernel) wd_2010 wd_2012 wd_166 (fun r_5 b_5 σ_5 => ?_)
              show V M_Model_minutes 3 0 0 0 0 tI _ 43 [(0, vR h0), (1, vI x1), (2, vI x2)] [vI r_5] b_5 σ_5
              refine V_callS (tb := tI) (as := [vI r_5]) (rest := []) (na := 1) 46 rfl (s_Model_orNone r_5 b_5 σ_5) rfl rfl (Nat.le_of_ble_eq_true rfl) (cal_Model_orNone _ _ _ _ _ (by decide) (by decide) (by decide)) (show decode M_Model_minutes.2.1 43 = .ok (.invokestatic 143, 3) by decide +kernel) wd_1704 wd_1705 (fun r_6 b_6 σ_6 => ?_)
              show V M_Model_minutes 3 0 0 0 0 tI _ 46 [(0, vR h0), (1, vI x1), (2, vI x2)] [vI r_6] b_6 σ_6
              refine V_goto 51 (show decode M_Model_minutes.2.1 46 = .ok (.goto 5, 3) by decide +kernel) rfl ?_
              exact V_iret rfl (by decide) (by decide) (show decode M_Model_minutes.2.1 51 = .ok (.ireturn, 1) by decide +kernel)
            · skip
              exact V_sub [] rfl (hJ49 b_4 σ_4)
          · skip
            exact V_sub [] rfl (hJ49 b_3 σ_3)
theorem cal_Model_minutes (d mc ms k n : Nat) (h1 : 3 + 1 ≤ d) (h2 : k + 0 ≤ mc) (h3 : n + 0 ≤ ms) : Cal M_Model_minutes 3 0 0 2 d mc ms k n := ⟨wd_2009, wd_181, by decide, h1, by decide, h2, h3⟩
abbrev M_Model_of : MD := (⟨"LongTrailModel", "of", "(II)I"⟩, prog_14_method_53_code, 3, (some FieldType.int))
def f_Model_of (h0 : Nat) (x1 : Int32) (x2 : Int32) (b : Bool) (σ : Sto) : Rs Int32 := (bd_ (f_Model_isText h0 x1 (b && cK σ h0 13) σ) (fun (r_1 : Int32) (b_1 : Bool) (σ_1 : Sto) => (lt_ (fun (b : Bool) (σ : Sto) => ((-1000000001 : Int32), b, σ)) (fun J35 => (if r_1 = 0 then (J35 b_1 σ_1) else (bd_ (f_Model_isIn ((x2).toInt64) (0 : Int64) (3 : Int64) b_1 σ_1) (fun (r_2 : Int32) (b_2 : Bool) (σ_2 : Sto) => (if r_2 = 0 then (J35 b_2 σ_2) else (bd_ (f_Model_textAt h0 x1 ((b_2 && cK σ_2 h0 13) && cK σ_2 h0 13) σ_2) (fun (r_3 : Int32) (b_3 : Bool) (σ_3 : Sto) => ((SI σ_3 (SR σ_2 h0 0) (ix (r_3 + x2))), (b_3 && cA σ_3 (SR σ_2 h0 0) 21 (r_3 + x2)), σ_3)))))))))))
set_option maxRecDepth 100000 in
set_option maxHeartbeats 4000000 in
theorem s_Model_of : ∀ (h0 : Nat) (x1 : Int32) (x2 : Int32) (b : Bool) (σ : Sto), Snd M_Model_of 3 0 0 [vR h0, vI x1, vI x2] b σ (tI (f_Model_of h0 x1 x2 b σ).1) (f_Model_of h0 x1 x2 b σ).2.1 (f_Model_of h0 x1 x2 b σ).2.2 := by
  intro h0 x1 x2 b σ
  refine Snd_of (tv := tI) (by decide) (Nat.le_of_ble_eq_true rfl) ?_
  show V M_Model_of 3 0 0 0 0 tI (f_Model_of h0 x1 x2 b σ) 0 [(0, vR h0), (1, vI x1), (2, vI x2)] [] b σ
  unfold f_Model_of
  refine V_aload_n 1 rfl (show decode M_Model_of.2.1 0 = .ok (.aload_n 0, 1) by decide +kernel) 0 rfl ?_
  refine V_iload_n 2 rfl (show decode M_Model_of.2.1 1 = .ok (.iload_n 1, 1) by decide +kernel) 1 rfl ?_
  refine V_callV (tb := tI) (as := [vI x1]) (rest := []) (na := 1) 5 rfl ck_Model (by decide) (s_Model_isText h0 x1 (b && cK σ h0 13) σ) rfl rfl (Nat.le_of_ble_eq_true rfl) (cal_Model_isText _ _ _ _ _ (by decide) (by decide) (by decide)) (show decode M_Model_of.2.1 2 = .ok (.invokevirtual 248, 3) by decide +kernel) wd_1815 wd_1817 wd_141 (fun r_1 b_1 σ_1 => ?_)
  show V M_Model_of 3 0 0 0 0 tI _ 5 [(0, vR h0), (1, vI x1), (2, vI x2)] [vI r_1] b_1 σ_1
  refine V_jn (fun (J35 : Bool → Sto → Rs Int32) => ∀ (b : Bool) (σ : Sto), V M_Model_of 3 0 0 0 0 tI (J35 b σ) 35 [] [] b σ) ?_ (fun J35 hJ35 => ?_)
  · intro b σ
    refine V_ldc 37 rfl (show decode M_Model_of.2.1 35 = .ok (.ldc 91, 2) by decide +kernel) wd_1620 ?_
    exact V_iret rfl (by decide) (by decide) (show decode M_Model_of.2.1 37 = .ok (.ireturn, 1) by decide +kernel)
  · skip
    refine V_ifeq 8 35 rfl (show decode M_Model_of.2.1 5 = .ok (.ifCond .eq 30, 3) by decide +kernel) rfl ?_ ?_
    · skip
      exact V_sub [] rfl (hJ35 b_1 σ_1)
    · skip
      refine V_iload_n 9 rfl (show decode M_Model_of.2.1 8 = .ok (.iload_n 2, 1) by decide +kernel) 2 rfl ?_
      refine V_i2l 10 rfl (show decode M_Model_of.2.1 9 = .ok (.i2l, 1) by decide +kernel) ?_
      refine V_lconst 11 rfl (show decode M_Model_of.2.1 10 = .ok (.lconst 0, 1) by decide +kernel) (v := 0) rfl ?_
      refine V_ldc2 14 rfl (show decode M_Model_of.2.1 11 = .ok (.ldc2_w 141, 3) by decide +kernel) wd_1702 ?_
      refine V_callS (tb := tI) (as := [vL ((x2).toInt64), vL (0 : Int64), vL (3 : Int64)]) (rest := []) (na := 3) 17 rfl (s_Model_isIn ((x2).toInt64) (0 : Int64) (3 : Int64) b_1 σ_1) rfl rfl (Nat.le_of_ble_eq_true rfl) (cal_Model_isIn _ _ _ _ _ (by decide) (by decide) (by decide)) (show decode M_Model_of.2.1 14 = .ok (.invokestatic 76, 3) by decide +kernel) wd_1617 wd_1618 (fun r_2 b_2 σ_2 => ?_)
      show V M_Model_of 3 0 0 0 0 tI _ 17 [(0, vR h0), (1, vI x1), (2, vI x2)] [vI r_2] b_2 σ_2
      refine V_ifeq 20 35 rfl (show decode M_Model_of.2.1 17 = .ok (.ifCond .eq 18, 3) by decide +kernel) rfl ?_ ?_
      · skip
        exact V_sub [] rfl (hJ35 b_2 σ_2)
      · skip
        refine V_aload_n 21 rfl (show decode M_Model_of.2.1 20 = .ok (.aload_n 0, 1) by decide +kernel) 0 rfl ?_
        refine V_get (j := 0) (v := vR (SR σ_2 h0 0)) 24 rfl ck_Model (by decide) (by decide) (show decode M_Model_of.2.1 21 = .ok (.getfield 7, 3) by decide +kernel) wd_1504 rfl ?_
        refine V_aload_n 25 rfl (show decode M_Model_of.2.1 24 = .ok (.aload_n 0, 1) by decide +kernel) 0 rfl ?_
        refine V_iload_n 26 rfl (show decode M_Model_of.2.1 25 = .ok (.iload_n 1, 1) by decide +kernel) 1 rfl ?_
        refine V_callV (tb := tI) (as := [vI x1]) (rest := [vR (SR σ_2 h0 0)]) (na := 1) 29 rfl ck_Model (by decide) (s_Model_textAt h0 x1 ((b_2 && cK σ_2 h0 13) && cK σ_2 h0 13) σ_2) rfl rfl (Nat.le_of_ble_eq_true rfl) (cal_Model_textAt _ _ _ _ _ (by decide) (by decide) (by decide)) (show decode M_Model_of.2.1 26 = .ok (.invokevirtual 236, 3) by decide +kernel) wd_1748 wd_1750 wd_127 (fun r_3 b_3 σ_3 => ?_)
        show V M_Model_of 3 0 0 0 0 tI _ 29 [(0, vR h0), (1, vI x1), (2, vI x2)] [vI r_3, vR (SR σ_2 h0 0)] b_3 σ_3
        refine V_iload_n 30 rfl (show decode M_Model_of.2.1 29 = .ok (.iload_n 2, 1) by decide +kernel) 2 rfl ?_
        refine V_iadd 31 rfl (show decode M_Model_of.2.1 30 = .ok (.iadd, 1) by decide +kernel) ?_
        refine V_ald_int 32 rfl (show decode M_Model_of.2.1 31 = .ok (.iaload, 1) by decide +kernel) ?_
        refine V_goto 37 (show decode M_Model_of.2.1 32 = .ok (.goto 5, 3) by decide +kernel) rfl ?_
        exact V_iret rfl (by decide) (by decide) (show decode M_Model_of.2.1 37 = .ok (.ireturn, 1) by decide +kernel)
theorem cal_Model_of (d mc ms k n : Nat) (h1 : 3 + 1 ≤ d) (h2 : k + 0 ≤ mc) (h3 : n + 0 ≤ ms) : Cal M_Model_of 3 0 0 2 d mc ms k n := ⟨wd_1814, wd_181, by decide, h1, by decide, h2, h3⟩
abbrev M_Model_ones : MD := (⟨"LongTrailModel", "ones", "(I)I"⟩, prog_14_method_94_code, 3, (some FieldType.int))
def b_Model_ones_4 (L4 : Int32 → Int32 → Bool → Sto → Rs Int32) (x1 : Int32) (x2 : Int32) (b : Bool) (σ : Sto) : Rs Int32 := (if 0 < x2 then (lt_ (x1 + (x2 - x2 / (2 : Int32) * (2 : Int32))) (fun (x1_3 : Int32) => (lt_ (x2 / (2 : Int32)) (fun (x2_4 : Int32) => (L4 x1_3 x2_4 ((b && !decide ((2 : Int32) = 0)) && !decide ((2 : Int32) = 0)) σ))))) else (x1, b, σ))
def f_Model_ones (x0 : Int32) (b : Bool) (σ : Sto) : Rs Int32 := (lt_ (0 : Int32) (fun (x1_1 : Int32) => (lt_ x0 (fun (x2_2 : Int32) => (lp_ (b_Model_ones_4) (fun (x1 : Int32) (x2 : Int32) (b : Bool) (σ : Sto) => (0, false, σ)) fuel_ x1_1 x2_2 b σ)))))
set_option maxRecDepth 100000 in
set_option maxHeartbeats 4000000 in
theorem s_Model_ones : ∀ (x0 : Int32) (b : Bool) (σ : Sto), Snd M_Model_ones 1 0 0 [vI x0] b σ (tI (f_Model_ones x0 b σ).1) (f_Model_ones x0 b σ).2.1 (f_Model_ones x0 b σ).2.2 := by
  intro x0 b σ
  refine Snd_of (tv := tI) (by decide) (Nat.le_of_ble_eq_true rfl) ?_
  show V M_Model_ones 1 0 0 0 0 tI (f_Model_ones x0 b σ) 0 [(0, vI x0)] [] b σ
  unfold f_Model_ones
  refine V_iconst 1 rfl (show decode M_Model_ones.2.1 0 = .ok (.iconst 0, 1) by decide +kernel) (v := 0) rfl ?_
  refine V_istore_n (fun x1_1 => [(1, vI x1_1), (0, vI x0)]) 2 rfl (show decode M_Model_ones.2.1 1 = .ok (.istore_n 1, 1) by decide +kernel) (by decide) (fun _ => rfl) (fun x1_1 => ?_)
  refine V_iload_n 3 rfl (show decode M_Model_ones.2.1 2 = .ok (.iload_n 0, 1) by decide +kernel) 1 rfl ?_
  refine V_istore_n (fun x2_2 => [(2, vI x2_2), (1, vI x1_1), (0, vI x0)]) 4 rfl (show decode M_Model_ones.2.1 3 = .ok (.istore_n 2, 1) by decide +kernel) (by decide) (fun _ => rfl) (fun x2_2 => ?_)
  refine V_sub [1, 0] rfl ?_
  refine lp_P (fun (L4 : Int32 → Int32 → Bool → Sto → Rs Int32) => ∀ (x1 : Int32) (x2 : Int32) (b : Bool) (σ : Sto), V M_Model_ones 1 0 0 0 0 tI (L4 x1 x2 b σ) 4 [(1, vI x1), (2, vI x2)] [] b σ) ?_ ?_ fuel_ x1_1 x2_2 b σ
  · intro x1 x2 b σ; exact V_bad
  · intro L4 hL4 x1 x2 b σ
    unfold b_Model_ones_4
    refine V_iload_n 5 rfl (show decode M_Model_ones.2.1 4 = .ok (.iload_n 2, 1) by decide +kernel) 1 rfl ?_
    refine V_ifle 8 21 rfl (show decode M_Model_ones.2.1 5 = .ok (.ifCond .le 16, 3) by decide +kernel) rfl ?_ ?_
    · skip
      refine V_iload_n 9 rfl (show decode M_Model_ones.2.1 8 = .ok (.iload_n 1, 1) by decide +kernel) 0 rfl ?_
      refine V_iload_n 10 rfl (show decode M_Model_ones.2.1 9 = .ok (.iload_n 2, 1) by decide +kernel) 1 rfl ?_
      refine V_iconst 11 rfl (show decode M_Model_ones.2.1 10 = .ok (.iconst 2, 1) by decide +kernel) (v := 2) rfl ?_
      refine V_irem 12 rfl (show decode M_Model_ones.2.1 11 = .ok (.irem, 1) by decide +kernel) ?_
      refine V_iadd 13 rfl (show decode M_Model_ones.2.1 12 = .ok (.iadd, 1) by decide +kernel) ?_
      refine V_istore_n (fun x1_3 => [(1, vI x1_3), (2, vI x2)]) 14 rfl (show decode M_Model_ones.2.1 13 = .ok (.istore_n 1, 1) by decide +kernel) (by decide) (fun _ => rfl) (fun x1_3 => ?_)
      refine V_iload_n 15 rfl (show decode M_Model_ones.2.1 14 = .ok (.iload_n 2, 1) by decide +kernel) 1 rfl ?_
      refine V_iconst 16 rfl (show decode M_Model_ones.2.1 15 = .ok (.iconst 2, 1) by decide +kernel) (v := 2) rfl ?_
      refine V_idiv 17 rfl (show decode M_Model_ones.2.1 16 = .ok (.idiv, 1) by decide +kernel) ?_
      refine V_istore_n (fun x2_4 => [(2, vI x2_4), (1, vI x1_3)]) 18 rfl (show decode M_Model_ones.2.1 17 = .ok (.istore_n 2, 1) by decide +kernel) (by decide) (fun _ => rfl) (fun x2_4 => ?_)
      refine V_goto 4 (show decode M_Model_ones.2.1 18 = .ok (.goto (-14), 3) by decide +kernel) rfl ?_
      exact V_sub [1, 0] rfl (hL4 x1_3 x2_4 ((b && !decide ((2 : Int32) = 0)) && !decide ((2 : Int32) = 0)) σ)
    · skip
      refine V_iload_n 22 rfl (show decode M_Model_ones.2.1 21 = .ok (.iload_n 1, 1) by decide +kernel) 0 rfl ?_
      exact V_iret rfl (by decide) (by decide) (show decode M_Model_ones.2.1 22 = .ok (.ireturn, 1) by decide +kernel)
theorem cal_Model_ones (d mc ms k n : Nat) (h1 : 1 + 1 ≤ d) (h2 : k + 0 ≤ mc) (h3 : n + 0 ≤ ms) : Cal M_Model_ones 1 0 0 1 d mc ms k n := ⟨wd_2001, wd_181, by decide, h1, by decide, h2, h3⟩
abbrev M_Model_parse : MD := (⟨"LongTrailModel", "parse", "()I"⟩, prog_14_method_51_code, 3, (some FieldType.int))
def f_Model_parse (h0 : Nat) (b : Bool) (σ : Sto) : Rs Int32 := (lt_ (pI σ h0 10 (0 : Int32)) (fun (σ_1 : Sto) => (lt_ (pI σ_1 h0 11 (3 : Int32)) (fun (σ_2 : Sto) => (lt_ (pI σ_2 h0 14 (0 : Int32)) (fun (σ_3 : Sto) => (lt_ (pI σ_3 h0 15 (0 : Int32)) (fun (σ_4 : Sto) => (lt_ (pI σ_4 h0 16 (0 : Int32)) (fun (σ_5 : Sto) => (lt_ (pI σ_5 h0 18 (0 : Int32)) (fun (σ_6 : Sto) => (lt_ (fun (s0_60 : Int32) (s1_60 : Nat) (b : Bool) (σ : Sto) => (lt_ (pI σ s1_60 17 s0_60) (fun (σ_7 : Sto) => (bd_ (f_Model_next h0 ((b && cK σ s1_60 13) && cK σ_7 h0 13) σ_7) (fun (r_8 : Unit) (b_8 : Bool) (σ_8 : Sto) => (bd_ (f_Model_key h0 (b_8 && cK σ_8 h0 13) σ_8) (fun (r_9 : Int32) (b_9 : Bool) (σ_9 : Sto) => (lt_ r_9 (fun (x1_10 : Int32) => (lt_ (fun (s0_81 : Int32) (b : Bool) (σ : Sto) => (lt_ s0_81 (fun (x2_11 : Int32) => (lt_ (fun (x2_111 : Int32) (b : Bool) (σ : Sto) => (lt_ (pI σ h0 8 (0 : Int32)) (fun (σ_12 : Sto) => (if x2_111 = 0 then ((-1 : Int32), (b && cK σ h0 13), σ_12) else (x1_10, (b && cK σ h0 13), σ_12))))) (fun J111 => (if x2_11 = 0 then (J111 x2_11 b σ) else (bd_ (f_Model_next h0 (b && cK σ h0 13) σ) (fun (r_13 : Unit) (b_13 : Bool) (σ_13 : Sto) => (bd_ (f_Model_either h0 x1_10 (b_13 && cK σ_13 h0 13) σ_13) (fun (r_14 : Int32) (b_14 : Bool) (σ_14 : Sto) => (lt_ (fun (s0_110 : Int32) (b : Bool) (σ : Sto) => (lt_ s0_110 (fun (x2_15 : Int32) => (J111 x2_15 b σ)))) (fun J110 => (lt_ (fun (b : Bool) (σ : Sto) => (J110 (0 : Int32) b σ)) (fun J109 => (if r_14 = 0 then (J109 b_14 σ_14) else (if (SI σ_14 h0 11) = 0 then (J110 (1 : Int32) (b_14 && cK σ_14 h0 13) σ_14) else (J109 (b_14 && cK σ_14 h0 13) σ_14))))))))))))))))) (fun J81 => (if x1_10 < 0 then (J81 (0 : Int32) b_9 σ_9) else (J81 (1 : Int32) b_9 σ_9))))))))))))) (fun J60 => (if (SI σ_6 (SR σ_6 h0 0) (ix (4 : Int32))) < (12 : Int32) then (bd_ (f_Model_textAt h0 (SI σ_6 (SR σ_6 h0 0) (ix (4 : Int32))) (((((((((((b && cK σ h0 13) && cK σ_1 h0 13) && cK σ_2 h0 13) && cK σ_3 h0 13) && cK σ_4 h0 13) && cK σ_5 h0 13) && cK σ_6 h0 13) && cA σ_6 (SR σ_6 h0 0) 21 (4 : Int32)) && cK σ_6 h0 13) && cA σ_6 (SR σ_6 h0 0) 21 (4 : Int32)) && cK σ_6 h0 13) σ_6) (fun (r_16 : Int32) (b_16 : Bool) (σ_16 : Sto) => (J60 (r_16 + (5 : Int32)) h0 b_16 σ_16))) else (J60 (3010 : Int32) h0 ((((((((b && cK σ h0 13) && cK σ_1 h0 13) && cK σ_2 h0 13) && cK σ_3 h0 13) && cK σ_4 h0 13) && cK σ_5 h0 13) && cK σ_6 h0 13) && cA σ_6 (SR σ_6 h0 0) 21 (4 : Int32)) σ_6))))))))))))))))
set_option maxRecDepth 100000 in
set_option maxHeartbeats 4000000 in
theorem s_Model_parse : ∀ (h0 : Nat) (b : Bool) (σ : Sto), Snd M_Model_parse 125 0 0 [vR h0] b σ (tI (f_Model_parse h0 b σ).1) (f_Model_parse h0 b σ).2.1 (f_Model_parse h0 b σ).2.2 := by
  intro h0 b σ
  refine Snd_of (tv := tI) (by decide) (Nat.le_of_ble_eq_true rfl) ?_
  show V M_Model_parse 125 0 0 0 0 tI (f_Model_parse h0 b σ) 0 [(0, vR h0)] [] b σ
  unfold f_Model_parse
  refine V_aload_n 1 rfl (show decode M_Model_parse.2.1 0 = .ok (.aload_n 0, 1) by decide +kernel) 0 rfl ?_
  refine V_iconst 2 rfl (show decode M_Model_parse.2.1 1 = .ok (.iconst 0, 1) by decide +kernel) (v := 0) rfl ?_
  refine V_putI (j := 10) 5 rfl ck_Model (by decide) (by decide) (show decode M_Model_parse.2.1 2 = .ok (.putfield 164, 3) by decide +kernel) wd_1514 rfl (fun _ => rfl) rfl rfl (fun σ_1 => ?_)
  refine V_aload_n 6 rfl (show decode M_Model_parse.2.1 5 = .ok (.aload_n 0, 1) by decide +kernel) 0 rfl ?_
  refine V_iconst 7 rfl (show decode M_Model_parse.2.1 6 = .ok (.iconst 3, 1) by decide +kernel) (v := 3) rfl ?_
  refine V_putI (j := 11) 10 rfl ck_Model (by decide) (by decide) (show decode M_Model_parse.2.1 7 = .ok (.putfield 167, 3) by decide +kernel) wd_1515 rfl (fun _ => rfl) rfl rfl (fun σ_2 => ?_)
  refine V_aload_n 11 rfl (show decode M_Model_parse.2.1 10 = .ok (.aload_n 0, 1) by decide +kernel) 0 rfl ?_
  refine V_iconst 12 rfl (show decode M_Model_parse.2.1 11 = .ok (.iconst 0, 1) by decide +kernel) (v := 0) rfl ?_
  refine V_putI (j := 14) 15 rfl ck_Model (by decide) (by decide) (show decode M_Model_parse.2.1 12 = .ok (.putfield 230, 3) by decide +kernel) wd_1518 rfl (fun _ => rfl) rfl rfl (fun σ_3 => ?_)
  refine V_aload_n 16 rfl (show decode M_Model_parse.2.1 15 = .ok (.aload_n 0, 1) by decide +kernel) 0 rfl ?_
  refine V_iconst 17 rfl (show decode M_Model_parse.2.1 16 = .ok (.iconst 0, 1) by decide +kernel) (v := 0) rfl ?_
  refine V_putI (j := 15) 20 rfl ck_Model (by decide) (by decide) (show decode M_Model_parse.2.1 17 = .ok (.putfield 227, 3) by decide +kernel) wd_1519 rfl (fun _ => rfl) rfl rfl (fun σ_4 => ?_)
  refine V_aload_n 21 rfl (show decode M_Model_parse.2.1 20 = .ok (.aload_n 0, 1) by decide +kernel) 0 rfl ?_
  refine V_iconst 22 rfl (show decode M_Model_parse.2.1 21 = .ok (.iconst 0, 1) by decide +kernel) (v := 0) rfl ?_
  refine V_putI (j := 16) 25 rfl ck_Model (by decide) (by decide) (show decode M_Model_parse.2.1 22 = .ok (.putfield 192, 3) by decide +kernel) wd_1520 rfl (fun _ => rfl) rfl rfl (fun σ_5 => ?_)
  refine V_aload_n 26 rfl (show decode M_Model_parse.2.1 25 = .ok (.aload_n 0, 1) by decide +kernel) 0 rfl ?_
  refine V_iconst 27 rfl (show decode M_Model_parse.2.1 26 = .ok (.iconst 0, 1) by decide +kernel) (v := 0) rfl ?_
  refine V_putI (j := 18) 30 rfl ck_Model (by decide) (by decide) (show decode M_Model_parse.2.1 27 = .ok (.putfield 220, 3) by decide +kernel) wd_1522 rfl (fun _ => rfl) rfl rfl (fun σ_6 => ?_)
  refine V_aload_n 31 rfl (show decode M_Model_parse.2.1 30 = .ok (.aload_n 0, 1) by decide +kernel) 0 rfl ?_
  refine V_aload_n 32 rfl (show decode M_Model_parse.2.1 31 = .ok (.aload_n 0, 1) by decide +kernel) 0 rfl ?_
  refine V_get (j := 0) (v := vR (SR σ_6 h0 0)) 35 rfl ck_Model (by decide) (by decide) (show decode M_Model_parse.2.1 32 = .ok (.getfield 7, 3) by decide +kernel) wd_1504 rfl ?_
  refine V_iconst 36 rfl (show decode M_Model_parse.2.1 35 = .ok (.iconst 4, 1) by decide +kernel) (v := 4) rfl ?_
  refine V_ald_int 37 rfl (show decode M_Model_parse.2.1 36 = .ok (.iaload, 1) by decide +kernel) ?_
  refine V_bipush 39 rfl (show decode M_Model_parse.2.1 37 = .ok (.bipush 12, 2) by decide +kernel) (v := 12) rfl ?_
  refine V_jn (fun (J60 : Int32 → Nat → Bool → Sto → Rs Int32) => ∀ (s0_60 : Int32) (s1_60 : Nat) (b : Bool) (σ : Sto), V M_Model_parse 125 0 0 0 0 tI (J60 s0_60 s1_60 b σ) 60 [(0, vR h0)] [vI s0_60, vR s1_60] b σ) ?_ (fun J60 hJ60 => ?_)
  · intro s0_60 s1_60 b σ
    refine V_putI (j := 17) 63 rfl ck_Model (by decide) (by decide) (show decode M_Model_parse.2.1 60 = .ok (.putfield 189, 3) by decide +kernel) wd_1521 rfl (fun _ => rfl) rfl rfl (fun σ_7 => ?_)
    refine V_aload_n 64 rfl (show decode M_Model_parse.2.1 63 = .ok (.aload_n 0, 1) by decide +kernel) 0 rfl ?_
    refine V_callV (tb := tU) (as := []) (rest := []) (na := 0) 67 rfl ck_Model (by decide) (s_Model_next h0 ((b && cK σ s1_60 13) && cK σ_7 h0 13) σ_7) rfl rfl (Nat.le_of_ble_eq_true rfl) (cal_Model_next _ _ _ _ _ (by decide) (by decide) (by decide)) (show decode M_Model_parse.2.1 64 = .ok (.invokevirtual 201, 3) by decide +kernel) wd_1752 wd_1754 wd_128 (fun r_8 b_8 σ_8 => ?_)
    show V M_Model_parse 125 0 0 0 0 tI _ 67 [(0, vR h0)] [] b_8 σ_8
    refine V_aload_n 68 rfl (show decode M_Model_parse.2.1 67 = .ok (.aload_n 0, 1) by decide +kernel) 0 rfl ?_
    refine V_callV (tb := tI) (as := []) (rest := []) (na := 0) 71 rfl ck_Model (by decide) (s_Model_key h0 (b_8 && cK σ_8 h0 13) σ_8) rfl rfl (Nat.le_of_ble_eq_true rfl) (cal_Model_key _ _ _ _ _ (by decide) (by decide) (by decide)) (show decode M_Model_parse.2.1 68 = .ok (.invokevirtual 239, 3) by decide +kernel) wd_1768 wd_1770 wd_131 (fun r_9 b_9 σ_9 => ?_)
    show V M_Model_parse 125 0 0 0 0 tI _ 71 [(0, vR h0)] [vI r_9] b_9 σ_9
    refine V_istore_n (fun x1_10 => [(1, vI x1_10), (0, vR h0)]) 72 rfl (show decode M_Model_parse.2.1 71 = .ok (.istore_n 1, 1) by decide +kernel) (by decide) (fun _ => rfl) (fun x1_10 => ?_)
    refine V_iload_n 73 rfl (show decode M_Model_parse.2.1 72 = .ok (.iload_n 1, 1) by decide +kernel) 0 rfl ?_
    refine V_jn (fun (J81 : Int32 → Bool → Sto → Rs Int32) => ∀ (s0_81 : Int32) (b : Bool) (σ : Sto), V M_Model_parse 125 0 0 0 0 tI (J81 s0_81 b σ) 81 [(0, vR h0), (1, vI x1_10)] [vI s0_81] b σ) ?_ (fun J81 hJ81 => ?_)
    · intro s0_81 b σ
      refine V_istore_n (fun x2_11 => [(2, vI x2_11), (0, vR h0), (1, vI x1_10)]) 82 rfl (show decode M_Model_parse.2.1 81 = .ok (.istore_n 2, 1) by decide +kernel) (by decide) (fun _ => rfl) (fun x2_11 => ?_)
      refine V_iload_n 83 rfl (show decode M_Model_parse.2.1 82 = .ok (.iload_n 2, 1) by decide +kernel) 0 rfl ?_
      refine V_jn (fun (J111 : Int32 → Bool → Sto → Rs Int32) => ∀ (x2_111 : Int32) (b : Bool) (σ : Sto), V M_Model_parse 125 0 0 0 0 tI (J111 x2_111 b σ) 111 [(0, vR h0), (1, vI x1_10), (2, vI x2_111)] [] b σ) ?_ (fun J111 hJ111 => ?_)
      · intro x2_111 b σ
        refine V_aload_n 112 rfl (show decode M_Model_parse.2.1 111 = .ok (.aload_n 0, 1) by decide +kernel) 0 rfl ?_
        refine V_iconst 113 rfl (show decode M_Model_parse.2.1 112 = .ok (.iconst 0, 1) by decide +kernel) (v := 0) rfl ?_
        refine V_putI (j := 8) 116 rfl ck_Model (by decide) (by decide) (show decode M_Model_parse.2.1 113 = .ok (.putfield 152, 3) by decide +kernel) wd_1512 rfl (fun _ => rfl) rfl rfl (fun σ_12 => ?_)
        refine V_iload_n 117 rfl (show decode M_Model_parse.2.1 116 = .ok (.iload_n 2, 1) by decide +kernel) 2 rfl ?_
        refine V_ifeq 120 124 rfl (show decode M_Model_parse.2.1 117 = .ok (.ifCond .eq 7, 3) by decide +kernel) rfl ?_ ?_
        · skip
          refine V_iconst 125 rfl (show decode M_Model_parse.2.1 124 = .ok (.iconst (-1), 1) by decide +kernel) (v := -1) rfl ?_
          exact V_iret rfl (by decide) (by decide) (show decode M_Model_parse.2.1 125 = .ok (.ireturn, 1) by decide +kernel)
        · skip
          refine V_iload_n 121 rfl (show decode M_Model_parse.2.1 120 = .ok (.iload_n 1, 1) by decide +kernel) 1 rfl ?_
          refine V_goto 125 (show decode M_Model_parse.2.1 121 = .ok (.goto 4, 3) by decide +kernel) rfl ?_
          exact V_iret rfl (by decide) (by decide) (show decode M_Model_parse.2.1 125 = .ok (.ireturn, 1) by decide +kernel)
      · skip
        refine V_ifeq 86 111 rfl (show decode M_Model_parse.2.1 83 = .ok (.ifCond .eq 28, 3) by decide +kernel) rfl ?_ ?_
        · skip
          exact V_sub [1, 2, 0] rfl (hJ111 x2_11 b σ)
        · skip
          refine V_aload_n 87 rfl (show decode M_Model_parse.2.1 86 = .ok (.aload_n 0, 1) by decide +kernel) 1 rfl ?_
          refine V_callV (tb := tU) (as := []) (rest := []) (na := 0) 90 rfl ck_Model (by decide) (s_Model_next h0 (b && cK σ h0 13) σ) rfl rfl (Nat.le_of_ble_eq_true rfl) (cal_Model_next _ _ _ _ _ (by decide) (by decide) (by decide)) (show decode M_Model_parse.2.1 87 = .ok (.invokevirtual 201, 3) by decide +kernel) wd_1752 wd_1754 wd_128 (fun r_13 b_13 σ_13 => ?_)
          show V M_Model_parse 125 0 0 0 0 tI _ 90 [(2, vI x2_11), (0, vR h0), (1, vI x1_10)] [] b_13 σ_13
          refine V_aload_n 91 rfl (show decode M_Model_parse.2.1 90 = .ok (.aload_n 0, 1) by decide +kernel) 1 rfl ?_
          refine V_iload_n 92 rfl (show decode M_Model_parse.2.1 91 = .ok (.iload_n 1, 1) by decide +kernel) 2 rfl ?_
          refine V_callV (tb := tI) (as := [vI x1_10]) (rest := []) (na := 1) 95 rfl ck_Model (by decide) (s_Model_either h0 x1_10 (b_13 && cK σ_13 h0 13) σ_13) rfl rfl (Nat.le_of_ble_eq_true rfl) (calg_Model_either _ _ _ _ _ _ (by decide) (by decide) (by decide)) (show decode M_Model_parse.2.1 92 = .ok (.invokevirtual 233, 3) by decide +kernel) wd_1776 wd_1778 wd_133 (fun r_14 b_14 σ_14 => ?_)
          show V M_Model_parse 125 0 0 0 0 tI _ 95 [(2, vI x2_11), (0, vR h0), (1, vI x1_10)] [vI r_14] b_14 σ_14
          refine V_jn (fun (J110 : Int32 → Bool → Sto → Rs Int32) => ∀ (s0_110 : Int32) (b : Bool) (σ : Sto), V M_Model_parse 125 0 0 0 0 tI (J110 s0_110 b σ) 110 [(0, vR h0), (1, vI x1_10)] [vI s0_110] b σ) ?_ (fun J110 hJ110 => ?_)
          · intro s0_110 b σ
            refine V_istore_n (fun x2_15 => [(2, vI x2_15), (0, vR h0), (1, vI x1_10)]) 111 rfl (show decode M_Model_parse.2.1 110 = .ok (.istore_n 2, 1) by decide +kernel) (by decide) (fun _ => rfl) (fun x2_15 => ?_)
            exact V_sub [1, 2, 0] rfl (hJ111 x2_15 b σ)
          · skip
            refine V_jn (fun (J109 : Bool → Sto → Rs Int32) => ∀ (b : Bool) (σ : Sto), V M_Model_parse 125 0 0 0 0 tI (J109 b σ) 109 [(0, vR h0), (1, vI x1_10)] [] b σ) ?_ (fun J109 hJ109 => ?_)
            · intro b σ
              refine V_iconst 110 rfl (show decode M_Model_parse.2.1 109 = .ok (.iconst 0, 1) by decide +kernel) (v := 0) rfl ?_
              exact V_sub [0, 1] rfl (hJ110 (0 : Int32) b σ)
            · skip
              refine V_ifeq 98 109 rfl (show decode M_Model_parse.2.1 95 = .ok (.ifCond .eq 14, 3) by decide +kernel) rfl ?_ ?_
              · skip
                exact V_sub [1, 2] rfl (hJ109 b_14 σ_14)
              · skip
                refine V_aload_n 99 rfl (show decode M_Model_parse.2.1 98 = .ok (.aload_n 0, 1) by decide +kernel) 1 rfl ?_
                refine V_get (j := 11) (v := vI (SI σ_14 h0 11)) 102 rfl ck_Model (by decide) (by decide) (show decode M_Model_parse.2.1 99 = .ok (.getfield 167, 3) by decide +kernel) wd_1515 rfl ?_
                refine V_ifne 105 109 rfl (show decode M_Model_parse.2.1 102 = .ok (.ifCond .ne 7, 3) by decide +kernel) rfl ?_ ?_
                · skip
                  refine V_iconst 106 rfl (show decode M_Model_parse.2.1 105 = .ok (.iconst 1, 1) by decide +kernel) (v := 1) rfl ?_
                  refine V_goto 110 (show decode M_Model_parse.2.1 106 = .ok (.goto 4, 3) by decide +kernel) rfl ?_
                  exact V_sub [1, 2] rfl (hJ110 (1 : Int32) (b_14 && cK σ_14 h0 13) σ_14)
                · skip
                  exact V_sub [1, 2] rfl (hJ109 (b_14 && cK σ_14 h0 13) σ_14)
    · skip
      refine V_iflt 76 80 rfl (show decode M_Model_parse.2.1 73 = .ok (.ifCond .lt 7, 3) by decide +kernel) rfl ?_ ?_
      · skip
        refine V_iconst 81 rfl (show decode M_Model_parse.2.1 80 = .ok (.iconst 0, 1) by decide +kernel) (v := 0) rfl ?_
        exact V_sub [1, 0] rfl (hJ81 (0 : Int32) b_9 σ_9)
      · skip
        refine V_iconst 77 rfl (show decode M_Model_parse.2.1 76 = .ok (.iconst 1, 1) by decide +kernel) (v := 1) rfl ?_
        refine V_goto 81 (show decode M_Model_parse.2.1 77 = .ok (.goto 4, 3) by decide +kernel) rfl ?_
        exact V_sub [1, 0] rfl (hJ81 (1 : Int32) b_9 σ_9)
  · skip
    refine V_icmpge 42 57 rfl (show decode M_Model_parse.2.1 39 = .ok (.if_icmp .ge 18, 3) by decide +kernel) rfl ?_ ?_
    · skip
      refine V_aload_n 43 rfl (show decode M_Model_parse.2.1 42 = .ok (.aload_n 0, 1) by decide +kernel) 0 rfl ?_
      refine V_aload_n 44 rfl (show decode M_Model_parse.2.1 43 = .ok (.aload_n 0, 1) by decide +kernel) 0 rfl ?_
      refine V_get (j := 0) (v := vR (SR σ_6 h0 0)) 47 rfl ck_Model (by decide) (by decide) (show decode M_Model_parse.2.1 44 = .ok (.getfield 7, 3) by decide +kernel) wd_1504 rfl ?_
      refine V_iconst 48 rfl (show decode M_Model_parse.2.1 47 = .ok (.iconst 4, 1) by decide +kernel) (v := 4) rfl ?_
      refine V_ald_int 49 rfl (show decode M_Model_parse.2.1 48 = .ok (.iaload, 1) by decide +kernel) ?_
      refine V_callV (tb := tI) (as := [vI (SI σ_6 (SR σ_6 h0 0) (ix (4 : Int32)))]) (rest := [vR h0]) (na := 1) 52 rfl ck_Model (by decide) (s_Model_textAt h0 (SI σ_6 (SR σ_6 h0 0) (ix (4 : Int32))) (((((((((((b && cK σ h0 13) && cK σ_1 h0 13) && cK σ_2 h0 13) && cK σ_3 h0 13) && cK σ_4 h0 13) && cK σ_5 h0 13) && cK σ_6 h0 13) && cA σ_6 (SR σ_6 h0 0) 21 (4 : Int32)) && cK σ_6 h0 13) && cA σ_6 (SR σ_6 h0 0) 21 (4 : Int32)) && cK σ_6 h0 13) σ_6) rfl rfl (Nat.le_of_ble_eq_true rfl) (cal_Model_textAt _ _ _ _ _ (by decide) (by decide) (by decide)) (show decode M_Model_parse.2.1 49 = .ok (.invokevirtual 236, 3) by decide +kernel) wd_1748 wd_1750 wd_127 (fun r_16 b_16 σ_16 => ?_)
      show V M_Model_parse 125 0 0 0 0 tI _ 52 [(0, vR h0)] [vI r_16, vR h0] b_16 σ_16
      refine V_iconst 53 rfl (show decode M_Model_parse.2.1 52 = .ok (.iconst 5, 1) by decide +kernel) (v := 5) rfl ?_
      refine V_iadd 54 rfl (show decode M_Model_parse.2.1 53 = .ok (.iadd, 1) by decide +kernel) ?_
      refine V_goto 60 (show decode M_Model_parse.2.1 54 = .ok (.goto 6, 3) by decide +kernel) rfl ?_
      exact V_sub [0] rfl (hJ60 (r_16 + (5 : Int32)) h0 b_16 σ_16)
    · skip
      refine V_sipush 60 rfl (show decode M_Model_parse.2.1 57 = .ok (.sipush 3010, 3) by decide +kernel) (v := 3010) rfl ?_
      exact V_sub [0] rfl (hJ60 (3010 : Int32) h0 ((((((((b && cK σ h0 13) && cK σ_1 h0 13) && cK σ_2 h0 13) && cK σ_3 h0 13) && cK σ_4 h0 13) && cK σ_5 h0 13) && cK σ_6 h0 13) && cA σ_6 (SR σ_6 h0 0) 21 (4 : Int32)) σ_6)
theorem cal_Model_parse (d mc ms k n : Nat) (h1 : 125 + 1 ≤ d) (h2 : k + 0 ≤ mc) (h3 : n + 0 ≤ ms) : Cal M_Model_parse 125 0 0 0 d mc ms k n := ⟨wd_1747, wd_181, by decide, h1, by decide, h2, h3⟩
abbrev M_Model_picture : MD := (⟨"LongTrailModel", "picture", "(II)I"⟩, prog_14_method_100_code, 3, (some FieldType.int))
def f_Model_picture (h0 : Nat) (x1 : Int32) (x2 : Int32) (b : Bool) (σ : Sto) : Rs Int32 := (bd_ (f_Model_isIn ((x1).toInt64) (0 : Int64) (999 : Int64) b σ) (fun (r_1 : Int32) (b_1 : Bool) (σ_1 : Sto) => (lt_ (fun (b : Bool) (σ : Sto) => ((-1000000001 : Int32), b, σ)) (fun J20 => (if r_1 = 0 then (J20 b_1 σ_1) else (bd_ (f_Model_isMile h0 x2 (b_1 && cK σ_1 h0 13) σ_1) (fun (r_2 : Int32) (b_2 : Bool) (σ_2 : Sto) => (if r_2 = 0 then (J20 b_2 σ_2) else (if (SI σ_2 (SR σ_2 h0 0) (ix (9 : Int32))) = (20 : Int32) then ((-1000000003 : Int32), ((b_2 && cK σ_2 h0 13) && cA σ_2 (SR σ_2 h0 0) 21 (9 : Int32)), σ_2) else (lt_ (pI σ_2 (SR σ_2 h0 0) (ix ((520 : Int32) + ((2 : Int32) * (SI σ_2 (SR σ_2 h0 0) (ix (9 : Int32)))))) x1) (fun (σ_3 : Sto) => (lt_ (pI σ_3 (SR σ_3 h0 0) (ix (((520 : Int32) + ((2 : Int32) * (SI σ_3 (SR σ_3 h0 0) (ix (9 : Int32))))) + (1 : Int32))) x2) (fun (σ_4 : Sto) => (lt_ (pI σ_4 (SR σ_4 h0 0) (ix (9 : Int32)) ((SI σ_4 (SR σ_4 h0 0) (ix (9 : Int32))) + (1 : Int32))) (fun (σ_5 : Sto) => (((SI σ_5 (SR σ_5 h0 0) (ix (9 : Int32))) - (1 : Int32)), (((((((((((((((b_2 && cK σ_2 h0 13) && cA σ_2 (SR σ_2 h0 0) 21 (9 : Int32)) && cK σ_2 h0 13) && cK σ_2 h0 13) && cA σ_2 (SR σ_2 h0 0) 21 (9 : Int32)) && cA σ_2 (SR σ_2 h0 0) 21 ((520 : Int32) + ((2 : Int32) * (SI σ_2 (SR σ_2 h0 0) (ix (9 : Int32)))))) && cK σ_3 h0 13) && cK σ_3 h0 13) && cA σ_3 (SR σ_3 h0 0) 21 (9 : Int32)) && cA σ_3 (SR σ_3 h0 0) 21 (((520 : Int32) + ((2 : Int32) * (SI σ_3 (SR σ_3 h0 0) (ix (9 : Int32))))) + (1 : Int32))) && cK σ_4 h0 13) && cA σ_4 (SR σ_4 h0 0) 21 (9 : Int32)) && cA σ_4 (SR σ_4 h0 0) 21 (9 : Int32)) && cK σ_5 h0 13) && cA σ_5 (SR σ_5 h0 0) 21 (9 : Int32)), σ_5))))))))))))))))
set_option maxRecDepth 100000 in
set_option maxHeartbeats 4000000 in
theorem s_Model_picture : ∀ (h0 : Nat) (x1 : Int32) (x2 : Int32) (b : Bool) (σ : Sto), Snd M_Model_picture 3 0 0 [vR h0, vI x1, vI x2] b σ (tI (f_Model_picture h0 x1 x2 b σ).1) (f_Model_picture h0 x1 x2 b σ).2.1 (f_Model_picture h0 x1 x2 b σ).2.2 := by
  intro h0 x1 x2 b σ
  refine Snd_of (tv := tI) (by decide) (Nat.le_of_ble_eq_true rfl) ?_
  show V M_Model_picture 3 0 0 0 0 tI (f_Model_picture h0 x1 x2 b σ) 0 [(0, vR h0), (1, vI x1), (2, vI x2)] [] b σ
  unfold f_Model_picture
  refine V_iload_n 1 rfl (show decode M_Model_picture.2.1 0 = .ok (.iload_n 1, 1) by decide +kernel) 1 rfl ?_
  refine V_i2l 2 rfl (show decode M_Model_picture.2.1 1 = .ok (.i2l, 1) by decide +kernel) ?_
  refine V_lconst 3 rfl (show decode M_Model_picture.2.1 2 = .ok (.lconst 0, 1) by decide +kernel) (v := 0) rfl ?_
  refine V_ldc2 6 rfl (show decode M_Model_picture.2.1 3 = .ok (.ldc2_w 243, 3) by decide +kernel) wd_1743 ?_
  refine V_callS (tb := tI) (as := [vL ((x1).toInt64), vL (0 : Int64), vL (999 : Int64)]) (rest := []) (na := 3) 9 rfl (s_Model_isIn ((x1).toInt64) (0 : Int64) (999 : Int64) b σ) rfl rfl (Nat.le_of_ble_eq_true rfl) (cal_Model_isIn _ _ _ _ _ (by decide) (by decide) (by decide)) (show decode M_Model_picture.2.1 6 = .ok (.invokestatic 76, 3) by decide +kernel) wd_1617 wd_1618 (fun r_1 b_1 σ_1 => ?_)
  show V M_Model_picture 3 0 0 0 0 tI _ 9 [(0, vR h0), (1, vI x1), (2, vI x2)] [vI r_1] b_1 σ_1
  refine V_jn (fun (J20 : Bool → Sto → Rs Int32) => ∀ (b : Bool) (σ : Sto), V M_Model_picture 3 0 0 0 0 tI (J20 b σ) 20 [] [] b σ) ?_ (fun J20 hJ20 => ?_)
  · intro b σ
    refine V_ldc 22 rfl (show decode M_Model_picture.2.1 20 = .ok (.ldc 91, 2) by decide +kernel) wd_1620 ?_
    exact V_iret rfl (by decide) (by decide) (show decode M_Model_picture.2.1 22 = .ok (.ireturn, 1) by decide +kernel)
  · skip
    refine V_ifeq 12 20 rfl (show decode M_Model_picture.2.1 9 = .ok (.ifCond .eq 11, 3) by decide +kernel) rfl ?_ ?_
    · skip
      exact V_sub [] rfl (hJ20 b_1 σ_1)
    · skip
      refine V_aload_n 13 rfl (show decode M_Model_picture.2.1 12 = .ok (.aload_n 0, 1) by decide +kernel) 0 rfl ?_
      refine V_iload_n 14 rfl (show decode M_Model_picture.2.1 13 = .ok (.iload_n 2, 1) by decide +kernel) 2 rfl ?_
      refine V_callV (tb := tI) (as := [vI x2]) (rest := []) (na := 1) 17 rfl ck_Model (by decide) (s_Model_isMile h0 x2 (b_1 && cK σ_1 h0 13) σ_1) rfl rfl (Nat.le_of_ble_eq_true rfl) (cal_Model_isMile _ _ _ _ _ (by decide) (by decide) (by decide)) (show decode M_Model_picture.2.1 14 = .ok (.invokevirtual 113, 3) by decide +kernel) wd_1648 wd_1650 wd_116 (fun r_2 b_2 σ_2 => ?_)
      show V M_Model_picture 3 0 0 0 0 tI _ 17 [(0, vR h0), (1, vI x1), (2, vI x2)] [vI r_2] b_2 σ_2
      refine V_ifne 20 23 rfl (show decode M_Model_picture.2.1 17 = .ok (.ifCond .ne 6, 3) by decide +kernel) rfl ?_ ?_
      · skip
        exact V_sub [] rfl (hJ20 b_2 σ_2)
      · skip
        refine V_aload_n 24 rfl (show decode M_Model_picture.2.1 23 = .ok (.aload_n 0, 1) by decide +kernel) 0 rfl ?_
        refine V_get (j := 0) (v := vR (SR σ_2 h0 0)) 27 rfl ck_Model (by decide) (by decide) (show decode M_Model_picture.2.1 24 = .ok (.getfield 7, 3) by decide +kernel) wd_1504 rfl ?_
        refine V_bipush 29 rfl (show decode M_Model_picture.2.1 27 = .ok (.bipush 9, 2) by decide +kernel) (v := 9) rfl ?_
        refine V_ald_int 30 rfl (show decode M_Model_picture.2.1 29 = .ok (.iaload, 1) by decide +kernel) ?_
        refine V_bipush 32 rfl (show decode M_Model_picture.2.1 30 = .ok (.bipush 20, 2) by decide +kernel) (v := 20) rfl ?_
        refine V_icmpne 35 38 rfl (show decode M_Model_picture.2.1 32 = .ok (.if_icmp .ne 6, 3) by decide +kernel) rfl ?_ ?_
        · skip
          refine V_ldc 37 rfl (show decode M_Model_picture.2.1 35 = .ok (.ldc 119, 2) by decide +kernel) wd_1656 ?_
          exact V_iret rfl (by decide) (by decide) (show decode M_Model_picture.2.1 37 = .ok (.ireturn, 1) by decide +kernel)
        · skip
          refine V_aload_n 39 rfl (show decode M_Model_picture.2.1 38 = .ok (.aload_n 0, 1) by decide +kernel) 0 rfl ?_
          refine V_get (j := 0) (v := vR (SR σ_2 h0 0)) 42 rfl ck_Model (by decide) (by decide) (show decode M_Model_picture.2.1 39 = .ok (.getfield 7, 3) by decide +kernel) wd_1504 rfl ?_
          refine V_sipush 45 rfl (show decode M_Model_picture.2.1 42 = .ok (.sipush 520, 3) by decide +kernel) (v := 520) rfl ?_
          refine V_iconst 46 rfl (show decode M_Model_picture.2.1 45 = .ok (.iconst 2, 1) by decide +kernel) (v := 2) rfl ?_
          refine V_aload_n 47 rfl (show decode M_Model_picture.2.1 46 = .ok (.aload_n 0, 1) by decide +kernel) 0 rfl ?_
          refine V_get (j := 0) (v := vR (SR σ_2 h0 0)) 50 rfl ck_Model (by decide) (by decide) (show decode M_Model_picture.2.1 47 = .ok (.getfield 7, 3) by decide +kernel) wd_1504 rfl ?_
          refine V_bipush 52 rfl (show decode M_Model_picture.2.1 50 = .ok (.bipush 9, 2) by decide +kernel) (v := 9) rfl ?_
          refine V_ald_int 53 rfl (show decode M_Model_picture.2.1 52 = .ok (.iaload, 1) by decide +kernel) ?_
          refine V_imul 54 rfl (show decode M_Model_picture.2.1 53 = .ok (.imul, 1) by decide +kernel) ?_
          refine V_iadd 55 rfl (show decode M_Model_picture.2.1 54 = .ok (.iadd, 1) by decide +kernel) ?_
          refine V_iload_n 56 rfl (show decode M_Model_picture.2.1 55 = .ok (.iload_n 1, 1) by decide +kernel) 1 rfl ?_
          refine V_ast_int 57 rfl (show decode M_Model_picture.2.1 56 = .ok (.iastore, 1) by decide +kernel) (fun σ_3 => ?_)
          refine V_aload_n 58 rfl (show decode M_Model_picture.2.1 57 = .ok (.aload_n 0, 1) by decide +kernel) 0 rfl ?_
          refine V_get (j := 0) (v := vR (SR σ_3 h0 0)) 61 rfl ck_Model (by decide) (by decide) (show decode M_Model_picture.2.1 58 = .ok (.getfield 7, 3) by decide +kernel) wd_1504 rfl ?_
          refine V_sipush 64 rfl (show decode M_Model_picture.2.1 61 = .ok (.sipush 520, 3) by decide +kernel) (v := 520) rfl ?_
          refine V_iconst 65 rfl (show decode M_Model_picture.2.1 64 = .ok (.iconst 2, 1) by decide +kernel) (v := 2) rfl ?_
          refine V_aload_n 66 rfl (show decode M_Model_picture.2.1 65 = .ok (.aload_n 0, 1) by decide +kernel) 0 rfl ?_
          refine V_get (j := 0) (v := vR (SR σ_3 h0 0)) 69 rfl ck_Model (by decide) (by decide) (show decode M_Model_picture.2.1 66 = .ok (.getfield 7, 3) by decide +kernel) wd_1504 rfl ?_
          refine V_bipush 71 rfl (show decode M_Model_picture.2.1 69 = .ok (.bipush 9, 2) by decide +kernel) (v := 9) rfl ?_
          refine V_ald_int 72 rfl (show decode M_Model_picture.2.1 71 = .ok (.iaload, 1) by decide +kernel) ?_
          refine V_imul 73 rfl (show decode M_Model_picture.2.1 72 = .ok (.imul, 1) by decide +kernel) ?_
          refine V_iadd 74 rfl (show decode M_Model_picture.2.1 73 = .ok (.iadd, 1) by decide +kernel) ?_
          refine V_iconst 75 rfl (show decode M_Model_picture.2.1 74 = .ok (.iconst 1, 1) by decide +kernel) (v := 1) rfl ?_
          refine V_iadd 76 rfl (show decode M_Model_picture.2.1 75 = .ok (.iadd, 1) by decide +kernel) ?_
          refine V_iload_n 77 rfl (show decode M_Model_picture.2.1 76 = .ok (.iload_n 2, 1) by decide +kernel) 2 rfl ?_
          refine V_ast_int 78 rfl (show decode M_Model_picture.2.1 77 = .ok (.iastore, 1) by decide +kernel) (fun σ_4 => ?_)
          refine V_aload_n 79 rfl (show decode M_Model_picture.2.1 78 = .ok (.aload_n 0, 1) by decide +kernel) 0 rfl ?_
          refine V_get (j := 0) (v := vR (SR σ_4 h0 0)) 82 rfl ck_Model (by decide) (by decide) (show decode M_Model_picture.2.1 79 = .ok (.getfield 7, 3) by decide +kernel) wd_1504 rfl ?_
          refine V_bipush 84 rfl (show decode M_Model_picture.2.1 82 = .ok (.bipush 9, 2) by decide +kernel) (v := 9) rfl ?_
          refine V_dup2 85 rfl (show decode M_Model_picture.2.1 84 = .ok (.dup2, 1) by decide +kernel) rfl rfl ?_
          refine V_ald_int 86 rfl (show decode M_Model_picture.2.1 85 = .ok (.iaload, 1) by decide +kernel) ?_
          refine V_iconst 87 rfl (show decode M_Model_picture.2.1 86 = .ok (.iconst 1, 1) by decide +kernel) (v := 1) rfl ?_
          refine V_iadd 88 rfl (show decode M_Model_picture.2.1 87 = .ok (.iadd, 1) by decide +kernel) ?_
          refine V_ast_int 89 rfl (show decode M_Model_picture.2.1 88 = .ok (.iastore, 1) by decide +kernel) (fun σ_5 => ?_)
          refine V_aload_n 90 rfl (show decode M_Model_picture.2.1 89 = .ok (.aload_n 0, 1) by decide +kernel) 0 rfl ?_
          refine V_get (j := 0) (v := vR (SR σ_5 h0 0)) 93 rfl ck_Model (by decide) (by decide) (show decode M_Model_picture.2.1 90 = .ok (.getfield 7, 3) by decide +kernel) wd_1504 rfl ?_
          refine V_bipush 95 rfl (show decode M_Model_picture.2.1 93 = .ok (.bipush 9, 2) by decide +kernel) (v := 9) rfl ?_
          refine V_ald_int 96 rfl (show decode M_Model_picture.2.1 95 = .ok (.iaload, 1) by decide +kernel) ?_
          refine V_iconst 97 rfl (show decode M_Model_picture.2.1 96 = .ok (.iconst 1, 1) by decide +kernel) (v := 1) rfl ?_
          refine V_isub 98 rfl (show decode M_Model_picture.2.1 97 = .ok (.isub, 1) by decide +kernel) ?_
          exact V_iret rfl (by decide) (by decide) (show decode M_Model_picture.2.1 98 = .ok (.ireturn, 1) by decide +kernel)
theorem cal_Model_picture (d mc ms k n : Nat) (h1 : 3 + 1 ≤ d) (h2 : k + 0 ≤ mc) (h3 : n + 0 ≤ ms) : Cal M_Model_picture 3 0 0 2 d mc ms k n := ⟨wd_2022, wd_181, by decide, h1, by decide, h2, h3⟩
abbrev M_Model_place : MD := (⟨"LongTrailModel", "place", "(III)I"⟩, prog_14_method_23_code, 6, (some FieldType.int))
def f_Model_place (h0 : Nat) (x1 : Int32) (x2 : Int32) (x3 : Int32) (b : Bool) (σ : Sto) : Rs Int32 := (bd_ (f_Model_hasBeds x1 b σ) (fun (r_1 : Int32) (b_1 : Bool) (σ_1 : Sto) => (lt_ (fun (s0_45 : Int32) (b : Bool) (σ : Sto) => (lt_ s0_45 (fun (x4_2 : Int32) => (bd_ (f_Model_isIn ((x1).toInt64) (0 : Int64) (5 : Int64) b σ) (fun (r_3 : Int32) (b_3 : Bool) (σ_3 : Sto) => (lt_ (fun (b : Bool) (σ : Sto) => ((-1000000001 : Int32), b, σ)) (fun J72 => (if r_3 = 0 then (J72 b_3 σ_3) else (bd_ (f_Model_isMile h0 x2 (b_3 && cK σ_3 h0 13) σ_3) (fun (r_4 : Int32) (b_4 : Bool) (σ_4 : Sto) => (if r_4 = 0 then (J72 b_4 σ_4) else (if x4_2 = 0 then (J72 b_4 σ_4) else (bd_ (f_Model_placeOn h0 x2 (b_4 && cK σ_4 h0 13) σ_4) (fun (r_5 : Int32) (b_5 : Bool) (σ_5 : Sto) => (if r_5 < 0 then (if (SI σ_5 (SR σ_5 h0 0) (ix (2 : Int32))) = (16 : Int32) then ((-1000000003 : Int32), ((b_5 && cK σ_5 h0 13) && cA σ_5 (SR σ_5 h0 0) 21 (2 : Int32)), σ_5) else (bd_ (f_Model_placeAt h0 (SI σ_5 (SR σ_5 h0 0) (ix (2 : Int32))) (((((b_5 && cK σ_5 h0 13) && cA σ_5 (SR σ_5 h0 0) 21 (2 : Int32)) && cK σ_5 h0 13) && cA σ_5 (SR σ_5 h0 0) 21 (2 : Int32)) && cK σ_5 h0 13) σ_5) (fun (r_6 : Int32) (b_6 : Bool) (σ_6 : Sto) => (lt_ r_6 (fun (x5_7 : Int32) => (lt_ (pI σ_6 (SR σ_6 h0 0) (ix x5_7) x1) (fun (σ_8 : Sto) => (lt_ (pI σ_8 (SR σ_8 h0 0) (ix (x5_7 + (1 : Int32))) x2) (fun (σ_9 : Sto) => (lt_ (pI σ_9 (SR σ_9 h0 0) (ix (x5_7 + (2 : Int32))) x3) (fun (σ_10 : Sto) => (lt_ (pI σ_10 (SR σ_10 h0 0) (ix (x5_7 + (3 : Int32))) (0 : Int32)) (fun (σ_11 : Sto) => (lt_ (pI σ_11 (SR σ_11 h0 0) (ix (2 : Int32)) ((SI σ_11 (SR σ_11 h0 0) (ix (2 : Int32))) + (1 : Int32))) (fun (σ_12 : Sto) => (((SI σ_12 (SR σ_12 h0 0) (ix (2 : Int32))) - (1 : Int32)), (((((((((((((b_6 && cK σ_6 h0 13) && cA σ_6 (SR σ_6 h0 0) 21 x5_7) && cK σ_8 h0 13) && cA σ_8 (SR σ_8 h0 0) 21 (x5_7 + (1 : Int32))) && cK σ_9 h0 13) && cA σ_9 (SR σ_9 h0 0) 21 (x5_7 + (2 : Int32))) && cK σ_10 h0 13) && cA σ_10 (SR σ_10 h0 0) 21 (x5_7 + (3 : Int32))) && cK σ_11 h0 13) && cA σ_11 (SR σ_11 h0 0) 21 (2 : Int32)) && cA σ_11 (SR σ_11 h0 0) 21 (2 : Int32)) && cK σ_12 h0 13) && cA σ_12 (SR σ_12 h0 0) 21 (2 : Int32)), σ_12)))))))))))))))) else ((-1000000002 : Int32), b_5, σ_5)))))))))))))))) (fun J45 => (if r_1 = 0 then (if x1 = (4 : Int32) then (bd_ (f_Model_isIn ((x3).toInt64) (0 : Int64) (142 : Int64) b_1 σ_1) (fun (r_13 : Int32) (b_13 : Bool) (σ_13 : Sto) => (J45 r_13 b_13 σ_13))) else (if x3 = 0 then (J45 (1 : Int32) b_1 σ_1) else (J45 (0 : Int32) b_1 σ_1))) else (bd_ (f_Model_isIn ((x3).toInt64) (1 : Int64) (9 : Int64) b_1 σ_1) (fun (r_14 : Int32) (b_14 : Bool) (σ_14 : Sto) => (J45 r_14 b_14 σ_14))))))))
set_option maxRecDepth 100000 in
set_option maxHeartbeats 4000000 in
theorem s_Model_place : ∀ (h0 : Nat) (x1 : Int32) (x2 : Int32) (x3 : Int32) (b : Bool) (σ : Sto), Snd M_Model_place 4 0 0 [vR h0, vI x1, vI x2, vI x3] b σ (tI (f_Model_place h0 x1 x2 x3 b σ).1) (f_Model_place h0 x1 x2 x3 b σ).2.1 (f_Model_place h0 x1 x2 x3 b σ).2.2 := by
  intro h0 x1 x2 x3 b σ
  refine Snd_of (tv := tI) (by decide) (Nat.le_of_ble_eq_true rfl) ?_
  show V M_Model_place 4 0 0 0 0 tI (f_Model_place h0 x1 x2 x3 b σ) 0 [(0, vR h0), (1, vI x1), (2, vI x2), (3, vI x3)] [] b σ
  unfold f_Model_place
  refine V_iload_n 1 rfl (show decode M_Model_place.2.1 0 = .ok (.iload_n 1, 1) by decide +kernel) 1 rfl ?_
  refine V_callS (tb := tI) (as := [vI x1]) (rest := []) (na := 1) 4 rfl (s_Model_hasBeds x1 b σ) rfl rfl (Nat.le_of_ble_eq_true rfl) (cal_Model_hasBeds _ _ _ _ _ (by decide) (by decide) (by decide)) (show decode M_Model_place.2.1 1 = .ok (.invokestatic 103, 3) by decide +kernel) wd_1642 wd_1643 (fun r_1 b_1 σ_1 => ?_)
  show V M_Model_place 4 0 0 0 0 tI _ 4 [(0, vR h0), (1, vI x1), (2, vI x2), (3, vI x3)] [vI r_1] b_1 σ_1
  refine V_jn (fun (J45 : Int32 → Bool → Sto → Rs Int32) => ∀ (s0_45 : Int32) (b : Bool) (σ : Sto), V M_Model_place 4 0 0 0 0 tI (J45 s0_45 b σ) 45 [(0, vR h0), (1, vI x1), (2, vI x2), (3, vI x3)] [vI s0_45] b σ) ?_ (fun J45 hJ45 => ?_)
  · intro s0_45 b σ
    refine V_istore (fun x4_2 => [(4, vI x4_2), (0, vR h0), (1, vI x1), (2, vI x2), (3, vI x3)]) 47 rfl (show decode M_Model_place.2.1 45 = .ok (.istore 4, 2) by decide +kernel) (by decide) (fun _ => rfl) (fun x4_2 => ?_)
    refine V_iload_n 48 rfl (show decode M_Model_place.2.1 47 = .ok (.iload_n 1, 1) by decide +kernel) 2 rfl ?_
    refine V_i2l 49 rfl (show decode M_Model_place.2.1 48 = .ok (.i2l, 1) by decide +kernel) ?_
    refine V_lconst 50 rfl (show decode M_Model_place.2.1 49 = .ok (.lconst 0, 1) by decide +kernel) (v := 0) rfl ?_
    refine V_ldc2 53 rfl (show decode M_Model_place.2.1 50 = .ok (.ldc2_w 111, 3) by decide +kernel) wd_1647 ?_
    refine V_callS (tb := tI) (as := [vL ((x1).toInt64), vL (0 : Int64), vL (5 : Int64)]) (rest := []) (na := 3) 56 rfl (s_Model_isIn ((x1).toInt64) (0 : Int64) (5 : Int64) b σ) rfl rfl (Nat.le_of_ble_eq_true rfl) (cal_Model_isIn _ _ _ _ _ (by decide) (by decide) (by decide)) (show decode M_Model_place.2.1 53 = .ok (.invokestatic 76, 3) by decide +kernel) wd_1617 wd_1618 (fun r_3 b_3 σ_3 => ?_)
    show V M_Model_place 4 0 0 0 0 tI _ 56 [(4, vI x4_2), (0, vR h0), (1, vI x1), (2, vI x2), (3, vI x3)] [vI r_3] b_3 σ_3
    refine V_jn (fun (J72 : Bool → Sto → Rs Int32) => ∀ (b : Bool) (σ : Sto), V M_Model_place 4 0 0 0 0 tI (J72 b σ) 72 [] [] b σ) ?_ (fun J72 hJ72 => ?_)
    · intro b σ
      refine V_ldc 74 rfl (show decode M_Model_place.2.1 72 = .ok (.ldc 91, 2) by decide +kernel) wd_1620 ?_
      exact V_iret rfl (by decide) (by decide) (show decode M_Model_place.2.1 74 = .ok (.ireturn, 1) by decide +kernel)
    · skip
      refine V_ifeq 59 72 rfl (show decode M_Model_place.2.1 56 = .ok (.ifCond .eq 16, 3) by decide +kernel) rfl ?_ ?_
      · skip
        exact V_sub [] rfl (hJ72 b_3 σ_3)
      · skip
        refine V_aload_n 60 rfl (show decode M_Model_place.2.1 59 = .ok (.aload_n 0, 1) by decide +kernel) 1 rfl ?_
        refine V_iload_n 61 rfl (show decode M_Model_place.2.1 60 = .ok (.iload_n 2, 1) by decide +kernel) 3 rfl ?_
        refine V_callV (tb := tI) (as := [vI x2]) (rest := []) (na := 1) 64 rfl ck_Model (by decide) (s_Model_isMile h0 x2 (b_3 && cK σ_3 h0 13) σ_3) rfl rfl (Nat.le_of_ble_eq_true rfl) (cal_Model_isMile _ _ _ _ _ (by decide) (by decide) (by decide)) (show decode M_Model_place.2.1 61 = .ok (.invokevirtual 113, 3) by decide +kernel) wd_1648 wd_1650 wd_116 (fun r_4 b_4 σ_4 => ?_)
        show V M_Model_place 4 0 0 0 0 tI _ 64 [(4, vI x4_2), (0, vR h0), (1, vI x1), (2, vI x2), (3, vI x3)] [vI r_4] b_4 σ_4
        refine V_ifeq 67 72 rfl (show decode M_Model_place.2.1 64 = .ok (.ifCond .eq 8, 3) by decide +kernel) rfl ?_ ?_
        · skip
          exact V_sub [] rfl (hJ72 b_4 σ_4)
        · skip
          refine V_iload 69 rfl (show decode M_Model_place.2.1 67 = .ok (.iload 4, 2) by decide +kernel) 0 rfl ?_
          refine V_ifne 72 75 rfl (show decode M_Model_place.2.1 69 = .ok (.ifCond .ne 6, 3) by decide +kernel) rfl ?_ ?_
          · skip
            exact V_sub [] rfl (hJ72 b_4 σ_4)
          · skip
            refine V_aload_n 76 rfl (show decode M_Model_place.2.1 75 = .ok (.aload_n 0, 1) by decide +kernel) 1 rfl ?_
            refine V_iload_n 77 rfl (show decode M_Model_place.2.1 76 = .ok (.iload_n 2, 1) by decide +kernel) 3 rfl ?_
            refine V_callV (tb := tI) (as := [vI x2]) (rest := []) (na := 1) 80 rfl ck_Model (by decide) (s_Model_placeOn h0 x2 (b_4 && cK σ_4 h0 13) σ_4) rfl rfl (Nat.le_of_ble_eq_true rfl) (cal_Model_placeOn _ _ _ _ _ (by decide) (by decide) (by decide)) (show decode M_Model_place.2.1 77 = .ok (.invokevirtual 116, 3) by decide +kernel) wd_1652 wd_1654 wd_117 (fun r_5 b_5 σ_5 => ?_)
            show V M_Model_place 4 0 0 0 0 tI _ 80 [(4, vI x4_2), (0, vR h0), (1, vI x1), (2, vI x2), (3, vI x3)] [vI r_5] b_5 σ_5
            refine V_iflt 83 86 rfl (show decode M_Model_place.2.1 80 = .ok (.ifCond .lt 6, 3) by decide +kernel) rfl ?_ ?_
            · skip
              refine V_aload_n 87 rfl (show decode M_Model_place.2.1 86 = .ok (.aload_n 0, 1) by decide +kernel) 1 rfl ?_
              refine V_get (j := 0) (v := vR (SR σ_5 h0 0)) 90 rfl ck_Model (by decide) (by decide) (show decode M_Model_place.2.1 87 = .ok (.getfield 7, 3) by decide +kernel) wd_1504 rfl ?_
              refine V_iconst 91 rfl (show decode M_Model_place.2.1 90 = .ok (.iconst 2, 1) by decide +kernel) (v := 2) rfl ?_
              refine V_ald_int 92 rfl (show decode M_Model_place.2.1 91 = .ok (.iaload, 1) by decide +kernel) ?_
              refine V_bipush 94 rfl (show decode M_Model_place.2.1 92 = .ok (.bipush 16, 2) by decide +kernel) (v := 16) rfl ?_
              refine V_icmpne 97 100 rfl (show decode M_Model_place.2.1 94 = .ok (.if_icmp .ne 6, 3) by decide +kernel) rfl ?_ ?_
              · skip
                refine V_ldc 99 rfl (show decode M_Model_place.2.1 97 = .ok (.ldc 119, 2) by decide +kernel) wd_1656 ?_
                exact V_iret rfl (by decide) (by decide) (show decode M_Model_place.2.1 99 = .ok (.ireturn, 1) by decide +kernel)
              · skip
                refine V_aload_n 101 rfl (show decode M_Model_place.2.1 100 = .ok (.aload_n 0, 1) by decide +kernel) 1 rfl ?_
                refine V_aload_n 102 rfl (show decode M_Model_place.2.1 101 = .ok (.aload_n 0, 1) by decide +kernel) 1 rfl ?_
                refine V_get (j := 0) (v := vR (SR σ_5 h0 0)) 105 rfl ck_Model (by decide) (by decide) (show decode M_Model_place.2.1 102 = .ok (.getfield 7, 3) by decide +kernel) wd_1504 rfl ?_
                refine V_iconst 106 rfl (show decode M_Model_place.2.1 105 = .ok (.iconst 2, 1) by decide +kernel) (v := 2) rfl ?_
                refine V_ald_int 107 rfl (show decode M_Model_place.2.1 106 = .ok (.iaload, 1) by decide +kernel) ?_
                refine V_callV (tb := tI) (as := [vI (SI σ_5 (SR σ_5 h0 0) (ix (2 : Int32)))]) (rest := []) (na := 1) 110 rfl ck_Model (by decide) (s_Model_placeAt h0 (SI σ_5 (SR σ_5 h0 0) (ix (2 : Int32))) (((((b_5 && cK σ_5 h0 13) && cA σ_5 (SR σ_5 h0 0) 21 (2 : Int32)) && cK σ_5 h0 13) && cA σ_5 (SR σ_5 h0 0) 21 (2 : Int32)) && cK σ_5 h0 13) σ_5) rfl rfl (Nat.le_of_ble_eq_true rfl) (cal_Model_placeAt _ _ _ _ _ (by decide) (by decide) (by decide)) (show decode M_Model_place.2.1 107 = .ok (.invokevirtual 80, 3) by decide +kernel) wd_1625 wd_1627 wd_113 (fun r_6 b_6 σ_6 => ?_)
                show V M_Model_place 4 0 0 0 0 tI _ 110 [(4, vI x4_2), (0, vR h0), (1, vI x1), (2, vI x2), (3, vI x3)] [vI r_6] b_6 σ_6
                refine V_istore (fun x5_7 => [(5, vI x5_7), (4, vI x4_2), (0, vR h0), (1, vI x1), (2, vI x2), (3, vI x3)]) 112 rfl (show decode M_Model_place.2.1 110 = .ok (.istore 5, 2) by decide +kernel) (by decide) (fun _ => rfl) (fun x5_7 => ?_)
                refine V_aload_n 113 rfl (show decode M_Model_place.2.1 112 = .ok (.aload_n 0, 1) by decide +kernel) 2 rfl ?_
                refine V_get (j := 0) (v := vR (SR σ_6 h0 0)) 116 rfl ck_Model (by decide) (by decide) (show decode M_Model_place.2.1 113 = .ok (.getfield 7, 3) by decide +kernel) wd_1504 rfl ?_
                refine V_iload 118 rfl (show decode M_Model_place.2.1 116 = .ok (.iload 5, 2) by decide +kernel) 0 rfl ?_
                refine V_iload_n 119 rfl (show decode M_Model_place.2.1 118 = .ok (.iload_n 1, 1) by decide +kernel) 3 rfl ?_
                refine V_ast_int 120 rfl (show decode M_Model_place.2.1 119 = .ok (.iastore, 1) by decide +kernel) (fun σ_8 => ?_)
                refine V_aload_n 121 rfl (show decode M_Model_place.2.1 120 = .ok (.aload_n 0, 1) by decide +kernel) 2 rfl ?_
                refine V_get (j := 0) (v := vR (SR σ_8 h0 0)) 124 rfl ck_Model (by decide) (by decide) (show decode M_Model_place.2.1 121 = .ok (.getfield 7, 3) by decide +kernel) wd_1504 rfl ?_
                refine V_iload 126 rfl (show decode M_Model_place.2.1 124 = .ok (.iload 5, 2) by decide +kernel) 0 rfl ?_
                refine V_iconst 127 rfl (show decode M_Model_place.2.1 126 = .ok (.iconst 1, 1) by decide +kernel) (v := 1) rfl ?_
                refine V_iadd 128 rfl (show decode M_Model_place.2.1 127 = .ok (.iadd, 1) by decide +kernel) ?_
                refine V_iload_n 129 rfl (show decode M_Model_place.2.1 128 = .ok (.iload_n 2, 1) by decide +kernel) 4 rfl ?_
                refine V_ast_int 130 rfl (show decode M_Model_place.2.1 129 = .ok (.iastore, 1) by decide +kernel) (fun σ_9 => ?_)
                refine V_aload_n 131 rfl (show decode M_Model_place.2.1 130 = .ok (.aload_n 0, 1) by decide +kernel) 2 rfl ?_
                refine V_get (j := 0) (v := vR (SR σ_9 h0 0)) 134 rfl ck_Model (by decide) (by decide) (show decode M_Model_place.2.1 131 = .ok (.getfield 7, 3) by decide +kernel) wd_1504 rfl ?_
                refine V_iload 136 rfl (show decode M_Model_place.2.1 134 = .ok (.iload 5, 2) by decide +kernel) 0 rfl ?_
                refine V_iconst 137 rfl (show decode M_Model_place.2.1 136 = .ok (.iconst 2, 1) by decide +kernel) (v := 2) rfl ?_
                refine V_iadd 138 rfl (show decode M_Model_place.2.1 137 = .ok (.iadd, 1) by decide +kernel) ?_
                refine V_iload_n 139 rfl (show decode M_Model_place.2.1 138 = .ok (.iload_n 3, 1) by decide +kernel) 5 rfl ?_
                refine V_ast_int 140 rfl (show decode M_Model_place.2.1 139 = .ok (.iastore, 1) by decide +kernel) (fun σ_10 => ?_)
                refine V_aload_n 141 rfl (show decode M_Model_place.2.1 140 = .ok (.aload_n 0, 1) by decide +kernel) 2 rfl ?_
                refine V_get (j := 0) (v := vR (SR σ_10 h0 0)) 144 rfl ck_Model (by decide) (by decide) (show decode M_Model_place.2.1 141 = .ok (.getfield 7, 3) by decide +kernel) wd_1504 rfl ?_
                refine V_iload 146 rfl (show decode M_Model_place.2.1 144 = .ok (.iload 5, 2) by decide +kernel) 0 rfl ?_
                refine V_iconst 147 rfl (show decode M_Model_place.2.1 146 = .ok (.iconst 3, 1) by decide +kernel) (v := 3) rfl ?_
                refine V_iadd 148 rfl (show decode M_Model_place.2.1 147 = .ok (.iadd, 1) by decide +kernel) ?_
                refine V_iconst 149 rfl (show decode M_Model_place.2.1 148 = .ok (.iconst 0, 1) by decide +kernel) (v := 0) rfl ?_
                refine V_ast_int 150 rfl (show decode M_Model_place.2.1 149 = .ok (.iastore, 1) by decide +kernel) (fun σ_11 => ?_)
                refine V_aload_n 151 rfl (show decode M_Model_place.2.1 150 = .ok (.aload_n 0, 1) by decide +kernel) 2 rfl ?_
                refine V_get (j := 0) (v := vR (SR σ_11 h0 0)) 154 rfl ck_Model (by decide) (by decide) (show decode M_Model_place.2.1 151 = .ok (.getfield 7, 3) by decide +kernel) wd_1504 rfl ?_
                refine V_iconst 155 rfl (show decode M_Model_place.2.1 154 = .ok (.iconst 2, 1) by decide +kernel) (v := 2) rfl ?_
                refine V_dup2 156 rfl (show decode M_Model_place.2.1 155 = .ok (.dup2, 1) by decide +kernel) rfl rfl ?_
                refine V_ald_int 157 rfl (show decode M_Model_place.2.1 156 = .ok (.iaload, 1) by decide +kernel) ?_
                refine V_iconst 158 rfl (show decode M_Model_place.2.1 157 = .ok (.iconst 1, 1) by decide +kernel) (v := 1) rfl ?_
                refine V_iadd 159 rfl (show decode M_Model_place.2.1 158 = .ok (.iadd, 1) by decide +kernel) ?_
                refine V_ast_int 160 rfl (show decode M_Model_place.2.1 159 = .ok (.iastore, 1) by decide +kernel) (fun σ_12 => ?_)
                refine V_aload_n 161 rfl (show decode M_Model_place.2.1 160 = .ok (.aload_n 0, 1) by decide +kernel) 2 rfl ?_
                refine V_get (j := 0) (v := vR (SR σ_12 h0 0)) 164 rfl ck_Model (by decide) (by decide) (show decode M_Model_place.2.1 161 = .ok (.getfield 7, 3) by decide +kernel) wd_1504 rfl ?_
                refine V_iconst 165 rfl (show decode M_Model_place.2.1 164 = .ok (.iconst 2, 1) by decide +kernel) (v := 2) rfl ?_
                refine V_ald_int 166 rfl (show decode M_Model_place.2.1 165 = .ok (.iaload, 1) by decide +kernel) ?_
                refine V_iconst 167 rfl (show decode M_Model_place.2.1 166 = .ok (.iconst 1, 1) by decide +kernel) (v := 1) rfl ?_
                refine V_isub 168 rfl (show decode M_Model_place.2.1 167 = .ok (.isub, 1) by decide +kernel) ?_
                exact V_iret rfl (by decide) (by decide) (show decode M_Model_place.2.1 168 = .ok (.ireturn, 1) by decide +kernel)
            · skip
              refine V_ldc 85 rfl (show decode M_Model_place.2.1 83 = .ok (.ldc 98, 2) by decide +kernel) wd_1633 ?_
              exact V_iret rfl (by decide) (by decide) (show decode M_Model_place.2.1 85 = .ok (.ireturn, 1) by decide +kernel)
  · skip
    refine V_ifeq 7 19 rfl (show decode M_Model_place.2.1 4 = .ok (.ifCond .eq 15, 3) by decide +kernel) rfl ?_ ?_
    · skip
      refine V_iload_n 20 rfl (show decode M_Model_place.2.1 19 = .ok (.iload_n 1, 1) by decide +kernel) 1 rfl ?_
      refine V_iconst 21 rfl (show decode M_Model_place.2.1 20 = .ok (.iconst 4, 1) by decide +kernel) (v := 4) rfl ?_
      refine V_icmpne 24 36 rfl (show decode M_Model_place.2.1 21 = .ok (.if_icmp .ne 15, 3) by decide +kernel) rfl ?_ ?_
      · skip
        refine V_iload_n 25 rfl (show decode M_Model_place.2.1 24 = .ok (.iload_n 3, 1) by decide +kernel) 3 rfl ?_
        refine V_i2l 26 rfl (show decode M_Model_place.2.1 25 = .ok (.i2l, 1) by decide +kernel) ?_
        refine V_lconst 27 rfl (show decode M_Model_place.2.1 26 = .ok (.lconst 0, 1) by decide +kernel) (v := 0) rfl ?_
        refine V_ldc2 30 rfl (show decode M_Model_place.2.1 27 = .ok (.ldc2_w 109, 3) by decide +kernel) wd_1646 ?_
        refine V_callS (tb := tI) (as := [vL ((x3).toInt64), vL (0 : Int64), vL (142 : Int64)]) (rest := []) (na := 3) 33 rfl (s_Model_isIn ((x3).toInt64) (0 : Int64) (142 : Int64) b_1 σ_1) rfl rfl (Nat.le_of_ble_eq_true rfl) (cal_Model_isIn _ _ _ _ _ (by decide) (by decide) (by decide)) (show decode M_Model_place.2.1 30 = .ok (.invokestatic 76, 3) by decide +kernel) wd_1617 wd_1618 (fun r_13 b_13 σ_13 => ?_)
        show V M_Model_place 4 0 0 0 0 tI _ 33 [(0, vR h0), (1, vI x1), (2, vI x2), (3, vI x3)] [vI r_13] b_13 σ_13
        refine V_goto 45 (show decode M_Model_place.2.1 33 = .ok (.goto 12, 3) by decide +kernel) rfl ?_
        exact V_sub [0, 1, 2, 3] rfl (hJ45 r_13 b_13 σ_13)
      · skip
        refine V_iload_n 37 rfl (show decode M_Model_place.2.1 36 = .ok (.iload_n 3, 1) by decide +kernel) 3 rfl ?_
        refine V_ifne 40 44 rfl (show decode M_Model_place.2.1 37 = .ok (.ifCond .ne 7, 3) by decide +kernel) rfl ?_ ?_
        · skip
          refine V_iconst 41 rfl (show decode M_Model_place.2.1 40 = .ok (.iconst 1, 1) by decide +kernel) (v := 1) rfl ?_
          refine V_goto 45 (show decode M_Model_place.2.1 41 = .ok (.goto 4, 3) by decide +kernel) rfl ?_
          exact V_sub [0, 1, 2, 3] rfl (hJ45 (1 : Int32) b_1 σ_1)
        · skip
          refine V_iconst 45 rfl (show decode M_Model_place.2.1 44 = .ok (.iconst 0, 1) by decide +kernel) (v := 0) rfl ?_
          exact V_sub [0, 1, 2, 3] rfl (hJ45 (0 : Int32) b_1 σ_1)
    · skip
      refine V_iload_n 8 rfl (show decode M_Model_place.2.1 7 = .ok (.iload_n 3, 1) by decide +kernel) 3 rfl ?_
      refine V_i2l 9 rfl (show decode M_Model_place.2.1 8 = .ok (.i2l, 1) by decide +kernel) ?_
      refine V_lconst 10 rfl (show decode M_Model_place.2.1 9 = .ok (.lconst 1, 1) by decide +kernel) (v := 1) rfl ?_
      refine V_ldc2 13 rfl (show decode M_Model_place.2.1 10 = .ok (.ldc2_w 107, 3) by decide +kernel) wd_1645 ?_
      refine V_callS (tb := tI) (as := [vL ((x3).toInt64), vL (1 : Int64), vL (9 : Int64)]) (rest := []) (na := 3) 16 rfl (s_Model_isIn ((x3).toInt64) (1 : Int64) (9 : Int64) b_1 σ_1) rfl rfl (Nat.le_of_ble_eq_true rfl) (cal_Model_isIn _ _ _ _ _ (by decide) (by decide) (by decide)) (show decode M_Model_place.2.1 13 = .ok (.invokestatic 76, 3) by decide +kernel) wd_1617 wd_1618 (fun r_14 b_14 σ_14 => ?_)
      show V M_Model_place 4 0 0 0 0 tI _ 16 [(0, vR h0), (1, vI x1), (2, vI x2), (3, vI x3)] [vI r_14] b_14 σ_14
      refine V_goto 45 (show decode M_Model_place.2.1 16 = .ok (.goto 29, 3) by decide +kernel) rfl ?_
      exact V_sub [0, 1, 2, 3] rfl (hJ45 r_14 b_14 σ_14)
theorem cal_Model_place (d mc ms k n : Nat) (h1 : 4 + 1 ≤ d) (h2 : k + 0 ≤ mc) (h3 : n + 0 ≤ ms) : Cal M_Model_place 4 0 0 3 d mc ms k n := ⟨wd_1641, wd_181, by decide, h1, by decide, h2, h3⟩
abbrev M_Model_weightOf : MD := (⟨"LongTrailModel", "weightOf", "(IIII)I"⟩, prog_14_method_93_code, 9, (some FieldType.int))
def b_Model_weightOf_9 (h0 : Nat) (x1 : Int32) (x2 : Int32) (x3 : Int32) (x4 : Int32) (L9 : Int32 → Int32 → Int32 → Bool → Sto → Rs Int32) (x5 : Int32) (x6 : Int32) (x7 : Int32) (b : Bool) (σ : Sto) : Rs Int32 := (lt_ (fun (b : Bool) (σ : Sto) => (bd_ (f_Model_leg ((SI σ (SR σ h0 0) (ix (1 : Int32))) - x5) x3 x4 ((b && cK σ h0 13) && cA σ (SR σ h0 0) 21 (1 : Int32)) σ) (fun (r_4 : Int32) (b_4 : Bool) (σ_4 : Sto) => (lt_ r_4 (fun (x7_5 : Int32) => (lt_ (fun (b : Bool) (σ : Sto) => ((-1 : Int32), b, σ)) (fun J122 => (if x6 < 0 then (J122 b_4 σ_4) else (if x7_5 < 0 then (J122 b_4 σ_4) else ((x6 + x7_5), b_4, σ_4)))))))))) (fun J95 => (if x7 < x2 then (if x6 < 0 then (J95 b σ) else (lt_ (fun (x5_89 : Int32) (x6_89 : Int32) (b : Bool) (σ : Sto) => (lt_ (x7 + (1 : Int32)) (fun (x7_6 : Int32) => (L9 x5_89 x6_89 x7_6 b σ)))) (fun J89 => (if ((x1 >>> (x7 &&& 31)) &&& (1 : Int32)) = (1 : Int32) then (bd_ (f_Model_mileOf h0 (SI σ (SR σ h0 25) (ix x7)) (((b && cK σ h0 13) && cA σ (SR σ h0 25) 21 x7) && cK σ h0 13) σ) (fun (r_7 : Int32) (b_7 : Bool) (σ_7 : Sto) => (bd_ (f_Model_leg (r_7 - x5) x3 x4 b_7 σ_7) (fun (r_8 : Int32) (b_8 : Bool) (σ_8 : Sto) => (lt_ r_8 (fun (x8_9 : Int32) => (bd_ (f_Model_mileOf h0 (SI σ_8 (SR σ_8 h0 25) (ix x7)) (((b_8 && cK σ_8 h0 13) && cA σ_8 (SR σ_8 h0 25) 21 x7) && cK σ_8 h0 13) σ_8) (fun (r_10 : Int32) (b_10 : Bool) (σ_10 : Sto) => (lt_ r_10 (fun (x5_11 : Int32) => (lt_ (fun (s0_87 : Int32) (b : Bool) (σ : Sto) => (lt_ s0_87 (fun (x6_12 : Int32) => (J89 x5_11 x6_12 b σ)))) (fun J87 => (if x8_9 < 0 then (J87 (-1 : Int32) b_10 σ_10) else (J87 ((x6 + x8_9) + (SI σ_10 (SR σ_10 h0 0) (ix (10 : Int32)))) ((b_10 && cK σ_10 h0 13) && cA σ_10 (SR σ_10 h0 0) 21 (10 : Int32)) σ_10)))))))))))))) else (J89 x5 x6 b σ))))) else (J95 b σ))))
def f_Model_weightOf (h0 : Nat) (x1 : Int32) (x2 : Int32) (x3 : Int32) (x4 : Int32) (b : Bool) (σ : Sto) : Rs Int32 := (lt_ (0 : Int32) (fun (x5_1 : Int32) => (lt_ (0 : Int32) (fun (x6_2 : Int32) => (lt_ (0 : Int32) (fun (x7_3 : Int32) => (lp_ (b_Model_weightOf_9 h0 x1 x2 x3 x4) (fun (x5 : Int32) (x6 : Int32) (x7 : Int32) (b : Bool) (σ : Sto) => (0, false, σ)) fuel_ x5_1 x6_2 x7_3 b σ)))))))
set_option maxRecDepth 100000 in
set_option maxHeartbeats 4000000 in
theorem s_Model_weightOf : ∀ (h0 : Nat) (x1 : Int32) (x2 : Int32) (x3 : Int32) (x4 : Int32) (b : Bool) (σ : Sto), Snd M_Model_weightOf 3 0 0 [vR h0, vI x1, vI x2, vI x3, vI x4] b σ (tI (f_Model_weightOf h0 x1 x2 x3 x4 b σ).1) (f_Model_weightOf h0 x1 x2 x3 x4 b σ).2.1 (f_Model_weightOf h0 x1 x2 x3 x4 b σ).2.2 := by
  intro h0 x1 x2 x3 x4 b σ
  refine Snd_of (tv := tI) (by decide) (Nat.le_of_ble_eq_true rfl) ?_
  show V M_Model_weightOf 3 0 0 0 0 tI (f_Model_weightOf h0 x1 x2 x3 x4 b σ) 0 [(0, vR h0), (1, vI x1), (2, vI x2), (3, vI x3), (4, vI x4)] [] b σ
  unfold f_Model_weightOf
  refine V_iconst 1 rfl (show decode M_Model_weightOf.2.1 0 = .ok (.iconst 0, 1) by decide +kernel) (v := 0) rfl ?_
  refine V_istore (fun x5_1 => [(5, vI x5_1), (0, vR h0), (1, vI x1), (2, vI x2), (3, vI x3), (4, vI x4)]) 3 rfl (show decode M_Model_weightOf.2.1 1 = .ok (.istore 5, 2) by decide +kernel) (by decide) (fun _ => rfl) (fun x5_1 => ?_)
  refine V_iconst 4 rfl (show decode M_Model_weightOf.2.1 3 = .ok (.iconst 0, 1) by decide +kernel) (v := 0) rfl ?_
  refine V_istore (fun x6_2 => [(6, vI x6_2), (5, vI x5_1), (0, vR h0), (1, vI x1), (2, vI x2), (3, vI x3), (4, vI x4)]) 6 rfl (show decode M_Model_weightOf.2.1 4 = .ok (.istore 6, 2) by decide +kernel) (by decide) (fun _ => rfl) (fun x6_2 => ?_)
  refine V_iconst 7 rfl (show decode M_Model_weightOf.2.1 6 = .ok (.iconst 0, 1) by decide +kernel) (v := 0) rfl ?_
  refine V_istore (fun x7_3 => [(7, vI x7_3), (6, vI x6_2), (5, vI x5_1), (0, vR h0), (1, vI x1), (2, vI x2), (3, vI x3), (4, vI x4)]) 9 rfl (show decode M_Model_weightOf.2.1 7 = .ok (.istore 7, 2) by decide +kernel) (by decide) (fun _ => rfl) (fun x7_3 => ?_)
  refine V_sub [3, 4, 5, 6, 7, 2, 1, 0] rfl ?_
  refine lp_P (fun (L9 : Int32 → Int32 → Int32 → Bool → Sto → Rs Int32) => ∀ (x5 : Int32) (x6 : Int32) (x7 : Int32) (b : Bool) (σ : Sto), V M_Model_weightOf 3 0 0 0 0 tI (L9 x5 x6 x7 b σ) 9 [(0, vR h0), (1, vI x1), (2, vI x2), (3, vI x3), (4, vI x4), (5, vI x5), (6, vI x6), (7, vI x7)] [] b σ) ?_ ?_ fuel_ x5_1 x6_2 x7_3 b σ
  · intro x5 x6 x7 b σ; exact V_bad
  · intro L9 hL9 x5 x6 x7 b σ
    unfold b_Model_weightOf_9
    refine V_iload 11 rfl (show decode M_Model_weightOf.2.1 9 = .ok (.iload 7, 2) by decide +kernel) 7 rfl ?_
    refine V_iload_n 12 rfl (show decode M_Model_weightOf.2.1 11 = .ok (.iload_n 2, 1) by decide +kernel) 2 rfl ?_
    refine V_jn (fun (J95 : Bool → Sto → Rs Int32) => ∀ (b : Bool) (σ : Sto), V M_Model_weightOf 3 0 0 0 0 tI (J95 b σ) 95 [(0, vR h0), (3, vI x3), (4, vI x4), (5, vI x5), (6, vI x6)] [] b σ) ?_ (fun J95 hJ95 => ?_)
    · intro b σ
      refine V_aload_n 96 rfl (show decode M_Model_weightOf.2.1 95 = .ok (.aload_n 0, 1) by decide +kernel) 0 rfl ?_
      refine V_get (j := 0) (v := vR (SR σ h0 0)) 99 rfl ck_Model (by decide) (by decide) (show decode M_Model_weightOf.2.1 96 = .ok (.getfield 7, 3) by decide +kernel) wd_1504 rfl ?_
      refine V_iconst 100 rfl (show decode M_Model_weightOf.2.1 99 = .ok (.iconst 1, 1) by decide +kernel) (v := 1) rfl ?_
      refine V_ald_int 101 rfl (show decode M_Model_weightOf.2.1 100 = .ok (.iaload, 1) by decide +kernel) ?_
      refine V_iload 103 rfl (show decode M_Model_weightOf.2.1 101 = .ok (.iload 5, 2) by decide +kernel) 3 rfl ?_
      refine V_isub 104 rfl (show decode M_Model_weightOf.2.1 103 = .ok (.isub, 1) by decide +kernel) ?_
      refine V_iload_n 105 rfl (show decode M_Model_weightOf.2.1 104 = .ok (.iload_n 3, 1) by decide +kernel) 1 rfl ?_
      refine V_iload 107 rfl (show decode M_Model_weightOf.2.1 105 = .ok (.iload 4, 2) by decide +kernel) 2 rfl ?_
      refine V_callS (tb := tI) (as := [vI ((SI σ (SR σ h0 0) (ix (1 : Int32))) - x5), vI x3, vI x4]) (rest := []) (na := 3) 110 rfl (s_Model_leg ((SI σ (SR σ h0 0) (ix (1 : Int32))) - x5) x3 x4 ((b && cK σ h0 13) && cA σ (SR σ h0 0) 21 (1 : Int32)) σ) rfl rfl (Nat.le_of_ble_eq_true rfl) (cal_Model_leg _ _ _ _ _ (by decide) (by decide) (by decide)) (show decode M_Model_weightOf.2.1 107 = .ok (.invokestatic 342, 3) by decide +kernel) wd_1996 wd_1997 (fun r_4 b_4 σ_4 => ?_)
      show V M_Model_weightOf 3 0 0 0 0 tI _ 110 [(0, vR h0), (3, vI x3), (4, vI x4), (5, vI x5), (6, vI x6)] [vI r_4] b_4 σ_4
      refine V_istore (fun x7_5 => [(7, vI x7_5), (0, vR h0), (3, vI x3), (4, vI x4), (5, vI x5), (6, vI x6)]) 112 rfl (show decode M_Model_weightOf.2.1 110 = .ok (.istore 7, 2) by decide +kernel) (by decide) (fun _ => rfl) (fun x7_5 => ?_)
      refine V_iload 114 rfl (show decode M_Model_weightOf.2.1 112 = .ok (.iload 6, 2) by decide +kernel) 5 rfl ?_
      refine V_jn (fun (J122 : Bool → Sto → Rs Int32) => ∀ (b : Bool) (σ : Sto), V M_Model_weightOf 3 0 0 0 0 tI (J122 b σ) 122 [] [] b σ) ?_ (fun J122 hJ122 => ?_)
      · intro b σ
        refine V_iconst 123 rfl (show decode M_Model_weightOf.2.1 122 = .ok (.iconst (-1), 1) by decide +kernel) (v := -1) rfl ?_
        refine V_goto 131 (show decode M_Model_weightOf.2.1 123 = .ok (.goto 8, 3) by decide +kernel) rfl ?_
        exact V_iret rfl (by decide) (by decide) (show decode M_Model_weightOf.2.1 131 = .ok (.ireturn, 1) by decide +kernel)
      · skip
        refine V_iflt 117 122 rfl (show decode M_Model_weightOf.2.1 114 = .ok (.ifCond .lt 8, 3) by decide +kernel) rfl ?_ ?_
        · skip
          exact V_sub [] rfl (hJ122 b_4 σ_4)
        · skip
          refine V_iload 119 rfl (show decode M_Model_weightOf.2.1 117 = .ok (.iload 7, 2) by decide +kernel) 0 rfl ?_
          refine V_ifge 122 126 rfl (show decode M_Model_weightOf.2.1 119 = .ok (.ifCond .ge 7, 3) by decide +kernel) rfl ?_ ?_
          · skip
            exact V_sub [] rfl (hJ122 b_4 σ_4)
          · skip
            refine V_iload 128 rfl (show decode M_Model_weightOf.2.1 126 = .ok (.iload 6, 2) by decide +kernel) 5 rfl ?_
            refine V_iload 130 rfl (show decode M_Model_weightOf.2.1 128 = .ok (.iload 7, 2) by decide +kernel) 0 rfl ?_
            refine V_iadd 131 rfl (show decode M_Model_weightOf.2.1 130 = .ok (.iadd, 1) by decide +kernel) ?_
            exact V_iret rfl (by decide) (by decide) (show decode M_Model_weightOf.2.1 131 = .ok (.ireturn, 1) by decide +kernel)
    · skip
      refine V_icmpge 15 95 rfl (show decode M_Model_weightOf.2.1 12 = .ok (.if_icmp .ge 83, 3) by decide +kernel) rfl ?_ ?_
      · skip
        refine V_iload 17 rfl (show decode M_Model_weightOf.2.1 15 = .ok (.iload 6, 2) by decide +kernel) 6 rfl ?_
        refine V_iflt 20 95 rfl (show decode M_Model_weightOf.2.1 17 = .ok (.ifCond .lt 78, 3) by decide +kernel) rfl ?_ ?_
        · skip
          exact V_sub [0, 3, 4, 5, 6] rfl (hJ95 b σ)
        · skip
          refine V_iload_n 21 rfl (show decode M_Model_weightOf.2.1 20 = .ok (.iload_n 1, 1) by decide +kernel) 1 rfl ?_
          refine V_iload 23 rfl (show decode M_Model_weightOf.2.1 21 = .ok (.iload 7, 2) by decide +kernel) 7 rfl ?_
          refine V_ishr 24 rfl (show decode M_Model_weightOf.2.1 23 = .ok (.ishr, 1) by decide +kernel) ?_
          refine V_iconst 25 rfl (show decode M_Model_weightOf.2.1 24 = .ok (.iconst 1, 1) by decide +kernel) (v := 1) rfl ?_
          refine V_iand 26 rfl (show decode M_Model_weightOf.2.1 25 = .ok (.iand, 1) by decide +kernel) ?_
          refine V_iconst 27 rfl (show decode M_Model_weightOf.2.1 26 = .ok (.iconst 1, 1) by decide +kernel) (v := 1) rfl ?_
          refine V_jn (fun (J89 : Int32 → Int32 → Bool → Sto → Rs Int32) => ∀ (x5_89 : Int32) (x6_89 : Int32) (b : Bool) (σ : Sto), V M_Model_weightOf 3 0 0 0 0 tI (J89 x5_89 x6_89 b σ) 89 [(0, vR h0), (1, vI x1), (2, vI x2), (3, vI x3), (4, vI x4), (5, vI x5_89), (6, vI x6_89), (7, vI x7)] [] b σ) ?_ (fun J89 hJ89 => ?_)
          · intro x5_89 x6_89 b σ
            refine V_iinc (fun x7_6 => [(7, vI x7_6), (0, vR h0), (1, vI x1), (2, vI x2), (3, vI x3), (4, vI x4), (5, vI x5_89), (6, vI x6_89)]) 92 rfl (show decode M_Model_weightOf.2.1 89 = .ok (.iinc 7 1, 3) by decide +kernel) 7 rfl (w := 1) rfl (by decide) (fun _ => rfl) (fun x7_6 => ?_)
            refine V_goto 9 (show decode M_Model_weightOf.2.1 92 = .ok (.goto (-83), 3) by decide +kernel) rfl ?_
            exact V_sub [1, 2, 3, 4, 5, 6, 7, 0] rfl (hL9 x5_89 x6_89 x7_6 b σ)
          · skip
            refine V_icmpne 30 89 rfl (show decode M_Model_weightOf.2.1 27 = .ok (.if_icmp .ne 62, 3) by decide +kernel) rfl ?_ ?_
            · skip
              refine V_aload_n 31 rfl (show decode M_Model_weightOf.2.1 30 = .ok (.aload_n 0, 1) by decide +kernel) 0 rfl ?_
              refine V_aload_n 32 rfl (show decode M_Model_weightOf.2.1 31 = .ok (.aload_n 0, 1) by decide +kernel) 0 rfl ?_
              refine V_get (j := 25) (v := vR (SR σ h0 25)) 35 rfl ck_Model (by decide) (by decide) (show decode M_Model_weightOf.2.1 32 = .ok (.getfield 47, 3) by decide +kernel) wd_1529 rfl ?_
              refine V_iload 37 rfl (show decode M_Model_weightOf.2.1 35 = .ok (.iload 7, 2) by decide +kernel) 7 rfl ?_
              refine V_ald_int 38 rfl (show decode M_Model_weightOf.2.1 37 = .ok (.iaload, 1) by decide +kernel) ?_
              refine V_callV (tb := tI) (as := [vI (SI σ (SR σ h0 25) (ix x7))]) (rest := []) (na := 1) 41 rfl ck_Model (by decide) (s_Model_mileOf h0 (SI σ (SR σ h0 25) (ix x7)) (((b && cK σ h0 13) && cA σ (SR σ h0 25) 21 x7) && cK σ h0 13) σ) rfl rfl (Nat.le_of_ble_eq_true rfl) (cal_Model_mileOf _ _ _ _ _ (by decide) (by decide) (by decide)) (show decode M_Model_weightOf.2.1 38 = .ok (.invokevirtual 92, 3) by decide +kernel) wd_1621 wd_1623 wd_112 (fun r_7 b_7 σ_7 => ?_)
              show V M_Model_weightOf 3 0 0 0 0 tI _ 41 [(0, vR h0), (1, vI x1), (2, vI x2), (3, vI x3), (4, vI x4), (5, vI x5), (6, vI x6), (7, vI x7)] [vI r_7] b_7 σ_7
              refine V_iload 43 rfl (show decode M_Model_weightOf.2.1 41 = .ok (.iload 5, 2) by decide +kernel) 5 rfl ?_
              refine V_isub 44 rfl (show decode M_Model_weightOf.2.1 43 = .ok (.isub, 1) by decide +kernel) ?_
              refine V_iload_n 45 rfl (show decode M_Model_weightOf.2.1 44 = .ok (.iload_n 3, 1) by decide +kernel) 3 rfl ?_
              refine V_iload 47 rfl (show decode M_Model_weightOf.2.1 45 = .ok (.iload 4, 2) by decide +kernel) 4 rfl ?_
              refine V_callS (tb := tI) (as := [vI (r_7 - x5), vI x3, vI x4]) (rest := []) (na := 3) 50 rfl (s_Model_leg (r_7 - x5) x3 x4 b_7 σ_7) rfl rfl (Nat.le_of_ble_eq_true rfl) (cal_Model_leg _ _ _ _ _ (by decide) (by decide) (by decide)) (show decode M_Model_weightOf.2.1 47 = .ok (.invokestatic 342, 3) by decide +kernel) wd_1996 wd_1997 (fun r_8 b_8 σ_8 => ?_)
              show V M_Model_weightOf 3 0 0 0 0 tI _ 50 [(0, vR h0), (1, vI x1), (2, vI x2), (3, vI x3), (4, vI x4), (5, vI x5), (6, vI x6), (7, vI x7)] [vI r_8] b_8 σ_8
              refine V_istore (fun x8_9 => [(8, vI x8_9), (0, vR h0), (1, vI x1), (2, vI x2), (3, vI x3), (4, vI x4), (5, vI x5), (6, vI x6), (7, vI x7)]) 52 rfl (show decode M_Model_weightOf.2.1 50 = .ok (.istore 8, 2) by decide +kernel) (by decide) (fun _ => rfl) (fun x8_9 => ?_)
              refine V_aload_n 53 rfl (show decode M_Model_weightOf.2.1 52 = .ok (.aload_n 0, 1) by decide +kernel) 1 rfl ?_
              refine V_aload_n 54 rfl (show decode M_Model_weightOf.2.1 53 = .ok (.aload_n 0, 1) by decide +kernel) 1 rfl ?_
              refine V_get (j := 25) (v := vR (SR σ_8 h0 25)) 57 rfl ck_Model (by decide) (by decide) (show decode M_Model_weightOf.2.1 54 = .ok (.getfield 47, 3) by decide +kernel) wd_1529 rfl ?_
              refine V_iload 59 rfl (show decode M_Model_weightOf.2.1 57 = .ok (.iload 7, 2) by decide +kernel) 8 rfl ?_
              refine V_ald_int 60 rfl (show decode M_Model_weightOf.2.1 59 = .ok (.iaload, 1) by decide +kernel) ?_
              refine V_callV (tb := tI) (as := [vI (SI σ_8 (SR σ_8 h0 25) (ix x7))]) (rest := []) (na := 1) 63 rfl ck_Model (by decide) (s_Model_mileOf h0 (SI σ_8 (SR σ_8 h0 25) (ix x7)) (((b_8 && cK σ_8 h0 13) && cA σ_8 (SR σ_8 h0 25) 21 x7) && cK σ_8 h0 13) σ_8) rfl rfl (Nat.le_of_ble_eq_true rfl) (cal_Model_mileOf _ _ _ _ _ (by decide) (by decide) (by decide)) (show decode M_Model_weightOf.2.1 60 = .ok (.invokevirtual 92, 3) by decide +kernel) wd_1621 wd_1623 wd_112 (fun r_10 b_10 σ_10 => ?_)
              show V M_Model_weightOf 3 0 0 0 0 tI _ 63 [(8, vI x8_9), (0, vR h0), (1, vI x1), (2, vI x2), (3, vI x3), (4, vI x4), (5, vI x5), (6, vI x6), (7, vI x7)] [vI r_10] b_10 σ_10
              refine V_istore (fun x5_11 => [(5, vI x5_11), (8, vI x8_9), (0, vR h0), (1, vI x1), (2, vI x2), (3, vI x3), (4, vI x4), (6, vI x6), (7, vI x7)]) 65 rfl (show decode M_Model_weightOf.2.1 63 = .ok (.istore 5, 2) by decide +kernel) (by decide) (fun _ => rfl) (fun x5_11 => ?_)
              refine V_iload 67 rfl (show decode M_Model_weightOf.2.1 65 = .ok (.iload 8, 2) by decide +kernel) 1 rfl ?_
              refine V_jn (fun (J87 : Int32 → Bool → Sto → Rs Int32) => ∀ (s0_87 : Int32) (b : Bool) (σ : Sto), V M_Model_weightOf 3 0 0 0 0 tI (J87 s0_87 b σ) 87 [(0, vR h0), (1, vI x1), (2, vI x2), (3, vI x3), (4, vI x4), (5, vI x5_11), (7, vI x7)] [vI s0_87] b σ) ?_ (fun J87 hJ87 => ?_)
              · intro s0_87 b σ
                refine V_istore (fun x6_12 => [(6, vI x6_12), (0, vR h0), (1, vI x1), (2, vI x2), (3, vI x3), (4, vI x4), (5, vI x5_11), (7, vI x7)]) 89 rfl (show decode M_Model_weightOf.2.1 87 = .ok (.istore 6, 2) by decide +kernel) (by decide) (fun _ => rfl) (fun x6_12 => ?_)
                exact V_sub [1, 2, 3, 4, 5, 6, 0, 7] rfl (hJ89 x5_11 x6_12 b σ)
              · skip
                refine V_ifge 70 74 rfl (show decode M_Model_weightOf.2.1 67 = .ok (.ifCond .ge 7, 3) by decide +kernel) rfl ?_ ?_
                · skip
                  refine V_iconst 71 rfl (show decode M_Model_weightOf.2.1 70 = .ok (.iconst (-1), 1) by decide +kernel) (v := -1) rfl ?_
                  refine V_goto 87 (show decode M_Model_weightOf.2.1 71 = .ok (.goto 16, 3) by decide +kernel) rfl ?_
                  exact V_sub [2, 3, 4, 5, 6, 0, 8] rfl (hJ87 (-1 : Int32) b_10 σ_10)
                · skip
                  refine V_iload 76 rfl (show decode M_Model_weightOf.2.1 74 = .ok (.iload 6, 2) by decide +kernel) 7 rfl ?_
                  refine V_iload 78 rfl (show decode M_Model_weightOf.2.1 76 = .ok (.iload 8, 2) by decide +kernel) 1 rfl ?_
                  refine V_iadd 79 rfl (show decode M_Model_weightOf.2.1 78 = .ok (.iadd, 1) by decide +kernel) ?_
                  refine V_aload_n 80 rfl (show decode M_Model_weightOf.2.1 79 = .ok (.aload_n 0, 1) by decide +kernel) 2 rfl ?_
                  refine V_get (j := 0) (v := vR (SR σ_10 h0 0)) 83 rfl ck_Model (by decide) (by decide) (show decode M_Model_weightOf.2.1 80 = .ok (.getfield 7, 3) by decide +kernel) wd_1504 rfl ?_
                  refine V_bipush 85 rfl (show decode M_Model_weightOf.2.1 83 = .ok (.bipush 10, 2) by decide +kernel) (v := 10) rfl ?_
                  refine V_ald_int 86 rfl (show decode M_Model_weightOf.2.1 85 = .ok (.iaload, 1) by decide +kernel) ?_
                  refine V_iadd 87 rfl (show decode M_Model_weightOf.2.1 86 = .ok (.iadd, 1) by decide +kernel) ?_
                  exact V_sub [2, 3, 4, 5, 6, 0, 8] rfl (hJ87 ((x6 + x8_9) + (SI σ_10 (SR σ_10 h0 0) (ix (10 : Int32)))) ((b_10 && cK σ_10 h0 13) && cA σ_10 (SR σ_10 h0 0) 21 (10 : Int32)) σ_10)
            · skip
              exact V_sub [0, 1, 2, 3, 4, 5, 6, 7] rfl (hJ89 x5 x6 b σ)
      · skip
        exact V_sub [0, 3, 4, 5, 6] rfl (hJ95 b σ)
theorem cal_Model_weightOf (d mc ms k n : Nat) (h1 : 3 + 1 ≤ d) (h2 : k + 0 ≤ mc) (h3 : n + 0 ≤ ms) : Cal M_Model_weightOf 3 0 0 4 d mc ms k n := ⟨wd_1995, wd_181, by decide, h1, by decide, h2, h3⟩
abbrev M_Model_plan : MD := (⟨"LongTrailModel", "plan", "(III)I"⟩, prog_14_method_95_code, 9, (some FieldType.int))
def b_Model_plan_54 (h0 : Nat) (x1 : Int32) (x2 : Int32) (x3 : Int32) (x4_5 : Int32) (L54 : Int32 → Int32 → Int32 → Bool → Sto → Rs Int32) (x5 : Int32) (x6 : Int32) (x7 : Int32) (b : Bool) (σ : Sto) : Rs Int32 := (if x7 < ((1 : Int32) <<< (x4_5 &&& 31)) then (bd_ (f_Model_weightOf h0 x7 x4_5 x1 x2 (b && cK σ h0 13) σ) (fun (r_9 : Int32) (b_9 : Bool) (σ_9 : Sto) => (lt_ r_9 (fun (x8_10 : Int32) => (lt_ (fun (x5_120 : Int32) (x6_120 : Int32) (b : Bool) (σ : Sto) => (lt_ (x7 + (1 : Int32)) (fun (x7_11 : Int32) => (L54 x5_120 x6_120 x7_11 b σ)))) (fun J120 => (if x8_10 < 0 then (J120 x5 x6 b_9 σ_9) else (lt_ (fun (b : Bool) (σ : Sto) => (lt_ x7 (fun (x5_12 : Int32) => (lt_ x8_10 (fun (x6_13 : Int32) => (J120 x5_12 x6_13 b σ)))))) (fun J112 => (if x5 < 0 then (J112 b_9 σ_9) else (if x8_10 < x6 then (J112 b_9 σ_9) else (if x8_10 = x6 then (bd_ (f_Model_ones x7 b_9 σ_9) (fun (r_14 : Int32) (b_14 : Bool) (σ_14 : Sto) => (bd_ (f_Model_ones x5 b_14 σ_14) (fun (r_15 : Int32) (b_15 : Bool) (σ_15 : Sto) => (if r_14 < r_15 then (J112 b_15 σ_15) else (J120 x5 x6 b_15 σ_15)))))) else (J120 x5 x6 b_9 σ_9))))))))))))) else (if x5 < 0 then ((-1000000005 : Int32), b, σ) else (if x3 = 0 then (x6, b, σ) else (if x3 = (1 : Int32) then (bd_ (f_Model_ones x5 b σ) (fun (r_16 : Int32) (b_16 : Bool) (σ_16 : Sto) => (r_16, b_16, σ_16))) else (x5, b, σ)))))
def f_Model_plan (h0 : Nat) (x1 : Int32) (x2 : Int32) (x3 : Int32) (b : Bool) (σ : Sto) : Rs Int32 := (bd_ (f_Model_isIn ((x1).toInt64) (1 : Int64) (40 : Int64) b σ) (fun (r_1 : Int32) (b_1 : Bool) (σ_1 : Sto) => (lt_ (fun (b : Bool) (σ : Sto) => ((-1000000001 : Int32), b, σ)) (fun J36 => (if r_1 = 0 then (J36 b_1 σ_1) else (bd_ (f_Model_isIn ((x2).toInt64) (1 : Int64) (20 : Int64) b_1 σ_1) (fun (r_2 : Int32) (b_2 : Bool) (σ_2 : Sto) => (if r_2 = 0 then (J36 b_2 σ_2) else (bd_ (f_Model_isIn ((x3).toInt64) (0 : Int64) (2 : Int64) b_2 σ_2) (fun (r_3 : Int32) (b_3 : Bool) (σ_3 : Sto) => (if r_3 = 0 then (J36 b_3 σ_3) else (bd_ (f_Model_findTowns h0 (b_3 && cK σ_3 h0 13) σ_3) (fun (r_4 : Int32) (b_4 : Bool) (σ_4 : Sto) => (lt_ r_4 (fun (x4_5 : Int32) => (lt_ (-1 : Int32) (fun (x5_6 : Int32) => (lt_ (0 : Int32) (fun (x6_7 : Int32) => (lt_ (0 : Int32) (fun (x7_8 : Int32) => (lp_ (b_Model_plan_54 h0 x1 x2 x3 x4_5) (fun (x5 : Int32) (x6 : Int32) (x7 : Int32) (b : Bool) (σ : Sto) => (0, false, σ)) fuel_ x5_6 x6_7 x7_8 b_4 σ_4))))))))))))))))))))))
set_option maxRecDepth 100000 in
set_option maxHeartbeats 4000000 in
theorem s_Model_plan : ∀ (h0 : Nat) (x1 : Int32) (x2 : Int32) (x3 : Int32) (b : Bool) (σ : Sto), Snd M_Model_plan 4 0 0 [vR h0, vI x1, vI x2, vI x3] b σ (tI (f_Model_plan h0 x1 x2 x3 b σ).1) (f_Model_plan h0 x1 x2 x3 b σ).2.1 (f_Model_plan h0 x1 x2 x3 b σ).2.2 := by
  intro h0 x1 x2 x3 b σ
  refine Snd_of (tv := tI) (by decide) (Nat.le_of_ble_eq_true rfl) ?_
  show V M_Model_plan 4 0 0 0 0 tI (f_Model_plan h0 x1 x2 x3 b σ) 0 [(0, vR h0), (1, vI x1), (2, vI x2), (3, vI x3)] [] b σ
  unfold f_Model_plan
  refine V_iload_n 1 rfl (show decode M_Model_plan.2.1 0 = .ok (.iload_n 1, 1) by decide +kernel) 1 rfl ?_
  refine V_i2l 2 rfl (show decode M_Model_plan.2.1 1 = .ok (.i2l, 1) by decide +kernel) ?_
  refine V_lconst 3 rfl (show decode M_Model_plan.2.1 2 = .ok (.lconst 1, 1) by decide +kernel) (v := 1) rfl ?_
  refine V_ldc2 6 rfl (show decode M_Model_plan.2.1 3 = .ok (.ldc2_w 258, 3) by decide +kernel) wd_1831 ?_
  refine V_callS (tb := tI) (as := [vL ((x1).toInt64), vL (1 : Int64), vL (40 : Int64)]) (rest := []) (na := 3) 9 rfl (s_Model_isIn ((x1).toInt64) (1 : Int64) (40 : Int64) b σ) rfl rfl (Nat.le_of_ble_eq_true rfl) (cal_Model_isIn _ _ _ _ _ (by decide) (by decide) (by decide)) (show decode M_Model_plan.2.1 6 = .ok (.invokestatic 76, 3) by decide +kernel) wd_1617 wd_1618 (fun r_1 b_1 σ_1 => ?_)
  show V M_Model_plan 4 0 0 0 0 tI _ 9 [(0, vR h0), (1, vI x1), (2, vI x2), (3, vI x3)] [vI r_1] b_1 σ_1
  refine V_jn (fun (J36 : Bool → Sto → Rs Int32) => ∀ (b : Bool) (σ : Sto), V M_Model_plan 4 0 0 0 0 tI (J36 b σ) 36 [] [] b σ) ?_ (fun J36 hJ36 => ?_)
  · intro b σ
    refine V_ldc 38 rfl (show decode M_Model_plan.2.1 36 = .ok (.ldc 91, 2) by decide +kernel) wd_1620 ?_
    exact V_iret rfl (by decide) (by decide) (show decode M_Model_plan.2.1 38 = .ok (.ireturn, 1) by decide +kernel)
  · skip
    refine V_ifeq 12 36 rfl (show decode M_Model_plan.2.1 9 = .ok (.ifCond .eq 27, 3) by decide +kernel) rfl ?_ ?_
    · skip
      exact V_sub [] rfl (hJ36 b_1 σ_1)
    · skip
      refine V_iload_n 13 rfl (show decode M_Model_plan.2.1 12 = .ok (.iload_n 2, 1) by decide +kernel) 2 rfl ?_
      refine V_i2l 14 rfl (show decode M_Model_plan.2.1 13 = .ok (.i2l, 1) by decide +kernel) ?_
      refine V_lconst 15 rfl (show decode M_Model_plan.2.1 14 = .ok (.lconst 1, 1) by decide +kernel) (v := 1) rfl ?_
      refine V_ldc2 18 rfl (show decode M_Model_plan.2.1 15 = .ok (.ldc2_w 87, 3) by decide +kernel) wd_1615 ?_
      refine V_callS (tb := tI) (as := [vL ((x2).toInt64), vL (1 : Int64), vL (20 : Int64)]) (rest := []) (na := 3) 21 rfl (s_Model_isIn ((x2).toInt64) (1 : Int64) (20 : Int64) b_1 σ_1) rfl rfl (Nat.le_of_ble_eq_true rfl) (cal_Model_isIn _ _ _ _ _ (by decide) (by decide) (by decide)) (show decode M_Model_plan.2.1 18 = .ok (.invokestatic 76, 3) by decide +kernel) wd_1617 wd_1618 (fun r_2 b_2 σ_2 => ?_)
      show V M_Model_plan 4 0 0 0 0 tI _ 21 [(0, vR h0), (1, vI x1), (2, vI x2), (3, vI x3)] [vI r_2] b_2 σ_2
      refine V_ifeq 24 36 rfl (show decode M_Model_plan.2.1 21 = .ok (.ifCond .eq 15, 3) by decide +kernel) rfl ?_ ?_
      · skip
        exact V_sub [] rfl (hJ36 b_2 σ_2)
      · skip
        refine V_iload_n 25 rfl (show decode M_Model_plan.2.1 24 = .ok (.iload_n 3, 1) by decide +kernel) 3 rfl ?_
        refine V_i2l 26 rfl (show decode M_Model_plan.2.1 25 = .ok (.i2l, 1) by decide +kernel) ?_
        refine V_lconst 27 rfl (show decode M_Model_plan.2.1 26 = .ok (.lconst 0, 1) by decide +kernel) (v := 0) rfl ?_
        refine V_ldc2 30 rfl (show decode M_Model_plan.2.1 27 = .ok (.ldc2_w 345, 3) by decide +kernel) wd_1987 ?_
        refine V_callS (tb := tI) (as := [vL ((x3).toInt64), vL (0 : Int64), vL (2 : Int64)]) (rest := []) (na := 3) 33 rfl (s_Model_isIn ((x3).toInt64) (0 : Int64) (2 : Int64) b_2 σ_2) rfl rfl (Nat.le_of_ble_eq_true rfl) (cal_Model_isIn _ _ _ _ _ (by decide) (by decide) (by decide)) (show decode M_Model_plan.2.1 30 = .ok (.invokestatic 76, 3) by decide +kernel) wd_1617 wd_1618 (fun r_3 b_3 σ_3 => ?_)
        show V M_Model_plan 4 0 0 0 0 tI _ 33 [(0, vR h0), (1, vI x1), (2, vI x2), (3, vI x3)] [vI r_3] b_3 σ_3
        refine V_ifne 36 39 rfl (show decode M_Model_plan.2.1 33 = .ok (.ifCond .ne 6, 3) by decide +kernel) rfl ?_ ?_
        · skip
          exact V_sub [] rfl (hJ36 b_3 σ_3)
        · skip
          refine V_aload_n 40 rfl (show decode M_Model_plan.2.1 39 = .ok (.aload_n 0, 1) by decide +kernel) 0 rfl ?_
          refine V_callV (tb := tI) (as := []) (rest := []) (na := 0) 43 rfl ck_Model (by decide) (s_Model_findTowns h0 (b_3 && cK σ_3 h0 13) σ_3) rfl rfl (Nat.le_of_ble_eq_true rfl) (cal_Model_findTowns _ _ _ _ _ (by decide) (by decide) (by decide)) (show decode M_Model_plan.2.1 40 = .ok (.invokevirtual 347, 3) by decide +kernel) wd_1988 wd_1990 wd_164 (fun r_4 b_4 σ_4 => ?_)
          show V M_Model_plan 4 0 0 0 0 tI _ 43 [(0, vR h0), (1, vI x1), (2, vI x2), (3, vI x3)] [vI r_4] b_4 σ_4
          refine V_istore (fun x4_5 => [(4, vI x4_5), (0, vR h0), (1, vI x1), (2, vI x2), (3, vI x3)]) 45 rfl (show decode M_Model_plan.2.1 43 = .ok (.istore 4, 2) by decide +kernel) (by decide) (fun _ => rfl) (fun x4_5 => ?_)
          refine V_iconst 46 rfl (show decode M_Model_plan.2.1 45 = .ok (.iconst (-1), 1) by decide +kernel) (v := -1) rfl ?_
          refine V_istore (fun x5_6 => [(5, vI x5_6), (4, vI x4_5), (0, vR h0), (1, vI x1), (2, vI x2), (3, vI x3)]) 48 rfl (show decode M_Model_plan.2.1 46 = .ok (.istore 5, 2) by decide +kernel) (by decide) (fun _ => rfl) (fun x5_6 => ?_)
          refine V_iconst 49 rfl (show decode M_Model_plan.2.1 48 = .ok (.iconst 0, 1) by decide +kernel) (v := 0) rfl ?_
          refine V_istore (fun x6_7 => [(6, vI x6_7), (5, vI x5_6), (4, vI x4_5), (0, vR h0), (1, vI x1), (2, vI x2), (3, vI x3)]) 51 rfl (show decode M_Model_plan.2.1 49 = .ok (.istore 6, 2) by decide +kernel) (by decide) (fun _ => rfl) (fun x6_7 => ?_)
          refine V_iconst 52 rfl (show decode M_Model_plan.2.1 51 = .ok (.iconst 0, 1) by decide +kernel) (v := 0) rfl ?_
          refine V_istore (fun x7_8 => [(7, vI x7_8), (6, vI x6_7), (5, vI x5_6), (4, vI x4_5), (0, vR h0), (1, vI x1), (2, vI x2), (3, vI x3)]) 54 rfl (show decode M_Model_plan.2.1 52 = .ok (.istore 7, 2) by decide +kernel) (by decide) (fun _ => rfl) (fun x7_8 => ?_)
          refine V_sub [4, 5, 6, 7, 3, 2, 1, 0] rfl ?_
          refine lp_P (fun (L54 : Int32 → Int32 → Int32 → Bool → Sto → Rs Int32) => ∀ (x5 : Int32) (x6 : Int32) (x7 : Int32) (b : Bool) (σ : Sto), V M_Model_plan 4 0 0 0 0 tI (L54 x5 x6 x7 b σ) 54 [(0, vR h0), (1, vI x1), (2, vI x2), (3, vI x3), (4, vI x4_5), (5, vI x5), (6, vI x6), (7, vI x7)] [] b σ) ?_ ?_ fuel_ x5_6 x6_7 x7_8 b_4 σ_4
          · intro x5 x6 x7 b σ; exact V_bad
          · intro L54 hL54 x5 x6 x7 b σ
            unfold b_Model_plan_54
            refine V_iload 56 rfl (show decode M_Model_plan.2.1 54 = .ok (.iload 7, 2) by decide +kernel) 7 rfl ?_
            refine V_iconst 57 rfl (show decode M_Model_plan.2.1 56 = .ok (.iconst 1, 1) by decide +kernel) (v := 1) rfl ?_
            refine V_iload 59 rfl (show decode M_Model_plan.2.1 57 = .ok (.iload 4, 2) by decide +kernel) 4 rfl ?_
            refine V_ishl 60 rfl (show decode M_Model_plan.2.1 59 = .ok (.ishl, 1) by decide +kernel) ?_
            refine V_icmpge 63 126 rfl (show decode M_Model_plan.2.1 60 = .ok (.if_icmp .ge 66, 3) by decide +kernel) rfl ?_ ?_
            · skip
              refine V_aload_n 64 rfl (show decode M_Model_plan.2.1 63 = .ok (.aload_n 0, 1) by decide +kernel) 0 rfl ?_
              refine V_iload 66 rfl (show decode M_Model_plan.2.1 64 = .ok (.iload 7, 2) by decide +kernel) 7 rfl ?_
              refine V_iload 68 rfl (show decode M_Model_plan.2.1 66 = .ok (.iload 4, 2) by decide +kernel) 4 rfl ?_
              refine V_iload_n 69 rfl (show decode M_Model_plan.2.1 68 = .ok (.iload_n 1, 1) by decide +kernel) 1 rfl ?_
              refine V_iload_n 70 rfl (show decode M_Model_plan.2.1 69 = .ok (.iload_n 2, 1) by decide +kernel) 2 rfl ?_
              refine V_callV (tb := tI) (as := [vI x7, vI x4_5, vI x1, vI x2]) (rest := []) (na := 4) 73 rfl ck_Model (by decide) (s_Model_weightOf h0 x7 x4_5 x1 x2 (b && cK σ h0 13) σ) rfl rfl (Nat.le_of_ble_eq_true rfl) (cal_Model_weightOf _ _ _ _ _ (by decide) (by decide) (by decide)) (show decode M_Model_plan.2.1 70 = .ok (.invokevirtual 350, 3) by decide +kernel) wd_1992 wd_1994 wd_165 (fun r_9 b_9 σ_9 => ?_)
              show V M_Model_plan 4 0 0 0 0 tI _ 73 [(0, vR h0), (1, vI x1), (2, vI x2), (3, vI x3), (4, vI x4_5), (5, vI x5), (6, vI x6), (7, vI x7)] [vI r_9] b_9 σ_9
              refine V_istore (fun x8_10 => [(8, vI x8_10), (0, vR h0), (1, vI x1), (2, vI x2), (3, vI x3), (4, vI x4_5), (5, vI x5), (6, vI x6), (7, vI x7)]) 75 rfl (show decode M_Model_plan.2.1 73 = .ok (.istore 8, 2) by decide +kernel) (by decide) (fun _ => rfl) (fun x8_10 => ?_)
              refine V_iload 77 rfl (show decode M_Model_plan.2.1 75 = .ok (.iload 8, 2) by decide +kernel) 0 rfl ?_
              refine V_jn (fun (J120 : Int32 → Int32 → Bool → Sto → Rs Int32) => ∀ (x5_120 : Int32) (x6_120 : Int32) (b : Bool) (σ : Sto), V M_Model_plan 4 0 0 0 0 tI (J120 x5_120 x6_120 b σ) 120 [(0, vR h0), (1, vI x1), (2, vI x2), (3, vI x3), (4, vI x4_5), (5, vI x5_120), (6, vI x6_120), (7, vI x7)] [] b σ) ?_ (fun J120 hJ120 => ?_)
              · intro x5_120 x6_120 b σ
                refine V_iinc (fun x7_11 => [(7, vI x7_11), (0, vR h0), (1, vI x1), (2, vI x2), (3, vI x3), (4, vI x4_5), (5, vI x5_120), (6, vI x6_120)]) 123 rfl (show decode M_Model_plan.2.1 120 = .ok (.iinc 7 1, 3) by decide +kernel) 7 rfl (w := 1) rfl (by decide) (fun _ => rfl) (fun x7_11 => ?_)
                refine V_goto 54 (show decode M_Model_plan.2.1 123 = .ok (.goto (-69), 3) by decide +kernel) rfl ?_
                exact V_sub [1, 2, 3, 4, 5, 6, 7, 0] rfl (hL54 x5_120 x6_120 x7_11 b σ)
              · skip
                refine V_iflt 80 120 rfl (show decode M_Model_plan.2.1 77 = .ok (.ifCond .lt 43, 3) by decide +kernel) rfl ?_ ?_
                · skip
                  exact V_sub [1, 2, 3, 4, 5, 6, 7, 8] rfl (hJ120 x5 x6 b_9 σ_9)
                · skip
                  refine V_iload 82 rfl (show decode M_Model_plan.2.1 80 = .ok (.iload 5, 2) by decide +kernel) 6 rfl ?_
                  refine V_jn (fun (J112 : Bool → Sto → Rs Int32) => ∀ (b : Bool) (σ : Sto), V M_Model_plan 4 0 0 0 0 tI (J112 b σ) 112 [(0, vR h0), (1, vI x1), (2, vI x2), (3, vI x3), (4, vI x4_5), (7, vI x7), (8, vI x8_10)] [] b σ) ?_ (fun J112 hJ112 => ?_)
                  · intro b σ
                    refine V_iload 114 rfl (show decode M_Model_plan.2.1 112 = .ok (.iload 7, 2) by decide +kernel) 5 rfl ?_
                    refine V_istore (fun x5_12 => [(5, vI x5_12), (0, vR h0), (1, vI x1), (2, vI x2), (3, vI x3), (4, vI x4_5), (7, vI x7), (8, vI x8_10)]) 116 rfl (show decode M_Model_plan.2.1 114 = .ok (.istore 5, 2) by decide +kernel) (by decide) (fun _ => rfl) (fun x5_12 => ?_)
                    refine V_iload 118 rfl (show decode M_Model_plan.2.1 116 = .ok (.iload 8, 2) by decide +kernel) 7 rfl ?_
                    refine V_istore (fun x6_13 => [(6, vI x6_13), (5, vI x5_12), (0, vR h0), (1, vI x1), (2, vI x2), (3, vI x3), (4, vI x4_5), (7, vI x7), (8, vI x8_10)]) 120 rfl (show decode M_Model_plan.2.1 118 = .ok (.istore 6, 2) by decide +kernel) (by decide) (fun _ => rfl) (fun x6_13 => ?_)
                    exact V_sub [2, 3, 4, 5, 6, 1, 0, 7] rfl (hJ120 x5_12 x6_13 b σ)
                  · skip
                    refine V_iflt 85 112 rfl (show decode M_Model_plan.2.1 82 = .ok (.ifCond .lt 30, 3) by decide +kernel) rfl ?_ ?_
                    · skip
                      exact V_sub [1, 2, 3, 4, 5, 8, 0] rfl (hJ112 b_9 σ_9)
                    · skip
                      refine V_iload 87 rfl (show decode M_Model_plan.2.1 85 = .ok (.iload 8, 2) by decide +kernel) 0 rfl ?_
                      refine V_iload 89 rfl (show decode M_Model_plan.2.1 87 = .ok (.iload 6, 2) by decide +kernel) 7 rfl ?_
                      refine V_icmplt 92 112 rfl (show decode M_Model_plan.2.1 89 = .ok (.if_icmp .lt 23, 3) by decide +kernel) rfl ?_ ?_
                      · skip
                        exact V_sub [1, 2, 3, 4, 5, 8, 0] rfl (hJ112 b_9 σ_9)
                      · skip
                        refine V_iload 94 rfl (show decode M_Model_plan.2.1 92 = .ok (.iload 8, 2) by decide +kernel) 0 rfl ?_
                        refine V_iload 96 rfl (show decode M_Model_plan.2.1 94 = .ok (.iload 6, 2) by decide +kernel) 7 rfl ?_
                        refine V_icmpne 99 120 rfl (show decode M_Model_plan.2.1 96 = .ok (.if_icmp .ne 24, 3) by decide +kernel) rfl ?_ ?_
                        · skip
                          refine V_iload 101 rfl (show decode M_Model_plan.2.1 99 = .ok (.iload 7, 2) by decide +kernel) 8 rfl ?_
                          refine V_callS (tb := tI) (as := [vI x7]) (rest := []) (na := 1) 104 rfl (s_Model_ones x7 b_9 σ_9) rfl rfl (Nat.le_of_ble_eq_true rfl) (cal_Model_ones _ _ _ _ _ (by decide) (by decide) (by decide)) (show decode M_Model_plan.2.1 101 = .ok (.invokestatic 354, 3) by decide +kernel) wd_1999 wd_2000 (fun r_14 b_14 σ_14 => ?_)
                          show V M_Model_plan 4 0 0 0 0 tI _ 104 [(8, vI x8_10), (0, vR h0), (1, vI x1), (2, vI x2), (3, vI x3), (4, vI x4_5), (5, vI x5), (6, vI x6), (7, vI x7)] [vI r_14] b_14 σ_14
                          refine V_iload 106 rfl (show decode M_Model_plan.2.1 104 = .ok (.iload 5, 2) by decide +kernel) 6 rfl ?_
                          refine V_callS (tb := tI) (as := [vI x5]) (rest := [vI r_14]) (na := 1) 109 rfl (s_Model_ones x5 b_14 σ_14) rfl rfl (Nat.le_of_ble_eq_true rfl) (cal_Model_ones _ _ _ _ _ (by decide) (by decide) (by decide)) (show decode M_Model_plan.2.1 106 = .ok (.invokestatic 354, 3) by decide +kernel) wd_1999 wd_2000 (fun r_15 b_15 σ_15 => ?_)
                          show V M_Model_plan 4 0 0 0 0 tI _ 109 [(8, vI x8_10), (0, vR h0), (1, vI x1), (2, vI x2), (3, vI x3), (4, vI x4_5), (5, vI x5), (6, vI x6), (7, vI x7)] [vI r_15, vI r_14] b_15 σ_15
                          refine V_icmpge 112 120 rfl (show decode M_Model_plan.2.1 109 = .ok (.if_icmp .ge 11, 3) by decide +kernel) rfl ?_ ?_
                          · skip
                            exact V_sub [1, 2, 3, 4, 5, 8, 0] rfl (hJ112 b_15 σ_15)
                          · skip
                            exact V_sub [1, 2, 3, 4, 5, 6, 7, 8] rfl (hJ120 x5 x6 b_15 σ_15)
                        · skip
                          exact V_sub [1, 2, 3, 4, 5, 6, 7, 8] rfl (hJ120 x5 x6 b_9 σ_9)
            · skip
              refine V_iload 128 rfl (show decode M_Model_plan.2.1 126 = .ok (.iload 5, 2) by decide +kernel) 5 rfl ?_
              refine V_ifge 131 136 rfl (show decode M_Model_plan.2.1 128 = .ok (.ifCond .ge 8, 3) by decide +kernel) rfl ?_ ?_
              · skip
                refine V_ldc 133 rfl (show decode M_Model_plan.2.1 131 = .ok (.ldc 75, 2) by decide +kernel) wd_1703 ?_
                refine V_goto 160 (show decode M_Model_plan.2.1 133 = .ok (.goto 27, 3) by decide +kernel) rfl ?_
                exact V_iret rfl (by decide) (by decide) (show decode M_Model_plan.2.1 160 = .ok (.ireturn, 1) by decide +kernel)
              · skip
                refine V_iload_n 137 rfl (show decode M_Model_plan.2.1 136 = .ok (.iload_n 3, 1) by decide +kernel) 3 rfl ?_
                refine V_ifne 140 145 rfl (show decode M_Model_plan.2.1 137 = .ok (.ifCond .ne 8, 3) by decide +kernel) rfl ?_ ?_
                · skip
                  refine V_iload 142 rfl (show decode M_Model_plan.2.1 140 = .ok (.iload 6, 2) by decide +kernel) 6 rfl ?_
                  refine V_goto 160 (show decode M_Model_plan.2.1 142 = .ok (.goto 18, 3) by decide +kernel) rfl ?_
                  exact V_iret rfl (by decide) (by decide) (show decode M_Model_plan.2.1 160 = .ok (.ireturn, 1) by decide +kernel)
                · skip
                  refine V_iload_n 146 rfl (show decode M_Model_plan.2.1 145 = .ok (.iload_n 3, 1) by decide +kernel) 3 rfl ?_
                  refine V_iconst 147 rfl (show decode M_Model_plan.2.1 146 = .ok (.iconst 1, 1) by decide +kernel) (v := 1) rfl ?_
                  refine V_icmpne 150 158 rfl (show decode M_Model_plan.2.1 147 = .ok (.if_icmp .ne 11, 3) by decide +kernel) rfl ?_ ?_
                  · skip
                    refine V_iload 152 rfl (show decode M_Model_plan.2.1 150 = .ok (.iload 5, 2) by decide +kernel) 5 rfl ?_
                    refine V_callS (tb := tI) (as := [vI x5]) (rest := []) (na := 1) 155 rfl (s_Model_ones x5 b σ) rfl rfl (Nat.le_of_ble_eq_true rfl) (cal_Model_ones _ _ _ _ _ (by decide) (by decide) (by decide)) (show decode M_Model_plan.2.1 152 = .ok (.invokestatic 354, 3) by decide +kernel) wd_1999 wd_2000 (fun r_16 b_16 σ_16 => ?_)
                    show V M_Model_plan 4 0 0 0 0 tI _ 155 [(0, vR h0), (1, vI x1), (2, vI x2), (3, vI x3), (4, vI x4_5), (5, vI x5), (6, vI x6), (7, vI x7)] [vI r_16] b_16 σ_16
                    refine V_goto 160 (show decode M_Model_plan.2.1 155 = .ok (.goto 5, 3) by decide +kernel) rfl ?_
                    exact V_iret rfl (by decide) (by decide) (show decode M_Model_plan.2.1 160 = .ok (.ireturn, 1) by decide +kernel)
                  · skip
                    refine V_iload 160 rfl (show decode M_Model_plan.2.1 158 = .ok (.iload 5, 2) by decide +kernel) 5 rfl ?_
                    exact V_iret rfl (by decide) (by decide) (show decode M_Model_plan.2.1 160 = .ok (.ireturn, 1) by decide +kernel)
theorem cal_Model_plan (d mc ms k n : Nat) (h1 : 4 + 1 ≤ d) (h2 : k + 0 ≤ mc) (h3 : n + 0 ≤ ms) : Cal M_Model_plan 4 0 0 3 d mc ms k n := ⟨wd_1986, wd_181, by decide, h1, by decide, h2, h3⟩
abbrev M_Model_proved : MD := (⟨"LongTrailModel", "proved", "(II)I"⟩, prog_14_method_103_code, 7, (some FieldType.int))
def b_Model_proved_160 (h0 : Nat) (x2 : Int32) (L160 : Int32 → Int32 → Bool → Sto → Rs Int32) (x5 : Int32) (x6 : Int32) (b : Bool) (σ : Sto) : Rs Int32 := (lt_ (fun (b : Bool) (σ : Sto) => (bd_ (f_Model_orNone x5 b σ) (fun (r_12 : Int32) (b_12 : Bool) (σ_12 : Sto) => (r_12, b_12, σ_12)))) (fun J186 => (if x6 < x2 then (if x5 < 0 then (J186 b σ) else (lt_ (SI σ (SR σ h0 29) (ix x5)) (fun (x5_13 : Int32) => (lt_ (x6 + (1 : Int32)) (fun (x6_14 : Int32) => (L160 x5_13 x6_14 ((b && cK σ h0 13) && cA σ (SR σ h0 29) 21 x5) σ)))))) else (J186 b σ))))
def b_Model_proved_32 (h0 : Nat) (x2 : Int32) (L32 : Int32 → Int32 → Int32 → Bool → Sto → Rs Int32) (x3 : Int32) (x4 : Int32) (x5 : Int32) (b : Bool) (σ : Sto) : Rs Int32 := (if x5 < (SI σ (SR σ h0 0) (ix (9 : Int32))) then (lt_ ((SI σ (SR σ h0 28) (ix x5)) - (SI σ (SR σ h0 0) (ix (((520 : Int32) + ((2 : Int32) * x5)) + (1 : Int32))))) (fun (x6_6 : Int32) => (lt_ (fun (x3_119 : Int32) (x4_119 : Int32) (b : Bool) (σ : Sto) => (lt_ (x5 + (1 : Int32)) (fun (x5_7 : Int32) => (L32 x3_119 x4_119 x5_7 b σ)))) (fun J119 => (lt_ (fun (b : Bool) (σ : Sto) => (lt_ x5 (fun (x3_8 : Int32) => (lt_ x6_6 (fun (x4_9 : Int32) => (J119 x3_8 x4_9 b σ)))))) (fun J112 => (if x3 < 0 then (J112 ((((((b && cK σ h0 13) && cA σ (SR σ h0 0) 21 (9 : Int32)) && cK σ h0 13) && cA σ (SR σ h0 28) 21 x5) && cK σ h0 13) && cA σ (SR σ h0 0) 21 (((520 : Int32) + ((2 : Int32) * x5)) + (1 : Int32))) σ) else (if (SI σ (SR σ h0 27) (ix x3)) < (SI σ (SR σ h0 27) (ix x5)) then (J112 ((((((((((b && cK σ h0 13) && cA σ (SR σ h0 0) 21 (9 : Int32)) && cK σ h0 13) && cA σ (SR σ h0 28) 21 x5) && cK σ h0 13) && cA σ (SR σ h0 0) 21 (((520 : Int32) + ((2 : Int32) * x5)) + (1 : Int32))) && cK σ h0 13) && cA σ (SR σ h0 27) 21 x5) && cK σ h0 13) && cA σ (SR σ h0 27) 21 x3) σ) else (if (SI σ (SR σ h0 27) (ix x5)) = (SI σ (SR σ h0 27) (ix x3)) then (if x4 < x6_6 then (J112 ((((((((((((((b && cK σ h0 13) && cA σ (SR σ h0 0) 21 (9 : Int32)) && cK σ h0 13) && cA σ (SR σ h0 28) 21 x5) && cK σ h0 13) && cA σ (SR σ h0 0) 21 (((520 : Int32) + ((2 : Int32) * x5)) + (1 : Int32))) && cK σ h0 13) && cA σ (SR σ h0 27) 21 x5) && cK σ h0 13) && cA σ (SR σ h0 27) 21 x3) && cK σ h0 13) && cA σ (SR σ h0 27) 21 x5) && cK σ h0 13) && cA σ (SR σ h0 27) 21 x3) σ) else (J119 x3 x4 ((((((((((((((b && cK σ h0 13) && cA σ (SR σ h0 0) 21 (9 : Int32)) && cK σ h0 13) && cA σ (SR σ h0 28) 21 x5) && cK σ h0 13) && cA σ (SR σ h0 0) 21 (((520 : Int32) + ((2 : Int32) * x5)) + (1 : Int32))) && cK σ h0 13) && cA σ (SR σ h0 27) 21 x5) && cK σ h0 13) && cA σ (SR σ h0 27) 21 x3) && cK σ h0 13) && cA σ (SR σ h0 27) 21 x5) && cK σ h0 13) && cA σ (SR σ h0 27) 21 x3) σ)) else (J119 x3 x4 ((((((((((((((b && cK σ h0 13) && cA σ (SR σ h0 0) 21 (9 : Int32)) && cK σ h0 13) && cA σ (SR σ h0 28) 21 x5) && cK σ h0 13) && cA σ (SR σ h0 0) 21 (((520 : Int32) + ((2 : Int32) * x5)) + (1 : Int32))) && cK σ h0 13) && cA σ (SR σ h0 27) 21 x5) && cK σ h0 13) && cA σ (SR σ h0 27) 21 x3) && cK σ h0 13) && cA σ (SR σ h0 27) 21 x5) && cK σ h0 13) && cA σ (SR σ h0 27) 21 x3) σ)))))))))) else (if x2 < (2 : Int32) then (if x3 < 0 then ((0 : Int32), ((b && cK σ h0 13) && cA σ (SR σ h0 0) 21 (9 : Int32)), σ) else (if x2 = 0 then ((SI σ (SR σ h0 27) (ix x3)), ((((b && cK σ h0 13) && cA σ (SR σ h0 0) 21 (9 : Int32)) && cK σ h0 13) && cA σ (SR σ h0 27) 21 x3), σ) else (x4, ((b && cK σ h0 13) && cA σ (SR σ h0 0) 21 (9 : Int32)), σ))) else (lt_ x3 (fun (x5_10 : Int32) => (lt_ (2 : Int32) (fun (x6_11 : Int32) => (lp_ (b_Model_proved_160 h0 x2) (fun (x5 : Int32) (x6 : Int32) (b : Bool) (σ : Sto) => (0, false, σ)) fuel_ x5_10 x6_11 ((b && cK σ h0 13) && cA σ (SR σ h0 0) 21 (9 : Int32)) σ)))))))
def f_Model_proved (h0 : Nat) (x1 : Int32) (x2 : Int32) (b : Bool) (σ : Sto) : Rs Int32 := (bd_ (f_Model_isIn ((x1).toInt64) (1 : Int64) (99 : Int64) b σ) (fun (r_1 : Int32) (b_1 : Bool) (σ_1 : Sto) => (lt_ (fun (b : Bool) (σ : Sto) => ((-1000000001 : Int32), b, σ)) (fun J16 => (if r_1 = 0 then (J16 b_1 σ_1) else (if x2 < 0 then (J16 b_1 σ_1) else (bd_ (f_Model_findRows h0 x1 (b_1 && cK σ_1 h0 13) σ_1) (fun (r_2 : Unit) (b_2 : Bool) (σ_2 : Sto) => (lt_ (-1 : Int32) (fun (x3_3 : Int32) => (lt_ (0 : Int32) (fun (x4_4 : Int32) => (lt_ (0 : Int32) (fun (x5_5 : Int32) => (lp_ (b_Model_proved_32 h0 x2) (fun (x3 : Int32) (x4 : Int32) (x5 : Int32) (b : Bool) (σ : Sto) => (0, false, σ)) fuel_ x3_3 x4_4 x5_5 b_2 σ_2)))))))))))))))
set_option maxRecDepth 100000 in
set_option maxHeartbeats 4000000 in
theorem s_Model_proved : ∀ (h0 : Nat) (x1 : Int32) (x2 : Int32) (b : Bool) (σ : Sto), Snd M_Model_proved 3 0 0 [vR h0, vI x1, vI x2] b σ (tI (f_Model_proved h0 x1 x2 b σ).1) (f_Model_proved h0 x1 x2 b σ).2.1 (f_Model_proved h0 x1 x2 b σ).2.2 := by
  intro h0 x1 x2 b σ
  refine Snd_of (tv := tI) (by decide) (Nat.le_of_ble_eq_true rfl) ?_
  show V M_Model_proved 3 0 0 0 0 tI (f_Model_proved h0 x1 x2 b σ) 0 [(0, vR h0), (1, vI x1), (2, vI x2)] [] b σ
  unfold f_Model_proved
  refine V_iload_n 1 rfl (show decode M_Model_proved.2.1 0 = .ok (.iload_n 1, 1) by decide +kernel) 1 rfl ?_
  refine V_i2l 2 rfl (show decode M_Model_proved.2.1 1 = .ok (.i2l, 1) by decide +kernel) ?_
  refine V_lconst 3 rfl (show decode M_Model_proved.2.1 2 = .ok (.lconst 1, 1) by decide +kernel) (v := 1) rfl ?_
  refine V_ldc2 6 rfl (show decode M_Model_proved.2.1 3 = .ok (.ldc2_w 260, 3) by decide +kernel) wd_1832 ?_
  refine V_callS (tb := tI) (as := [vL ((x1).toInt64), vL (1 : Int64), vL (99 : Int64)]) (rest := []) (na := 3) 9 rfl (s_Model_isIn ((x1).toInt64) (1 : Int64) (99 : Int64) b σ) rfl rfl (Nat.le_of_ble_eq_true rfl) (cal_Model_isIn _ _ _ _ _ (by decide) (by decide) (by decide)) (show decode M_Model_proved.2.1 6 = .ok (.invokestatic 76, 3) by decide +kernel) wd_1617 wd_1618 (fun r_1 b_1 σ_1 => ?_)
  show V M_Model_proved 3 0 0 0 0 tI _ 9 [(0, vR h0), (1, vI x1), (2, vI x2)] [vI r_1] b_1 σ_1
  refine V_jn (fun (J16 : Bool → Sto → Rs Int32) => ∀ (b : Bool) (σ : Sto), V M_Model_proved 3 0 0 0 0 tI (J16 b σ) 16 [] [] b σ) ?_ (fun J16 hJ16 => ?_)
  · intro b σ
    refine V_ldc 18 rfl (show decode M_Model_proved.2.1 16 = .ok (.ldc 91, 2) by decide +kernel) wd_1620 ?_
    exact V_iret rfl (by decide) (by decide) (show decode M_Model_proved.2.1 18 = .ok (.ireturn, 1) by decide +kernel)
  · skip
    refine V_ifeq 12 16 rfl (show decode M_Model_proved.2.1 9 = .ok (.ifCond .eq 7, 3) by decide +kernel) rfl ?_ ?_
    · skip
      exact V_sub [] rfl (hJ16 b_1 σ_1)
    · skip
      refine V_iload_n 13 rfl (show decode M_Model_proved.2.1 12 = .ok (.iload_n 2, 1) by decide +kernel) 2 rfl ?_
      refine V_ifge 16 19 rfl (show decode M_Model_proved.2.1 13 = .ok (.ifCond .ge 6, 3) by decide +kernel) rfl ?_ ?_
      · skip
        exact V_sub [] rfl (hJ16 b_1 σ_1)
      · skip
        refine V_aload_n 20 rfl (show decode M_Model_proved.2.1 19 = .ok (.aload_n 0, 1) by decide +kernel) 0 rfl ?_
        refine V_iload_n 21 rfl (show decode M_Model_proved.2.1 20 = .ok (.iload_n 1, 1) by decide +kernel) 1 rfl ?_
        refine V_callV (tb := tU) (as := [vI x1]) (rest := []) (na := 1) 24 rfl ck_Model (by decide) (s_Model_findRows h0 x1 (b_1 && cK σ_1 h0 13) σ_1) rfl rfl (Nat.le_of_ble_eq_true rfl) (cal_Model_findRows _ _ _ _ _ (by decide) (by decide) (by decide)) (show decode M_Model_proved.2.1 21 = .ok (.invokevirtual 364, 3) by decide +kernel) wd_2027 wd_2029 wd_167 (fun r_2 b_2 σ_2 => ?_)
        show V M_Model_proved 3 0 0 0 0 tI _ 24 [(0, vR h0), (1, vI x1), (2, vI x2)] [] b_2 σ_2
        refine V_iconst 25 rfl (show decode M_Model_proved.2.1 24 = .ok (.iconst (-1), 1) by decide +kernel) (v := -1) rfl ?_
        refine V_istore_n (fun x3_3 => [(3, vI x3_3), (0, vR h0), (1, vI x1), (2, vI x2)]) 26 rfl (show decode M_Model_proved.2.1 25 = .ok (.istore_n 3, 1) by decide +kernel) (by decide) (fun _ => rfl) (fun x3_3 => ?_)
        refine V_iconst 27 rfl (show decode M_Model_proved.2.1 26 = .ok (.iconst 0, 1) by decide +kernel) (v := 0) rfl ?_
        refine V_istore (fun x4_4 => [(4, vI x4_4), (3, vI x3_3), (0, vR h0), (1, vI x1), (2, vI x2)]) 29 rfl (show decode M_Model_proved.2.1 27 = .ok (.istore 4, 2) by decide +kernel) (by decide) (fun _ => rfl) (fun x4_4 => ?_)
        refine V_iconst 30 rfl (show decode M_Model_proved.2.1 29 = .ok (.iconst 0, 1) by decide +kernel) (v := 0) rfl ?_
        refine V_istore (fun x5_5 => [(5, vI x5_5), (4, vI x4_4), (3, vI x3_3), (0, vR h0), (1, vI x1), (2, vI x2)]) 32 rfl (show decode M_Model_proved.2.1 30 = .ok (.istore 5, 2) by decide +kernel) (by decide) (fun _ => rfl) (fun x5_5 => ?_)
        refine V_sub [3, 5, 2, 1, 0] rfl ?_
        refine lp_P (fun (L32 : Int32 → Int32 → Int32 → Bool → Sto → Rs Int32) => ∀ (x3 : Int32) (x4 : Int32) (x5 : Int32) (b : Bool) (σ : Sto), V M_Model_proved 3 0 0 0 0 tI (L32 x3 x4 x5 b σ) 32 [(0, vR h0), (2, vI x2), (3, vI x3), (4, vI x4), (5, vI x5)] [] b σ) ?_ ?_ fuel_ x3_3 x4_4 x5_5 b_2 σ_2
        · intro x3 x4 x5 b σ; exact V_bad
        · intro L32 hL32 x3 x4 x5 b σ
          unfold b_Model_proved_32
          refine V_iload 34 rfl (show decode M_Model_proved.2.1 32 = .ok (.iload 5, 2) by decide +kernel) 4 rfl ?_
          refine V_aload_n 35 rfl (show decode M_Model_proved.2.1 34 = .ok (.aload_n 0, 1) by decide +kernel) 0 rfl ?_
          refine V_get (j := 0) (v := vR (SR σ h0 0)) 38 rfl ck_Model (by decide) (by decide) (show decode M_Model_proved.2.1 35 = .ok (.getfield 7, 3) by decide +kernel) wd_1504 rfl ?_
          refine V_bipush 40 rfl (show decode M_Model_proved.2.1 38 = .ok (.bipush 9, 2) by decide +kernel) (v := 9) rfl ?_
          refine V_ald_int 41 rfl (show decode M_Model_proved.2.1 40 = .ok (.iaload, 1) by decide +kernel) ?_
          refine V_icmpge 44 125 rfl (show decode M_Model_proved.2.1 41 = .ok (.if_icmp .ge 84, 3) by decide +kernel) rfl ?_ ?_
          · skip
            refine V_aload_n 45 rfl (show decode M_Model_proved.2.1 44 = .ok (.aload_n 0, 1) by decide +kernel) 0 rfl ?_
            refine V_get (j := 28) (v := vR (SR σ h0 28)) 48 rfl ck_Model (by decide) (by decide) (show decode M_Model_proved.2.1 45 = .ok (.getfield 56, 3) by decide +kernel) wd_1532 rfl ?_
            refine V_iload 50 rfl (show decode M_Model_proved.2.1 48 = .ok (.iload 5, 2) by decide +kernel) 4 rfl ?_
            refine V_ald_int 51 rfl (show decode M_Model_proved.2.1 50 = .ok (.iaload, 1) by decide +kernel) ?_
            refine V_aload_n 52 rfl (show decode M_Model_proved.2.1 51 = .ok (.aload_n 0, 1) by decide +kernel) 0 rfl ?_
            refine V_get (j := 0) (v := vR (SR σ h0 0)) 55 rfl ck_Model (by decide) (by decide) (show decode M_Model_proved.2.1 52 = .ok (.getfield 7, 3) by decide +kernel) wd_1504 rfl ?_
            refine V_sipush 58 rfl (show decode M_Model_proved.2.1 55 = .ok (.sipush 520, 3) by decide +kernel) (v := 520) rfl ?_
            refine V_iconst 59 rfl (show decode M_Model_proved.2.1 58 = .ok (.iconst 2, 1) by decide +kernel) (v := 2) rfl ?_
            refine V_iload 61 rfl (show decode M_Model_proved.2.1 59 = .ok (.iload 5, 2) by decide +kernel) 4 rfl ?_
            refine V_imul 62 rfl (show decode M_Model_proved.2.1 61 = .ok (.imul, 1) by decide +kernel) ?_
            refine V_iadd 63 rfl (show decode M_Model_proved.2.1 62 = .ok (.iadd, 1) by decide +kernel) ?_
            refine V_iconst 64 rfl (show decode M_Model_proved.2.1 63 = .ok (.iconst 1, 1) by decide +kernel) (v := 1) rfl ?_
            refine V_iadd 65 rfl (show decode M_Model_proved.2.1 64 = .ok (.iadd, 1) by decide +kernel) ?_
            refine V_ald_int 66 rfl (show decode M_Model_proved.2.1 65 = .ok (.iaload, 1) by decide +kernel) ?_
            refine V_isub 67 rfl (show decode M_Model_proved.2.1 66 = .ok (.isub, 1) by decide +kernel) ?_
            refine V_istore (fun x6_6 => [(6, vI x6_6), (0, vR h0), (2, vI x2), (3, vI x3), (4, vI x4), (5, vI x5)]) 69 rfl (show decode M_Model_proved.2.1 67 = .ok (.istore 6, 2) by decide +kernel) (by decide) (fun _ => rfl) (fun x6_6 => ?_)
            refine V_iload_n 70 rfl (show decode M_Model_proved.2.1 69 = .ok (.iload_n 3, 1) by decide +kernel) 3 rfl ?_
            refine V_jn (fun (J119 : Int32 → Int32 → Bool → Sto → Rs Int32) => ∀ (x3_119 : Int32) (x4_119 : Int32) (b : Bool) (σ : Sto), V M_Model_proved 3 0 0 0 0 tI (J119 x3_119 x4_119 b σ) 119 [(0, vR h0), (2, vI x2), (3, vI x3_119), (4, vI x4_119), (5, vI x5)] [] b σ) ?_ (fun J119 hJ119 => ?_)
            · intro x3_119 x4_119 b σ
              refine V_iinc (fun x5_7 => [(5, vI x5_7), (0, vR h0), (2, vI x2), (3, vI x3_119), (4, vI x4_119)]) 122 rfl (show decode M_Model_proved.2.1 119 = .ok (.iinc 5 1, 3) by decide +kernel) 4 rfl (w := 1) rfl (by decide) (fun _ => rfl) (fun x5_7 => ?_)
              refine V_goto 32 (show decode M_Model_proved.2.1 122 = .ok (.goto (-90), 3) by decide +kernel) rfl ?_
              exact V_sub [1, 2, 3, 4, 0] rfl (hL32 x3_119 x4_119 x5_7 b σ)
            · skip
              refine V_jn (fun (J112 : Bool → Sto → Rs Int32) => ∀ (b : Bool) (σ : Sto), V M_Model_proved 3 0 0 0 0 tI (J112 b σ) 112 [(0, vR h0), (2, vI x2), (5, vI x5), (6, vI x6_6)] [] b σ) ?_ (fun J112 hJ112 => ?_)
              · intro b σ
                refine V_iload 114 rfl (show decode M_Model_proved.2.1 112 = .ok (.iload 5, 2) by decide +kernel) 2 rfl ?_
                refine V_istore_n (fun x3_8 => [(3, vI x3_8), (0, vR h0), (2, vI x2), (5, vI x5), (6, vI x6_6)]) 115 rfl (show decode M_Model_proved.2.1 114 = .ok (.istore_n 3, 1) by decide +kernel) (by decide) (fun _ => rfl) (fun x3_8 => ?_)
                refine V_iload 117 rfl (show decode M_Model_proved.2.1 115 = .ok (.iload 6, 2) by decide +kernel) 4 rfl ?_
                refine V_istore (fun x4_9 => [(4, vI x4_9), (3, vI x3_8), (0, vR h0), (2, vI x2), (5, vI x5), (6, vI x6_6)]) 119 rfl (show decode M_Model_proved.2.1 117 = .ok (.istore 4, 2) by decide +kernel) (by decide) (fun _ => rfl) (fun x4_9 => ?_)
                exact V_sub [2, 3, 1, 0, 4] rfl (hJ119 x3_8 x4_9 b σ)
              · skip
                refine V_iflt 73 112 rfl (show decode M_Model_proved.2.1 70 = .ok (.ifCond .lt 42, 3) by decide +kernel) rfl ?_ ?_
                · skip
                  exact V_sub [1, 2, 5, 0] rfl (hJ112 ((((((b && cK σ h0 13) && cA σ (SR σ h0 0) 21 (9 : Int32)) && cK σ h0 13) && cA σ (SR σ h0 28) 21 x5) && cK σ h0 13) && cA σ (SR σ h0 0) 21 (((520 : Int32) + ((2 : Int32) * x5)) + (1 : Int32))) σ)
                · skip
                  refine V_aload_n 74 rfl (show decode M_Model_proved.2.1 73 = .ok (.aload_n 0, 1) by decide +kernel) 1 rfl ?_
                  refine V_get (j := 27) (v := vR (SR σ h0 27)) 77 rfl ck_Model (by decide) (by decide) (show decode M_Model_proved.2.1 74 = .ok (.getfield 53, 3) by decide +kernel) wd_1531 rfl ?_
                  refine V_iload 79 rfl (show decode M_Model_proved.2.1 77 = .ok (.iload 5, 2) by decide +kernel) 5 rfl ?_
                  refine V_ald_int 80 rfl (show decode M_Model_proved.2.1 79 = .ok (.iaload, 1) by decide +kernel) ?_
                  refine V_aload_n 81 rfl (show decode M_Model_proved.2.1 80 = .ok (.aload_n 0, 1) by decide +kernel) 1 rfl ?_
                  refine V_get (j := 27) (v := vR (SR σ h0 27)) 84 rfl ck_Model (by decide) (by decide) (show decode M_Model_proved.2.1 81 = .ok (.getfield 53, 3) by decide +kernel) wd_1531 rfl ?_
                  refine V_iload_n 85 rfl (show decode M_Model_proved.2.1 84 = .ok (.iload_n 3, 1) by decide +kernel) 3 rfl ?_
                  refine V_ald_int 86 rfl (show decode M_Model_proved.2.1 85 = .ok (.iaload, 1) by decide +kernel) ?_
                  refine V_icmpgt 89 112 rfl (show decode M_Model_proved.2.1 86 = .ok (.if_icmp .gt 26, 3) by decide +kernel) rfl ?_ ?_
                  · skip
                    exact V_sub [1, 2, 5, 0] rfl (hJ112 ((((((((((b && cK σ h0 13) && cA σ (SR σ h0 0) 21 (9 : Int32)) && cK σ h0 13) && cA σ (SR σ h0 28) 21 x5) && cK σ h0 13) && cA σ (SR σ h0 0) 21 (((520 : Int32) + ((2 : Int32) * x5)) + (1 : Int32))) && cK σ h0 13) && cA σ (SR σ h0 27) 21 x5) && cK σ h0 13) && cA σ (SR σ h0 27) 21 x3) σ)
                  · skip
                    refine V_aload_n 90 rfl (show decode M_Model_proved.2.1 89 = .ok (.aload_n 0, 1) by decide +kernel) 1 rfl ?_
                    refine V_get (j := 27) (v := vR (SR σ h0 27)) 93 rfl ck_Model (by decide) (by decide) (show decode M_Model_proved.2.1 90 = .ok (.getfield 53, 3) by decide +kernel) wd_1531 rfl ?_
                    refine V_iload 95 rfl (show decode M_Model_proved.2.1 93 = .ok (.iload 5, 2) by decide +kernel) 5 rfl ?_
                    refine V_ald_int 96 rfl (show decode M_Model_proved.2.1 95 = .ok (.iaload, 1) by decide +kernel) ?_
                    refine V_aload_n 97 rfl (show decode M_Model_proved.2.1 96 = .ok (.aload_n 0, 1) by decide +kernel) 1 rfl ?_
                    refine V_get (j := 27) (v := vR (SR σ h0 27)) 100 rfl ck_Model (by decide) (by decide) (show decode M_Model_proved.2.1 97 = .ok (.getfield 53, 3) by decide +kernel) wd_1531 rfl ?_
                    refine V_iload_n 101 rfl (show decode M_Model_proved.2.1 100 = .ok (.iload_n 3, 1) by decide +kernel) 3 rfl ?_
                    refine V_ald_int 102 rfl (show decode M_Model_proved.2.1 101 = .ok (.iaload, 1) by decide +kernel) ?_
                    refine V_icmpne 105 119 rfl (show decode M_Model_proved.2.1 102 = .ok (.if_icmp .ne 17, 3) by decide +kernel) rfl ?_ ?_
                    · skip
                      refine V_iload 107 rfl (show decode M_Model_proved.2.1 105 = .ok (.iload 6, 2) by decide +kernel) 0 rfl ?_
                      refine V_iload 109 rfl (show decode M_Model_proved.2.1 107 = .ok (.iload 4, 2) by decide +kernel) 4 rfl ?_
                      refine V_icmple 112 119 rfl (show decode M_Model_proved.2.1 109 = .ok (.if_icmp .le 10, 3) by decide +kernel) rfl ?_ ?_
                      · skip
                        exact V_sub [1, 2, 5, 0] rfl (hJ112 ((((((((((((((b && cK σ h0 13) && cA σ (SR σ h0 0) 21 (9 : Int32)) && cK σ h0 13) && cA σ (SR σ h0 28) 21 x5) && cK σ h0 13) && cA σ (SR σ h0 0) 21 (((520 : Int32) + ((2 : Int32) * x5)) + (1 : Int32))) && cK σ h0 13) && cA σ (SR σ h0 27) 21 x5) && cK σ h0 13) && cA σ (SR σ h0 27) 21 x3) && cK σ h0 13) && cA σ (SR σ h0 27) 21 x5) && cK σ h0 13) && cA σ (SR σ h0 27) 21 x3) σ)
                      · skip
                        exact V_sub [1, 2, 3, 4, 5] rfl (hJ119 x3 x4 ((((((((((((((b && cK σ h0 13) && cA σ (SR σ h0 0) 21 (9 : Int32)) && cK σ h0 13) && cA σ (SR σ h0 28) 21 x5) && cK σ h0 13) && cA σ (SR σ h0 0) 21 (((520 : Int32) + ((2 : Int32) * x5)) + (1 : Int32))) && cK σ h0 13) && cA σ (SR σ h0 27) 21 x5) && cK σ h0 13) && cA σ (SR σ h0 27) 21 x3) && cK σ h0 13) && cA σ (SR σ h0 27) 21 x5) && cK σ h0 13) && cA σ (SR σ h0 27) 21 x3) σ)
                    · skip
                      exact V_sub [1, 2, 3, 4, 5] rfl (hJ119 x3 x4 ((((((((((((((b && cK σ h0 13) && cA σ (SR σ h0 0) 21 (9 : Int32)) && cK σ h0 13) && cA σ (SR σ h0 28) 21 x5) && cK σ h0 13) && cA σ (SR σ h0 0) 21 (((520 : Int32) + ((2 : Int32) * x5)) + (1 : Int32))) && cK σ h0 13) && cA σ (SR σ h0 27) 21 x5) && cK σ h0 13) && cA σ (SR σ h0 27) 21 x3) && cK σ h0 13) && cA σ (SR σ h0 27) 21 x5) && cK σ h0 13) && cA σ (SR σ h0 27) 21 x3) σ)
          · skip
            refine V_iload_n 126 rfl (show decode M_Model_proved.2.1 125 = .ok (.iload_n 2, 1) by decide +kernel) 1 rfl ?_
            refine V_iconst 127 rfl (show decode M_Model_proved.2.1 126 = .ok (.iconst 2, 1) by decide +kernel) (v := 2) rfl ?_
            refine V_icmpge 130 154 rfl (show decode M_Model_proved.2.1 127 = .ok (.if_icmp .ge 27, 3) by decide +kernel) rfl ?_ ?_
            · skip
              refine V_iload_n 131 rfl (show decode M_Model_proved.2.1 130 = .ok (.iload_n 3, 1) by decide +kernel) 2 rfl ?_
              refine V_ifge 134 138 rfl (show decode M_Model_proved.2.1 131 = .ok (.ifCond .ge 7, 3) by decide +kernel) rfl ?_ ?_
              · skip
                refine V_iconst 135 rfl (show decode M_Model_proved.2.1 134 = .ok (.iconst 0, 1) by decide +kernel) (v := 0) rfl ?_
                refine V_goto 153 (show decode M_Model_proved.2.1 135 = .ok (.goto 18, 3) by decide +kernel) rfl ?_
                exact V_iret rfl (by decide) (by decide) (show decode M_Model_proved.2.1 153 = .ok (.ireturn, 1) by decide +kernel)
              · skip
                refine V_iload_n 139 rfl (show decode M_Model_proved.2.1 138 = .ok (.iload_n 2, 1) by decide +kernel) 1 rfl ?_
                refine V_ifne 142 151 rfl (show decode M_Model_proved.2.1 139 = .ok (.ifCond .ne 12, 3) by decide +kernel) rfl ?_ ?_
                · skip
                  refine V_aload_n 143 rfl (show decode M_Model_proved.2.1 142 = .ok (.aload_n 0, 1) by decide +kernel) 0 rfl ?_
                  refine V_get (j := 27) (v := vR (SR σ h0 27)) 146 rfl ck_Model (by decide) (by decide) (show decode M_Model_proved.2.1 143 = .ok (.getfield 53, 3) by decide +kernel) wd_1531 rfl ?_
                  refine V_iload_n 147 rfl (show decode M_Model_proved.2.1 146 = .ok (.iload_n 3, 1) by decide +kernel) 2 rfl ?_
                  refine V_ald_int 148 rfl (show decode M_Model_proved.2.1 147 = .ok (.iaload, 1) by decide +kernel) ?_
                  refine V_goto 153 (show decode M_Model_proved.2.1 148 = .ok (.goto 5, 3) by decide +kernel) rfl ?_
                  exact V_iret rfl (by decide) (by decide) (show decode M_Model_proved.2.1 153 = .ok (.ireturn, 1) by decide +kernel)
                · skip
                  refine V_iload 153 rfl (show decode M_Model_proved.2.1 151 = .ok (.iload 4, 2) by decide +kernel) 3 rfl ?_
                  exact V_iret rfl (by decide) (by decide) (show decode M_Model_proved.2.1 153 = .ok (.ireturn, 1) by decide +kernel)
            · skip
              refine V_iload_n 155 rfl (show decode M_Model_proved.2.1 154 = .ok (.iload_n 3, 1) by decide +kernel) 2 rfl ?_
              refine V_istore (fun x5_10 => [(5, vI x5_10), (0, vR h0), (2, vI x2), (3, vI x3), (4, vI x4)]) 157 rfl (show decode M_Model_proved.2.1 155 = .ok (.istore 5, 2) by decide +kernel) (by decide) (fun _ => rfl) (fun x5_10 => ?_)
              refine V_iconst 158 rfl (show decode M_Model_proved.2.1 157 = .ok (.iconst 2, 1) by decide +kernel) (v := 2) rfl ?_
              refine V_istore (fun x6_11 => [(6, vI x6_11), (5, vI x5_10), (0, vR h0), (2, vI x2), (3, vI x3), (4, vI x4)]) 160 rfl (show decode M_Model_proved.2.1 158 = .ok (.istore 6, 2) by decide +kernel) (by decide) (fun _ => rfl) (fun x6_11 => ?_)
              refine V_sub [2, 3, 1, 0] rfl ?_
              refine lp_P (fun (L160 : Int32 → Int32 → Bool → Sto → Rs Int32) => ∀ (x5 : Int32) (x6 : Int32) (b : Bool) (σ : Sto), V M_Model_proved 3 0 0 0 0 tI (L160 x5 x6 b σ) 160 [(0, vR h0), (2, vI x2), (5, vI x5), (6, vI x6)] [] b σ) ?_ ?_ fuel_ x5_10 x6_11 ((b && cK σ h0 13) && cA σ (SR σ h0 0) 21 (9 : Int32)) σ
              · intro x5 x6 b σ; exact V_bad
              · intro L160 hL160 x5 x6 b σ
                unfold b_Model_proved_160
                refine V_iload 162 rfl (show decode M_Model_proved.2.1 160 = .ok (.iload 6, 2) by decide +kernel) 3 rfl ?_
                refine V_iload_n 163 rfl (show decode M_Model_proved.2.1 162 = .ok (.iload_n 2, 1) by decide +kernel) 1 rfl ?_
                refine V_jn (fun (J186 : Bool → Sto → Rs Int32) => ∀ (b : Bool) (σ : Sto), V M_Model_proved 3 0 0 0 0 tI (J186 b σ) 186 [(5, vI x5)] [] b σ) ?_ (fun J186 hJ186 => ?_)
                · intro b σ
                  refine V_iload 188 rfl (show decode M_Model_proved.2.1 186 = .ok (.iload 5, 2) by decide +kernel) 0 rfl ?_
                  refine V_callS (tb := tI) (as := [vI x5]) (rest := []) (na := 1) 191 rfl (s_Model_orNone x5 b σ) rfl rfl (Nat.le_of_ble_eq_true rfl) (cal_Model_orNone _ _ _ _ _ (by decide) (by decide) (by decide)) (show decode M_Model_proved.2.1 188 = .ok (.invokestatic 143, 3) by decide +kernel) wd_1704 wd_1705 (fun r_12 b_12 σ_12 => ?_)
                  show V M_Model_proved 3 0 0 0 0 tI _ 191 [(5, vI x5)] [vI r_12] b_12 σ_12
                  exact V_iret rfl (by decide) (by decide) (show decode M_Model_proved.2.1 191 = .ok (.ireturn, 1) by decide +kernel)
                · skip
                  refine V_icmpge 166 186 rfl (show decode M_Model_proved.2.1 163 = .ok (.if_icmp .ge 23, 3) by decide +kernel) rfl ?_ ?_
                  · skip
                    refine V_iload 168 rfl (show decode M_Model_proved.2.1 166 = .ok (.iload 5, 2) by decide +kernel) 2 rfl ?_
                    refine V_iflt 171 186 rfl (show decode M_Model_proved.2.1 168 = .ok (.ifCond .lt 18, 3) by decide +kernel) rfl ?_ ?_
                    · skip
                      exact V_sub [2] rfl (hJ186 b σ)
                    · skip
                      refine V_aload_n 172 rfl (show decode M_Model_proved.2.1 171 = .ok (.aload_n 0, 1) by decide +kernel) 0 rfl ?_
                      refine V_get (j := 29) (v := vR (SR σ h0 29)) 175 rfl ck_Model (by decide) (by decide) (show decode M_Model_proved.2.1 172 = .ok (.getfield 59, 3) by decide +kernel) wd_1533 rfl ?_
                      refine V_iload 177 rfl (show decode M_Model_proved.2.1 175 = .ok (.iload 5, 2) by decide +kernel) 2 rfl ?_
                      refine V_ald_int 178 rfl (show decode M_Model_proved.2.1 177 = .ok (.iaload, 1) by decide +kernel) ?_
                      refine V_istore (fun x5_13 => [(5, vI x5_13), (0, vR h0), (2, vI x2), (6, vI x6)]) 180 rfl (show decode M_Model_proved.2.1 178 = .ok (.istore 5, 2) by decide +kernel) (by decide) (fun _ => rfl) (fun x5_13 => ?_)
                      refine V_iinc (fun x6_14 => [(6, vI x6_14), (5, vI x5_13), (0, vR h0), (2, vI x2)]) 183 rfl (show decode M_Model_proved.2.1 180 = .ok (.iinc 6 1, 3) by decide +kernel) 3 rfl (w := 1) rfl (by decide) (fun _ => rfl) (fun x6_14 => ?_)
                      refine V_goto 160 (show decode M_Model_proved.2.1 183 = .ok (.goto (-23), 3) by decide +kernel) rfl ?_
                      exact V_sub [2, 3, 1, 0] rfl (hL160 x5_13 x6_14 ((b && cK σ h0 13) && cA σ (SR σ h0 29) 21 x5) σ)
                  · skip
                    exact V_sub [2] rfl (hJ186 b σ)
theorem cal_Model_proved (d mc ms k n : Nat) (h1 : 3 + 1 ≤ d) (h2 : k + 0 ≤ mc) (h3 : n + 0 ≤ ms) : Cal M_Model_proved 3 0 0 2 d mc ms k n := ⟨wd_2026, wd_181, by decide, h1, by decide, h2, h3⟩
abbrev M_Model_quota : MD := (⟨"LongTrailModel", "quota", "(II)I"⟩, prog_14_method_83_code, 3, (some FieldType.int))
def f_Model_quota (h0 : Nat) (x1 : Int32) (x2 : Int32) (b : Bool) (σ : Sto) : Rs Int32 := (bd_ (f_Model_isIn ((x1).toInt64) (0 : Int64) (6 : Int64) b σ) (fun (r_1 : Int32) (b_1 : Bool) (σ_1 : Sto) => (lt_ (fun (b : Bool) (σ : Sto) => ((-1000000001 : Int32), b, σ)) (fun J36 => (if r_1 = 0 then (J36 b_1 σ_1) else (bd_ (f_Model_isIn ((x2).toInt64) (0 : Int64) (9 : Int64) b_1 σ_1) (fun (r_2 : Int32) (b_2 : Bool) (σ_2 : Sto) => (if r_2 = 0 then (J36 b_2 σ_2) else (bd_ (f_Model_becomes h0 ((14 : Int32) + x1) x2 (b_2 && cK σ_2 h0 13) σ_2) (fun (r_3 : Int32) (b_3 : Bool) (σ_3 : Sto) => (r_3, b_3, σ_3)))))))))))
set_option maxRecDepth 100000 in
set_option maxHeartbeats 4000000 in
theorem s_Model_quota : ∀ (h0 : Nat) (x1 : Int32) (x2 : Int32) (b : Bool) (σ : Sto), Snd M_Model_quota 2 0 0 [vR h0, vI x1, vI x2] b σ (tI (f_Model_quota h0 x1 x2 b σ).1) (f_Model_quota h0 x1 x2 b σ).2.1 (f_Model_quota h0 x1 x2 b σ).2.2 := by
  intro h0 x1 x2 b σ
  refine Snd_of (tv := tI) (by decide) (Nat.le_of_ble_eq_true rfl) ?_
  show V M_Model_quota 2 0 0 0 0 tI (f_Model_quota h0 x1 x2 b σ) 0 [(0, vR h0), (1, vI x1), (2, vI x2)] [] b σ
  unfold f_Model_quota
  refine V_iload_n 1 rfl (show decode M_Model_quota.2.1 0 = .ok (.iload_n 1, 1) by decide +kernel) 1 rfl ?_
  refine V_i2l 2 rfl (show decode M_Model_quota.2.1 1 = .ok (.i2l, 1) by decide +kernel) ?_
  refine V_lconst 3 rfl (show decode M_Model_quota.2.1 2 = .ok (.lconst 0, 1) by decide +kernel) (v := 0) rfl ?_
  refine V_ldc2 6 rfl (show decode M_Model_quota.2.1 3 = .ok (.ldc2_w 331, 3) by decide +kernel) wd_1954 ?_
  refine V_callS (tb := tI) (as := [vL ((x1).toInt64), vL (0 : Int64), vL (6 : Int64)]) (rest := []) (na := 3) 9 rfl (s_Model_isIn ((x1).toInt64) (0 : Int64) (6 : Int64) b σ) rfl rfl (Nat.le_of_ble_eq_true rfl) (cal_Model_isIn _ _ _ _ _ (by decide) (by decide) (by decide)) (show decode M_Model_quota.2.1 6 = .ok (.invokestatic 76, 3) by decide +kernel) wd_1617 wd_1618 (fun r_1 b_1 σ_1 => ?_)
  show V M_Model_quota 2 0 0 0 0 tI _ 9 [(0, vR h0), (1, vI x1), (2, vI x2)] [vI r_1] b_1 σ_1
  refine V_jn (fun (J36 : Bool → Sto → Rs Int32) => ∀ (b : Bool) (σ : Sto), V M_Model_quota 2 0 0 0 0 tI (J36 b σ) 36 [] [] b σ) ?_ (fun J36 hJ36 => ?_)
  · intro b σ
    refine V_ldc 38 rfl (show decode M_Model_quota.2.1 36 = .ok (.ldc 91, 2) by decide +kernel) wd_1620 ?_
    exact V_iret rfl (by decide) (by decide) (show decode M_Model_quota.2.1 38 = .ok (.ireturn, 1) by decide +kernel)
  · skip
    refine V_ifeq 12 36 rfl (show decode M_Model_quota.2.1 9 = .ok (.ifCond .eq 27, 3) by decide +kernel) rfl ?_ ?_
    · skip
      exact V_sub [] rfl (hJ36 b_1 σ_1)
    · skip
      refine V_iload_n 13 rfl (show decode M_Model_quota.2.1 12 = .ok (.iload_n 2, 1) by decide +kernel) 2 rfl ?_
      refine V_i2l 14 rfl (show decode M_Model_quota.2.1 13 = .ok (.i2l, 1) by decide +kernel) ?_
      refine V_lconst 15 rfl (show decode M_Model_quota.2.1 14 = .ok (.lconst 0, 1) by decide +kernel) (v := 0) rfl ?_
      refine V_ldc2 18 rfl (show decode M_Model_quota.2.1 15 = .ok (.ldc2_w 107, 3) by decide +kernel) wd_1645 ?_
      refine V_callS (tb := tI) (as := [vL ((x2).toInt64), vL (0 : Int64), vL (9 : Int64)]) (rest := []) (na := 3) 21 rfl (s_Model_isIn ((x2).toInt64) (0 : Int64) (9 : Int64) b_1 σ_1) rfl rfl (Nat.le_of_ble_eq_true rfl) (cal_Model_isIn _ _ _ _ _ (by decide) (by decide) (by decide)) (show decode M_Model_quota.2.1 18 = .ok (.invokestatic 76, 3) by decide +kernel) wd_1617 wd_1618 (fun r_2 b_2 σ_2 => ?_)
      show V M_Model_quota 2 0 0 0 0 tI _ 21 [(0, vR h0), (1, vI x1), (2, vI x2)] [vI r_2] b_2 σ_2
      refine V_ifeq 24 36 rfl (show decode M_Model_quota.2.1 21 = .ok (.ifCond .eq 15, 3) by decide +kernel) rfl ?_ ?_
      · skip
        exact V_sub [] rfl (hJ36 b_2 σ_2)
      · skip
        refine V_aload_n 25 rfl (show decode M_Model_quota.2.1 24 = .ok (.aload_n 0, 1) by decide +kernel) 0 rfl ?_
        refine V_bipush 27 rfl (show decode M_Model_quota.2.1 25 = .ok (.bipush 14, 2) by decide +kernel) (v := 14) rfl ?_
        refine V_iload_n 28 rfl (show decode M_Model_quota.2.1 27 = .ok (.iload_n 1, 1) by decide +kernel) 1 rfl ?_
        refine V_iadd 29 rfl (show decode M_Model_quota.2.1 28 = .ok (.iadd, 1) by decide +kernel) ?_
        refine V_iload_n 30 rfl (show decode M_Model_quota.2.1 29 = .ok (.iload_n 2, 1) by decide +kernel) 2 rfl ?_
        refine V_callV (tb := tI) (as := [vI ((14 : Int32) + x1), vI x2]) (rest := []) (na := 2) 33 rfl ck_Model (by decide) (s_Model_becomes h0 ((14 : Int32) + x1) x2 (b_2 && cK σ_2 h0 13) σ_2) rfl rfl (Nat.le_of_ble_eq_true rfl) (cal_Model_becomes _ _ _ _ _ (by decide) (by decide) (by decide)) (show decode M_Model_quota.2.1 30 = .ok (.invokevirtual 99, 3) by decide +kernel) wd_1634 wd_1636 wd_115 (fun r_3 b_3 σ_3 => ?_)
        show V M_Model_quota 2 0 0 0 0 tI _ 33 [(0, vR h0), (1, vI x1), (2, vI x2)] [vI r_3] b_3 σ_3
        refine V_goto 38 (show decode M_Model_quota.2.1 33 = .ok (.goto 5, 3) by decide +kernel) rfl ?_
        exact V_iret rfl (by decide) (by decide) (show decode M_Model_quota.2.1 38 = .ok (.ireturn, 1) by decide +kernel)
theorem cal_Model_quota (d mc ms k n : Nat) (h1 : 2 + 1 ≤ d) (h2 : k + 0 ≤ mc) (h3 : n + 0 ≤ ms) : Cal M_Model_quota 2 0 0 2 d mc ms k n := ⟨wd_1953, wd_181, by decide, h1, by decide, h2, h3⟩
abbrev M_Model_ride : MD := (⟨"LongTrailModel", "ride", "(III)I"⟩, prog_14_method_96_code, 5, (some FieldType.int))
def f_Model_ride (h0 : Nat) (x1 : Int32) (x2 : Int32) (x3 : Int32) (b : Bool) (σ : Sto) : Rs Int32 := (bd_ (f_Model_isPlace h0 x1 (b && cK σ h0 13) σ) (fun (r_1 : Int32) (b_1 : Bool) (σ_1 : Sto) => (lt_ (fun (b : Bool) (σ : Sto) => ((-1000000001 : Int32), b, σ)) (fun J33 => (if r_1 = 0 then (J33 b_1 σ_1) else (bd_ (f_Model_isPlace h0 x2 (b_1 && cK σ_1 h0 13) σ_1) (fun (r_2 : Int32) (b_2 : Bool) (σ_2 : Sto) => (if r_2 = 0 then (J33 b_2 σ_2) else (if x1 = x2 then (J33 b_2 σ_2) else (bd_ (f_Model_isIn ((x3).toInt64) (1 : Int64) (999 : Int64) b_2 σ_2) (fun (r_3 : Int32) (b_3 : Bool) (σ_3 : Sto) => (if r_3 = 0 then (J33 b_3 σ_3) else (bd_ (f_Model_kindOf h0 x1 (b_3 && cK σ_3 h0 13) σ_3) (fun (r_4 : Int32) (b_4 : Bool) (σ_4 : Sto) => (lt_ (fun (b : Bool) (σ : Sto) => ((-1000000012 : Int32), b, σ)) (fun J54 => (if r_4 = (3 : Int32) then (bd_ (f_Model_kindOf h0 x2 (b_4 && cK σ_4 h0 13) σ_4) (fun (r_5 : Int32) (b_5 : Bool) (σ_5 : Sto) => (if r_5 = (3 : Int32) then (if (SI σ_5 (SR σ_5 h0 0) (ix (8 : Int32))) = (12 : Int32) then ((-1000000003 : Int32), ((b_5 && cK σ_5 h0 13) && cA σ_5 (SR σ_5 h0 0) 21 (8 : Int32)), σ_5) else (lt_ ((480 : Int32) + ((3 : Int32) * (SI σ_5 (SR σ_5 h0 0) (ix (8 : Int32))))) (fun (x4_6 : Int32) => (lt_ (pI σ_5 (SR σ_5 h0 0) (ix x4_6) x1) (fun (σ_7 : Sto) => (lt_ (pI σ_7 (SR σ_7 h0 0) (ix (x4_6 + (1 : Int32))) x2) (fun (σ_8 : Sto) => (lt_ (pI σ_8 (SR σ_8 h0 0) (ix (x4_6 + (2 : Int32))) x3) (fun (σ_9 : Sto) => (lt_ (pI σ_9 (SR σ_9 h0 0) (ix (8 : Int32)) ((SI σ_9 (SR σ_9 h0 0) (ix (8 : Int32))) + (1 : Int32))) (fun (σ_10 : Sto) => (((SI σ_10 (SR σ_10 h0 0) (ix (8 : Int32))) - (1 : Int32)), (((((((((((((((b_5 && cK σ_5 h0 13) && cA σ_5 (SR σ_5 h0 0) 21 (8 : Int32)) && cK σ_5 h0 13) && cA σ_5 (SR σ_5 h0 0) 21 (8 : Int32)) && cK σ_5 h0 13) && cA σ_5 (SR σ_5 h0 0) 21 x4_6) && cK σ_7 h0 13) && cA σ_7 (SR σ_7 h0 0) 21 (x4_6 + (1 : Int32))) && cK σ_8 h0 13) && cA σ_8 (SR σ_8 h0 0) 21 (x4_6 + (2 : Int32))) && cK σ_9 h0 13) && cA σ_9 (SR σ_9 h0 0) 21 (8 : Int32)) && cA σ_9 (SR σ_9 h0 0) 21 (8 : Int32)) && cK σ_10 h0 13) && cA σ_10 (SR σ_10 h0 0) 21 (8 : Int32)), σ_10)))))))))))) else (J54 b_5 σ_5)))) else (J54 b_4 σ_4))))))))))))))))))
set_option maxRecDepth 100000 in
set_option maxHeartbeats 4000000 in
theorem s_Model_ride : ∀ (h0 : Nat) (x1 : Int32) (x2 : Int32) (x3 : Int32) (b : Bool) (σ : Sto), Snd M_Model_ride 3 0 0 [vR h0, vI x1, vI x2, vI x3] b σ (tI (f_Model_ride h0 x1 x2 x3 b σ).1) (f_Model_ride h0 x1 x2 x3 b σ).2.1 (f_Model_ride h0 x1 x2 x3 b σ).2.2 := by
  intro h0 x1 x2 x3 b σ
  refine Snd_of (tv := tI) (by decide) (Nat.le_of_ble_eq_true rfl) ?_
  show V M_Model_ride 3 0 0 0 0 tI (f_Model_ride h0 x1 x2 x3 b σ) 0 [(0, vR h0), (1, vI x1), (2, vI x2), (3, vI x3)] [] b σ
  unfold f_Model_ride
  refine V_aload_n 1 rfl (show decode M_Model_ride.2.1 0 = .ok (.aload_n 0, 1) by decide +kernel) 0 rfl ?_
  refine V_iload_n 2 rfl (show decode M_Model_ride.2.1 1 = .ok (.iload_n 1, 1) by decide +kernel) 1 rfl ?_
  refine V_callV (tb := tI) (as := [vI x1]) (rest := []) (na := 1) 5 rfl ck_Model (by decide) (s_Model_isPlace h0 x1 (b && cK σ h0 13) σ) rfl rfl (Nat.le_of_ble_eq_true rfl) (cal_Model_isPlace _ _ _ _ _ (by decide) (by decide) (by decide)) (show decode M_Model_ride.2.1 2 = .ok (.invokevirtual 123, 3) by decide +kernel) wd_1661 wd_1663 wd_118 (fun r_1 b_1 σ_1 => ?_)
  show V M_Model_ride 3 0 0 0 0 tI _ 5 [(0, vR h0), (1, vI x1), (2, vI x2), (3, vI x3)] [vI r_1] b_1 σ_1
  refine V_jn (fun (J33 : Bool → Sto → Rs Int32) => ∀ (b : Bool) (σ : Sto), V M_Model_ride 3 0 0 0 0 tI (J33 b σ) 33 [] [] b σ) ?_ (fun J33 hJ33 => ?_)
  · intro b σ
    refine V_ldc 35 rfl (show decode M_Model_ride.2.1 33 = .ok (.ldc 91, 2) by decide +kernel) wd_1620 ?_
    exact V_iret rfl (by decide) (by decide) (show decode M_Model_ride.2.1 35 = .ok (.ireturn, 1) by decide +kernel)
  · skip
    refine V_ifeq 8 33 rfl (show decode M_Model_ride.2.1 5 = .ok (.ifCond .eq 28, 3) by decide +kernel) rfl ?_ ?_
    · skip
      exact V_sub [] rfl (hJ33 b_1 σ_1)
    · skip
      refine V_aload_n 9 rfl (show decode M_Model_ride.2.1 8 = .ok (.aload_n 0, 1) by decide +kernel) 0 rfl ?_
      refine V_iload_n 10 rfl (show decode M_Model_ride.2.1 9 = .ok (.iload_n 2, 1) by decide +kernel) 2 rfl ?_
      refine V_callV (tb := tI) (as := [vI x2]) (rest := []) (na := 1) 13 rfl ck_Model (by decide) (s_Model_isPlace h0 x2 (b_1 && cK σ_1 h0 13) σ_1) rfl rfl (Nat.le_of_ble_eq_true rfl) (cal_Model_isPlace _ _ _ _ _ (by decide) (by decide) (by decide)) (show decode M_Model_ride.2.1 10 = .ok (.invokevirtual 123, 3) by decide +kernel) wd_1661 wd_1663 wd_118 (fun r_2 b_2 σ_2 => ?_)
      show V M_Model_ride 3 0 0 0 0 tI _ 13 [(0, vR h0), (1, vI x1), (2, vI x2), (3, vI x3)] [vI r_2] b_2 σ_2
      refine V_ifeq 16 33 rfl (show decode M_Model_ride.2.1 13 = .ok (.ifCond .eq 20, 3) by decide +kernel) rfl ?_ ?_
      · skip
        exact V_sub [] rfl (hJ33 b_2 σ_2)
      · skip
        refine V_iload_n 17 rfl (show decode M_Model_ride.2.1 16 = .ok (.iload_n 1, 1) by decide +kernel) 1 rfl ?_
        refine V_iload_n 18 rfl (show decode M_Model_ride.2.1 17 = .ok (.iload_n 2, 1) by decide +kernel) 2 rfl ?_
        refine V_icmpeq 21 33 rfl (show decode M_Model_ride.2.1 18 = .ok (.if_icmp .eq 15, 3) by decide +kernel) rfl ?_ ?_
        · skip
          exact V_sub [] rfl (hJ33 b_2 σ_2)
        · skip
          refine V_iload_n 22 rfl (show decode M_Model_ride.2.1 21 = .ok (.iload_n 3, 1) by decide +kernel) 3 rfl ?_
          refine V_i2l 23 rfl (show decode M_Model_ride.2.1 22 = .ok (.i2l, 1) by decide +kernel) ?_
          refine V_lconst 24 rfl (show decode M_Model_ride.2.1 23 = .ok (.lconst 1, 1) by decide +kernel) (v := 1) rfl ?_
          refine V_ldc2 27 rfl (show decode M_Model_ride.2.1 24 = .ok (.ldc2_w 243, 3) by decide +kernel) wd_1743 ?_
          refine V_callS (tb := tI) (as := [vL ((x3).toInt64), vL (1 : Int64), vL (999 : Int64)]) (rest := []) (na := 3) 30 rfl (s_Model_isIn ((x3).toInt64) (1 : Int64) (999 : Int64) b_2 σ_2) rfl rfl (Nat.le_of_ble_eq_true rfl) (cal_Model_isIn _ _ _ _ _ (by decide) (by decide) (by decide)) (show decode M_Model_ride.2.1 27 = .ok (.invokestatic 76, 3) by decide +kernel) wd_1617 wd_1618 (fun r_3 b_3 σ_3 => ?_)
          show V M_Model_ride 3 0 0 0 0 tI _ 30 [(0, vR h0), (1, vI x1), (2, vI x2), (3, vI x3)] [vI r_3] b_3 σ_3
          refine V_ifne 33 36 rfl (show decode M_Model_ride.2.1 30 = .ok (.ifCond .ne 6, 3) by decide +kernel) rfl ?_ ?_
          · skip
            exact V_sub [] rfl (hJ33 b_3 σ_3)
          · skip
            refine V_aload_n 37 rfl (show decode M_Model_ride.2.1 36 = .ok (.aload_n 0, 1) by decide +kernel) 0 rfl ?_
            refine V_iload_n 38 rfl (show decode M_Model_ride.2.1 37 = .ok (.iload_n 1, 1) by decide +kernel) 1 rfl ?_
            refine V_callV (tb := tI) (as := [vI x1]) (rest := []) (na := 1) 41 rfl ck_Model (by decide) (s_Model_kindOf h0 x1 (b_3 && cK σ_3 h0 13) σ_3) rfl rfl (Nat.le_of_ble_eq_true rfl) (cal_Model_kindOf _ _ _ _ _ (by decide) (by decide) (by decide)) (show decode M_Model_ride.2.1 38 = .ok (.invokevirtual 132, 3) by decide +kernel) wd_1685 wd_1687 wd_123 (fun r_4 b_4 σ_4 => ?_)
            show V M_Model_ride 3 0 0 0 0 tI _ 41 [(0, vR h0), (1, vI x1), (2, vI x2), (3, vI x3)] [vI r_4] b_4 σ_4
            refine V_iconst 42 rfl (show decode M_Model_ride.2.1 41 = .ok (.iconst 3, 1) by decide +kernel) (v := 3) rfl ?_
            refine V_jn (fun (J54 : Bool → Sto → Rs Int32) => ∀ (b : Bool) (σ : Sto), V M_Model_ride 3 0 0 0 0 tI (J54 b σ) 54 [] [] b σ) ?_ (fun J54 hJ54 => ?_)
            · intro b σ
              refine V_ldc 56 rfl (show decode M_Model_ride.2.1 54 = .ok (.ldc 138, 2) by decide +kernel) wd_1692 ?_
              exact V_iret rfl (by decide) (by decide) (show decode M_Model_ride.2.1 56 = .ok (.ireturn, 1) by decide +kernel)
            · skip
              refine V_icmpne 45 54 rfl (show decode M_Model_ride.2.1 42 = .ok (.if_icmp .ne 12, 3) by decide +kernel) rfl ?_ ?_
              · skip
                refine V_aload_n 46 rfl (show decode M_Model_ride.2.1 45 = .ok (.aload_n 0, 1) by decide +kernel) 0 rfl ?_
                refine V_iload_n 47 rfl (show decode M_Model_ride.2.1 46 = .ok (.iload_n 2, 1) by decide +kernel) 2 rfl ?_
                refine V_callV (tb := tI) (as := [vI x2]) (rest := []) (na := 1) 50 rfl ck_Model (by decide) (s_Model_kindOf h0 x2 (b_4 && cK σ_4 h0 13) σ_4) rfl rfl (Nat.le_of_ble_eq_true rfl) (cal_Model_kindOf _ _ _ _ _ (by decide) (by decide) (by decide)) (show decode M_Model_ride.2.1 47 = .ok (.invokevirtual 132, 3) by decide +kernel) wd_1685 wd_1687 wd_123 (fun r_5 b_5 σ_5 => ?_)
                show V M_Model_ride 3 0 0 0 0 tI _ 50 [(0, vR h0), (1, vI x1), (2, vI x2), (3, vI x3)] [vI r_5] b_5 σ_5
                refine V_iconst 51 rfl (show decode M_Model_ride.2.1 50 = .ok (.iconst 3, 1) by decide +kernel) (v := 3) rfl ?_
                refine V_icmpeq 54 57 rfl (show decode M_Model_ride.2.1 51 = .ok (.if_icmp .eq 6, 3) by decide +kernel) rfl ?_ ?_
                · skip
                  refine V_aload_n 58 rfl (show decode M_Model_ride.2.1 57 = .ok (.aload_n 0, 1) by decide +kernel) 0 rfl ?_
                  refine V_get (j := 0) (v := vR (SR σ_5 h0 0)) 61 rfl ck_Model (by decide) (by decide) (show decode M_Model_ride.2.1 58 = .ok (.getfield 7, 3) by decide +kernel) wd_1504 rfl ?_
                  refine V_bipush 63 rfl (show decode M_Model_ride.2.1 61 = .ok (.bipush 8, 2) by decide +kernel) (v := 8) rfl ?_
                  refine V_ald_int 64 rfl (show decode M_Model_ride.2.1 63 = .ok (.iaload, 1) by decide +kernel) ?_
                  refine V_bipush 66 rfl (show decode M_Model_ride.2.1 64 = .ok (.bipush 12, 2) by decide +kernel) (v := 12) rfl ?_
                  refine V_icmpne 69 72 rfl (show decode M_Model_ride.2.1 66 = .ok (.if_icmp .ne 6, 3) by decide +kernel) rfl ?_ ?_
                  · skip
                    refine V_ldc 71 rfl (show decode M_Model_ride.2.1 69 = .ok (.ldc 119, 2) by decide +kernel) wd_1656 ?_
                    exact V_iret rfl (by decide) (by decide) (show decode M_Model_ride.2.1 71 = .ok (.ireturn, 1) by decide +kernel)
                  · skip
                    refine V_sipush 75 rfl (show decode M_Model_ride.2.1 72 = .ok (.sipush 480, 3) by decide +kernel) (v := 480) rfl ?_
                    refine V_iconst 76 rfl (show decode M_Model_ride.2.1 75 = .ok (.iconst 3, 1) by decide +kernel) (v := 3) rfl ?_
                    refine V_aload_n 77 rfl (show decode M_Model_ride.2.1 76 = .ok (.aload_n 0, 1) by decide +kernel) 0 rfl ?_
                    refine V_get (j := 0) (v := vR (SR σ_5 h0 0)) 80 rfl ck_Model (by decide) (by decide) (show decode M_Model_ride.2.1 77 = .ok (.getfield 7, 3) by decide +kernel) wd_1504 rfl ?_
                    refine V_bipush 82 rfl (show decode M_Model_ride.2.1 80 = .ok (.bipush 8, 2) by decide +kernel) (v := 8) rfl ?_
                    refine V_ald_int 83 rfl (show decode M_Model_ride.2.1 82 = .ok (.iaload, 1) by decide +kernel) ?_
                    refine V_imul 84 rfl (show decode M_Model_ride.2.1 83 = .ok (.imul, 1) by decide +kernel) ?_
                    refine V_iadd 85 rfl (show decode M_Model_ride.2.1 84 = .ok (.iadd, 1) by decide +kernel) ?_
                    refine V_istore (fun x4_6 => [(4, vI x4_6), (0, vR h0), (1, vI x1), (2, vI x2), (3, vI x3)]) 87 rfl (show decode M_Model_ride.2.1 85 = .ok (.istore 4, 2) by decide +kernel) (by decide) (fun _ => rfl) (fun x4_6 => ?_)
                    refine V_aload_n 88 rfl (show decode M_Model_ride.2.1 87 = .ok (.aload_n 0, 1) by decide +kernel) 1 rfl ?_
                    refine V_get (j := 0) (v := vR (SR σ_5 h0 0)) 91 rfl ck_Model (by decide) (by decide) (show decode M_Model_ride.2.1 88 = .ok (.getfield 7, 3) by decide +kernel) wd_1504 rfl ?_
                    refine V_iload 93 rfl (show decode M_Model_ride.2.1 91 = .ok (.iload 4, 2) by decide +kernel) 0 rfl ?_
                    refine V_iload_n 94 rfl (show decode M_Model_ride.2.1 93 = .ok (.iload_n 1, 1) by decide +kernel) 2 rfl ?_
                    refine V_ast_int 95 rfl (show decode M_Model_ride.2.1 94 = .ok (.iastore, 1) by decide +kernel) (fun σ_7 => ?_)
                    refine V_aload_n 96 rfl (show decode M_Model_ride.2.1 95 = .ok (.aload_n 0, 1) by decide +kernel) 1 rfl ?_
                    refine V_get (j := 0) (v := vR (SR σ_7 h0 0)) 99 rfl ck_Model (by decide) (by decide) (show decode M_Model_ride.2.1 96 = .ok (.getfield 7, 3) by decide +kernel) wd_1504 rfl ?_
                    refine V_iload 101 rfl (show decode M_Model_ride.2.1 99 = .ok (.iload 4, 2) by decide +kernel) 0 rfl ?_
                    refine V_iconst 102 rfl (show decode M_Model_ride.2.1 101 = .ok (.iconst 1, 1) by decide +kernel) (v := 1) rfl ?_
                    refine V_iadd 103 rfl (show decode M_Model_ride.2.1 102 = .ok (.iadd, 1) by decide +kernel) ?_
                    refine V_iload_n 104 rfl (show decode M_Model_ride.2.1 103 = .ok (.iload_n 2, 1) by decide +kernel) 3 rfl ?_
                    refine V_ast_int 105 rfl (show decode M_Model_ride.2.1 104 = .ok (.iastore, 1) by decide +kernel) (fun σ_8 => ?_)
                    refine V_aload_n 106 rfl (show decode M_Model_ride.2.1 105 = .ok (.aload_n 0, 1) by decide +kernel) 1 rfl ?_
                    refine V_get (j := 0) (v := vR (SR σ_8 h0 0)) 109 rfl ck_Model (by decide) (by decide) (show decode M_Model_ride.2.1 106 = .ok (.getfield 7, 3) by decide +kernel) wd_1504 rfl ?_
                    refine V_iload 111 rfl (show decode M_Model_ride.2.1 109 = .ok (.iload 4, 2) by decide +kernel) 0 rfl ?_
                    refine V_iconst 112 rfl (show decode M_Model_ride.2.1 111 = .ok (.iconst 2, 1) by decide +kernel) (v := 2) rfl ?_
                    refine V_iadd 113 rfl (show decode M_Model_ride.2.1 112 = .ok (.iadd, 1) by decide +kernel) ?_
                    refine V_iload_n 114 rfl (show decode M_Model_ride.2.1 113 = .ok (.iload_n 3, 1) by decide +kernel) 4 rfl ?_
                    refine V_ast_int 115 rfl (show decode M_Model_ride.2.1 114 = .ok (.iastore, 1) by decide +kernel) (fun σ_9 => ?_)
                    refine V_aload_n 116 rfl (show decode M_Model_ride.2.1 115 = .ok (.aload_n 0, 1) by decide +kernel) 1 rfl ?_
                    refine V_get (j := 0) (v := vR (SR σ_9 h0 0)) 119 rfl ck_Model (by decide) (by decide) (show decode M_Model_ride.2.1 116 = .ok (.getfield 7, 3) by decide +kernel) wd_1504 rfl ?_
                    refine V_bipush 121 rfl (show decode M_Model_ride.2.1 119 = .ok (.bipush 8, 2) by decide +kernel) (v := 8) rfl ?_
                    refine V_dup2 122 rfl (show decode M_Model_ride.2.1 121 = .ok (.dup2, 1) by decide +kernel) rfl rfl ?_
                    refine V_ald_int 123 rfl (show decode M_Model_ride.2.1 122 = .ok (.iaload, 1) by decide +kernel) ?_
                    refine V_iconst 124 rfl (show decode M_Model_ride.2.1 123 = .ok (.iconst 1, 1) by decide +kernel) (v := 1) rfl ?_
                    refine V_iadd 125 rfl (show decode M_Model_ride.2.1 124 = .ok (.iadd, 1) by decide +kernel) ?_
                    refine V_ast_int 126 rfl (show decode M_Model_ride.2.1 125 = .ok (.iastore, 1) by decide +kernel) (fun σ_10 => ?_)
                    refine V_aload_n 127 rfl (show decode M_Model_ride.2.1 126 = .ok (.aload_n 0, 1) by decide +kernel) 1 rfl ?_
                    refine V_get (j := 0) (v := vR (SR σ_10 h0 0)) 130 rfl ck_Model (by decide) (by decide) (show decode M_Model_ride.2.1 127 = .ok (.getfield 7, 3) by decide +kernel) wd_1504 rfl ?_
                    refine V_bipush 132 rfl (show decode M_Model_ride.2.1 130 = .ok (.bipush 8, 2) by decide +kernel) (v := 8) rfl ?_
                    refine V_ald_int 133 rfl (show decode M_Model_ride.2.1 132 = .ok (.iaload, 1) by decide +kernel) ?_
                    refine V_iconst 134 rfl (show decode M_Model_ride.2.1 133 = .ok (.iconst 1, 1) by decide +kernel) (v := 1) rfl ?_
                    refine V_isub 135 rfl (show decode M_Model_ride.2.1 134 = .ok (.isub, 1) by decide +kernel) ?_
                    exact V_iret rfl (by decide) (by decide) (show decode M_Model_ride.2.1 135 = .ok (.ireturn, 1) by decide +kernel)
                · skip
                  exact V_sub [] rfl (hJ54 b_5 σ_5)
              · skip
                exact V_sub [] rfl (hJ54 b_4 σ_4)
theorem cal_Model_ride (d mc ms k n : Nat) (h1 : 3 + 1 ≤ d) (h2 : k + 0 ≤ mc) (h3 : n + 0 ≤ ms) : Cal M_Model_ride 3 0 0 3 d mc ms k n := ⟨wd_2005, wd_181, by decide, h1, by decide, h2, h3⟩
abbrev M_Model_round : MD := (⟨"LongTrailModel", "round", "(I)I"⟩, prog_14_method_99_code, 6, (some FieldType.int))
def b_Model_round_34 (h0 : Nat) (x1 : Int32) (x2_3 : Int32) (L34 : Int32 → Int32 → Int32 → Bool → Sto → Rs Int32) (x3 : Int32) (x4 : Int32) (x5 : Int32) (b : Bool) (σ : Sto) : Rs Int32 := (if x5 < x2_3 then (bd_ (f_Model_mileOf h0 (SI σ (SR σ h0 25) (ix x5)) (((b && cK σ h0 13) && cA σ (SR σ h0 25) 21 x5) && cK σ h0 13) σ) (fun (r_7 : Int32) (b_7 : Bool) (σ_7 : Sto) => (bd_ (f_Model_fireAt h0 x1 ((b_7 && cK σ_7 h0 13) && cK σ_7 h0 13) σ_7) (fun (r_8 : Int32) (b_8 : Bool) (σ_8 : Sto) => (lt_ (fun (s0_77 : Int32) (b : Bool) (σ : Sto) => (lt_ s0_77 (fun (x3_9 : Int32) => (lt_ (fun (s0_121 : Int32) (b : Bool) (σ : Sto) => (lt_ s0_121 (fun (x4_10 : Int32) => (lt_ (x5 + (1 : Int32)) (fun (x5_11 : Int32) => (L34 x3_9 x4_10 x5_11 b σ)))))) (fun J121 => (lt_ (fun (b : Bool) (σ : Sto) => (J121 x4 b σ)) (fun J119 => (if x4 < 0 then (bd_ (f_Model_mileOf h0 (SI σ (SR σ h0 25) (ix x5)) (((b && cK σ h0 13) && cA σ (SR σ h0 25) 21 x5) && cK σ h0 13) σ) (fun (r_12 : Int32) (b_12 : Bool) (σ_12 : Sto) => (bd_ (f_Model_fireAt h0 x1 ((b_12 && cK σ_12 h0 13) && cK σ_12 h0 13) σ_12) (fun (r_13 : Int32) (b_13 : Bool) (σ_13 : Sto) => (if r_12 < (SI σ_13 (SR σ_12 h0 0) (ix (r_13 + (1 : Int32)))) then (J119 (b_13 && cA σ_13 (SR σ_12 h0 0) 21 (r_13 + (1 : Int32))) σ_13) else (J121 (SI σ_13 (SR σ_13 h0 25) (ix x5)) (((b_13 && cA σ_13 (SR σ_12 h0 0) 21 (r_13 + (1 : Int32))) && cK σ_13 h0 13) && cA σ_13 (SR σ_13 h0 25) 21 x5) σ_13)))))) else (J119 b σ))))))))) (fun J77 => (if (SI σ_8 (SR σ_7 h0 0) (ix (r_8 + (0 : Int32)))) < r_7 then (J77 x3 (b_8 && cA σ_8 (SR σ_7 h0 0) 21 (r_8 + (0 : Int32))) σ_8) else (J77 (SI σ_8 (SR σ_8 h0 25) (ix x5)) (((b_8 && cA σ_8 (SR σ_7 h0 0) 21 (r_8 + (0 : Int32))) && cK σ_8 h0 13) && cA σ_8 (SR σ_8 h0 25) 21 x5) σ_8)))))))) else (lt_ (fun (b : Bool) (σ : Sto) => ((-1000000005 : Int32), b, σ)) (fun J138 => (if x3 < 0 then (J138 b σ) else (if x4 < 0 then (J138 b σ) else (bd_ (f_Model_rideOf h0 x3 x4 (b && cK σ h0 13) σ) (fun (r_14 : Int32) (b_14 : Bool) (σ_14 : Sto) => (bd_ (f_Model_orNone r_14 b_14 σ_14) (fun (r_15 : Int32) (b_15 : Bool) (σ_15 : Sto) => (r_15, b_15, σ_15))))))))))
def f_Model_round (h0 : Nat) (x1 : Int32) (b : Bool) (σ : Sto) : Rs Int32 := (bd_ (f_Model_isIn ((x1).toInt64) (0 : Int64) ((((SI σ (SR σ h0 0) (ix (3 : Int32))) - (1 : Int32))).toInt64) ((b && cK σ h0 13) && cA σ (SR σ h0 0) 21 (3 : Int32)) σ) (fun (r_1 : Int32) (b_1 : Bool) (σ_1 : Sto) => (if r_1 = 0 then ((-1000000001 : Int32), b_1, σ_1) else (bd_ (f_Model_findTowns h0 (b_1 && cK σ_1 h0 13) σ_1) (fun (r_2 : Int32) (b_2 : Bool) (σ_2 : Sto) => (lt_ r_2 (fun (x2_3 : Int32) => (lt_ (-1 : Int32) (fun (x3_4 : Int32) => (lt_ (-1 : Int32) (fun (x4_5 : Int32) => (lt_ (0 : Int32) (fun (x5_6 : Int32) => (lp_ (b_Model_round_34 h0 x1 x2_3) (fun (x3 : Int32) (x4 : Int32) (x5 : Int32) (b : Bool) (σ : Sto) => (0, false, σ)) fuel_ x3_4 x4_5 x5_6 b_2 σ_2))))))))))))))
set_option maxRecDepth 100000 in
set_option maxHeartbeats 4000000 in
theorem s_Model_round : ∀ (h0 : Nat) (x1 : Int32) (b : Bool) (σ : Sto), Snd M_Model_round 4 0 0 [vR h0, vI x1] b σ (tI (f_Model_round h0 x1 b σ).1) (f_Model_round h0 x1 b σ).2.1 (f_Model_round h0 x1 b σ).2.2 := by
  intro h0 x1 b σ
  refine Snd_of (tv := tI) (by decide) (Nat.le_of_ble_eq_true rfl) ?_
  show V M_Model_round 4 0 0 0 0 tI (f_Model_round h0 x1 b σ) 0 [(0, vR h0), (1, vI x1)] [] b σ
  unfold f_Model_round
  refine V_iload_n 1 rfl (show decode M_Model_round.2.1 0 = .ok (.iload_n 1, 1) by decide +kernel) 1 rfl ?_
  refine V_i2l 2 rfl (show decode M_Model_round.2.1 1 = .ok (.i2l, 1) by decide +kernel) ?_
  refine V_lconst 3 rfl (show decode M_Model_round.2.1 2 = .ok (.lconst 0, 1) by decide +kernel) (v := 0) rfl ?_
  refine V_aload_n 4 rfl (show decode M_Model_round.2.1 3 = .ok (.aload_n 0, 1) by decide +kernel) 0 rfl ?_
  refine V_get (j := 0) (v := vR (SR σ h0 0)) 7 rfl ck_Model (by decide) (by decide) (show decode M_Model_round.2.1 4 = .ok (.getfield 7, 3) by decide +kernel) wd_1504 rfl ?_
  refine V_iconst 8 rfl (show decode M_Model_round.2.1 7 = .ok (.iconst 3, 1) by decide +kernel) (v := 3) rfl ?_
  refine V_ald_int 9 rfl (show decode M_Model_round.2.1 8 = .ok (.iaload, 1) by decide +kernel) ?_
  refine V_iconst 10 rfl (show decode M_Model_round.2.1 9 = .ok (.iconst 1, 1) by decide +kernel) (v := 1) rfl ?_
  refine V_isub 11 rfl (show decode M_Model_round.2.1 10 = .ok (.isub, 1) by decide +kernel) ?_
  refine V_i2l 12 rfl (show decode M_Model_round.2.1 11 = .ok (.i2l, 1) by decide +kernel) ?_
  refine V_callS (tb := tI) (as := [vL ((x1).toInt64), vL (0 : Int64), vL ((((SI σ (SR σ h0 0) (ix (3 : Int32))) - (1 : Int32))).toInt64)]) (rest := []) (na := 3) 15 rfl (s_Model_isIn ((x1).toInt64) (0 : Int64) ((((SI σ (SR σ h0 0) (ix (3 : Int32))) - (1 : Int32))).toInt64) ((b && cK σ h0 13) && cA σ (SR σ h0 0) 21 (3 : Int32)) σ) rfl rfl (Nat.le_of_ble_eq_true rfl) (cal_Model_isIn _ _ _ _ _ (by decide) (by decide) (by decide)) (show decode M_Model_round.2.1 12 = .ok (.invokestatic 76, 3) by decide +kernel) wd_1617 wd_1618 (fun r_1 b_1 σ_1 => ?_)
  show V M_Model_round 4 0 0 0 0 tI _ 15 [(0, vR h0), (1, vI x1)] [vI r_1] b_1 σ_1
  refine V_ifne 18 21 rfl (show decode M_Model_round.2.1 15 = .ok (.ifCond .ne 6, 3) by decide +kernel) rfl ?_ ?_
  · skip
    refine V_ldc 20 rfl (show decode M_Model_round.2.1 18 = .ok (.ldc 91, 2) by decide +kernel) wd_1620 ?_
    exact V_iret rfl (by decide) (by decide) (show decode M_Model_round.2.1 20 = .ok (.ireturn, 1) by decide +kernel)
  · skip
    refine V_aload_n 22 rfl (show decode M_Model_round.2.1 21 = .ok (.aload_n 0, 1) by decide +kernel) 0 rfl ?_
    refine V_callV (tb := tI) (as := []) (rest := []) (na := 0) 25 rfl ck_Model (by decide) (s_Model_findTowns h0 (b_1 && cK σ_1 h0 13) σ_1) rfl rfl (Nat.le_of_ble_eq_true rfl) (cal_Model_findTowns _ _ _ _ _ (by decide) (by decide) (by decide)) (show decode M_Model_round.2.1 22 = .ok (.invokevirtual 347, 3) by decide +kernel) wd_1988 wd_1990 wd_164 (fun r_2 b_2 σ_2 => ?_)
    show V M_Model_round 4 0 0 0 0 tI _ 25 [(0, vR h0), (1, vI x1)] [vI r_2] b_2 σ_2
    refine V_istore_n (fun x2_3 => [(2, vI x2_3), (0, vR h0), (1, vI x1)]) 26 rfl (show decode M_Model_round.2.1 25 = .ok (.istore_n 2, 1) by decide +kernel) (by decide) (fun _ => rfl) (fun x2_3 => ?_)
    refine V_iconst 27 rfl (show decode M_Model_round.2.1 26 = .ok (.iconst (-1), 1) by decide +kernel) (v := -1) rfl ?_
    refine V_istore_n (fun x3_4 => [(3, vI x3_4), (2, vI x2_3), (0, vR h0), (1, vI x1)]) 28 rfl (show decode M_Model_round.2.1 27 = .ok (.istore_n 3, 1) by decide +kernel) (by decide) (fun _ => rfl) (fun x3_4 => ?_)
    refine V_iconst 29 rfl (show decode M_Model_round.2.1 28 = .ok (.iconst (-1), 1) by decide +kernel) (v := -1) rfl ?_
    refine V_istore (fun x4_5 => [(4, vI x4_5), (3, vI x3_4), (2, vI x2_3), (0, vR h0), (1, vI x1)]) 31 rfl (show decode M_Model_round.2.1 29 = .ok (.istore 4, 2) by decide +kernel) (by decide) (fun _ => rfl) (fun x4_5 => ?_)
    refine V_iconst 32 rfl (show decode M_Model_round.2.1 31 = .ok (.iconst 0, 1) by decide +kernel) (v := 0) rfl ?_
    refine V_istore (fun x5_6 => [(5, vI x5_6), (4, vI x4_5), (3, vI x3_4), (2, vI x2_3), (0, vR h0), (1, vI x1)]) 34 rfl (show decode M_Model_round.2.1 32 = .ok (.istore 5, 2) by decide +kernel) (by decide) (fun _ => rfl) (fun x5_6 => ?_)
    refine V_sub [4, 5, 3, 2, 1, 0] rfl ?_
    refine lp_P (fun (L34 : Int32 → Int32 → Int32 → Bool → Sto → Rs Int32) => ∀ (x3 : Int32) (x4 : Int32) (x5 : Int32) (b : Bool) (σ : Sto), V M_Model_round 4 0 0 0 0 tI (L34 x3 x4 x5 b σ) 34 [(0, vR h0), (1, vI x1), (2, vI x2_3), (3, vI x3), (4, vI x4), (5, vI x5)] [] b σ) ?_ ?_ fuel_ x3_4 x4_5 x5_6 b_2 σ_2
    · intro x3 x4 x5 b σ; exact V_bad
    · intro L34 hL34 x3 x4 x5 b σ
      unfold b_Model_round_34
      refine V_iload 36 rfl (show decode M_Model_round.2.1 34 = .ok (.iload 5, 2) by decide +kernel) 5 rfl ?_
      refine V_iload_n 37 rfl (show decode M_Model_round.2.1 36 = .ok (.iload_n 2, 1) by decide +kernel) 2 rfl ?_
      refine V_icmpge 40 129 rfl (show decode M_Model_round.2.1 37 = .ok (.if_icmp .ge 92, 3) by decide +kernel) rfl ?_ ?_
      · skip
        refine V_aload_n 41 rfl (show decode M_Model_round.2.1 40 = .ok (.aload_n 0, 1) by decide +kernel) 0 rfl ?_
        refine V_aload_n 42 rfl (show decode M_Model_round.2.1 41 = .ok (.aload_n 0, 1) by decide +kernel) 0 rfl ?_
        refine V_get (j := 25) (v := vR (SR σ h0 25)) 45 rfl ck_Model (by decide) (by decide) (show decode M_Model_round.2.1 42 = .ok (.getfield 47, 3) by decide +kernel) wd_1529 rfl ?_
        refine V_iload 47 rfl (show decode M_Model_round.2.1 45 = .ok (.iload 5, 2) by decide +kernel) 5 rfl ?_
        refine V_ald_int 48 rfl (show decode M_Model_round.2.1 47 = .ok (.iaload, 1) by decide +kernel) ?_
        refine V_callV (tb := tI) (as := [vI (SI σ (SR σ h0 25) (ix x5))]) (rest := []) (na := 1) 51 rfl ck_Model (by decide) (s_Model_mileOf h0 (SI σ (SR σ h0 25) (ix x5)) (((b && cK σ h0 13) && cA σ (SR σ h0 25) 21 x5) && cK σ h0 13) σ) rfl rfl (Nat.le_of_ble_eq_true rfl) (cal_Model_mileOf _ _ _ _ _ (by decide) (by decide) (by decide)) (show decode M_Model_round.2.1 48 = .ok (.invokevirtual 92, 3) by decide +kernel) wd_1621 wd_1623 wd_112 (fun r_7 b_7 σ_7 => ?_)
        show V M_Model_round 4 0 0 0 0 tI _ 51 [(0, vR h0), (1, vI x1), (2, vI x2_3), (3, vI x3), (4, vI x4), (5, vI x5)] [vI r_7] b_7 σ_7
        refine V_aload_n 52 rfl (show decode M_Model_round.2.1 51 = .ok (.aload_n 0, 1) by decide +kernel) 0 rfl ?_
        refine V_get (j := 0) (v := vR (SR σ_7 h0 0)) 55 rfl ck_Model (by decide) (by decide) (show decode M_Model_round.2.1 52 = .ok (.getfield 7, 3) by decide +kernel) wd_1504 rfl ?_
        refine V_aload_n 56 rfl (show decode M_Model_round.2.1 55 = .ok (.aload_n 0, 1) by decide +kernel) 0 rfl ?_
        refine V_iload_n 57 rfl (show decode M_Model_round.2.1 56 = .ok (.iload_n 1, 1) by decide +kernel) 1 rfl ?_
        refine V_callV (tb := tI) (as := [vI x1]) (rest := [vR (SR σ_7 h0 0), vI r_7]) (na := 1) 60 rfl ck_Model (by decide) (s_Model_fireAt h0 x1 ((b_7 && cK σ_7 h0 13) && cK σ_7 h0 13) σ_7) rfl rfl (Nat.le_of_ble_eq_true rfl) (cal_Model_fireAt _ _ _ _ _ (by decide) (by decide) (by decide)) (show decode M_Model_round.2.1 57 = .ok (.invokevirtual 95, 3) by decide +kernel) wd_1629 wd_1631 wd_114 (fun r_8 b_8 σ_8 => ?_)
        show V M_Model_round 4 0 0 0 0 tI _ 60 [(0, vR h0), (1, vI x1), (2, vI x2_3), (3, vI x3), (4, vI x4), (5, vI x5)] [vI r_8, vR (SR σ_7 h0 0), vI r_7] b_8 σ_8
        refine V_iconst 61 rfl (show decode M_Model_round.2.1 60 = .ok (.iconst 0, 1) by decide +kernel) (v := 0) rfl ?_
        refine V_iadd 62 rfl (show decode M_Model_round.2.1 61 = .ok (.iadd, 1) by decide +kernel) ?_
        refine V_ald_int 63 rfl (show decode M_Model_round.2.1 62 = .ok (.iaload, 1) by decide +kernel) ?_
        refine V_jn (fun (J77 : Int32 → Bool → Sto → Rs Int32) => ∀ (s0_77 : Int32) (b : Bool) (σ : Sto), V M_Model_round 4 0 0 0 0 tI (J77 s0_77 b σ) 77 [(0, vR h0), (1, vI x1), (2, vI x2_3), (4, vI x4), (5, vI x5)] [vI s0_77] b σ) ?_ (fun J77 hJ77 => ?_)
        · intro s0_77 b σ
          refine V_istore_n (fun x3_9 => [(3, vI x3_9), (0, vR h0), (1, vI x1), (2, vI x2_3), (4, vI x4), (5, vI x5)]) 78 rfl (show decode M_Model_round.2.1 77 = .ok (.istore_n 3, 1) by decide +kernel) (by decide) (fun _ => rfl) (fun x3_9 => ?_)
          refine V_iload 80 rfl (show decode M_Model_round.2.1 78 = .ok (.iload 4, 2) by decide +kernel) 4 rfl ?_
          refine V_jn (fun (J121 : Int32 → Bool → Sto → Rs Int32) => ∀ (s0_121 : Int32) (b : Bool) (σ : Sto), V M_Model_round 4 0 0 0 0 tI (J121 s0_121 b σ) 121 [(0, vR h0), (1, vI x1), (2, vI x2_3), (3, vI x3_9), (5, vI x5)] [vI s0_121] b σ) ?_ (fun J121 hJ121 => ?_)
          · intro s0_121 b σ
            refine V_istore (fun x4_10 => [(4, vI x4_10), (0, vR h0), (1, vI x1), (2, vI x2_3), (3, vI x3_9), (5, vI x5)]) 123 rfl (show decode M_Model_round.2.1 121 = .ok (.istore 4, 2) by decide +kernel) (by decide) (fun _ => rfl) (fun x4_10 => ?_)
            refine V_iinc (fun x5_11 => [(5, vI x5_11), (4, vI x4_10), (0, vR h0), (1, vI x1), (2, vI x2_3), (3, vI x3_9)]) 126 rfl (show decode M_Model_round.2.1 123 = .ok (.iinc 5 1, 3) by decide +kernel) 5 rfl (w := 1) rfl (by decide) (fun _ => rfl) (fun x5_11 => ?_)
            refine V_goto 34 (show decode M_Model_round.2.1 126 = .ok (.goto (-92), 3) by decide +kernel) rfl ?_
            exact V_sub [2, 3, 4, 5, 1, 0] rfl (hL34 x3_9 x4_10 x5_11 b σ)
          · skip
            refine V_jn (fun (J119 : Bool → Sto → Rs Int32) => ∀ (b : Bool) (σ : Sto), V M_Model_round 4 0 0 0 0 tI (J119 b σ) 119 [(0, vR h0), (1, vI x1), (2, vI x2_3), (3, vI x3_9), (4, vI x4), (5, vI x5)] [] b σ) ?_ (fun J119 hJ119 => ?_)
            · intro b σ
              refine V_iload 121 rfl (show decode M_Model_round.2.1 119 = .ok (.iload 4, 2) by decide +kernel) 4 rfl ?_
              exact V_sub [0, 1, 2, 3, 5] rfl (hJ121 x4 b σ)
            · skip
              refine V_ifge 83 119 rfl (show decode M_Model_round.2.1 80 = .ok (.ifCond .ge 39, 3) by decide +kernel) rfl ?_ ?_
              · skip
                refine V_aload_n 84 rfl (show decode M_Model_round.2.1 83 = .ok (.aload_n 0, 1) by decide +kernel) 1 rfl ?_
                refine V_aload_n 85 rfl (show decode M_Model_round.2.1 84 = .ok (.aload_n 0, 1) by decide +kernel) 1 rfl ?_
                refine V_get (j := 25) (v := vR (SR σ h0 25)) 88 rfl ck_Model (by decide) (by decide) (show decode M_Model_round.2.1 85 = .ok (.getfield 47, 3) by decide +kernel) wd_1529 rfl ?_
                refine V_iload 90 rfl (show decode M_Model_round.2.1 88 = .ok (.iload 5, 2) by decide +kernel) 5 rfl ?_
                refine V_ald_int 91 rfl (show decode M_Model_round.2.1 90 = .ok (.iaload, 1) by decide +kernel) ?_
                refine V_callV (tb := tI) (as := [vI (SI σ (SR σ h0 25) (ix x5))]) (rest := []) (na := 1) 94 rfl ck_Model (by decide) (s_Model_mileOf h0 (SI σ (SR σ h0 25) (ix x5)) (((b && cK σ h0 13) && cA σ (SR σ h0 25) 21 x5) && cK σ h0 13) σ) rfl rfl (Nat.le_of_ble_eq_true rfl) (cal_Model_mileOf _ _ _ _ _ (by decide) (by decide) (by decide)) (show decode M_Model_round.2.1 91 = .ok (.invokevirtual 92, 3) by decide +kernel) wd_1621 wd_1623 wd_112 (fun r_12 b_12 σ_12 => ?_)
                show V M_Model_round 4 0 0 0 0 tI _ 94 [(3, vI x3_9), (0, vR h0), (1, vI x1), (2, vI x2_3), (4, vI x4), (5, vI x5)] [vI r_12] b_12 σ_12
                refine V_aload_n 95 rfl (show decode M_Model_round.2.1 94 = .ok (.aload_n 0, 1) by decide +kernel) 1 rfl ?_
                refine V_get (j := 0) (v := vR (SR σ_12 h0 0)) 98 rfl ck_Model (by decide) (by decide) (show decode M_Model_round.2.1 95 = .ok (.getfield 7, 3) by decide +kernel) wd_1504 rfl ?_
                refine V_aload_n 99 rfl (show decode M_Model_round.2.1 98 = .ok (.aload_n 0, 1) by decide +kernel) 1 rfl ?_
                refine V_iload_n 100 rfl (show decode M_Model_round.2.1 99 = .ok (.iload_n 1, 1) by decide +kernel) 2 rfl ?_
                refine V_callV (tb := tI) (as := [vI x1]) (rest := [vR (SR σ_12 h0 0), vI r_12]) (na := 1) 103 rfl ck_Model (by decide) (s_Model_fireAt h0 x1 ((b_12 && cK σ_12 h0 13) && cK σ_12 h0 13) σ_12) rfl rfl (Nat.le_of_ble_eq_true rfl) (cal_Model_fireAt _ _ _ _ _ (by decide) (by decide) (by decide)) (show decode M_Model_round.2.1 100 = .ok (.invokevirtual 95, 3) by decide +kernel) wd_1629 wd_1631 wd_114 (fun r_13 b_13 σ_13 => ?_)
                show V M_Model_round 4 0 0 0 0 tI _ 103 [(3, vI x3_9), (0, vR h0), (1, vI x1), (2, vI x2_3), (4, vI x4), (5, vI x5)] [vI r_13, vR (SR σ_12 h0 0), vI r_12] b_13 σ_13
                refine V_iconst 104 rfl (show decode M_Model_round.2.1 103 = .ok (.iconst 1, 1) by decide +kernel) (v := 1) rfl ?_
                refine V_iadd 105 rfl (show decode M_Model_round.2.1 104 = .ok (.iadd, 1) by decide +kernel) ?_
                refine V_ald_int 106 rfl (show decode M_Model_round.2.1 105 = .ok (.iaload, 1) by decide +kernel) ?_
                refine V_icmplt 109 119 rfl (show decode M_Model_round.2.1 106 = .ok (.if_icmp .lt 13, 3) by decide +kernel) rfl ?_ ?_
                · skip
                  exact V_sub [1, 2, 3, 0, 4, 5] rfl (hJ119 (b_13 && cA σ_13 (SR σ_12 h0 0) 21 (r_13 + (1 : Int32))) σ_13)
                · skip
                  refine V_aload_n 110 rfl (show decode M_Model_round.2.1 109 = .ok (.aload_n 0, 1) by decide +kernel) 1 rfl ?_
                  refine V_get (j := 25) (v := vR (SR σ_13 h0 25)) 113 rfl ck_Model (by decide) (by decide) (show decode M_Model_round.2.1 110 = .ok (.getfield 47, 3) by decide +kernel) wd_1529 rfl ?_
                  refine V_iload 115 rfl (show decode M_Model_round.2.1 113 = .ok (.iload 5, 2) by decide +kernel) 5 rfl ?_
                  refine V_ald_int 116 rfl (show decode M_Model_round.2.1 115 = .ok (.iaload, 1) by decide +kernel) ?_
                  refine V_goto 121 (show decode M_Model_round.2.1 116 = .ok (.goto 5, 3) by decide +kernel) rfl ?_
                  exact V_sub [1, 2, 3, 0, 5] rfl (hJ121 (SI σ_13 (SR σ_13 h0 25) (ix x5)) (((b_13 && cA σ_13 (SR σ_12 h0 0) 21 (r_13 + (1 : Int32))) && cK σ_13 h0 13) && cA σ_13 (SR σ_13 h0 25) 21 x5) σ_13)
              · skip
                exact V_sub [1, 2, 3, 0, 4, 5] rfl (hJ119 b σ)
        · skip
          refine V_icmpgt 66 76 rfl (show decode M_Model_round.2.1 63 = .ok (.if_icmp .gt 13, 3) by decide +kernel) rfl ?_ ?_
          · skip
            refine V_iload_n 77 rfl (show decode M_Model_round.2.1 76 = .ok (.iload_n 3, 1) by decide +kernel) 3 rfl ?_
            exact V_sub [0, 1, 2, 4, 5] rfl (hJ77 x3 (b_8 && cA σ_8 (SR σ_7 h0 0) 21 (r_8 + (0 : Int32))) σ_8)
          · skip
            refine V_aload_n 67 rfl (show decode M_Model_round.2.1 66 = .ok (.aload_n 0, 1) by decide +kernel) 0 rfl ?_
            refine V_get (j := 25) (v := vR (SR σ_8 h0 25)) 70 rfl ck_Model (by decide) (by decide) (show decode M_Model_round.2.1 67 = .ok (.getfield 47, 3) by decide +kernel) wd_1529 rfl ?_
            refine V_iload 72 rfl (show decode M_Model_round.2.1 70 = .ok (.iload 5, 2) by decide +kernel) 5 rfl ?_
            refine V_ald_int 73 rfl (show decode M_Model_round.2.1 72 = .ok (.iaload, 1) by decide +kernel) ?_
            refine V_goto 77 (show decode M_Model_round.2.1 73 = .ok (.goto 4, 3) by decide +kernel) rfl ?_
            exact V_sub [0, 1, 2, 4, 5] rfl (hJ77 (SI σ_8 (SR σ_8 h0 25) (ix x5)) (((b_8 && cA σ_8 (SR σ_7 h0 0) 21 (r_8 + (0 : Int32))) && cK σ_8 h0 13) && cA σ_8 (SR σ_8 h0 25) 21 x5) σ_8)
      · skip
        refine V_iload_n 130 rfl (show decode M_Model_round.2.1 129 = .ok (.iload_n 3, 1) by decide +kernel) 3 rfl ?_
        refine V_jn (fun (J138 : Bool → Sto → Rs Int32) => ∀ (b : Bool) (σ : Sto), V M_Model_round 4 0 0 0 0 tI (J138 b σ) 138 [] [] b σ) ?_ (fun J138 hJ138 => ?_)
        · intro b σ
          refine V_ldc 140 rfl (show decode M_Model_round.2.1 138 = .ok (.ldc 75, 2) by decide +kernel) wd_1703 ?_
          refine V_goto 153 (show decode M_Model_round.2.1 140 = .ok (.goto 13, 3) by decide +kernel) rfl ?_
          exact V_iret rfl (by decide) (by decide) (show decode M_Model_round.2.1 153 = .ok (.ireturn, 1) by decide +kernel)
        · skip
          refine V_iflt 133 138 rfl (show decode M_Model_round.2.1 130 = .ok (.ifCond .lt 8, 3) by decide +kernel) rfl ?_ ?_
          · skip
            exact V_sub [] rfl (hJ138 b σ)
          · skip
            refine V_iload 135 rfl (show decode M_Model_round.2.1 133 = .ok (.iload 4, 2) by decide +kernel) 4 rfl ?_
            refine V_ifge 138 143 rfl (show decode M_Model_round.2.1 135 = .ok (.ifCond .ge 8, 3) by decide +kernel) rfl ?_ ?_
            · skip
              exact V_sub [] rfl (hJ138 b σ)
            · skip
              refine V_aload_n 144 rfl (show decode M_Model_round.2.1 143 = .ok (.aload_n 0, 1) by decide +kernel) 0 rfl ?_
              refine V_iload_n 145 rfl (show decode M_Model_round.2.1 144 = .ok (.iload_n 3, 1) by decide +kernel) 3 rfl ?_
              refine V_iload 147 rfl (show decode M_Model_round.2.1 145 = .ok (.iload 4, 2) by decide +kernel) 4 rfl ?_
              refine V_callV (tb := tI) (as := [vI x3, vI x4]) (rest := []) (na := 2) 150 rfl ck_Model (by decide) (s_Model_rideOf h0 x3 x4 (b && cK σ h0 13) σ) rfl rfl (Nat.le_of_ble_eq_true rfl) (cal_Model_rideOf _ _ _ _ _ (by decide) (by decide) (by decide)) (show decode M_Model_round.2.1 147 = .ok (.invokevirtual 358, 3) by decide +kernel) wd_2010 wd_2012 wd_166 (fun r_14 b_14 σ_14 => ?_)
              show V M_Model_round 4 0 0 0 0 tI _ 150 [(0, vR h0), (1, vI x1), (2, vI x2_3), (3, vI x3), (4, vI x4), (5, vI x5)] [vI r_14] b_14 σ_14
              refine V_callS (tb := tI) (as := [vI r_14]) (rest := []) (na := 1) 153 rfl (s_Model_orNone r_14 b_14 σ_14) rfl rfl (Nat.le_of_ble_eq_true rfl) (cal_Model_orNone _ _ _ _ _ (by decide) (by decide) (by decide)) (show decode M_Model_round.2.1 150 = .ok (.invokestatic 143, 3) by decide +kernel) wd_1704 wd_1705 (fun r_15 b_15 σ_15 => ?_)
              show V M_Model_round 4 0 0 0 0 tI _ 153 [(0, vR h0), (1, vI x1), (2, vI x2_3), (3, vI x3), (4, vI x4), (5, vI x5)] [vI r_15] b_15 σ_15
              exact V_iret rfl (by decide) (by decide) (show decode M_Model_round.2.1 153 = .ok (.ireturn, 1) by decide +kernel)
theorem cal_Model_round (d mc ms k n : Nat) (h1 : 4 + 1 ≤ d) (h2 : k + 0 ≤ mc) (h3 : n + 0 ≤ ms) : Cal M_Model_round 4 0 0 1 d mc ms k n := ⟨wd_2018, wd_181, by decide, h1, by decide, h2, h3⟩
abbrev M_Model_run : MD := (⟨"LongTrailModel", "run", "(I)I"⟩, prog_14_method_80_code, 3, (some FieldType.int))
def b_Model_run_34 (h0 : Nat) (x1 : Int32) (L34 : Int32 → Bool → Sto → Rs Int32) (x2 : Int32) (b : Bool) (σ : Sto) : Rs Int32 := (if x2 < x1 then (bd_ (f_Model_oneDay h0 (b && cK σ h0 13) σ) (fun (r_3 : Unit) (b_3 : Bool) (σ_3 : Sto) => (lt_ (x2 + (1 : Int32)) (fun (x2_4 : Int32) => (L34 x2_4 b_3 σ_3))))) else ((SI σ (SR σ h0 0) (ix (0 : Int32))), ((b && cK σ h0 13) && cA σ (SR σ h0 0) 21 (0 : Int32)), σ))
def f_Model_run (h0 : Nat) (x1 : Int32) (b : Bool) (σ : Sto) : Rs Int32 := (bd_ (f_Model_isIn ((x1).toInt64) (1 : Int64) (60 : Int64) b σ) (fun (r_1 : Int32) (b_1 : Bool) (σ_1 : Sto) => (if r_1 = 0 then ((-1000000001 : Int32), b_1, σ_1) else (if (999 : Int32) < ((SI σ_1 (SR σ_1 h0 0) (ix (0 : Int32))) + x1) then ((-1000000003 : Int32), ((b_1 && cK σ_1 h0 13) && cA σ_1 (SR σ_1 h0 0) 21 (0 : Int32)), σ_1) else (lt_ (0 : Int32) (fun (x2_2 : Int32) => (lp_ (b_Model_run_34 h0 x1) (fun (x2 : Int32) (b : Bool) (σ : Sto) => (0, false, σ)) fuel_ x2_2 ((b_1 && cK σ_1 h0 13) && cA σ_1 (SR σ_1 h0 0) 21 (0 : Int32)) σ_1)))))))
set_option maxRecDepth 100000 in
set_option maxHeartbeats 4000000 in
theorem s_Model_run : ∀ (h0 : Nat) (x1 : Int32) (b : Bool) (σ : Sto), Snd M_Model_run 8 0 0 [vR h0, vI x1] b σ (tI (f_Model_run h0 x1 b σ).1) (f_Model_run h0 x1 b σ).2.1 (f_Model_run h0 x1 b σ).2.2 := by
  intro h0 x1 b σ
  refine Snd_of (tv := tI) (by decide) (Nat.le_of_ble_eq_true rfl) ?_
  show V M_Model_run 8 0 0 0 0 tI (f_Model_run h0 x1 b σ) 0 [(0, vR h0), (1, vI x1)] [] b σ
  unfold f_Model_run
  refine V_iload_n 1 rfl (show decode M_Model_run.2.1 0 = .ok (.iload_n 1, 1) by decide +kernel) 1 rfl ?_
  refine V_i2l 2 rfl (show decode M_Model_run.2.1 1 = .ok (.i2l, 1) by decide +kernel) ?_
  refine V_lconst 3 rfl (show decode M_Model_run.2.1 2 = .ok (.lconst 1, 1) by decide +kernel) (v := 1) rfl ?_
  refine V_ldc2 6 rfl (show decode M_Model_run.2.1 3 = .ok (.ldc2_w 322, 3) by decide +kernel) wd_1886 ?_
  refine V_callS (tb := tI) (as := [vL ((x1).toInt64), vL (1 : Int64), vL (60 : Int64)]) (rest := []) (na := 3) 9 rfl (s_Model_isIn ((x1).toInt64) (1 : Int64) (60 : Int64) b σ) rfl rfl (Nat.le_of_ble_eq_true rfl) (cal_Model_isIn _ _ _ _ _ (by decide) (by decide) (by decide)) (show decode M_Model_run.2.1 6 = .ok (.invokestatic 76, 3) by decide +kernel) wd_1617 wd_1618 (fun r_1 b_1 σ_1 => ?_)
  show V M_Model_run 8 0 0 0 0 tI _ 9 [(0, vR h0), (1, vI x1)] [vI r_1] b_1 σ_1
  refine V_ifne 12 15 rfl (show decode M_Model_run.2.1 9 = .ok (.ifCond .ne 6, 3) by decide +kernel) rfl ?_ ?_
  · skip
    refine V_ldc 14 rfl (show decode M_Model_run.2.1 12 = .ok (.ldc 91, 2) by decide +kernel) wd_1620 ?_
    exact V_iret rfl (by decide) (by decide) (show decode M_Model_run.2.1 14 = .ok (.ireturn, 1) by decide +kernel)
  · skip
    refine V_aload_n 16 rfl (show decode M_Model_run.2.1 15 = .ok (.aload_n 0, 1) by decide +kernel) 0 rfl ?_
    refine V_get (j := 0) (v := vR (SR σ_1 h0 0)) 19 rfl ck_Model (by decide) (by decide) (show decode M_Model_run.2.1 16 = .ok (.getfield 7, 3) by decide +kernel) wd_1504 rfl ?_
    refine V_iconst 20 rfl (show decode M_Model_run.2.1 19 = .ok (.iconst 0, 1) by decide +kernel) (v := 0) rfl ?_
    refine V_ald_int 21 rfl (show decode M_Model_run.2.1 20 = .ok (.iaload, 1) by decide +kernel) ?_
    refine V_iload_n 22 rfl (show decode M_Model_run.2.1 21 = .ok (.iload_n 1, 1) by decide +kernel) 1 rfl ?_
    refine V_iadd 23 rfl (show decode M_Model_run.2.1 22 = .ok (.iadd, 1) by decide +kernel) ?_
    refine V_sipush 26 rfl (show decode M_Model_run.2.1 23 = .ok (.sipush 999, 3) by decide +kernel) (v := 999) rfl ?_
    refine V_icmple 29 32 rfl (show decode M_Model_run.2.1 26 = .ok (.if_icmp .le 6, 3) by decide +kernel) rfl ?_ ?_
    · skip
      refine V_ldc 31 rfl (show decode M_Model_run.2.1 29 = .ok (.ldc 119, 2) by decide +kernel) wd_1656 ?_
      exact V_iret rfl (by decide) (by decide) (show decode M_Model_run.2.1 31 = .ok (.ireturn, 1) by decide +kernel)
    · skip
      refine V_iconst 33 rfl (show decode M_Model_run.2.1 32 = .ok (.iconst 0, 1) by decide +kernel) (v := 0) rfl ?_
      refine V_istore_n (fun x2_2 => [(2, vI x2_2), (0, vR h0), (1, vI x1)]) 34 rfl (show decode M_Model_run.2.1 33 = .ok (.istore_n 2, 1) by decide +kernel) (by decide) (fun _ => rfl) (fun x2_2 => ?_)
      refine V_sub [1, 2, 0] rfl ?_
      refine lp_P (fun (L34 : Int32 → Bool → Sto → Rs Int32) => ∀ (x2 : Int32) (b : Bool) (σ : Sto), V M_Model_run 8 0 0 0 0 tI (L34 x2 b σ) 34 [(0, vR h0), (1, vI x1), (2, vI x2)] [] b σ) ?_ ?_ fuel_ x2_2 ((b_1 && cK σ_1 h0 13) && cA σ_1 (SR σ_1 h0 0) 21 (0 : Int32)) σ_1
      · intro x2 b σ; exact V_bad
      · intro L34 hL34 x2 b σ
        unfold b_Model_run_34
        refine V_iload_n 35 rfl (show decode M_Model_run.2.1 34 = .ok (.iload_n 2, 1) by decide +kernel) 2 rfl ?_
        refine V_iload_n 36 rfl (show decode M_Model_run.2.1 35 = .ok (.iload_n 1, 1) by decide +kernel) 1 rfl ?_
        refine V_icmpge 39 49 rfl (show decode M_Model_run.2.1 36 = .ok (.if_icmp .ge 13, 3) by decide +kernel) rfl ?_ ?_
        · skip
          refine V_aload_n 40 rfl (show decode M_Model_run.2.1 39 = .ok (.aload_n 0, 1) by decide +kernel) 0 rfl ?_
          refine V_callV (tb := tU) (as := []) (rest := []) (na := 0) 43 rfl ck_Model (by decide) (s_Model_oneDay h0 (b && cK σ h0 13) σ) rfl rfl (Nat.le_of_ble_eq_true rfl) (cal_Model_oneDay _ _ _ _ _ (by decide) (by decide) (by decide)) (show decode M_Model_run.2.1 40 = .ok (.invokevirtual 324, 3) by decide +kernel) wd_1887 wd_1889 wd_147 (fun r_3 b_3 σ_3 => ?_)
          show V M_Model_run 8 0 0 0 0 tI _ 43 [(0, vR h0), (1, vI x1), (2, vI x2)] [] b_3 σ_3
          refine V_iinc (fun x2_4 => [(2, vI x2_4), (0, vR h0), (1, vI x1)]) 46 rfl (show decode M_Model_run.2.1 43 = .ok (.iinc 2 1, 3) by decide +kernel) 2 rfl (w := 1) rfl (by decide) (fun _ => rfl) (fun x2_4 => ?_)
          refine V_goto 34 (show decode M_Model_run.2.1 46 = .ok (.goto (-12), 3) by decide +kernel) rfl ?_
          exact V_sub [1, 2, 0] rfl (hL34 x2_4 b_3 σ_3)
        · skip
          refine V_aload_n 50 rfl (show decode M_Model_run.2.1 49 = .ok (.aload_n 0, 1) by decide +kernel) 0 rfl ?_
          refine V_get (j := 0) (v := vR (SR σ h0 0)) 53 rfl ck_Model (by decide) (by decide) (show decode M_Model_run.2.1 50 = .ok (.getfield 7, 3) by decide +kernel) wd_1504 rfl ?_
          refine V_iconst 54 rfl (show decode M_Model_run.2.1 53 = .ok (.iconst 0, 1) by decide +kernel) (v := 0) rfl ?_
          refine V_ald_int 55 rfl (show decode M_Model_run.2.1 54 = .ok (.iaload, 1) by decide +kernel) ?_
          exact V_iret rfl (by decide) (by decide) (show decode M_Model_run.2.1 55 = .ok (.ireturn, 1) by decide +kernel)
theorem cal_Model_run (d mc ms k n : Nat) (h1 : 8 + 1 ≤ d) (h2 : k + 0 ≤ mc) (h3 : n + 0 ≤ ms) : Cal M_Model_run 8 0 0 1 d mc ms k n := ⟨wd_1885, wd_181, by decide, h1, by decide, h2, h3⟩
abbrev M_Model_send : MD := (⟨"LongTrailModel", "send", "(III)I"⟩, prog_14_method_67_code, 5, (some FieldType.int))
def f_Model_send (h0 : Nat) (x1 : Int32) (x2 : Int32) (x3 : Int32) (b : Bool) (σ : Sto) : Rs Int32 := (bd_ (f_Model_isIn ((x1).toInt64) (0 : Int64) ((((SI σ (SR σ h0 0) (ix (6 : Int32))) - (1 : Int32))).toInt64) ((b && cK σ h0 13) && cA σ (SR σ h0 0) 21 (6 : Int32)) σ) (fun (r_1 : Int32) (b_1 : Bool) (σ_1 : Sto) => (lt_ (fun (b : Bool) (σ : Sto) => ((-1000000001 : Int32), b, σ)) (fun J39 => (if r_1 = 0 then (J39 b_1 σ_1) else (bd_ (f_Model_isPlace h0 x2 (b_1 && cK σ_1 h0 13) σ_1) (fun (r_2 : Int32) (b_2 : Bool) (σ_2 : Sto) => (if r_2 = 0 then (J39 b_2 σ_2) else (bd_ (f_Model_isIn ((x3).toInt64) (0 : Int64) (99 : Int64) b_2 σ_2) (fun (r_3 : Int32) (b_3 : Bool) (σ_3 : Sto) => (if r_3 = 0 then (J39 b_3 σ_3) else (bd_ (f_Model_kindOf h0 x2 (b_3 && cK σ_3 h0 13) σ_3) (fun (r_4 : Int32) (b_4 : Bool) (σ_4 : Sto) => (if r_4 = (3 : Int32) then (bd_ (f_Model_boxAt h0 x1 (b_4 && cK σ_4 h0 13) σ_4) (fun (r_5 : Int32) (b_5 : Bool) (σ_5 : Sto) => (lt_ r_5 (fun (x4_6 : Int32) => (if (SI σ_5 (SR σ_5 h0 0) (ix (x4_6 + (4 : Int32)))) = 0 then (lt_ (pI σ_5 (SR σ_5 h0 0) (ix (x4_6 + (1 : Int32))) x2) (fun (σ_7 : Sto) => (lt_ (pI σ_7 (SR σ_7 h0 0) (ix (x4_6 + (3 : Int32))) ((SI σ_7 (SR σ_7 h0 0) (ix (0 : Int32))) + x3)) (fun (σ_8 : Sto) => ((1 : Int32), ((((((((b_5 && cK σ_5 h0 13) && cA σ_5 (SR σ_5 h0 0) 21 (x4_6 + (4 : Int32))) && cK σ_5 h0 13) && cA σ_5 (SR σ_5 h0 0) 21 (x4_6 + (1 : Int32))) && cK σ_7 h0 13) && cK σ_7 h0 13) && cA σ_7 (SR σ_7 h0 0) 21 (0 : Int32)) && cA σ_7 (SR σ_7 h0 0) 21 (x4_6 + (3 : Int32))), σ_8))))) else ((-1000000002 : Int32), ((b_5 && cK σ_5 h0 13) && cA σ_5 (SR σ_5 h0 0) 21 (x4_6 + (4 : Int32))), σ_5)))))) else ((-1000000012 : Int32), b_4, σ_4)))))))))))))))
set_option maxRecDepth 100000 in
set_option maxHeartbeats 4000000 in
theorem s_Model_send : ∀ (h0 : Nat) (x1 : Int32) (x2 : Int32) (x3 : Int32) (b : Bool) (σ : Sto), Snd M_Model_send 3 0 0 [vR h0, vI x1, vI x2, vI x3] b σ (tI (f_Model_send h0 x1 x2 x3 b σ).1) (f_Model_send h0 x1 x2 x3 b σ).2.1 (f_Model_send h0 x1 x2 x3 b σ).2.2 := by
  intro h0 x1 x2 x3 b σ
  refine Snd_of (tv := tI) (by decide) (Nat.le_of_ble_eq_true rfl) ?_
  show V M_Model_send 3 0 0 0 0 tI (f_Model_send h0 x1 x2 x3 b σ) 0 [(0, vR h0), (1, vI x1), (2, vI x2), (3, vI x3)] [] b σ
  unfold f_Model_send
  refine V_iload_n 1 rfl (show decode M_Model_send.2.1 0 = .ok (.iload_n 1, 1) by decide +kernel) 1 rfl ?_
  refine V_i2l 2 rfl (show decode M_Model_send.2.1 1 = .ok (.i2l, 1) by decide +kernel) ?_
  refine V_lconst 3 rfl (show decode M_Model_send.2.1 2 = .ok (.lconst 0, 1) by decide +kernel) (v := 0) rfl ?_
  refine V_aload_n 4 rfl (show decode M_Model_send.2.1 3 = .ok (.aload_n 0, 1) by decide +kernel) 0 rfl ?_
  refine V_get (j := 0) (v := vR (SR σ h0 0)) 7 rfl ck_Model (by decide) (by decide) (show decode M_Model_send.2.1 4 = .ok (.getfield 7, 3) by decide +kernel) wd_1504 rfl ?_
  refine V_bipush 9 rfl (show decode M_Model_send.2.1 7 = .ok (.bipush 6, 2) by decide +kernel) (v := 6) rfl ?_
  refine V_ald_int 10 rfl (show decode M_Model_send.2.1 9 = .ok (.iaload, 1) by decide +kernel) ?_
  refine V_iconst 11 rfl (show decode M_Model_send.2.1 10 = .ok (.iconst 1, 1) by decide +kernel) (v := 1) rfl ?_
  refine V_isub 12 rfl (show decode M_Model_send.2.1 11 = .ok (.isub, 1) by decide +kernel) ?_
  refine V_i2l 13 rfl (show decode M_Model_send.2.1 12 = .ok (.i2l, 1) by decide +kernel) ?_
  refine V_callS (tb := tI) (as := [vL ((x1).toInt64), vL (0 : Int64), vL ((((SI σ (SR σ h0 0) (ix (6 : Int32))) - (1 : Int32))).toInt64)]) (rest := []) (na := 3) 16 rfl (s_Model_isIn ((x1).toInt64) (0 : Int64) ((((SI σ (SR σ h0 0) (ix (6 : Int32))) - (1 : Int32))).toInt64) ((b && cK σ h0 13) && cA σ (SR σ h0 0) 21 (6 : Int32)) σ) rfl rfl (Nat.le_of_ble_eq_true rfl) (cal_Model_isIn _ _ _ _ _ (by decide) (by decide) (by decide)) (show decode M_Model_send.2.1 13 = .ok (.invokestatic 76, 3) by decide +kernel) wd_1617 wd_1618 (fun r_1 b_1 σ_1 => ?_)
  show V M_Model_send 3 0 0 0 0 tI _ 16 [(0, vR h0), (1, vI x1), (2, vI x2), (3, vI x3)] [vI r_1] b_1 σ_1
  refine V_jn (fun (J39 : Bool → Sto → Rs Int32) => ∀ (b : Bool) (σ : Sto), V M_Model_send 3 0 0 0 0 tI (J39 b σ) 39 [] [] b σ) ?_ (fun J39 hJ39 => ?_)
  · intro b σ
    refine V_ldc 41 rfl (show decode M_Model_send.2.1 39 = .ok (.ldc 91, 2) by decide +kernel) wd_1620 ?_
    exact V_iret rfl (by decide) (by decide) (show decode M_Model_send.2.1 41 = .ok (.ireturn, 1) by decide +kernel)
  · skip
    refine V_ifeq 19 39 rfl (show decode M_Model_send.2.1 16 = .ok (.ifCond .eq 23, 3) by decide +kernel) rfl ?_ ?_
    · skip
      exact V_sub [] rfl (hJ39 b_1 σ_1)
    · skip
      refine V_aload_n 20 rfl (show decode M_Model_send.2.1 19 = .ok (.aload_n 0, 1) by decide +kernel) 0 rfl ?_
      refine V_iload_n 21 rfl (show decode M_Model_send.2.1 20 = .ok (.iload_n 2, 1) by decide +kernel) 2 rfl ?_
      refine V_callV (tb := tI) (as := [vI x2]) (rest := []) (na := 1) 24 rfl ck_Model (by decide) (s_Model_isPlace h0 x2 (b_1 && cK σ_1 h0 13) σ_1) rfl rfl (Nat.le_of_ble_eq_true rfl) (cal_Model_isPlace _ _ _ _ _ (by decide) (by decide) (by decide)) (show decode M_Model_send.2.1 21 = .ok (.invokevirtual 123, 3) by decide +kernel) wd_1661 wd_1663 wd_118 (fun r_2 b_2 σ_2 => ?_)
      show V M_Model_send 3 0 0 0 0 tI _ 24 [(0, vR h0), (1, vI x1), (2, vI x2), (3, vI x3)] [vI r_2] b_2 σ_2
      refine V_ifeq 27 39 rfl (show decode M_Model_send.2.1 24 = .ok (.ifCond .eq 15, 3) by decide +kernel) rfl ?_ ?_
      · skip
        exact V_sub [] rfl (hJ39 b_2 σ_2)
      · skip
        refine V_iload_n 28 rfl (show decode M_Model_send.2.1 27 = .ok (.iload_n 3, 1) by decide +kernel) 3 rfl ?_
        refine V_i2l 29 rfl (show decode M_Model_send.2.1 28 = .ok (.i2l, 1) by decide +kernel) ?_
        refine V_lconst 30 rfl (show decode M_Model_send.2.1 29 = .ok (.lconst 0, 1) by decide +kernel) (v := 0) rfl ?_
        refine V_ldc2 33 rfl (show decode M_Model_send.2.1 30 = .ok (.ldc2_w 260, 3) by decide +kernel) wd_1832 ?_
        refine V_callS (tb := tI) (as := [vL ((x3).toInt64), vL (0 : Int64), vL (99 : Int64)]) (rest := []) (na := 3) 36 rfl (s_Model_isIn ((x3).toInt64) (0 : Int64) (99 : Int64) b_2 σ_2) rfl rfl (Nat.le_of_ble_eq_true rfl) (cal_Model_isIn _ _ _ _ _ (by decide) (by decide) (by decide)) (show decode M_Model_send.2.1 33 = .ok (.invokestatic 76, 3) by decide +kernel) wd_1617 wd_1618 (fun r_3 b_3 σ_3 => ?_)
        show V M_Model_send 3 0 0 0 0 tI _ 36 [(0, vR h0), (1, vI x1), (2, vI x2), (3, vI x3)] [vI r_3] b_3 σ_3
        refine V_ifne 39 42 rfl (show decode M_Model_send.2.1 36 = .ok (.ifCond .ne 6, 3) by decide +kernel) rfl ?_ ?_
        · skip
          exact V_sub [] rfl (hJ39 b_3 σ_3)
        · skip
          refine V_aload_n 43 rfl (show decode M_Model_send.2.1 42 = .ok (.aload_n 0, 1) by decide +kernel) 0 rfl ?_
          refine V_iload_n 44 rfl (show decode M_Model_send.2.1 43 = .ok (.iload_n 2, 1) by decide +kernel) 2 rfl ?_
          refine V_callV (tb := tI) (as := [vI x2]) (rest := []) (na := 1) 47 rfl ck_Model (by decide) (s_Model_kindOf h0 x2 (b_3 && cK σ_3 h0 13) σ_3) rfl rfl (Nat.le_of_ble_eq_true rfl) (cal_Model_kindOf _ _ _ _ _ (by decide) (by decide) (by decide)) (show decode M_Model_send.2.1 44 = .ok (.invokevirtual 132, 3) by decide +kernel) wd_1685 wd_1687 wd_123 (fun r_4 b_4 σ_4 => ?_)
          show V M_Model_send 3 0 0 0 0 tI _ 47 [(0, vR h0), (1, vI x1), (2, vI x2), (3, vI x3)] [vI r_4] b_4 σ_4
          refine V_iconst 48 rfl (show decode M_Model_send.2.1 47 = .ok (.iconst 3, 1) by decide +kernel) (v := 3) rfl ?_
          refine V_icmpeq 51 54 rfl (show decode M_Model_send.2.1 48 = .ok (.if_icmp .eq 6, 3) by decide +kernel) rfl ?_ ?_
          · skip
            refine V_aload_n 55 rfl (show decode M_Model_send.2.1 54 = .ok (.aload_n 0, 1) by decide +kernel) 0 rfl ?_
            refine V_iload_n 56 rfl (show decode M_Model_send.2.1 55 = .ok (.iload_n 1, 1) by decide +kernel) 1 rfl ?_
            refine V_callV (tb := tI) (as := [vI x1]) (rest := []) (na := 1) 59 rfl ck_Model (by decide) (s_Model_boxAt h0 x1 (b_4 && cK σ_4 h0 13) σ_4) rfl rfl (Nat.le_of_ble_eq_true rfl) (cal_Model_boxAt _ _ _ _ _ (by decide) (by decide) (by decide)) (show decode M_Model_send.2.1 56 = .ok (.invokevirtual 129, 3) by decide +kernel) wd_1677 wd_1679 wd_122 (fun r_5 b_5 σ_5 => ?_)
            show V M_Model_send 3 0 0 0 0 tI _ 59 [(0, vR h0), (1, vI x1), (2, vI x2), (3, vI x3)] [vI r_5] b_5 σ_5
            refine V_istore (fun x4_6 => [(4, vI x4_6), (0, vR h0), (1, vI x1), (2, vI x2), (3, vI x3)]) 61 rfl (show decode M_Model_send.2.1 59 = .ok (.istore 4, 2) by decide +kernel) (by decide) (fun _ => rfl) (fun x4_6 => ?_)
            refine V_aload_n 62 rfl (show decode M_Model_send.2.1 61 = .ok (.aload_n 0, 1) by decide +kernel) 1 rfl ?_
            refine V_get (j := 0) (v := vR (SR σ_5 h0 0)) 65 rfl ck_Model (by decide) (by decide) (show decode M_Model_send.2.1 62 = .ok (.getfield 7, 3) by decide +kernel) wd_1504 rfl ?_
            refine V_iload 67 rfl (show decode M_Model_send.2.1 65 = .ok (.iload 4, 2) by decide +kernel) 0 rfl ?_
            refine V_iconst 68 rfl (show decode M_Model_send.2.1 67 = .ok (.iconst 4, 1) by decide +kernel) (v := 4) rfl ?_
            refine V_iadd 69 rfl (show decode M_Model_send.2.1 68 = .ok (.iadd, 1) by decide +kernel) ?_
            refine V_ald_int 70 rfl (show decode M_Model_send.2.1 69 = .ok (.iaload, 1) by decide +kernel) ?_
            refine V_ifeq 73 76 rfl (show decode M_Model_send.2.1 70 = .ok (.ifCond .eq 6, 3) by decide +kernel) rfl ?_ ?_
            · skip
              refine V_aload_n 77 rfl (show decode M_Model_send.2.1 76 = .ok (.aload_n 0, 1) by decide +kernel) 1 rfl ?_
              refine V_get (j := 0) (v := vR (SR σ_5 h0 0)) 80 rfl ck_Model (by decide) (by decide) (show decode M_Model_send.2.1 77 = .ok (.getfield 7, 3) by decide +kernel) wd_1504 rfl ?_
              refine V_iload 82 rfl (show decode M_Model_send.2.1 80 = .ok (.iload 4, 2) by decide +kernel) 0 rfl ?_
              refine V_iconst 83 rfl (show decode M_Model_send.2.1 82 = .ok (.iconst 1, 1) by decide +kernel) (v := 1) rfl ?_
              refine V_iadd 84 rfl (show decode M_Model_send.2.1 83 = .ok (.iadd, 1) by decide +kernel) ?_
              refine V_iload_n 85 rfl (show decode M_Model_send.2.1 84 = .ok (.iload_n 2, 1) by decide +kernel) 3 rfl ?_
              refine V_ast_int 86 rfl (show decode M_Model_send.2.1 85 = .ok (.iastore, 1) by decide +kernel) (fun σ_7 => ?_)
              refine V_aload_n 87 rfl (show decode M_Model_send.2.1 86 = .ok (.aload_n 0, 1) by decide +kernel) 1 rfl ?_
              refine V_get (j := 0) (v := vR (SR σ_7 h0 0)) 90 rfl ck_Model (by decide) (by decide) (show decode M_Model_send.2.1 87 = .ok (.getfield 7, 3) by decide +kernel) wd_1504 rfl ?_
              refine V_iload 92 rfl (show decode M_Model_send.2.1 90 = .ok (.iload 4, 2) by decide +kernel) 0 rfl ?_
              refine V_iconst 93 rfl (show decode M_Model_send.2.1 92 = .ok (.iconst 3, 1) by decide +kernel) (v := 3) rfl ?_
              refine V_iadd 94 rfl (show decode M_Model_send.2.1 93 = .ok (.iadd, 1) by decide +kernel) ?_
              refine V_aload_n 95 rfl (show decode M_Model_send.2.1 94 = .ok (.aload_n 0, 1) by decide +kernel) 1 rfl ?_
              refine V_get (j := 0) (v := vR (SR σ_7 h0 0)) 98 rfl ck_Model (by decide) (by decide) (show decode M_Model_send.2.1 95 = .ok (.getfield 7, 3) by decide +kernel) wd_1504 rfl ?_
              refine V_iconst 99 rfl (show decode M_Model_send.2.1 98 = .ok (.iconst 0, 1) by decide +kernel) (v := 0) rfl ?_
              refine V_ald_int 100 rfl (show decode M_Model_send.2.1 99 = .ok (.iaload, 1) by decide +kernel) ?_
              refine V_iload_n 101 rfl (show decode M_Model_send.2.1 100 = .ok (.iload_n 3, 1) by decide +kernel) 4 rfl ?_
              refine V_iadd 102 rfl (show decode M_Model_send.2.1 101 = .ok (.iadd, 1) by decide +kernel) ?_
              refine V_ast_int 103 rfl (show decode M_Model_send.2.1 102 = .ok (.iastore, 1) by decide +kernel) (fun σ_8 => ?_)
              refine V_iconst 104 rfl (show decode M_Model_send.2.1 103 = .ok (.iconst 1, 1) by decide +kernel) (v := 1) rfl ?_
              exact V_iret rfl (by decide) (by decide) (show decode M_Model_send.2.1 104 = .ok (.ireturn, 1) by decide +kernel)
            · skip
              refine V_ldc 75 rfl (show decode M_Model_send.2.1 73 = .ok (.ldc 98, 2) by decide +kernel) wd_1633 ?_
              exact V_iret rfl (by decide) (by decide) (show decode M_Model_send.2.1 75 = .ok (.ireturn, 1) by decide +kernel)
          · skip
            refine V_ldc 53 rfl (show decode M_Model_send.2.1 51 = .ok (.ldc 138, 2) by decide +kernel) wd_1692 ?_
            exact V_iret rfl (by decide) (by decide) (show decode M_Model_send.2.1 53 = .ok (.ireturn, 1) by decide +kernel)
theorem cal_Model_send (d mc ms k n : Nat) (h1 : 3 + 1 ≤ d) (h2 : k + 0 ≤ mc) (h3 : n + 0 ≤ ms) : Cal M_Model_send 3 0 0 3 d mc ms k n := ⟨wd_1876, wd_181, by decide, h1, by decide, h2, h3⟩
abbrev M_Model_sheet : MD := (⟨"LongTrailModel", "sheet", "(III)I"⟩, prog_14_method_105_code, 5, (some FieldType.int))
def b_Model_sheet_71 (h0 : Nat) (x1 : Int32) (L71 : Int32 → Bool → Sto → Rs Int32) (x4 : Int32) (b : Bool) (σ : Sto) : Rs Int32 := (if x4 < (24 : Int32) then (lt_ (pL σ (SR σ h0 6) (ix (((24 : Int32) * x1) + x4)) (0 : Int64)) (fun (σ_6 : Sto) => (lt_ (x4 + (1 : Int32)) (fun (x4_7 : Int32) => (L71 x4_7 ((b && cK σ h0 13) && cA σ (SR σ h0 6) 23 (((24 : Int32) * x1) + x4)) σ_6))))) else ((SI σ (SR σ h0 5) (ix x1)), ((b && cK σ h0 13) && cA σ (SR σ h0 5) 21 x1), σ))
def f_Model_sheet (h0 : Nat) (x1 : Int32) (x2 : Int32) (x3 : Int32) (b : Bool) (σ : Sto) : Rs Int32 := (bd_ (f_Model_isSheet x1 b σ) (fun (r_1 : Int32) (b_1 : Bool) (σ_1 : Sto) => (lt_ (fun (b : Bool) (σ : Sto) => ((-1000000001 : Int32), b, σ)) (fun J31 => (if r_1 = 0 then (J31 b_1 σ_1) else (bd_ (f_Model_isIn ((x2).toInt64) (-1 : Int64) (2 : Int64) b_1 σ_1) (fun (r_2 : Int32) (b_2 : Bool) (σ_2 : Sto) => (if r_2 = 0 then (J31 b_2 σ_2) else (lt_ (fun (b : Bool) (σ : Sto) => (lt_ (fun (b : Bool) (σ : Sto) => (lt_ (pI σ (SR σ h0 4) (ix x1) x2) (fun (σ_3 : Sto) => (lt_ (fun (s0_67 : Int32) (s1_67 : Int32) (s2_67 : Nat) (b : Bool) (σ : Sto) => (lt_ (pI σ s2_67 (ix s1_67) s0_67) (fun (σ_4 : Sto) => (lt_ (0 : Int32) (fun (x4_5 : Int32) => (lp_ (b_Model_sheet_71 h0 x1) (fun (x4 : Int32) (b : Bool) (σ : Sto) => (0, false, σ)) fuel_ x4_5 (b && cA σ s2_67 21 s1_67) σ_4)))))) (fun J67 => (if x2 < 0 then (J67 (0 : Int32) x1 (SR σ_3 h0 5) (((b && cK σ h0 13) && cA σ (SR σ h0 4) 21 x1) && cK σ_3 h0 13) σ_3) else (J67 x3 x1 (SR σ_3 h0 5) (((b && cK σ h0 13) && cA σ (SR σ h0 4) 21 x1) && cK σ_3 h0 13) σ_3))))))) (fun J46 => (if x2 < 0 then (J46 b σ) else (if x3 < 0 then ((-1000000014 : Int32), b, σ) else (J46 b σ)))))) (fun J34 => (if x2 < 0 then (J34 b_2 σ_2) else (if (24 : Int32) < x3 then (J31 b_2 σ_2) else (J34 b_2 σ_2)))))))))))))
set_option maxRecDepth 100000 in
set_option maxHeartbeats 4000000 in
theorem s_Model_sheet : ∀ (h0 : Nat) (x1 : Int32) (x2 : Int32) (x3 : Int32) (b : Bool) (σ : Sto), Snd M_Model_sheet 3 0 0 [vR h0, vI x1, vI x2, vI x3] b σ (tI (f_Model_sheet h0 x1 x2 x3 b σ).1) (f_Model_sheet h0 x1 x2 x3 b σ).2.1 (f_Model_sheet h0 x1 x2 x3 b σ).2.2 := by
  intro h0 x1 x2 x3 b σ
  refine Snd_of (tv := tI) (by decide) (Nat.le_of_ble_eq_true rfl) ?_
  show V M_Model_sheet 3 0 0 0 0 tI (f_Model_sheet h0 x1 x2 x3 b σ) 0 [(0, vR h0), (1, vI x1), (2, vI x2), (3, vI x3)] [] b σ
  unfold f_Model_sheet
  refine V_iload_n 1 rfl (show decode M_Model_sheet.2.1 0 = .ok (.iload_n 1, 1) by decide +kernel) 1 rfl ?_
  refine V_callS (tb := tI) (as := [vI x1]) (rest := []) (na := 1) 4 rfl (s_Model_isSheet x1 b σ) rfl rfl (Nat.le_of_ble_eq_true rfl) (cal_Model_isSheet _ _ _ _ _ (by decide) (by decide) (by decide)) (show decode M_Model_sheet.2.1 1 = .ok (.invokestatic 367, 3) by decide +kernel) wd_2039 wd_2040 (fun r_1 b_1 σ_1 => ?_)
  show V M_Model_sheet 3 0 0 0 0 tI _ 4 [(0, vR h0), (1, vI x1), (2, vI x2), (3, vI x3)] [vI r_1] b_1 σ_1
  refine V_jn (fun (J31 : Bool → Sto → Rs Int32) => ∀ (b : Bool) (σ : Sto), V M_Model_sheet 3 0 0 0 0 tI (J31 b σ) 31 [] [] b σ) ?_ (fun J31 hJ31 => ?_)
  · intro b σ
    refine V_ldc 33 rfl (show decode M_Model_sheet.2.1 31 = .ok (.ldc 91, 2) by decide +kernel) wd_1620 ?_
    exact V_iret rfl (by decide) (by decide) (show decode M_Model_sheet.2.1 33 = .ok (.ireturn, 1) by decide +kernel)
  · skip
    refine V_ifeq 7 31 rfl (show decode M_Model_sheet.2.1 4 = .ok (.ifCond .eq 27, 3) by decide +kernel) rfl ?_ ?_
    · skip
      exact V_sub [] rfl (hJ31 b_1 σ_1)
    · skip
      refine V_iload_n 8 rfl (show decode M_Model_sheet.2.1 7 = .ok (.iload_n 2, 1) by decide +kernel) 2 rfl ?_
      refine V_i2l 9 rfl (show decode M_Model_sheet.2.1 8 = .ok (.i2l, 1) by decide +kernel) ?_
      refine V_ldc2 12 rfl (show decode M_Model_sheet.2.1 9 = .ok (.ldc2_w 370, 3) by decide +kernel) wd_2042 ?_
      refine V_ldc2 15 rfl (show decode M_Model_sheet.2.1 12 = .ok (.ldc2_w 345, 3) by decide +kernel) wd_1987 ?_
      refine V_callS (tb := tI) (as := [vL ((x2).toInt64), vL (-1 : Int64), vL (2 : Int64)]) (rest := []) (na := 3) 18 rfl (s_Model_isIn ((x2).toInt64) (-1 : Int64) (2 : Int64) b_1 σ_1) rfl rfl (Nat.le_of_ble_eq_true rfl) (cal_Model_isIn _ _ _ _ _ (by decide) (by decide) (by decide)) (show decode M_Model_sheet.2.1 15 = .ok (.invokestatic 76, 3) by decide +kernel) wd_1617 wd_1618 (fun r_2 b_2 σ_2 => ?_)
      show V M_Model_sheet 3 0 0 0 0 tI _ 18 [(0, vR h0), (1, vI x1), (2, vI x2), (3, vI x3)] [vI r_2] b_2 σ_2
      refine V_ifeq 21 31 rfl (show decode M_Model_sheet.2.1 18 = .ok (.ifCond .eq 13, 3) by decide +kernel) rfl ?_ ?_
      · skip
        exact V_sub [] rfl (hJ31 b_2 σ_2)
      · skip
        refine V_iload_n 22 rfl (show decode M_Model_sheet.2.1 21 = .ok (.iload_n 2, 1) by decide +kernel) 2 rfl ?_
        refine V_jn (fun (J34 : Bool → Sto → Rs Int32) => ∀ (b : Bool) (σ : Sto), V M_Model_sheet 3 0 0 0 0 tI (J34 b σ) 34 [(0, vR h0), (1, vI x1), (2, vI x2), (3, vI x3)] [] b σ) ?_ (fun J34 hJ34 => ?_)
        · intro b σ
          refine V_iload_n 35 rfl (show decode M_Model_sheet.2.1 34 = .ok (.iload_n 2, 1) by decide +kernel) 2 rfl ?_
          refine V_jn (fun (J46 : Bool → Sto → Rs Int32) => ∀ (b : Bool) (σ : Sto), V M_Model_sheet 3 0 0 0 0 tI (J46 b σ) 46 [(0, vR h0), (1, vI x1), (2, vI x2), (3, vI x3)] [] b σ) ?_ (fun J46 hJ46 => ?_)
          · intro b σ
            refine V_aload_n 47 rfl (show decode M_Model_sheet.2.1 46 = .ok (.aload_n 0, 1) by decide +kernel) 0 rfl ?_
            refine V_get (j := 4) (v := vR (SR σ h0 4)) 50 rfl ck_Model (by decide) (by decide) (show decode M_Model_sheet.2.1 47 = .ok (.getfield 19, 3) by decide +kernel) wd_1508 rfl ?_
            refine V_iload_n 51 rfl (show decode M_Model_sheet.2.1 50 = .ok (.iload_n 1, 1) by decide +kernel) 1 rfl ?_
            refine V_iload_n 52 rfl (show decode M_Model_sheet.2.1 51 = .ok (.iload_n 2, 1) by decide +kernel) 2 rfl ?_
            refine V_ast_int 53 rfl (show decode M_Model_sheet.2.1 52 = .ok (.iastore, 1) by decide +kernel) (fun σ_3 => ?_)
            refine V_aload_n 54 rfl (show decode M_Model_sheet.2.1 53 = .ok (.aload_n 0, 1) by decide +kernel) 0 rfl ?_
            refine V_get (j := 5) (v := vR (SR σ_3 h0 5)) 57 rfl ck_Model (by decide) (by decide) (show decode M_Model_sheet.2.1 54 = .ok (.getfield 22, 3) by decide +kernel) wd_1509 rfl ?_
            refine V_iload_n 58 rfl (show decode M_Model_sheet.2.1 57 = .ok (.iload_n 1, 1) by decide +kernel) 1 rfl ?_
            refine V_iload_n 59 rfl (show decode M_Model_sheet.2.1 58 = .ok (.iload_n 2, 1) by decide +kernel) 2 rfl ?_
            refine V_jn (fun (J67 : Int32 → Int32 → Nat → Bool → Sto → Rs Int32) => ∀ (s0_67 : Int32) (s1_67 : Int32) (s2_67 : Nat) (b : Bool) (σ : Sto), V M_Model_sheet 3 0 0 0 0 tI (J67 s0_67 s1_67 s2_67 b σ) 67 [(0, vR h0), (1, vI x1)] [vI s0_67, vI s1_67, vR s2_67] b σ) ?_ (fun J67 hJ67 => ?_)
            · intro s0_67 s1_67 s2_67 b σ
              refine V_ast_int 68 rfl (show decode M_Model_sheet.2.1 67 = .ok (.iastore, 1) by decide +kernel) (fun σ_4 => ?_)
              refine V_iconst 69 rfl (show decode M_Model_sheet.2.1 68 = .ok (.iconst 0, 1) by decide +kernel) (v := 0) rfl ?_
              refine V_istore (fun x4_5 => [(4, vI x4_5), (0, vR h0), (1, vI x1)]) 71 rfl (show decode M_Model_sheet.2.1 69 = .ok (.istore 4, 2) by decide +kernel) (by decide) (fun _ => rfl) (fun x4_5 => ?_)
              refine V_sub [1, 2, 0] rfl ?_
              refine lp_P (fun (L71 : Int32 → Bool → Sto → Rs Int32) => ∀ (x4 : Int32) (b : Bool) (σ : Sto), V M_Model_sheet 3 0 0 0 0 tI (L71 x4 b σ) 71 [(0, vR h0), (1, vI x1), (4, vI x4)] [] b σ) ?_ ?_ fuel_ x4_5 (b && cA σ s2_67 21 s1_67) σ_4
              · intro x4 b σ; exact V_bad
              · intro L71 hL71 x4 b σ
                unfold b_Model_sheet_71
                refine V_iload 73 rfl (show decode M_Model_sheet.2.1 71 = .ok (.iload 4, 2) by decide +kernel) 2 rfl ?_
                refine V_bipush 75 rfl (show decode M_Model_sheet.2.1 73 = .ok (.bipush 24, 2) by decide +kernel) (v := 24) rfl ?_
                refine V_icmpge 78 97 rfl (show decode M_Model_sheet.2.1 75 = .ok (.if_icmp .ge 22, 3) by decide +kernel) rfl ?_ ?_
                · skip
                  refine V_aload_n 79 rfl (show decode M_Model_sheet.2.1 78 = .ok (.aload_n 0, 1) by decide +kernel) 0 rfl ?_
                  refine V_get (j := 6) (v := vR (SR σ h0 6)) 82 rfl ck_Model (by decide) (by decide) (show decode M_Model_sheet.2.1 79 = .ok (.getfield 25, 3) by decide +kernel) wd_1510 rfl ?_
                  refine V_bipush 84 rfl (show decode M_Model_sheet.2.1 82 = .ok (.bipush 24, 2) by decide +kernel) (v := 24) rfl ?_
                  refine V_iload_n 85 rfl (show decode M_Model_sheet.2.1 84 = .ok (.iload_n 1, 1) by decide +kernel) 1 rfl ?_
                  refine V_imul 86 rfl (show decode M_Model_sheet.2.1 85 = .ok (.imul, 1) by decide +kernel) ?_
                  refine V_iload 88 rfl (show decode M_Model_sheet.2.1 86 = .ok (.iload 4, 2) by decide +kernel) 2 rfl ?_
                  refine V_iadd 89 rfl (show decode M_Model_sheet.2.1 88 = .ok (.iadd, 1) by decide +kernel) ?_
                  refine V_lconst 90 rfl (show decode M_Model_sheet.2.1 89 = .ok (.lconst 0, 1) by decide +kernel) (v := 0) rfl ?_
                  refine V_ast_long 91 rfl (show decode M_Model_sheet.2.1 90 = .ok (.lastore, 1) by decide +kernel) (fun σ_6 => ?_)
                  refine V_iinc (fun x4_7 => [(4, vI x4_7), (0, vR h0), (1, vI x1)]) 94 rfl (show decode M_Model_sheet.2.1 91 = .ok (.iinc 4 1, 3) by decide +kernel) 2 rfl (w := 1) rfl (by decide) (fun _ => rfl) (fun x4_7 => ?_)
                  refine V_goto 71 (show decode M_Model_sheet.2.1 94 = .ok (.goto (-23), 3) by decide +kernel) rfl ?_
                  exact V_sub [1, 2, 0] rfl (hL71 x4_7 ((b && cK σ h0 13) && cA σ (SR σ h0 6) 23 (((24 : Int32) * x1) + x4)) σ_6)
                · skip
                  refine V_aload_n 98 rfl (show decode M_Model_sheet.2.1 97 = .ok (.aload_n 0, 1) by decide +kernel) 0 rfl ?_
                  refine V_get (j := 5) (v := vR (SR σ h0 5)) 101 rfl ck_Model (by decide) (by decide) (show decode M_Model_sheet.2.1 98 = .ok (.getfield 22, 3) by decide +kernel) wd_1509 rfl ?_
                  refine V_iload_n 102 rfl (show decode M_Model_sheet.2.1 101 = .ok (.iload_n 1, 1) by decide +kernel) 1 rfl ?_
                  refine V_ald_int 103 rfl (show decode M_Model_sheet.2.1 102 = .ok (.iaload, 1) by decide +kernel) ?_
                  exact V_iret rfl (by decide) (by decide) (show decode M_Model_sheet.2.1 103 = .ok (.ireturn, 1) by decide +kernel)
            · skip
              refine V_ifge 62 66 rfl (show decode M_Model_sheet.2.1 59 = .ok (.ifCond .ge 7, 3) by decide +kernel) rfl ?_ ?_
              · skip
                refine V_iconst 63 rfl (show decode M_Model_sheet.2.1 62 = .ok (.iconst 0, 1) by decide +kernel) (v := 0) rfl ?_
                refine V_goto 67 (show decode M_Model_sheet.2.1 63 = .ok (.goto 4, 3) by decide +kernel) rfl ?_
                exact V_sub [0, 1] rfl (hJ67 (0 : Int32) x1 (SR σ_3 h0 5) (((b && cK σ h0 13) && cA σ (SR σ h0 4) 21 x1) && cK σ_3 h0 13) σ_3)
              · skip
                refine V_iload_n 67 rfl (show decode M_Model_sheet.2.1 66 = .ok (.iload_n 3, 1) by decide +kernel) 3 rfl ?_
                exact V_sub [0, 1] rfl (hJ67 x3 x1 (SR σ_3 h0 5) (((b && cK σ h0 13) && cA σ (SR σ h0 4) 21 x1) && cK σ_3 h0 13) σ_3)
          · skip
            refine V_iflt 38 46 rfl (show decode M_Model_sheet.2.1 35 = .ok (.ifCond .lt 11, 3) by decide +kernel) rfl ?_ ?_
            · skip
              exact V_sub [0, 1, 2, 3] rfl (hJ46 b σ)
            · skip
              refine V_iload_n 39 rfl (show decode M_Model_sheet.2.1 38 = .ok (.iload_n 3, 1) by decide +kernel) 3 rfl ?_
              refine V_ifge 42 46 rfl (show decode M_Model_sheet.2.1 39 = .ok (.ifCond .ge 7, 3) by decide +kernel) rfl ?_ ?_
              · skip
                refine V_ldcw 45 rfl (show decode M_Model_sheet.2.1 42 = .ok (.ldc_w 372, 3) by decide +kernel) wd_2043 ?_
                exact V_iret rfl (by decide) (by decide) (show decode M_Model_sheet.2.1 45 = .ok (.ireturn, 1) by decide +kernel)
              · skip
                exact V_sub [0, 1, 2, 3] rfl (hJ46 b σ)
        · skip
          refine V_iflt 25 34 rfl (show decode M_Model_sheet.2.1 22 = .ok (.ifCond .lt 12, 3) by decide +kernel) rfl ?_ ?_
          · skip
            exact V_sub [0, 1, 2, 3] rfl (hJ34 b_2 σ_2)
          · skip
            refine V_iload_n 26 rfl (show decode M_Model_sheet.2.1 25 = .ok (.iload_n 3, 1) by decide +kernel) 3 rfl ?_
            refine V_bipush 28 rfl (show decode M_Model_sheet.2.1 26 = .ok (.bipush 24, 2) by decide +kernel) (v := 24) rfl ?_
            refine V_icmple 31 34 rfl (show decode M_Model_sheet.2.1 28 = .ok (.if_icmp .le 6, 3) by decide +kernel) rfl ?_ ?_
            · skip
              exact V_sub [] rfl (hJ31 b_2 σ_2)
            · skip
              exact V_sub [0, 1, 2, 3] rfl (hJ34 b_2 σ_2)
theorem cal_Model_sheet (d mc ms k n : Nat) (h1 : 3 + 1 ≤ d) (h2 : k + 0 ≤ mc) (h3 : n + 0 ≤ ms) : Cal M_Model_sheet 3 0 0 3 d mc ms k n := ⟨wd_2038, wd_181, by decide, h1, by decide, h2, h3⟩
abbrev M_Model_shoes : MD := (⟨"LongTrailModel", "shoes", "(I)I"⟩, prog_14_method_62_code, 3, (some FieldType.int))
def f_Model_shoes (h0 : Nat) (x1 : Int32) (b : Bool) (σ : Sto) : Rs Int32 := (bd_ (f_Model_isWalker h0 x1 (b && cK σ h0 13) σ) (fun (r_1 : Int32) (b_1 : Bool) (σ_1 : Sto) => (if r_1 = 0 then ((-1000000001 : Int32), b_1, σ_1) else (bd_ (f_Model_walkerAt h0 x1 ((b_1 && cK σ_1 h0 13) && cK σ_1 h0 13) σ_1) (fun (r_2 : Int32) (b_2 : Bool) (σ_2 : Sto) => (bd_ (f_Model_placeOn h0 (SI σ_2 (SR σ_1 h0 0) (ix (r_2 + (1 : Int32)))) ((b_2 && cA σ_2 (SR σ_1 h0 0) 21 (r_2 + (1 : Int32))) && cK σ_2 h0 13) σ_2) (fun (r_3 : Int32) (b_3 : Bool) (σ_3 : Sto) => (lt_ r_3 (fun (x2_4 : Int32) => (bd_ (f_Model_walks h0 x1 (b_3 && cK σ_3 h0 13) σ_3) (fun (r_5 : Int32) (b_5 : Bool) (σ_5 : Sto) => (lt_ (fun (b : Bool) (σ : Sto) => ((-1000000002 : Int32), b, σ)) (fun J65 => (if r_5 = 0 then (J65 b_5 σ_5) else (if x2_4 < 0 then (J65 b_5 σ_5) else (bd_ (f_Model_kindOf h0 x2_4 (b_5 && cK σ_5 h0 13) σ_5) (fun (r_6 : Int32) (b_6 : Bool) (σ_6 : Sto) => (if r_6 = (3 : Int32) then (bd_ (f_Model_walkerAt h0 x1 (b_6 && cK σ_6 h0 13) σ_6) (fun (r_7 : Int32) (b_7 : Bool) (σ_7 : Sto) => (bd_ (f_Model_becomes h0 (r_7 + (8 : Int32)) (0 : Int32) (b_7 && cK σ_7 h0 13) σ_7) (fun (r_8 : Int32) (b_8 : Bool) (σ_8 : Sto) => (r_8, b_8, σ_8))))) else (J65 b_6 σ_6)))))))))))))))))))
set_option maxRecDepth 100000 in
set_option maxHeartbeats 4000000 in
theorem s_Model_shoes : ∀ (h0 : Nat) (x1 : Int32) (b : Bool) (σ : Sto), Snd M_Model_shoes 4 0 0 [vR h0, vI x1] b σ (tI (f_Model_shoes h0 x1 b σ).1) (f_Model_shoes h0 x1 b σ).2.1 (f_Model_shoes h0 x1 b σ).2.2 := by
  intro h0 x1 b σ
  refine Snd_of (tv := tI) (by decide) (Nat.le_of_ble_eq_true rfl) ?_
  show V M_Model_shoes 4 0 0 0 0 tI (f_Model_shoes h0 x1 b σ) 0 [(0, vR h0), (1, vI x1)] [] b σ
  unfold f_Model_shoes
  refine V_aload_n 1 rfl (show decode M_Model_shoes.2.1 0 = .ok (.aload_n 0, 1) by decide +kernel) 0 rfl ?_
  refine V_iload_n 2 rfl (show decode M_Model_shoes.2.1 1 = .ok (.iload_n 1, 1) by decide +kernel) 1 rfl ?_
  refine V_callV (tb := tI) (as := [vI x1]) (rest := []) (na := 1) 5 rfl ck_Model (by decide) (s_Model_isWalker h0 x1 (b && cK σ h0 13) σ) rfl rfl (Nat.le_of_ble_eq_true rfl) (cal_Model_isWalker _ _ _ _ _ (by decide) (by decide) (by decide)) (show decode M_Model_shoes.2.1 2 = .ok (.invokevirtual 265, 3) by decide +kernel) wd_1837 wd_1839 wd_143 (fun r_1 b_1 σ_1 => ?_)
  show V M_Model_shoes 4 0 0 0 0 tI _ 5 [(0, vR h0), (1, vI x1)] [vI r_1] b_1 σ_1
  refine V_ifne 8 11 rfl (show decode M_Model_shoes.2.1 5 = .ok (.ifCond .ne 6, 3) by decide +kernel) rfl ?_ ?_
  · skip
    refine V_ldc 10 rfl (show decode M_Model_shoes.2.1 8 = .ok (.ldc 91, 2) by decide +kernel) wd_1620 ?_
    exact V_iret rfl (by decide) (by decide) (show decode M_Model_shoes.2.1 10 = .ok (.ireturn, 1) by decide +kernel)
  · skip
    refine V_aload_n 12 rfl (show decode M_Model_shoes.2.1 11 = .ok (.aload_n 0, 1) by decide +kernel) 0 rfl ?_
    refine V_aload_n 13 rfl (show decode M_Model_shoes.2.1 12 = .ok (.aload_n 0, 1) by decide +kernel) 0 rfl ?_
    refine V_get (j := 0) (v := vR (SR σ_1 h0 0)) 16 rfl ck_Model (by decide) (by decide) (show decode M_Model_shoes.2.1 13 = .ok (.getfield 7, 3) by decide +kernel) wd_1504 rfl ?_
    refine V_aload_n 17 rfl (show decode M_Model_shoes.2.1 16 = .ok (.aload_n 0, 1) by decide +kernel) 0 rfl ?_
    refine V_iload_n 18 rfl (show decode M_Model_shoes.2.1 17 = .ok (.iload_n 1, 1) by decide +kernel) 1 rfl ?_
    refine V_callV (tb := tI) (as := [vI x1]) (rest := [vR (SR σ_1 h0 0), vR h0]) (na := 1) 21 rfl ck_Model (by decide) (s_Model_walkerAt h0 x1 ((b_1 && cK σ_1 h0 13) && cK σ_1 h0 13) σ_1) rfl rfl (Nat.le_of_ble_eq_true rfl) (cal_Model_walkerAt _ _ _ _ _ (by decide) (by decide) (by decide)) (show decode M_Model_shoes.2.1 18 = .ok (.invokevirtual 84, 3) by decide +kernel) wd_1673 wd_1675 wd_121 (fun r_2 b_2 σ_2 => ?_)
    show V M_Model_shoes 4 0 0 0 0 tI _ 21 [(0, vR h0), (1, vI x1)] [vI r_2, vR (SR σ_1 h0 0), vR h0] b_2 σ_2
    refine V_iconst 22 rfl (show decode M_Model_shoes.2.1 21 = .ok (.iconst 1, 1) by decide +kernel) (v := 1) rfl ?_
    refine V_iadd 23 rfl (show decode M_Model_shoes.2.1 22 = .ok (.iadd, 1) by decide +kernel) ?_
    refine V_ald_int 24 rfl (show decode M_Model_shoes.2.1 23 = .ok (.iaload, 1) by decide +kernel) ?_
    refine V_callV (tb := tI) (as := [vI (SI σ_2 (SR σ_1 h0 0) (ix (r_2 + (1 : Int32))))]) (rest := []) (na := 1) 27 rfl ck_Model (by decide) (s_Model_placeOn h0 (SI σ_2 (SR σ_1 h0 0) (ix (r_2 + (1 : Int32)))) ((b_2 && cA σ_2 (SR σ_1 h0 0) 21 (r_2 + (1 : Int32))) && cK σ_2 h0 13) σ_2) rfl rfl (Nat.le_of_ble_eq_true rfl) (cal_Model_placeOn _ _ _ _ _ (by decide) (by decide) (by decide)) (show decode M_Model_shoes.2.1 24 = .ok (.invokevirtual 116, 3) by decide +kernel) wd_1652 wd_1654 wd_117 (fun r_3 b_3 σ_3 => ?_)
    show V M_Model_shoes 4 0 0 0 0 tI _ 27 [(0, vR h0), (1, vI x1)] [vI r_3] b_3 σ_3
    refine V_istore_n (fun x2_4 => [(2, vI x2_4), (0, vR h0), (1, vI x1)]) 28 rfl (show decode M_Model_shoes.2.1 27 = .ok (.istore_n 2, 1) by decide +kernel) (by decide) (fun _ => rfl) (fun x2_4 => ?_)
    refine V_aload_n 29 rfl (show decode M_Model_shoes.2.1 28 = .ok (.aload_n 0, 1) by decide +kernel) 1 rfl ?_
    refine V_iload_n 30 rfl (show decode M_Model_shoes.2.1 29 = .ok (.iload_n 1, 1) by decide +kernel) 2 rfl ?_
    refine V_callV (tb := tI) (as := [vI x1]) (rest := []) (na := 1) 33 rfl ck_Model (by decide) (s_Model_walks h0 x1 (b_3 && cK σ_3 h0 13) σ_3) rfl rfl (Nat.le_of_ble_eq_true rfl) (cal_Model_walks _ _ _ _ _ (by decide) (by decide) (by decide)) (show decode M_Model_shoes.2.1 30 = .ok (.invokevirtual 120, 3) by decide +kernel) wd_1669 wd_1671 wd_120 (fun r_5 b_5 σ_5 => ?_)
    show V M_Model_shoes 4 0 0 0 0 tI _ 33 [(2, vI x2_4), (0, vR h0), (1, vI x1)] [vI r_5] b_5 σ_5
    refine V_jn (fun (J65 : Bool → Sto → Rs Int32) => ∀ (b : Bool) (σ : Sto), V M_Model_shoes 4 0 0 0 0 tI (J65 b σ) 65 [] [] b σ) ?_ (fun J65 hJ65 => ?_)
    · intro b σ
      refine V_ldc 67 rfl (show decode M_Model_shoes.2.1 65 = .ok (.ldc 98, 2) by decide +kernel) wd_1633 ?_
      exact V_iret rfl (by decide) (by decide) (show decode M_Model_shoes.2.1 67 = .ok (.ireturn, 1) by decide +kernel)
    · skip
      refine V_ifeq 36 65 rfl (show decode M_Model_shoes.2.1 33 = .ok (.ifCond .eq 32, 3) by decide +kernel) rfl ?_ ?_
      · skip
        exact V_sub [] rfl (hJ65 b_5 σ_5)
      · skip
        refine V_iload_n 37 rfl (show decode M_Model_shoes.2.1 36 = .ok (.iload_n 2, 1) by decide +kernel) 0 rfl ?_
        refine V_iflt 40 65 rfl (show decode M_Model_shoes.2.1 37 = .ok (.ifCond .lt 28, 3) by decide +kernel) rfl ?_ ?_
        · skip
          exact V_sub [] rfl (hJ65 b_5 σ_5)
        · skip
          refine V_aload_n 41 rfl (show decode M_Model_shoes.2.1 40 = .ok (.aload_n 0, 1) by decide +kernel) 1 rfl ?_
          refine V_iload_n 42 rfl (show decode M_Model_shoes.2.1 41 = .ok (.iload_n 2, 1) by decide +kernel) 0 rfl ?_
          refine V_callV (tb := tI) (as := [vI x2_4]) (rest := []) (na := 1) 45 rfl ck_Model (by decide) (s_Model_kindOf h0 x2_4 (b_5 && cK σ_5 h0 13) σ_5) rfl rfl (Nat.le_of_ble_eq_true rfl) (cal_Model_kindOf _ _ _ _ _ (by decide) (by decide) (by decide)) (show decode M_Model_shoes.2.1 42 = .ok (.invokevirtual 132, 3) by decide +kernel) wd_1685 wd_1687 wd_123 (fun r_6 b_6 σ_6 => ?_)
          show V M_Model_shoes 4 0 0 0 0 tI _ 45 [(2, vI x2_4), (0, vR h0), (1, vI x1)] [vI r_6] b_6 σ_6
          refine V_iconst 46 rfl (show decode M_Model_shoes.2.1 45 = .ok (.iconst 3, 1) by decide +kernel) (v := 3) rfl ?_
          refine V_icmpne 49 65 rfl (show decode M_Model_shoes.2.1 46 = .ok (.if_icmp .ne 19, 3) by decide +kernel) rfl ?_ ?_
          · skip
            refine V_aload_n 50 rfl (show decode M_Model_shoes.2.1 49 = .ok (.aload_n 0, 1) by decide +kernel) 1 rfl ?_
            refine V_aload_n 51 rfl (show decode M_Model_shoes.2.1 50 = .ok (.aload_n 0, 1) by decide +kernel) 1 rfl ?_
            refine V_iload_n 52 rfl (show decode M_Model_shoes.2.1 51 = .ok (.iload_n 1, 1) by decide +kernel) 2 rfl ?_
            refine V_callV (tb := tI) (as := [vI x1]) (rest := [vR h0]) (na := 1) 55 rfl ck_Model (by decide) (s_Model_walkerAt h0 x1 (b_6 && cK σ_6 h0 13) σ_6) rfl rfl (Nat.le_of_ble_eq_true rfl) (cal_Model_walkerAt _ _ _ _ _ (by decide) (by decide) (by decide)) (show decode M_Model_shoes.2.1 52 = .ok (.invokevirtual 84, 3) by decide +kernel) wd_1673 wd_1675 wd_121 (fun r_7 b_7 σ_7 => ?_)
            show V M_Model_shoes 4 0 0 0 0 tI _ 55 [(2, vI x2_4), (0, vR h0), (1, vI x1)] [vI r_7, vR h0] b_7 σ_7
            refine V_bipush 57 rfl (show decode M_Model_shoes.2.1 55 = .ok (.bipush 8, 2) by decide +kernel) (v := 8) rfl ?_
            refine V_iadd 58 rfl (show decode M_Model_shoes.2.1 57 = .ok (.iadd, 1) by decide +kernel) ?_
            refine V_iconst 59 rfl (show decode M_Model_shoes.2.1 58 = .ok (.iconst 0, 1) by decide +kernel) (v := 0) rfl ?_
            refine V_callV (tb := tI) (as := [vI (r_7 + (8 : Int32)), vI (0 : Int32)]) (rest := []) (na := 2) 62 rfl ck_Model (by decide) (s_Model_becomes h0 (r_7 + (8 : Int32)) (0 : Int32) (b_7 && cK σ_7 h0 13) σ_7) rfl rfl (Nat.le_of_ble_eq_true rfl) (cal_Model_becomes _ _ _ _ _ (by decide) (by decide) (by decide)) (show decode M_Model_shoes.2.1 59 = .ok (.invokevirtual 99, 3) by decide +kernel) wd_1634 wd_1636 wd_115 (fun r_8 b_8 σ_8 => ?_)
            show V M_Model_shoes 4 0 0 0 0 tI _ 62 [(2, vI x2_4), (0, vR h0), (1, vI x1)] [vI r_8] b_8 σ_8
            refine V_goto 67 (show decode M_Model_shoes.2.1 62 = .ok (.goto 5, 3) by decide +kernel) rfl ?_
            exact V_iret rfl (by decide) (by decide) (show decode M_Model_shoes.2.1 67 = .ok (.ireturn, 1) by decide +kernel)
          · skip
            exact V_sub [] rfl (hJ65 b_6 σ_6)
theorem cal_Model_shoes (d mc ms k n : Nat) (h1 : 4 + 1 ≤ d) (h2 : k + 0 ≤ mc) (h3 : n + 0 ≤ ms) : Cal M_Model_shoes 4 0 0 1 d mc ms k n := ⟨wd_1853, wd_181, by decide, h1, by decide, h2, h3⟩
abbrev M_Model_shut : MD := (⟨"LongTrailModel", "shut", "(II)I"⟩, prog_14_method_27_code, 3, (some FieldType.int))
def f_Model_shut (h0 : Nat) (x1 : Int32) (x2 : Int32) (b : Bool) (σ : Sto) : Rs Int32 := (bd_ (f_Model_isPlace h0 x1 (b && cK σ h0 13) σ) (fun (r_1 : Int32) (b_1 : Bool) (σ_1 : Sto) => (lt_ (fun (b : Bool) (σ : Sto) => ((-1000000001 : Int32), b, σ)) (fun J20 => (if r_1 = 0 then (J20 b_1 σ_1) else (bd_ (f_Model_isIn ((x2).toInt64) (0 : Int64) (127 : Int64) b_1 σ_1) (fun (r_2 : Int32) (b_2 : Bool) (σ_2 : Sto) => (if r_2 = 0 then (J20 b_2 σ_2) else (bd_ (f_Model_kindOf h0 x1 (b_2 && cK σ_2 h0 13) σ_2) (fun (r_3 : Int32) (b_3 : Bool) (σ_3 : Sto) => (if r_3 = (3 : Int32) then (bd_ (f_Model_placeAt h0 x1 (b_3 && cK σ_3 h0 13) σ_3) (fun (r_4 : Int32) (b_4 : Bool) (σ_4 : Sto) => (bd_ (f_Model_becomes h0 (r_4 + (3 : Int32)) x2 (b_4 && cK σ_4 h0 13) σ_4) (fun (r_5 : Int32) (b_5 : Bool) (σ_5 : Sto) => (r_5, b_5, σ_5))))) else ((-1000000012 : Int32), b_3, σ_3))))))))))))
set_option maxRecDepth 100000 in
set_option maxHeartbeats 4000000 in
theorem s_Model_shut : ∀ (h0 : Nat) (x1 : Int32) (x2 : Int32) (b : Bool) (σ : Sto), Snd M_Model_shut 3 0 0 [vR h0, vI x1, vI x2] b σ (tI (f_Model_shut h0 x1 x2 b σ).1) (f_Model_shut h0 x1 x2 b σ).2.1 (f_Model_shut h0 x1 x2 b σ).2.2 := by
  intro h0 x1 x2 b σ
  refine Snd_of (tv := tI) (by decide) (Nat.le_of_ble_eq_true rfl) ?_
  show V M_Model_shut 3 0 0 0 0 tI (f_Model_shut h0 x1 x2 b σ) 0 [(0, vR h0), (1, vI x1), (2, vI x2)] [] b σ
  unfold f_Model_shut
  refine V_aload_n 1 rfl (show decode M_Model_shut.2.1 0 = .ok (.aload_n 0, 1) by decide +kernel) 0 rfl ?_
  refine V_iload_n 2 rfl (show decode M_Model_shut.2.1 1 = .ok (.iload_n 1, 1) by decide +kernel) 1 rfl ?_
  refine V_callV (tb := tI) (as := [vI x1]) (rest := []) (na := 1) 5 rfl ck_Model (by decide) (s_Model_isPlace h0 x1 (b && cK σ h0 13) σ) rfl rfl (Nat.le_of_ble_eq_true rfl) (cal_Model_isPlace _ _ _ _ _ (by decide) (by decide) (by decide)) (show decode M_Model_shut.2.1 2 = .ok (.invokevirtual 123, 3) by decide +kernel) wd_1661 wd_1663 wd_118 (fun r_1 b_1 σ_1 => ?_)
  show V M_Model_shut 3 0 0 0 0 tI _ 5 [(0, vR h0), (1, vI x1), (2, vI x2)] [vI r_1] b_1 σ_1
  refine V_jn (fun (J20 : Bool → Sto → Rs Int32) => ∀ (b : Bool) (σ : Sto), V M_Model_shut 3 0 0 0 0 tI (J20 b σ) 20 [] [] b σ) ?_ (fun J20 hJ20 => ?_)
  · intro b σ
    refine V_ldc 22 rfl (show decode M_Model_shut.2.1 20 = .ok (.ldc 91, 2) by decide +kernel) wd_1620 ?_
    exact V_iret rfl (by decide) (by decide) (show decode M_Model_shut.2.1 22 = .ok (.ireturn, 1) by decide +kernel)
  · skip
    refine V_ifeq 8 20 rfl (show decode M_Model_shut.2.1 5 = .ok (.ifCond .eq 15, 3) by decide +kernel) rfl ?_ ?_
    · skip
      exact V_sub [] rfl (hJ20 b_1 σ_1)
    · skip
      refine V_iload_n 9 rfl (show decode M_Model_shut.2.1 8 = .ok (.iload_n 2, 1) by decide +kernel) 2 rfl ?_
      refine V_i2l 10 rfl (show decode M_Model_shut.2.1 9 = .ok (.i2l, 1) by decide +kernel) ?_
      refine V_lconst 11 rfl (show decode M_Model_shut.2.1 10 = .ok (.lconst 0, 1) by decide +kernel) (v := 0) rfl ?_
      refine V_ldc2 14 rfl (show decode M_Model_shut.2.1 11 = .ok (.ldc2_w 139, 3) by decide +kernel) wd_1697 ?_
      refine V_callS (tb := tI) (as := [vL ((x2).toInt64), vL (0 : Int64), vL (127 : Int64)]) (rest := []) (na := 3) 17 rfl (s_Model_isIn ((x2).toInt64) (0 : Int64) (127 : Int64) b_1 σ_1) rfl rfl (Nat.le_of_ble_eq_true rfl) (cal_Model_isIn _ _ _ _ _ (by decide) (by decide) (by decide)) (show decode M_Model_shut.2.1 14 = .ok (.invokestatic 76, 3) by decide +kernel) wd_1617 wd_1618 (fun r_2 b_2 σ_2 => ?_)
      show V M_Model_shut 3 0 0 0 0 tI _ 17 [(0, vR h0), (1, vI x1), (2, vI x2)] [vI r_2] b_2 σ_2
      refine V_ifne 20 23 rfl (show decode M_Model_shut.2.1 17 = .ok (.ifCond .ne 6, 3) by decide +kernel) rfl ?_ ?_
      · skip
        exact V_sub [] rfl (hJ20 b_2 σ_2)
      · skip
        refine V_aload_n 24 rfl (show decode M_Model_shut.2.1 23 = .ok (.aload_n 0, 1) by decide +kernel) 0 rfl ?_
        refine V_iload_n 25 rfl (show decode M_Model_shut.2.1 24 = .ok (.iload_n 1, 1) by decide +kernel) 1 rfl ?_
        refine V_callV (tb := tI) (as := [vI x1]) (rest := []) (na := 1) 28 rfl ck_Model (by decide) (s_Model_kindOf h0 x1 (b_2 && cK σ_2 h0 13) σ_2) rfl rfl (Nat.le_of_ble_eq_true rfl) (cal_Model_kindOf _ _ _ _ _ (by decide) (by decide) (by decide)) (show decode M_Model_shut.2.1 25 = .ok (.invokevirtual 132, 3) by decide +kernel) wd_1685 wd_1687 wd_123 (fun r_3 b_3 σ_3 => ?_)
        show V M_Model_shut 3 0 0 0 0 tI _ 28 [(0, vR h0), (1, vI x1), (2, vI x2)] [vI r_3] b_3 σ_3
        refine V_iconst 29 rfl (show decode M_Model_shut.2.1 28 = .ok (.iconst 3, 1) by decide +kernel) (v := 3) rfl ?_
        refine V_icmpne 32 47 rfl (show decode M_Model_shut.2.1 29 = .ok (.if_icmp .ne 18, 3) by decide +kernel) rfl ?_ ?_
        · skip
          refine V_aload_n 33 rfl (show decode M_Model_shut.2.1 32 = .ok (.aload_n 0, 1) by decide +kernel) 0 rfl ?_
          refine V_aload_n 34 rfl (show decode M_Model_shut.2.1 33 = .ok (.aload_n 0, 1) by decide +kernel) 0 rfl ?_
          refine V_iload_n 35 rfl (show decode M_Model_shut.2.1 34 = .ok (.iload_n 1, 1) by decide +kernel) 1 rfl ?_
          refine V_callV (tb := tI) (as := [vI x1]) (rest := [vR h0]) (na := 1) 38 rfl ck_Model (by decide) (s_Model_placeAt h0 x1 (b_3 && cK σ_3 h0 13) σ_3) rfl rfl (Nat.le_of_ble_eq_true rfl) (cal_Model_placeAt _ _ _ _ _ (by decide) (by decide) (by decide)) (show decode M_Model_shut.2.1 35 = .ok (.invokevirtual 80, 3) by decide +kernel) wd_1625 wd_1627 wd_113 (fun r_4 b_4 σ_4 => ?_)
          show V M_Model_shut 3 0 0 0 0 tI _ 38 [(0, vR h0), (1, vI x1), (2, vI x2)] [vI r_4, vR h0] b_4 σ_4
          refine V_iconst 39 rfl (show decode M_Model_shut.2.1 38 = .ok (.iconst 3, 1) by decide +kernel) (v := 3) rfl ?_
          refine V_iadd 40 rfl (show decode M_Model_shut.2.1 39 = .ok (.iadd, 1) by decide +kernel) ?_
          refine V_iload_n 41 rfl (show decode M_Model_shut.2.1 40 = .ok (.iload_n 2, 1) by decide +kernel) 2 rfl ?_
          refine V_callV (tb := tI) (as := [vI (r_4 + (3 : Int32)), vI x2]) (rest := []) (na := 2) 44 rfl ck_Model (by decide) (s_Model_becomes h0 (r_4 + (3 : Int32)) x2 (b_4 && cK σ_4 h0 13) σ_4) rfl rfl (Nat.le_of_ble_eq_true rfl) (cal_Model_becomes _ _ _ _ _ (by decide) (by decide) (by decide)) (show decode M_Model_shut.2.1 41 = .ok (.invokevirtual 99, 3) by decide +kernel) wd_1634 wd_1636 wd_115 (fun r_5 b_5 σ_5 => ?_)
          show V M_Model_shut 3 0 0 0 0 tI _ 44 [(0, vR h0), (1, vI x1), (2, vI x2)] [vI r_5] b_5 σ_5
          refine V_goto 49 (show decode M_Model_shut.2.1 44 = .ok (.goto 5, 3) by decide +kernel) rfl ?_
          exact V_iret rfl (by decide) (by decide) (show decode M_Model_shut.2.1 49 = .ok (.ireturn, 1) by decide +kernel)
        · skip
          refine V_ldc 49 rfl (show decode M_Model_shut.2.1 47 = .ok (.ldc 138, 2) by decide +kernel) wd_1692 ?_
          exact V_iret rfl (by decide) (by decide) (show decode M_Model_shut.2.1 49 = .ok (.ireturn, 1) by decide +kernel)
theorem cal_Model_shut (d mc ms k n : Nat) (h1 : 3 + 1 ≤ d) (h2 : k + 0 ≤ mc) (h3 : n + 0 ≤ ms) : Cal M_Model_shut 3 0 0 2 d mc ms k n := ⟨wd_1696, wd_181, by decide, h1, by decide, h2, h3⟩
abbrev M_Model_sum : MD := (⟨"LongTrailModel", "sum", "(II)I"⟩, prog_14_method_107_code, 6, (some FieldType.int))
def b_Model_sum_28 (h0 : Nat) (x1 : Int32) (x2 : Int32) (L28 : Int64 → Int32 → Bool → Sto → Rs Int32) (l3 : Int64) (x5 : Int32) (b : Bool) (σ : Sto) : Rs Int32 := (if x5 < (SI σ (SR σ h0 5) (ix x1)) then (lt_ (l3 + (SL σ (SR σ h0 6) (ix (((24 : Int32) * x1) + x5)))) (fun (l3_4 : Int64) => (lt_ (x5 + (1 : Int32)) (fun (x5_5 : Int32) => (L28 l3_4 x5_5 ((((b && cK σ h0 13) && cA σ (SR σ h0 5) 21 x1) && cK σ h0 13) && cA σ (SR σ h0 6) 23 (((24 : Int32) * x1) + x5)) σ))))) else ((((l3 * ((x2).toInt64))).toInt32), ((b && cK σ h0 13) && cA σ (SR σ h0 5) 21 x1), σ))
def f_Model_sum (h0 : Nat) (x1 : Int32) (x2 : Int32) (b : Bool) (σ : Sto) : Rs Int32 := (bd_ (f_Model_isSheet x1 b σ) (fun (r_1 : Int32) (b_1 : Bool) (σ_1 : Sto) => (if r_1 = 0 then ((-1000000001 : Int32), b_1, σ_1) else (if (SI σ_1 (SR σ_1 h0 4) (ix x1)) < 0 then ((-1000000011 : Int32), ((b_1 && cK σ_1 h0 13) && cA σ_1 (SR σ_1 h0 4) 21 x1), σ_1) else (lt_ (0 : Int64) (fun (l3_2 : Int64) => (lt_ (0 : Int32) (fun (x5_3 : Int32) => (lp_ (b_Model_sum_28 h0 x1 x2) (fun (l3 : Int64) (x5 : Int32) (b : Bool) (σ : Sto) => (0, false, σ)) fuel_ l3_2 x5_3 ((b_1 && cK σ_1 h0 13) && cA σ_1 (SR σ_1 h0 4) 21 x1) σ_1)))))))))
set_option maxRecDepth 100000 in
set_option maxHeartbeats 4000000 in
theorem s_Model_sum : ∀ (h0 : Nat) (x1 : Int32) (x2 : Int32) (b : Bool) (σ : Sto), Snd M_Model_sum 3 0 0 [vR h0, vI x1, vI x2] b σ (tI (f_Model_sum h0 x1 x2 b σ).1) (f_Model_sum h0 x1 x2 b σ).2.1 (f_Model_sum h0 x1 x2 b σ).2.2 := by
  intro h0 x1 x2 b σ
  refine Snd_of (tv := tI) (by decide) (Nat.le_of_ble_eq_true rfl) ?_
  show V M_Model_sum 3 0 0 0 0 tI (f_Model_sum h0 x1 x2 b σ) 0 [(0, vR h0), (1, vI x1), (2, vI x2)] [] b σ
  unfold f_Model_sum
  refine V_iload_n 1 rfl (show decode M_Model_sum.2.1 0 = .ok (.iload_n 1, 1) by decide +kernel) 1 rfl ?_
  refine V_callS (tb := tI) (as := [vI x1]) (rest := []) (na := 1) 4 rfl (s_Model_isSheet x1 b σ) rfl rfl (Nat.le_of_ble_eq_true rfl) (cal_Model_isSheet _ _ _ _ _ (by decide) (by decide) (by decide)) (show decode M_Model_sum.2.1 1 = .ok (.invokestatic 367, 3) by decide +kernel) wd_2039 wd_2040 (fun r_1 b_1 σ_1 => ?_)
  show V M_Model_sum 3 0 0 0 0 tI _ 4 [(0, vR h0), (1, vI x1), (2, vI x2)] [vI r_1] b_1 σ_1
  refine V_ifne 7 10 rfl (show decode M_Model_sum.2.1 4 = .ok (.ifCond .ne 6, 3) by decide +kernel) rfl ?_ ?_
  · skip
    refine V_ldc 9 rfl (show decode M_Model_sum.2.1 7 = .ok (.ldc 91, 2) by decide +kernel) wd_1620 ?_
    exact V_iret rfl (by decide) (by decide) (show decode M_Model_sum.2.1 9 = .ok (.ireturn, 1) by decide +kernel)
  · skip
    refine V_aload_n 11 rfl (show decode M_Model_sum.2.1 10 = .ok (.aload_n 0, 1) by decide +kernel) 0 rfl ?_
    refine V_get (j := 4) (v := vR (SR σ_1 h0 4)) 14 rfl ck_Model (by decide) (by decide) (show decode M_Model_sum.2.1 11 = .ok (.getfield 19, 3) by decide +kernel) wd_1508 rfl ?_
    refine V_iload_n 15 rfl (show decode M_Model_sum.2.1 14 = .ok (.iload_n 1, 1) by decide +kernel) 1 rfl ?_
    refine V_ald_int 16 rfl (show decode M_Model_sum.2.1 15 = .ok (.iaload, 1) by decide +kernel) ?_
    refine V_ifge 19 23 rfl (show decode M_Model_sum.2.1 16 = .ok (.ifCond .ge 7, 3) by decide +kernel) rfl ?_ ?_
    · skip
      refine V_ldcw 22 rfl (show decode M_Model_sum.2.1 19 = .ok (.ldc_w 373, 3) by decide +kernel) wd_2048 ?_
      exact V_iret rfl (by decide) (by decide) (show decode M_Model_sum.2.1 22 = .ok (.ireturn, 1) by decide +kernel)
    · skip
      refine V_lconst 24 rfl (show decode M_Model_sum.2.1 23 = .ok (.lconst 0, 1) by decide +kernel) (v := 0) rfl ?_
      refine V_lstore_n (fun l3_2 => [(3, vL l3_2), (0, vR h0), (1, vI x1), (2, vI x2)]) 25 rfl (show decode M_Model_sum.2.1 24 = .ok (.lstore_n 3, 1) by decide +kernel) (by decide) (fun _ => rfl) (fun l3_2 => ?_)
      refine V_iconst 26 rfl (show decode M_Model_sum.2.1 25 = .ok (.iconst 0, 1) by decide +kernel) (v := 0) rfl ?_
      refine V_istore (fun x5_3 => [(5, vI x5_3), (3, vL l3_2), (0, vR h0), (1, vI x1), (2, vI x2)]) 28 rfl (show decode M_Model_sum.2.1 26 = .ok (.istore 5, 2) by decide +kernel) (by decide) (fun _ => rfl) (fun x5_3 => ?_)
      refine V_sub [2, 3, 4, 1, 0] rfl ?_
      refine lp_P (fun (L28 : Int64 → Int32 → Bool → Sto → Rs Int32) => ∀ (l3 : Int64) (x5 : Int32) (b : Bool) (σ : Sto), V M_Model_sum 3 0 0 0 0 tI (L28 l3 x5 b σ) 28 [(0, vR h0), (1, vI x1), (2, vI x2), (3, vL l3), (5, vI x5)] [] b σ) ?_ ?_ fuel_ l3_2 x5_3 ((b_1 && cK σ_1 h0 13) && cA σ_1 (SR σ_1 h0 4) 21 x1) σ_1
      · intro l3 x5 b σ; exact V_bad
      · intro L28 hL28 l3 x5 b σ
        unfold b_Model_sum_28
        refine V_iload 30 rfl (show decode M_Model_sum.2.1 28 = .ok (.iload 5, 2) by decide +kernel) 4 rfl ?_
        refine V_aload_n 31 rfl (show decode M_Model_sum.2.1 30 = .ok (.aload_n 0, 1) by decide +kernel) 0 rfl ?_
        refine V_get (j := 5) (v := vR (SR σ h0 5)) 34 rfl ck_Model (by decide) (by decide) (show decode M_Model_sum.2.1 31 = .ok (.getfield 22, 3) by decide +kernel) wd_1509 rfl ?_
        refine V_iload_n 35 rfl (show decode M_Model_sum.2.1 34 = .ok (.iload_n 1, 1) by decide +kernel) 1 rfl ?_
        refine V_ald_int 36 rfl (show decode M_Model_sum.2.1 35 = .ok (.iaload, 1) by decide +kernel) ?_
        refine V_icmpge 39 60 rfl (show decode M_Model_sum.2.1 36 = .ok (.if_icmp .ge 24, 3) by decide +kernel) rfl ?_ ?_
        · skip
          refine V_lload_n 40 rfl (show decode M_Model_sum.2.1 39 = .ok (.lload_n 3, 1) by decide +kernel) 3 rfl ?_
          refine V_aload_n 41 rfl (show decode M_Model_sum.2.1 40 = .ok (.aload_n 0, 1) by decide +kernel) 0 rfl ?_
          refine V_get (j := 6) (v := vR (SR σ h0 6)) 44 rfl ck_Model (by decide) (by decide) (show decode M_Model_sum.2.1 41 = .ok (.getfield 25, 3) by decide +kernel) wd_1510 rfl ?_
          refine V_bipush 46 rfl (show decode M_Model_sum.2.1 44 = .ok (.bipush 24, 2) by decide +kernel) (v := 24) rfl ?_
          refine V_iload_n 47 rfl (show decode M_Model_sum.2.1 46 = .ok (.iload_n 1, 1) by decide +kernel) 1 rfl ?_
          refine V_imul 48 rfl (show decode M_Model_sum.2.1 47 = .ok (.imul, 1) by decide +kernel) ?_
          refine V_iload 50 rfl (show decode M_Model_sum.2.1 48 = .ok (.iload 5, 2) by decide +kernel) 4 rfl ?_
          refine V_iadd 51 rfl (show decode M_Model_sum.2.1 50 = .ok (.iadd, 1) by decide +kernel) ?_
          refine V_ald_long 52 rfl (show decode M_Model_sum.2.1 51 = .ok (.laload, 1) by decide +kernel) ?_
          refine V_ladd 53 rfl (show decode M_Model_sum.2.1 52 = .ok (.ladd, 1) by decide +kernel) ?_
          refine V_lstore_n (fun l3_4 => [(3, vL l3_4), (0, vR h0), (1, vI x1), (2, vI x2), (5, vI x5)]) 54 rfl (show decode M_Model_sum.2.1 53 = .ok (.lstore_n 3, 1) by decide +kernel) (by decide) (fun _ => rfl) (fun l3_4 => ?_)
          refine V_iinc (fun x5_5 => [(5, vI x5_5), (3, vL l3_4), (0, vR h0), (1, vI x1), (2, vI x2)]) 57 rfl (show decode M_Model_sum.2.1 54 = .ok (.iinc 5 1, 3) by decide +kernel) 4 rfl (w := 1) rfl (by decide) (fun _ => rfl) (fun x5_5 => ?_)
          refine V_goto 28 (show decode M_Model_sum.2.1 57 = .ok (.goto (-29), 3) by decide +kernel) rfl ?_
          exact V_sub [2, 3, 4, 1, 0] rfl (hL28 l3_4 x5_5 ((((b && cK σ h0 13) && cA σ (SR σ h0 5) 21 x1) && cK σ h0 13) && cA σ (SR σ h0 6) 23 (((24 : Int32) * x1) + x5)) σ)
        · skip
          refine V_lload_n 61 rfl (show decode M_Model_sum.2.1 60 = .ok (.lload_n 3, 1) by decide +kernel) 3 rfl ?_
          refine V_iload_n 62 rfl (show decode M_Model_sum.2.1 61 = .ok (.iload_n 2, 1) by decide +kernel) 2 rfl ?_
          refine V_i2l 63 rfl (show decode M_Model_sum.2.1 62 = .ok (.i2l, 1) by decide +kernel) ?_
          refine V_lmul 64 rfl (show decode M_Model_sum.2.1 63 = .ok (.lmul, 1) by decide +kernel) ?_
          refine V_l2i 65 rfl (show decode M_Model_sum.2.1 64 = .ok (.l2i, 1) by decide +kernel) ?_
          exact V_iret rfl (by decide) (by decide) (show decode M_Model_sum.2.1 65 = .ok (.ireturn, 1) by decide +kernel)
theorem cal_Model_sum (d mc ms k n : Nat) (h1 : 3 + 1 ≤ d) (h2 : k + 0 ≤ mc) (h3 : n + 0 ≤ ms) : Cal M_Model_sum 3 0 0 2 d mc ms k n := ⟨wd_2053, wd_181, by decide, h1, by decide, h2, h3⟩
abbrev M_Model_tell : MD := (⟨"LongTrailModel", "tell", "(I)I"⟩, prog_14_method_109_code, 2, (some FieldType.int))
def f_Model_tell (h0 : Nat) (x1 : Int32) (b : Bool) (σ : Sto) : Rs Int32 := (if (SI σ h0 33) = (60 : Int32) then ((-1000000003 : Int32), (b && cK σ h0 13), σ) else (lt_ (pI σ (SR σ h0 32) (ix (SI σ h0 33)) x1) (fun (σ_1 : Sto) => (lt_ (pI σ_1 h0 33 ((SI σ_1 h0 33) + (1 : Int32))) (fun (σ_2 : Sto) => ((SI σ_2 h0 33), (((((((b && cK σ h0 13) && cK σ h0 13) && cK σ h0 13) && cA σ (SR σ h0 32) 21 (SI σ h0 33)) && cK σ_1 h0 13) && cK σ_1 h0 13) && cK σ_2 h0 13), σ_2))))))
set_option maxRecDepth 100000 in
set_option maxHeartbeats 4000000 in
theorem s_Model_tell : ∀ (h0 : Nat) (x1 : Int32) (b : Bool) (σ : Sto), Snd M_Model_tell 1 0 0 [vR h0, vI x1] b σ (tI (f_Model_tell h0 x1 b σ).1) (f_Model_tell h0 x1 b σ).2.1 (f_Model_tell h0 x1 b σ).2.2 := by
  intro h0 x1 b σ
  refine Snd_of (tv := tI) (by decide) (Nat.le_of_ble_eq_true rfl) ?_
  show V M_Model_tell 1 0 0 0 0 tI (f_Model_tell h0 x1 b σ) 0 [(0, vR h0), (1, vI x1)] [] b σ
  unfold f_Model_tell
  refine V_aload_n 1 rfl (show decode M_Model_tell.2.1 0 = .ok (.aload_n 0, 1) by decide +kernel) 0 rfl ?_
  refine V_get (j := 33) (v := vI (SI σ h0 33)) 4 rfl ck_Model (by decide) (by decide) (show decode M_Model_tell.2.1 1 = .ok (.getfield 375, 3) by decide +kernel) wd_1537 rfl ?_
  refine V_bipush 6 rfl (show decode M_Model_tell.2.1 4 = .ok (.bipush 60, 2) by decide +kernel) (v := 60) rfl ?_
  refine V_icmpne 9 12 rfl (show decode M_Model_tell.2.1 6 = .ok (.if_icmp .ne 6, 3) by decide +kernel) rfl ?_ ?_
  · skip
    refine V_ldc 11 rfl (show decode M_Model_tell.2.1 9 = .ok (.ldc 119, 2) by decide +kernel) wd_1656 ?_
    exact V_iret rfl (by decide) (by decide) (show decode M_Model_tell.2.1 11 = .ok (.ireturn, 1) by decide +kernel)
  · skip
    refine V_aload_n 13 rfl (show decode M_Model_tell.2.1 12 = .ok (.aload_n 0, 1) by decide +kernel) 0 rfl ?_
    refine V_get (j := 32) (v := vR (SR σ h0 32)) 16 rfl ck_Model (by decide) (by decide) (show decode M_Model_tell.2.1 13 = .ok (.getfield 69, 3) by decide +kernel) wd_1536 rfl ?_
    refine V_aload_n 17 rfl (show decode M_Model_tell.2.1 16 = .ok (.aload_n 0, 1) by decide +kernel) 0 rfl ?_
    refine V_get (j := 33) (v := vI (SI σ h0 33)) 20 rfl ck_Model (by decide) (by decide) (show decode M_Model_tell.2.1 17 = .ok (.getfield 375, 3) by decide +kernel) wd_1537 rfl ?_
    refine V_iload_n 21 rfl (show decode M_Model_tell.2.1 20 = .ok (.iload_n 1, 1) by decide +kernel) 1 rfl ?_
    refine V_ast_int 22 rfl (show decode M_Model_tell.2.1 21 = .ok (.iastore, 1) by decide +kernel) (fun σ_1 => ?_)
    refine V_aload_n 23 rfl (show decode M_Model_tell.2.1 22 = .ok (.aload_n 0, 1) by decide +kernel) 0 rfl ?_
    refine V_dup 24 rfl (show decode M_Model_tell.2.1 23 = .ok (.dup, 1) by decide +kernel) rfl ?_
    refine V_get (j := 33) (v := vI (SI σ_1 h0 33)) 27 rfl ck_Model (by decide) (by decide) (show decode M_Model_tell.2.1 24 = .ok (.getfield 375, 3) by decide +kernel) wd_1537 rfl ?_
    refine V_iconst 28 rfl (show decode M_Model_tell.2.1 27 = .ok (.iconst 1, 1) by decide +kernel) (v := 1) rfl ?_
    refine V_iadd 29 rfl (show decode M_Model_tell.2.1 28 = .ok (.iadd, 1) by decide +kernel) ?_
    refine V_putI (j := 33) 32 rfl ck_Model (by decide) (by decide) (show decode M_Model_tell.2.1 29 = .ok (.putfield 375, 3) by decide +kernel) wd_1537 rfl (fun _ => rfl) rfl rfl (fun σ_2 => ?_)
    refine V_aload_n 33 rfl (show decode M_Model_tell.2.1 32 = .ok (.aload_n 0, 1) by decide +kernel) 0 rfl ?_
    refine V_get (j := 33) (v := vI (SI σ_2 h0 33)) 36 rfl ck_Model (by decide) (by decide) (show decode M_Model_tell.2.1 33 = .ok (.getfield 375, 3) by decide +kernel) wd_1537 rfl ?_
    exact V_iret rfl (by decide) (by decide) (show decode M_Model_tell.2.1 36 = .ok (.ireturn, 1) by decide +kernel)
theorem cal_Model_tell (d mc ms k n : Nat) (h1 : 1 + 1 ≤ d) (h2 : k + 0 ≤ mc) (h3 : n + 0 ≤ ms) : Cal M_Model_tell 1 0 0 1 d mc ms k n := ⟨wd_2061, wd_181, by decide, h1, by decide, h2, h3⟩
abbrev M_Model_text : MD := (⟨"LongTrailModel", "text", "(II)I"⟩, prog_14_method_52_code, 6, (some FieldType.int))
def f_Model_text (h0 : Nat) (x1 : Int32) (x2 : Int32) (b : Bool) (σ : Sto) : Rs Int32 := (bd_ (f_Model_isIn ((x1).toInt64) (0 : Int64) (3 : Int64) b σ) (fun (r_1 : Int32) (b_1 : Bool) (σ_1 : Sto) => (lt_ (fun (s0_29 : Int32) (b : Bool) (σ : Sto) => (lt_ s0_29 (fun (x3_2 : Int32) => (bd_ (f_Model_parse h0 (b && cK σ h0 13) σ) (fun (r_3 : Int32) (b_3 : Bool) (σ_3 : Sto) => (lt_ r_3 (fun (x4_4 : Int32) => (if x3_2 = 0 then ((-1000000001 : Int32), b_3, σ_3) else (if x4_4 < 0 then (((-100 : Int32) - (SI σ_3 h0 9)), (b_3 && cK σ_3 h0 13), σ_3) else (if (SI σ_3 (SR σ_3 h0 0) (ix (4 : Int32))) = (12 : Int32) then ((-1000000003 : Int32), ((b_3 && cK σ_3 h0 13) && cA σ_3 (SR σ_3 h0 0) 21 (4 : Int32)), σ_3) else (bd_ (f_Model_textAt h0 (SI σ_3 (SR σ_3 h0 0) (ix (4 : Int32))) (((((b_3 && cK σ_3 h0 13) && cA σ_3 (SR σ_3 h0 0) 21 (4 : Int32)) && cK σ_3 h0 13) && cA σ_3 (SR σ_3 h0 0) 21 (4 : Int32)) && cK σ_3 h0 13) σ_3) (fun (r_5 : Int32) (b_5 : Bool) (σ_5 : Sto) => (lt_ r_5 (fun (x5_6 : Int32) => (lt_ (pI σ_5 (SR σ_5 h0 0) (ix (x5_6 + (0 : Int32))) x4_4) (fun (σ_7 : Sto) => (lt_ (pI σ_7 (SR σ_7 h0 0) (ix (x5_6 + (1 : Int32))) x1) (fun (σ_8 : Sto) => (lt_ (pI σ_8 (SR σ_8 h0 0) (ix (x5_6 + (2 : Int32))) x2) (fun (σ_9 : Sto) => (lt_ (pI σ_9 (SR σ_9 h0 0) (ix (x5_6 + (3 : Int32))) (SI σ_9 h0 18)) (fun (σ_10 : Sto) => (lt_ (pI σ_10 (SR σ_10 h0 0) (ix (x5_6 + (4 : Int32))) (SI σ_10 h0 16)) (fun (σ_11 : Sto) => (lt_ (pI σ_11 (SR σ_11 h0 0) (ix (4 : Int32)) ((SI σ_11 (SR σ_11 h0 0) (ix (4 : Int32))) + (1 : Int32))) (fun (σ_12 : Sto) => (((SI σ_12 (SR σ_12 h0 0) (ix (4 : Int32))) - (1 : Int32)), (((((((((((((((((b_5 && cK σ_5 h0 13) && cA σ_5 (SR σ_5 h0 0) 21 (x5_6 + (0 : Int32))) && cK σ_7 h0 13) && cA σ_7 (SR σ_7 h0 0) 21 (x5_6 + (1 : Int32))) && cK σ_8 h0 13) && cA σ_8 (SR σ_8 h0 0) 21 (x5_6 + (2 : Int32))) && cK σ_9 h0 13) && cK σ_9 h0 13) && cA σ_9 (SR σ_9 h0 0) 21 (x5_6 + (3 : Int32))) && cK σ_10 h0 13) && cK σ_10 h0 13) && cA σ_10 (SR σ_10 h0 0) 21 (x5_6 + (4 : Int32))) && cK σ_11 h0 13) && cA σ_11 (SR σ_11 h0 0) 21 (4 : Int32)) && cA σ_11 (SR σ_11 h0 0) 21 (4 : Int32)) && cK σ_12 h0 13) && cA σ_12 (SR σ_12 h0 0) 21 (4 : Int32)), σ_12))))))))))))))))))))))))))) (fun J29 => (lt_ (fun (b : Bool) (σ : Sto) => (J29 (0 : Int32) b σ)) (fun J28 => (if r_1 = 0 then (J28 b_1 σ_1) else (bd_ (f_Model_isIn ((x2).toInt64) (0 : Int64) (999 : Int64) b_1 σ_1) (fun (r_13 : Int32) (b_13 : Bool) (σ_13 : Sto) => (if r_13 = 0 then (J28 b_13 σ_13) else (J29 (1 : Int32) b_13 σ_13)))))))))))
set_option maxRecDepth 100000 in
set_option maxHeartbeats 4000000 in
theorem s_Model_text : ∀ (h0 : Nat) (x1 : Int32) (x2 : Int32) (b : Bool) (σ : Sto), Snd M_Model_text 126 0 0 [vR h0, vI x1, vI x2] b σ (tI (f_Model_text h0 x1 x2 b σ).1) (f_Model_text h0 x1 x2 b σ).2.1 (f_Model_text h0 x1 x2 b σ).2.2 := by
  intro h0 x1 x2 b σ
  refine Snd_of (tv := tI) (by decide) (Nat.le_of_ble_eq_true rfl) ?_
  show V M_Model_text 126 0 0 0 0 tI (f_Model_text h0 x1 x2 b σ) 0 [(0, vR h0), (1, vI x1), (2, vI x2)] [] b σ
  unfold f_Model_text
  refine V_iload_n 1 rfl (show decode M_Model_text.2.1 0 = .ok (.iload_n 1, 1) by decide +kernel) 1 rfl ?_
  refine V_i2l 2 rfl (show decode M_Model_text.2.1 1 = .ok (.i2l, 1) by decide +kernel) ?_
  refine V_lconst 3 rfl (show decode M_Model_text.2.1 2 = .ok (.lconst 0, 1) by decide +kernel) (v := 0) rfl ?_
  refine V_ldc2 6 rfl (show decode M_Model_text.2.1 3 = .ok (.ldc2_w 141, 3) by decide +kernel) wd_1702 ?_
  refine V_callS (tb := tI) (as := [vL ((x1).toInt64), vL (0 : Int64), vL (3 : Int64)]) (rest := []) (na := 3) 9 rfl (s_Model_isIn ((x1).toInt64) (0 : Int64) (3 : Int64) b σ) rfl rfl (Nat.le_of_ble_eq_true rfl) (cal_Model_isIn _ _ _ _ _ (by decide) (by decide) (by decide)) (show decode M_Model_text.2.1 6 = .ok (.invokestatic 76, 3) by decide +kernel) wd_1617 wd_1618 (fun r_1 b_1 σ_1 => ?_)
  show V M_Model_text 126 0 0 0 0 tI _ 9 [(0, vR h0), (1, vI x1), (2, vI x2)] [vI r_1] b_1 σ_1
  refine V_jn (fun (J29 : Int32 → Bool → Sto → Rs Int32) => ∀ (s0_29 : Int32) (b : Bool) (σ : Sto), V M_Model_text 126 0 0 0 0 tI (J29 s0_29 b σ) 29 [(0, vR h0), (1, vI x1), (2, vI x2)] [vI s0_29] b σ) ?_ (fun J29 hJ29 => ?_)
  · intro s0_29 b σ
    refine V_istore_n (fun x3_2 => [(3, vI x3_2), (0, vR h0), (1, vI x1), (2, vI x2)]) 30 rfl (show decode M_Model_text.2.1 29 = .ok (.istore_n 3, 1) by decide +kernel) (by decide) (fun _ => rfl) (fun x3_2 => ?_)
    refine V_aload_n 31 rfl (show decode M_Model_text.2.1 30 = .ok (.aload_n 0, 1) by decide +kernel) 1 rfl ?_
    refine V_callV (tb := tI) (as := []) (rest := []) (na := 0) 34 rfl ck_Model (by decide) (s_Model_parse h0 (b && cK σ h0 13) σ) rfl rfl (Nat.le_of_ble_eq_true rfl) (cal_Model_parse _ _ _ _ _ (by decide) (by decide) (by decide)) (show decode M_Model_text.2.1 31 = .ok (.invokevirtual 245, 3) by decide +kernel) wd_1744 wd_1746 wd_126 (fun r_3 b_3 σ_3 => ?_)
    show V M_Model_text 126 0 0 0 0 tI _ 34 [(3, vI x3_2), (0, vR h0), (1, vI x1), (2, vI x2)] [vI r_3] b_3 σ_3
    refine V_istore (fun x4_4 => [(4, vI x4_4), (3, vI x3_2), (0, vR h0), (1, vI x1), (2, vI x2)]) 36 rfl (show decode M_Model_text.2.1 34 = .ok (.istore 4, 2) by decide +kernel) (by decide) (fun _ => rfl) (fun x4_4 => ?_)
    refine V_iload_n 37 rfl (show decode M_Model_text.2.1 36 = .ok (.iload_n 3, 1) by decide +kernel) 1 rfl ?_
    refine V_ifne 40 43 rfl (show decode M_Model_text.2.1 37 = .ok (.ifCond .ne 6, 3) by decide +kernel) rfl ?_ ?_
    · skip
      refine V_ldc 42 rfl (show decode M_Model_text.2.1 40 = .ok (.ldc 91, 2) by decide +kernel) wd_1620 ?_
      exact V_iret rfl (by decide) (by decide) (show decode M_Model_text.2.1 42 = .ok (.ireturn, 1) by decide +kernel)
    · skip
      refine V_iload 45 rfl (show decode M_Model_text.2.1 43 = .ok (.iload 4, 2) by decide +kernel) 0 rfl ?_
      refine V_ifge 48 56 rfl (show decode M_Model_text.2.1 45 = .ok (.ifCond .ge 11, 3) by decide +kernel) rfl ?_ ?_
      · skip
        refine V_bipush 50 rfl (show decode M_Model_text.2.1 48 = .ok (.bipush (-100), 2) by decide +kernel) (v := -100) rfl ?_
        refine V_aload_n 51 rfl (show decode M_Model_text.2.1 50 = .ok (.aload_n 0, 1) by decide +kernel) 2 rfl ?_
        refine V_get (j := 9) (v := vI (SI σ_3 h0 9)) 54 rfl ck_Model (by decide) (by decide) (show decode M_Model_text.2.1 51 = .ok (.getfield 170, 3) by decide +kernel) wd_1513 rfl ?_
        refine V_isub 55 rfl (show decode M_Model_text.2.1 54 = .ok (.isub, 1) by decide +kernel) ?_
        exact V_iret rfl (by decide) (by decide) (show decode M_Model_text.2.1 55 = .ok (.ireturn, 1) by decide +kernel)
      · skip
        refine V_aload_n 57 rfl (show decode M_Model_text.2.1 56 = .ok (.aload_n 0, 1) by decide +kernel) 2 rfl ?_
        refine V_get (j := 0) (v := vR (SR σ_3 h0 0)) 60 rfl ck_Model (by decide) (by decide) (show decode M_Model_text.2.1 57 = .ok (.getfield 7, 3) by decide +kernel) wd_1504 rfl ?_
        refine V_iconst 61 rfl (show decode M_Model_text.2.1 60 = .ok (.iconst 4, 1) by decide +kernel) (v := 4) rfl ?_
        refine V_ald_int 62 rfl (show decode M_Model_text.2.1 61 = .ok (.iaload, 1) by decide +kernel) ?_
        refine V_bipush 64 rfl (show decode M_Model_text.2.1 62 = .ok (.bipush 12, 2) by decide +kernel) (v := 12) rfl ?_
        refine V_icmpne 67 70 rfl (show decode M_Model_text.2.1 64 = .ok (.if_icmp .ne 6, 3) by decide +kernel) rfl ?_ ?_
        · skip
          refine V_ldc 69 rfl (show decode M_Model_text.2.1 67 = .ok (.ldc 119, 2) by decide +kernel) wd_1656 ?_
          exact V_iret rfl (by decide) (by decide) (show decode M_Model_text.2.1 69 = .ok (.ireturn, 1) by decide +kernel)
        · skip
          refine V_aload_n 71 rfl (show decode M_Model_text.2.1 70 = .ok (.aload_n 0, 1) by decide +kernel) 2 rfl ?_
          refine V_aload_n 72 rfl (show decode M_Model_text.2.1 71 = .ok (.aload_n 0, 1) by decide +kernel) 2 rfl ?_
          refine V_get (j := 0) (v := vR (SR σ_3 h0 0)) 75 rfl ck_Model (by decide) (by decide) (show decode M_Model_text.2.1 72 = .ok (.getfield 7, 3) by decide +kernel) wd_1504 rfl ?_
          refine V_iconst 76 rfl (show decode M_Model_text.2.1 75 = .ok (.iconst 4, 1) by decide +kernel) (v := 4) rfl ?_
          refine V_ald_int 77 rfl (show decode M_Model_text.2.1 76 = .ok (.iaload, 1) by decide +kernel) ?_
          refine V_callV (tb := tI) (as := [vI (SI σ_3 (SR σ_3 h0 0) (ix (4 : Int32)))]) (rest := []) (na := 1) 80 rfl ck_Model (by decide) (s_Model_textAt h0 (SI σ_3 (SR σ_3 h0 0) (ix (4 : Int32))) (((((b_3 && cK σ_3 h0 13) && cA σ_3 (SR σ_3 h0 0) 21 (4 : Int32)) && cK σ_3 h0 13) && cA σ_3 (SR σ_3 h0 0) 21 (4 : Int32)) && cK σ_3 h0 13) σ_3) rfl rfl (Nat.le_of_ble_eq_true rfl) (cal_Model_textAt _ _ _ _ _ (by decide) (by decide) (by decide)) (show decode M_Model_text.2.1 77 = .ok (.invokevirtual 236, 3) by decide +kernel) wd_1748 wd_1750 wd_127 (fun r_5 b_5 σ_5 => ?_)
          show V M_Model_text 126 0 0 0 0 tI _ 80 [(4, vI x4_4), (3, vI x3_2), (0, vR h0), (1, vI x1), (2, vI x2)] [vI r_5] b_5 σ_5
          refine V_istore (fun x5_6 => [(5, vI x5_6), (4, vI x4_4), (3, vI x3_2), (0, vR h0), (1, vI x1), (2, vI x2)]) 82 rfl (show decode M_Model_text.2.1 80 = .ok (.istore 5, 2) by decide +kernel) (by decide) (fun _ => rfl) (fun x5_6 => ?_)
          refine V_aload_n 83 rfl (show decode M_Model_text.2.1 82 = .ok (.aload_n 0, 1) by decide +kernel) 3 rfl ?_
          refine V_get (j := 0) (v := vR (SR σ_5 h0 0)) 86 rfl ck_Model (by decide) (by decide) (show decode M_Model_text.2.1 83 = .ok (.getfield 7, 3) by decide +kernel) wd_1504 rfl ?_
          refine V_iload 88 rfl (show decode M_Model_text.2.1 86 = .ok (.iload 5, 2) by decide +kernel) 0 rfl ?_
          refine V_iconst 89 rfl (show decode M_Model_text.2.1 88 = .ok (.iconst 0, 1) by decide +kernel) (v := 0) rfl ?_
          refine V_iadd 90 rfl (show decode M_Model_text.2.1 89 = .ok (.iadd, 1) by decide +kernel) ?_
          refine V_iload 92 rfl (show decode M_Model_text.2.1 90 = .ok (.iload 4, 2) by decide +kernel) 1 rfl ?_
          refine V_ast_int 93 rfl (show decode M_Model_text.2.1 92 = .ok (.iastore, 1) by decide +kernel) (fun σ_7 => ?_)
          refine V_aload_n 94 rfl (show decode M_Model_text.2.1 93 = .ok (.aload_n 0, 1) by decide +kernel) 3 rfl ?_
          refine V_get (j := 0) (v := vR (SR σ_7 h0 0)) 97 rfl ck_Model (by decide) (by decide) (show decode M_Model_text.2.1 94 = .ok (.getfield 7, 3) by decide +kernel) wd_1504 rfl ?_
          refine V_iload 99 rfl (show decode M_Model_text.2.1 97 = .ok (.iload 5, 2) by decide +kernel) 0 rfl ?_
          refine V_iconst 100 rfl (show decode M_Model_text.2.1 99 = .ok (.iconst 1, 1) by decide +kernel) (v := 1) rfl ?_
          refine V_iadd 101 rfl (show decode M_Model_text.2.1 100 = .ok (.iadd, 1) by decide +kernel) ?_
          refine V_iload_n 102 rfl (show decode M_Model_text.2.1 101 = .ok (.iload_n 1, 1) by decide +kernel) 4 rfl ?_
          refine V_ast_int 103 rfl (show decode M_Model_text.2.1 102 = .ok (.iastore, 1) by decide +kernel) (fun σ_8 => ?_)
          refine V_aload_n 104 rfl (show decode M_Model_text.2.1 103 = .ok (.aload_n 0, 1) by decide +kernel) 3 rfl ?_
          refine V_get (j := 0) (v := vR (SR σ_8 h0 0)) 107 rfl ck_Model (by decide) (by decide) (show decode M_Model_text.2.1 104 = .ok (.getfield 7, 3) by decide +kernel) wd_1504 rfl ?_
          refine V_iload 109 rfl (show decode M_Model_text.2.1 107 = .ok (.iload 5, 2) by decide +kernel) 0 rfl ?_
          refine V_iconst 110 rfl (show decode M_Model_text.2.1 109 = .ok (.iconst 2, 1) by decide +kernel) (v := 2) rfl ?_
          refine V_iadd 111 rfl (show decode M_Model_text.2.1 110 = .ok (.iadd, 1) by decide +kernel) ?_
          refine V_iload_n 112 rfl (show decode M_Model_text.2.1 111 = .ok (.iload_n 2, 1) by decide +kernel) 5 rfl ?_
          refine V_ast_int 113 rfl (show decode M_Model_text.2.1 112 = .ok (.iastore, 1) by decide +kernel) (fun σ_9 => ?_)
          refine V_aload_n 114 rfl (show decode M_Model_text.2.1 113 = .ok (.aload_n 0, 1) by decide +kernel) 3 rfl ?_
          refine V_get (j := 0) (v := vR (SR σ_9 h0 0)) 117 rfl ck_Model (by decide) (by decide) (show decode M_Model_text.2.1 114 = .ok (.getfield 7, 3) by decide +kernel) wd_1504 rfl ?_
          refine V_iload 119 rfl (show decode M_Model_text.2.1 117 = .ok (.iload 5, 2) by decide +kernel) 0 rfl ?_
          refine V_iconst 120 rfl (show decode M_Model_text.2.1 119 = .ok (.iconst 3, 1) by decide +kernel) (v := 3) rfl ?_
          refine V_iadd 121 rfl (show decode M_Model_text.2.1 120 = .ok (.iadd, 1) by decide +kernel) ?_
          refine V_aload_n 122 rfl (show decode M_Model_text.2.1 121 = .ok (.aload_n 0, 1) by decide +kernel) 3 rfl ?_
          refine V_get (j := 18) (v := vI (SI σ_9 h0 18)) 125 rfl ck_Model (by decide) (by decide) (show decode M_Model_text.2.1 122 = .ok (.getfield 220, 3) by decide +kernel) wd_1522 rfl ?_
          refine V_ast_int 126 rfl (show decode M_Model_text.2.1 125 = .ok (.iastore, 1) by decide +kernel) (fun σ_10 => ?_)
          refine V_aload_n 127 rfl (show decode M_Model_text.2.1 126 = .ok (.aload_n 0, 1) by decide +kernel) 3 rfl ?_
          refine V_get (j := 0) (v := vR (SR σ_10 h0 0)) 130 rfl ck_Model (by decide) (by decide) (show decode M_Model_text.2.1 127 = .ok (.getfield 7, 3) by decide +kernel) wd_1504 rfl ?_
          refine V_iload 132 rfl (show decode M_Model_text.2.1 130 = .ok (.iload 5, 2) by decide +kernel) 0 rfl ?_
          refine V_iconst 133 rfl (show decode M_Model_text.2.1 132 = .ok (.iconst 4, 1) by decide +kernel) (v := 4) rfl ?_
          refine V_iadd 134 rfl (show decode M_Model_text.2.1 133 = .ok (.iadd, 1) by decide +kernel) ?_
          refine V_aload_n 135 rfl (show decode M_Model_text.2.1 134 = .ok (.aload_n 0, 1) by decide +kernel) 3 rfl ?_
          refine V_get (j := 16) (v := vI (SI σ_10 h0 16)) 138 rfl ck_Model (by decide) (by decide) (show decode M_Model_text.2.1 135 = .ok (.getfield 192, 3) by decide +kernel) wd_1520 rfl ?_
          refine V_ast_int 139 rfl (show decode M_Model_text.2.1 138 = .ok (.iastore, 1) by decide +kernel) (fun σ_11 => ?_)
          refine V_aload_n 140 rfl (show decode M_Model_text.2.1 139 = .ok (.aload_n 0, 1) by decide +kernel) 3 rfl ?_
          refine V_get (j := 0) (v := vR (SR σ_11 h0 0)) 143 rfl ck_Model (by decide) (by decide) (show decode M_Model_text.2.1 140 = .ok (.getfield 7, 3) by decide +kernel) wd_1504 rfl ?_
          refine V_iconst 144 rfl (show decode M_Model_text.2.1 143 = .ok (.iconst 4, 1) by decide +kernel) (v := 4) rfl ?_
          refine V_dup2 145 rfl (show decode M_Model_text.2.1 144 = .ok (.dup2, 1) by decide +kernel) rfl rfl ?_
          refine V_ald_int 146 rfl (show decode M_Model_text.2.1 145 = .ok (.iaload, 1) by decide +kernel) ?_
          refine V_iconst 147 rfl (show decode M_Model_text.2.1 146 = .ok (.iconst 1, 1) by decide +kernel) (v := 1) rfl ?_
          refine V_iadd 148 rfl (show decode M_Model_text.2.1 147 = .ok (.iadd, 1) by decide +kernel) ?_
          refine V_ast_int 149 rfl (show decode M_Model_text.2.1 148 = .ok (.iastore, 1) by decide +kernel) (fun σ_12 => ?_)
          refine V_aload_n 150 rfl (show decode M_Model_text.2.1 149 = .ok (.aload_n 0, 1) by decide +kernel) 3 rfl ?_
          refine V_get (j := 0) (v := vR (SR σ_12 h0 0)) 153 rfl ck_Model (by decide) (by decide) (show decode M_Model_text.2.1 150 = .ok (.getfield 7, 3) by decide +kernel) wd_1504 rfl ?_
          refine V_iconst 154 rfl (show decode M_Model_text.2.1 153 = .ok (.iconst 4, 1) by decide +kernel) (v := 4) rfl ?_
          refine V_ald_int 155 rfl (show decode M_Model_text.2.1 154 = .ok (.iaload, 1) by decide +kernel) ?_
          refine V_iconst 156 rfl (show decode M_Model_text.2.1 155 = .ok (.iconst 1, 1) by decide +kernel) (v := 1) rfl ?_
          refine V_isub 157 rfl (show decode M_Model_text.2.1 156 = .ok (.isub, 1) by decide +kernel) ?_
          exact V_iret rfl (by decide) (by decide) (show decode M_Model_text.2.1 157 = .ok (.ireturn, 1) by decide +kernel)
  · skip
    refine V_jn (fun (J28 : Bool → Sto → Rs Int32) => ∀ (b : Bool) (σ : Sto), V M_Model_text 126 0 0 0 0 tI (J28 b σ) 28 [(0, vR h0), (1, vI x1), (2, vI x2)] [] b σ) ?_ (fun J28 hJ28 => ?_)
    · intro b σ
      refine V_iconst 29 rfl (show decode M_Model_text.2.1 28 = .ok (.iconst 0, 1) by decide +kernel) (v := 0) rfl ?_
      exact V_sub [0, 1, 2] rfl (hJ29 (0 : Int32) b σ)
    · skip
      refine V_ifeq 12 28 rfl (show decode M_Model_text.2.1 9 = .ok (.ifCond .eq 19, 3) by decide +kernel) rfl ?_ ?_
      · skip
        exact V_sub [0, 1, 2] rfl (hJ28 b_1 σ_1)
      · skip
        refine V_iload_n 13 rfl (show decode M_Model_text.2.1 12 = .ok (.iload_n 2, 1) by decide +kernel) 2 rfl ?_
        refine V_i2l 14 rfl (show decode M_Model_text.2.1 13 = .ok (.i2l, 1) by decide +kernel) ?_
        refine V_lconst 15 rfl (show decode M_Model_text.2.1 14 = .ok (.lconst 0, 1) by decide +kernel) (v := 0) rfl ?_
        refine V_ldc2 18 rfl (show decode M_Model_text.2.1 15 = .ok (.ldc2_w 243, 3) by decide +kernel) wd_1743 ?_
        refine V_callS (tb := tI) (as := [vL ((x2).toInt64), vL (0 : Int64), vL (999 : Int64)]) (rest := []) (na := 3) 21 rfl (s_Model_isIn ((x2).toInt64) (0 : Int64) (999 : Int64) b_1 σ_1) rfl rfl (Nat.le_of_ble_eq_true rfl) (cal_Model_isIn _ _ _ _ _ (by decide) (by decide) (by decide)) (show decode M_Model_text.2.1 18 = .ok (.invokestatic 76, 3) by decide +kernel) wd_1617 wd_1618 (fun r_13 b_13 σ_13 => ?_)
        show V M_Model_text 126 0 0 0 0 tI _ 21 [(0, vR h0), (1, vI x1), (2, vI x2)] [vI r_13] b_13 σ_13
        refine V_ifeq 24 28 rfl (show decode M_Model_text.2.1 21 = .ok (.ifCond .eq 7, 3) by decide +kernel) rfl ?_ ?_
        · skip
          exact V_sub [0, 1, 2] rfl (hJ28 b_13 σ_13)
        · skip
          refine V_iconst 25 rfl (show decode M_Model_text.2.1 24 = .ok (.iconst 1, 1) by decide +kernel) (v := 1) rfl ?_
          refine V_goto 29 (show decode M_Model_text.2.1 25 = .ok (.goto 4, 3) by decide +kernel) rfl ?_
          exact V_sub [0, 1, 2] rfl (hJ29 (1 : Int32) b_13 σ_13)
theorem cal_Model_text (d mc ms k n : Nat) (h1 : 126 + 1 ≤ d) (h2 : k + 0 ≤ mc) (h3 : n + 0 ≤ ms) : Cal M_Model_text 126 0 0 2 d mc ms k n := ⟨wd_1742, wd_181, by decide, h1, by decide, h2, h3⟩
abbrev M_Model_told : MD := (⟨"LongTrailModel", "told", "(II)I"⟩, prog_14_method_25_code, 5, (some FieldType.int))
def b_Model_told_61 (h0 : Nat) (x1 : Int32) (L61 : Int32 → Int32 → Bool → Sto → Rs Int32) (x3 : Int32) (x4 : Int32) (b : Bool) (σ : Sto) : Rs Int32 := (if x4 < (SI σ (SR σ h0 0) (ix (6 : Int32))) then (bd_ (f_Model_boxAt h0 x4 ((((b && cK σ h0 13) && cA σ (SR σ h0 0) 21 (6 : Int32)) && cK σ h0 13) && cK σ h0 13) σ) (fun (r_8 : Int32) (b_8 : Bool) (σ_8 : Sto) => (lt_ (fun (s0_112 : Int32) (s1_112 : Int32) (b : Bool) (σ : Sto) => (lt_ (s1_112 + s0_112) (fun (x3_9 : Int32) => (lt_ (x4 + (1 : Int32)) (fun (x4_10 : Int32) => (L61 x3_9 x4_10 b σ)))))) (fun J112 => (lt_ (fun (s0_111 : Int32) (b : Bool) (σ : Sto) => (J112 (0 : Int32) s0_111 b σ)) (fun J111 => (if (SI σ_8 (SR σ h0 0) (ix (r_8 + (1 : Int32)))) = x1 then (bd_ (f_Model_boxAt h0 x4 (((b_8 && cA σ_8 (SR σ h0 0) 21 (r_8 + (1 : Int32))) && cK σ_8 h0 13) && cK σ_8 h0 13) σ_8) (fun (r_11 : Int32) (b_11 : Bool) (σ_11 : Sto) => (if (SI σ_11 (SR σ_8 h0 0) (ix (r_11 + (4 : Int32)))) = 0 then (J112 (1 : Int32) x3 (b_11 && cA σ_11 (SR σ_8 h0 0) 21 (r_11 + (4 : Int32))) σ_11) else (J111 x3 (b_11 && cA σ_11 (SR σ_8 h0 0) 21 (r_11 + (4 : Int32))) σ_11)))) else (J111 x3 (b_8 && cA σ_8 (SR σ h0 0) 21 (r_8 + (1 : Int32))) σ_8)))))))) else (x3, ((b && cK σ h0 13) && cA σ (SR σ h0 0) 21 (6 : Int32)), σ))
def f_Model_told (h0 : Nat) (x1 : Int32) (x2 : Int32) (b : Bool) (σ : Sto) : Rs Int32 := (bd_ (f_Model_isPlace h0 x1 (b && cK σ h0 13) σ) (fun (r_1 : Int32) (b_1 : Bool) (σ_1 : Sto) => (lt_ (fun (b : Bool) (σ : Sto) => ((-1000000001 : Int32), b, σ)) (fun J20 => (if r_1 = 0 then (J20 b_1 σ_1) else (bd_ (f_Model_isIn ((x2).toInt64) (0 : Int64) (5 : Int64) b_1 σ_1) (fun (r_2 : Int32) (b_2 : Bool) (σ_2 : Sto) => (if r_2 = 0 then (J20 b_2 σ_2) else (if x2 < (4 : Int32) then (bd_ (f_Model_placeAt h0 x1 ((b_2 && cK σ_2 h0 13) && cK σ_2 h0 13) σ_2) (fun (r_3 : Int32) (b_3 : Bool) (σ_3 : Sto) => ((SI σ_3 (SR σ_2 h0 0) (ix (r_3 + x2))), (b_3 && cA σ_3 (SR σ_2 h0 0) 21 (r_3 + x2)), σ_3))) else (if x2 = (4 : Int32) then (bd_ (f_Model_mileOf h0 x1 (b_2 && cK σ_2 h0 13) σ_2) (fun (r_4 : Int32) (b_4 : Bool) (σ_4 : Sto) => (bd_ (f_Model_walkersOn h0 r_4 (b_4 && cK σ_4 h0 13) σ_4) (fun (r_5 : Int32) (b_5 : Bool) (σ_5 : Sto) => (r_5, b_5, σ_5))))) else (lt_ (0 : Int32) (fun (x3_6 : Int32) => (lt_ (0 : Int32) (fun (x4_7 : Int32) => (lp_ (b_Model_told_61 h0 x1) (fun (x3 : Int32) (x4 : Int32) (b : Bool) (σ : Sto) => (0, false, σ)) fuel_ x3_6 x4_7 b_2 σ_2)))))))))))))))
set_option maxRecDepth 100000 in
set_option maxHeartbeats 4000000 in
theorem s_Model_told : ∀ (h0 : Nat) (x1 : Int32) (x2 : Int32) (b : Bool) (σ : Sto), Snd M_Model_told 4 0 0 [vR h0, vI x1, vI x2] b σ (tI (f_Model_told h0 x1 x2 b σ).1) (f_Model_told h0 x1 x2 b σ).2.1 (f_Model_told h0 x1 x2 b σ).2.2 := by
  intro h0 x1 x2 b σ
  refine Snd_of (tv := tI) (by decide) (Nat.le_of_ble_eq_true rfl) ?_
  show V M_Model_told 4 0 0 0 0 tI (f_Model_told h0 x1 x2 b σ) 0 [(0, vR h0), (1, vI x1), (2, vI x2)] [] b σ
  unfold f_Model_told
  refine V_aload_n 1 rfl (show decode M_Model_told.2.1 0 = .ok (.aload_n 0, 1) by decide +kernel) 0 rfl ?_
  refine V_iload_n 2 rfl (show decode M_Model_told.2.1 1 = .ok (.iload_n 1, 1) by decide +kernel) 1 rfl ?_
  refine V_callV (tb := tI) (as := [vI x1]) (rest := []) (na := 1) 5 rfl ck_Model (by decide) (s_Model_isPlace h0 x1 (b && cK σ h0 13) σ) rfl rfl (Nat.le_of_ble_eq_true rfl) (cal_Model_isPlace _ _ _ _ _ (by decide) (by decide) (by decide)) (show decode M_Model_told.2.1 2 = .ok (.invokevirtual 123, 3) by decide +kernel) wd_1661 wd_1663 wd_118 (fun r_1 b_1 σ_1 => ?_)
  show V M_Model_told 4 0 0 0 0 tI _ 5 [(0, vR h0), (1, vI x1), (2, vI x2)] [vI r_1] b_1 σ_1
  refine V_jn (fun (J20 : Bool → Sto → Rs Int32) => ∀ (b : Bool) (σ : Sto), V M_Model_told 4 0 0 0 0 tI (J20 b σ) 20 [] [] b σ) ?_ (fun J20 hJ20 => ?_)
  · intro b σ
    refine V_ldc 22 rfl (show decode M_Model_told.2.1 20 = .ok (.ldc 91, 2) by decide +kernel) wd_1620 ?_
    exact V_iret rfl (by decide) (by decide) (show decode M_Model_told.2.1 22 = .ok (.ireturn, 1) by decide +kernel)
  · skip
    refine V_ifeq 8 20 rfl (show decode M_Model_told.2.1 5 = .ok (.ifCond .eq 15, 3) by decide +kernel) rfl ?_ ?_
    · skip
      exact V_sub [] rfl (hJ20 b_1 σ_1)
    · skip
      refine V_iload_n 9 rfl (show decode M_Model_told.2.1 8 = .ok (.iload_n 2, 1) by decide +kernel) 2 rfl ?_
      refine V_i2l 10 rfl (show decode M_Model_told.2.1 9 = .ok (.i2l, 1) by decide +kernel) ?_
      refine V_lconst 11 rfl (show decode M_Model_told.2.1 10 = .ok (.lconst 0, 1) by decide +kernel) (v := 0) rfl ?_
      refine V_ldc2 14 rfl (show decode M_Model_told.2.1 11 = .ok (.ldc2_w 111, 3) by decide +kernel) wd_1647 ?_
      refine V_callS (tb := tI) (as := [vL ((x2).toInt64), vL (0 : Int64), vL (5 : Int64)]) (rest := []) (na := 3) 17 rfl (s_Model_isIn ((x2).toInt64) (0 : Int64) (5 : Int64) b_1 σ_1) rfl rfl (Nat.le_of_ble_eq_true rfl) (cal_Model_isIn _ _ _ _ _ (by decide) (by decide) (by decide)) (show decode M_Model_told.2.1 14 = .ok (.invokestatic 76, 3) by decide +kernel) wd_1617 wd_1618 (fun r_2 b_2 σ_2 => ?_)
      show V M_Model_told 4 0 0 0 0 tI _ 17 [(0, vR h0), (1, vI x1), (2, vI x2)] [vI r_2] b_2 σ_2
      refine V_ifne 20 23 rfl (show decode M_Model_told.2.1 17 = .ok (.ifCond .ne 6, 3) by decide +kernel) rfl ?_ ?_
      · skip
        exact V_sub [] rfl (hJ20 b_2 σ_2)
      · skip
        refine V_iload_n 24 rfl (show decode M_Model_told.2.1 23 = .ok (.iload_n 2, 1) by decide +kernel) 2 rfl ?_
        refine V_iconst 25 rfl (show decode M_Model_told.2.1 24 = .ok (.iconst 4, 1) by decide +kernel) (v := 4) rfl ?_
        refine V_icmpge 28 41 rfl (show decode M_Model_told.2.1 25 = .ok (.if_icmp .ge 16, 3) by decide +kernel) rfl ?_ ?_
        · skip
          refine V_aload_n 29 rfl (show decode M_Model_told.2.1 28 = .ok (.aload_n 0, 1) by decide +kernel) 0 rfl ?_
          refine V_get (j := 0) (v := vR (SR σ_2 h0 0)) 32 rfl ck_Model (by decide) (by decide) (show decode M_Model_told.2.1 29 = .ok (.getfield 7, 3) by decide +kernel) wd_1504 rfl ?_
          refine V_aload_n 33 rfl (show decode M_Model_told.2.1 32 = .ok (.aload_n 0, 1) by decide +kernel) 0 rfl ?_
          refine V_iload_n 34 rfl (show decode M_Model_told.2.1 33 = .ok (.iload_n 1, 1) by decide +kernel) 1 rfl ?_
          refine V_callV (tb := tI) (as := [vI x1]) (rest := [vR (SR σ_2 h0 0)]) (na := 1) 37 rfl ck_Model (by decide) (s_Model_placeAt h0 x1 ((b_2 && cK σ_2 h0 13) && cK σ_2 h0 13) σ_2) rfl rfl (Nat.le_of_ble_eq_true rfl) (cal_Model_placeAt _ _ _ _ _ (by decide) (by decide) (by decide)) (show decode M_Model_told.2.1 34 = .ok (.invokevirtual 80, 3) by decide +kernel) wd_1625 wd_1627 wd_113 (fun r_3 b_3 σ_3 => ?_)
          show V M_Model_told 4 0 0 0 0 tI _ 37 [(0, vR h0), (1, vI x1), (2, vI x2)] [vI r_3, vR (SR σ_2 h0 0)] b_3 σ_3
          refine V_iload_n 38 rfl (show decode M_Model_told.2.1 37 = .ok (.iload_n 2, 1) by decide +kernel) 2 rfl ?_
          refine V_iadd 39 rfl (show decode M_Model_told.2.1 38 = .ok (.iadd, 1) by decide +kernel) ?_
          refine V_ald_int 40 rfl (show decode M_Model_told.2.1 39 = .ok (.iaload, 1) by decide +kernel) ?_
          exact V_iret rfl (by decide) (by decide) (show decode M_Model_told.2.1 40 = .ok (.ireturn, 1) by decide +kernel)
        · skip
          refine V_iload_n 42 rfl (show decode M_Model_told.2.1 41 = .ok (.iload_n 2, 1) by decide +kernel) 2 rfl ?_
          refine V_iconst 43 rfl (show decode M_Model_told.2.1 42 = .ok (.iconst 4, 1) by decide +kernel) (v := 4) rfl ?_
          refine V_icmpne 46 56 rfl (show decode M_Model_told.2.1 43 = .ok (.if_icmp .ne 13, 3) by decide +kernel) rfl ?_ ?_
          · skip
            refine V_aload_n 47 rfl (show decode M_Model_told.2.1 46 = .ok (.aload_n 0, 1) by decide +kernel) 0 rfl ?_
            refine V_aload_n 48 rfl (show decode M_Model_told.2.1 47 = .ok (.aload_n 0, 1) by decide +kernel) 0 rfl ?_
            refine V_iload_n 49 rfl (show decode M_Model_told.2.1 48 = .ok (.iload_n 1, 1) by decide +kernel) 1 rfl ?_
            refine V_callV (tb := tI) (as := [vI x1]) (rest := [vR h0]) (na := 1) 52 rfl ck_Model (by decide) (s_Model_mileOf h0 x1 (b_2 && cK σ_2 h0 13) σ_2) rfl rfl (Nat.le_of_ble_eq_true rfl) (cal_Model_mileOf _ _ _ _ _ (by decide) (by decide) (by decide)) (show decode M_Model_told.2.1 49 = .ok (.invokevirtual 92, 3) by decide +kernel) wd_1621 wd_1623 wd_112 (fun r_4 b_4 σ_4 => ?_)
            show V M_Model_told 4 0 0 0 0 tI _ 52 [(0, vR h0), (1, vI x1), (2, vI x2)] [vI r_4, vR h0] b_4 σ_4
            refine V_callV (tb := tI) (as := [vI r_4]) (rest := []) (na := 1) 55 rfl ck_Model (by decide) (s_Model_walkersOn h0 r_4 (b_4 && cK σ_4 h0 13) σ_4) rfl rfl (Nat.le_of_ble_eq_true rfl) (cal_Model_walkersOn _ _ _ _ _ (by decide) (by decide) (by decide)) (show decode M_Model_told.2.1 52 = .ok (.invokevirtual 126, 3) by decide +kernel) wd_1665 wd_1667 wd_119 (fun r_5 b_5 σ_5 => ?_)
            show V M_Model_told 4 0 0 0 0 tI _ 55 [(0, vR h0), (1, vI x1), (2, vI x2)] [vI r_5] b_5 σ_5
            exact V_iret rfl (by decide) (by decide) (show decode M_Model_told.2.1 55 = .ok (.ireturn, 1) by decide +kernel)
          · skip
            refine V_iconst 57 rfl (show decode M_Model_told.2.1 56 = .ok (.iconst 0, 1) by decide +kernel) (v := 0) rfl ?_
            refine V_istore_n (fun x3_6 => [(3, vI x3_6), (0, vR h0), (1, vI x1), (2, vI x2)]) 58 rfl (show decode M_Model_told.2.1 57 = .ok (.istore_n 3, 1) by decide +kernel) (by decide) (fun _ => rfl) (fun x3_6 => ?_)
            refine V_iconst 59 rfl (show decode M_Model_told.2.1 58 = .ok (.iconst 0, 1) by decide +kernel) (v := 0) rfl ?_
            refine V_istore (fun x4_7 => [(4, vI x4_7), (3, vI x3_6), (0, vR h0), (1, vI x1), (2, vI x2)]) 61 rfl (show decode M_Model_told.2.1 59 = .ok (.istore 4, 2) by decide +kernel) (by decide) (fun _ => rfl) (fun x4_7 => ?_)
            refine V_sub [2, 3, 1, 0] rfl ?_
            refine lp_P (fun (L61 : Int32 → Int32 → Bool → Sto → Rs Int32) => ∀ (x3 : Int32) (x4 : Int32) (b : Bool) (σ : Sto), V M_Model_told 4 0 0 0 0 tI (L61 x3 x4 b σ) 61 [(0, vR h0), (1, vI x1), (3, vI x3), (4, vI x4)] [] b σ) ?_ ?_ fuel_ x3_6 x4_7 b_2 σ_2
            · intro x3 x4 b σ; exact V_bad
            · intro L61 hL61 x3 x4 b σ
              unfold b_Model_told_61
              refine V_iload 63 rfl (show decode M_Model_told.2.1 61 = .ok (.iload 4, 2) by decide +kernel) 3 rfl ?_
              refine V_aload_n 64 rfl (show decode M_Model_told.2.1 63 = .ok (.aload_n 0, 1) by decide +kernel) 0 rfl ?_
              refine V_get (j := 0) (v := vR (SR σ h0 0)) 67 rfl ck_Model (by decide) (by decide) (show decode M_Model_told.2.1 64 = .ok (.getfield 7, 3) by decide +kernel) wd_1504 rfl ?_
              refine V_bipush 69 rfl (show decode M_Model_told.2.1 67 = .ok (.bipush 6, 2) by decide +kernel) (v := 6) rfl ?_
              refine V_ald_int 70 rfl (show decode M_Model_told.2.1 69 = .ok (.iaload, 1) by decide +kernel) ?_
              refine V_icmpge 73 120 rfl (show decode M_Model_told.2.1 70 = .ok (.if_icmp .ge 50, 3) by decide +kernel) rfl ?_ ?_
              · skip
                refine V_iload_n 74 rfl (show decode M_Model_told.2.1 73 = .ok (.iload_n 3, 1) by decide +kernel) 2 rfl ?_
                refine V_aload_n 75 rfl (show decode M_Model_told.2.1 74 = .ok (.aload_n 0, 1) by decide +kernel) 0 rfl ?_
                refine V_get (j := 0) (v := vR (SR σ h0 0)) 78 rfl ck_Model (by decide) (by decide) (show decode M_Model_told.2.1 75 = .ok (.getfield 7, 3) by decide +kernel) wd_1504 rfl ?_
                refine V_aload_n 79 rfl (show decode M_Model_told.2.1 78 = .ok (.aload_n 0, 1) by decide +kernel) 0 rfl ?_
                refine V_iload 81 rfl (show decode M_Model_told.2.1 79 = .ok (.iload 4, 2) by decide +kernel) 3 rfl ?_
                refine V_callV (tb := tI) (as := [vI x4]) (rest := [vR (SR σ h0 0), vI x3]) (na := 1) 84 rfl ck_Model (by decide) (s_Model_boxAt h0 x4 ((((b && cK σ h0 13) && cA σ (SR σ h0 0) 21 (6 : Int32)) && cK σ h0 13) && cK σ h0 13) σ) rfl rfl (Nat.le_of_ble_eq_true rfl) (cal_Model_boxAt _ _ _ _ _ (by decide) (by decide) (by decide)) (show decode M_Model_told.2.1 81 = .ok (.invokevirtual 129, 3) by decide +kernel) wd_1677 wd_1679 wd_122 (fun r_8 b_8 σ_8 => ?_)
                show V M_Model_told 4 0 0 0 0 tI _ 84 [(0, vR h0), (1, vI x1), (3, vI x3), (4, vI x4)] [vI r_8, vR (SR σ h0 0), vI x3] b_8 σ_8
                refine V_iconst 85 rfl (show decode M_Model_told.2.1 84 = .ok (.iconst 1, 1) by decide +kernel) (v := 1) rfl ?_
                refine V_iadd 86 rfl (show decode M_Model_told.2.1 85 = .ok (.iadd, 1) by decide +kernel) ?_
                refine V_ald_int 87 rfl (show decode M_Model_told.2.1 86 = .ok (.iaload, 1) by decide +kernel) ?_
                refine V_iload_n 88 rfl (show decode M_Model_told.2.1 87 = .ok (.iload_n 1, 1) by decide +kernel) 1 rfl ?_
                refine V_jn (fun (J112 : Int32 → Int32 → Bool → Sto → Rs Int32) => ∀ (s0_112 : Int32) (s1_112 : Int32) (b : Bool) (σ : Sto), V M_Model_told 4 0 0 0 0 tI (J112 s0_112 s1_112 b σ) 112 [(0, vR h0), (1, vI x1), (4, vI x4)] [vI s0_112, vI s1_112] b σ) ?_ (fun J112 hJ112 => ?_)
                · intro s0_112 s1_112 b σ
                  refine V_iadd 113 rfl (show decode M_Model_told.2.1 112 = .ok (.iadd, 1) by decide +kernel) ?_
                  refine V_istore_n (fun x3_9 => [(3, vI x3_9), (0, vR h0), (1, vI x1), (4, vI x4)]) 114 rfl (show decode M_Model_told.2.1 113 = .ok (.istore_n 3, 1) by decide +kernel) (by decide) (fun _ => rfl) (fun x3_9 => ?_)
                  refine V_iinc (fun x4_10 => [(4, vI x4_10), (3, vI x3_9), (0, vR h0), (1, vI x1)]) 117 rfl (show decode M_Model_told.2.1 114 = .ok (.iinc 4 1, 3) by decide +kernel) 3 rfl (w := 1) rfl (by decide) (fun _ => rfl) (fun x4_10 => ?_)
                  refine V_goto 61 (show decode M_Model_told.2.1 117 = .ok (.goto (-56), 3) by decide +kernel) rfl ?_
                  exact V_sub [2, 3, 1, 0] rfl (hL61 x3_9 x4_10 b σ)
                · skip
                  refine V_jn (fun (J111 : Int32 → Bool → Sto → Rs Int32) => ∀ (s0_111 : Int32) (b : Bool) (σ : Sto), V M_Model_told 4 0 0 0 0 tI (J111 s0_111 b σ) 111 [(0, vR h0), (1, vI x1), (4, vI x4)] [vI s0_111] b σ) ?_ (fun J111 hJ111 => ?_)
                  · intro s0_111 b σ
                    refine V_iconst 112 rfl (show decode M_Model_told.2.1 111 = .ok (.iconst 0, 1) by decide +kernel) (v := 0) rfl ?_
                    exact V_sub [0, 1, 2] rfl (hJ112 (0 : Int32) s0_111 b σ)
                  · skip
                    refine V_icmpne 91 111 rfl (show decode M_Model_told.2.1 88 = .ok (.if_icmp .ne 23, 3) by decide +kernel) rfl ?_ ?_
                    · skip
                      refine V_aload_n 92 rfl (show decode M_Model_told.2.1 91 = .ok (.aload_n 0, 1) by decide +kernel) 0 rfl ?_
                      refine V_get (j := 0) (v := vR (SR σ_8 h0 0)) 95 rfl ck_Model (by decide) (by decide) (show decode M_Model_told.2.1 92 = .ok (.getfield 7, 3) by decide +kernel) wd_1504 rfl ?_
                      refine V_aload_n 96 rfl (show decode M_Model_told.2.1 95 = .ok (.aload_n 0, 1) by decide +kernel) 0 rfl ?_
                      refine V_iload 98 rfl (show decode M_Model_told.2.1 96 = .ok (.iload 4, 2) by decide +kernel) 3 rfl ?_
                      refine V_callV (tb := tI) (as := [vI x4]) (rest := [vR (SR σ_8 h0 0), vI x3]) (na := 1) 101 rfl ck_Model (by decide) (s_Model_boxAt h0 x4 (((b_8 && cA σ_8 (SR σ h0 0) 21 (r_8 + (1 : Int32))) && cK σ_8 h0 13) && cK σ_8 h0 13) σ_8) rfl rfl (Nat.le_of_ble_eq_true rfl) (cal_Model_boxAt _ _ _ _ _ (by decide) (by decide) (by decide)) (show decode M_Model_told.2.1 98 = .ok (.invokevirtual 129, 3) by decide +kernel) wd_1677 wd_1679 wd_122 (fun r_11 b_11 σ_11 => ?_)
                      show V M_Model_told 4 0 0 0 0 tI _ 101 [(0, vR h0), (1, vI x1), (3, vI x3), (4, vI x4)] [vI r_11, vR (SR σ_8 h0 0), vI x3] b_11 σ_11
                      refine V_iconst 102 rfl (show decode M_Model_told.2.1 101 = .ok (.iconst 4, 1) by decide +kernel) (v := 4) rfl ?_
                      refine V_iadd 103 rfl (show decode M_Model_told.2.1 102 = .ok (.iadd, 1) by decide +kernel) ?_
                      refine V_ald_int 104 rfl (show decode M_Model_told.2.1 103 = .ok (.iaload, 1) by decide +kernel) ?_
                      refine V_ifne 107 111 rfl (show decode M_Model_told.2.1 104 = .ok (.ifCond .ne 7, 3) by decide +kernel) rfl ?_ ?_
                      · skip
                        refine V_iconst 108 rfl (show decode M_Model_told.2.1 107 = .ok (.iconst 1, 1) by decide +kernel) (v := 1) rfl ?_
                        refine V_goto 112 (show decode M_Model_told.2.1 108 = .ok (.goto 4, 3) by decide +kernel) rfl ?_
                        exact V_sub [0, 1, 3] rfl (hJ112 (1 : Int32) x3 (b_11 && cA σ_11 (SR σ_8 h0 0) 21 (r_11 + (4 : Int32))) σ_11)
                      · skip
                        exact V_sub [0, 1, 3] rfl (hJ111 x3 (b_11 && cA σ_11 (SR σ_8 h0 0) 21 (r_11 + (4 : Int32))) σ_11)
                    · skip
                      exact V_sub [0, 1, 3] rfl (hJ111 x3 (b_8 && cA σ_8 (SR σ h0 0) 21 (r_8 + (1 : Int32))) σ_8)
              · skip
                refine V_iload_n 121 rfl (show decode M_Model_told.2.1 120 = .ok (.iload_n 3, 1) by decide +kernel) 2 rfl ?_
                exact V_iret rfl (by decide) (by decide) (show decode M_Model_told.2.1 121 = .ok (.ireturn, 1) by decide +kernel)
theorem cal_Model_told (d mc ms k n : Nat) (h1 : 4 + 1 ≤ d) (h2 : k + 0 ≤ mc) (h3 : n + 0 ≤ ms) : Cal M_Model_told 4 0 0 2 d mc ms k n := ⟨wd_1660, wd_181, by decide, h1, by decide, h2, h3⟩
abbrev M_Model_trim : MD := (⟨"LongTrailModel", "trim", "(I)I"⟩, prog_14_method_36_code, 2, (some FieldType.int))
def f_Model_trim (h0 : Nat) (x1 : Int32) (b : Bool) (σ : Sto) : Rs Int32 := (bd_ (f_Model_isIn ((x1).toInt64) (0 : Int64) (((SI σ h0 8)).toInt64) (b && cK σ h0 13) σ) (fun (r_1 : Int32) (b_1 : Bool) (σ_1 : Sto) => (if r_1 = 0 then ((-1000000001 : Int32), b_1, σ_1) else (lt_ (pI σ_1 h0 8 x1) (fun (σ_2 : Sto) => (x1, (b_1 && cK σ_1 h0 13), σ_2))))))
set_option maxRecDepth 100000 in
set_option maxHeartbeats 4000000 in
theorem s_Model_trim : ∀ (h0 : Nat) (x1 : Int32) (b : Bool) (σ : Sto), Snd M_Model_trim 2 0 0 [vR h0, vI x1] b σ (tI (f_Model_trim h0 x1 b σ).1) (f_Model_trim h0 x1 b σ).2.1 (f_Model_trim h0 x1 b σ).2.2 := by
  intro h0 x1 b σ
  refine Snd_of (tv := tI) (by decide) (Nat.le_of_ble_eq_true rfl) ?_
  show V M_Model_trim 2 0 0 0 0 tI (f_Model_trim h0 x1 b σ) 0 [(0, vR h0), (1, vI x1)] [] b σ
  unfold f_Model_trim
  refine V_iload_n 1 rfl (show decode M_Model_trim.2.1 0 = .ok (.iload_n 1, 1) by decide +kernel) 1 rfl ?_
  refine V_i2l 2 rfl (show decode M_Model_trim.2.1 1 = .ok (.i2l, 1) by decide +kernel) ?_
  refine V_lconst 3 rfl (show decode M_Model_trim.2.1 2 = .ok (.lconst 0, 1) by decide +kernel) (v := 0) rfl ?_
  refine V_aload_n 4 rfl (show decode M_Model_trim.2.1 3 = .ok (.aload_n 0, 1) by decide +kernel) 0 rfl ?_
  refine V_get (j := 8) (v := vI (SI σ h0 8)) 7 rfl ck_Model (by decide) (by decide) (show decode M_Model_trim.2.1 4 = .ok (.getfield 152, 3) by decide +kernel) wd_1512 rfl ?_
  refine V_i2l 8 rfl (show decode M_Model_trim.2.1 7 = .ok (.i2l, 1) by decide +kernel) ?_
  refine V_callS (tb := tI) (as := [vL ((x1).toInt64), vL (0 : Int64), vL (((SI σ h0 8)).toInt64)]) (rest := []) (na := 3) 11 rfl (s_Model_isIn ((x1).toInt64) (0 : Int64) (((SI σ h0 8)).toInt64) (b && cK σ h0 13) σ) rfl rfl (Nat.le_of_ble_eq_true rfl) (cal_Model_isIn _ _ _ _ _ (by decide) (by decide) (by decide)) (show decode M_Model_trim.2.1 8 = .ok (.invokestatic 76, 3) by decide +kernel) wd_1617 wd_1618 (fun r_1 b_1 σ_1 => ?_)
  show V M_Model_trim 2 0 0 0 0 tI _ 11 [(0, vR h0), (1, vI x1)] [vI r_1] b_1 σ_1
  refine V_ifne 14 17 rfl (show decode M_Model_trim.2.1 11 = .ok (.ifCond .ne 6, 3) by decide +kernel) rfl ?_ ?_
  · skip
    refine V_ldc 16 rfl (show decode M_Model_trim.2.1 14 = .ok (.ldc 91, 2) by decide +kernel) wd_1620 ?_
    exact V_iret rfl (by decide) (by decide) (show decode M_Model_trim.2.1 16 = .ok (.ireturn, 1) by decide +kernel)
  · skip
    refine V_aload_n 18 rfl (show decode M_Model_trim.2.1 17 = .ok (.aload_n 0, 1) by decide +kernel) 0 rfl ?_
    refine V_iload_n 19 rfl (show decode M_Model_trim.2.1 18 = .ok (.iload_n 1, 1) by decide +kernel) 1 rfl ?_
    refine V_putI (j := 8) 22 rfl ck_Model (by decide) (by decide) (show decode M_Model_trim.2.1 19 = .ok (.putfield 152, 3) by decide +kernel) wd_1512 rfl (fun _ => rfl) rfl rfl (fun σ_2 => ?_)
    refine V_iload_n 23 rfl (show decode M_Model_trim.2.1 22 = .ok (.iload_n 1, 1) by decide +kernel) 1 rfl ?_
    exact V_iret rfl (by decide) (by decide) (show decode M_Model_trim.2.1 23 = .ok (.ireturn, 1) by decide +kernel)
theorem cal_Model_trim (d mc ms k n : Nat) (h1 : 2 + 1 ≤ d) (h2 : k + 0 ≤ mc) (h3 : n + 0 ≤ ms) : Cal M_Model_trim 2 0 0 1 d mc ms k n := ⟨wd_1738, wd_181, by decide, h1, by decide, h2, h3⟩
abbrev M_Model_walker : MD := (⟨"LongTrailModel", "walker", "(IIIII)I"⟩, prog_14_method_58_code, 8, (some FieldType.int))
def b_Model_walker_100 (h0 : Nat) (x1 : Int32) (x2 : Int32) (x3 : Int32) (x4 : Int32) (x5 : Int32) (x6_7 : Int32) (L100 : Int32 → Bool → Sto → Rs Int32) (x7 : Int32) (b : Bool) (σ : Sto) : Rs Int32 := (if x7 < (20 : Int32) then (lt_ (pI σ (SR σ h0 0) (ix (x6_7 + x7)) (0 : Int32)) (fun (σ_9 : Sto) => (lt_ (x7 + (1 : Int32)) (fun (x7_10 : Int32) => (L100 x7_10 ((b && cK σ h0 13) && cA σ (SR σ h0 0) 21 (x6_7 + x7)) σ_9))))) else (lt_ (pI σ (SR σ h0 0) (ix (x6_7 + (2 : Int32))) x2) (fun (σ_11 : Sto) => (lt_ (pI σ_11 (SR σ_11 h0 0) (ix (x6_7 + (15 : Int32))) x1) (fun (σ_12 : Sto) => (lt_ (pI σ_12 (SR σ_12 h0 0) (ix (x6_7 + (16 : Int32))) x3) (fun (σ_13 : Sto) => (lt_ (pI σ_13 (SR σ_13 h0 0) (ix (x6_7 + (17 : Int32))) x4) (fun (σ_14 : Sto) => (lt_ (pI σ_14 (SR σ_14 h0 0) (ix (x6_7 + (18 : Int32))) x5) (fun (σ_15 : Sto) => (lt_ (pI σ_15 (SR σ_15 h0 0) (ix (5 : Int32)) ((SI σ_15 (SR σ_15 h0 0) (ix (5 : Int32))) + (1 : Int32))) (fun (σ_16 : Sto) => (((SI σ_16 (SR σ_16 h0 0) (ix (5 : Int32))) - (1 : Int32)), (((((((((((((((b && cK σ h0 13) && cA σ (SR σ h0 0) 21 (x6_7 + (2 : Int32))) && cK σ_11 h0 13) && cA σ_11 (SR σ_11 h0 0) 21 (x6_7 + (15 : Int32))) && cK σ_12 h0 13) && cA σ_12 (SR σ_12 h0 0) 21 (x6_7 + (16 : Int32))) && cK σ_13 h0 13) && cA σ_13 (SR σ_13 h0 0) 21 (x6_7 + (17 : Int32))) && cK σ_14 h0 13) && cA σ_14 (SR σ_14 h0 0) 21 (x6_7 + (18 : Int32))) && cK σ_15 h0 13) && cA σ_15 (SR σ_15 h0 0) 21 (5 : Int32)) && cA σ_15 (SR σ_15 h0 0) 21 (5 : Int32)) && cK σ_16 h0 13) && cA σ_16 (SR σ_16 h0 0) 21 (5 : Int32)), σ_16))))))))))))))
def f_Model_walker (h0 : Nat) (x1 : Int32) (x2 : Int32) (x3 : Int32) (x4 : Int32) (x5 : Int32) (b : Bool) (σ : Sto) : Rs Int32 := (bd_ (f_Model_isIn ((x1).toInt64) (((SI σ (SR σ h0 0) (ix (0 : Int32)))).toInt64) (999 : Int64) ((b && cK σ h0 13) && cA σ (SR σ h0 0) 21 (0 : Int32)) σ) (fun (r_1 : Int32) (b_1 : Bool) (σ_1 : Sto) => (lt_ (fun (b : Bool) (σ : Sto) => ((-1000000001 : Int32), b, σ)) (fun J68 => (if r_1 = 0 then (J68 b_1 σ_1) else (bd_ (f_Model_isIn ((x2).toInt64) (1 : Int64) (40 : Int64) b_1 σ_1) (fun (r_2 : Int32) (b_2 : Bool) (σ_2 : Sto) => (if r_2 = 0 then (J68 b_2 σ_2) else (bd_ (f_Model_isIn ((x3).toInt64) (0 : Int64) (5 : Int64) b_2 σ_2) (fun (r_3 : Int32) (b_3 : Bool) (σ_3 : Sto) => (if r_3 = 0 then (J68 b_3 σ_3) else (bd_ (f_Model_isIn ((x4).toInt64) (1 : Int64) (20 : Int64) b_3 σ_3) (fun (r_4 : Int32) (b_4 : Bool) (σ_4 : Sto) => (if r_4 = 0 then (J68 b_4 σ_4) else (bd_ (f_Model_isIn ((x5).toInt64) (1 : Int64) (99 : Int64) b_4 σ_4) (fun (r_5 : Int32) (b_5 : Bool) (σ_5 : Sto) => (if r_5 = 0 then (J68 b_5 σ_5) else (if (SI σ_5 (SR σ_5 h0 0) (ix (5 : Int32))) = (10 : Int32) then ((-1000000003 : Int32), ((b_5 && cK σ_5 h0 13) && cA σ_5 (SR σ_5 h0 0) 21 (5 : Int32)), σ_5) else (bd_ (f_Model_walkerAt h0 (SI σ_5 (SR σ_5 h0 0) (ix (5 : Int32))) (((((b_5 && cK σ_5 h0 13) && cA σ_5 (SR σ_5 h0 0) 21 (5 : Int32)) && cK σ_5 h0 13) && cA σ_5 (SR σ_5 h0 0) 21 (5 : Int32)) && cK σ_5 h0 13) σ_5) (fun (r_6 : Int32) (b_6 : Bool) (σ_6 : Sto) => (lt_ r_6 (fun (x6_7 : Int32) => (lt_ (0 : Int32) (fun (x7_8 : Int32) => (lp_ (b_Model_walker_100 h0 x1 x2 x3 x4 x5 x6_7) (fun (x7 : Int32) (b : Bool) (σ : Sto) => (0, false, σ)) fuel_ x7_8 b_6 σ_6)))))))))))))))))))))))))
set_option maxRecDepth 100000 in
set_option maxHeartbeats 4000000 in
theorem s_Model_walker : ∀ (h0 : Nat) (x1 : Int32) (x2 : Int32) (x3 : Int32) (x4 : Int32) (x5 : Int32) (b : Bool) (σ : Sto), Snd M_Model_walker 2 0 0 [vR h0, vI x1, vI x2, vI x3, vI x4, vI x5] b σ (tI (f_Model_walker h0 x1 x2 x3 x4 x5 b σ).1) (f_Model_walker h0 x1 x2 x3 x4 x5 b σ).2.1 (f_Model_walker h0 x1 x2 x3 x4 x5 b σ).2.2 := by
  intro h0 x1 x2 x3 x4 x5 b σ
  refine Snd_of (tv := tI) (by decide) (Nat.le_of_ble_eq_true rfl) ?_
  show V M_Model_walker 2 0 0 0 0 tI (f_Model_walker h0 x1 x2 x3 x4 x5 b σ) 0 [(0, vR h0), (1, vI x1), (2, vI x2), (3, vI x3), (4, vI x4), (5, vI x5)] [] b σ
  unfold f_Model_walker
  refine V_iload_n 1 rfl (show decode M_Model_walker.2.1 0 = .ok (.iload_n 1, 1) by decide +kernel) 1 rfl ?_
  refine V_i2l 2 rfl (show decode M_Model_walker.2.1 1 = .ok (.i2l, 1) by decide +kernel) ?_
  refine V_aload_n 3 rfl (show decode M_Model_walker.2.1 2 = .ok (.aload_n 0, 1) by decide +kernel) 0 rfl ?_
  refine V_get (j := 0) (v := vR (SR σ h0 0)) 6 rfl ck_Model (by decide) (by decide) (show decode M_Model_walker.2.1 3 = .ok (.getfield 7, 3) by decide +kernel) wd_1504 rfl ?_
  refine V_iconst 7 rfl (show decode M_Model_walker.2.1 6 = .ok (.iconst 0, 1) by decide +kernel) (v := 0) rfl ?_
  refine V_ald_int 8 rfl (show decode M_Model_walker.2.1 7 = .ok (.iaload, 1) by decide +kernel) ?_
  refine V_i2l 9 rfl (show decode M_Model_walker.2.1 8 = .ok (.i2l, 1) by decide +kernel) ?_
  refine V_ldc2 12 rfl (show decode M_Model_walker.2.1 9 = .ok (.ldc2_w 243, 3) by decide +kernel) wd_1743 ?_
  refine V_callS (tb := tI) (as := [vL ((x1).toInt64), vL (((SI σ (SR σ h0 0) (ix (0 : Int32)))).toInt64), vL (999 : Int64)]) (rest := []) (na := 3) 15 rfl (s_Model_isIn ((x1).toInt64) (((SI σ (SR σ h0 0) (ix (0 : Int32)))).toInt64) (999 : Int64) ((b && cK σ h0 13) && cA σ (SR σ h0 0) 21 (0 : Int32)) σ) rfl rfl (Nat.le_of_ble_eq_true rfl) (cal_Model_isIn _ _ _ _ _ (by decide) (by decide) (by decide)) (show decode M_Model_walker.2.1 12 = .ok (.invokestatic 76, 3) by decide +kernel) wd_1617 wd_1618 (fun r_1 b_1 σ_1 => ?_)
  show V M_Model_walker 2 0 0 0 0 tI _ 15 [(0, vR h0), (1, vI x1), (2, vI x2), (3, vI x3), (4, vI x4), (5, vI x5)] [vI r_1] b_1 σ_1
  refine V_jn (fun (J68 : Bool → Sto → Rs Int32) => ∀ (b : Bool) (σ : Sto), V M_Model_walker 2 0 0 0 0 tI (J68 b σ) 68 [] [] b σ) ?_ (fun J68 hJ68 => ?_)
  · intro b σ
    refine V_ldc 70 rfl (show decode M_Model_walker.2.1 68 = .ok (.ldc 91, 2) by decide +kernel) wd_1620 ?_
    exact V_iret rfl (by decide) (by decide) (show decode M_Model_walker.2.1 70 = .ok (.ireturn, 1) by decide +kernel)
  · skip
    refine V_ifeq 18 68 rfl (show decode M_Model_walker.2.1 15 = .ok (.ifCond .eq 53, 3) by decide +kernel) rfl ?_ ?_
    · skip
      exact V_sub [] rfl (hJ68 b_1 σ_1)
    · skip
      refine V_iload_n 19 rfl (show decode M_Model_walker.2.1 18 = .ok (.iload_n 2, 1) by decide +kernel) 2 rfl ?_
      refine V_i2l 20 rfl (show decode M_Model_walker.2.1 19 = .ok (.i2l, 1) by decide +kernel) ?_
      refine V_lconst 21 rfl (show decode M_Model_walker.2.1 20 = .ok (.lconst 1, 1) by decide +kernel) (v := 1) rfl ?_
      refine V_ldc2 24 rfl (show decode M_Model_walker.2.1 21 = .ok (.ldc2_w 258, 3) by decide +kernel) wd_1831 ?_
      refine V_callS (tb := tI) (as := [vL ((x2).toInt64), vL (1 : Int64), vL (40 : Int64)]) (rest := []) (na := 3) 27 rfl (s_Model_isIn ((x2).toInt64) (1 : Int64) (40 : Int64) b_1 σ_1) rfl rfl (Nat.le_of_ble_eq_true rfl) (cal_Model_isIn _ _ _ _ _ (by decide) (by decide) (by decide)) (show decode M_Model_walker.2.1 24 = .ok (.invokestatic 76, 3) by decide +kernel) wd_1617 wd_1618 (fun r_2 b_2 σ_2 => ?_)
      show V M_Model_walker 2 0 0 0 0 tI _ 27 [(0, vR h0), (1, vI x1), (2, vI x2), (3, vI x3), (4, vI x4), (5, vI x5)] [vI r_2] b_2 σ_2
      refine V_ifeq 30 68 rfl (show decode M_Model_walker.2.1 27 = .ok (.ifCond .eq 41, 3) by decide +kernel) rfl ?_ ?_
      · skip
        exact V_sub [] rfl (hJ68 b_2 σ_2)
      · skip
        refine V_iload_n 31 rfl (show decode M_Model_walker.2.1 30 = .ok (.iload_n 3, 1) by decide +kernel) 3 rfl ?_
        refine V_i2l 32 rfl (show decode M_Model_walker.2.1 31 = .ok (.i2l, 1) by decide +kernel) ?_
        refine V_lconst 33 rfl (show decode M_Model_walker.2.1 32 = .ok (.lconst 0, 1) by decide +kernel) (v := 0) rfl ?_
        refine V_ldc2 36 rfl (show decode M_Model_walker.2.1 33 = .ok (.ldc2_w 111, 3) by decide +kernel) wd_1647 ?_
        refine V_callS (tb := tI) (as := [vL ((x3).toInt64), vL (0 : Int64), vL (5 : Int64)]) (rest := []) (na := 3) 39 rfl (s_Model_isIn ((x3).toInt64) (0 : Int64) (5 : Int64) b_2 σ_2) rfl rfl (Nat.le_of_ble_eq_true rfl) (cal_Model_isIn _ _ _ _ _ (by decide) (by decide) (by decide)) (show decode M_Model_walker.2.1 36 = .ok (.invokestatic 76, 3) by decide +kernel) wd_1617 wd_1618 (fun r_3 b_3 σ_3 => ?_)
        show V M_Model_walker 2 0 0 0 0 tI _ 39 [(0, vR h0), (1, vI x1), (2, vI x2), (3, vI x3), (4, vI x4), (5, vI x5)] [vI r_3] b_3 σ_3
        refine V_ifeq 42 68 rfl (show decode M_Model_walker.2.1 39 = .ok (.ifCond .eq 29, 3) by decide +kernel) rfl ?_ ?_
        · skip
          exact V_sub [] rfl (hJ68 b_3 σ_3)
        · skip
          refine V_iload 44 rfl (show decode M_Model_walker.2.1 42 = .ok (.iload 4, 2) by decide +kernel) 4 rfl ?_
          refine V_i2l 45 rfl (show decode M_Model_walker.2.1 44 = .ok (.i2l, 1) by decide +kernel) ?_
          refine V_lconst 46 rfl (show decode M_Model_walker.2.1 45 = .ok (.lconst 1, 1) by decide +kernel) (v := 1) rfl ?_
          refine V_ldc2 49 rfl (show decode M_Model_walker.2.1 46 = .ok (.ldc2_w 87, 3) by decide +kernel) wd_1615 ?_
          refine V_callS (tb := tI) (as := [vL ((x4).toInt64), vL (1 : Int64), vL (20 : Int64)]) (rest := []) (na := 3) 52 rfl (s_Model_isIn ((x4).toInt64) (1 : Int64) (20 : Int64) b_3 σ_3) rfl rfl (Nat.le_of_ble_eq_true rfl) (cal_Model_isIn _ _ _ _ _ (by decide) (by decide) (by decide)) (show decode M_Model_walker.2.1 49 = .ok (.invokestatic 76, 3) by decide +kernel) wd_1617 wd_1618 (fun r_4 b_4 σ_4 => ?_)
          show V M_Model_walker 2 0 0 0 0 tI _ 52 [(0, vR h0), (1, vI x1), (2, vI x2), (3, vI x3), (4, vI x4), (5, vI x5)] [vI r_4] b_4 σ_4
          refine V_ifeq 55 68 rfl (show decode M_Model_walker.2.1 52 = .ok (.ifCond .eq 16, 3) by decide +kernel) rfl ?_ ?_
          · skip
            exact V_sub [] rfl (hJ68 b_4 σ_4)
          · skip
            refine V_iload 57 rfl (show decode M_Model_walker.2.1 55 = .ok (.iload 5, 2) by decide +kernel) 5 rfl ?_
            refine V_i2l 58 rfl (show decode M_Model_walker.2.1 57 = .ok (.i2l, 1) by decide +kernel) ?_
            refine V_lconst 59 rfl (show decode M_Model_walker.2.1 58 = .ok (.lconst 1, 1) by decide +kernel) (v := 1) rfl ?_
            refine V_ldc2 62 rfl (show decode M_Model_walker.2.1 59 = .ok (.ldc2_w 260, 3) by decide +kernel) wd_1832 ?_
            refine V_callS (tb := tI) (as := [vL ((x5).toInt64), vL (1 : Int64), vL (99 : Int64)]) (rest := []) (na := 3) 65 rfl (s_Model_isIn ((x5).toInt64) (1 : Int64) (99 : Int64) b_4 σ_4) rfl rfl (Nat.le_of_ble_eq_true rfl) (cal_Model_isIn _ _ _ _ _ (by decide) (by decide) (by decide)) (show decode M_Model_walker.2.1 62 = .ok (.invokestatic 76, 3) by decide +kernel) wd_1617 wd_1618 (fun r_5 b_5 σ_5 => ?_)
            show V M_Model_walker 2 0 0 0 0 tI _ 65 [(0, vR h0), (1, vI x1), (2, vI x2), (3, vI x3), (4, vI x4), (5, vI x5)] [vI r_5] b_5 σ_5
            refine V_ifne 68 71 rfl (show decode M_Model_walker.2.1 65 = .ok (.ifCond .ne 6, 3) by decide +kernel) rfl ?_ ?_
            · skip
              exact V_sub [] rfl (hJ68 b_5 σ_5)
            · skip
              refine V_aload_n 72 rfl (show decode M_Model_walker.2.1 71 = .ok (.aload_n 0, 1) by decide +kernel) 0 rfl ?_
              refine V_get (j := 0) (v := vR (SR σ_5 h0 0)) 75 rfl ck_Model (by decide) (by decide) (show decode M_Model_walker.2.1 72 = .ok (.getfield 7, 3) by decide +kernel) wd_1504 rfl ?_
              refine V_iconst 76 rfl (show decode M_Model_walker.2.1 75 = .ok (.iconst 5, 1) by decide +kernel) (v := 5) rfl ?_
              refine V_ald_int 77 rfl (show decode M_Model_walker.2.1 76 = .ok (.iaload, 1) by decide +kernel) ?_
              refine V_bipush 79 rfl (show decode M_Model_walker.2.1 77 = .ok (.bipush 10, 2) by decide +kernel) (v := 10) rfl ?_
              refine V_icmpne 82 85 rfl (show decode M_Model_walker.2.1 79 = .ok (.if_icmp .ne 6, 3) by decide +kernel) rfl ?_ ?_
              · skip
                refine V_ldc 84 rfl (show decode M_Model_walker.2.1 82 = .ok (.ldc 119, 2) by decide +kernel) wd_1656 ?_
                exact V_iret rfl (by decide) (by decide) (show decode M_Model_walker.2.1 84 = .ok (.ireturn, 1) by decide +kernel)
              · skip
                refine V_aload_n 86 rfl (show decode M_Model_walker.2.1 85 = .ok (.aload_n 0, 1) by decide +kernel) 0 rfl ?_
                refine V_aload_n 87 rfl (show decode M_Model_walker.2.1 86 = .ok (.aload_n 0, 1) by decide +kernel) 0 rfl ?_
                refine V_get (j := 0) (v := vR (SR σ_5 h0 0)) 90 rfl ck_Model (by decide) (by decide) (show decode M_Model_walker.2.1 87 = .ok (.getfield 7, 3) by decide +kernel) wd_1504 rfl ?_
                refine V_iconst 91 rfl (show decode M_Model_walker.2.1 90 = .ok (.iconst 5, 1) by decide +kernel) (v := 5) rfl ?_
                refine V_ald_int 92 rfl (show decode M_Model_walker.2.1 91 = .ok (.iaload, 1) by decide +kernel) ?_
                refine V_callV (tb := tI) (as := [vI (SI σ_5 (SR σ_5 h0 0) (ix (5 : Int32)))]) (rest := []) (na := 1) 95 rfl ck_Model (by decide) (s_Model_walkerAt h0 (SI σ_5 (SR σ_5 h0 0) (ix (5 : Int32))) (((((b_5 && cK σ_5 h0 13) && cA σ_5 (SR σ_5 h0 0) 21 (5 : Int32)) && cK σ_5 h0 13) && cA σ_5 (SR σ_5 h0 0) 21 (5 : Int32)) && cK σ_5 h0 13) σ_5) rfl rfl (Nat.le_of_ble_eq_true rfl) (cal_Model_walkerAt _ _ _ _ _ (by decide) (by decide) (by decide)) (show decode M_Model_walker.2.1 92 = .ok (.invokevirtual 84, 3) by decide +kernel) wd_1673 wd_1675 wd_121 (fun r_6 b_6 σ_6 => ?_)
                show V M_Model_walker 2 0 0 0 0 tI _ 95 [(0, vR h0), (1, vI x1), (2, vI x2), (3, vI x3), (4, vI x4), (5, vI x5)] [vI r_6] b_6 σ_6
                refine V_istore (fun x6_7 => [(6, vI x6_7), (0, vR h0), (1, vI x1), (2, vI x2), (3, vI x3), (4, vI x4), (5, vI x5)]) 97 rfl (show decode M_Model_walker.2.1 95 = .ok (.istore 6, 2) by decide +kernel) (by decide) (fun _ => rfl) (fun x6_7 => ?_)
                refine V_iconst 98 rfl (show decode M_Model_walker.2.1 97 = .ok (.iconst 0, 1) by decide +kernel) (v := 0) rfl ?_
                refine V_istore (fun x7_8 => [(7, vI x7_8), (6, vI x6_7), (0, vR h0), (1, vI x1), (2, vI x2), (3, vI x3), (4, vI x4), (5, vI x5)]) 100 rfl (show decode M_Model_walker.2.1 98 = .ok (.istore 7, 2) by decide +kernel) (by decide) (fun _ => rfl) (fun x7_8 => ?_)
                refine V_sub [2, 3, 4, 5, 6, 7, 1, 0] rfl ?_
                refine lp_P (fun (L100 : Int32 → Bool → Sto → Rs Int32) => ∀ (x7 : Int32) (b : Bool) (σ : Sto), V M_Model_walker 2 0 0 0 0 tI (L100 x7 b σ) 100 [(0, vR h0), (1, vI x1), (2, vI x2), (3, vI x3), (4, vI x4), (5, vI x5), (6, vI x6_7), (7, vI x7)] [] b σ) ?_ ?_ fuel_ x7_8 b_6 σ_6
                · intro x7 b σ; exact V_bad
                · intro L100 hL100 x7 b σ
                  unfold b_Model_walker_100
                  refine V_iload 102 rfl (show decode M_Model_walker.2.1 100 = .ok (.iload 7, 2) by decide +kernel) 7 rfl ?_
                  refine V_bipush 104 rfl (show decode M_Model_walker.2.1 102 = .ok (.bipush 20, 2) by decide +kernel) (v := 20) rfl ?_
                  refine V_icmpge 107 124 rfl (show decode M_Model_walker.2.1 104 = .ok (.if_icmp .ge 20, 3) by decide +kernel) rfl ?_ ?_
                  · skip
                    refine V_aload_n 108 rfl (show decode M_Model_walker.2.1 107 = .ok (.aload_n 0, 1) by decide +kernel) 0 rfl ?_
                    refine V_get (j := 0) (v := vR (SR σ h0 0)) 111 rfl ck_Model (by decide) (by decide) (show decode M_Model_walker.2.1 108 = .ok (.getfield 7, 3) by decide +kernel) wd_1504 rfl ?_
                    refine V_iload 113 rfl (show decode M_Model_walker.2.1 111 = .ok (.iload 6, 2) by decide +kernel) 6 rfl ?_
                    refine V_iload 115 rfl (show decode M_Model_walker.2.1 113 = .ok (.iload 7, 2) by decide +kernel) 7 rfl ?_
                    refine V_iadd 116 rfl (show decode M_Model_walker.2.1 115 = .ok (.iadd, 1) by decide +kernel) ?_
                    refine V_iconst 117 rfl (show decode M_Model_walker.2.1 116 = .ok (.iconst 0, 1) by decide +kernel) (v := 0) rfl ?_
                    refine V_ast_int 118 rfl (show decode M_Model_walker.2.1 117 = .ok (.iastore, 1) by decide +kernel) (fun σ_9 => ?_)
                    refine V_iinc (fun x7_10 => [(7, vI x7_10), (0, vR h0), (1, vI x1), (2, vI x2), (3, vI x3), (4, vI x4), (5, vI x5), (6, vI x6_7)]) 121 rfl (show decode M_Model_walker.2.1 118 = .ok (.iinc 7 1, 3) by decide +kernel) 7 rfl (w := 1) rfl (by decide) (fun _ => rfl) (fun x7_10 => ?_)
                    refine V_goto 100 (show decode M_Model_walker.2.1 121 = .ok (.goto (-21), 3) by decide +kernel) rfl ?_
                    exact V_sub [1, 2, 3, 4, 5, 6, 7, 0] rfl (hL100 x7_10 ((b && cK σ h0 13) && cA σ (SR σ h0 0) 21 (x6_7 + x7)) σ_9)
                  · skip
                    refine V_aload_n 125 rfl (show decode M_Model_walker.2.1 124 = .ok (.aload_n 0, 1) by decide +kernel) 0 rfl ?_
                    refine V_get (j := 0) (v := vR (SR σ h0 0)) 128 rfl ck_Model (by decide) (by decide) (show decode M_Model_walker.2.1 125 = .ok (.getfield 7, 3) by decide +kernel) wd_1504 rfl ?_
                    refine V_iload 130 rfl (show decode M_Model_walker.2.1 128 = .ok (.iload 6, 2) by decide +kernel) 6 rfl ?_
                    refine V_iconst 131 rfl (show decode M_Model_walker.2.1 130 = .ok (.iconst 2, 1) by decide +kernel) (v := 2) rfl ?_
                    refine V_iadd 132 rfl (show decode M_Model_walker.2.1 131 = .ok (.iadd, 1) by decide +kernel) ?_
                    refine V_iload_n 133 rfl (show decode M_Model_walker.2.1 132 = .ok (.iload_n 2, 1) by decide +kernel) 2 rfl ?_
                    refine V_ast_int 134 rfl (show decode M_Model_walker.2.1 133 = .ok (.iastore, 1) by decide +kernel) (fun σ_11 => ?_)
                    refine V_aload_n 135 rfl (show decode M_Model_walker.2.1 134 = .ok (.aload_n 0, 1) by decide +kernel) 0 rfl ?_
                    refine V_get (j := 0) (v := vR (SR σ_11 h0 0)) 138 rfl ck_Model (by decide) (by decide) (show decode M_Model_walker.2.1 135 = .ok (.getfield 7, 3) by decide +kernel) wd_1504 rfl ?_
                    refine V_iload 140 rfl (show decode M_Model_walker.2.1 138 = .ok (.iload 6, 2) by decide +kernel) 6 rfl ?_
                    refine V_bipush 142 rfl (show decode M_Model_walker.2.1 140 = .ok (.bipush 15, 2) by decide +kernel) (v := 15) rfl ?_
                    refine V_iadd 143 rfl (show decode M_Model_walker.2.1 142 = .ok (.iadd, 1) by decide +kernel) ?_
                    refine V_iload_n 144 rfl (show decode M_Model_walker.2.1 143 = .ok (.iload_n 1, 1) by decide +kernel) 1 rfl ?_
                    refine V_ast_int 145 rfl (show decode M_Model_walker.2.1 144 = .ok (.iastore, 1) by decide +kernel) (fun σ_12 => ?_)
                    refine V_aload_n 146 rfl (show decode M_Model_walker.2.1 145 = .ok (.aload_n 0, 1) by decide +kernel) 0 rfl ?_
                    refine V_get (j := 0) (v := vR (SR σ_12 h0 0)) 149 rfl ck_Model (by decide) (by decide) (show decode M_Model_walker.2.1 146 = .ok (.getfield 7, 3) by decide +kernel) wd_1504 rfl ?_
                    refine V_iload 151 rfl (show decode M_Model_walker.2.1 149 = .ok (.iload 6, 2) by decide +kernel) 6 rfl ?_
                    refine V_bipush 153 rfl (show decode M_Model_walker.2.1 151 = .ok (.bipush 16, 2) by decide +kernel) (v := 16) rfl ?_
                    refine V_iadd 154 rfl (show decode M_Model_walker.2.1 153 = .ok (.iadd, 1) by decide +kernel) ?_
                    refine V_iload_n 155 rfl (show decode M_Model_walker.2.1 154 = .ok (.iload_n 3, 1) by decide +kernel) 3 rfl ?_
                    refine V_ast_int 156 rfl (show decode M_Model_walker.2.1 155 = .ok (.iastore, 1) by decide +kernel) (fun σ_13 => ?_)
                    refine V_aload_n 157 rfl (show decode M_Model_walker.2.1 156 = .ok (.aload_n 0, 1) by decide +kernel) 0 rfl ?_
                    refine V_get (j := 0) (v := vR (SR σ_13 h0 0)) 160 rfl ck_Model (by decide) (by decide) (show decode M_Model_walker.2.1 157 = .ok (.getfield 7, 3) by decide +kernel) wd_1504 rfl ?_
                    refine V_iload 162 rfl (show decode M_Model_walker.2.1 160 = .ok (.iload 6, 2) by decide +kernel) 6 rfl ?_
                    refine V_bipush 164 rfl (show decode M_Model_walker.2.1 162 = .ok (.bipush 17, 2) by decide +kernel) (v := 17) rfl ?_
                    refine V_iadd 165 rfl (show decode M_Model_walker.2.1 164 = .ok (.iadd, 1) by decide +kernel) ?_
                    refine V_iload 167 rfl (show decode M_Model_walker.2.1 165 = .ok (.iload 4, 2) by decide +kernel) 4 rfl ?_
                    refine V_ast_int 168 rfl (show decode M_Model_walker.2.1 167 = .ok (.iastore, 1) by decide +kernel) (fun σ_14 => ?_)
                    refine V_aload_n 169 rfl (show decode M_Model_walker.2.1 168 = .ok (.aload_n 0, 1) by decide +kernel) 0 rfl ?_
                    refine V_get (j := 0) (v := vR (SR σ_14 h0 0)) 172 rfl ck_Model (by decide) (by decide) (show decode M_Model_walker.2.1 169 = .ok (.getfield 7, 3) by decide +kernel) wd_1504 rfl ?_
                    refine V_iload 174 rfl (show decode M_Model_walker.2.1 172 = .ok (.iload 6, 2) by decide +kernel) 6 rfl ?_
                    refine V_bipush 176 rfl (show decode M_Model_walker.2.1 174 = .ok (.bipush 18, 2) by decide +kernel) (v := 18) rfl ?_
                    refine V_iadd 177 rfl (show decode M_Model_walker.2.1 176 = .ok (.iadd, 1) by decide +kernel) ?_
                    refine V_iload 179 rfl (show decode M_Model_walker.2.1 177 = .ok (.iload 5, 2) by decide +kernel) 5 rfl ?_
                    refine V_ast_int 180 rfl (show decode M_Model_walker.2.1 179 = .ok (.iastore, 1) by decide +kernel) (fun σ_15 => ?_)
                    refine V_aload_n 181 rfl (show decode M_Model_walker.2.1 180 = .ok (.aload_n 0, 1) by decide +kernel) 0 rfl ?_
                    refine V_get (j := 0) (v := vR (SR σ_15 h0 0)) 184 rfl ck_Model (by decide) (by decide) (show decode M_Model_walker.2.1 181 = .ok (.getfield 7, 3) by decide +kernel) wd_1504 rfl ?_
                    refine V_iconst 185 rfl (show decode M_Model_walker.2.1 184 = .ok (.iconst 5, 1) by decide +kernel) (v := 5) rfl ?_
                    refine V_dup2 186 rfl (show decode M_Model_walker.2.1 185 = .ok (.dup2, 1) by decide +kernel) rfl rfl ?_
                    refine V_ald_int 187 rfl (show decode M_Model_walker.2.1 186 = .ok (.iaload, 1) by decide +kernel) ?_
                    refine V_iconst 188 rfl (show decode M_Model_walker.2.1 187 = .ok (.iconst 1, 1) by decide +kernel) (v := 1) rfl ?_
                    refine V_iadd 189 rfl (show decode M_Model_walker.2.1 188 = .ok (.iadd, 1) by decide +kernel) ?_
                    refine V_ast_int 190 rfl (show decode M_Model_walker.2.1 189 = .ok (.iastore, 1) by decide +kernel) (fun σ_16 => ?_)
                    refine V_aload_n 191 rfl (show decode M_Model_walker.2.1 190 = .ok (.aload_n 0, 1) by decide +kernel) 0 rfl ?_
                    refine V_get (j := 0) (v := vR (SR σ_16 h0 0)) 194 rfl ck_Model (by decide) (by decide) (show decode M_Model_walker.2.1 191 = .ok (.getfield 7, 3) by decide +kernel) wd_1504 rfl ?_
                    refine V_iconst 195 rfl (show decode M_Model_walker.2.1 194 = .ok (.iconst 5, 1) by decide +kernel) (v := 5) rfl ?_
                    refine V_ald_int 196 rfl (show decode M_Model_walker.2.1 195 = .ok (.iaload, 1) by decide +kernel) ?_
                    refine V_iconst 197 rfl (show decode M_Model_walker.2.1 196 = .ok (.iconst 1, 1) by decide +kernel) (v := 1) rfl ?_
                    refine V_isub 198 rfl (show decode M_Model_walker.2.1 197 = .ok (.isub, 1) by decide +kernel) ?_
                    exact V_iret rfl (by decide) (by decide) (show decode M_Model_walker.2.1 198 = .ok (.ireturn, 1) by decide +kernel)
theorem cal_Model_walker (d mc ms k n : Nat) (h1 : 2 + 1 ≤ d) (h2 : k + 0 ≤ mc) (h3 : n + 0 ≤ ms) : Cal M_Model_walker 2 0 0 5 d mc ms k n := ⟨wd_1830, wd_181, by decide, h1, by decide, h2, h3⟩
