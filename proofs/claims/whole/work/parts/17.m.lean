/-! methods -/
abbrev M_Model_isSheet : MD := (⟨"LongTrailModel", "isSheet", "(I)Z"⟩, prog_14_method_104_code, 1, (some FieldType.boolean))
def f_Model_isSheet (x0 : Int32) (b : Bool) (σ : Sto) : Rs Int32 := (bd_ (f_Model_isIn ((x0).toInt64) (0 : Int64) (3 : Int64) b σ) (fun (r_1 : Int32) (b_1 : Bool) (σ_1 : Sto) => (r_1, (b_1 && zok r_1), σ_1)))
set_option maxRecDepth 100000 in
set_option maxHeartbeats 4000000 in
theorem s_Model_isSheet : ∀ (x0 : Int32) (b : Bool) (σ : Sto), Snd M_Model_isSheet 2 0 0 [vI x0] b σ (tI (f_Model_isSheet x0 b σ).1) (f_Model_isSheet x0 b σ).2.1 (f_Model_isSheet x0 b σ).2.2 := by
  intro x0 b σ
  refine Snd_of (tv := tI) (by decide) (Nat.le_of_ble_eq_true rfl) ?_
  show V M_Model_isSheet 2 0 0 0 0 tI (f_Model_isSheet x0 b σ) 0 [(0, vI x0)] [] b σ
  unfold f_Model_isSheet
  refine V_iload_n 1 rfl (show decode M_Model_isSheet.2.1 0 = .ok (.iload_n 0, 1) by decide +kernel) 0 rfl ?_
  refine V_i2l 2 rfl (show decode M_Model_isSheet.2.1 1 = .ok (.i2l, 1) by decide +kernel) ?_
  refine V_lconst 3 rfl (show decode M_Model_isSheet.2.1 2 = .ok (.lconst 0, 1) by decide +kernel) (v := 0) rfl ?_
  refine V_ldc2 6 rfl (show decode M_Model_isSheet.2.1 3 = .ok (.ldc2_w 141, 3) by decide +kernel) wd_1702 ?_
  refine V_callS (tb := tI) (as := [vL ((x0).toInt64), vL (0 : Int64), vL (3 : Int64)]) (rest := []) (na := 3) 9 rfl (s_Model_isIn ((x0).toInt64) (0 : Int64) (3 : Int64) b σ) rfl rfl (Nat.le_of_ble_eq_true rfl) (cal_Model_isIn _ _ _ _ _ (by decide) (by decide) (by decide)) (show decode M_Model_isSheet.2.1 6 = .ok (.invokestatic 76, 3) by decide +kernel) wd_1617 wd_1618 (fun r_1 b_1 σ_1 => ?_)
  show V M_Model_isSheet 2 0 0 0 0 tI _ 9 [(0, vI x0)] [vI r_1] b_1 σ_1
  exact V_zretc rfl (by decide) (by decide) (show decode M_Model_isSheet.2.1 9 = .ok (.ireturn, 1) by decide +kernel)
theorem cal_Model_isSheet (d mc ms k n : Nat) (h1 : 2 + 1 ≤ d) (h2 : k + 0 ≤ mc) (h3 : n + 0 ≤ ms) : Cal M_Model_isSheet 2 0 0 1 d mc ms k n := ⟨wd_2041, wd_181, by decide, h1, by decide, h2, h3⟩
abbrev M_Model_copy : MD := (⟨"LongTrailModel", "copy", "(IIIII)I"⟩, prog_14_method_108_code, 7, (some FieldType.int))
def b_Model_copy_150 (h0 : Nat) (x3 : Int32) (x4 : Int32) (x5 : Int32) (L150 : Int32 → Bool → Sto → Rs Int32) (x6 : Int32) (b : Bool) (σ : Sto) : Rs Int32 := (if x6 < x5 then (lt_ (pL σ (SR σ h0 6) (ix ((((24 : Int32) * x3) + x4) + x6)) (SL σ (SR σ h0 31) (ix x6))) (fun (σ_7 : Sto) => (lt_ (x6 + (1 : Int32)) (fun (x6_8 : Int32) => (L150 x6_8 ((((b && cK σ h0 13) && cK σ h0 13) && cA σ (SR σ h0 31) 23 x6) && cA σ (SR σ h0 6) 23 ((((24 : Int32) * x3) + x4) + x6)) σ_7))))) else (x5, b, σ))
def b_Model_copy_113 (h0 : Nat) (x1 : Int32) (x2 : Int32) (x3 : Int32) (x4 : Int32) (x5 : Int32) (L113 : Int32 → Bool → Sto → Rs Int32) (x6 : Int32) (b : Bool) (σ : Sto) : Rs Int32 := (if x6 < x5 then (lt_ (pL σ (SR σ h0 31) (ix x6) (SL σ (SR σ h0 6) (ix ((((24 : Int32) * x1) + x2) + x6)))) (fun (σ_4 : Sto) => (lt_ (x6 + (1 : Int32)) (fun (x6_5 : Int32) => (L113 x6_5 ((((b && cK σ h0 13) && cK σ h0 13) && cA σ (SR σ h0 6) 23 ((((24 : Int32) * x1) + x2) + x6)) && cA σ (SR σ h0 31) 23 x6) σ_4))))) else (lt_ (0 : Int32) (fun (x6_6 : Int32) => (lp_ (b_Model_copy_150 h0 x3 x4 x5) (fun (x6 : Int32) (b : Bool) (σ : Sto) => (0, false, σ)) fuel_ x6_6 b σ))))
def f_Model_copy (h0 : Nat) (x1 : Int32) (x2 : Int32) (x3 : Int32) (x4 : Int32) (x5 : Int32) (b : Bool) (σ : Sto) : Rs Int32 := (bd_ (f_Model_isSheet x1 b σ) (fun (r_1 : Int32) (b_1 : Bool) (σ_1 : Sto) => (lt_ (fun (b : Bool) (σ : Sto) => ((-1000000001 : Int32), b, σ)) (fun J14 => (if r_1 = 0 then (J14 b_1 σ_1) else (bd_ (f_Model_isSheet x3 b_1 σ_1) (fun (r_2 : Int32) (b_2 : Bool) (σ_2 : Sto) => (if r_2 = 0 then (J14 b_2 σ_2) else (lt_ (fun (b : Bool) (σ : Sto) => ((-1000000011 : Int32), b, σ)) (fun J35 => (if (SI σ_2 (SR σ_2 h0 4) (ix x1)) < 0 then (J35 ((b_2 && cK σ_2 h0 13) && cA σ_2 (SR σ_2 h0 4) 21 x1) σ_2) else (if (SI σ_2 (SR σ_2 h0 4) (ix x3)) < 0 then (J35 ((((b_2 && cK σ_2 h0 13) && cA σ_2 (SR σ_2 h0 4) 21 x1) && cK σ_2 h0 13) && cA σ_2 (SR σ_2 h0 4) 21 x3) σ_2) else (if (SI σ_2 (SR σ_2 h0 4) (ix x1)) = (SI σ_2 (SR σ_2 h0 4) (ix x3)) then (lt_ (fun (b : Bool) (σ : Sto) => ((-1000000013 : Int32), b, σ)) (fun J106 => (if x2 < 0 then (J106 ((((((((b_2 && cK σ_2 h0 13) && cA σ_2 (SR σ_2 h0 4) 21 x1) && cK σ_2 h0 13) && cA σ_2 (SR σ_2 h0 4) 21 x3) && cK σ_2 h0 13) && cA σ_2 (SR σ_2 h0 4) 21 x1) && cK σ_2 h0 13) && cA σ_2 (SR σ_2 h0 4) 21 x3) σ_2) else (if x4 < 0 then (J106 ((((((((b_2 && cK σ_2 h0 13) && cA σ_2 (SR σ_2 h0 4) 21 x1) && cK σ_2 h0 13) && cA σ_2 (SR σ_2 h0 4) 21 x3) && cK σ_2 h0 13) && cA σ_2 (SR σ_2 h0 4) 21 x1) && cK σ_2 h0 13) && cA σ_2 (SR σ_2 h0 4) 21 x3) σ_2) else (if x5 < 0 then (J106 ((((((((b_2 && cK σ_2 h0 13) && cA σ_2 (SR σ_2 h0 4) 21 x1) && cK σ_2 h0 13) && cA σ_2 (SR σ_2 h0 4) 21 x3) && cK σ_2 h0 13) && cA σ_2 (SR σ_2 h0 4) 21 x1) && cK σ_2 h0 13) && cA σ_2 (SR σ_2 h0 4) 21 x3) σ_2) else (if 0 < (lg_cmp (((x2).toInt64) + ((x5).toInt64)) (((SI σ_2 (SR σ_2 h0 5) (ix x1))).toInt64)) then (J106 ((((((((((b_2 && cK σ_2 h0 13) && cA σ_2 (SR σ_2 h0 4) 21 x1) && cK σ_2 h0 13) && cA σ_2 (SR σ_2 h0 4) 21 x3) && cK σ_2 h0 13) && cA σ_2 (SR σ_2 h0 4) 21 x1) && cK σ_2 h0 13) && cA σ_2 (SR σ_2 h0 4) 21 x3) && cK σ_2 h0 13) && cA σ_2 (SR σ_2 h0 5) 21 x1) σ_2) else (if 0 < (lg_cmp (((x4).toInt64) + ((x5).toInt64)) (((SI σ_2 (SR σ_2 h0 5) (ix x3))).toInt64)) then (J106 ((((((((((((b_2 && cK σ_2 h0 13) && cA σ_2 (SR σ_2 h0 4) 21 x1) && cK σ_2 h0 13) && cA σ_2 (SR σ_2 h0 4) 21 x3) && cK σ_2 h0 13) && cA σ_2 (SR σ_2 h0 4) 21 x1) && cK σ_2 h0 13) && cA σ_2 (SR σ_2 h0 4) 21 x3) && cK σ_2 h0 13) && cA σ_2 (SR σ_2 h0 5) 21 x1) && cK σ_2 h0 13) && cA σ_2 (SR σ_2 h0 5) 21 x3) σ_2) else (lt_ (0 : Int32) (fun (x6_3 : Int32) => (lp_ (b_Model_copy_113 h0 x1 x2 x3 x4 x5) (fun (x6 : Int32) (b : Bool) (σ : Sto) => (0, false, σ)) fuel_ x6_3 ((((((((((((b_2 && cK σ_2 h0 13) && cA σ_2 (SR σ_2 h0 4) 21 x1) && cK σ_2 h0 13) && cA σ_2 (SR σ_2 h0 4) 21 x3) && cK σ_2 h0 13) && cA σ_2 (SR σ_2 h0 4) 21 x1) && cK σ_2 h0 13) && cA σ_2 (SR σ_2 h0 4) 21 x3) && cK σ_2 h0 13) && cA σ_2 (SR σ_2 h0 5) 21 x1) && cK σ_2 h0 13) && cA σ_2 (SR σ_2 h0 5) 21 x3) σ_2)))))))))) else ((-1000000012 : Int32), ((((((((b_2 && cK σ_2 h0 13) && cA σ_2 (SR σ_2 h0 4) 21 x1) && cK σ_2 h0 13) && cA σ_2 (SR σ_2 h0 4) 21 x3) && cK σ_2 h0 13) && cA σ_2 (SR σ_2 h0 4) 21 x1) && cK σ_2 h0 13) && cA σ_2 (SR σ_2 h0 4) 21 x3), σ_2))))))))))))))
set_option maxRecDepth 100000 in
set_option maxHeartbeats 4000000 in
theorem s_Model_copy : ∀ (h0 : Nat) (x1 : Int32) (x2 : Int32) (x3 : Int32) (x4 : Int32) (x5 : Int32) (b : Bool) (σ : Sto), Snd M_Model_copy 3 0 0 [vR h0, vI x1, vI x2, vI x3, vI x4, vI x5] b σ (tI (f_Model_copy h0 x1 x2 x3 x4 x5 b σ).1) (f_Model_copy h0 x1 x2 x3 x4 x5 b σ).2.1 (f_Model_copy h0 x1 x2 x3 x4 x5 b σ).2.2 := by
  intro h0 x1 x2 x3 x4 x5 b σ
  refine Snd_of (tv := tI) (by decide) (Nat.le_of_ble_eq_true rfl) ?_
  show V M_Model_copy 3 0 0 0 0 tI (f_Model_copy h0 x1 x2 x3 x4 x5 b σ) 0 [(0, vR h0), (1, vI x1), (2, vI x2), (3, vI x3), (4, vI x4), (5, vI x5)] [] b σ
  unfold f_Model_copy
  refine V_iload_n 1 rfl (show decode M_Model_copy.2.1 0 = .ok (.iload_n 1, 1) by decide +kernel) 1 rfl ?_
  refine V_callS (tb := tI) (as := [vI x1]) (rest := []) (na := 1) 4 rfl (s_Model_isSheet x1 b σ) rfl rfl (Nat.le_of_ble_eq_true rfl) (cal_Model_isSheet _ _ _ _ _ (by decide) (by decide) (by decide)) (show decode M_Model_copy.2.1 1 = .ok (.invokestatic 367, 3) by decide +kernel) wd_2039 wd_2040 (fun r_1 b_1 σ_1 => ?_)
  show V M_Model_copy 3 0 0 0 0 tI _ 4 [(0, vR h0), (1, vI x1), (2, vI x2), (3, vI x3), (4, vI x4), (5, vI x5)] [vI r_1] b_1 σ_1
  refine V_jn (fun (J14 : Bool → Sto → Rs Int32) => ∀ (b : Bool) (σ : Sto), V M_Model_copy 3 0 0 0 0 tI (J14 b σ) 14 [] [] b σ) ?_ (fun J14 hJ14 => ?_)
  · intro b σ
    refine V_ldc 16 rfl (show decode M_Model_copy.2.1 14 = .ok (.ldc 91, 2) by decide +kernel) wd_1620 ?_
    exact V_iret rfl (by decide) (by decide) (show decode M_Model_copy.2.1 16 = .ok (.ireturn, 1) by decide +kernel)
  · skip
    refine V_ifeq 7 14 rfl (show decode M_Model_copy.2.1 4 = .ok (.ifCond .eq 10, 3) by decide +kernel) rfl ?_ ?_
    · skip
      exact V_sub [] rfl (hJ14 b_1 σ_1)
    · skip
      refine V_iload_n 8 rfl (show decode M_Model_copy.2.1 7 = .ok (.iload_n 3, 1) by decide +kernel) 3 rfl ?_
      refine V_callS (tb := tI) (as := [vI x3]) (rest := []) (na := 1) 11 rfl (s_Model_isSheet x3 b_1 σ_1) rfl rfl (Nat.le_of_ble_eq_true rfl) (cal_Model_isSheet _ _ _ _ _ (by decide) (by decide) (by decide)) (show decode M_Model_copy.2.1 8 = .ok (.invokestatic 367, 3) by decide +kernel) wd_2039 wd_2040 (fun r_2 b_2 σ_2 => ?_)
      show V M_Model_copy 3 0 0 0 0 tI _ 11 [(0, vR h0), (1, vI x1), (2, vI x2), (3, vI x3), (4, vI x4), (5, vI x5)] [vI r_2] b_2 σ_2
      refine V_ifne 14 17 rfl (show decode M_Model_copy.2.1 11 = .ok (.ifCond .ne 6, 3) by decide +kernel) rfl ?_ ?_
      · skip
        exact V_sub [] rfl (hJ14 b_2 σ_2)
      · skip
        refine V_aload_n 18 rfl (show decode M_Model_copy.2.1 17 = .ok (.aload_n 0, 1) by decide +kernel) 0 rfl ?_
        refine V_get (j := 4) (v := vR (SR σ_2 h0 4)) 21 rfl ck_Model (by decide) (by decide) (show decode M_Model_copy.2.1 18 = .ok (.getfield 19, 3) by decide +kernel) wd_1508 rfl ?_
        refine V_iload_n 22 rfl (show decode M_Model_copy.2.1 21 = .ok (.iload_n 1, 1) by decide +kernel) 1 rfl ?_
        refine V_ald_int 23 rfl (show decode M_Model_copy.2.1 22 = .ok (.iaload, 1) by decide +kernel) ?_
        refine V_jn (fun (J35 : Bool → Sto → Rs Int32) => ∀ (b : Bool) (σ : Sto), V M_Model_copy 3 0 0 0 0 tI (J35 b σ) 35 [] [] b σ) ?_ (fun J35 hJ35 => ?_)
        · intro b σ
          refine V_ldcw 38 rfl (show decode M_Model_copy.2.1 35 = .ok (.ldc_w 373, 3) by decide +kernel) wd_2048 ?_
          exact V_iret rfl (by decide) (by decide) (show decode M_Model_copy.2.1 38 = .ok (.ireturn, 1) by decide +kernel)
        · skip
          refine V_iflt 26 35 rfl (show decode M_Model_copy.2.1 23 = .ok (.ifCond .lt 12, 3) by decide +kernel) rfl ?_ ?_
          · skip
            exact V_sub [] rfl (hJ35 ((b_2 && cK σ_2 h0 13) && cA σ_2 (SR σ_2 h0 4) 21 x1) σ_2)
          · skip
            refine V_aload_n 27 rfl (show decode M_Model_copy.2.1 26 = .ok (.aload_n 0, 1) by decide +kernel) 0 rfl ?_
            refine V_get (j := 4) (v := vR (SR σ_2 h0 4)) 30 rfl ck_Model (by decide) (by decide) (show decode M_Model_copy.2.1 27 = .ok (.getfield 19, 3) by decide +kernel) wd_1508 rfl ?_
            refine V_iload_n 31 rfl (show decode M_Model_copy.2.1 30 = .ok (.iload_n 3, 1) by decide +kernel) 3 rfl ?_
            refine V_ald_int 32 rfl (show decode M_Model_copy.2.1 31 = .ok (.iaload, 1) by decide +kernel) ?_
            refine V_ifge 35 39 rfl (show decode M_Model_copy.2.1 32 = .ok (.ifCond .ge 7, 3) by decide +kernel) rfl ?_ ?_
            · skip
              exact V_sub [] rfl (hJ35 ((((b_2 && cK σ_2 h0 13) && cA σ_2 (SR σ_2 h0 4) 21 x1) && cK σ_2 h0 13) && cA σ_2 (SR σ_2 h0 4) 21 x3) σ_2)
            · skip
              refine V_aload_n 40 rfl (show decode M_Model_copy.2.1 39 = .ok (.aload_n 0, 1) by decide +kernel) 0 rfl ?_
              refine V_get (j := 4) (v := vR (SR σ_2 h0 4)) 43 rfl ck_Model (by decide) (by decide) (show decode M_Model_copy.2.1 40 = .ok (.getfield 19, 3) by decide +kernel) wd_1508 rfl ?_
              refine V_iload_n 44 rfl (show decode M_Model_copy.2.1 43 = .ok (.iload_n 1, 1) by decide +kernel) 1 rfl ?_
              refine V_ald_int 45 rfl (show decode M_Model_copy.2.1 44 = .ok (.iaload, 1) by decide +kernel) ?_
              refine V_aload_n 46 rfl (show decode M_Model_copy.2.1 45 = .ok (.aload_n 0, 1) by decide +kernel) 0 rfl ?_
              refine V_get (j := 4) (v := vR (SR σ_2 h0 4)) 49 rfl ck_Model (by decide) (by decide) (show decode M_Model_copy.2.1 46 = .ok (.getfield 19, 3) by decide +kernel) wd_1508 rfl ?_
              refine V_iload_n 50 rfl (show decode M_Model_copy.2.1 49 = .ok (.iload_n 3, 1) by decide +kernel) 3 rfl ?_
              refine V_ald_int 51 rfl (show decode M_Model_copy.2.1 50 = .ok (.iaload, 1) by decide +kernel) ?_
              refine V_icmpeq 54 57 rfl (show decode M_Model_copy.2.1 51 = .ok (.if_icmp .eq 6, 3) by decide +kernel) rfl ?_ ?_
              · skip
                refine V_iload_n 58 rfl (show decode M_Model_copy.2.1 57 = .ok (.iload_n 2, 1) by decide +kernel) 2 rfl ?_
                refine V_jn (fun (J106 : Bool → Sto → Rs Int32) => ∀ (b : Bool) (σ : Sto), V M_Model_copy 3 0 0 0 0 tI (J106 b σ) 106 [] [] b σ) ?_ (fun J106 hJ106 => ?_)
                · intro b σ
                  refine V_ldcw 109 rfl (show decode M_Model_copy.2.1 106 = .ok (.ldc_w 374, 3) by decide +kernel) wd_2049 ?_
                  exact V_iret rfl (by decide) (by decide) (show decode M_Model_copy.2.1 109 = .ok (.ireturn, 1) by decide +kernel)
                · skip
                  refine V_iflt 61 106 rfl (show decode M_Model_copy.2.1 58 = .ok (.ifCond .lt 48, 3) by decide +kernel) rfl ?_ ?_
                  · skip
                    exact V_sub [] rfl (hJ106 ((((((((b_2 && cK σ_2 h0 13) && cA σ_2 (SR σ_2 h0 4) 21 x1) && cK σ_2 h0 13) && cA σ_2 (SR σ_2 h0 4) 21 x3) && cK σ_2 h0 13) && cA σ_2 (SR σ_2 h0 4) 21 x1) && cK σ_2 h0 13) && cA σ_2 (SR σ_2 h0 4) 21 x3) σ_2)
                  · skip
                    refine V_iload 63 rfl (show decode M_Model_copy.2.1 61 = .ok (.iload 4, 2) by decide +kernel) 4 rfl ?_
                    refine V_iflt 66 106 rfl (show decode M_Model_copy.2.1 63 = .ok (.ifCond .lt 43, 3) by decide +kernel) rfl ?_ ?_
                    · skip
                      exact V_sub [] rfl (hJ106 ((((((((b_2 && cK σ_2 h0 13) && cA σ_2 (SR σ_2 h0 4) 21 x1) && cK σ_2 h0 13) && cA σ_2 (SR σ_2 h0 4) 21 x3) && cK σ_2 h0 13) && cA σ_2 (SR σ_2 h0 4) 21 x1) && cK σ_2 h0 13) && cA σ_2 (SR σ_2 h0 4) 21 x3) σ_2)
                    · skip
                      refine V_iload 68 rfl (show decode M_Model_copy.2.1 66 = .ok (.iload 5, 2) by decide +kernel) 5 rfl ?_
                      refine V_iflt 71 106 rfl (show decode M_Model_copy.2.1 68 = .ok (.ifCond .lt 38, 3) by decide +kernel) rfl ?_ ?_
                      · skip
                        exact V_sub [] rfl (hJ106 ((((((((b_2 && cK σ_2 h0 13) && cA σ_2 (SR σ_2 h0 4) 21 x1) && cK σ_2 h0 13) && cA σ_2 (SR σ_2 h0 4) 21 x3) && cK σ_2 h0 13) && cA σ_2 (SR σ_2 h0 4) 21 x1) && cK σ_2 h0 13) && cA σ_2 (SR σ_2 h0 4) 21 x3) σ_2)
                      · skip
                        refine V_iload_n 72 rfl (show decode M_Model_copy.2.1 71 = .ok (.iload_n 2, 1) by decide +kernel) 2 rfl ?_
                        refine V_i2l 73 rfl (show decode M_Model_copy.2.1 72 = .ok (.i2l, 1) by decide +kernel) ?_
                        refine V_iload 75 rfl (show decode M_Model_copy.2.1 73 = .ok (.iload 5, 2) by decide +kernel) 5 rfl ?_
                        refine V_i2l 76 rfl (show decode M_Model_copy.2.1 75 = .ok (.i2l, 1) by decide +kernel) ?_
                        refine V_ladd 77 rfl (show decode M_Model_copy.2.1 76 = .ok (.ladd, 1) by decide +kernel) ?_
                        refine V_aload_n 78 rfl (show decode M_Model_copy.2.1 77 = .ok (.aload_n 0, 1) by decide +kernel) 0 rfl ?_
                        refine V_get (j := 5) (v := vR (SR σ_2 h0 5)) 81 rfl ck_Model (by decide) (by decide) (show decode M_Model_copy.2.1 78 = .ok (.getfield 22, 3) by decide +kernel) wd_1509 rfl ?_
                        refine V_iload_n 82 rfl (show decode M_Model_copy.2.1 81 = .ok (.iload_n 1, 1) by decide +kernel) 1 rfl ?_
                        refine V_ald_int 83 rfl (show decode M_Model_copy.2.1 82 = .ok (.iaload, 1) by decide +kernel) ?_
                        refine V_i2l 84 rfl (show decode M_Model_copy.2.1 83 = .ok (.i2l, 1) by decide +kernel) ?_
                        refine V_lcmp 85 rfl (show decode M_Model_copy.2.1 84 = .ok (.lcmp, 1) by decide +kernel) ?_
                        refine V_ifgt 88 106 rfl (show decode M_Model_copy.2.1 85 = .ok (.ifCond .gt 21, 3) by decide +kernel) rfl ?_ ?_
                        · skip
                          exact V_sub [] rfl (hJ106 ((((((((((b_2 && cK σ_2 h0 13) && cA σ_2 (SR σ_2 h0 4) 21 x1) && cK σ_2 h0 13) && cA σ_2 (SR σ_2 h0 4) 21 x3) && cK σ_2 h0 13) && cA σ_2 (SR σ_2 h0 4) 21 x1) && cK σ_2 h0 13) && cA σ_2 (SR σ_2 h0 4) 21 x3) && cK σ_2 h0 13) && cA σ_2 (SR σ_2 h0 5) 21 x1) σ_2)
                        · skip
                          refine V_iload 90 rfl (show decode M_Model_copy.2.1 88 = .ok (.iload 4, 2) by decide +kernel) 4 rfl ?_
                          refine V_i2l 91 rfl (show decode M_Model_copy.2.1 90 = .ok (.i2l, 1) by decide +kernel) ?_
                          refine V_iload 93 rfl (show decode M_Model_copy.2.1 91 = .ok (.iload 5, 2) by decide +kernel) 5 rfl ?_
                          refine V_i2l 94 rfl (show decode M_Model_copy.2.1 93 = .ok (.i2l, 1) by decide +kernel) ?_
                          refine V_ladd 95 rfl (show decode M_Model_copy.2.1 94 = .ok (.ladd, 1) by decide +kernel) ?_
                          refine V_aload_n 96 rfl (show decode M_Model_copy.2.1 95 = .ok (.aload_n 0, 1) by decide +kernel) 0 rfl ?_
                          refine V_get (j := 5) (v := vR (SR σ_2 h0 5)) 99 rfl ck_Model (by decide) (by decide) (show decode M_Model_copy.2.1 96 = .ok (.getfield 22, 3) by decide +kernel) wd_1509 rfl ?_
                          refine V_iload_n 100 rfl (show decode M_Model_copy.2.1 99 = .ok (.iload_n 3, 1) by decide +kernel) 3 rfl ?_
                          refine V_ald_int 101 rfl (show decode M_Model_copy.2.1 100 = .ok (.iaload, 1) by decide +kernel) ?_
                          refine V_i2l 102 rfl (show decode M_Model_copy.2.1 101 = .ok (.i2l, 1) by decide +kernel) ?_
                          refine V_lcmp 103 rfl (show decode M_Model_copy.2.1 102 = .ok (.lcmp, 1) by decide +kernel) ?_
                          refine V_ifle 106 110 rfl (show decode M_Model_copy.2.1 103 = .ok (.ifCond .le 7, 3) by decide +kernel) rfl ?_ ?_
                          · skip
                            exact V_sub [] rfl (hJ106 ((((((((((((b_2 && cK σ_2 h0 13) && cA σ_2 (SR σ_2 h0 4) 21 x1) && cK σ_2 h0 13) && cA σ_2 (SR σ_2 h0 4) 21 x3) && cK σ_2 h0 13) && cA σ_2 (SR σ_2 h0 4) 21 x1) && cK σ_2 h0 13) && cA σ_2 (SR σ_2 h0 4) 21 x3) && cK σ_2 h0 13) && cA σ_2 (SR σ_2 h0 5) 21 x1) && cK σ_2 h0 13) && cA σ_2 (SR σ_2 h0 5) 21 x3) σ_2)
                          · skip
                            refine V_iconst 111 rfl (show decode M_Model_copy.2.1 110 = .ok (.iconst 0, 1) by decide +kernel) (v := 0) rfl ?_
                            refine V_istore (fun x6_3 => [(6, vI x6_3), (0, vR h0), (1, vI x1), (2, vI x2), (3, vI x3), (4, vI x4), (5, vI x5)]) 113 rfl (show decode M_Model_copy.2.1 111 = .ok (.istore 6, 2) by decide +kernel) (by decide) (fun _ => rfl) (fun x6_3 => ?_)
                            refine V_sub [1, 2, 3, 4, 5, 6, 0] rfl ?_
                            refine lp_P (fun (L113 : Int32 → Bool → Sto → Rs Int32) => ∀ (x6 : Int32) (b : Bool) (σ : Sto), V M_Model_copy 3 0 0 0 0 tI (L113 x6 b σ) 113 [(0, vR h0), (1, vI x1), (2, vI x2), (3, vI x3), (4, vI x4), (5, vI x5), (6, vI x6)] [] b σ) ?_ ?_ fuel_ x6_3 ((((((((((((b_2 && cK σ_2 h0 13) && cA σ_2 (SR σ_2 h0 4) 21 x1) && cK σ_2 h0 13) && cA σ_2 (SR σ_2 h0 4) 21 x3) && cK σ_2 h0 13) && cA σ_2 (SR σ_2 h0 4) 21 x1) && cK σ_2 h0 13) && cA σ_2 (SR σ_2 h0 4) 21 x3) && cK σ_2 h0 13) && cA σ_2 (SR σ_2 h0 5) 21 x1) && cK σ_2 h0 13) && cA σ_2 (SR σ_2 h0 5) 21 x3) σ_2
                            · intro x6 b σ; exact V_bad
                            · intro L113 hL113 x6 b σ
                              unfold b_Model_copy_113
                              refine V_iload 115 rfl (show decode M_Model_copy.2.1 113 = .ok (.iload 6, 2) by decide +kernel) 6 rfl ?_
                              refine V_iload 117 rfl (show decode M_Model_copy.2.1 115 = .ok (.iload 5, 2) by decide +kernel) 5 rfl ?_
                              refine V_icmpge 120 147 rfl (show decode M_Model_copy.2.1 117 = .ok (.if_icmp .ge 30, 3) by decide +kernel) rfl ?_ ?_
                              · skip
                                refine V_aload_n 121 rfl (show decode M_Model_copy.2.1 120 = .ok (.aload_n 0, 1) by decide +kernel) 0 rfl ?_
                                refine V_get (j := 31) (v := vR (SR σ h0 31)) 124 rfl ck_Model (by decide) (by decide) (show decode M_Model_copy.2.1 121 = .ok (.getfield 66, 3) by decide +kernel) wd_1535 rfl ?_
                                refine V_iload 126 rfl (show decode M_Model_copy.2.1 124 = .ok (.iload 6, 2) by decide +kernel) 6 rfl ?_
                                refine V_aload_n 127 rfl (show decode M_Model_copy.2.1 126 = .ok (.aload_n 0, 1) by decide +kernel) 0 rfl ?_
                                refine V_get (j := 6) (v := vR (SR σ h0 6)) 130 rfl ck_Model (by decide) (by decide) (show decode M_Model_copy.2.1 127 = .ok (.getfield 25, 3) by decide +kernel) wd_1510 rfl ?_
                                refine V_bipush 132 rfl (show decode M_Model_copy.2.1 130 = .ok (.bipush 24, 2) by decide +kernel) (v := 24) rfl ?_
                                refine V_iload_n 133 rfl (show decode M_Model_copy.2.1 132 = .ok (.iload_n 1, 1) by decide +kernel) 1 rfl ?_
                                refine V_imul 134 rfl (show decode M_Model_copy.2.1 133 = .ok (.imul, 1) by decide +kernel) ?_
                                refine V_iload_n 135 rfl (show decode M_Model_copy.2.1 134 = .ok (.iload_n 2, 1) by decide +kernel) 2 rfl ?_
                                refine V_iadd 136 rfl (show decode M_Model_copy.2.1 135 = .ok (.iadd, 1) by decide +kernel) ?_
                                refine V_iload 138 rfl (show decode M_Model_copy.2.1 136 = .ok (.iload 6, 2) by decide +kernel) 6 rfl ?_
                                refine V_iadd 139 rfl (show decode M_Model_copy.2.1 138 = .ok (.iadd, 1) by decide +kernel) ?_
                                refine V_ald_long 140 rfl (show decode M_Model_copy.2.1 139 = .ok (.laload, 1) by decide +kernel) ?_
                                refine V_ast_long 141 rfl (show decode M_Model_copy.2.1 140 = .ok (.lastore, 1) by decide +kernel) (fun σ_4 => ?_)
                                refine V_iinc (fun x6_5 => [(6, vI x6_5), (0, vR h0), (1, vI x1), (2, vI x2), (3, vI x3), (4, vI x4), (5, vI x5)]) 144 rfl (show decode M_Model_copy.2.1 141 = .ok (.iinc 6 1, 3) by decide +kernel) 6 rfl (w := 1) rfl (by decide) (fun _ => rfl) (fun x6_5 => ?_)
                                refine V_goto 113 (show decode M_Model_copy.2.1 144 = .ok (.goto (-31), 3) by decide +kernel) rfl ?_
                                exact V_sub [1, 2, 3, 4, 5, 6, 0] rfl (hL113 x6_5 ((((b && cK σ h0 13) && cK σ h0 13) && cA σ (SR σ h0 6) 23 ((((24 : Int32) * x1) + x2) + x6)) && cA σ (SR σ h0 31) 23 x6) σ_4)
                              · skip
                                refine V_iconst 148 rfl (show decode M_Model_copy.2.1 147 = .ok (.iconst 0, 1) by decide +kernel) (v := 0) rfl ?_
                                refine V_istore (fun x6_6 => [(6, vI x6_6), (0, vR h0), (1, vI x1), (2, vI x2), (3, vI x3), (4, vI x4), (5, vI x5)]) 150 rfl (show decode M_Model_copy.2.1 148 = .ok (.istore 6, 2) by decide +kernel) (by decide) (fun _ => rfl) (fun x6_6 => ?_)
                                refine V_sub [1, 4, 5, 6, 0] rfl ?_
                                refine lp_P (fun (L150 : Int32 → Bool → Sto → Rs Int32) => ∀ (x6 : Int32) (b : Bool) (σ : Sto), V M_Model_copy 3 0 0 0 0 tI (L150 x6 b σ) 150 [(0, vR h0), (3, vI x3), (4, vI x4), (5, vI x5), (6, vI x6)] [] b σ) ?_ ?_ fuel_ x6_6 b σ
                                · intro x6 b σ; exact V_bad
                                · intro L150 hL150 x6 b σ
                                  unfold b_Model_copy_150
                                  refine V_iload 152 rfl (show decode M_Model_copy.2.1 150 = .ok (.iload 6, 2) by decide +kernel) 4 rfl ?_
                                  refine V_iload 154 rfl (show decode M_Model_copy.2.1 152 = .ok (.iload 5, 2) by decide +kernel) 3 rfl ?_
                                  refine V_icmpge 157 185 rfl (show decode M_Model_copy.2.1 154 = .ok (.if_icmp .ge 31, 3) by decide +kernel) rfl ?_ ?_
                                  · skip
                                    refine V_aload_n 158 rfl (show decode M_Model_copy.2.1 157 = .ok (.aload_n 0, 1) by decide +kernel) 0 rfl ?_
                                    refine V_get (j := 6) (v := vR (SR σ h0 6)) 161 rfl ck_Model (by decide) (by decide) (show decode M_Model_copy.2.1 158 = .ok (.getfield 25, 3) by decide +kernel) wd_1510 rfl ?_
                                    refine V_bipush 163 rfl (show decode M_Model_copy.2.1 161 = .ok (.bipush 24, 2) by decide +kernel) (v := 24) rfl ?_
                                    refine V_iload_n 164 rfl (show decode M_Model_copy.2.1 163 = .ok (.iload_n 3, 1) by decide +kernel) 1 rfl ?_
                                    refine V_imul 165 rfl (show decode M_Model_copy.2.1 164 = .ok (.imul, 1) by decide +kernel) ?_
                                    refine V_iload 167 rfl (show decode M_Model_copy.2.1 165 = .ok (.iload 4, 2) by decide +kernel) 2 rfl ?_
                                    refine V_iadd 168 rfl (show decode M_Model_copy.2.1 167 = .ok (.iadd, 1) by decide +kernel) ?_
                                    refine V_iload 170 rfl (show decode M_Model_copy.2.1 168 = .ok (.iload 6, 2) by decide +kernel) 4 rfl ?_
                                    refine V_iadd 171 rfl (show decode M_Model_copy.2.1 170 = .ok (.iadd, 1) by decide +kernel) ?_
                                    refine V_aload_n 172 rfl (show decode M_Model_copy.2.1 171 = .ok (.aload_n 0, 1) by decide +kernel) 0 rfl ?_
                                    refine V_get (j := 31) (v := vR (SR σ h0 31)) 175 rfl ck_Model (by decide) (by decide) (show decode M_Model_copy.2.1 172 = .ok (.getfield 66, 3) by decide +kernel) wd_1535 rfl ?_
                                    refine V_iload 177 rfl (show decode M_Model_copy.2.1 175 = .ok (.iload 6, 2) by decide +kernel) 4 rfl ?_
                                    refine V_ald_long 178 rfl (show decode M_Model_copy.2.1 177 = .ok (.laload, 1) by decide +kernel) ?_
                                    refine V_ast_long 179 rfl (show decode M_Model_copy.2.1 178 = .ok (.lastore, 1) by decide +kernel) (fun σ_7 => ?_)
                                    refine V_iinc (fun x6_8 => [(6, vI x6_8), (0, vR h0), (3, vI x3), (4, vI x4), (5, vI x5)]) 182 rfl (show decode M_Model_copy.2.1 179 = .ok (.iinc 6 1, 3) by decide +kernel) 4 rfl (w := 1) rfl (by decide) (fun _ => rfl) (fun x6_8 => ?_)
                                    refine V_goto 150 (show decode M_Model_copy.2.1 182 = .ok (.goto (-32), 3) by decide +kernel) rfl ?_
                                    exact V_sub [1, 2, 3, 4, 0] rfl (hL150 x6_8 ((((b && cK σ h0 13) && cK σ h0 13) && cA σ (SR σ h0 31) 23 x6) && cA σ (SR σ h0 6) 23 ((((24 : Int32) * x3) + x4) + x6)) σ_7)
                                  · skip
                                    refine V_iload 187 rfl (show decode M_Model_copy.2.1 185 = .ok (.iload 5, 2) by decide +kernel) 3 rfl ?_
                                    exact V_iret rfl (by decide) (by decide) (show decode M_Model_copy.2.1 187 = .ok (.ireturn, 1) by decide +kernel)
              · skip
                refine V_ldc 56 rfl (show decode M_Model_copy.2.1 54 = .ok (.ldc 138, 2) by decide +kernel) wd_1692 ?_
                exact V_iret rfl (by decide) (by decide) (show decode M_Model_copy.2.1 56 = .ok (.ireturn, 1) by decide +kernel)
theorem cal_Model_copy (d mc ms k n : Nat) (h1 : 3 + 1 ≤ d) (h2 : k + 0 ≤ mc) (h3 : n + 0 ≤ ms) : Cal M_Model_copy 3 0 0 5 d mc ms k n := ⟨wd_2057, wd_181, by decide, h1, by decide, h2, h3⟩
abbrev M_Model_cost : MD := (⟨"LongTrailModel", "cost", "(I)I"⟩, prog_14_method_90_code, 2, (some FieldType.int))
def f_Model_cost (h0 : Nat) (x1 : Int32) (b : Bool) (σ : Sto) : Rs Int32 := (bd_ (f_Model_isIn ((x1).toInt64) (0 : Int64) (99 : Int64) b σ) (fun (r_1 : Int32) (b_1 : Bool) (σ_1 : Sto) => (if r_1 = 0 then ((-1000000001 : Int32), b_1, σ_1) else (bd_ (f_Model_becomes h0 (10 : Int32) x1 (b_1 && cK σ_1 h0 13) σ_1) (fun (r_2 : Int32) (b_2 : Bool) (σ_2 : Sto) => (r_2, b_2, σ_2))))))
set_option maxRecDepth 100000 in
set_option maxHeartbeats 4000000 in
theorem s_Model_cost : ∀ (h0 : Nat) (x1 : Int32) (b : Bool) (σ : Sto), Snd M_Model_cost 2 0 0 [vR h0, vI x1] b σ (tI (f_Model_cost h0 x1 b σ).1) (f_Model_cost h0 x1 b σ).2.1 (f_Model_cost h0 x1 b σ).2.2 := by
  intro h0 x1 b σ
  refine Snd_of (tv := tI) (by decide) (Nat.le_of_ble_eq_true rfl) ?_
  show V M_Model_cost 2 0 0 0 0 tI (f_Model_cost h0 x1 b σ) 0 [(0, vR h0), (1, vI x1)] [] b σ
  unfold f_Model_cost
  refine V_iload_n 1 rfl (show decode M_Model_cost.2.1 0 = .ok (.iload_n 1, 1) by decide +kernel) 1 rfl ?_
  refine V_i2l 2 rfl (show decode M_Model_cost.2.1 1 = .ok (.i2l, 1) by decide +kernel) ?_
  refine V_lconst 3 rfl (show decode M_Model_cost.2.1 2 = .ok (.lconst 0, 1) by decide +kernel) (v := 0) rfl ?_
  refine V_ldc2 6 rfl (show decode M_Model_cost.2.1 3 = .ok (.ldc2_w 260, 3) by decide +kernel) wd_1832 ?_
  refine V_callS (tb := tI) (as := [vL ((x1).toInt64), vL (0 : Int64), vL (99 : Int64)]) (rest := []) (na := 3) 9 rfl (s_Model_isIn ((x1).toInt64) (0 : Int64) (99 : Int64) b σ) rfl rfl (Nat.le_of_ble_eq_true rfl) (cal_Model_isIn _ _ _ _ _ (by decide) (by decide) (by decide)) (show decode M_Model_cost.2.1 6 = .ok (.invokestatic 76, 3) by decide +kernel) wd_1617 wd_1618 (fun r_1 b_1 σ_1 => ?_)
  show V M_Model_cost 2 0 0 0 0 tI _ 9 [(0, vR h0), (1, vI x1)] [vI r_1] b_1 σ_1
  refine V_ifeq 12 22 rfl (show decode M_Model_cost.2.1 9 = .ok (.ifCond .eq 13, 3) by decide +kernel) rfl ?_ ?_
  · skip
    refine V_ldc 24 rfl (show decode M_Model_cost.2.1 22 = .ok (.ldc 91, 2) by decide +kernel) wd_1620 ?_
    exact V_iret rfl (by decide) (by decide) (show decode M_Model_cost.2.1 24 = .ok (.ireturn, 1) by decide +kernel)
  · skip
    refine V_aload_n 13 rfl (show decode M_Model_cost.2.1 12 = .ok (.aload_n 0, 1) by decide +kernel) 0 rfl ?_
    refine V_bipush 15 rfl (show decode M_Model_cost.2.1 13 = .ok (.bipush 10, 2) by decide +kernel) (v := 10) rfl ?_
    refine V_iload_n 16 rfl (show decode M_Model_cost.2.1 15 = .ok (.iload_n 1, 1) by decide +kernel) 1 rfl ?_
    refine V_callV (tb := tI) (as := [vI (10 : Int32), vI x1]) (rest := []) (na := 2) 19 rfl ck_Model (by decide) (s_Model_becomes h0 (10 : Int32) x1 (b_1 && cK σ_1 h0 13) σ_1) rfl rfl (Nat.le_of_ble_eq_true rfl) (cal_Model_becomes _ _ _ _ _ (by decide) (by decide) (by decide)) (show decode M_Model_cost.2.1 16 = .ok (.invokevirtual 99, 3) by decide +kernel) wd_1634 wd_1636 wd_115 (fun r_2 b_2 σ_2 => ?_)
    show V M_Model_cost 2 0 0 0 0 tI _ 19 [(0, vR h0), (1, vI x1)] [vI r_2] b_2 σ_2
    refine V_goto 24 (show decode M_Model_cost.2.1 19 = .ok (.goto 5, 3) by decide +kernel) rfl ?_
    exact V_iret rfl (by decide) (by decide) (show decode M_Model_cost.2.1 24 = .ok (.ireturn, 1) by decide +kernel)
theorem cal_Model_cost (d mc ms k n : Nat) (h1 : 2 + 1 ≤ d) (h2 : k + 0 ≤ mc) (h3 : n + 0 ≤ ms) : Cal M_Model_cost 2 0 0 1 d mc ms k n := ⟨wd_1982, wd_181, by decide, h1, by decide, h2, h3⟩
abbrev M_Model_count : MD := (⟨"LongTrailModel", "count", "(I)I"⟩, prog_14_method_113_code, 4, (some FieldType.int))
def b_Model_count_104 (h0 : Nat) (L104 : Int32 → Int32 → Bool → Sto → Rs Int32) (x2 : Int32) (x3 : Int32) (b : Bool) (σ : Sto) : Rs Int32 := (if x3 < (SI σ (SR σ h0 0) (ix (3 : Int32))) then (bd_ (f_Model_isOn h0 x3 (((b && cK σ h0 13) && cA σ (SR σ h0 0) 21 (3 : Int32)) && cK σ h0 13) σ) (fun (r_3 : Int32) (b_3 : Bool) (σ_3 : Sto) => (lt_ (fun (s0_128 : Int32) (s1_128 : Int32) (b : Bool) (σ : Sto) => (lt_ (s1_128 + s0_128) (fun (x2_4 : Int32) => (lt_ (x3 + (1 : Int32)) (fun (x3_5 : Int32) => (L104 x2_4 x3_5 b σ)))))) (fun J128 => (if r_3 = 0 then (J128 (0 : Int32) x2 b_3 σ_3) else (J128 (1 : Int32) x2 b_3 σ_3)))))) else (x2, ((b && cK σ h0 13) && cA σ (SR σ h0 0) 21 (3 : Int32)), σ))
def b_Model_count_147 (h0 : Nat) (x1 : Int32) (L147 : Int32 → Int32 → Bool → Sto → Rs Int32) (x2 : Int32) (x3 : Int32) (b : Bool) (σ : Sto) : Rs Int32 := (if x3 < (SI σ (SR σ h0 0) (ix (5 : Int32))) then (bd_ (f_Model_walkerAt h0 x3 ((((b && cK σ h0 13) && cA σ (SR σ h0 0) 21 (5 : Int32)) && cK σ h0 13) && cK σ h0 13) σ) (fun (r_7 : Int32) (b_7 : Bool) (σ_7 : Sto) => (lt_ (fun (s0_179 : Int32) (s1_179 : Int32) (b : Bool) (σ : Sto) => (lt_ (s1_179 + s0_179) (fun (x2_8 : Int32) => (lt_ (x3 + (1 : Int32)) (fun (x3_9 : Int32) => (L147 x2_8 x3_9 b σ)))))) (fun J179 => (if (SI σ_7 (SR σ h0 0) (ix r_7)) = (x1 - (4 : Int32)) then (J179 (1 : Int32) x2 (b_7 && cA σ_7 (SR σ h0 0) 21 r_7) σ_7) else (J179 (0 : Int32) x2 (b_7 && cA σ_7 (SR σ h0 0) 21 r_7) σ_7)))))) else (x2, ((b && cK σ h0 13) && cA σ (SR σ h0 0) 21 (5 : Int32)), σ))
def b_Model_count_199 (h0 : Nat) (L199 : Int32 → Int32 → Bool → Sto → Rs Int32) (x2 : Int32) (x3 : Int32) (b : Bool) (σ : Sto) : Rs Int32 := (if x3 < (SI σ (SR σ h0 0) (ix (6 : Int32))) then (bd_ (f_Model_boxAt h0 x3 ((((b && cK σ h0 13) && cA σ (SR σ h0 0) 21 (6 : Int32)) && cK σ h0 13) && cK σ h0 13) σ) (fun (r_23 : Int32) (b_23 : Bool) (σ_23 : Sto) => (lt_ (fun (s0_231 : Int32) (s1_231 : Int32) (b : Bool) (σ : Sto) => (lt_ (s1_231 + s0_231) (fun (x2_24 : Int32) => (lt_ (x3 + (1 : Int32)) (fun (x3_25 : Int32) => (L199 x2_24 x3_25 b σ)))))) (fun J231 => (if (SI σ_23 (SR σ h0 0) (ix (r_23 + (4 : Int32)))) = 0 then (J231 (1 : Int32) x2 (b_23 && cA σ_23 (SR σ h0 0) 21 (r_23 + (4 : Int32))) σ_23) else (J231 (0 : Int32) x2 (b_23 && cA σ_23 (SR σ h0 0) 21 (r_23 + (4 : Int32))) σ_23)))))) else (x2, ((b && cK σ h0 13) && cA σ (SR σ h0 0) 21 (6 : Int32)), σ))
def f_Model_count (h0 : Nat) (x1 : Int32) (b : Bool) (σ : Sto) : Rs Int32 := (lt_ (0 : Int32) (fun (x2_1 : Int32) => (if x1 = (0 : Int32) then ((SI σ (SR σ h0 0) (ix (2 : Int32))), ((b && cK σ h0 13) && cA σ (SR σ h0 0) 21 (2 : Int32)), σ) else (if x1 = (1 : Int32) then ((SI σ (SR σ h0 0) (ix (3 : Int32))), ((b && cK σ h0 13) && cA σ (SR σ h0 0) 21 (3 : Int32)), σ) else (if x1 = (2 : Int32) then (lt_ (0 : Int32) (fun (x3_2 : Int32) => (lp_ (b_Model_count_104 h0) (fun (x2 : Int32) (x3 : Int32) (b : Bool) (σ : Sto) => (0, false, σ)) fuel_ x2_1 x3_2 b σ))) else (if x1 = (3 : Int32) then ((SI σ (SR σ h0 0) (ix (5 : Int32))), ((b && cK σ h0 13) && cA σ (SR σ h0 0) 21 (5 : Int32)), σ) else (if x1 = (4 : Int32) then (lt_ (0 : Int32) (fun (x3_6 : Int32) => (lp_ (b_Model_count_147 h0 x1) (fun (x2 : Int32) (x3 : Int32) (b : Bool) (σ : Sto) => (0, false, σ)) fuel_ x2_1 x3_6 b σ))) else (if x1 = (5 : Int32) then (lt_ (0 : Int32) (fun (x3_10 : Int32) => (lp_ (b_Model_count_147 h0 x1) (fun (x2 : Int32) (x3 : Int32) (b : Bool) (σ : Sto) => (0, false, σ)) fuel_ x2_1 x3_10 b σ))) else (if x1 = (6 : Int32) then (lt_ (0 : Int32) (fun (x3_14 : Int32) => (lp_ (b_Model_count_147 h0 x1) (fun (x2 : Int32) (x3 : Int32) (b : Bool) (σ : Sto) => (0, false, σ)) fuel_ x2_1 x3_14 b σ))) else (if x1 = (7 : Int32) then (lt_ (0 : Int32) (fun (x3_18 : Int32) => (lp_ (b_Model_count_147 h0 x1) (fun (x2 : Int32) (x3 : Int32) (b : Bool) (σ : Sto) => (0, false, σ)) fuel_ x2_1 x3_18 b σ))) else (if x1 = (8 : Int32) then ((SI σ (SR σ h0 0) (ix (6 : Int32))), ((b && cK σ h0 13) && cA σ (SR σ h0 0) 21 (6 : Int32)), σ) else (if x1 = (9 : Int32) then (lt_ (0 : Int32) (fun (x3_22 : Int32) => (lp_ (b_Model_count_199 h0) (fun (x2 : Int32) (x3 : Int32) (b : Bool) (σ : Sto) => (0, false, σ)) fuel_ x2_1 x3_22 b σ))) else (if x1 = (10 : Int32) then ((SI σ (SR σ h0 0) (ix (4 : Int32))), ((b && cK σ h0 13) && cA σ (SR σ h0 0) 21 (4 : Int32)), σ) else (if x1 = (11 : Int32) then ((SI σ (SR σ h0 0) (ix (7 : Int32))), ((b && cK σ h0 13) && cA σ (SR σ h0 0) 21 (7 : Int32)), σ) else (if x1 = (12 : Int32) then ((SI σ (SR σ h0 0) (ix (8 : Int32))), ((b && cK σ h0 13) && cA σ (SR σ h0 0) 21 (8 : Int32)), σ) else (if x1 = (13 : Int32) then ((SI σ (SR σ h0 0) (ix (9 : Int32))), ((b && cK σ h0 13) && cA σ (SR σ h0 0) 21 (9 : Int32)), σ) else (if x1 = (14 : Int32) then ((SI σ h0 33), (b && cK σ h0 13), σ) else (if x1 = (15 : Int32) then ((SI σ h0 8), (b && cK σ h0 13), σ) else (if x1 = (16 : Int32) then ((SI σ (SR σ h0 0) (ix (0 : Int32))), ((b && cK σ h0 13) && cA σ (SR σ h0 0) 21 (0 : Int32)), σ) else (if x1 = (17 : Int32) then ((SI σ (SR σ h0 0) (ix (1 : Int32))), ((b && cK σ h0 13) && cA σ (SR σ h0 0) 21 (1 : Int32)), σ) else ((-1000000001 : Int32), b, σ)))))))))))))))))))))
set_option maxRecDepth 100000 in
set_option maxHeartbeats 4000000 in
theorem s_Model_count : ∀ (h0 : Nat) (x1 : Int32) (b : Bool) (σ : Sto), Snd M_Model_count 3 0 0 [vR h0, vI x1] b σ (tI (f_Model_count h0 x1 b σ).1) (f_Model_count h0 x1 b σ).2.1 (f_Model_count h0 x1 b σ).2.2 := by
  intro h0 x1 b σ
  refine Snd_of (tv := tI) (by decide) (Nat.le_of_ble_eq_true rfl) ?_
  show V M_Model_count 3 0 0 0 0 tI (f_Model_count h0 x1 b σ) 0 [(0, vR h0), (1, vI x1)] [] b σ
  unfold f_Model_count
  refine V_iconst 1 rfl (show decode M_Model_count.2.1 0 = .ok (.iconst 0, 1) by decide +kernel) (v := 0) rfl ?_
  refine V_istore_n (fun x2_1 => [(2, vI x2_1), (0, vR h0), (1, vI x1)]) 2 rfl (show decode M_Model_count.2.1 1 = .ok (.istore_n 2, 1) by decide +kernel) (by decide) (fun _ => rfl) (fun x2_1 => ?_)
  refine V_iload_n 3 rfl (show decode M_Model_count.2.1 2 = .ok (.iload_n 1, 1) by decide +kernel) 2 rfl ?_
  refine V_ite (fun hs3_0 => ?_) (fun hs3_0 => ?_)
  · refine V_tswIn (off := 85) 88 (show decode M_Model_count.2.1 3 = .ok (.tableswitch 293 0 17 #[85, 92, 99, 135, 142, 142, 142, 142, 186, 194, 238, 245, 253, 261, 269, 274, 279, 286], 85) by decide +kernel) (by rw [hs3_0]; decide) (by rw [hs3_0]; decide) (by rw [hs3_0]; decide) rfl ?_
    refine V_aload_n 89 rfl (show decode M_Model_count.2.1 88 = .ok (.aload_n 0, 1) by decide +kernel) 1 rfl ?_
    refine V_get (j := 0) (v := vR (SR σ h0 0)) 92 rfl ck_Model (by decide) (by decide) (show decode M_Model_count.2.1 89 = .ok (.getfield 7, 3) by decide +kernel) wd_1504 rfl ?_
    refine V_iconst 93 rfl (show decode M_Model_count.2.1 92 = .ok (.iconst 2, 1) by decide +kernel) (v := 2) rfl ?_
    refine V_ald_int 94 rfl (show decode M_Model_count.2.1 93 = .ok (.iaload, 1) by decide +kernel) ?_
    exact V_iret rfl (by decide) (by decide) (show decode M_Model_count.2.1 94 = .ok (.ireturn, 1) by decide +kernel)
  refine V_ite (fun hs3_1 => ?_) (fun hs3_1 => ?_)
  · refine V_tswIn (off := 92) 95 (show decode M_Model_count.2.1 3 = .ok (.tableswitch 293 0 17 #[85, 92, 99, 135, 142, 142, 142, 142, 186, 194, 238, 245, 253, 261, 269, 274, 279, 286], 85) by decide +kernel) (by rw [hs3_1]; decide) (by rw [hs3_1]; decide) (by rw [hs3_1]; decide) rfl ?_
    refine V_aload_n 96 rfl (show decode M_Model_count.2.1 95 = .ok (.aload_n 0, 1) by decide +kernel) 1 rfl ?_
    refine V_get (j := 0) (v := vR (SR σ h0 0)) 99 rfl ck_Model (by decide) (by decide) (show decode M_Model_count.2.1 96 = .ok (.getfield 7, 3) by decide +kernel) wd_1504 rfl ?_
    refine V_iconst 100 rfl (show decode M_Model_count.2.1 99 = .ok (.iconst 3, 1) by decide +kernel) (v := 3) rfl ?_
    refine V_ald_int 101 rfl (show decode M_Model_count.2.1 100 = .ok (.iaload, 1) by decide +kernel) ?_
    exact V_iret rfl (by decide) (by decide) (show decode M_Model_count.2.1 101 = .ok (.ireturn, 1) by decide +kernel)
  refine V_ite (fun hs3_2 => ?_) (fun hs3_2 => ?_)
  · refine V_tswIn (off := 99) 102 (show decode M_Model_count.2.1 3 = .ok (.tableswitch 293 0 17 #[85, 92, 99, 135, 142, 142, 142, 142, 186, 194, 238, 245, 253, 261, 269, 274, 279, 286], 85) by decide +kernel) (by rw [hs3_2]; decide) (by rw [hs3_2]; decide) (by rw [hs3_2]; decide) rfl ?_
    refine V_iconst 103 rfl (show decode M_Model_count.2.1 102 = .ok (.iconst 0, 1) by decide +kernel) (v := 0) rfl ?_
    refine V_istore_n (fun x3_2 => [(3, vI x3_2), (2, vI x2_1), (0, vR h0), (1, vI x1)]) 104 rfl (show decode M_Model_count.2.1 103 = .ok (.istore_n 3, 1) by decide +kernel) (by decide) (fun _ => rfl) (fun x3_2 => ?_)
    refine V_sub [2, 1, 0] rfl ?_
    refine lp_P (fun (L104 : Int32 → Int32 → Bool → Sto → Rs Int32) => ∀ (x2 : Int32) (x3 : Int32) (b : Bool) (σ : Sto), V M_Model_count 3 0 0 0 0 tI (L104 x2 x3 b σ) 104 [(0, vR h0), (2, vI x2), (3, vI x3)] [] b σ) ?_ ?_ fuel_ x2_1 x3_2 b σ
    · intro x2 x3 b σ; exact V_bad
    · intro L104 hL104 x2 x3 b σ
      unfold b_Model_count_104
      refine V_iload_n 105 rfl (show decode M_Model_count.2.1 104 = .ok (.iload_n 3, 1) by decide +kernel) 2 rfl ?_
      refine V_aload_n 106 rfl (show decode M_Model_count.2.1 105 = .ok (.aload_n 0, 1) by decide +kernel) 0 rfl ?_
      refine V_get (j := 0) (v := vR (SR σ h0 0)) 109 rfl ck_Model (by decide) (by decide) (show decode M_Model_count.2.1 106 = .ok (.getfield 7, 3) by decide +kernel) wd_1504 rfl ?_
      refine V_iconst 110 rfl (show decode M_Model_count.2.1 109 = .ok (.iconst 3, 1) by decide +kernel) (v := 3) rfl ?_
      refine V_ald_int 111 rfl (show decode M_Model_count.2.1 110 = .ok (.iaload, 1) by decide +kernel) ?_
      refine V_icmpge 114 136 rfl (show decode M_Model_count.2.1 111 = .ok (.if_icmp .ge 25, 3) by decide +kernel) rfl ?_ ?_
      · skip
        refine V_iload_n 115 rfl (show decode M_Model_count.2.1 114 = .ok (.iload_n 2, 1) by decide +kernel) 1 rfl ?_
        refine V_aload_n 116 rfl (show decode M_Model_count.2.1 115 = .ok (.aload_n 0, 1) by decide +kernel) 0 rfl ?_
        refine V_iload_n 117 rfl (show decode M_Model_count.2.1 116 = .ok (.iload_n 3, 1) by decide +kernel) 2 rfl ?_
        refine V_callV (tb := tI) (as := [vI x3]) (rest := [vI x2]) (na := 1) 120 rfl ck_Model (by decide) (s_Model_isOn h0 x3 (((b && cK σ h0 13) && cA σ (SR σ h0 0) 21 (3 : Int32)) && cK σ h0 13) σ) rfl rfl (Nat.le_of_ble_eq_true rfl) (cal_Model_isOn _ _ _ _ _ (by decide) (by decide) (by decide)) (show decode M_Model_count.2.1 117 = .ok (.invokevirtual 149, 3) by decide +kernel) wd_1723 wd_1725 wd_125 (fun r_3 b_3 σ_3 => ?_)
        show V M_Model_count 3 0 0 0 0 tI _ 120 [(0, vR h0), (2, vI x2), (3, vI x3)] [vI r_3, vI x2] b_3 σ_3
        refine V_jn (fun (J128 : Int32 → Int32 → Bool → Sto → Rs Int32) => ∀ (s0_128 : Int32) (s1_128 : Int32) (b : Bool) (σ : Sto), V M_Model_count 3 0 0 0 0 tI (J128 s0_128 s1_128 b σ) 128 [(0, vR h0), (3, vI x3)] [vI s0_128, vI s1_128] b σ) ?_ (fun J128 hJ128 => ?_)
        · intro s0_128 s1_128 b σ
          refine V_iadd 129 rfl (show decode M_Model_count.2.1 128 = .ok (.iadd, 1) by decide +kernel) ?_
          refine V_istore_n (fun x2_4 => [(2, vI x2_4), (0, vR h0), (3, vI x3)]) 130 rfl (show decode M_Model_count.2.1 129 = .ok (.istore_n 2, 1) by decide +kernel) (by decide) (fun _ => rfl) (fun x2_4 => ?_)
          refine V_iinc (fun x3_5 => [(3, vI x3_5), (2, vI x2_4), (0, vR h0)]) 133 rfl (show decode M_Model_count.2.1 130 = .ok (.iinc 3 1, 3) by decide +kernel) 2 rfl (w := 1) rfl (by decide) (fun _ => rfl) (fun x3_5 => ?_)
          refine V_goto 104 (show decode M_Model_count.2.1 133 = .ok (.goto (-29), 3) by decide +kernel) rfl ?_
          exact V_sub [2, 1, 0] rfl (hL104 x2_4 x3_5 b σ)
        · skip
          refine V_ifeq 123 127 rfl (show decode M_Model_count.2.1 120 = .ok (.ifCond .eq 7, 3) by decide +kernel) rfl ?_ ?_
          · skip
            refine V_iconst 128 rfl (show decode M_Model_count.2.1 127 = .ok (.iconst 0, 1) by decide +kernel) (v := 0) rfl ?_
            exact V_sub [0, 2] rfl (hJ128 (0 : Int32) x2 b_3 σ_3)
          · skip
            refine V_iconst 124 rfl (show decode M_Model_count.2.1 123 = .ok (.iconst 1, 1) by decide +kernel) (v := 1) rfl ?_
            refine V_goto 128 (show decode M_Model_count.2.1 124 = .ok (.goto 4, 3) by decide +kernel) rfl ?_
            exact V_sub [0, 2] rfl (hJ128 (1 : Int32) x2 b_3 σ_3)
      · skip
        refine V_iload_n 137 rfl (show decode M_Model_count.2.1 136 = .ok (.iload_n 2, 1) by decide +kernel) 1 rfl ?_
        exact V_iret rfl (by decide) (by decide) (show decode M_Model_count.2.1 137 = .ok (.ireturn, 1) by decide +kernel)
  refine V_ite (fun hs3_3 => ?_) (fun hs3_3 => ?_)
  · refine V_tswIn (off := 135) 138 (show decode M_Model_count.2.1 3 = .ok (.tableswitch 293 0 17 #[85, 92, 99, 135, 142, 142, 142, 142, 186, 194, 238, 245, 253, 261, 269, 274, 279, 286], 85) by decide +kernel) (by rw [hs3_3]; decide) (by rw [hs3_3]; decide) (by rw [hs3_3]; decide) rfl ?_
    refine V_aload_n 139 rfl (show decode M_Model_count.2.1 138 = .ok (.aload_n 0, 1) by decide +kernel) 1 rfl ?_
    refine V_get (j := 0) (v := vR (SR σ h0 0)) 142 rfl ck_Model (by decide) (by decide) (show decode M_Model_count.2.1 139 = .ok (.getfield 7, 3) by decide +kernel) wd_1504 rfl ?_
    refine V_iconst 143 rfl (show decode M_Model_count.2.1 142 = .ok (.iconst 5, 1) by decide +kernel) (v := 5) rfl ?_
    refine V_ald_int 144 rfl (show decode M_Model_count.2.1 143 = .ok (.iaload, 1) by decide +kernel) ?_
    exact V_iret rfl (by decide) (by decide) (show decode M_Model_count.2.1 144 = .ok (.ireturn, 1) by decide +kernel)
  refine V_ite (fun hs3_4 => ?_) (fun hs3_4 => ?_)
  · refine V_tswIn (off := 142) 145 (show decode M_Model_count.2.1 3 = .ok (.tableswitch 293 0 17 #[85, 92, 99, 135, 142, 142, 142, 142, 186, 194, 238, 245, 253, 261, 269, 274, 279, 286], 85) by decide +kernel) (by rw [hs3_4]; decide) (by rw [hs3_4]; decide) (by rw [hs3_4]; decide) rfl ?_
    refine V_iconst 146 rfl (show decode M_Model_count.2.1 145 = .ok (.iconst 0, 1) by decide +kernel) (v := 0) rfl ?_
    refine V_istore_n (fun x3_6 => [(3, vI x3_6), (2, vI x2_1), (0, vR h0), (1, vI x1)]) 147 rfl (show decode M_Model_count.2.1 146 = .ok (.istore_n 3, 1) by decide +kernel) (by decide) (fun _ => rfl) (fun x3_6 => ?_)
    refine V_sub [2, 3, 1, 0] rfl ?_
    refine lp_P (fun (L147 : Int32 → Int32 → Bool → Sto → Rs Int32) => ∀ (x2 : Int32) (x3 : Int32) (b : Bool) (σ : Sto), V M_Model_count 3 0 0 0 0 tI (L147 x2 x3 b σ) 147 [(0, vR h0), (1, vI x1), (2, vI x2), (3, vI x3)] [] b σ) ?_ ?_ fuel_ x2_1 x3_6 b σ
    · intro x2 x3 b σ; exact V_bad
    · intro L147 hL147 x2 x3 b σ
      unfold b_Model_count_147
      refine V_iload_n 148 rfl (show decode M_Model_count.2.1 147 = .ok (.iload_n 3, 1) by decide +kernel) 3 rfl ?_
      refine V_aload_n 149 rfl (show decode M_Model_count.2.1 148 = .ok (.aload_n 0, 1) by decide +kernel) 0 rfl ?_
      refine V_get (j := 0) (v := vR (SR σ h0 0)) 152 rfl ck_Model (by decide) (by decide) (show decode M_Model_count.2.1 149 = .ok (.getfield 7, 3) by decide +kernel) wd_1504 rfl ?_
      refine V_iconst 153 rfl (show decode M_Model_count.2.1 152 = .ok (.iconst 5, 1) by decide +kernel) (v := 5) rfl ?_
      refine V_ald_int 154 rfl (show decode M_Model_count.2.1 153 = .ok (.iaload, 1) by decide +kernel) ?_
      refine V_icmpge 157 187 rfl (show decode M_Model_count.2.1 154 = .ok (.if_icmp .ge 33, 3) by decide +kernel) rfl ?_ ?_
      · skip
        refine V_iload_n 158 rfl (show decode M_Model_count.2.1 157 = .ok (.iload_n 2, 1) by decide +kernel) 2 rfl ?_
        refine V_aload_n 159 rfl (show decode M_Model_count.2.1 158 = .ok (.aload_n 0, 1) by decide +kernel) 0 rfl ?_
        refine V_get (j := 0) (v := vR (SR σ h0 0)) 162 rfl ck_Model (by decide) (by decide) (show decode M_Model_count.2.1 159 = .ok (.getfield 7, 3) by decide +kernel) wd_1504 rfl ?_
        refine V_aload_n 163 rfl (show decode M_Model_count.2.1 162 = .ok (.aload_n 0, 1) by decide +kernel) 0 rfl ?_
        refine V_iload_n 164 rfl (show decode M_Model_count.2.1 163 = .ok (.iload_n 3, 1) by decide +kernel) 3 rfl ?_
        refine V_callV (tb := tI) (as := [vI x3]) (rest := [vR (SR σ h0 0), vI x2]) (na := 1) 167 rfl ck_Model (by decide) (s_Model_walkerAt h0 x3 ((((b && cK σ h0 13) && cA σ (SR σ h0 0) 21 (5 : Int32)) && cK σ h0 13) && cK σ h0 13) σ) rfl rfl (Nat.le_of_ble_eq_true rfl) (cal_Model_walkerAt _ _ _ _ _ (by decide) (by decide) (by decide)) (show decode M_Model_count.2.1 164 = .ok (.invokevirtual 84, 3) by decide +kernel) wd_1673 wd_1675 wd_121 (fun r_7 b_7 σ_7 => ?_)
        show V M_Model_count 3 0 0 0 0 tI _ 167 [(0, vR h0), (1, vI x1), (2, vI x2), (3, vI x3)] [vI r_7, vR (SR σ h0 0), vI x2] b_7 σ_7
        refine V_ald_int 168 rfl (show decode M_Model_count.2.1 167 = .ok (.iaload, 1) by decide +kernel) ?_
        refine V_iload_n 169 rfl (show decode M_Model_count.2.1 168 = .ok (.iload_n 1, 1) by decide +kernel) 1 rfl ?_
        refine V_iconst 170 rfl (show decode M_Model_count.2.1 169 = .ok (.iconst 4, 1) by decide +kernel) (v := 4) rfl ?_
        refine V_isub 171 rfl (show decode M_Model_count.2.1 170 = .ok (.isub, 1) by decide +kernel) ?_
        refine V_jn (fun (J179 : Int32 → Int32 → Bool → Sto → Rs Int32) => ∀ (s0_179 : Int32) (s1_179 : Int32) (b : Bool) (σ : Sto), V M_Model_count 3 0 0 0 0 tI (J179 s0_179 s1_179 b σ) 179 [(0, vR h0), (1, vI x1), (3, vI x3)] [vI s0_179, vI s1_179] b σ) ?_ (fun J179 hJ179 => ?_)
        · intro s0_179 s1_179 b σ
          refine V_iadd 180 rfl (show decode M_Model_count.2.1 179 = .ok (.iadd, 1) by decide +kernel) ?_
          refine V_istore_n (fun x2_8 => [(2, vI x2_8), (0, vR h0), (1, vI x1), (3, vI x3)]) 181 rfl (show decode M_Model_count.2.1 180 = .ok (.istore_n 2, 1) by decide +kernel) (by decide) (fun _ => rfl) (fun x2_8 => ?_)
          refine V_iinc (fun x3_9 => [(3, vI x3_9), (2, vI x2_8), (0, vR h0), (1, vI x1)]) 184 rfl (show decode M_Model_count.2.1 181 = .ok (.iinc 3 1, 3) by decide +kernel) 3 rfl (w := 1) rfl (by decide) (fun _ => rfl) (fun x3_9 => ?_)
          refine V_goto 147 (show decode M_Model_count.2.1 184 = .ok (.goto (-37), 3) by decide +kernel) rfl ?_
          exact V_sub [2, 3, 1, 0] rfl (hL147 x2_8 x3_9 b σ)
        · skip
          refine V_icmpne 174 178 rfl (show decode M_Model_count.2.1 171 = .ok (.if_icmp .ne 7, 3) by decide +kernel) rfl ?_ ?_
          · skip
            refine V_iconst 175 rfl (show decode M_Model_count.2.1 174 = .ok (.iconst 1, 1) by decide +kernel) (v := 1) rfl ?_
            refine V_goto 179 (show decode M_Model_count.2.1 175 = .ok (.goto 4, 3) by decide +kernel) rfl ?_
            exact V_sub [0, 1, 3] rfl (hJ179 (1 : Int32) x2 (b_7 && cA σ_7 (SR σ h0 0) 21 r_7) σ_7)
          · skip
            refine V_iconst 179 rfl (show decode M_Model_count.2.1 178 = .ok (.iconst 0, 1) by decide +kernel) (v := 0) rfl ?_
            exact V_sub [0, 1, 3] rfl (hJ179 (0 : Int32) x2 (b_7 && cA σ_7 (SR σ h0 0) 21 r_7) σ_7)
      · skip
        refine V_iload_n 188 rfl (show decode M_Model_count.2.1 187 = .ok (.iload_n 2, 1) by decide +kernel) 2 rfl ?_
        exact V_iret rfl (by decide) (by decide) (show decode M_Model_count.2.1 188 = .ok (.ireturn, 1) by decide +kernel)
  refine V_ite (fun hs3_5 => ?_) (fun hs3_5 => ?_)
  · refine V_tswIn (off := 142) 145 (show decode M_Model_count.2.1 3 = .ok (.tableswitch 293 0 17 #[85, 92, 99, 135, 142, 142, 142, 142, 186, 194, 238, 245, 253, 261, 269, 274, 279, 286], 85) by decide +kernel) (by rw [hs3_5]; decide) (by rw [hs3_5]; decide) (by rw [hs3_5]; decide) rfl ?_
    refine V_iconst 146 rfl (show decode M_Model_count.2.1 145 = .ok (.iconst 0, 1) by decide +kernel) (v := 0) rfl ?_
    refine V_istore_n (fun x3_10 => [(3, vI x3_10), (2, vI x2_1), (0, vR h0), (1, vI x1)]) 147 rfl (show decode M_Model_count.2.1 146 = .ok (.istore_n 3, 1) by decide +kernel) (by decide) (fun _ => rfl) (fun x3_10 => ?_)
    refine V_sub [2, 3, 1, 0] rfl ?_
    refine lp_P (fun (L147 : Int32 → Int32 → Bool → Sto → Rs Int32) => ∀ (x2 : Int32) (x3 : Int32) (b : Bool) (σ : Sto), V M_Model_count 3 0 0 0 0 tI (L147 x2 x3 b σ) 147 [(0, vR h0), (1, vI x1), (2, vI x2), (3, vI x3)] [] b σ) ?_ ?_ fuel_ x2_1 x3_10 b σ
    · intro x2 x3 b σ; exact V_bad
    · intro L147 hL147 x2 x3 b σ
      unfold b_Model_count_147
      refine V_iload_n 148 rfl (show decode M_Model_count.2.1 147 = .ok (.iload_n 3, 1) by decide +kernel) 3 rfl ?_
      refine V_aload_n 149 rfl (show decode M_Model_count.2.1 148 = .ok (.aload_n 0, 1) by decide +kernel) 0 rfl ?_
      refine V_get (j := 0) (v := vR (SR σ h0 0)) 152 rfl ck_Model (by decide) (by decide) (show decode M_Model_count.2.1 149 = .ok (.getfield 7, 3) by decide +kernel) wd_1504 rfl ?_
      refine V_iconst 153 rfl (show decode M_Model_count.2.1 152 = .ok (.iconst 5, 1) by decide +kernel) (v := 5) rfl ?_
      refine V_ald_int 154 rfl (show decode M_Model_count.2.1 153 = .ok (.iaload, 1) by decide +kernel) ?_
      refine V_icmpge 157 187 rfl (show decode M_Model_count.2.1 154 = .ok (.if_icmp .ge 33, 3) by decide +kernel) rfl ?_ ?_
      · skip
        refine V_iload_n 158 rfl (show decode M_Model_count.2.1 157 = .ok (.iload_n 2, 1) by decide +kernel) 2 rfl ?_
        refine V_aload_n 159 rfl (show decode M_Model_count.2.1 158 = .ok (.aload_n 0, 1) by decide +kernel) 0 rfl ?_
        refine V_get (j := 0) (v := vR (SR σ h0 0)) 162 rfl ck_Model (by decide) (by decide) (show decode M_Model_count.2.1 159 = .ok (.getfield 7, 3) by decide +kernel) wd_1504 rfl ?_
        refine V_aload_n 163 rfl (show decode M_Model_count.2.1 162 = .ok (.aload_n 0, 1) by decide +kernel) 0 rfl ?_
        refine V_iload_n 164 rfl (show decode M_Model_count.2.1 163 = .ok (.iload_n 3, 1) by decide +kernel) 3 rfl ?_
        refine V_callV (tb := tI) (as := [vI x3]) (rest := [vR (SR σ h0 0), vI x2]) (na := 1) 167 rfl ck_Model (by decide) (s_Model_walkerAt h0 x3 ((((b && cK σ h0 13) && cA σ (SR σ h0 0) 21 (5 : Int32)) && cK σ h0 13) && cK σ h0 13) σ) rfl rfl (Nat.le_of_ble_eq_true rfl) (cal_Model_walkerAt _ _ _ _ _ (by decide) (by decide) (by decide)) (show decode M_Model_count.2.1 164 = .ok (.invokevirtual 84, 3) by decide +kernel) wd_1673 wd_1675 wd_121 (fun r_11 b_11 σ_11 => ?_)
        show V M_Model_count 3 0 0 0 0 tI _ 167 [(0, vR h0), (1, vI x1), (2, vI x2), (3, vI x3)] [vI r_11, vR (SR σ h0 0), vI x2] b_11 σ_11
        refine V_ald_int 168 rfl (show decode M_Model_count.2.1 167 = .ok (.iaload, 1) by decide +kernel) ?_
        refine V_iload_n 169 rfl (show decode M_Model_count.2.1 168 = .ok (.iload_n 1, 1) by decide +kernel) 1 rfl ?_
        refine V_iconst 170 rfl (show decode M_Model_count.2.1 169 = .ok (.iconst 4, 1) by decide +kernel) (v := 4) rfl ?_
        refine V_isub 171 rfl (show decode M_Model_count.2.1 170 = .ok (.isub, 1) by decide +kernel) ?_
        refine V_jn (fun (J179 : Int32 → Int32 → Bool → Sto → Rs Int32) => ∀ (s0_179 : Int32) (s1_179 : Int32) (b : Bool) (σ : Sto), V M_Model_count 3 0 0 0 0 tI (J179 s0_179 s1_179 b σ) 179 [(0, vR h0), (1, vI x1), (3, vI x3)] [vI s0_179, vI s1_179] b σ) ?_ (fun J179 hJ179 => ?_)
        · intro s0_179 s1_179 b σ
          refine V_iadd 180 rfl (show decode M_Model_count.2.1 179 = .ok (.iadd, 1) by decide +kernel) ?_
          refine V_istore_n (fun x2_12 => [(2, vI x2_12), (0, vR h0), (1, vI x1), (3, vI x3)]) 181 rfl (show decode M_Model_count.2.1 180 = .ok (.istore_n 2, 1) by decide +kernel) (by decide) (fun _ => rfl) (fun x2_12 => ?_)
          refine V_iinc (fun x3_13 => [(3, vI x3_13), (2, vI x2_12), (0, vR h0), (1, vI x1)]) 184 rfl (show decode M_Model_count.2.1 181 = .ok (.iinc 3 1, 3) by decide +kernel) 3 rfl (w := 1) rfl (by decide) (fun _ => rfl) (fun x3_13 => ?_)
          refine V_goto 147 (show decode M_Model_count.2.1 184 = .ok (.goto (-37), 3) by decide +kernel) rfl ?_
          exact V_sub [2, 3, 1, 0] rfl (hL147 x2_12 x3_13 b σ)
        · skip
          refine V_icmpne 174 178 rfl (show decode M_Model_count.2.1 171 = .ok (.if_icmp .ne 7, 3) by decide +kernel) rfl ?_ ?_
          · skip
            refine V_iconst 175 rfl (show decode M_Model_count.2.1 174 = .ok (.iconst 1, 1) by decide +kernel) (v := 1) rfl ?_
            refine V_goto 179 (show decode M_Model_count.2.1 175 = .ok (.goto 4, 3) by decide +kernel) rfl ?_
            exact V_sub [0, 1, 3] rfl (hJ179 (1 : Int32) x2 (b_11 && cA σ_11 (SR σ h0 0) 21 r_11) σ_11)
          · skip
            refine V_iconst 179 rfl (show decode M_Model_count.2.1 178 = .ok (.iconst 0, 1) by decide +kernel) (v := 0) rfl ?_
            exact V_sub [0, 1, 3] rfl (hJ179 (0 : Int32) x2 (b_11 && cA σ_11 (SR σ h0 0) 21 r_11) σ_11)
      · skip
        refine V_iload_n 188 rfl (show decode M_Model_count.2.1 187 = .ok (.iload_n 2, 1) by decide +kernel) 2 rfl ?_
        exact V_iret rfl (by decide) (by decide) (show decode M_Model_count.2.1 188 = .ok (.ireturn, 1) by decide +kernel)
  refine V_ite (fun hs3_6 => ?_) (fun hs3_6 => ?_)
  · refine V_tswIn (off := 142) 145 (show decode M_Model_count.2.1 3 = .ok (.tableswitch 293 0 17 #[85, 92, 99, 135, 142, 142, 142, 142, 186, 194, 238, 245, 253, 261, 269, 274, 279, 286], 85) by decide +kernel) (by rw [hs3_6]; decide) (by rw [hs3_6]; decide) (by rw [hs3_6]; decide) rfl ?_
    refine V_iconst 146 rfl (show decode M_Model_count.2.1 145 = .ok (.iconst 0, 1) by decide +kernel) (v := 0) rfl ?_
    refine V_istore_n (fun x3_14 => [(3, vI x3_14), (2, vI x2_1), (0, vR h0), (1, vI x1)]) 147 rfl (show decode M_Model_count.2.1 146 = .ok (.istore_n 3, 1) by decide +kernel) (by decide) (fun _ => rfl) (fun x3_14 => ?_)
    refine V_sub [2, 3, 1, 0] rfl ?_
    refine lp_P (fun (L147 : Int32 → Int32 → Bool → Sto → Rs Int32) => ∀ (x2 : Int32) (x3 : Int32) (b : Bool) (σ : Sto), V M_Model_count 3 0 0 0 0 tI (L147 x2 x3 b σ) 147 [(0, vR h0), (1, vI x1), (2, vI x2), (3, vI x3)] [] b σ) ?_ ?_ fuel_ x2_1 x3_14 b σ
    · intro x2 x3 b σ; exact V_bad
    · intro L147 hL147 x2 x3 b σ
      unfold b_Model_count_147
      refine V_iload_n 148 rfl (show decode M_Model_count.2.1 147 = .ok (.iload_n 3, 1) by decide +kernel) 3 rfl ?_
      refine V_aload_n 149 rfl (show decode M_Model_count.2.1 148 = .ok (.aload_n 0, 1) by decide +kernel) 0 rfl ?_
      refine V_get (j := 0) (v := vR (SR σ h0 0)) 152 rfl ck_Model (by decide) (by decide) (show decode M_Model_count.2.1 149 = .ok (.getfield 7, 3) by decide +kernel) wd_1504 rfl ?_
      refine V_iconst 153 rfl (show decode M_Model_count.2.1 152 = .ok (.iconst 5, 1) by decide +kernel) (v := 5) rfl ?_
      refine V_ald_int 154 rfl (show decode M_Model_count.2.1 153 = .ok (.iaload, 1) by decide +kernel) ?_
      refine V_icmpge 157 187 rfl (show decode M_Model_count.2.1 154 = .ok (.if_icmp .ge 33, 3) by decide +kernel) rfl ?_ ?_
      · skip
        refine V_iload_n 158 rfl (show decode M_Model_count.2.1 157 = .ok (.iload_n 2, 1) by decide +kernel) 2 rfl ?_
        refine V_aload_n 159 rfl (show decode M_Model_count.2.1 158 = .ok (.aload_n 0, 1) by decide +kernel) 0 rfl ?_
        refine V_get (j := 0) (v := vR (SR σ h0 0)) 162 rfl ck_Model (by decide) (by decide) (show decode M_Model_count.2.1 159 = .ok (.getfield 7, 3) by decide +kernel) wd_1504 rfl ?_
        refine V_aload_n 163 rfl (show decode M_Model_count.2.1 162 = .ok (.aload_n 0, 1) by decide +kernel) 0 rfl ?_
        refine V_iload_n 164 rfl (show decode M_Model_count.2.1 163 = .ok (.iload_n 3, 1) by decide +kernel) 3 rfl ?_
        refine V_callV (tb := tI) (as := [vI x3]) (rest := [vR (SR σ h0 0), vI x2]) (na := 1) 167 rfl ck_Model (by decide) (s_Model_walkerAt h0 x3 ((((b && cK σ h0 13) && cA σ (SR σ h0 0) 21 (5 : Int32)) && cK σ h0 13) && cK σ h0 13) σ) rfl rfl (Nat.le_of_ble_eq_true rfl) (cal_Model_walkerAt _ _ _ _ _ (by decide) (by decide) (by decide)) (show decode M_Model_count.2.1 164 = .ok (.invokevirtual 84, 3) by decide +kernel) wd_1673 wd_1675 wd_121 (fun r_15 b_15 σ_15 => ?_)
        show V M_Model_count 3 0 0 0 0 tI _ 167 [(0, vR h0), (1, vI x1), (2, vI x2), (3, vI x3)] [vI r_15, vR (SR σ h0 0), vI x2] b_15 σ_15
        refine V_ald_int 168 rfl (show decode M_Model_count.2.1 167 = .ok (.iaload, 1) by decide +kernel) ?_
        refine V_iload_n 169 rfl (show decode M_Model_count.2.1 168 = .ok (.iload_n 1, 1) by decide +kernel) 1 rfl ?_
        refine V_iconst 170 rfl (show decode M_Model_count.2.1 169 = .ok (.iconst 4, 1) by decide +kernel) (v := 4) rfl ?_
        refine V_isub 171 rfl (show decode M_Model_count.2.1 170 = .ok (.isub, 1) by decide +kernel) ?_
        refine V_jn (fun (J179 : Int32 → Int32 → Bool → Sto → Rs Int32) => ∀ (s0_179 : Int32) (s1_179 : Int32) (b : Bool) (σ : Sto), V M_Model_count 3 0 0 0 0 tI (J179 s0_179 s1_179 b σ) 179 [(0, vR h0), (1, vI x1), (3, vI x3)] [vI s0_179, vI s1_179] b σ) ?_ (fun J179 hJ179 => ?_)
        · intro s0_179 s1_179 b σ
          refine V_iadd 180 rfl (show decode M_Model_count.2.1 179 = .ok (.iadd, 1) by decide +kernel) ?_
          refine V_istore_n (fun x2_16 => [(2, vI x2_16), (0, vR h0), (1, vI x1), (3, vI x3)]) 181 rfl (show decode M_Model_count.2.1 180 = .ok (.istore_n 2, 1) by decide +kernel) (by decide) (fun _ => rfl) (fun x2_16 => ?_)
          refine V_iinc (fun x3_17 => [(3, vI x3_17), (2, vI x2_16), (0, vR h0), (1, vI x1)]) 184 rfl (show decode M_Model_count.2.1 181 = .ok (.iinc 3 1, 3) by decide +kernel) 3 rfl (w := 1) rfl (by decide) (fun _ => rfl) (fun x3_17 => ?_)
          refine V_goto 147 (show decode M_Model_count.2.1 184 = .ok (.goto (-37), 3) by decide +kernel) rfl ?_
          exact V_sub [2, 3, 1, 0] rfl (hL147 x2_16 x3_17 b σ)
        · skip
          refine V_icmpne 174 178 rfl (show decode M_Model_count.2.1 171 = .ok (.if_icmp .ne 7, 3) by decide +kernel) rfl ?_ ?_
          · skip
            refine V_iconst 175 rfl (show decode M_Model_count.2.1 174 = .ok (.iconst 1, 1) by decide +kernel) (v := 1) rfl ?_
            refine V_goto 179 (show decode M_Model_count.2.1 175 = .ok (.goto 4, 3) by decide +kernel) rfl ?_
            exact V_sub [0, 1, 3] rfl (hJ179 (1 : Int32) x2 (b_15 && cA σ_15 (SR σ h0 0) 21 r_15) σ_15)
          · skip
            refine V_iconst 179 rfl (show decode M_Model_count.2.1 178 = .ok (.iconst 0, 1) by decide +kernel) (v := 0) rfl ?_
            exact V_sub [0, 1, 3] rfl (hJ179 (0 : Int32) x2 (b_15 && cA σ_15 (SR σ h0 0) 21 r_15) σ_15)
      · skip
        refine V_iload_n 188 rfl (show decode M_Model_count.2.1 187 = .ok (.iload_n 2, 1) by decide +kernel) 2 rfl ?_
        exact V_iret rfl (by decide) (by decide) (show decode M_Model_count.2.1 188 = .ok (.ireturn, 1) by decide +kernel)
  refine V_ite (fun hs3_7 => ?_) (fun hs3_7 => ?_)
  · refine V_tswIn (off := 142) 145 (show decode M_Model_count.2.1 3 = .ok (.tableswitch 293 0 17 #[85, 92, 99, 135, 142, 142, 142, 142, 186, 194, 238, 245, 253, 261, 269, 274, 279, 286], 85) by decide +kernel) (by rw [hs3_7]; decide) (by rw [hs3_7]; decide) (by rw [hs3_7]; decide) rfl ?_
    refine V_iconst 146 rfl (show decode M_Model_count.2.1 145 = .ok (.iconst 0, 1) by decide +kernel) (v := 0) rfl ?_
    refine V_istore_n (fun x3_18 => [(3, vI x3_18), (2, vI x2_1), (0, vR h0), (1, vI x1)]) 147 rfl (show decode M_Model_count.2.1 146 = .ok (.istore_n 3, 1) by decide +kernel) (by decide) (fun _ => rfl) (fun x3_18 => ?_)
    refine V_sub [2, 3, 1, 0] rfl ?_
    refine lp_P (fun (L147 : Int32 → Int32 → Bool → Sto → Rs Int32) => ∀ (x2 : Int32) (x3 : Int32) (b : Bool) (σ : Sto), V M_Model_count 3 0 0 0 0 tI (L147 x2 x3 b σ) 147 [(0, vR h0), (1, vI x1), (2, vI x2), (3, vI x3)] [] b σ) ?_ ?_ fuel_ x2_1 x3_18 b σ
    · intro x2 x3 b σ; exact V_bad
    · intro L147 hL147 x2 x3 b σ
      unfold b_Model_count_147
      refine V_iload_n 148 rfl (show decode M_Model_count.2.1 147 = .ok (.iload_n 3, 1) by decide +kernel) 3 rfl ?_
      refine V_aload_n 149 rfl (show decode M_Model_count.2.1 148 = .ok (.aload_n 0, 1) by decide +kernel) 0 rfl ?_
      refine V_get (j := 0) (v := vR (SR σ h0 0)) 152 rfl ck_Model (by decide) (by decide) (show decode M_Model_count.2.1 149 = .ok (.getfield 7, 3) by decide +kernel) wd_1504 rfl ?_
      refine V_iconst 153 rfl (show decode M_Model_count.2.1 152 = .ok (.iconst 5, 1) by decide +kernel) (v := 5) rfl ?_
      refine V_ald_int 154 rfl (show decode M_Model_count.2.1 153 = .ok (.iaload, 1) by decide +kernel) ?_
      refine V_icmpge 157 187 rfl (show decode M_Model_count.2.1 154 = .ok (.if_icmp .ge 33, 3) by decide +kernel) rfl ?_ ?_
      · skip
        refine V_iload_n 158 rfl (show decode M_Model_count.2.1 157 = .ok (.iload_n 2, 1) by decide +kernel) 2 rfl ?_
        refine V_aload_n 159 rfl (show decode M_Model_count.2.1 158 = .ok (.aload_n 0, 1) by decide +kernel) 0 rfl ?_
        refine V_get (j := 0) (v := vR (SR σ h0 0)) 162 rfl ck_Model (by decide) (by decide) (show decode M_Model_count.2.1 159 = .ok (.getfield 7, 3) by decide +kernel) wd_1504 rfl ?_
        refine V_aload_n 163 rfl (show decode M_Model_count.2.1 162 = .ok (.aload_n 0, 1) by decide +kernel) 0 rfl ?_
        refine V_iload_n 164 rfl (show decode M_Model_count.2.1 163 = .ok (.iload_n 3, 1) by decide +kernel) 3 rfl ?_
        refine V_callV (tb := tI) (as := [vI x3]) (rest := [vR (SR σ h0 0), vI x2]) (na := 1) 167 rfl ck_Model (by decide) (s_Model_walkerAt h0 x3 ((((b && cK σ h0 13) && cA σ (SR σ h0 0) 21 (5 : Int32)) && cK σ h0 13) && cK σ h0 13) σ) rfl rfl (Nat.le_of_ble_eq_true rfl) (cal_Model_walkerAt _ _ _ _ _ (by decide) (by decide) (by decide)) (show decode M_Model_count.2.1 164 = .ok (.invokevirtual 84, 3) by decide +kernel) wd_1673 wd_1675 wd_121 (fun r_19 b_19 σ_19 => ?_)
        show V M_Model_count 3 0 0 0 0 tI _ 167 [(0, vR h0), (1, vI x1), (2, vI x2), (3, vI x3)] [vI r_19, vR (SR σ h0 0), vI x2] b_19 σ_19
        refine V_ald_int 168 rfl (show decode M_Model_count.2.1 167 = .ok (.iaload, 1) by decide +kernel) ?_
        refine V_iload_n 169 rfl (show decode M_Model_count.2.1 168 = .ok (.iload_n 1, 1) by decide +kernel) 1 rfl ?_
        refine V_iconst 170 rfl (show decode M_Model_count.2.1 169 = .ok (.iconst 4, 1) by decide +kernel) (v := 4) rfl ?_
        refine V_isub 171 rfl (show decode M_Model_count.2.1 170 = .ok (.isub, 1) by decide +kernel) ?_
        refine V_jn (fun (J179 : Int32 → Int32 → Bool → Sto → Rs Int32) => ∀ (s0_179 : Int32) (s1_179 : Int32) (b : Bool) (σ : Sto), V M_Model_count 3 0 0 0 0 tI (J179 s0_179 s1_179 b σ) 179 [(0, vR h0), (1, vI x1), (3, vI x3)] [vI s0_179, vI s1_179] b σ) ?_ (fun J179 hJ179 => ?_)
        · intro s0_179 s1_179 b σ
          refine V_iadd 180 rfl (show decode M_Model_count.2.1 179 = .ok (.iadd, 1) by decide +kernel) ?_
          refine V_istore_n (fun x2_20 => [(2, vI x2_20), (0, vR h0), (1, vI x1), (3, vI x3)]) 181 rfl (show decode M_Model_count.2.1 180 = .ok (.istore_n 2, 1) by decide +kernel) (by decide) (fun _ => rfl) (fun x2_20 => ?_)
          refine V_iinc (fun x3_21 => [(3, vI x3_21), (2, vI x2_20), (0, vR h0), (1, vI x1)]) 184 rfl (show decode M_Model_count.2.1 181 = .ok (.iinc 3 1, 3) by decide +kernel) 3 rfl (w := 1) rfl (by decide) (fun _ => rfl) (fun x3_21 => ?_)
          refine V_goto 147 (show decode M_Model_count.2.1 184 = .ok (.goto (-37), 3) by decide +kernel) rfl ?_
          exact V_sub [2, 3, 1, 0] rfl (hL147 x2_20 x3_21 b σ)
        · skip
          refine V_icmpne 174 178 rfl (show decode M_Model_count.2.1 171 = .ok (.if_icmp .ne 7, 3) by decide +kernel) rfl ?_ ?_
          · skip
            refine V_iconst 175 rfl (show decode M_Model_count.2.1 174 = .ok (.iconst 1, 1) by decide +kernel) (v := 1) rfl ?_
            refine V_goto 179 (show decode M_Model_count.2.1 175 = .ok (.goto 4, 3) by decide +kernel) rfl ?_
            exact V_sub [0, 1, 3] rfl (hJ179 (1 : Int32) x2 (b_19 && cA σ_19 (SR σ h0 0) 21 r_19) σ_19)
          · skip
            refine V_iconst 179 rfl (show decode M_Model_count.2.1 178 = .ok (.iconst 0, 1) by decide +kernel) (v := 0) rfl ?_
            exact V_sub [0, 1, 3] rfl (hJ179 (0 : Int32) x2 (b_19 && cA σ_19 (SR σ h0 0) 21 r_19) σ_19)
      · skip
        refine V_iload_n 188 rfl (show decode M_Model_count.2.1 187 = .ok (.iload_n 2, 1) by decide +kernel) 2 rfl ?_
        exact V_iret rfl (by decide) (by decide) (show decode M_Model_count.2.1 188 = .ok (.ireturn, 1) by decide +kernel)
  refine V_ite (fun hs3_8 => ?_) (fun hs3_8 => ?_)
  · refine V_tswIn (off := 186) 189 (show decode M_Model_count.2.1 3 = .ok (.tableswitch 293 0 17 #[85, 92, 99, 135, 142, 142, 142, 142, 186, 194, 238, 245, 253, 261, 269, 274, 279, 286], 85) by decide +kernel) (by rw [hs3_8]; decide) (by rw [hs3_8]; decide) (by rw [hs3_8]; decide) rfl ?_
    refine V_aload_n 190 rfl (show decode M_Model_count.2.1 189 = .ok (.aload_n 0, 1) by decide +kernel) 1 rfl ?_
    refine V_get (j := 0) (v := vR (SR σ h0 0)) 193 rfl ck_Model (by decide) (by decide) (show decode M_Model_count.2.1 190 = .ok (.getfield 7, 3) by decide +kernel) wd_1504 rfl ?_
    refine V_bipush 195 rfl (show decode M_Model_count.2.1 193 = .ok (.bipush 6, 2) by decide +kernel) (v := 6) rfl ?_
    refine V_ald_int 196 rfl (show decode M_Model_count.2.1 195 = .ok (.iaload, 1) by decide +kernel) ?_
    exact V_iret rfl (by decide) (by decide) (show decode M_Model_count.2.1 196 = .ok (.ireturn, 1) by decide +kernel)
  refine V_ite (fun hs3_9 => ?_) (fun hs3_9 => ?_)
  · refine V_tswIn (off := 194) 197 (show decode M_Model_count.2.1 3 = .ok (.tableswitch 293 0 17 #[85, 92, 99, 135, 142, 142, 142, 142, 186, 194, 238, 245, 253, 261, 269, 274, 279, 286], 85) by decide +kernel) (by rw [hs3_9]; decide) (by rw [hs3_9]; decide) (by rw [hs3_9]; decide) rfl ?_
    refine V_iconst 198 rfl (show decode M_Model_count.2.1 197 = .ok (.iconst 0, 1) by decide +kernel) (v := 0) rfl ?_
    refine V_istore_n (fun x3_22 => [(3, vI x3_22), (2, vI x2_1), (0, vR h0), (1, vI x1)]) 199 rfl (show decode M_Model_count.2.1 198 = .ok (.istore_n 3, 1) by decide +kernel) (by decide) (fun _ => rfl) (fun x3_22 => ?_)
    refine V_sub [2, 1, 0] rfl ?_
    refine lp_P (fun (L199 : Int32 → Int32 → Bool → Sto → Rs Int32) => ∀ (x2 : Int32) (x3 : Int32) (b : Bool) (σ : Sto), V M_Model_count 3 0 0 0 0 tI (L199 x2 x3 b σ) 199 [(0, vR h0), (2, vI x2), (3, vI x3)] [] b σ) ?_ ?_ fuel_ x2_1 x3_22 b σ
    · intro x2 x3 b σ; exact V_bad
    · intro L199 hL199 x2 x3 b σ
      unfold b_Model_count_199
      refine V_iload_n 200 rfl (show decode M_Model_count.2.1 199 = .ok (.iload_n 3, 1) by decide +kernel) 2 rfl ?_
      refine V_aload_n 201 rfl (show decode M_Model_count.2.1 200 = .ok (.aload_n 0, 1) by decide +kernel) 0 rfl ?_
      refine V_get (j := 0) (v := vR (SR σ h0 0)) 204 rfl ck_Model (by decide) (by decide) (show decode M_Model_count.2.1 201 = .ok (.getfield 7, 3) by decide +kernel) wd_1504 rfl ?_
      refine V_bipush 206 rfl (show decode M_Model_count.2.1 204 = .ok (.bipush 6, 2) by decide +kernel) (v := 6) rfl ?_
      refine V_ald_int 207 rfl (show decode M_Model_count.2.1 206 = .ok (.iaload, 1) by decide +kernel) ?_
      refine V_icmpge 210 239 rfl (show decode M_Model_count.2.1 207 = .ok (.if_icmp .ge 32, 3) by decide +kernel) rfl ?_ ?_
      · skip
        refine V_iload_n 211 rfl (show decode M_Model_count.2.1 210 = .ok (.iload_n 2, 1) by decide +kernel) 1 rfl ?_
        refine V_aload_n 212 rfl (show decode M_Model_count.2.1 211 = .ok (.aload_n 0, 1) by decide +kernel) 0 rfl ?_
        refine V_get (j := 0) (v := vR (SR σ h0 0)) 215 rfl ck_Model (by decide) (by decide) (show decode M_Model_count.2.1 212 = .ok (.getfield 7, 3) by decide +kernel) wd_1504 rfl ?_
        refine V_aload_n 216 rfl (show decode M_Model_count.2.1 215 = .ok (.aload_n 0, 1) by decide +kernel) 0 rfl ?_
        refine V_iload_n 217 rfl (show decode M_Model_count.2.1 216 = .ok (.iload_n 3, 1) by decide +kernel) 2 rfl ?_
        refine V_callV (tb := tI) (as := [vI x3]) (rest := [vR (SR σ h0 0), vI x2]) (na := 1) 220 rfl ck_Model (by decide) (s_Model_boxAt h0 x3 ((((b && cK σ h0 13) && cA σ (SR σ h0 0) 21 (6 : Int32)) && cK σ h0 13) && cK σ h0 13) σ) rfl rfl (Nat.le_of_ble_eq_true rfl) (cal_Model_boxAt _ _ _ _ _ (by decide) (by decide) (by decide)) (show decode M_Model_count.2.1 217 = .ok (.invokevirtual 129, 3) by decide +kernel) wd_1677 wd_1679 wd_122 (fun r_23 b_23 σ_23 => ?_)
        show V M_Model_count 3 0 0 0 0 tI _ 220 [(0, vR h0), (2, vI x2), (3, vI x3)] [vI r_23, vR (SR σ h0 0), vI x2] b_23 σ_23
        refine V_iconst 221 rfl (show decode M_Model_count.2.1 220 = .ok (.iconst 4, 1) by decide +kernel) (v := 4) rfl ?_
        refine V_iadd 222 rfl (show decode M_Model_count.2.1 221 = .ok (.iadd, 1) by decide +kernel) ?_
        refine V_ald_int 223 rfl (show decode M_Model_count.2.1 222 = .ok (.iaload, 1) by decide +kernel) ?_
        refine V_jn (fun (J231 : Int32 → Int32 → Bool → Sto → Rs Int32) => ∀ (s0_231 : Int32) (s1_231 : Int32) (b : Bool) (σ : Sto), V M_Model_count 3 0 0 0 0 tI (J231 s0_231 s1_231 b σ) 231 [(0, vR h0), (3, vI x3)] [vI s0_231, vI s1_231] b σ) ?_ (fun J231 hJ231 => ?_)
        · intro s0_231 s1_231 b σ
          refine V_iadd 232 rfl (show decode M_Model_count.2.1 231 = .ok (.iadd, 1) by decide +kernel) ?_
          refine V_istore_n (fun x2_24 => [(2, vI x2_24), (0, vR h0), (3, vI x3)]) 233 rfl (show decode M_Model_count.2.1 232 = .ok (.istore_n 2, 1) by decide +kernel) (by decide) (fun _ => rfl) (fun x2_24 => ?_)
          refine V_iinc (fun x3_25 => [(3, vI x3_25), (2, vI x2_24), (0, vR h0)]) 236 rfl (show decode M_Model_count.2.1 233 = .ok (.iinc 3 1, 3) by decide +kernel) 2 rfl (w := 1) rfl (by decide) (fun _ => rfl) (fun x3_25 => ?_)
          refine V_goto 199 (show decode M_Model_count.2.1 236 = .ok (.goto (-37), 3) by decide +kernel) rfl ?_
          exact V_sub [2, 1, 0] rfl (hL199 x2_24 x3_25 b σ)
        · skip
          refine V_ifne 226 230 rfl (show decode M_Model_count.2.1 223 = .ok (.ifCond .ne 7, 3) by decide +kernel) rfl ?_ ?_
          · skip
            refine V_iconst 227 rfl (show decode M_Model_count.2.1 226 = .ok (.iconst 1, 1) by decide +kernel) (v := 1) rfl ?_
            refine V_goto 231 (show decode M_Model_count.2.1 227 = .ok (.goto 4, 3) by decide +kernel) rfl ?_
            exact V_sub [0, 2] rfl (hJ231 (1 : Int32) x2 (b_23 && cA σ_23 (SR σ h0 0) 21 (r_23 + (4 : Int32))) σ_23)
          · skip
            refine V_iconst 231 rfl (show decode M_Model_count.2.1 230 = .ok (.iconst 0, 1) by decide +kernel) (v := 0) rfl ?_
            exact V_sub [0, 2] rfl (hJ231 (0 : Int32) x2 (b_23 && cA σ_23 (SR σ h0 0) 21 (r_23 + (4 : Int32))) σ_23)
      · skip
        refine V_iload_n 240 rfl (show decode M_Model_count.2.1 239 = .ok (.iload_n 2, 1) by decide +kernel) 1 rfl ?_
        exact V_iret rfl (by decide) (by decide) (show decode M_Model_count.2.1 240 = .ok (.ireturn, 1) by decide +kernel)
  refine V_ite (fun hs3_10 => ?_) (fun hs3_10 => ?_)
  · refine V_tswIn (off := 238) 241 (show decode M_Model_count.2.1 3 = .ok (.tableswitch 293 0 17 #[85, 92, 99, 135, 142, 142, 142, 142, 186, 194, 238, 245, 253, 261, 269, 274, 279, 286], 85) by decide +kernel) (by rw [hs3_10]; decide) (by rw [hs3_10]; decide) (by rw [hs3_10]; decide) rfl ?_
    refine V_aload_n 242 rfl (show decode M_Model_count.2.1 241 = .ok (.aload_n 0, 1) by decide +kernel) 1 rfl ?_
    refine V_get (j := 0) (v := vR (SR σ h0 0)) 245 rfl ck_Model (by decide) (by decide) (show decode M_Model_count.2.1 242 = .ok (.getfield 7, 3) by decide +kernel) wd_1504 rfl ?_
    refine V_iconst 246 rfl (show decode M_Model_count.2.1 245 = .ok (.iconst 4, 1) by decide +kernel) (v := 4) rfl ?_
    refine V_ald_int 247 rfl (show decode M_Model_count.2.1 246 = .ok (.iaload, 1) by decide +kernel) ?_
    exact V_iret rfl (by decide) (by decide) (show decode M_Model_count.2.1 247 = .ok (.ireturn, 1) by decide +kernel)
  refine V_ite (fun hs3_11 => ?_) (fun hs3_11 => ?_)
  · refine V_tswIn (off := 245) 248 (show decode M_Model_count.2.1 3 = .ok (.tableswitch 293 0 17 #[85, 92, 99, 135, 142, 142, 142, 142, 186, 194, 238, 245, 253, 261, 269, 274, 279, 286], 85) by decide +kernel) (by rw [hs3_11]; decide) (by rw [hs3_11]; decide) (by rw [hs3_11]; decide) rfl ?_
    refine V_aload_n 249 rfl (show decode M_Model_count.2.1 248 = .ok (.aload_n 0, 1) by decide +kernel) 1 rfl ?_
    refine V_get (j := 0) (v := vR (SR σ h0 0)) 252 rfl ck_Model (by decide) (by decide) (show decode M_Model_count.2.1 249 = .ok (.getfield 7, 3) by decide +kernel) wd_1504 rfl ?_
    refine V_bipush 254 rfl (show decode M_Model_count.2.1 252 = .ok (.bipush 7, 2) by decide +kernel) (v := 7) rfl ?_
    refine V_ald_int 255 rfl (show decode M_Model_count.2.1 254 = .ok (.iaload, 1) by decide +kernel) ?_
    exact V_iret rfl (by decide) (by decide) (show decode M_Model_count.2.1 255 = .ok (.ireturn, 1) by decide +kernel)
  refine V_ite (fun hs3_12 => ?_) (fun hs3_12 => ?_)
  · refine V_tswIn (off := 253) 256 (show decode M_Model_count.2.1 3 = .ok (.tableswitch 293 0 17 #[85, 92, 99, 135, 142, 142, 142, 142, 186, 194, 238, 245, 253, 261, 269, 274, 279, 286], 85) by decide +kernel) (by rw [hs3_12]; decide) (by rw [hs3_12]; decide) (by rw [hs3_12]; decide) rfl ?_
    refine V_aload_n 257 rfl (show decode M_Model_count.2.1 256 = .ok (.aload_n 0, 1) by decide +kernel) 1 rfl ?_
    refine V_get (j := 0) (v := vR (SR σ h0 0)) 260 rfl ck_Model (by decide) (by decide) (show decode M_Model_count.2.1 257 = .ok (.getfield 7, 3) by decide +kernel) wd_1504 rfl ?_
    refine V_bipush 262 rfl (show decode M_Model_count.2.1 260 = .ok (.bipush 8, 2) by decide +kernel) (v := 8) rfl ?_
    refine V_ald_int 263 rfl (show decode M_Model_count.2.1 262 = .ok (.iaload, 1) by decide +kernel) ?_
    exact V_iret rfl (by decide) (by decide) (show decode M_Model_count.2.1 263 = .ok (.ireturn, 1) by decide +kernel)
  refine V_ite (fun hs3_13 => ?_) (fun hs3_13 => ?_)
  · refine V_tswIn (off := 261) 264 (show decode M_Model_count.2.1 3 = .ok (.tableswitch 293 0 17 #[85, 92, 99, 135, 142, 142, 142, 142, 186, 194, 238, 245, 253, 261, 269, 274, 279, 286], 85) by decide +kernel) (by rw [hs3_13]; decide) (by rw [hs3_13]; decide) (by rw [hs3_13]; decide) rfl ?_
    refine V_aload_n 265 rfl (show decode M_Model_count.2.1 264 = .ok (.aload_n 0, 1) by decide +kernel) 1 rfl ?_
    refine V_get (j := 0) (v := vR (SR σ h0 0)) 268 rfl ck_Model (by decide) (by decide) (show decode M_Model_count.2.1 265 = .ok (.getfield 7, 3) by decide +kernel) wd_1504 rfl ?_
    refine V_bipush 270 rfl (show decode M_Model_count.2.1 268 = .ok (.bipush 9, 2) by decide +kernel) (v := 9) rfl ?_
    refine V_ald_int 271 rfl (show decode M_Model_count.2.1 270 = .ok (.iaload, 1) by decide +kernel) ?_
    exact V_iret rfl (by decide) (by decide) (show decode M_Model_count.2.1 271 = .ok (.ireturn, 1) by decide +kernel)
  refine V_ite (fun hs3_14 => ?_) (fun hs3_14 => ?_)
  · refine V_tswIn (off := 269) 272 (show decode M_Model_count.2.1 3 = .ok (.tableswitch 293 0 17 #[85, 92, 99, 135, 142, 142, 142, 142, 186, 194, 238, 245, 253, 261, 269, 274, 279, 286], 85) by decide +kernel) (by rw [hs3_14]; decide) (by rw [hs3_14]; decide) (by rw [hs3_14]; decide) rfl ?_
    refine V_aload_n 273 rfl (show decode M_Model_count.2.1 272 = .ok (.aload_n 0, 1) by decide +kernel) 1 rfl ?_
    refine V_get (j := 33) (v := vI (SI σ h0 33)) 276 rfl ck_Model (by decide) (by decide) (show decode M_Model_count.2.1 273 = .ok (.getfield 375, 3) by decide +kernel) wd_1537 rfl ?_
    exact V_iret rfl (by decide) (by decide) (show decode M_Model_count.2.1 276 = .ok (.ireturn, 1) by decide +kernel)
  refine V_ite (fun hs3_15 => ?_) (fun hs3_15 => ?_)
  · refine V_tswIn (off := 274) 277 (show decode M_Model_count.2.1 3 = .ok (.tableswitch 293 0 17 #[85, 92, 99, 135, 142, 142, 142, 142, 186, 194, 238, 245, 253, 261, 269, 274, 279, 286], 85) by decide +kernel) (by rw [hs3_15]; decide) (by rw [hs3_15]; decide) (by rw [hs3_15]; decide) rfl ?_
    refine V_aload_n 278 rfl (show decode M_Model_count.2.1 277 = .ok (.aload_n 0, 1) by decide +kernel) 1 rfl ?_
    refine V_get (j := 8) (v := vI (SI σ h0 8)) 281 rfl ck_Model (by decide) (by decide) (show decode M_Model_count.2.1 278 = .ok (.getfield 152, 3) by decide +kernel) wd_1512 rfl ?_
    exact V_iret rfl (by decide) (by decide) (show decode M_Model_count.2.1 281 = .ok (.ireturn, 1) by decide +kernel)
  refine V_ite (fun hs3_16 => ?_) (fun hs3_16 => ?_)
  · refine V_tswIn (off := 279) 282 (show decode M_Model_count.2.1 3 = .ok (.tableswitch 293 0 17 #[85, 92, 99, 135, 142, 142, 142, 142, 186, 194, 238, 245, 253, 261, 269, 274, 279, 286], 85) by decide +kernel) (by rw [hs3_16]; decide) (by rw [hs3_16]; decide) (by rw [hs3_16]; decide) rfl ?_
    refine V_aload_n 283 rfl (show decode M_Model_count.2.1 282 = .ok (.aload_n 0, 1) by decide +kernel) 1 rfl ?_
    refine V_get (j := 0) (v := vR (SR σ h0 0)) 286 rfl ck_Model (by decide) (by decide) (show decode M_Model_count.2.1 283 = .ok (.getfield 7, 3) by decide +kernel) wd_1504 rfl ?_
    refine V_iconst 287 rfl (show decode M_Model_count.2.1 286 = .ok (.iconst 0, 1) by decide +kernel) (v := 0) rfl ?_
    refine V_ald_int 288 rfl (show decode M_Model_count.2.1 287 = .ok (.iaload, 1) by decide +kernel) ?_
    exact V_iret rfl (by decide) (by decide) (show decode M_Model_count.2.1 288 = .ok (.ireturn, 1) by decide +kernel)
  refine V_ite (fun hs3_17 => ?_) (fun hs3_17 => ?_)
  · refine V_tswIn (off := 286) 289 (show decode M_Model_count.2.1 3 = .ok (.tableswitch 293 0 17 #[85, 92, 99, 135, 142, 142, 142, 142, 186, 194, 238, 245, 253, 261, 269, 274, 279, 286], 85) by decide +kernel) (by rw [hs3_17]; decide) (by rw [hs3_17]; decide) (by rw [hs3_17]; decide) rfl ?_
    refine V_aload_n 290 rfl (show decode M_Model_count.2.1 289 = .ok (.aload_n 0, 1) by decide +kernel) 1 rfl ?_
    refine V_get (j := 0) (v := vR (SR σ h0 0)) 293 rfl ck_Model (by decide) (by decide) (show decode M_Model_count.2.1 290 = .ok (.getfield 7, 3) by decide +kernel) wd_1504 rfl ?_
    refine V_iconst 294 rfl (show decode M_Model_count.2.1 293 = .ok (.iconst 1, 1) by decide +kernel) (v := 1) rfl ?_
    refine V_ald_int 295 rfl (show decode M_Model_count.2.1 294 = .ok (.iaload, 1) by decide +kernel) ?_
    exact V_iret rfl (by decide) (by decide) (show decode M_Model_count.2.1 295 = .ok (.ireturn, 1) by decide +kernel)
  · refine V_tswD 296 (show decode M_Model_count.2.1 3 = .ok (.tableswitch 293 0 17 #[85, 92, 99, 135, 142, 142, 142, 142, 186, 194, 238, 245, 253, 261, 269, 274, 279, 286], 85) by decide +kernel) rfl (by decide) ?_ ?_
    · intro z hz hz2
      have hm : z = 0 ∨ z = 1 ∨ z = 2 ∨ z = 3 ∨ z = 4 ∨ z = 5 ∨ z = 6 ∨ z = 7 ∨ z = 8 ∨ z = 9 ∨ z = 10 ∨ z = 11 ∨ z = 12 ∨ z = 13 ∨ z = 14 ∨ z = 15 ∨ z = 16 ∨ z = 17 := by simp at hz2; omega
      rcases hm with rfl | rfl | rfl | rfl | rfl | rfl | rfl | rfl | rfl | rfl | rfl | rfl | rfl | rfl | rfl | rfl | rfl | rfl
      · exact absurd (Int32.toInt_inj.mp (hz.trans (by decide))) hs3_0
      · exact absurd (Int32.toInt_inj.mp (hz.trans (by decide))) hs3_1
      · exact absurd (Int32.toInt_inj.mp (hz.trans (by decide))) hs3_2
      · exact absurd (Int32.toInt_inj.mp (hz.trans (by decide))) hs3_3
      · exact absurd (Int32.toInt_inj.mp (hz.trans (by decide))) hs3_4
      · exact absurd (Int32.toInt_inj.mp (hz.trans (by decide))) hs3_5
      · exact absurd (Int32.toInt_inj.mp (hz.trans (by decide))) hs3_6
      · exact absurd (Int32.toInt_inj.mp (hz.trans (by decide))) hs3_7
      · exact absurd (Int32.toInt_inj.mp (hz.trans (by decide))) hs3_8
      · exact absurd (Int32.toInt_inj.mp (hz.trans (by decide))) hs3_9
      · exact absurd (Int32.toInt_inj.mp (hz.trans (by decide))) hs3_10
      · exact absurd (Int32.toInt_inj.mp (hz.trans (by decide))) hs3_11
      · exact absurd (Int32.toInt_inj.mp (hz.trans (by decide))) hs3_12
      · exact absurd (Int32.toInt_inj.mp (hz.trans (by decide))) hs3_13
      · exact absurd (Int32.toInt_inj.mp (hz.trans (by decide))) hs3_14
      · exact absurd (Int32.toInt_inj.mp (hz.trans (by decide))) hs3_15
      · exact absurd (Int32.toInt_inj.mp (hz.trans (by decide))) hs3_16
      · exact absurd (Int32.toInt_inj.mp (hz.trans (by decide))) hs3_17
    · skip
      refine V_ldc 298 rfl (show decode M_Model_count.2.1 296 = .ok (.ldc 91, 2) by decide +kernel) wd_1620 ?_
      exact V_iret rfl (by decide) (by decide) (show decode M_Model_count.2.1 298 = .ok (.ireturn, 1) by decide +kernel)
theorem cal_Model_count (d mc ms k n : Nat) (h1 : 3 + 1 ≤ d) (h2 : k + 0 ≤ mc) (h3 : n + 0 ≤ ms) : Cal M_Model_count 3 0 0 1 d mc ms k n := ⟨wd_2078, wd_181, by decide, h1, by decide, h2, h3⟩
abbrev M_Model_crowd : MD := (⟨"LongTrailModel", "crowd", "(I)I"⟩, prog_14_method_82_code, 3, (some FieldType.int))
def b_Model_crowd_51 (h0 : Nat) (x1 : Int32) (L51 : Int32 → Bool → Sto → Rs Int32) (x2 : Int32) (b : Bool) (σ : Sto) : Rs Int32 := (if x2 < x1 then (bd_ (f_Model_oneDay h0 (b && cK σ h0 13) σ) (fun (r_5 : Unit) (b_5 : Bool) (σ_5 : Sto) => (lt_ (x2 + (1 : Int32)) (fun (x2_6 : Int32) => (L51 x2_6 b_5 σ_5))))) else (bd_ (f_Model_setAside h0 (SR σ h0 2) (SR σ h0 0) (((b && cK σ h0 13) && cK σ h0 13) && cK σ h0 13) σ) (fun (r_7 : Unit) (b_7 : Bool) (σ_7 : Sto) => ((SI σ_7 h0 21), (b_7 && cK σ_7 h0 13), σ_7))))
def f_Model_crowd (h0 : Nat) (x1 : Int32) (b : Bool) (σ : Sto) : Rs Int32 := (bd_ (f_Model_isIn ((x1).toInt64) (1 : Int64) (60 : Int64) b σ) (fun (r_1 : Int32) (b_1 : Bool) (σ_1 : Sto) => (if r_1 = 0 then ((-1000000001 : Int32), b_1, σ_1) else (if (999 : Int32) < ((SI σ_1 (SR σ_1 h0 0) (ix (0 : Int32))) + x1) then ((-1000000003 : Int32), ((b_1 && cK σ_1 h0 13) && cA σ_1 (SR σ_1 h0 0) 21 (0 : Int32)), σ_1) else (bd_ (f_Model_setAside h0 (SR σ_1 h0 0) (SR σ_1 h0 2) (((((b_1 && cK σ_1 h0 13) && cA σ_1 (SR σ_1 h0 0) 21 (0 : Int32)) && cK σ_1 h0 13) && cK σ_1 h0 13) && cK σ_1 h0 13) σ_1) (fun (r_2 : Unit) (b_2 : Bool) (σ_2 : Sto) => (lt_ (pI σ_2 h0 21 (0 : Int32)) (fun (σ_3 : Sto) => (lt_ (0 : Int32) (fun (x2_4 : Int32) => (lp_ (b_Model_crowd_51 h0 x1) (fun (x2 : Int32) (b : Bool) (σ : Sto) => (0, false, σ)) fuel_ x2_4 (b_2 && cK σ_2 h0 13) σ_3)))))))))))
set_option maxRecDepth 100000 in
set_option maxHeartbeats 4000000 in
theorem s_Model_crowd : ∀ (h0 : Nat) (x1 : Int32) (b : Bool) (σ : Sto), Snd M_Model_crowd 8 0 0 [vR h0, vI x1] b σ (tI (f_Model_crowd h0 x1 b σ).1) (f_Model_crowd h0 x1 b σ).2.1 (f_Model_crowd h0 x1 b σ).2.2 := by
  intro h0 x1 b σ
  refine Snd_of (tv := tI) (by decide) (Nat.le_of_ble_eq_true rfl) ?_
  show V M_Model_crowd 8 0 0 0 0 tI (f_Model_crowd h0 x1 b σ) 0 [(0, vR h0), (1, vI x1)] [] b σ
  unfold f_Model_crowd
  refine V_iload_n 1 rfl (show decode M_Model_crowd.2.1 0 = .ok (.iload_n 1, 1) by decide +kernel) 1 rfl ?_
  refine V_i2l 2 rfl (show decode M_Model_crowd.2.1 1 = .ok (.i2l, 1) by decide +kernel) ?_
  refine V_lconst 3 rfl (show decode M_Model_crowd.2.1 2 = .ok (.lconst 1, 1) by decide +kernel) (v := 1) rfl ?_
  refine V_ldc2 6 rfl (show decode M_Model_crowd.2.1 3 = .ok (.ldc2_w 322, 3) by decide +kernel) wd_1886 ?_
  refine V_callS (tb := tI) (as := [vL ((x1).toInt64), vL (1 : Int64), vL (60 : Int64)]) (rest := []) (na := 3) 9 rfl (s_Model_isIn ((x1).toInt64) (1 : Int64) (60 : Int64) b σ) rfl rfl (Nat.le_of_ble_eq_true rfl) (cal_Model_isIn _ _ _ _ _ (by decide) (by decide) (by decide)) (show decode M_Model_crowd.2.1 6 = .ok (.invokestatic 76, 3) by decide +kernel) wd_1617 wd_1618 (fun r_1 b_1 σ_1 => ?_)
  show V M_Model_crowd 8 0 0 0 0 tI _ 9 [(0, vR h0), (1, vI x1)] [vI r_1] b_1 σ_1
  refine V_ifne 12 15 rfl (show decode M_Model_crowd.2.1 9 = .ok (.ifCond .ne 6, 3) by decide +kernel) rfl ?_ ?_
  · skip
    refine V_ldc 14 rfl (show decode M_Model_crowd.2.1 12 = .ok (.ldc 91, 2) by decide +kernel) wd_1620 ?_
    exact V_iret rfl (by decide) (by decide) (show decode M_Model_crowd.2.1 14 = .ok (.ireturn, 1) by decide +kernel)
  · skip
    refine V_aload_n 16 rfl (show decode M_Model_crowd.2.1 15 = .ok (.aload_n 0, 1) by decide +kernel) 0 rfl ?_
    refine V_get (j := 0) (v := vR (SR σ_1 h0 0)) 19 rfl ck_Model (by decide) (by decide) (show decode M_Model_crowd.2.1 16 = .ok (.getfield 7, 3) by decide +kernel) wd_1504 rfl ?_
    refine V_iconst 20 rfl (show decode M_Model_crowd.2.1 19 = .ok (.iconst 0, 1) by decide +kernel) (v := 0) rfl ?_
    refine V_ald_int 21 rfl (show decode M_Model_crowd.2.1 20 = .ok (.iaload, 1) by decide +kernel) ?_
    refine V_iload_n 22 rfl (show decode M_Model_crowd.2.1 21 = .ok (.iload_n 1, 1) by decide +kernel) 1 rfl ?_
    refine V_iadd 23 rfl (show decode M_Model_crowd.2.1 22 = .ok (.iadd, 1) by decide +kernel) ?_
    refine V_sipush 26 rfl (show decode M_Model_crowd.2.1 23 = .ok (.sipush 999, 3) by decide +kernel) (v := 999) rfl ?_
    refine V_icmple 29 32 rfl (show decode M_Model_crowd.2.1 26 = .ok (.if_icmp .le 6, 3) by decide +kernel) rfl ?_ ?_
    · skip
      refine V_ldc 31 rfl (show decode M_Model_crowd.2.1 29 = .ok (.ldc 119, 2) by decide +kernel) wd_1656 ?_
      exact V_iret rfl (by decide) (by decide) (show decode M_Model_crowd.2.1 31 = .ok (.ireturn, 1) by decide +kernel)
    · skip
      refine V_aload_n 33 rfl (show decode M_Model_crowd.2.1 32 = .ok (.aload_n 0, 1) by decide +kernel) 0 rfl ?_
      refine V_aload_n 34 rfl (show decode M_Model_crowd.2.1 33 = .ok (.aload_n 0, 1) by decide +kernel) 0 rfl ?_
      refine V_get (j := 0) (v := vR (SR σ_1 h0 0)) 37 rfl ck_Model (by decide) (by decide) (show decode M_Model_crowd.2.1 34 = .ok (.getfield 7, 3) by decide +kernel) wd_1504 rfl ?_
      refine V_aload_n 38 rfl (show decode M_Model_crowd.2.1 37 = .ok (.aload_n 0, 1) by decide +kernel) 0 rfl ?_
      refine V_get (j := 2) (v := vR (SR σ_1 h0 2)) 41 rfl ck_Model (by decide) (by decide) (show decode M_Model_crowd.2.1 38 = .ok (.getfield 16, 3) by decide +kernel) wd_1506 rfl ?_
      refine V_callV (tb := tU) (as := [vR (SR σ_1 h0 0), vR (SR σ_1 h0 2)]) (rest := []) (na := 2) 44 rfl ck_Model (by decide) (s_Model_setAside h0 (SR σ_1 h0 0) (SR σ_1 h0 2) (((((b_1 && cK σ_1 h0 13) && cA σ_1 (SR σ_1 h0 0) 21 (0 : Int32)) && cK σ_1 h0 13) && cK σ_1 h0 13) && cK σ_1 h0 13) σ_1) rfl rfl (Nat.le_of_ble_eq_true rfl) (cal_Model_setAside _ _ _ _ _ (by decide) (by decide) (by decide)) (show decode M_Model_crowd.2.1 41 = .ok (.invokevirtual 327, 3) by decide +kernel) wd_1946 wd_1948 wd_160 (fun r_2 b_2 σ_2 => ?_)
      show V M_Model_crowd 8 0 0 0 0 tI _ 44 [(0, vR h0), (1, vI x1)] [] b_2 σ_2
      refine V_aload_n 45 rfl (show decode M_Model_crowd.2.1 44 = .ok (.aload_n 0, 1) by decide +kernel) 0 rfl ?_
      refine V_iconst 46 rfl (show decode M_Model_crowd.2.1 45 = .ok (.iconst 0, 1) by decide +kernel) (v := 0) rfl ?_
      refine V_putI (j := 21) 49 rfl ck_Model (by decide) (by decide) (show decode M_Model_crowd.2.1 46 = .ok (.putfield 313, 3) by decide +kernel) wd_1525 rfl (fun _ => rfl) rfl rfl (fun σ_3 => ?_)
      refine V_iconst 50 rfl (show decode M_Model_crowd.2.1 49 = .ok (.iconst 0, 1) by decide +kernel) (v := 0) rfl ?_
      refine V_istore_n (fun x2_4 => [(2, vI x2_4), (0, vR h0), (1, vI x1)]) 51 rfl (show decode M_Model_crowd.2.1 50 = .ok (.istore_n 2, 1) by decide +kernel) (by decide) (fun _ => rfl) (fun x2_4 => ?_)
      refine V_sub [1, 2, 0] rfl ?_
      refine lp_P (fun (L51 : Int32 → Bool → Sto → Rs Int32) => ∀ (x2 : Int32) (b : Bool) (σ : Sto), V M_Model_crowd 8 0 0 0 0 tI (L51 x2 b σ) 51 [(0, vR h0), (1, vI x1), (2, vI x2)] [] b σ) ?_ ?_ fuel_ x2_4 (b_2 && cK σ_2 h0 13) σ_3
      · intro x2 b σ; exact V_bad
      · intro L51 hL51 x2 b σ
        unfold b_Model_crowd_51
        refine V_iload_n 52 rfl (show decode M_Model_crowd.2.1 51 = .ok (.iload_n 2, 1) by decide +kernel) 2 rfl ?_
        refine V_iload_n 53 rfl (show decode M_Model_crowd.2.1 52 = .ok (.iload_n 1, 1) by decide +kernel) 1 rfl ?_
        refine V_icmpge 56 66 rfl (show decode M_Model_crowd.2.1 53 = .ok (.if_icmp .ge 13, 3) by decide +kernel) rfl ?_ ?_
        · skip
          refine V_aload_n 57 rfl (show decode M_Model_crowd.2.1 56 = .ok (.aload_n 0, 1) by decide +kernel) 0 rfl ?_
          refine V_callV (tb := tU) (as := []) (rest := []) (na := 0) 60 rfl ck_Model (by decide) (s_Model_oneDay h0 (b && cK σ h0 13) σ) rfl rfl (Nat.le_of_ble_eq_true rfl) (cal_Model_oneDay _ _ _ _ _ (by decide) (by decide) (by decide)) (show decode M_Model_crowd.2.1 57 = .ok (.invokevirtual 324, 3) by decide +kernel) wd_1887 wd_1889 wd_147 (fun r_5 b_5 σ_5 => ?_)
          show V M_Model_crowd 8 0 0 0 0 tI _ 60 [(0, vR h0), (1, vI x1), (2, vI x2)] [] b_5 σ_5
          refine V_iinc (fun x2_6 => [(2, vI x2_6), (0, vR h0), (1, vI x1)]) 63 rfl (show decode M_Model_crowd.2.1 60 = .ok (.iinc 2 1, 3) by decide +kernel) 2 rfl (w := 1) rfl (by decide) (fun _ => rfl) (fun x2_6 => ?_)
          refine V_goto 51 (show decode M_Model_crowd.2.1 63 = .ok (.goto (-12), 3) by decide +kernel) rfl ?_
          exact V_sub [1, 2, 0] rfl (hL51 x2_6 b_5 σ_5)
        · skip
          refine V_aload_n 67 rfl (show decode M_Model_crowd.2.1 66 = .ok (.aload_n 0, 1) by decide +kernel) 0 rfl ?_
          refine V_aload_n 68 rfl (show decode M_Model_crowd.2.1 67 = .ok (.aload_n 0, 1) by decide +kernel) 0 rfl ?_
          refine V_get (j := 2) (v := vR (SR σ h0 2)) 71 rfl ck_Model (by decide) (by decide) (show decode M_Model_crowd.2.1 68 = .ok (.getfield 16, 3) by decide +kernel) wd_1506 rfl ?_
          refine V_aload_n 72 rfl (show decode M_Model_crowd.2.1 71 = .ok (.aload_n 0, 1) by decide +kernel) 0 rfl ?_
          refine V_get (j := 0) (v := vR (SR σ h0 0)) 75 rfl ck_Model (by decide) (by decide) (show decode M_Model_crowd.2.1 72 = .ok (.getfield 7, 3) by decide +kernel) wd_1504 rfl ?_
          refine V_callV (tb := tU) (as := [vR (SR σ h0 2), vR (SR σ h0 0)]) (rest := []) (na := 2) 78 rfl ck_Model (by decide) (s_Model_setAside h0 (SR σ h0 2) (SR σ h0 0) (((b && cK σ h0 13) && cK σ h0 13) && cK σ h0 13) σ) rfl rfl (Nat.le_of_ble_eq_true rfl) (cal_Model_setAside _ _ _ _ _ (by decide) (by decide) (by decide)) (show decode M_Model_crowd.2.1 75 = .ok (.invokevirtual 327, 3) by decide +kernel) wd_1946 wd_1948 wd_160 (fun r_7 b_7 σ_7 => ?_)
          show V M_Model_crowd 8 0 0 0 0 tI _ 78 [(0, vR h0), (1, vI x1), (2, vI x2)] [] b_7 σ_7
          refine V_aload_n 79 rfl (show decode M_Model_crowd.2.1 78 = .ok (.aload_n 0, 1) by decide +kernel) 0 rfl ?_
          refine V_get (j := 21) (v := vI (SI σ_7 h0 21)) 82 rfl ck_Model (by decide) (by decide) (show decode M_Model_crowd.2.1 79 = .ok (.getfield 313, 3) by decide +kernel) wd_1525 rfl ?_
          exact V_iret rfl (by decide) (by decide) (show decode M_Model_crowd.2.1 82 = .ok (.ireturn, 1) by decide +kernel)
theorem cal_Model_crowd (d mc ms k n : Nat) (h1 : 8 + 1 ≤ d) (h2 : k + 0 ≤ mc) (h3 : n + 0 ≤ ms) : Cal M_Model_crowd 8 0 0 1 d mc ms k n := ⟨wd_1945, wd_181, by decide, h1, by decide, h2, h3⟩
abbrev M_Model_orNone : MD := (⟨"LongTrailModel", "orNone", "(I)I"⟩, prog_14_method_3_code, 1, (some FieldType.int))
def f_Model_orNone (x0 : Int32) (b : Bool) (σ : Sto) : Rs Int32 := (if x0 < 0 then ((-1000000005 : Int32), b, σ) else (x0, b, σ))
set_option maxRecDepth 100000 in
set_option maxHeartbeats 4000000 in
theorem s_Model_orNone : ∀ (x0 : Int32) (b : Bool) (σ : Sto), Snd M_Model_orNone 1 0 0 [vI x0] b σ (tI (f_Model_orNone x0 b σ).1) (f_Model_orNone x0 b σ).2.1 (f_Model_orNone x0 b σ).2.2 := by
  intro x0 b σ
  refine Snd_of (tv := tI) (by decide) (Nat.le_of_ble_eq_true rfl) ?_
  show V M_Model_orNone 1 0 0 0 0 tI (f_Model_orNone x0 b σ) 0 [(0, vI x0)] [] b σ
  unfold f_Model_orNone
  refine V_iload_n 1 rfl (show decode M_Model_orNone.2.1 0 = .ok (.iload_n 0, 1) by decide +kernel) 0 rfl ?_
  refine V_ifge 4 9 rfl (show decode M_Model_orNone.2.1 1 = .ok (.ifCond .ge 8, 3) by decide +kernel) rfl ?_ ?_
  · skip
    refine V_ldc 6 rfl (show decode M_Model_orNone.2.1 4 = .ok (.ldc 75, 2) by decide +kernel) wd_1703 ?_
    refine V_goto 10 (show decode M_Model_orNone.2.1 6 = .ok (.goto 4, 3) by decide +kernel) rfl ?_
    exact V_iret rfl (by decide) (by decide) (show decode M_Model_orNone.2.1 10 = .ok (.ireturn, 1) by decide +kernel)
  · skip
    refine V_iload_n 10 rfl (show decode M_Model_orNone.2.1 9 = .ok (.iload_n 0, 1) by decide +kernel) 0 rfl ?_
    exact V_iret rfl (by decide) (by decide) (show decode M_Model_orNone.2.1 10 = .ok (.ireturn, 1) by decide +kernel)
theorem cal_Model_orNone (d mc ms k n : Nat) (h1 : 1 + 1 ≤ d) (h2 : k + 0 ≤ mc) (h3 : n + 0 ≤ ms) : Cal M_Model_orNone 1 0 0 1 d mc ms k n := ⟨wd_1706, wd_181, by decide, h1, by decide, h2, h3⟩
abbrev M_Model_dry : MD := (⟨"LongTrailModel", "dry", "(I)I"⟩, prog_14_method_34_code, 5, (some FieldType.int))
def b_Model_dry_15 (h0 : Nat) (x1 : Int32) (L15 : Int32 → Int32 → Bool → Sto → Rs Int32) (x2 : Int32) (x3 : Int32) (b : Bool) (σ : Sto) : Rs Int32 := (if x3 < (SI σ (SR σ h0 0) (ix (2 : Int32))) then (bd_ (f_Model_kindOf h0 x3 (((b && cK σ h0 13) && cA σ (SR σ h0 0) 21 (2 : Int32)) && cK σ h0 13) σ) (fun (r_4 : Int32) (b_4 : Bool) (σ_4 : Sto) => (bd_ (f_Model_isWater r_4 b_4 σ_4) (fun (r_5 : Int32) (b_5 : Bool) (σ_5 : Sto) => (lt_ (fun (s0_50 : Int32) (b : Bool) (σ : Sto) => (lt_ s0_50 (fun (x4_6 : Int32) => (lt_ (fun (s0_83 : Int32) (b : Bool) (σ : Sto) => (lt_ s0_83 (fun (x2_7 : Int32) => (lt_ (x3 + (1 : Int32)) (fun (x3_8 : Int32) => (L15 x2_7 x3_8 b σ)))))) (fun J83 => (lt_ (fun (b : Bool) (σ : Sto) => (J83 x2 b σ)) (fun J82 => (if x4_6 = 0 then (J82 b σ) else (lt_ (fun (b : Bool) (σ : Sto) => (bd_ (f_Model_mileOf h0 x3 (b && cK σ h0 13) σ) (fun (r_9 : Int32) (b_9 : Bool) (σ_9 : Sto) => (J83 (r_9 - x1) b_9 σ_9)))) (fun J72 => (if x2 < 0 then (J72 b σ) else (bd_ (f_Model_mileOf h0 x3 (b && cK σ h0 13) σ) (fun (r_10 : Int32) (b_10 : Bool) (σ_10 : Sto) => (if (r_10 - x1) < x2 then (J72 b_10 σ_10) else (J82 b_10 σ_10))))))))))))))) (fun J50 => (lt_ (fun (b : Bool) (σ : Sto) => (J50 (0 : Int32) b σ)) (fun J49 => (if r_5 = 0 then (J49 b_5 σ_5) else (bd_ (f_Model_mileOf h0 x3 (b_5 && cK σ_5 h0 13) σ_5) (fun (r_11 : Int32) (b_11 : Bool) (σ_11 : Sto) => (if x1 < r_11 then (J50 (1 : Int32) b_11 σ_11) else (J49 b_11 σ_11))))))))))))) else (bd_ (f_Model_orNone x2 ((b && cK σ h0 13) && cA σ (SR σ h0 0) 21 (2 : Int32)) σ) (fun (r_12 : Int32) (b_12 : Bool) (σ_12 : Sto) => (r_12, b_12, σ_12))))
def f_Model_dry (h0 : Nat) (x1 : Int32) (b : Bool) (σ : Sto) : Rs Int32 := (bd_ (f_Model_isMile h0 x1 (b && cK σ h0 13) σ) (fun (r_1 : Int32) (b_1 : Bool) (σ_1 : Sto) => (if r_1 = 0 then ((-1000000001 : Int32), b_1, σ_1) else (lt_ (-1 : Int32) (fun (x2_2 : Int32) => (lt_ (0 : Int32) (fun (x3_3 : Int32) => (lp_ (b_Model_dry_15 h0 x1) (fun (x2 : Int32) (x3 : Int32) (b : Bool) (σ : Sto) => (0, false, σ)) fuel_ x2_2 x3_3 b_1 σ_1))))))))
set_option maxRecDepth 100000 in
set_option maxHeartbeats 4000000 in
theorem s_Model_dry : ∀ (h0 : Nat) (x1 : Int32) (b : Bool) (σ : Sto), Snd M_Model_dry 3 0 0 [vR h0, vI x1] b σ (tI (f_Model_dry h0 x1 b σ).1) (f_Model_dry h0 x1 b σ).2.1 (f_Model_dry h0 x1 b σ).2.2 := by
  intro h0 x1 b σ
  refine Snd_of (tv := tI) (by decide) (Nat.le_of_ble_eq_true rfl) ?_
  show V M_Model_dry 3 0 0 0 0 tI (f_Model_dry h0 x1 b σ) 0 [(0, vR h0), (1, vI x1)] [] b σ
  unfold f_Model_dry
  refine V_aload_n 1 rfl (show decode M_Model_dry.2.1 0 = .ok (.aload_n 0, 1) by decide +kernel) 0 rfl ?_
  refine V_iload_n 2 rfl (show decode M_Model_dry.2.1 1 = .ok (.iload_n 1, 1) by decide +kernel) 1 rfl ?_
  refine V_callV (tb := tI) (as := [vI x1]) (rest := []) (na := 1) 5 rfl ck_Model (by decide) (s_Model_isMile h0 x1 (b && cK σ h0 13) σ) rfl rfl (Nat.le_of_ble_eq_true rfl) (cal_Model_isMile _ _ _ _ _ (by decide) (by decide) (by decide)) (show decode M_Model_dry.2.1 2 = .ok (.invokevirtual 113, 3) by decide +kernel) wd_1648 wd_1650 wd_116 (fun r_1 b_1 σ_1 => ?_)
  show V M_Model_dry 3 0 0 0 0 tI _ 5 [(0, vR h0), (1, vI x1)] [vI r_1] b_1 σ_1
  refine V_ifne 8 11 rfl (show decode M_Model_dry.2.1 5 = .ok (.ifCond .ne 6, 3) by decide +kernel) rfl ?_ ?_
  · skip
    refine V_ldc 10 rfl (show decode M_Model_dry.2.1 8 = .ok (.ldc 91, 2) by decide +kernel) wd_1620 ?_
    exact V_iret rfl (by decide) (by decide) (show decode M_Model_dry.2.1 10 = .ok (.ireturn, 1) by decide +kernel)
  · skip
    refine V_iconst 12 rfl (show decode M_Model_dry.2.1 11 = .ok (.iconst (-1), 1) by decide +kernel) (v := -1) rfl ?_
    refine V_istore_n (fun x2_2 => [(2, vI x2_2), (0, vR h0), (1, vI x1)]) 13 rfl (show decode M_Model_dry.2.1 12 = .ok (.istore_n 2, 1) by decide +kernel) (by decide) (fun _ => rfl) (fun x2_2 => ?_)
    refine V_iconst 14 rfl (show decode M_Model_dry.2.1 13 = .ok (.iconst 0, 1) by decide +kernel) (v := 0) rfl ?_
    refine V_istore_n (fun x3_3 => [(3, vI x3_3), (2, vI x2_2), (0, vR h0), (1, vI x1)]) 15 rfl (show decode M_Model_dry.2.1 14 = .ok (.istore_n 3, 1) by decide +kernel) (by decide) (fun _ => rfl) (fun x3_3 => ?_)
    refine V_sub [2, 3, 1, 0] rfl ?_
    refine lp_P (fun (L15 : Int32 → Int32 → Bool → Sto → Rs Int32) => ∀ (x2 : Int32) (x3 : Int32) (b : Bool) (σ : Sto), V M_Model_dry 3 0 0 0 0 tI (L15 x2 x3 b σ) 15 [(0, vR h0), (1, vI x1), (2, vI x2), (3, vI x3)] [] b σ) ?_ ?_ fuel_ x2_2 x3_3 b_1 σ_1
    · intro x2 x3 b σ; exact V_bad
    · intro L15 hL15 x2 x3 b σ
      unfold b_Model_dry_15
      refine V_iload_n 16 rfl (show decode M_Model_dry.2.1 15 = .ok (.iload_n 3, 1) by decide +kernel) 3 rfl ?_
      refine V_aload_n 17 rfl (show decode M_Model_dry.2.1 16 = .ok (.aload_n 0, 1) by decide +kernel) 0 rfl ?_
      refine V_get (j := 0) (v := vR (SR σ h0 0)) 20 rfl ck_Model (by decide) (by decide) (show decode M_Model_dry.2.1 17 = .ok (.getfield 7, 3) by decide +kernel) wd_1504 rfl ?_
      refine V_iconst 21 rfl (show decode M_Model_dry.2.1 20 = .ok (.iconst 2, 1) by decide +kernel) (v := 2) rfl ?_
      refine V_ald_int 22 rfl (show decode M_Model_dry.2.1 21 = .ok (.iaload, 1) by decide +kernel) ?_
      refine V_icmpge 25 90 rfl (show decode M_Model_dry.2.1 22 = .ok (.if_icmp .ge 68, 3) by decide +kernel) rfl ?_ ?_
      · skip
        refine V_aload_n 26 rfl (show decode M_Model_dry.2.1 25 = .ok (.aload_n 0, 1) by decide +kernel) 0 rfl ?_
        refine V_iload_n 27 rfl (show decode M_Model_dry.2.1 26 = .ok (.iload_n 3, 1) by decide +kernel) 3 rfl ?_
        refine V_callV (tb := tI) (as := [vI x3]) (rest := []) (na := 1) 30 rfl ck_Model (by decide) (s_Model_kindOf h0 x3 (((b && cK σ h0 13) && cA σ (SR σ h0 0) 21 (2 : Int32)) && cK σ h0 13) σ) rfl rfl (Nat.le_of_ble_eq_true rfl) (cal_Model_kindOf _ _ _ _ _ (by decide) (by decide) (by decide)) (show decode M_Model_dry.2.1 27 = .ok (.invokevirtual 132, 3) by decide +kernel) wd_1685 wd_1687 wd_123 (fun r_4 b_4 σ_4 => ?_)
        show V M_Model_dry 3 0 0 0 0 tI _ 30 [(0, vR h0), (1, vI x1), (2, vI x2), (3, vI x3)] [vI r_4] b_4 σ_4
        refine V_callS (tb := tI) (as := [vI r_4]) (rest := []) (na := 1) 33 rfl (s_Model_isWater r_4 b_4 σ_4) rfl rfl (Nat.le_of_ble_eq_true rfl) (cal_Model_isWater _ _ _ _ _ (by decide) (by decide) (by decide)) (show decode M_Model_dry.2.1 30 = .ok (.invokestatic 135, 3) by decide +kernel) wd_1689 wd_1690 (fun r_5 b_5 σ_5 => ?_)
        show V M_Model_dry 3 0 0 0 0 tI _ 33 [(0, vR h0), (1, vI x1), (2, vI x2), (3, vI x3)] [vI r_5] b_5 σ_5
        refine V_jn (fun (J50 : Int32 → Bool → Sto → Rs Int32) => ∀ (s0_50 : Int32) (b : Bool) (σ : Sto), V M_Model_dry 3 0 0 0 0 tI (J50 s0_50 b σ) 50 [(0, vR h0), (1, vI x1), (2, vI x2), (3, vI x3)] [vI s0_50] b σ) ?_ (fun J50 hJ50 => ?_)
        · intro s0_50 b σ
          refine V_istore (fun x4_6 => [(4, vI x4_6), (0, vR h0), (1, vI x1), (2, vI x2), (3, vI x3)]) 52 rfl (show decode M_Model_dry.2.1 50 = .ok (.istore 4, 2) by decide +kernel) (by decide) (fun _ => rfl) (fun x4_6 => ?_)
          refine V_iload 54 rfl (show decode M_Model_dry.2.1 52 = .ok (.iload 4, 2) by decide +kernel) 0 rfl ?_
          refine V_jn (fun (J83 : Int32 → Bool → Sto → Rs Int32) => ∀ (s0_83 : Int32) (b : Bool) (σ : Sto), V M_Model_dry 3 0 0 0 0 tI (J83 s0_83 b σ) 83 [(0, vR h0), (1, vI x1), (3, vI x3)] [vI s0_83] b σ) ?_ (fun J83 hJ83 => ?_)
          · intro s0_83 b σ
            refine V_istore_n (fun x2_7 => [(2, vI x2_7), (0, vR h0), (1, vI x1), (3, vI x3)]) 84 rfl (show decode M_Model_dry.2.1 83 = .ok (.istore_n 2, 1) by decide +kernel) (by decide) (fun _ => rfl) (fun x2_7 => ?_)
            refine V_iinc (fun x3_8 => [(3, vI x3_8), (2, vI x2_7), (0, vR h0), (1, vI x1)]) 87 rfl (show decode M_Model_dry.2.1 84 = .ok (.iinc 3 1, 3) by decide +kernel) 3 rfl (w := 1) rfl (by decide) (fun _ => rfl) (fun x3_8 => ?_)
            refine V_goto 15 (show decode M_Model_dry.2.1 87 = .ok (.goto (-72), 3) by decide +kernel) rfl ?_
            exact V_sub [2, 3, 1, 0] rfl (hL15 x2_7 x3_8 b σ)
          · skip
            refine V_jn (fun (J82 : Bool → Sto → Rs Int32) => ∀ (b : Bool) (σ : Sto), V M_Model_dry 3 0 0 0 0 tI (J82 b σ) 82 [(0, vR h0), (1, vI x1), (2, vI x2), (3, vI x3)] [] b σ) ?_ (fun J82 hJ82 => ?_)
            · intro b σ
              refine V_iload_n 83 rfl (show decode M_Model_dry.2.1 82 = .ok (.iload_n 2, 1) by decide +kernel) 2 rfl ?_
              exact V_sub [0, 1, 3] rfl (hJ83 x2 b σ)
            · skip
              refine V_ifeq 57 82 rfl (show decode M_Model_dry.2.1 54 = .ok (.ifCond .eq 28, 3) by decide +kernel) rfl ?_ ?_
              · skip
                exact V_sub [1, 2, 3, 4] rfl (hJ82 b σ)
              · skip
                refine V_iload_n 58 rfl (show decode M_Model_dry.2.1 57 = .ok (.iload_n 2, 1) by decide +kernel) 3 rfl ?_
                refine V_jn (fun (J72 : Bool → Sto → Rs Int32) => ∀ (b : Bool) (σ : Sto), V M_Model_dry 3 0 0 0 0 tI (J72 b σ) 72 [(0, vR h0), (1, vI x1), (3, vI x3)] [] b σ) ?_ (fun J72 hJ72 => ?_)
                · intro b σ
                  refine V_aload_n 73 rfl (show decode M_Model_dry.2.1 72 = .ok (.aload_n 0, 1) by decide +kernel) 0 rfl ?_
                  refine V_iload_n 74 rfl (show decode M_Model_dry.2.1 73 = .ok (.iload_n 3, 1) by decide +kernel) 2 rfl ?_
                  refine V_callV (tb := tI) (as := [vI x3]) (rest := []) (na := 1) 77 rfl ck_Model (by decide) (s_Model_mileOf h0 x3 (b && cK σ h0 13) σ) rfl rfl (Nat.le_of_ble_eq_true rfl) (cal_Model_mileOf _ _ _ _ _ (by decide) (by decide) (by decide)) (show decode M_Model_dry.2.1 74 = .ok (.invokevirtual 92, 3) by decide +kernel) wd_1621 wd_1623 wd_112 (fun r_9 b_9 σ_9 => ?_)
                  show V M_Model_dry 3 0 0 0 0 tI _ 77 [(0, vR h0), (1, vI x1), (3, vI x3)] [vI r_9] b_9 σ_9
                  refine V_iload_n 78 rfl (show decode M_Model_dry.2.1 77 = .ok (.iload_n 1, 1) by decide +kernel) 1 rfl ?_
                  refine V_isub 79 rfl (show decode M_Model_dry.2.1 78 = .ok (.isub, 1) by decide +kernel) ?_
                  refine V_goto 83 (show decode M_Model_dry.2.1 79 = .ok (.goto 4, 3) by decide +kernel) rfl ?_
                  exact V_sub [0, 1, 2] rfl (hJ83 (r_9 - x1) b_9 σ_9)
                · skip
                  refine V_iflt 61 72 rfl (show decode M_Model_dry.2.1 58 = .ok (.ifCond .lt 14, 3) by decide +kernel) rfl ?_ ?_
                  · skip
                    exact V_sub [1, 2, 4] rfl (hJ72 b σ)
                  · skip
                    refine V_aload_n 62 rfl (show decode M_Model_dry.2.1 61 = .ok (.aload_n 0, 1) by decide +kernel) 1 rfl ?_
                    refine V_iload_n 63 rfl (show decode M_Model_dry.2.1 62 = .ok (.iload_n 3, 1) by decide +kernel) 4 rfl ?_
                    refine V_callV (tb := tI) (as := [vI x3]) (rest := []) (na := 1) 66 rfl ck_Model (by decide) (s_Model_mileOf h0 x3 (b && cK σ h0 13) σ) rfl rfl (Nat.le_of_ble_eq_true rfl) (cal_Model_mileOf _ _ _ _ _ (by decide) (by decide) (by decide)) (show decode M_Model_dry.2.1 63 = .ok (.invokevirtual 92, 3) by decide +kernel) wd_1621 wd_1623 wd_112 (fun r_10 b_10 σ_10 => ?_)
                    show V M_Model_dry 3 0 0 0 0 tI _ 66 [(4, vI x4_6), (0, vR h0), (1, vI x1), (2, vI x2), (3, vI x3)] [vI r_10] b_10 σ_10
                    refine V_iload_n 67 rfl (show decode M_Model_dry.2.1 66 = .ok (.iload_n 1, 1) by decide +kernel) 2 rfl ?_
                    refine V_isub 68 rfl (show decode M_Model_dry.2.1 67 = .ok (.isub, 1) by decide +kernel) ?_
                    refine V_iload_n 69 rfl (show decode M_Model_dry.2.1 68 = .ok (.iload_n 2, 1) by decide +kernel) 3 rfl ?_
                    refine V_icmpge 72 82 rfl (show decode M_Model_dry.2.1 69 = .ok (.if_icmp .ge 13, 3) by decide +kernel) rfl ?_ ?_
                    · skip
                      exact V_sub [1, 2, 4] rfl (hJ72 b_10 σ_10)
                    · skip
                      exact V_sub [1, 2, 3, 4] rfl (hJ82 b_10 σ_10)
        · skip
          refine V_jn (fun (J49 : Bool → Sto → Rs Int32) => ∀ (b : Bool) (σ : Sto), V M_Model_dry 3 0 0 0 0 tI (J49 b σ) 49 [(0, vR h0), (1, vI x1), (2, vI x2), (3, vI x3)] [] b σ) ?_ (fun J49 hJ49 => ?_)
          · intro b σ
            refine V_iconst 50 rfl (show decode M_Model_dry.2.1 49 = .ok (.iconst 0, 1) by decide +kernel) (v := 0) rfl ?_
            exact V_sub [0, 1, 2, 3] rfl (hJ50 (0 : Int32) b σ)
          · skip
            refine V_ifeq 36 49 rfl (show decode M_Model_dry.2.1 33 = .ok (.ifCond .eq 16, 3) by decide +kernel) rfl ?_ ?_
            · skip
              exact V_sub [0, 1, 2, 3] rfl (hJ49 b_5 σ_5)
            · skip
              refine V_aload_n 37 rfl (show decode M_Model_dry.2.1 36 = .ok (.aload_n 0, 1) by decide +kernel) 0 rfl ?_
              refine V_iload_n 38 rfl (show decode M_Model_dry.2.1 37 = .ok (.iload_n 3, 1) by decide +kernel) 3 rfl ?_
              refine V_callV (tb := tI) (as := [vI x3]) (rest := []) (na := 1) 41 rfl ck_Model (by decide) (s_Model_mileOf h0 x3 (b_5 && cK σ_5 h0 13) σ_5) rfl rfl (Nat.le_of_ble_eq_true rfl) (cal_Model_mileOf _ _ _ _ _ (by decide) (by decide) (by decide)) (show decode M_Model_dry.2.1 38 = .ok (.invokevirtual 92, 3) by decide +kernel) wd_1621 wd_1623 wd_112 (fun r_11 b_11 σ_11 => ?_)
              show V M_Model_dry 3 0 0 0 0 tI _ 41 [(0, vR h0), (1, vI x1), (2, vI x2), (3, vI x3)] [vI r_11] b_11 σ_11
              refine V_iload_n 42 rfl (show decode M_Model_dry.2.1 41 = .ok (.iload_n 1, 1) by decide +kernel) 1 rfl ?_
              refine V_icmple 45 49 rfl (show decode M_Model_dry.2.1 42 = .ok (.if_icmp .le 7, 3) by decide +kernel) rfl ?_ ?_
              · skip
                refine V_iconst 46 rfl (show decode M_Model_dry.2.1 45 = .ok (.iconst 1, 1) by decide +kernel) (v := 1) rfl ?_
                refine V_goto 50 (show decode M_Model_dry.2.1 46 = .ok (.goto 4, 3) by decide +kernel) rfl ?_
                exact V_sub [0, 1, 2, 3] rfl (hJ50 (1 : Int32) b_11 σ_11)
              · skip
                exact V_sub [0, 1, 2, 3] rfl (hJ49 b_11 σ_11)
      · skip
        refine V_iload_n 91 rfl (show decode M_Model_dry.2.1 90 = .ok (.iload_n 2, 1) by decide +kernel) 2 rfl ?_
        refine V_callS (tb := tI) (as := [vI x2]) (rest := []) (na := 1) 94 rfl (s_Model_orNone x2 ((b && cK σ h0 13) && cA σ (SR σ h0 0) 21 (2 : Int32)) σ) rfl rfl (Nat.le_of_ble_eq_true rfl) (cal_Model_orNone _ _ _ _ _ (by decide) (by decide) (by decide)) (show decode M_Model_dry.2.1 91 = .ok (.invokestatic 143, 3) by decide +kernel) wd_1704 wd_1705 (fun r_12 b_12 σ_12 => ?_)
        show V M_Model_dry 3 0 0 0 0 tI _ 94 [(0, vR h0), (1, vI x1), (2, vI x2), (3, vI x3)] [vI r_12] b_12 σ_12
        exact V_iret rfl (by decide) (by decide) (show decode M_Model_dry.2.1 94 = .ok (.ireturn, 1) by decide +kernel)
theorem cal_Model_dry (d mc ms k n : Nat) (h1 : 3 + 1 ≤ d) (h2 : k + 0 ≤ mc) (h3 : n + 0 ≤ ms) : Cal M_Model_dry 3 0 0 1 d mc ms k n := ⟨wd_1730, wd_181, by decide, h1, by decide, h2, h3⟩
abbrev M_Model_feed : MD := (⟨"LongTrailModel", "feed", "(III)I"⟩, prog_14_method_35_code, 6, (some FieldType.int))
def b_Model_feed_18 (h0 : Nat) (x1 : Int32) (x2 : Int32) (x3 : Int32) (L18 : Int32 → Bool → Sto → Rs Int32) (x4 : Int32) (b : Bool) (σ : Sto) : Rs Int32 := (if x4 < (12 : Int32) then (lt_ (fun (s0_47 : Int32) (b : Bool) (σ : Sto) => (lt_ s0_47 (fun (x5_2 : Int32) => (lt_ (pI σ (SR σ h0 7) (ix (SI σ h0 8)) ((x5_2 >>> (((24 : Int32) - ((8 : Int32) * (x4 - x4 / (4 : Int32) * (4 : Int32)))) &&& 31)) &&& (255 : Int32))) (fun (σ_3 : Sto) => (lt_ (pI σ_3 h0 8 ((SI σ_3 h0 8) + (1 : Int32))) (fun (σ_4 : Sto) => (lt_ (x4 + (1 : Int32)) (fun (x4_5 : Int32) => (L18 x4_5 ((((((b && cK σ h0 13) && cK σ h0 13) && !decide ((4 : Int32) = 0)) && cA σ (SR σ h0 7) 21 (SI σ h0 8)) && cK σ_3 h0 13) && cK σ_3 h0 13) σ_4)))))))))) (fun J47 => (if x4 < (4 : Int32) then (J47 x1 b σ) else (if x4 < (8 : Int32) then (J47 x2 b σ) else (J47 x3 b σ))))) else ((SI σ h0 8), (b && cK σ h0 13), σ))
def f_Model_feed (h0 : Nat) (x1 : Int32) (x2 : Int32) (x3 : Int32) (b : Bool) (σ : Sto) : Rs Int32 := (if (96 : Int32) < ((SI σ h0 8) + (12 : Int32)) then ((-1000000003 : Int32), (b && cK σ h0 13), σ) else (lt_ (0 : Int32) (fun (x4_1 : Int32) => (lp_ (b_Model_feed_18 h0 x1 x2 x3) (fun (x4 : Int32) (b : Bool) (σ : Sto) => (0, false, σ)) fuel_ x4_1 (b && cK σ h0 13) σ))))
set_option maxRecDepth 100000 in
set_option maxHeartbeats 4000000 in
theorem s_Model_feed : ∀ (h0 : Nat) (x1 : Int32) (x2 : Int32) (x3 : Int32) (b : Bool) (σ : Sto), Snd M_Model_feed 1 0 0 [vR h0, vI x1, vI x2, vI x3] b σ (tI (f_Model_feed h0 x1 x2 x3 b σ).1) (f_Model_feed h0 x1 x2 x3 b σ).2.1 (f_Model_feed h0 x1 x2 x3 b σ).2.2 := by
  intro h0 x1 x2 x3 b σ
  refine Snd_of (tv := tI) (by decide) (Nat.le_of_ble_eq_true rfl) ?_
  show V M_Model_feed 1 0 0 0 0 tI (f_Model_feed h0 x1 x2 x3 b σ) 0 [(0, vR h0), (1, vI x1), (2, vI x2), (3, vI x3)] [] b σ
  unfold f_Model_feed
  refine V_aload_n 1 rfl (show decode M_Model_feed.2.1 0 = .ok (.aload_n 0, 1) by decide +kernel) 0 rfl ?_
  refine V_get (j := 8) (v := vI (SI σ h0 8)) 4 rfl ck_Model (by decide) (by decide) (show decode M_Model_feed.2.1 1 = .ok (.getfield 152, 3) by decide +kernel) wd_1512 rfl ?_
  refine V_bipush 6 rfl (show decode M_Model_feed.2.1 4 = .ok (.bipush 12, 2) by decide +kernel) (v := 12) rfl ?_
  refine V_iadd 7 rfl (show decode M_Model_feed.2.1 6 = .ok (.iadd, 1) by decide +kernel) ?_
  refine V_bipush 9 rfl (show decode M_Model_feed.2.1 7 = .ok (.bipush 96, 2) by decide +kernel) (v := 96) rfl ?_
  refine V_icmple 12 15 rfl (show decode M_Model_feed.2.1 9 = .ok (.if_icmp .le 6, 3) by decide +kernel) rfl ?_ ?_
  · skip
    refine V_ldc 14 rfl (show decode M_Model_feed.2.1 12 = .ok (.ldc 119, 2) by decide +kernel) wd_1656 ?_
    exact V_iret rfl (by decide) (by decide) (show decode M_Model_feed.2.1 14 = .ok (.ireturn, 1) by decide +kernel)
  · skip
    refine V_iconst 16 rfl (show decode M_Model_feed.2.1 15 = .ok (.iconst 0, 1) by decide +kernel) (v := 0) rfl ?_
    refine V_istore (fun x4_1 => [(4, vI x4_1), (0, vR h0), (1, vI x1), (2, vI x2), (3, vI x3)]) 18 rfl (show decode M_Model_feed.2.1 16 = .ok (.istore 4, 2) by decide +kernel) (by decide) (fun _ => rfl) (fun x4_1 => ?_)
    refine V_sub [1, 2, 3, 4, 0] rfl ?_
    refine lp_P (fun (L18 : Int32 → Bool → Sto → Rs Int32) => ∀ (x4 : Int32) (b : Bool) (σ : Sto), V M_Model_feed 1 0 0 0 0 tI (L18 x4 b σ) 18 [(0, vR h0), (1, vI x1), (2, vI x2), (3, vI x3), (4, vI x4)] [] b σ) ?_ ?_ fuel_ x4_1 (b && cK σ h0 13) σ
    · intro x4 b σ; exact V_bad
    · intro L18 hL18 x4 b σ
      unfold b_Model_feed_18
      refine V_iload 20 rfl (show decode M_Model_feed.2.1 18 = .ok (.iload 4, 2) by decide +kernel) 4 rfl ?_
      refine V_bipush 22 rfl (show decode M_Model_feed.2.1 20 = .ok (.bipush 12, 2) by decide +kernel) (v := 12) rfl ?_
      refine V_icmpge 25 91 rfl (show decode M_Model_feed.2.1 22 = .ok (.if_icmp .ge 69, 3) by decide +kernel) rfl ?_ ?_
      · skip
        refine V_iload 27 rfl (show decode M_Model_feed.2.1 25 = .ok (.iload 4, 2) by decide +kernel) 4 rfl ?_
        refine V_iconst 28 rfl (show decode M_Model_feed.2.1 27 = .ok (.iconst 4, 1) by decide +kernel) (v := 4) rfl ?_
        refine V_jn (fun (J47 : Int32 → Bool → Sto → Rs Int32) => ∀ (s0_47 : Int32) (b : Bool) (σ : Sto), V M_Model_feed 1 0 0 0 0 tI (J47 s0_47 b σ) 47 [(0, vR h0), (1, vI x1), (2, vI x2), (3, vI x3), (4, vI x4)] [vI s0_47] b σ) ?_ (fun J47 hJ47 => ?_)
        · intro s0_47 b σ
          refine V_istore (fun x5_2 => [(5, vI x5_2), (0, vR h0), (1, vI x1), (2, vI x2), (3, vI x3), (4, vI x4)]) 49 rfl (show decode M_Model_feed.2.1 47 = .ok (.istore 5, 2) by decide +kernel) (by decide) (fun _ => rfl) (fun x5_2 => ?_)
          refine V_aload_n 50 rfl (show decode M_Model_feed.2.1 49 = .ok (.aload_n 0, 1) by decide +kernel) 1 rfl ?_
          refine V_get (j := 7) (v := vR (SR σ h0 7)) 53 rfl ck_Model (by decide) (by decide) (show decode M_Model_feed.2.1 50 = .ok (.getfield 29, 3) by decide +kernel) wd_1511 rfl ?_
          refine V_aload_n 54 rfl (show decode M_Model_feed.2.1 53 = .ok (.aload_n 0, 1) by decide +kernel) 1 rfl ?_
          refine V_get (j := 8) (v := vI (SI σ h0 8)) 57 rfl ck_Model (by decide) (by decide) (show decode M_Model_feed.2.1 54 = .ok (.getfield 152, 3) by decide +kernel) wd_1512 rfl ?_
          refine V_iload 59 rfl (show decode M_Model_feed.2.1 57 = .ok (.iload 5, 2) by decide +kernel) 0 rfl ?_
          refine V_bipush 61 rfl (show decode M_Model_feed.2.1 59 = .ok (.bipush 24, 2) by decide +kernel) (v := 24) rfl ?_
          refine V_bipush 63 rfl (show decode M_Model_feed.2.1 61 = .ok (.bipush 8, 2) by decide +kernel) (v := 8) rfl ?_
          refine V_iload 65 rfl (show decode M_Model_feed.2.1 63 = .ok (.iload 4, 2) by decide +kernel) 5 rfl ?_
          refine V_iconst 66 rfl (show decode M_Model_feed.2.1 65 = .ok (.iconst 4, 1) by decide +kernel) (v := 4) rfl ?_
          refine V_irem 67 rfl (show decode M_Model_feed.2.1 66 = .ok (.irem, 1) by decide +kernel) ?_
          refine V_imul 68 rfl (show decode M_Model_feed.2.1 67 = .ok (.imul, 1) by decide +kernel) ?_
          refine V_isub 69 rfl (show decode M_Model_feed.2.1 68 = .ok (.isub, 1) by decide +kernel) ?_
          refine V_ishr 70 rfl (show decode M_Model_feed.2.1 69 = .ok (.ishr, 1) by decide +kernel) ?_
          refine V_sipush 73 rfl (show decode M_Model_feed.2.1 70 = .ok (.sipush 255, 3) by decide +kernel) (v := 255) rfl ?_
          refine V_iand 74 rfl (show decode M_Model_feed.2.1 73 = .ok (.iand, 1) by decide +kernel) ?_
          refine V_ast_int 75 rfl (show decode M_Model_feed.2.1 74 = .ok (.iastore, 1) by decide +kernel) (fun σ_3 => ?_)
          refine V_aload_n 76 rfl (show decode M_Model_feed.2.1 75 = .ok (.aload_n 0, 1) by decide +kernel) 1 rfl ?_
          refine V_dup 77 rfl (show decode M_Model_feed.2.1 76 = .ok (.dup, 1) by decide +kernel) rfl ?_
          refine V_get (j := 8) (v := vI (SI σ_3 h0 8)) 80 rfl ck_Model (by decide) (by decide) (show decode M_Model_feed.2.1 77 = .ok (.getfield 152, 3) by decide +kernel) wd_1512 rfl ?_
          refine V_iconst 81 rfl (show decode M_Model_feed.2.1 80 = .ok (.iconst 1, 1) by decide +kernel) (v := 1) rfl ?_
          refine V_iadd 82 rfl (show decode M_Model_feed.2.1 81 = .ok (.iadd, 1) by decide +kernel) ?_
          refine V_putI (j := 8) 85 rfl ck_Model (by decide) (by decide) (show decode M_Model_feed.2.1 82 = .ok (.putfield 152, 3) by decide +kernel) wd_1512 rfl (fun _ => rfl) rfl rfl (fun σ_4 => ?_)
          refine V_iinc (fun x4_5 => [(4, vI x4_5), (5, vI x5_2), (0, vR h0), (1, vI x1), (2, vI x2), (3, vI x3)]) 88 rfl (show decode M_Model_feed.2.1 85 = .ok (.iinc 4 1, 3) by decide +kernel) 5 rfl (w := 1) rfl (by decide) (fun _ => rfl) (fun x4_5 => ?_)
          refine V_goto 18 (show decode M_Model_feed.2.1 88 = .ok (.goto (-70), 3) by decide +kernel) rfl ?_
          exact V_sub [2, 3, 4, 5, 0] rfl (hL18 x4_5 ((((((b && cK σ h0 13) && cK σ h0 13) && !decide ((4 : Int32) = 0)) && cA σ (SR σ h0 7) 21 (SI σ h0 8)) && cK σ_3 h0 13) && cK σ_3 h0 13) σ_4)
        · skip
          refine V_icmpge 31 35 rfl (show decode M_Model_feed.2.1 28 = .ok (.if_icmp .ge 7, 3) by decide +kernel) rfl ?_ ?_
          · skip
            refine V_iload_n 32 rfl (show decode M_Model_feed.2.1 31 = .ok (.iload_n 1, 1) by decide +kernel) 1 rfl ?_
            refine V_goto 47 (show decode M_Model_feed.2.1 32 = .ok (.goto 15, 3) by decide +kernel) rfl ?_
            exact V_sub [0, 1, 2, 3, 4] rfl (hJ47 x1 b σ)
          · skip
            refine V_iload 37 rfl (show decode M_Model_feed.2.1 35 = .ok (.iload 4, 2) by decide +kernel) 4 rfl ?_
            refine V_bipush 39 rfl (show decode M_Model_feed.2.1 37 = .ok (.bipush 8, 2) by decide +kernel) (v := 8) rfl ?_
            refine V_icmpge 42 46 rfl (show decode M_Model_feed.2.1 39 = .ok (.if_icmp .ge 7, 3) by decide +kernel) rfl ?_ ?_
            · skip
              refine V_iload_n 43 rfl (show decode M_Model_feed.2.1 42 = .ok (.iload_n 2, 1) by decide +kernel) 2 rfl ?_
              refine V_goto 47 (show decode M_Model_feed.2.1 43 = .ok (.goto 4, 3) by decide +kernel) rfl ?_
              exact V_sub [0, 1, 2, 3, 4] rfl (hJ47 x2 b σ)
            · skip
              refine V_iload_n 47 rfl (show decode M_Model_feed.2.1 46 = .ok (.iload_n 3, 1) by decide +kernel) 3 rfl ?_
              exact V_sub [0, 1, 2, 3, 4] rfl (hJ47 x3 b σ)
      · skip
        refine V_aload_n 92 rfl (show decode M_Model_feed.2.1 91 = .ok (.aload_n 0, 1) by decide +kernel) 0 rfl ?_
        refine V_get (j := 8) (v := vI (SI σ h0 8)) 95 rfl ck_Model (by decide) (by decide) (show decode M_Model_feed.2.1 92 = .ok (.getfield 152, 3) by decide +kernel) wd_1512 rfl ?_
        exact V_iret rfl (by decide) (by decide) (show decode M_Model_feed.2.1 95 = .ok (.ireturn, 1) by decide +kernel)
theorem cal_Model_feed (d mc ms k n : Nat) (h1 : 1 + 1 ≤ d) (h2 : k + 0 ≤ mc) (h3 : n + 0 ≤ ms) : Cal M_Model_feed 1 0 0 3 d mc ms k n := ⟨wd_1734, wd_181, by decide, h1, by decide, h2, h3⟩
abbrev M_Model_grantedOn : MD := (⟨"LongTrailModel", "grantedOn", "(I)I"⟩, prog_14_method_86_code, 4, (some FieldType.int))
def b_Model_grantedOn_4 (h0 : Nat) (x1 : Int32) (L4 : Int32 → Int32 → Bool → Sto → Rs Int32) (x2 : Int32) (x3 : Int32) (b : Bool) (σ : Sto) : Rs Int32 := (if x3 < (SI σ (SR σ h0 0) (ix (7 : Int32))) then (lt_ (fun (s0_31 : Int32) (s1_31 : Int32) (b : Bool) (σ : Sto) => (lt_ (s1_31 + s0_31) (fun (x2_3 : Int32) => (lt_ (x3 + (1 : Int32)) (fun (x3_4 : Int32) => (L4 x2_3 x3_4 b σ)))))) (fun J31 => (if (SI σ (SR σ h0 24) (ix x3)) = x1 then (J31 (1 : Int32) x2 ((((b && cK σ h0 13) && cA σ (SR σ h0 0) 21 (7 : Int32)) && cK σ h0 13) && cA σ (SR σ h0 24) 21 x3) σ) else (J31 (0 : Int32) x2 ((((b && cK σ h0 13) && cA σ (SR σ h0 0) 21 (7 : Int32)) && cK σ h0 13) && cA σ (SR σ h0 24) 21 x3) σ)))) else (x2, ((b && cK σ h0 13) && cA σ (SR σ h0 0) 21 (7 : Int32)), σ))
def f_Model_grantedOn (h0 : Nat) (x1 : Int32) (b : Bool) (σ : Sto) : Rs Int32 := (lt_ (0 : Int32) (fun (x2_1 : Int32) => (lt_ (0 : Int32) (fun (x3_2 : Int32) => (lp_ (b_Model_grantedOn_4 h0 x1) (fun (x2 : Int32) (x3 : Int32) (b : Bool) (σ : Sto) => (0, false, σ)) fuel_ x2_1 x3_2 b σ)))))
set_option maxRecDepth 100000 in
set_option maxHeartbeats 4000000 in
theorem s_Model_grantedOn : ∀ (h0 : Nat) (x1 : Int32) (b : Bool) (σ : Sto), Snd M_Model_grantedOn 1 0 0 [vR h0, vI x1] b σ (tI (f_Model_grantedOn h0 x1 b σ).1) (f_Model_grantedOn h0 x1 b σ).2.1 (f_Model_grantedOn h0 x1 b σ).2.2 := by
  intro h0 x1 b σ
  refine Snd_of (tv := tI) (by decide) (Nat.le_of_ble_eq_true rfl) ?_
  show V M_Model_grantedOn 1 0 0 0 0 tI (f_Model_grantedOn h0 x1 b σ) 0 [(0, vR h0), (1, vI x1)] [] b σ
  unfold f_Model_grantedOn
  refine V_iconst 1 rfl (show decode M_Model_grantedOn.2.1 0 = .ok (.iconst 0, 1) by decide +kernel) (v := 0) rfl ?_
  refine V_istore_n (fun x2_1 => [(2, vI x2_1), (0, vR h0), (1, vI x1)]) 2 rfl (show decode M_Model_grantedOn.2.1 1 = .ok (.istore_n 2, 1) by decide +kernel) (by decide) (fun _ => rfl) (fun x2_1 => ?_)
  refine V_iconst 3 rfl (show decode M_Model_grantedOn.2.1 2 = .ok (.iconst 0, 1) by decide +kernel) (v := 0) rfl ?_
  refine V_istore_n (fun x3_2 => [(3, vI x3_2), (2, vI x2_1), (0, vR h0), (1, vI x1)]) 4 rfl (show decode M_Model_grantedOn.2.1 3 = .ok (.istore_n 3, 1) by decide +kernel) (by decide) (fun _ => rfl) (fun x3_2 => ?_)
  refine V_sub [2, 3, 1, 0] rfl ?_
  refine lp_P (fun (L4 : Int32 → Int32 → Bool → Sto → Rs Int32) => ∀ (x2 : Int32) (x3 : Int32) (b : Bool) (σ : Sto), V M_Model_grantedOn 1 0 0 0 0 tI (L4 x2 x3 b σ) 4 [(0, vR h0), (1, vI x1), (2, vI x2), (3, vI x3)] [] b σ) ?_ ?_ fuel_ x2_1 x3_2 b σ
  · intro x2 x3 b σ; exact V_bad
  · intro L4 hL4 x2 x3 b σ
    unfold b_Model_grantedOn_4
    refine V_iload_n 5 rfl (show decode M_Model_grantedOn.2.1 4 = .ok (.iload_n 3, 1) by decide +kernel) 3 rfl ?_
    refine V_aload_n 6 rfl (show decode M_Model_grantedOn.2.1 5 = .ok (.aload_n 0, 1) by decide +kernel) 0 rfl ?_
    refine V_get (j := 0) (v := vR (SR σ h0 0)) 9 rfl ck_Model (by decide) (by decide) (show decode M_Model_grantedOn.2.1 6 = .ok (.getfield 7, 3) by decide +kernel) wd_1504 rfl ?_
    refine V_bipush 11 rfl (show decode M_Model_grantedOn.2.1 9 = .ok (.bipush 7, 2) by decide +kernel) (v := 7) rfl ?_
    refine V_ald_int 12 rfl (show decode M_Model_grantedOn.2.1 11 = .ok (.iaload, 1) by decide +kernel) ?_
    refine V_icmpge 15 39 rfl (show decode M_Model_grantedOn.2.1 12 = .ok (.if_icmp .ge 27, 3) by decide +kernel) rfl ?_ ?_
    · skip
      refine V_iload_n 16 rfl (show decode M_Model_grantedOn.2.1 15 = .ok (.iload_n 2, 1) by decide +kernel) 2 rfl ?_
      refine V_aload_n 17 rfl (show decode M_Model_grantedOn.2.1 16 = .ok (.aload_n 0, 1) by decide +kernel) 0 rfl ?_
      refine V_get (j := 24) (v := vR (SR σ h0 24)) 20 rfl ck_Model (by decide) (by decide) (show decode M_Model_grantedOn.2.1 17 = .ok (.getfield 44, 3) by decide +kernel) wd_1528 rfl ?_
      refine V_iload_n 21 rfl (show decode M_Model_grantedOn.2.1 20 = .ok (.iload_n 3, 1) by decide +kernel) 3 rfl ?_
      refine V_ald_int 22 rfl (show decode M_Model_grantedOn.2.1 21 = .ok (.iaload, 1) by decide +kernel) ?_
      refine V_iload_n 23 rfl (show decode M_Model_grantedOn.2.1 22 = .ok (.iload_n 1, 1) by decide +kernel) 1 rfl ?_
      refine V_jn (fun (J31 : Int32 → Int32 → Bool → Sto → Rs Int32) => ∀ (s0_31 : Int32) (s1_31 : Int32) (b : Bool) (σ : Sto), V M_Model_grantedOn 1 0 0 0 0 tI (J31 s0_31 s1_31 b σ) 31 [(0, vR h0), (1, vI x1), (3, vI x3)] [vI s0_31, vI s1_31] b σ) ?_ (fun J31 hJ31 => ?_)
      · intro s0_31 s1_31 b σ
        refine V_iadd 32 rfl (show decode M_Model_grantedOn.2.1 31 = .ok (.iadd, 1) by decide +kernel) ?_
        refine V_istore_n (fun x2_3 => [(2, vI x2_3), (0, vR h0), (1, vI x1), (3, vI x3)]) 33 rfl (show decode M_Model_grantedOn.2.1 32 = .ok (.istore_n 2, 1) by decide +kernel) (by decide) (fun _ => rfl) (fun x2_3 => ?_)
        refine V_iinc (fun x3_4 => [(3, vI x3_4), (2, vI x2_3), (0, vR h0), (1, vI x1)]) 36 rfl (show decode M_Model_grantedOn.2.1 33 = .ok (.iinc 3 1, 3) by decide +kernel) 3 rfl (w := 1) rfl (by decide) (fun _ => rfl) (fun x3_4 => ?_)
        refine V_goto 4 (show decode M_Model_grantedOn.2.1 36 = .ok (.goto (-32), 3) by decide +kernel) rfl ?_
        exact V_sub [2, 3, 1, 0] rfl (hL4 x2_3 x3_4 b σ)
      · skip
        refine V_icmpne 26 30 rfl (show decode M_Model_grantedOn.2.1 23 = .ok (.if_icmp .ne 7, 3) by decide +kernel) rfl ?_ ?_
        · skip
          refine V_iconst 27 rfl (show decode M_Model_grantedOn.2.1 26 = .ok (.iconst 1, 1) by decide +kernel) (v := 1) rfl ?_
          refine V_goto 31 (show decode M_Model_grantedOn.2.1 27 = .ok (.goto 4, 3) by decide +kernel) rfl ?_
          exact V_sub [0, 1, 3] rfl (hJ31 (1 : Int32) x2 ((((b && cK σ h0 13) && cA σ (SR σ h0 0) 21 (7 : Int32)) && cK σ h0 13) && cA σ (SR σ h0 24) 21 x3) σ)
        · skip
          refine V_iconst 31 rfl (show decode M_Model_grantedOn.2.1 30 = .ok (.iconst 0, 1) by decide +kernel) (v := 0) rfl ?_
          exact V_sub [0, 1, 3] rfl (hJ31 (0 : Int32) x2 ((((b && cK σ h0 13) && cA σ (SR σ h0 0) 21 (7 : Int32)) && cK σ h0 13) && cA σ (SR σ h0 24) 21 x3) σ)
    · skip
      refine V_iload_n 40 rfl (show decode M_Model_grantedOn.2.1 39 = .ok (.iload_n 2, 1) by decide +kernel) 2 rfl ?_
      exact V_iret rfl (by decide) (by decide) (show decode M_Model_grantedOn.2.1 40 = .ok (.ireturn, 1) by decide +kernel)
theorem cal_Model_grantedOn (d mc ms k n : Nat) (h1 : 1 + 1 ≤ d) (h2 : k + 0 ≤ mc) (h3 : n + 0 ≤ ms) : Cal M_Model_grantedOn 1 0 0 1 d mc ms k n := ⟨wd_1974, wd_181, by decide, h1, by decide, h2, h3⟩
abbrev M_Model_worthOf : MD := (⟨"LongTrailModel", "worthOf", "(I)I"⟩, prog_14_method_85_code, 5, (some FieldType.int))
def b_Model_worthOf_12 (h0 : Nat) (x1 : Int32) (x2_2 : Int32) (L12 : Int32 → Int32 → Bool → Sto → Rs Int32) (x3 : Int32) (x4 : Int32) (b : Bool) (σ : Sto) : Rs Int32 := (if x4 < (SI σ (SR σ h0 0) (ix (7 : Int32))) then (lt_ (fun (s0_58 : Int32) (s1_58 : Int32) (b : Bool) (σ : Sto) => (lt_ (s1_58 + s0_58) (fun (x3_5 : Int32) => (lt_ (x4 + (1 : Int32)) (fun (x4_6 : Int32) => (L12 x3_5 x4_6 b σ)))))) (fun J58 => (if (SI σ (SR σ h0 0) (ix ((440 : Int32) + ((2 : Int32) * x4)))) = (SI σ (SR σ h0 0) (ix ((440 : Int32) + ((2 : Int32) * x1)))) then (J58 (1 : Int32) x3 ((((((b && cK σ h0 13) && cA σ (SR σ h0 0) 21 (7 : Int32)) && cK σ h0 13) && cA σ (SR σ h0 0) 21 ((440 : Int32) + ((2 : Int32) * x4))) && cK σ h0 13) && cA σ (SR σ h0 0) 21 ((440 : Int32) + ((2 : Int32) * x1))) σ) else (J58 (0 : Int32) x3 ((((((b && cK σ h0 13) && cA σ (SR σ h0 0) 21 (7 : Int32)) && cK σ h0 13) && cA σ (SR σ h0 0) 21 ((440 : Int32) + ((2 : Int32) * x4))) && cK σ h0 13) && cA σ (SR σ h0 0) 21 ((440 : Int32) + ((2 : Int32) * x1))) σ)))) else (lt_ (pI σ (SR σ h0 19) (ix (100 : Int32)) (SI σ (SR σ h0 0) (ix ((440 : Int32) + ((2 : Int32) * x1))))) (fun (σ_7 : Sto) => (lt_ (pI σ_7 (SR σ_7 h0 19) (ix (112 : Int32)) x3) (fun (σ_8 : Sto) => (if x2_2 < 0 then ((0 : Int32), ((((((((b && cK σ h0 13) && cA σ (SR σ h0 0) 21 (7 : Int32)) && cK σ h0 13) && cK σ h0 13) && cA σ (SR σ h0 0) 21 ((440 : Int32) + ((2 : Int32) * x1))) && cA σ (SR σ h0 19) 21 (100 : Int32)) && cK σ_7 h0 13) && cA σ_7 (SR σ_7 h0 19) 21 (112 : Int32)), σ_8) else (bd_ (f_Model_worked h0 x2_2 (((((((((b && cK σ h0 13) && cA σ (SR σ h0 0) 21 (7 : Int32)) && cK σ h0 13) && cK σ h0 13) && cA σ (SR σ h0 0) 21 ((440 : Int32) + ((2 : Int32) * x1))) && cA σ (SR σ h0 19) 21 (100 : Int32)) && cK σ_7 h0 13) && cA σ_7 (SR σ_7 h0 19) 21 (112 : Int32)) && cK σ_8 h0 13) σ_8) (fun (r_9 : Int32) (b_9 : Bool) (σ_9 : Sto) => (r_9, b_9, σ_9)))))))))
def f_Model_worthOf (h0 : Nat) (x1 : Int32) (b : Bool) (σ : Sto) : Rs Int32 := (bd_ (f_Model_counts h0 (0 : Int32) (3 : Int32) (b && cK σ h0 13) σ) (fun (r_1 : Int32) (b_1 : Bool) (σ_1 : Sto) => (lt_ r_1 (fun (x2_2 : Int32) => (lt_ (0 : Int32) (fun (x3_3 : Int32) => (lt_ (0 : Int32) (fun (x4_4 : Int32) => (lp_ (b_Model_worthOf_12 h0 x1 x2_2) (fun (x3 : Int32) (x4 : Int32) (b : Bool) (σ : Sto) => (0, false, σ)) fuel_ x3_3 x4_4 b_1 σ_1)))))))))
set_option maxRecDepth 100000 in
set_option maxHeartbeats 4000000 in
theorem s_Model_worthOf : ∀ (h0 : Nat) (x1 : Int32) (b : Bool) (σ : Sto), Snd M_Model_worthOf 3 0 0 [vR h0, vI x1] b σ (tI (f_Model_worthOf h0 x1 b σ).1) (f_Model_worthOf h0 x1 b σ).2.1 (f_Model_worthOf h0 x1 b σ).2.2 := by
  intro h0 x1 b σ
  refine Snd_of (tv := tI) (by decide) (Nat.le_of_ble_eq_true rfl) ?_
  show V M_Model_worthOf 3 0 0 0 0 tI (f_Model_worthOf h0 x1 b σ) 0 [(0, vR h0), (1, vI x1)] [] b σ
  unfold f_Model_worthOf
  refine V_aload_n 1 rfl (show decode M_Model_worthOf.2.1 0 = .ok (.aload_n 0, 1) by decide +kernel) 0 rfl ?_
  refine V_iconst 2 rfl (show decode M_Model_worthOf.2.1 1 = .ok (.iconst 0, 1) by decide +kernel) (v := 0) rfl ?_
  refine V_iconst 3 rfl (show decode M_Model_worthOf.2.1 2 = .ok (.iconst 3, 1) by decide +kernel) (v := 3) rfl ?_
  refine V_callV (tb := tI) (as := [vI (0 : Int32), vI (3 : Int32)]) (rest := []) (na := 2) 6 rfl ck_Model (by decide) (s_Model_counts h0 (0 : Int32) (3 : Int32) (b && cK σ h0 13) σ) rfl rfl (Nat.le_of_ble_eq_true rfl) (cal_Model_counts _ _ _ _ _ (by decide) (by decide) (by decide)) (show decode M_Model_worthOf.2.1 3 = .ok (.invokevirtual 251, 3) by decide +kernel) wd_1823 wd_1825 wd_142 (fun r_1 b_1 σ_1 => ?_)
  show V M_Model_worthOf 3 0 0 0 0 tI _ 6 [(0, vR h0), (1, vI x1)] [vI r_1] b_1 σ_1
  refine V_istore_n (fun x2_2 => [(2, vI x2_2), (0, vR h0), (1, vI x1)]) 7 rfl (show decode M_Model_worthOf.2.1 6 = .ok (.istore_n 2, 1) by decide +kernel) (by decide) (fun _ => rfl) (fun x2_2 => ?_)
  refine V_iconst 8 rfl (show decode M_Model_worthOf.2.1 7 = .ok (.iconst 0, 1) by decide +kernel) (v := 0) rfl ?_
  refine V_istore_n (fun x3_3 => [(3, vI x3_3), (2, vI x2_2), (0, vR h0), (1, vI x1)]) 9 rfl (show decode M_Model_worthOf.2.1 8 = .ok (.istore_n 3, 1) by decide +kernel) (by decide) (fun _ => rfl) (fun x3_3 => ?_)
  refine V_iconst 10 rfl (show decode M_Model_worthOf.2.1 9 = .ok (.iconst 0, 1) by decide +kernel) (v := 0) rfl ?_
  refine V_istore (fun x4_4 => [(4, vI x4_4), (3, vI x3_3), (2, vI x2_2), (0, vR h0), (1, vI x1)]) 12 rfl (show decode M_Model_worthOf.2.1 10 = .ok (.istore 4, 2) by decide +kernel) (by decide) (fun _ => rfl) (fun x4_4 => ?_)
  refine V_sub [3, 4, 2, 1, 0] rfl ?_
  refine lp_P (fun (L12 : Int32 → Int32 → Bool → Sto → Rs Int32) => ∀ (x3 : Int32) (x4 : Int32) (b : Bool) (σ : Sto), V M_Model_worthOf 3 0 0 0 0 tI (L12 x3 x4 b σ) 12 [(0, vR h0), (1, vI x1), (2, vI x2_2), (3, vI x3), (4, vI x4)] [] b σ) ?_ ?_ fuel_ x3_3 x4_4 b_1 σ_1
  · intro x3 x4 b σ; exact V_bad
  · intro L12 hL12 x3 x4 b σ
    unfold b_Model_worthOf_12
    refine V_iload 14 rfl (show decode M_Model_worthOf.2.1 12 = .ok (.iload 4, 2) by decide +kernel) 4 rfl ?_
    refine V_aload_n 15 rfl (show decode M_Model_worthOf.2.1 14 = .ok (.aload_n 0, 1) by decide +kernel) 0 rfl ?_
    refine V_get (j := 0) (v := vR (SR σ h0 0)) 18 rfl ck_Model (by decide) (by decide) (show decode M_Model_worthOf.2.1 15 = .ok (.getfield 7, 3) by decide +kernel) wd_1504 rfl ?_
    refine V_bipush 20 rfl (show decode M_Model_worthOf.2.1 18 = .ok (.bipush 7, 2) by decide +kernel) (v := 7) rfl ?_
    refine V_ald_int 21 rfl (show decode M_Model_worthOf.2.1 20 = .ok (.iaload, 1) by decide +kernel) ?_
    refine V_icmpge 24 66 rfl (show decode M_Model_worthOf.2.1 21 = .ok (.if_icmp .ge 45, 3) by decide +kernel) rfl ?_ ?_
    · skip
      refine V_iload_n 25 rfl (show decode M_Model_worthOf.2.1 24 = .ok (.iload_n 3, 1) by decide +kernel) 3 rfl ?_
      refine V_aload_n 26 rfl (show decode M_Model_worthOf.2.1 25 = .ok (.aload_n 0, 1) by decide +kernel) 0 rfl ?_
      refine V_get (j := 0) (v := vR (SR σ h0 0)) 29 rfl ck_Model (by decide) (by decide) (show decode M_Model_worthOf.2.1 26 = .ok (.getfield 7, 3) by decide +kernel) wd_1504 rfl ?_
      refine V_sipush 32 rfl (show decode M_Model_worthOf.2.1 29 = .ok (.sipush 440, 3) by decide +kernel) (v := 440) rfl ?_
      refine V_iconst 33 rfl (show decode M_Model_worthOf.2.1 32 = .ok (.iconst 2, 1) by decide +kernel) (v := 2) rfl ?_
      refine V_iload 35 rfl (show decode M_Model_worthOf.2.1 33 = .ok (.iload 4, 2) by decide +kernel) 4 rfl ?_
      refine V_imul 36 rfl (show decode M_Model_worthOf.2.1 35 = .ok (.imul, 1) by decide +kernel) ?_
      refine V_iadd 37 rfl (show decode M_Model_worthOf.2.1 36 = .ok (.iadd, 1) by decide +kernel) ?_
      refine V_ald_int 38 rfl (show decode M_Model_worthOf.2.1 37 = .ok (.iaload, 1) by decide +kernel) ?_
      refine V_aload_n 39 rfl (show decode M_Model_worthOf.2.1 38 = .ok (.aload_n 0, 1) by decide +kernel) 0 rfl ?_
      refine V_get (j := 0) (v := vR (SR σ h0 0)) 42 rfl ck_Model (by decide) (by decide) (show decode M_Model_worthOf.2.1 39 = .ok (.getfield 7, 3) by decide +kernel) wd_1504 rfl ?_
      refine V_sipush 45 rfl (show decode M_Model_worthOf.2.1 42 = .ok (.sipush 440, 3) by decide +kernel) (v := 440) rfl ?_
      refine V_iconst 46 rfl (show decode M_Model_worthOf.2.1 45 = .ok (.iconst 2, 1) by decide +kernel) (v := 2) rfl ?_
      refine V_iload_n 47 rfl (show decode M_Model_worthOf.2.1 46 = .ok (.iload_n 1, 1) by decide +kernel) 1 rfl ?_
      refine V_imul 48 rfl (show decode M_Model_worthOf.2.1 47 = .ok (.imul, 1) by decide +kernel) ?_
      refine V_iadd 49 rfl (show decode M_Model_worthOf.2.1 48 = .ok (.iadd, 1) by decide +kernel) ?_
      refine V_ald_int 50 rfl (show decode M_Model_worthOf.2.1 49 = .ok (.iaload, 1) by decide +kernel) ?_
      refine V_jn (fun (J58 : Int32 → Int32 → Bool → Sto → Rs Int32) => ∀ (s0_58 : Int32) (s1_58 : Int32) (b : Bool) (σ : Sto), V M_Model_worthOf 3 0 0 0 0 tI (J58 s0_58 s1_58 b σ) 58 [(0, vR h0), (1, vI x1), (2, vI x2_2), (4, vI x4)] [vI s0_58, vI s1_58] b σ) ?_ (fun J58 hJ58 => ?_)
      · intro s0_58 s1_58 b σ
        refine V_iadd 59 rfl (show decode M_Model_worthOf.2.1 58 = .ok (.iadd, 1) by decide +kernel) ?_
        refine V_istore_n (fun x3_5 => [(3, vI x3_5), (0, vR h0), (1, vI x1), (2, vI x2_2), (4, vI x4)]) 60 rfl (show decode M_Model_worthOf.2.1 59 = .ok (.istore_n 3, 1) by decide +kernel) (by decide) (fun _ => rfl) (fun x3_5 => ?_)
        refine V_iinc (fun x4_6 => [(4, vI x4_6), (3, vI x3_5), (0, vR h0), (1, vI x1), (2, vI x2_2)]) 63 rfl (show decode M_Model_worthOf.2.1 60 = .ok (.iinc 4 1, 3) by decide +kernel) 4 rfl (w := 1) rfl (by decide) (fun _ => rfl) (fun x4_6 => ?_)
        refine V_goto 12 (show decode M_Model_worthOf.2.1 63 = .ok (.goto (-51), 3) by decide +kernel) rfl ?_
        exact V_sub [2, 3, 4, 1, 0] rfl (hL12 x3_5 x4_6 b σ)
      · skip
        refine V_icmpne 53 57 rfl (show decode M_Model_worthOf.2.1 50 = .ok (.if_icmp .ne 7, 3) by decide +kernel) rfl ?_ ?_
        · skip
          refine V_iconst 54 rfl (show decode M_Model_worthOf.2.1 53 = .ok (.iconst 1, 1) by decide +kernel) (v := 1) rfl ?_
          refine V_goto 58 (show decode M_Model_worthOf.2.1 54 = .ok (.goto 4, 3) by decide +kernel) rfl ?_
          exact V_sub [0, 1, 2, 4] rfl (hJ58 (1 : Int32) x3 ((((((b && cK σ h0 13) && cA σ (SR σ h0 0) 21 (7 : Int32)) && cK σ h0 13) && cA σ (SR σ h0 0) 21 ((440 : Int32) + ((2 : Int32) * x4))) && cK σ h0 13) && cA σ (SR σ h0 0) 21 ((440 : Int32) + ((2 : Int32) * x1))) σ)
        · skip
          refine V_iconst 58 rfl (show decode M_Model_worthOf.2.1 57 = .ok (.iconst 0, 1) by decide +kernel) (v := 0) rfl ?_
          exact V_sub [0, 1, 2, 4] rfl (hJ58 (0 : Int32) x3 ((((((b && cK σ h0 13) && cA σ (SR σ h0 0) 21 (7 : Int32)) && cK σ h0 13) && cA σ (SR σ h0 0) 21 ((440 : Int32) + ((2 : Int32) * x4))) && cK σ h0 13) && cA σ (SR σ h0 0) 21 ((440 : Int32) + ((2 : Int32) * x1))) σ)
    · skip
      refine V_aload_n 67 rfl (show decode M_Model_worthOf.2.1 66 = .ok (.aload_n 0, 1) by decide +kernel) 0 rfl ?_
      refine V_get (j := 19) (v := vR (SR σ h0 19)) 70 rfl ck_Model (by decide) (by decide) (show decode M_Model_worthOf.2.1 67 = .ok (.getfield 32, 3) by decide +kernel) wd_1523 rfl ?_
      refine V_bipush 72 rfl (show decode M_Model_worthOf.2.1 70 = .ok (.bipush 100, 2) by decide +kernel) (v := 100) rfl ?_
      refine V_aload_n 73 rfl (show decode M_Model_worthOf.2.1 72 = .ok (.aload_n 0, 1) by decide +kernel) 0 rfl ?_
      refine V_get (j := 0) (v := vR (SR σ h0 0)) 76 rfl ck_Model (by decide) (by decide) (show decode M_Model_worthOf.2.1 73 = .ok (.getfield 7, 3) by decide +kernel) wd_1504 rfl ?_
      refine V_sipush 79 rfl (show decode M_Model_worthOf.2.1 76 = .ok (.sipush 440, 3) by decide +kernel) (v := 440) rfl ?_
      refine V_iconst 80 rfl (show decode M_Model_worthOf.2.1 79 = .ok (.iconst 2, 1) by decide +kernel) (v := 2) rfl ?_
      refine V_iload_n 81 rfl (show decode M_Model_worthOf.2.1 80 = .ok (.iload_n 1, 1) by decide +kernel) 1 rfl ?_
      refine V_imul 82 rfl (show decode M_Model_worthOf.2.1 81 = .ok (.imul, 1) by decide +kernel) ?_
      refine V_iadd 83 rfl (show decode M_Model_worthOf.2.1 82 = .ok (.iadd, 1) by decide +kernel) ?_
      refine V_ald_int 84 rfl (show decode M_Model_worthOf.2.1 83 = .ok (.iaload, 1) by decide +kernel) ?_
      refine V_ast_int 85 rfl (show decode M_Model_worthOf.2.1 84 = .ok (.iastore, 1) by decide +kernel) (fun σ_7 => ?_)
      refine V_aload_n 86 rfl (show decode M_Model_worthOf.2.1 85 = .ok (.aload_n 0, 1) by decide +kernel) 0 rfl ?_
      refine V_get (j := 19) (v := vR (SR σ_7 h0 19)) 89 rfl ck_Model (by decide) (by decide) (show decode M_Model_worthOf.2.1 86 = .ok (.getfield 32, 3) by decide +kernel) wd_1523 rfl ?_
      refine V_bipush 91 rfl (show decode M_Model_worthOf.2.1 89 = .ok (.bipush 112, 2) by decide +kernel) (v := 112) rfl ?_
      refine V_iload_n 92 rfl (show decode M_Model_worthOf.2.1 91 = .ok (.iload_n 3, 1) by decide +kernel) 3 rfl ?_
      refine V_ast_int 93 rfl (show decode M_Model_worthOf.2.1 92 = .ok (.iastore, 1) by decide +kernel) (fun σ_8 => ?_)
      refine V_iload_n 94 rfl (show decode M_Model_worthOf.2.1 93 = .ok (.iload_n 2, 1) by decide +kernel) 2 rfl ?_
      refine V_ifge 97 101 rfl (show decode M_Model_worthOf.2.1 94 = .ok (.ifCond .ge 7, 3) by decide +kernel) rfl ?_ ?_
      · skip
        refine V_iconst 98 rfl (show decode M_Model_worthOf.2.1 97 = .ok (.iconst 0, 1) by decide +kernel) (v := 0) rfl ?_
        refine V_goto 106 (show decode M_Model_worthOf.2.1 98 = .ok (.goto 8, 3) by decide +kernel) rfl ?_
        exact V_iret rfl (by decide) (by decide) (show decode M_Model_worthOf.2.1 106 = .ok (.ireturn, 1) by decide +kernel)
      · skip
        refine V_aload_n 102 rfl (show decode M_Model_worthOf.2.1 101 = .ok (.aload_n 0, 1) by decide +kernel) 0 rfl ?_
        refine V_iload_n 103 rfl (show decode M_Model_worthOf.2.1 102 = .ok (.iload_n 2, 1) by decide +kernel) 2 rfl ?_
        refine V_callV (tb := tI) (as := [vI x2_2]) (rest := []) (na := 1) 106 rfl ck_Model (by decide) (s_Model_worked h0 x2_2 (((((((((b && cK σ h0 13) && cA σ (SR σ h0 0) 21 (7 : Int32)) && cK σ h0 13) && cK σ h0 13) && cA σ (SR σ h0 0) 21 ((440 : Int32) + ((2 : Int32) * x1))) && cA σ (SR σ h0 19) 21 (100 : Int32)) && cK σ_7 h0 13) && cA σ_7 (SR σ_7 h0 19) 21 (112 : Int32)) && cK σ_8 h0 13) σ_8) rfl rfl (Nat.le_of_ble_eq_true rfl) (cal_Model_worked _ _ _ _ _ (by decide) (by decide) (by decide)) (show decode M_Model_worthOf.2.1 103 = .ok (.invokevirtual 287, 3) by decide +kernel) wd_1915 wd_1917 wd_154 (fun r_9 b_9 σ_9 => ?_)
        show V M_Model_worthOf 3 0 0 0 0 tI _ 106 [(0, vR h0), (1, vI x1), (2, vI x2_2), (3, vI x3), (4, vI x4)] [vI r_9] b_9 σ_9
        exact V_iret rfl (by decide) (by decide) (show decode M_Model_worthOf.2.1 106 = .ok (.ireturn, 1) by decide +kernel)
theorem cal_Model_worthOf (d mc ms k n : Nat) (h1 : 3 + 1 ≤ d) (h2 : k + 0 ≤ mc) (h3 : n + 0 ≤ ms) : Cal M_Model_worthOf 3 0 0 1 d mc ms k n := ⟨wd_1970, wd_181, by decide, h1, by decide, h2, h3⟩
abbrev M_Model_findGrant : MD := (⟨"LongTrailModel", "findGrant", "(I)I"⟩, prog_14_method_87_code, 8, (some FieldType.int))
def b_Model_findGrant_22 (h0 : Nat) (x1 : Int32) (x2 : Int32) (x3_3 : Int32) (L2 : Int32 → Bool → Sto → Rs Int32) (L22 : Int32 → Bool → Sto → Rs Int32) (x4 : Int32) (b : Bool) (σ : Sto) : Rs Int32 := (lt_ (fun (b : Bool) (σ : Sto) => (lt_ (pI σ (SR σ h0 22) (ix x4) x3_3) (fun (σ_5 : Sto) => (lt_ (pI σ_5 (SR σ_5 h0 23) (ix x4) x2) (fun (σ_6 : Sto) => (lt_ (pI σ_6 (SR σ_6 h0 24) (ix x2) (-1 : Int32)) (fun (σ_7 : Sto) => (lt_ (x2 + (1 : Int32)) (fun (x2_8 : Int32) => (L2 x2_8 ((((((b && cK σ h0 13) && cA σ (SR σ h0 22) 21 x4) && cK σ_5 h0 13) && cA σ_5 (SR σ_5 h0 23) 21 x4) && cK σ_6 h0 13) && cA σ_6 (SR σ_6 h0 24) 21 x2) σ_7)))))))))) (fun J78 => (if 0 < x4 then (if (SI σ (SR σ h0 22) (ix (x4 - (1 : Int32)))) < x3_3 then (lt_ (pI σ (SR σ h0 22) (ix x4) (SI σ (SR σ h0 22) (ix (x4 - (1 : Int32))))) (fun (σ_9 : Sto) => (lt_ (pI σ_9 (SR σ_9 h0 23) (ix x4) (SI σ_9 (SR σ_9 h0 23) (ix (x4 - (1 : Int32))))) (fun (σ_10 : Sto) => (lt_ (x4 + (-1 : Int32)) (fun (x4_11 : Int32) => (L22 x4_11 ((((((((((b && cK σ h0 13) && cA σ (SR σ h0 22) 21 (x4 - (1 : Int32))) && cK σ h0 13) && cK σ h0 13) && cA σ (SR σ h0 22) 21 (x4 - (1 : Int32))) && cA σ (SR σ h0 22) 21 x4) && cK σ_9 h0 13) && cK σ_9 h0 13) && cA σ_9 (SR σ_9 h0 23) 21 (x4 - (1 : Int32))) && cA σ_9 (SR σ_9 h0 23) 21 x4) σ_10))))))) else (J78 ((b && cK σ h0 13) && cA σ (SR σ h0 22) 21 (x4 - (1 : Int32))) σ)) else (J78 b σ))))
def b_Model_findGrant_149 (h0 : Nat) (x1 : Int32) (x2 : Int32) (x3 : Int32) (x4_14 : Int32) (x5_15 : Int32) (L111 : Int32 → Int32 → Bool → Sto → Rs Int32) (L149 : Int32 → Bool → Sto → Rs Int32) (x6 : Int32) (b : Bool) (σ : Sto) : Rs Int32 := (lt_ (fun (b : Bool) (σ : Sto) => (lt_ (fun (s0_251 : Int32) (s1_251 : Int32) (b : Bool) (σ : Sto) => (lt_ (s1_251 + s0_251) (fun (x2_17 : Int32) => (lt_ (x3 + (1 : Int32)) (fun (x3_18 : Int32) => (L111 x2_17 x3_18 b σ)))))) (fun J251 => (if (SI σ (SR σ h0 24) (ix x4_14)) < 0 then (J251 (0 : Int32) x2 ((b && cK σ h0 13) && cA σ (SR σ h0 24) 21 x4_14) σ) else (J251 (1 : Int32) x2 ((b && cK σ h0 13) && cA σ (SR σ h0 24) 21 x4_14) σ))))) (fun J235 => (if (x5_15 + (SI σ (SR σ h0 0) (ix (((440 : Int32) + ((2 : Int32) * x4_14)) + (1 : Int32))))) < x6 then (J235 ((b && cK σ h0 13) && cA σ (SR σ h0 0) 21 (((440 : Int32) + ((2 : Int32) * x4_14)) + (1 : Int32))) σ) else (if (SI σ (SR σ h0 24) (ix x4_14)) < 0 then (lt_ (fun (s0_203 : Int32) (b : Bool) (σ : Sto) => (lt_ s0_203 (fun (x7_19 : Int32) => (bd_ (f_Model_grantedOn h0 x6 ((b && cK σ h0 13) && cK σ h0 13) σ) (fun (r_20 : Int32) (b_20 : Bool) (σ_20 : Sto) => (lt_ (fun (s0_228 : Int32) (s1_228 : Int32) (s2_228 : Nat) (b : Bool) (σ : Sto) => (lt_ (pI σ s2_228 (ix s1_228) s0_228) (fun (σ_21 : Sto) => (lt_ (x6 + (1 : Int32)) (fun (x6_22 : Int32) => (L149 x6_22 (b && cA σ s2_228 21 s1_228) σ_21)))))) (fun J228 => (if r_20 < x7_19 then (J228 x6 x4_14 (SR σ h0 24) b_20 σ_20) else (J228 (-1 : Int32) x4_14 (SR σ h0 24) b_20 σ_20))))))))) (fun J203 => (if x1 < 0 then (J203 (SI σ (SR σ h0 0) (ix ((14 : Int32) + (x6 - x6 / (7 : Int32) * (7 : Int32))))) (((((((b && cK σ h0 13) && cA σ (SR σ h0 0) 21 (((440 : Int32) + ((2 : Int32) * x4_14)) + (1 : Int32))) && cK σ h0 13) && cA σ (SR σ h0 24) 21 x4_14) && cK σ h0 13) && !decide ((7 : Int32) = 0)) && cA σ (SR σ h0 0) 21 ((14 : Int32) + (x6 - x6 / (7 : Int32) * (7 : Int32)))) σ) else (J203 x1 ((((b && cK σ h0 13) && cA σ (SR σ h0 0) 21 (((440 : Int32) + ((2 : Int32) * x4_14)) + (1 : Int32))) && cK σ h0 13) && cA σ (SR σ h0 24) 21 x4_14) σ)))) else (J235 ((((b && cK σ h0 13) && cA σ (SR σ h0 0) 21 (((440 : Int32) + ((2 : Int32) * x4_14)) + (1 : Int32))) && cK σ h0 13) && cA σ (SR σ h0 24) 21 x4_14) σ)))))
def b_Model_findGrant_111 (h0 : Nat) (x1 : Int32) (L111 : Int32 → Int32 → Bool → Sto → Rs Int32) (x2 : Int32) (x3 : Int32) (b : Bool) (σ : Sto) : Rs Int32 := (if x3 < (SI σ (SR σ h0 0) (ix (7 : Int32))) then (lt_ (SI σ (SR σ h0 23) (ix x3)) (fun (x4_14 : Int32) => (lt_ (SI σ (SR σ h0 0) (ix ((440 : Int32) + ((2 : Int32) * x4_14)))) (fun (x5_15 : Int32) => (lt_ x5_15 (fun (x6_16 : Int32) => (lp_ (b_Model_findGrant_149 h0 x1 x2 x3 x4_14 x5_15 L111) (fun (x6 : Int32) (b : Bool) (σ : Sto) => (0, false, σ)) fuel_ x6_16 ((((((b && cK σ h0 13) && cA σ (SR σ h0 0) 21 (7 : Int32)) && cK σ h0 13) && cA σ (SR σ h0 23) 21 x3) && cK σ h0 13) && cA σ (SR σ h0 0) 21 ((440 : Int32) + ((2 : Int32) * x4_14))) σ))))))) else (x2, ((b && cK σ h0 13) && cA σ (SR σ h0 0) 21 (7 : Int32)), σ))
def b_Model_findGrant_2 (h0 : Nat) (x1 : Int32) (L2 : Int32 → Bool → Sto → Rs Int32) (x2 : Int32) (b : Bool) (σ : Sto) : Rs Int32 := (if x2 < (SI σ (SR σ h0 0) (ix (7 : Int32))) then (bd_ (f_Model_worthOf h0 x2 (((b && cK σ h0 13) && cA σ (SR σ h0 0) 21 (7 : Int32)) && cK σ h0 13) σ) (fun (r_2 : Int32) (b_2 : Bool) (σ_2 : Sto) => (lt_ r_2 (fun (x3_3 : Int32) => (lt_ x2 (fun (x4_4 : Int32) => (lp_ (b_Model_findGrant_22 h0 x1 x2 x3_3 L2) (fun (x4 : Int32) (b : Bool) (σ : Sto) => (0, false, σ)) fuel_ x4_4 b_2 σ_2))))))) else (lt_ (0 : Int32) (fun (x2_12 : Int32) => (lt_ (0 : Int32) (fun (x3_13 : Int32) => (lp_ (b_Model_findGrant_111 h0 x1) (fun (x2 : Int32) (x3 : Int32) (b : Bool) (σ : Sto) => (0, false, σ)) fuel_ x2_12 x3_13 ((b && cK σ h0 13) && cA σ (SR σ h0 0) 21 (7 : Int32)) σ))))))
def f_Model_findGrant (h0 : Nat) (x1 : Int32) (b : Bool) (σ : Sto) : Rs Int32 := (lt_ (0 : Int32) (fun (x2_1 : Int32) => (lp_ (b_Model_findGrant_2 h0 x1) (fun (x2 : Int32) (b : Bool) (σ : Sto) => (0, false, σ)) fuel_ x2_1 b σ)))
set_option maxRecDepth 100000 in
set_option maxHeartbeats 4000000 in
theorem s_Model_findGrant : ∀ (h0 : Nat) (x1 : Int32) (b : Bool) (σ : Sto), Snd M_Model_findGrant 4 0 0 [vR h0, vI x1] b σ (tI (f_Model_findGrant h0 x1 b σ).1) (f_Model_findGrant h0 x1 b σ).2.1 (f_Model_findGrant h0 x1 b σ).2.2 := by
  intro h0 x1 b σ
  refine Snd_of (tv := tI) (by decide) (Nat.le_of_ble_eq_true rfl) ?_
  show V M_Model_findGrant 4 0 0 0 0 tI (f_Model_findGrant h0 x1 b σ) 0 [(0, vR h0), (1, vI x1)] [] b σ
  unfold f_Model_findGrant
  refine V_iconst 1 rfl (show decode M_Model_findGrant.2.1 0 = .ok (.iconst 0, 1) by decide +kernel) (v := 0) rfl ?_
  refine V_istore_n (fun x2_1 => [(2, vI x2_1), (0, vR h0), (1, vI x1)]) 2 rfl (show decode M_Model_findGrant.2.1 1 = .ok (.istore_n 2, 1) by decide +kernel) (by decide) (fun _ => rfl) (fun x2_1 => ?_)
  refine V_sub [1, 2, 0] rfl ?_
  refine lp_P (fun (L2 : Int32 → Bool → Sto → Rs Int32) => ∀ (x2 : Int32) (b : Bool) (σ : Sto), V M_Model_findGrant 4 0 0 0 0 tI (L2 x2 b σ) 2 [(0, vR h0), (1, vI x1), (2, vI x2)] [] b σ) ?_ ?_ fuel_ x2_1 b σ
  · intro x2 b σ; exact V_bad
  · intro L2 hL2 x2 b σ
    unfold b_Model_findGrant_2
    refine V_iload_n 3 rfl (show decode M_Model_findGrant.2.1 2 = .ok (.iload_n 2, 1) by decide +kernel) 2 rfl ?_
    refine V_aload_n 4 rfl (show decode M_Model_findGrant.2.1 3 = .ok (.aload_n 0, 1) by decide +kernel) 0 rfl ?_
    refine V_get (j := 0) (v := vR (SR σ h0 0)) 7 rfl ck_Model (by decide) (by decide) (show decode M_Model_findGrant.2.1 4 = .ok (.getfield 7, 3) by decide +kernel) wd_1504 rfl ?_
    refine V_bipush 9 rfl (show decode M_Model_findGrant.2.1 7 = .ok (.bipush 7, 2) by decide +kernel) (v := 7) rfl ?_
    refine V_ald_int 10 rfl (show decode M_Model_findGrant.2.1 9 = .ok (.iaload, 1) by decide +kernel) ?_
    refine V_icmpge 13 107 rfl (show decode M_Model_findGrant.2.1 10 = .ok (.if_icmp .ge 97, 3) by decide +kernel) rfl ?_ ?_
    · skip
      refine V_aload_n 14 rfl (show decode M_Model_findGrant.2.1 13 = .ok (.aload_n 0, 1) by decide +kernel) 0 rfl ?_
      refine V_iload_n 15 rfl (show decode M_Model_findGrant.2.1 14 = .ok (.iload_n 2, 1) by decide +kernel) 2 rfl ?_
      refine V_callV (tb := tI) (as := [vI x2]) (rest := []) (na := 1) 18 rfl ck_Model (by decide) (s_Model_worthOf h0 x2 (((b && cK σ h0 13) && cA σ (SR σ h0 0) 21 (7 : Int32)) && cK σ h0 13) σ) rfl rfl (Nat.le_of_ble_eq_true rfl) (cal_Model_worthOf _ _ _ _ _ (by decide) (by decide) (by decide)) (show decode M_Model_findGrant.2.1 15 = .ok (.invokevirtual 333, 3) by decide +kernel) wd_1967 wd_1969 wd_162 (fun r_2 b_2 σ_2 => ?_)
      show V M_Model_findGrant 4 0 0 0 0 tI _ 18 [(0, vR h0), (1, vI x1), (2, vI x2)] [vI r_2] b_2 σ_2
      refine V_istore_n (fun x3_3 => [(3, vI x3_3), (0, vR h0), (1, vI x1), (2, vI x2)]) 19 rfl (show decode M_Model_findGrant.2.1 18 = .ok (.istore_n 3, 1) by decide +kernel) (by decide) (fun _ => rfl) (fun x3_3 => ?_)
      refine V_iload_n 20 rfl (show decode M_Model_findGrant.2.1 19 = .ok (.iload_n 2, 1) by decide +kernel) 3 rfl ?_
      refine V_istore (fun x4_4 => [(4, vI x4_4), (3, vI x3_3), (0, vR h0), (1, vI x1), (2, vI x2)]) 22 rfl (show decode M_Model_findGrant.2.1 20 = .ok (.istore 4, 2) by decide +kernel) (by decide) (fun _ => rfl) (fun x4_4 => ?_)
      refine V_sub [2, 3, 4, 1, 0] rfl ?_
      refine lp_P (fun (L22 : Int32 → Bool → Sto → Rs Int32) => ∀ (x4 : Int32) (b : Bool) (σ : Sto), V M_Model_findGrant 4 0 0 0 0 tI (L22 x4 b σ) 22 [(0, vR h0), (1, vI x1), (2, vI x2), (3, vI x3_3), (4, vI x4)] [] b σ) ?_ ?_ fuel_ x4_4 b_2 σ_2
      · intro x4 b σ; exact V_bad
      · intro L22 hL22 x4 b σ
        unfold b_Model_findGrant_22
        refine V_iload 24 rfl (show decode M_Model_findGrant.2.1 22 = .ok (.iload 4, 2) by decide +kernel) 4 rfl ?_
        refine V_jn (fun (J78 : Bool → Sto → Rs Int32) => ∀ (b : Bool) (σ : Sto), V M_Model_findGrant 4 0 0 0 0 tI (J78 b σ) 78 [(0, vR h0), (1, vI x1), (2, vI x2), (3, vI x3_3), (4, vI x4)] [] b σ) ?_ (fun J78 hJ78 => ?_)
        · intro b σ
          refine V_aload_n 79 rfl (show decode M_Model_findGrant.2.1 78 = .ok (.aload_n 0, 1) by decide +kernel) 0 rfl ?_
          refine V_get (j := 22) (v := vR (SR σ h0 22)) 82 rfl ck_Model (by decide) (by decide) (show decode M_Model_findGrant.2.1 79 = .ok (.getfield 38, 3) by decide +kernel) wd_1526 rfl ?_
          refine V_iload 84 rfl (show decode M_Model_findGrant.2.1 82 = .ok (.iload 4, 2) by decide +kernel) 4 rfl ?_
          refine V_iload_n 85 rfl (show decode M_Model_findGrant.2.1 84 = .ok (.iload_n 3, 1) by decide +kernel) 3 rfl ?_
          refine V_ast_int 86 rfl (show decode M_Model_findGrant.2.1 85 = .ok (.iastore, 1) by decide +kernel) (fun σ_5 => ?_)
          refine V_aload_n 87 rfl (show decode M_Model_findGrant.2.1 86 = .ok (.aload_n 0, 1) by decide +kernel) 0 rfl ?_
          refine V_get (j := 23) (v := vR (SR σ_5 h0 23)) 90 rfl ck_Model (by decide) (by decide) (show decode M_Model_findGrant.2.1 87 = .ok (.getfield 41, 3) by decide +kernel) wd_1527 rfl ?_
          refine V_iload 92 rfl (show decode M_Model_findGrant.2.1 90 = .ok (.iload 4, 2) by decide +kernel) 4 rfl ?_
          refine V_iload_n 93 rfl (show decode M_Model_findGrant.2.1 92 = .ok (.iload_n 2, 1) by decide +kernel) 2 rfl ?_
          refine V_ast_int 94 rfl (show decode M_Model_findGrant.2.1 93 = .ok (.iastore, 1) by decide +kernel) (fun σ_6 => ?_)
          refine V_aload_n 95 rfl (show decode M_Model_findGrant.2.1 94 = .ok (.aload_n 0, 1) by decide +kernel) 0 rfl ?_
          refine V_get (j := 24) (v := vR (SR σ_6 h0 24)) 98 rfl ck_Model (by decide) (by decide) (show decode M_Model_findGrant.2.1 95 = .ok (.getfield 44, 3) by decide +kernel) wd_1528 rfl ?_
          refine V_iload_n 99 rfl (show decode M_Model_findGrant.2.1 98 = .ok (.iload_n 2, 1) by decide +kernel) 2 rfl ?_
          refine V_iconst 100 rfl (show decode M_Model_findGrant.2.1 99 = .ok (.iconst (-1), 1) by decide +kernel) (v := -1) rfl ?_
          refine V_ast_int 101 rfl (show decode M_Model_findGrant.2.1 100 = .ok (.iastore, 1) by decide +kernel) (fun σ_7 => ?_)
          refine V_iinc (fun x2_8 => [(2, vI x2_8), (0, vR h0), (1, vI x1), (3, vI x3_3), (4, vI x4)]) 104 rfl (show decode M_Model_findGrant.2.1 101 = .ok (.iinc 2 1, 3) by decide +kernel) 2 rfl (w := 1) rfl (by decide) (fun _ => rfl) (fun x2_8 => ?_)
          refine V_goto 2 (show decode M_Model_findGrant.2.1 104 = .ok (.goto (-102), 3) by decide +kernel) rfl ?_
          exact V_sub [1, 2, 0] rfl (hL2 x2_8 ((((((b && cK σ h0 13) && cA σ (SR σ h0 22) 21 x4) && cK σ_5 h0 13) && cA σ_5 (SR σ_5 h0 23) 21 x4) && cK σ_6 h0 13) && cA σ_6 (SR σ_6 h0 24) 21 x2) σ_7)
        · skip
          refine V_ifle 27 78 rfl (show decode M_Model_findGrant.2.1 24 = .ok (.ifCond .le 54, 3) by decide +kernel) rfl ?_ ?_
          · skip
            refine V_aload_n 28 rfl (show decode M_Model_findGrant.2.1 27 = .ok (.aload_n 0, 1) by decide +kernel) 0 rfl ?_
            refine V_get (j := 22) (v := vR (SR σ h0 22)) 31 rfl ck_Model (by decide) (by decide) (show decode M_Model_findGrant.2.1 28 = .ok (.getfield 38, 3) by decide +kernel) wd_1526 rfl ?_
            refine V_iload 33 rfl (show decode M_Model_findGrant.2.1 31 = .ok (.iload 4, 2) by decide +kernel) 4 rfl ?_
            refine V_iconst 34 rfl (show decode M_Model_findGrant.2.1 33 = .ok (.iconst 1, 1) by decide +kernel) (v := 1) rfl ?_
            refine V_isub 35 rfl (show decode M_Model_findGrant.2.1 34 = .ok (.isub, 1) by decide +kernel) ?_
            refine V_ald_int 36 rfl (show decode M_Model_findGrant.2.1 35 = .ok (.iaload, 1) by decide +kernel) ?_
            refine V_iload_n 37 rfl (show decode M_Model_findGrant.2.1 36 = .ok (.iload_n 3, 1) by decide +kernel) 3 rfl ?_
            refine V_icmpge 40 78 rfl (show decode M_Model_findGrant.2.1 37 = .ok (.if_icmp .ge 41, 3) by decide +kernel) rfl ?_ ?_
            · skip
              refine V_aload_n 41 rfl (show decode M_Model_findGrant.2.1 40 = .ok (.aload_n 0, 1) by decide +kernel) 0 rfl ?_
              refine V_get (j := 22) (v := vR (SR σ h0 22)) 44 rfl ck_Model (by decide) (by decide) (show decode M_Model_findGrant.2.1 41 = .ok (.getfield 38, 3) by decide +kernel) wd_1526 rfl ?_
              refine V_iload 46 rfl (show decode M_Model_findGrant.2.1 44 = .ok (.iload 4, 2) by decide +kernel) 4 rfl ?_
              refine V_aload_n 47 rfl (show decode M_Model_findGrant.2.1 46 = .ok (.aload_n 0, 1) by decide +kernel) 0 rfl ?_
              refine V_get (j := 22) (v := vR (SR σ h0 22)) 50 rfl ck_Model (by decide) (by decide) (show decode M_Model_findGrant.2.1 47 = .ok (.getfield 38, 3) by decide +kernel) wd_1526 rfl ?_
              refine V_iload 52 rfl (show decode M_Model_findGrant.2.1 50 = .ok (.iload 4, 2) by decide +kernel) 4 rfl ?_
              refine V_iconst 53 rfl (show decode M_Model_findGrant.2.1 52 = .ok (.iconst 1, 1) by decide +kernel) (v := 1) rfl ?_
              refine V_isub 54 rfl (show decode M_Model_findGrant.2.1 53 = .ok (.isub, 1) by decide +kernel) ?_
              refine V_ald_int 55 rfl (show decode M_Model_findGrant.2.1 54 = .ok (.iaload, 1) by decide +kernel) ?_
              refine V_ast_int 56 rfl (show decode M_Model_findGrant.2.1 55 = .ok (.iastore, 1) by decide +kernel) (fun σ_9 => ?_)
              refine V_aload_n 57 rfl (show decode M_Model_findGrant.2.1 56 = .ok (.aload_n 0, 1) by decide +kernel) 0 rfl ?_
              refine V_get (j := 23) (v := vR (SR σ_9 h0 23)) 60 rfl ck_Model (by decide) (by decide) (show decode M_Model_findGrant.2.1 57 = .ok (.getfield 41, 3) by decide +kernel) wd_1527 rfl ?_
              refine V_iload 62 rfl (show decode M_Model_findGrant.2.1 60 = .ok (.iload 4, 2) by decide +kernel) 4 rfl ?_
              refine V_aload_n 63 rfl (show decode M_Model_findGrant.2.1 62 = .ok (.aload_n 0, 1) by decide +kernel) 0 rfl ?_
              refine V_get (j := 23) (v := vR (SR σ_9 h0 23)) 66 rfl ck_Model (by decide) (by decide) (show decode M_Model_findGrant.2.1 63 = .ok (.getfield 41, 3) by decide +kernel) wd_1527 rfl ?_
              refine V_iload 68 rfl (show decode M_Model_findGrant.2.1 66 = .ok (.iload 4, 2) by decide +kernel) 4 rfl ?_
              refine V_iconst 69 rfl (show decode M_Model_findGrant.2.1 68 = .ok (.iconst 1, 1) by decide +kernel) (v := 1) rfl ?_
              refine V_isub 70 rfl (show decode M_Model_findGrant.2.1 69 = .ok (.isub, 1) by decide +kernel) ?_
              refine V_ald_int 71 rfl (show decode M_Model_findGrant.2.1 70 = .ok (.iaload, 1) by decide +kernel) ?_
              refine V_ast_int 72 rfl (show decode M_Model_findGrant.2.1 71 = .ok (.iastore, 1) by decide +kernel) (fun σ_10 => ?_)
              refine V_iinc (fun x4_11 => [(4, vI x4_11), (0, vR h0), (1, vI x1), (2, vI x2), (3, vI x3_3)]) 75 rfl (show decode M_Model_findGrant.2.1 72 = .ok (.iinc 4 (-1), 3) by decide +kernel) 4 rfl (w := -1) rfl (by decide) (fun _ => rfl) (fun x4_11 => ?_)
              refine V_goto 22 (show decode M_Model_findGrant.2.1 75 = .ok (.goto (-53), 3) by decide +kernel) rfl ?_
              exact V_sub [1, 2, 3, 4, 0] rfl (hL22 x4_11 ((((((((((b && cK σ h0 13) && cA σ (SR σ h0 22) 21 (x4 - (1 : Int32))) && cK σ h0 13) && cK σ h0 13) && cA σ (SR σ h0 22) 21 (x4 - (1 : Int32))) && cA σ (SR σ h0 22) 21 x4) && cK σ_9 h0 13) && cK σ_9 h0 13) && cA σ_9 (SR σ_9 h0 23) 21 (x4 - (1 : Int32))) && cA σ_9 (SR σ_9 h0 23) 21 x4) σ_10)
            · skip
              exact V_sub [0, 1, 2, 3, 4] rfl (hJ78 ((b && cK σ h0 13) && cA σ (SR σ h0 22) 21 (x4 - (1 : Int32))) σ)
          · skip
            exact V_sub [0, 1, 2, 3, 4] rfl (hJ78 b σ)
    · skip
      refine V_iconst 108 rfl (show decode M_Model_findGrant.2.1 107 = .ok (.iconst 0, 1) by decide +kernel) (v := 0) rfl ?_
      refine V_istore_n (fun x2_12 => [(2, vI x2_12), (0, vR h0), (1, vI x1)]) 109 rfl (show decode M_Model_findGrant.2.1 108 = .ok (.istore_n 2, 1) by decide +kernel) (by decide) (fun _ => rfl) (fun x2_12 => ?_)
      refine V_iconst 110 rfl (show decode M_Model_findGrant.2.1 109 = .ok (.iconst 0, 1) by decide +kernel) (v := 0) rfl ?_
      refine V_istore_n (fun x3_13 => [(3, vI x3_13), (2, vI x2_12), (0, vR h0), (1, vI x1)]) 111 rfl (show decode M_Model_findGrant.2.1 110 = .ok (.istore_n 3, 1) by decide +kernel) (by decide) (fun _ => rfl) (fun x3_13 => ?_)
      refine V_sub [2, 3, 1, 0] rfl ?_
      refine lp_P (fun (L111 : Int32 → Int32 → Bool → Sto → Rs Int32) => ∀ (x2 : Int32) (x3 : Int32) (b : Bool) (σ : Sto), V M_Model_findGrant 4 0 0 0 0 tI (L111 x2 x3 b σ) 111 [(0, vR h0), (1, vI x1), (2, vI x2), (3, vI x3)] [] b σ) ?_ ?_ fuel_ x2_12 x3_13 ((b && cK σ h0 13) && cA σ (SR σ h0 0) 21 (7 : Int32)) σ
      · intro x2 x3 b σ; exact V_bad
      · intro L111 hL111 x2 x3 b σ
        unfold b_Model_findGrant_111
        refine V_iload_n 112 rfl (show decode M_Model_findGrant.2.1 111 = .ok (.iload_n 3, 1) by decide +kernel) 3 rfl ?_
        refine V_aload_n 113 rfl (show decode M_Model_findGrant.2.1 112 = .ok (.aload_n 0, 1) by decide +kernel) 0 rfl ?_
        refine V_get (j := 0) (v := vR (SR σ h0 0)) 116 rfl ck_Model (by decide) (by decide) (show decode M_Model_findGrant.2.1 113 = .ok (.getfield 7, 3) by decide +kernel) wd_1504 rfl ?_
        refine V_bipush 118 rfl (show decode M_Model_findGrant.2.1 116 = .ok (.bipush 7, 2) by decide +kernel) (v := 7) rfl ?_
        refine V_ald_int 119 rfl (show decode M_Model_findGrant.2.1 118 = .ok (.iaload, 1) by decide +kernel) ?_
        refine V_icmpge 122 259 rfl (show decode M_Model_findGrant.2.1 119 = .ok (.if_icmp .ge 140, 3) by decide +kernel) rfl ?_ ?_
        · skip
          refine V_aload_n 123 rfl (show decode M_Model_findGrant.2.1 122 = .ok (.aload_n 0, 1) by decide +kernel) 0 rfl ?_
          refine V_get (j := 23) (v := vR (SR σ h0 23)) 126 rfl ck_Model (by decide) (by decide) (show decode M_Model_findGrant.2.1 123 = .ok (.getfield 41, 3) by decide +kernel) wd_1527 rfl ?_
          refine V_iload_n 127 rfl (show decode M_Model_findGrant.2.1 126 = .ok (.iload_n 3, 1) by decide +kernel) 3 rfl ?_
          refine V_ald_int 128 rfl (show decode M_Model_findGrant.2.1 127 = .ok (.iaload, 1) by decide +kernel) ?_
          refine V_istore (fun x4_14 => [(4, vI x4_14), (0, vR h0), (1, vI x1), (2, vI x2), (3, vI x3)]) 130 rfl (show decode M_Model_findGrant.2.1 128 = .ok (.istore 4, 2) by decide +kernel) (by decide) (fun _ => rfl) (fun x4_14 => ?_)
          refine V_aload_n 131 rfl (show decode M_Model_findGrant.2.1 130 = .ok (.aload_n 0, 1) by decide +kernel) 1 rfl ?_
          refine V_get (j := 0) (v := vR (SR σ h0 0)) 134 rfl ck_Model (by decide) (by decide) (show decode M_Model_findGrant.2.1 131 = .ok (.getfield 7, 3) by decide +kernel) wd_1504 rfl ?_
          refine V_sipush 137 rfl (show decode M_Model_findGrant.2.1 134 = .ok (.sipush 440, 3) by decide +kernel) (v := 440) rfl ?_
          refine V_iconst 138 rfl (show decode M_Model_findGrant.2.1 137 = .ok (.iconst 2, 1) by decide +kernel) (v := 2) rfl ?_
          refine V_iload 140 rfl (show decode M_Model_findGrant.2.1 138 = .ok (.iload 4, 2) by decide +kernel) 0 rfl ?_
          refine V_imul 141 rfl (show decode M_Model_findGrant.2.1 140 = .ok (.imul, 1) by decide +kernel) ?_
          refine V_iadd 142 rfl (show decode M_Model_findGrant.2.1 141 = .ok (.iadd, 1) by decide +kernel) ?_
          refine V_ald_int 143 rfl (show decode M_Model_findGrant.2.1 142 = .ok (.iaload, 1) by decide +kernel) ?_
          refine V_istore (fun x5_15 => [(5, vI x5_15), (4, vI x4_14), (0, vR h0), (1, vI x1), (2, vI x2), (3, vI x3)]) 145 rfl (show decode M_Model_findGrant.2.1 143 = .ok (.istore 5, 2) by decide +kernel) (by decide) (fun _ => rfl) (fun x5_15 => ?_)
          refine V_iload 147 rfl (show decode M_Model_findGrant.2.1 145 = .ok (.iload 5, 2) by decide +kernel) 0 rfl ?_
          refine V_istore (fun x6_16 => [(6, vI x6_16), (5, vI x5_15), (4, vI x4_14), (0, vR h0), (1, vI x1), (2, vI x2), (3, vI x3)]) 149 rfl (show decode M_Model_findGrant.2.1 147 = .ok (.istore 6, 2) by decide +kernel) (by decide) (fun _ => rfl) (fun x6_16 => ?_)
          refine V_sub [3, 4, 5, 6, 2, 1, 0] rfl ?_
          refine lp_P (fun (L149 : Int32 → Bool → Sto → Rs Int32) => ∀ (x6 : Int32) (b : Bool) (σ : Sto), V M_Model_findGrant 4 0 0 0 0 tI (L149 x6 b σ) 149 [(0, vR h0), (1, vI x1), (2, vI x2), (3, vI x3), (4, vI x4_14), (5, vI x5_15), (6, vI x6)] [] b σ) ?_ ?_ fuel_ x6_16 ((((((b && cK σ h0 13) && cA σ (SR σ h0 0) 21 (7 : Int32)) && cK σ h0 13) && cA σ (SR σ h0 23) 21 x3) && cK σ h0 13) && cA σ (SR σ h0 0) 21 ((440 : Int32) + ((2 : Int32) * x4_14))) σ
          · intro x6 b σ; exact V_bad
          · intro L149 hL149 x6 b σ
            unfold b_Model_findGrant_149
            refine V_iload 151 rfl (show decode M_Model_findGrant.2.1 149 = .ok (.iload 6, 2) by decide +kernel) 6 rfl ?_
            refine V_iload 153 rfl (show decode M_Model_findGrant.2.1 151 = .ok (.iload 5, 2) by decide +kernel) 5 rfl ?_
            refine V_aload_n 154 rfl (show decode M_Model_findGrant.2.1 153 = .ok (.aload_n 0, 1) by decide +kernel) 0 rfl ?_
            refine V_get (j := 0) (v := vR (SR σ h0 0)) 157 rfl ck_Model (by decide) (by decide) (show decode M_Model_findGrant.2.1 154 = .ok (.getfield 7, 3) by decide +kernel) wd_1504 rfl ?_
            refine V_sipush 160 rfl (show decode M_Model_findGrant.2.1 157 = .ok (.sipush 440, 3) by decide +kernel) (v := 440) rfl ?_
            refine V_iconst 161 rfl (show decode M_Model_findGrant.2.1 160 = .ok (.iconst 2, 1) by decide +kernel) (v := 2) rfl ?_
            refine V_iload 163 rfl (show decode M_Model_findGrant.2.1 161 = .ok (.iload 4, 2) by decide +kernel) 4 rfl ?_
            refine V_imul 164 rfl (show decode M_Model_findGrant.2.1 163 = .ok (.imul, 1) by decide +kernel) ?_
            refine V_iadd 165 rfl (show decode M_Model_findGrant.2.1 164 = .ok (.iadd, 1) by decide +kernel) ?_
            refine V_iconst 166 rfl (show decode M_Model_findGrant.2.1 165 = .ok (.iconst 1, 1) by decide +kernel) (v := 1) rfl ?_
            refine V_iadd 167 rfl (show decode M_Model_findGrant.2.1 166 = .ok (.iadd, 1) by decide +kernel) ?_
            refine V_ald_int 168 rfl (show decode M_Model_findGrant.2.1 167 = .ok (.iaload, 1) by decide +kernel) ?_
            refine V_iadd 169 rfl (show decode M_Model_findGrant.2.1 168 = .ok (.iadd, 1) by decide +kernel) ?_
            refine V_jn (fun (J235 : Bool → Sto → Rs Int32) => ∀ (b : Bool) (σ : Sto), V M_Model_findGrant 4 0 0 0 0 tI (J235 b σ) 235 [(0, vR h0), (1, vI x1), (2, vI x2), (3, vI x3), (4, vI x4_14)] [] b σ) ?_ (fun J235 hJ235 => ?_)
            · intro b σ
              refine V_iload_n 236 rfl (show decode M_Model_findGrant.2.1 235 = .ok (.iload_n 2, 1) by decide +kernel) 2 rfl ?_
              refine V_aload_n 237 rfl (show decode M_Model_findGrant.2.1 236 = .ok (.aload_n 0, 1) by decide +kernel) 0 rfl ?_
              refine V_get (j := 24) (v := vR (SR σ h0 24)) 240 rfl ck_Model (by decide) (by decide) (show decode M_Model_findGrant.2.1 237 = .ok (.getfield 44, 3) by decide +kernel) wd_1528 rfl ?_
              refine V_iload 242 rfl (show decode M_Model_findGrant.2.1 240 = .ok (.iload 4, 2) by decide +kernel) 4 rfl ?_
              refine V_ald_int 243 rfl (show decode M_Model_findGrant.2.1 242 = .ok (.iaload, 1) by decide +kernel) ?_
              refine V_jn (fun (J251 : Int32 → Int32 → Bool → Sto → Rs Int32) => ∀ (s0_251 : Int32) (s1_251 : Int32) (b : Bool) (σ : Sto), V M_Model_findGrant 4 0 0 0 0 tI (J251 s0_251 s1_251 b σ) 251 [(0, vR h0), (1, vI x1), (3, vI x3)] [vI s0_251, vI s1_251] b σ) ?_ (fun J251 hJ251 => ?_)
              · intro s0_251 s1_251 b σ
                refine V_iadd 252 rfl (show decode M_Model_findGrant.2.1 251 = .ok (.iadd, 1) by decide +kernel) ?_
                refine V_istore_n (fun x2_17 => [(2, vI x2_17), (0, vR h0), (1, vI x1), (3, vI x3)]) 253 rfl (show decode M_Model_findGrant.2.1 252 = .ok (.istore_n 2, 1) by decide +kernel) (by decide) (fun _ => rfl) (fun x2_17 => ?_)
                refine V_iinc (fun x3_18 => [(3, vI x3_18), (2, vI x2_17), (0, vR h0), (1, vI x1)]) 256 rfl (show decode M_Model_findGrant.2.1 253 = .ok (.iinc 3 1, 3) by decide +kernel) 3 rfl (w := 1) rfl (by decide) (fun _ => rfl) (fun x3_18 => ?_)
                refine V_goto 111 (show decode M_Model_findGrant.2.1 256 = .ok (.goto (-145), 3) by decide +kernel) rfl ?_
                exact V_sub [2, 3, 1, 0] rfl (hL111 x2_17 x3_18 b σ)
              · skip
                refine V_ifge 246 250 rfl (show decode M_Model_findGrant.2.1 243 = .ok (.ifCond .ge 7, 3) by decide +kernel) rfl ?_ ?_
                · skip
                  refine V_iconst 247 rfl (show decode M_Model_findGrant.2.1 246 = .ok (.iconst 0, 1) by decide +kernel) (v := 0) rfl ?_
                  refine V_goto 251 (show decode M_Model_findGrant.2.1 247 = .ok (.goto 4, 3) by decide +kernel) rfl ?_
                  exact V_sub [0, 1, 3] rfl (hJ251 (0 : Int32) x2 ((b && cK σ h0 13) && cA σ (SR σ h0 24) 21 x4_14) σ)
                · skip
                  refine V_iconst 251 rfl (show decode M_Model_findGrant.2.1 250 = .ok (.iconst 1, 1) by decide +kernel) (v := 1) rfl ?_
                  exact V_sub [0, 1, 3] rfl (hJ251 (1 : Int32) x2 ((b && cK σ h0 13) && cA σ (SR σ h0 24) 21 x4_14) σ)
            · skip
              refine V_icmpgt 172 235 rfl (show decode M_Model_findGrant.2.1 169 = .ok (.if_icmp .gt 66, 3) by decide +kernel) rfl ?_ ?_
              · skip
                exact V_sub [0, 1, 2, 3, 4] rfl (hJ235 ((b && cK σ h0 13) && cA σ (SR σ h0 0) 21 (((440 : Int32) + ((2 : Int32) * x4_14)) + (1 : Int32))) σ)
              · skip
                refine V_aload_n 173 rfl (show decode M_Model_findGrant.2.1 172 = .ok (.aload_n 0, 1) by decide +kernel) 0 rfl ?_
                refine V_get (j := 24) (v := vR (SR σ h0 24)) 176 rfl ck_Model (by decide) (by decide) (show decode M_Model_findGrant.2.1 173 = .ok (.getfield 44, 3) by decide +kernel) wd_1528 rfl ?_
                refine V_iload 178 rfl (show decode M_Model_findGrant.2.1 176 = .ok (.iload 4, 2) by decide +kernel) 4 rfl ?_
                refine V_ald_int 179 rfl (show decode M_Model_findGrant.2.1 178 = .ok (.iaload, 1) by decide +kernel) ?_
                refine V_ifge 182 235 rfl (show decode M_Model_findGrant.2.1 179 = .ok (.ifCond .ge 56, 3) by decide +kernel) rfl ?_ ?_
                · skip
                  refine V_iload_n 183 rfl (show decode M_Model_findGrant.2.1 182 = .ok (.iload_n 1, 1) by decide +kernel) 1 rfl ?_
                  refine V_jn (fun (J203 : Int32 → Bool → Sto → Rs Int32) => ∀ (s0_203 : Int32) (b : Bool) (σ : Sto), V M_Model_findGrant 4 0 0 0 0 tI (J203 s0_203 b σ) 203 [(0, vR h0), (1, vI x1), (2, vI x2), (3, vI x3), (4, vI x4_14), (5, vI x5_15), (6, vI x6)] [vI s0_203] b σ) ?_ (fun J203 hJ203 => ?_)
                  · intro s0_203 b σ
                    refine V_istore (fun x7_19 => [(7, vI x7_19), (0, vR h0), (1, vI x1), (2, vI x2), (3, vI x3), (4, vI x4_14), (5, vI x5_15), (6, vI x6)]) 205 rfl (show decode M_Model_findGrant.2.1 203 = .ok (.istore 7, 2) by decide +kernel) (by decide) (fun _ => rfl) (fun x7_19 => ?_)
                    refine V_aload_n 206 rfl (show decode M_Model_findGrant.2.1 205 = .ok (.aload_n 0, 1) by decide +kernel) 1 rfl ?_
                    refine V_get (j := 24) (v := vR (SR σ h0 24)) 209 rfl ck_Model (by decide) (by decide) (show decode M_Model_findGrant.2.1 206 = .ok (.getfield 44, 3) by decide +kernel) wd_1528 rfl ?_
                    refine V_iload 211 rfl (show decode M_Model_findGrant.2.1 209 = .ok (.iload 4, 2) by decide +kernel) 5 rfl ?_
                    refine V_aload_n 212 rfl (show decode M_Model_findGrant.2.1 211 = .ok (.aload_n 0, 1) by decide +kernel) 1 rfl ?_
                    refine V_iload 214 rfl (show decode M_Model_findGrant.2.1 212 = .ok (.iload 6, 2) by decide +kernel) 7 rfl ?_
                    refine V_callV (tb := tI) (as := [vI x6]) (rest := [vI x4_14, vR (SR σ h0 24)]) (na := 1) 217 rfl ck_Model (by decide) (s_Model_grantedOn h0 x6 ((b && cK σ h0 13) && cK σ h0 13) σ) rfl rfl (Nat.le_of_ble_eq_true rfl) (cal_Model_grantedOn _ _ _ _ _ (by decide) (by decide) (by decide)) (show decode M_Model_findGrant.2.1 214 = .ok (.invokevirtual 336, 3) by decide +kernel) wd_1971 wd_1973 wd_163 (fun r_20 b_20 σ_20 => ?_)
                    show V M_Model_findGrant 4 0 0 0 0 tI _ 217 [(7, vI x7_19), (0, vR h0), (1, vI x1), (2, vI x2), (3, vI x3), (4, vI x4_14), (5, vI x5_15), (6, vI x6)] [vI r_20, vI x4_14, vR (SR σ h0 24)] b_20 σ_20
                    refine V_iload 219 rfl (show decode M_Model_findGrant.2.1 217 = .ok (.iload 7, 2) by decide +kernel) 0 rfl ?_
                    refine V_jn (fun (J228 : Int32 → Int32 → Nat → Bool → Sto → Rs Int32) => ∀ (s0_228 : Int32) (s1_228 : Int32) (s2_228 : Nat) (b : Bool) (σ : Sto), V M_Model_findGrant 4 0 0 0 0 tI (J228 s0_228 s1_228 s2_228 b σ) 228 [(0, vR h0), (1, vI x1), (2, vI x2), (3, vI x3), (4, vI x4_14), (5, vI x5_15), (6, vI x6)] [vI s0_228, vI s1_228, vR s2_228] b σ) ?_ (fun J228 hJ228 => ?_)
                    · intro s0_228 s1_228 s2_228 b σ
                      refine V_ast_int 229 rfl (show decode M_Model_findGrant.2.1 228 = .ok (.iastore, 1) by decide +kernel) (fun σ_21 => ?_)
                      refine V_iinc (fun x6_22 => [(6, vI x6_22), (0, vR h0), (1, vI x1), (2, vI x2), (3, vI x3), (4, vI x4_14), (5, vI x5_15)]) 232 rfl (show decode M_Model_findGrant.2.1 229 = .ok (.iinc 6 1, 3) by decide +kernel) 6 rfl (w := 1) rfl (by decide) (fun _ => rfl) (fun x6_22 => ?_)
                      refine V_goto 149 (show decode M_Model_findGrant.2.1 232 = .ok (.goto (-83), 3) by decide +kernel) rfl ?_
                      exact V_sub [1, 2, 3, 4, 5, 6, 0] rfl (hL149 x6_22 (b && cA σ s2_228 21 s1_228) σ_21)
                    · skip
                      refine V_icmpge 222 227 rfl (show decode M_Model_findGrant.2.1 219 = .ok (.if_icmp .ge 8, 3) by decide +kernel) rfl ?_ ?_
                      · skip
                        refine V_iload 224 rfl (show decode M_Model_findGrant.2.1 222 = .ok (.iload 6, 2) by decide +kernel) 7 rfl ?_
                        refine V_goto 228 (show decode M_Model_findGrant.2.1 224 = .ok (.goto 4, 3) by decide +kernel) rfl ?_
                        exact V_sub [1, 2, 3, 4, 5, 6, 7] rfl (hJ228 x6 x4_14 (SR σ h0 24) b_20 σ_20)
                      · skip
                        refine V_iconst 228 rfl (show decode M_Model_findGrant.2.1 227 = .ok (.iconst (-1), 1) by decide +kernel) (v := -1) rfl ?_
                        exact V_sub [1, 2, 3, 4, 5, 6, 7] rfl (hJ228 (-1 : Int32) x4_14 (SR σ h0 24) b_20 σ_20)
                  · skip
                    refine V_ifge 186 202 rfl (show decode M_Model_findGrant.2.1 183 = .ok (.ifCond .ge 19, 3) by decide +kernel) rfl ?_ ?_
                    · skip
                      refine V_aload_n 187 rfl (show decode M_Model_findGrant.2.1 186 = .ok (.aload_n 0, 1) by decide +kernel) 0 rfl ?_
                      refine V_get (j := 0) (v := vR (SR σ h0 0)) 190 rfl ck_Model (by decide) (by decide) (show decode M_Model_findGrant.2.1 187 = .ok (.getfield 7, 3) by decide +kernel) wd_1504 rfl ?_
                      refine V_bipush 192 rfl (show decode M_Model_findGrant.2.1 190 = .ok (.bipush 14, 2) by decide +kernel) (v := 14) rfl ?_
                      refine V_iload 194 rfl (show decode M_Model_findGrant.2.1 192 = .ok (.iload 6, 2) by decide +kernel) 6 rfl ?_
                      refine V_bipush 196 rfl (show decode M_Model_findGrant.2.1 194 = .ok (.bipush 7, 2) by decide +kernel) (v := 7) rfl ?_
                      refine V_irem 197 rfl (show decode M_Model_findGrant.2.1 196 = .ok (.irem, 1) by decide +kernel) ?_
                      refine V_iadd 198 rfl (show decode M_Model_findGrant.2.1 197 = .ok (.iadd, 1) by decide +kernel) ?_
                      refine V_ald_int 199 rfl (show decode M_Model_findGrant.2.1 198 = .ok (.iaload, 1) by decide +kernel) ?_
                      refine V_goto 203 (show decode M_Model_findGrant.2.1 199 = .ok (.goto 4, 3) by decide +kernel) rfl ?_
                      exact V_sub [0, 1, 2, 3, 4, 5, 6] rfl (hJ203 (SI σ (SR σ h0 0) (ix ((14 : Int32) + (x6 - x6 / (7 : Int32) * (7 : Int32))))) (((((((b && cK σ h0 13) && cA σ (SR σ h0 0) 21 (((440 : Int32) + ((2 : Int32) * x4_14)) + (1 : Int32))) && cK σ h0 13) && cA σ (SR σ h0 24) 21 x4_14) && cK σ h0 13) && !decide ((7 : Int32) = 0)) && cA σ (SR σ h0 0) 21 ((14 : Int32) + (x6 - x6 / (7 : Int32) * (7 : Int32)))) σ)
                    · skip
                      refine V_iload_n 203 rfl (show decode M_Model_findGrant.2.1 202 = .ok (.iload_n 1, 1) by decide +kernel) 1 rfl ?_
                      exact V_sub [0, 1, 2, 3, 4, 5, 6] rfl (hJ203 x1 ((((b && cK σ h0 13) && cA σ (SR σ h0 0) 21 (((440 : Int32) + ((2 : Int32) * x4_14)) + (1 : Int32))) && cK σ h0 13) && cA σ (SR σ h0 24) 21 x4_14) σ)
                · skip
                  exact V_sub [0, 1, 2, 3, 4] rfl (hJ235 ((((b && cK σ h0 13) && cA σ (SR σ h0 0) 21 (((440 : Int32) + ((2 : Int32) * x4_14)) + (1 : Int32))) && cK σ h0 13) && cA σ (SR σ h0 24) 21 x4_14) σ)
        · skip
          refine V_iload_n 260 rfl (show decode M_Model_findGrant.2.1 259 = .ok (.iload_n 2, 1) by decide +kernel) 2 rfl ?_
          exact V_iret rfl (by decide) (by decide) (show decode M_Model_findGrant.2.1 260 = .ok (.ireturn, 1) by decide +kernel)
theorem cal_Model_findGrant (d mc ms k n : Nat) (h1 : 4 + 1 ≤ d) (h2 : k + 0 ≤ mc) (h3 : n + 0 ≤ ms) : Cal M_Model_findGrant 4 0 0 1 d mc ms k n := ⟨wd_1966, wd_181, by decide, h1, by decide, h2, h3⟩
abbrev M_Model_follows : MD := (⟨"LongTrailModel", "follows", "(III)Z"⟩, prog_14_method_101_code, 6, (some FieldType.boolean))
def f_Model_follows (h0 : Nat) (x1 : Int32) (x2 : Int32) (x3 : Int32) (b : Bool) (σ : Sto) : Rs Int32 := (lt_ ((SI σ (SR σ h0 0) (ix ((520 : Int32) + ((2 : Int32) * x2)))) - (SI σ (SR σ h0 0) (ix ((520 : Int32) + ((2 : Int32) * x1))))) (fun (x4_1 : Int32) => (lt_ ((SI σ (SR σ h0 0) (ix (((520 : Int32) + ((2 : Int32) * x2)) + (1 : Int32)))) - (SI σ (SR σ h0 0) (ix (((520 : Int32) + ((2 : Int32) * x1)) + (1 : Int32))))) (fun (x5_2 : Int32) => (lt_ (fun (b : Bool) (σ : Sto) => ((0 : Int32), b, σ)) (fun J81 => (if 0 < x4_1 then (if x5_2 < 0 then (J81 ((((((((b && cK σ h0 13) && cA σ (SR σ h0 0) 21 ((520 : Int32) + ((2 : Int32) * x2))) && cK σ h0 13) && cA σ (SR σ h0 0) 21 ((520 : Int32) + ((2 : Int32) * x1))) && cK σ h0 13) && cA σ (SR σ h0 0) 21 (((520 : Int32) + ((2 : Int32) * x2)) + (1 : Int32))) && cK σ h0 13) && cA σ (SR σ h0 0) 21 (((520 : Int32) + ((2 : Int32) * x1)) + (1 : Int32))) σ) else (if (x3 * x4_1) < x5_2 then (J81 ((((((((b && cK σ h0 13) && cA σ (SR σ h0 0) 21 ((520 : Int32) + ((2 : Int32) * x2))) && cK σ h0 13) && cA σ (SR σ h0 0) 21 ((520 : Int32) + ((2 : Int32) * x1))) && cK σ h0 13) && cA σ (SR σ h0 0) 21 (((520 : Int32) + ((2 : Int32) * x2)) + (1 : Int32))) && cK σ h0 13) && cA σ (SR σ h0 0) 21 (((520 : Int32) + ((2 : Int32) * x1)) + (1 : Int32))) σ) else ((1 : Int32), ((((((((b && cK σ h0 13) && cA σ (SR σ h0 0) 21 ((520 : Int32) + ((2 : Int32) * x2))) && cK σ h0 13) && cA σ (SR σ h0 0) 21 ((520 : Int32) + ((2 : Int32) * x1))) && cK σ h0 13) && cA σ (SR σ h0 0) 21 (((520 : Int32) + ((2 : Int32) * x2)) + (1 : Int32))) && cK σ h0 13) && cA σ (SR σ h0 0) 21 (((520 : Int32) + ((2 : Int32) * x1)) + (1 : Int32))), σ))) else (J81 ((((((((b && cK σ h0 13) && cA σ (SR σ h0 0) 21 ((520 : Int32) + ((2 : Int32) * x2))) && cK σ h0 13) && cA σ (SR σ h0 0) 21 ((520 : Int32) + ((2 : Int32) * x1))) && cK σ h0 13) && cA σ (SR σ h0 0) 21 (((520 : Int32) + ((2 : Int32) * x2)) + (1 : Int32))) && cK σ h0 13) && cA σ (SR σ h0 0) 21 (((520 : Int32) + ((2 : Int32) * x1)) + (1 : Int32))) σ))))))))
set_option maxRecDepth 100000 in
set_option maxHeartbeats 4000000 in
theorem s_Model_follows : ∀ (h0 : Nat) (x1 : Int32) (x2 : Int32) (x3 : Int32) (b : Bool) (σ : Sto), Snd M_Model_follows 1 0 0 [vR h0, vI x1, vI x2, vI x3] b σ (tI (f_Model_follows h0 x1 x2 x3 b σ).1) (f_Model_follows h0 x1 x2 x3 b σ).2.1 (f_Model_follows h0 x1 x2 x3 b σ).2.2 := by
  intro h0 x1 x2 x3 b σ
  refine Snd_of (tv := tI) (by decide) (Nat.le_of_ble_eq_true rfl) ?_
  show V M_Model_follows 1 0 0 0 0 tI (f_Model_follows h0 x1 x2 x3 b σ) 0 [(0, vR h0), (1, vI x1), (2, vI x2), (3, vI x3)] [] b σ
  unfold f_Model_follows
  refine V_aload_n 1 rfl (show decode M_Model_follows.2.1 0 = .ok (.aload_n 0, 1) by decide +kernel) 0 rfl ?_
  refine V_get (j := 0) (v := vR (SR σ h0 0)) 4 rfl ck_Model (by decide) (by decide) (show decode M_Model_follows.2.1 1 = .ok (.getfield 7, 3) by decide +kernel) wd_1504 rfl ?_
  refine V_sipush 7 rfl (show decode M_Model_follows.2.1 4 = .ok (.sipush 520, 3) by decide +kernel) (v := 520) rfl ?_
  refine V_iconst 8 rfl (show decode M_Model_follows.2.1 7 = .ok (.iconst 2, 1) by decide +kernel) (v := 2) rfl ?_
  refine V_iload_n 9 rfl (show decode M_Model_follows.2.1 8 = .ok (.iload_n 2, 1) by decide +kernel) 2 rfl ?_
  refine V_imul 10 rfl (show decode M_Model_follows.2.1 9 = .ok (.imul, 1) by decide +kernel) ?_
  refine V_iadd 11 rfl (show decode M_Model_follows.2.1 10 = .ok (.iadd, 1) by decide +kernel) ?_
  refine V_ald_int 12 rfl (show decode M_Model_follows.2.1 11 = .ok (.iaload, 1) by decide +kernel) ?_
  refine V_aload_n 13 rfl (show decode M_Model_follows.2.1 12 = .ok (.aload_n 0, 1) by decide +kernel) 0 rfl ?_
  refine V_get (j := 0) (v := vR (SR σ h0 0)) 16 rfl ck_Model (by decide) (by decide) (show decode M_Model_follows.2.1 13 = .ok (.getfield 7, 3) by decide +kernel) wd_1504 rfl ?_
  refine V_sipush 19 rfl (show decode M_Model_follows.2.1 16 = .ok (.sipush 520, 3) by decide +kernel) (v := 520) rfl ?_
  refine V_iconst 20 rfl (show decode M_Model_follows.2.1 19 = .ok (.iconst 2, 1) by decide +kernel) (v := 2) rfl ?_
  refine V_iload_n 21 rfl (show decode M_Model_follows.2.1 20 = .ok (.iload_n 1, 1) by decide +kernel) 1 rfl ?_
  refine V_imul 22 rfl (show decode M_Model_follows.2.1 21 = .ok (.imul, 1) by decide +kernel) ?_
  refine V_iadd 23 rfl (show decode M_Model_follows.2.1 22 = .ok (.iadd, 1) by decide +kernel) ?_
  refine V_ald_int 24 rfl (show decode M_Model_follows.2.1 23 = .ok (.iaload, 1) by decide +kernel) ?_
  refine V_isub 25 rfl (show decode M_Model_follows.2.1 24 = .ok (.isub, 1) by decide +kernel) ?_
  refine V_istore (fun x4_1 => [(4, vI x4_1), (0, vR h0), (1, vI x1), (2, vI x2), (3, vI x3)]) 27 rfl (show decode M_Model_follows.2.1 25 = .ok (.istore 4, 2) by decide +kernel) (by decide) (fun _ => rfl) (fun x4_1 => ?_)
  refine V_aload_n 28 rfl (show decode M_Model_follows.2.1 27 = .ok (.aload_n 0, 1) by decide +kernel) 1 rfl ?_
  refine V_get (j := 0) (v := vR (SR σ h0 0)) 31 rfl ck_Model (by decide) (by decide) (show decode M_Model_follows.2.1 28 = .ok (.getfield 7, 3) by decide +kernel) wd_1504 rfl ?_
  refine V_sipush 34 rfl (show decode M_Model_follows.2.1 31 = .ok (.sipush 520, 3) by decide +kernel) (v := 520) rfl ?_
  refine V_iconst 35 rfl (show decode M_Model_follows.2.1 34 = .ok (.iconst 2, 1) by decide +kernel) (v := 2) rfl ?_
  refine V_iload_n 36 rfl (show decode M_Model_follows.2.1 35 = .ok (.iload_n 2, 1) by decide +kernel) 3 rfl ?_
  refine V_imul 37 rfl (show decode M_Model_follows.2.1 36 = .ok (.imul, 1) by decide +kernel) ?_
  refine V_iadd 38 rfl (show decode M_Model_follows.2.1 37 = .ok (.iadd, 1) by decide +kernel) ?_
  refine V_iconst 39 rfl (show decode M_Model_follows.2.1 38 = .ok (.iconst 1, 1) by decide +kernel) (v := 1) rfl ?_
  refine V_iadd 40 rfl (show decode M_Model_follows.2.1 39 = .ok (.iadd, 1) by decide +kernel) ?_
  refine V_ald_int 41 rfl (show decode M_Model_follows.2.1 40 = .ok (.iaload, 1) by decide +kernel) ?_
  refine V_aload_n 42 rfl (show decode M_Model_follows.2.1 41 = .ok (.aload_n 0, 1) by decide +kernel) 1 rfl ?_
  refine V_get (j := 0) (v := vR (SR σ h0 0)) 45 rfl ck_Model (by decide) (by decide) (show decode M_Model_follows.2.1 42 = .ok (.getfield 7, 3) by decide +kernel) wd_1504 rfl ?_
  refine V_sipush 48 rfl (show decode M_Model_follows.2.1 45 = .ok (.sipush 520, 3) by decide +kernel) (v := 520) rfl ?_
  refine V_iconst 49 rfl (show decode M_Model_follows.2.1 48 = .ok (.iconst 2, 1) by decide +kernel) (v := 2) rfl ?_
  refine V_iload_n 50 rfl (show decode M_Model_follows.2.1 49 = .ok (.iload_n 1, 1) by decide +kernel) 2 rfl ?_
  refine V_imul 51 rfl (show decode M_Model_follows.2.1 50 = .ok (.imul, 1) by decide +kernel) ?_
  refine V_iadd 52 rfl (show decode M_Model_follows.2.1 51 = .ok (.iadd, 1) by decide +kernel) ?_
  refine V_iconst 53 rfl (show decode M_Model_follows.2.1 52 = .ok (.iconst 1, 1) by decide +kernel) (v := 1) rfl ?_
  refine V_iadd 54 rfl (show decode M_Model_follows.2.1 53 = .ok (.iadd, 1) by decide +kernel) ?_
  refine V_ald_int 55 rfl (show decode M_Model_follows.2.1 54 = .ok (.iaload, 1) by decide +kernel) ?_
  refine V_isub 56 rfl (show decode M_Model_follows.2.1 55 = .ok (.isub, 1) by decide +kernel) ?_
  refine V_istore (fun x5_2 => [(5, vI x5_2), (4, vI x4_1), (0, vR h0), (1, vI x1), (2, vI x2), (3, vI x3)]) 58 rfl (show decode M_Model_follows.2.1 56 = .ok (.istore 5, 2) by decide +kernel) (by decide) (fun _ => rfl) (fun x5_2 => ?_)
  refine V_iload 60 rfl (show decode M_Model_follows.2.1 58 = .ok (.iload 4, 2) by decide +kernel) 1 rfl ?_
  refine V_jn (fun (J81 : Bool → Sto → Rs Int32) => ∀ (b : Bool) (σ : Sto), V M_Model_follows 1 0 0 0 0 tI (J81 b σ) 81 [] [] b σ) ?_ (fun J81 hJ81 => ?_)
  · intro b σ
    refine V_iconst 82 rfl (show decode M_Model_follows.2.1 81 = .ok (.iconst 0, 1) by decide +kernel) (v := 0) rfl ?_
    exact V_zret rfl (by decide) (by decide) rfl (show decode M_Model_follows.2.1 82 = .ok (.ireturn, 1) by decide +kernel)
  · skip
    refine V_ifle 63 81 rfl (show decode M_Model_follows.2.1 60 = .ok (.ifCond .le 21, 3) by decide +kernel) rfl ?_ ?_
    · skip
      refine V_iload 65 rfl (show decode M_Model_follows.2.1 63 = .ok (.iload 5, 2) by decide +kernel) 0 rfl ?_
      refine V_iflt 68 81 rfl (show decode M_Model_follows.2.1 65 = .ok (.ifCond .lt 16, 3) by decide +kernel) rfl ?_ ?_
      · skip
        exact V_sub [] rfl (hJ81 ((((((((b && cK σ h0 13) && cA σ (SR σ h0 0) 21 ((520 : Int32) + ((2 : Int32) * x2))) && cK σ h0 13) && cA σ (SR σ h0 0) 21 ((520 : Int32) + ((2 : Int32) * x1))) && cK σ h0 13) && cA σ (SR σ h0 0) 21 (((520 : Int32) + ((2 : Int32) * x2)) + (1 : Int32))) && cK σ h0 13) && cA σ (SR σ h0 0) 21 (((520 : Int32) + ((2 : Int32) * x1)) + (1 : Int32))) σ)
      · skip
        refine V_iload 70 rfl (show decode M_Model_follows.2.1 68 = .ok (.iload 5, 2) by decide +kernel) 0 rfl ?_
        refine V_iload_n 71 rfl (show decode M_Model_follows.2.1 70 = .ok (.iload_n 3, 1) by decide +kernel) 5 rfl ?_
        refine V_iload 73 rfl (show decode M_Model_follows.2.1 71 = .ok (.iload 4, 2) by decide +kernel) 1 rfl ?_
        refine V_imul 74 rfl (show decode M_Model_follows.2.1 73 = .ok (.imul, 1) by decide +kernel) ?_
        refine V_icmpgt 77 81 rfl (show decode M_Model_follows.2.1 74 = .ok (.if_icmp .gt 7, 3) by decide +kernel) rfl ?_ ?_
        · skip
          exact V_sub [] rfl (hJ81 ((((((((b && cK σ h0 13) && cA σ (SR σ h0 0) 21 ((520 : Int32) + ((2 : Int32) * x2))) && cK σ h0 13) && cA σ (SR σ h0 0) 21 ((520 : Int32) + ((2 : Int32) * x1))) && cK σ h0 13) && cA σ (SR σ h0 0) 21 (((520 : Int32) + ((2 : Int32) * x2)) + (1 : Int32))) && cK σ h0 13) && cA σ (SR σ h0 0) 21 (((520 : Int32) + ((2 : Int32) * x1)) + (1 : Int32))) σ)
        · skip
          refine V_iconst 78 rfl (show decode M_Model_follows.2.1 77 = .ok (.iconst 1, 1) by decide +kernel) (v := 1) rfl ?_
          refine V_goto 82 (show decode M_Model_follows.2.1 78 = .ok (.goto 4, 3) by decide +kernel) rfl ?_
          exact V_zret rfl (by decide) (by decide) rfl (show decode M_Model_follows.2.1 82 = .ok (.ireturn, 1) by decide +kernel)
    · skip
      exact V_sub [] rfl (hJ81 ((((((((b && cK σ h0 13) && cA σ (SR σ h0 0) 21 ((520 : Int32) + ((2 : Int32) * x2))) && cK σ h0 13) && cA σ (SR σ h0 0) 21 ((520 : Int32) + ((2 : Int32) * x1))) && cK σ h0 13) && cA σ (SR σ h0 0) 21 (((520 : Int32) + ((2 : Int32) * x2)) + (1 : Int32))) && cK σ h0 13) && cA σ (SR σ h0 0) 21 (((520 : Int32) + ((2 : Int32) * x1)) + (1 : Int32))) σ)
theorem cal_Model_follows (d mc ms k n : Nat) (h1 : 1 + 1 ≤ d) (h2 : k + 0 ≤ mc) (h3 : n + 0 ≤ ms) : Cal M_Model_follows 1 0 0 3 d mc ms k n := ⟨wd_2034, wd_181, by decide, h1, by decide, h2, h3⟩
abbrev M_Model_findRows : MD := (⟨"LongTrailModel", "findRows", "(I)V"⟩, prog_14_method_102_code, 6, (none : Option FieldType))
def b_Model_findRows_150 (h0 : Nat) (x1 : Int32) (x2 : Int32) (x3 : Int32) (L23 : Int32 → Bool → Sto → Rs Unit) (L150 : Int32 → Bool → Sto → Rs Unit) (x4 : Int32) (b : Bool) (σ : Sto) : Rs Unit := (if x4 < (SI σ (SR σ h0 0) (ix (9 : Int32))) then (lt_ (fun (s0_188 : Int32) (b : Bool) (σ : Sto) => (lt_ s0_188 (fun (x5_14 : Int32) => (lt_ (fun (b : Bool) (σ : Sto) => (lt_ (x4 + (1 : Int32)) (fun (x4_15 : Int32) => (L150 x4_15 b σ)))) (fun J283 => (if x5_14 = 0 then (J283 b σ) else (lt_ (fun (b : Bool) (σ : Sto) => (lt_ (pI σ (SR σ h0 27) (ix x3) ((SI σ (SR σ h0 27) (ix x4)) + (1 : Int32))) (fun (σ_16 : Sto) => (lt_ (pI σ_16 (SR σ_16 h0 28) (ix x3) (SI σ_16 (SR σ_16 h0 28) (ix x4))) (fun (σ_17 : Sto) => (lt_ (pI σ_17 (SR σ_17 h0 29) (ix x3) x4) (fun (σ_18 : Sto) => (J283 ((((((((((b && cK σ h0 13) && cK σ h0 13) && cA σ (SR σ h0 27) 21 x4) && cA σ (SR σ h0 27) 21 x3) && cK σ_16 h0 13) && cK σ_16 h0 13) && cA σ_16 (SR σ_16 h0 28) 21 x4) && cA σ_16 (SR σ_16 h0 28) 21 x3) && cK σ_17 h0 13) && cA σ_17 (SR σ_17 h0 29) 21 x3) σ_18)))))))) (fun J247 => (if (SI σ (SR σ h0 27) (ix x3)) < ((SI σ (SR σ h0 27) (ix x4)) + (1 : Int32)) then (J247 ((((b && cK σ h0 13) && cA σ (SR σ h0 27) 21 x4) && cK σ h0 13) && cA σ (SR σ h0 27) 21 x3) σ) else (if ((SI σ (SR σ h0 27) (ix x4)) + (1 : Int32)) = (SI σ (SR σ h0 27) (ix x3)) then (if (SI σ (SR σ h0 28) (ix x3)) < (SI σ (SR σ h0 28) (ix x4)) then (J247 ((((((((((((b && cK σ h0 13) && cA σ (SR σ h0 27) 21 x4) && cK σ h0 13) && cA σ (SR σ h0 27) 21 x3) && cK σ h0 13) && cA σ (SR σ h0 27) 21 x4) && cK σ h0 13) && cA σ (SR σ h0 27) 21 x3) && cK σ h0 13) && cA σ (SR σ h0 28) 21 x4) && cK σ h0 13) && cA σ (SR σ h0 28) 21 x3) σ) else (J283 ((((((((((((b && cK σ h0 13) && cA σ (SR σ h0 27) 21 x4) && cK σ h0 13) && cA σ (SR σ h0 27) 21 x3) && cK σ h0 13) && cA σ (SR σ h0 27) 21 x4) && cK σ h0 13) && cA σ (SR σ h0 27) 21 x3) && cK σ h0 13) && cA σ (SR σ h0 28) 21 x4) && cK σ h0 13) && cA σ (SR σ h0 28) 21 x3) σ)) else (J283 ((((((((b && cK σ h0 13) && cA σ (SR σ h0 27) 21 x4) && cK σ h0 13) && cA σ (SR σ h0 27) 21 x3) && cK σ h0 13) && cA σ (SR σ h0 27) 21 x4) && cK σ h0 13) && cA σ (SR σ h0 27) 21 x3) σ))))))))))) (fun J188 => (lt_ (fun (b : Bool) (σ : Sto) => (J188 (0 : Int32) b σ)) (fun J187 => (if (SI σ (SR σ h0 30) (ix x4)) = 0 then (J187 ((((b && cK σ h0 13) && cA σ (SR σ h0 0) 21 (9 : Int32)) && cK σ h0 13) && cA σ (SR σ h0 30) 24 x4) σ) else (bd_ (f_Model_follows h0 x3 x4 x1 (((((b && cK σ h0 13) && cA σ (SR σ h0 0) 21 (9 : Int32)) && cK σ h0 13) && cA σ (SR σ h0 30) 24 x4) && cK σ h0 13) σ) (fun (r_19 : Int32) (b_19 : Bool) (σ_19 : Sto) => (if r_19 = 0 then (J187 b_19 σ_19) else (J188 (1 : Int32) b_19 σ_19))))))))) else (lt_ (x2 + (1 : Int32)) (fun (x2_20 : Int32) => (L23 x2_20 ((b && cK σ h0 13) && cA σ (SR σ h0 0) 21 (9 : Int32)) σ))))
def b_Model_findRows_39 (h0 : Nat) (x1 : Int32) (x2 : Int32) (L23 : Int32 → Bool → Sto → Rs Unit) (L39 : Int32 → Int32 → Bool → Sto → Rs Unit) (x3 : Int32) (x4 : Int32) (b : Bool) (σ : Sto) : Rs Unit := (if x4 < (SI σ (SR σ h0 0) (ix (9 : Int32))) then (lt_ (fun (s0_99 : Int32) (b : Bool) (σ : Sto) => (lt_ s0_99 (fun (x3_7 : Int32) => (lt_ (x4 + (1 : Int32)) (fun (x4_8 : Int32) => (L39 x3_7 x4_8 b σ)))))) (fun J99 => (lt_ (fun (b : Bool) (σ : Sto) => (J99 x3 b σ)) (fun J98 => (if (SI σ (SR σ h0 30) (ix x4)) = 0 then (lt_ (fun (b : Bool) (σ : Sto) => (J99 x4 b σ)) (fun J93 => (if x3 < 0 then (J93 ((((b && cK σ h0 13) && cA σ (SR σ h0 0) 21 (9 : Int32)) && cK σ h0 13) && cA σ (SR σ h0 30) 24 x4) σ) else (if (SI σ (SR σ h0 0) (ix ((520 : Int32) + ((2 : Int32) * x3)))) < (SI σ (SR σ h0 0) (ix ((520 : Int32) + ((2 : Int32) * x4)))) then (J93 ((((((((b && cK σ h0 13) && cA σ (SR σ h0 0) 21 (9 : Int32)) && cK σ h0 13) && cA σ (SR σ h0 30) 24 x4) && cK σ h0 13) && cA σ (SR σ h0 0) 21 ((520 : Int32) + ((2 : Int32) * x4))) && cK σ h0 13) && cA σ (SR σ h0 0) 21 ((520 : Int32) + ((2 : Int32) * x3))) σ) else (J98 ((((((((b && cK σ h0 13) && cA σ (SR σ h0 0) 21 (9 : Int32)) && cK σ h0 13) && cA σ (SR σ h0 30) 24 x4) && cK σ h0 13) && cA σ (SR σ h0 0) 21 ((520 : Int32) + ((2 : Int32) * x4))) && cK σ h0 13) && cA σ (SR σ h0 0) 21 ((520 : Int32) + ((2 : Int32) * x3))) σ))))) else (J98 ((((b && cK σ h0 13) && cA σ (SR σ h0 0) 21 (9 : Int32)) && cK σ h0 13) && cA σ (SR σ h0 30) 24 x4) σ)))))) else (lt_ (pI σ (SR σ h0 30) (ix x3) ((1 : Int32) &&& 1)) (fun (σ_9 : Sto) => (lt_ (pI σ_9 (SR σ_9 h0 27) (ix x3) (1 : Int32)) (fun (σ_10 : Sto) => (lt_ (pI σ_10 (SR σ_10 h0 28) (ix x3) (SI σ_10 (SR σ_10 h0 0) (ix (((520 : Int32) + ((2 : Int32) * x3)) + (1 : Int32))))) (fun (σ_11 : Sto) => (lt_ (pI σ_11 (SR σ_11 h0 29) (ix x3) (-1 : Int32)) (fun (σ_12 : Sto) => (lt_ (0 : Int32) (fun (x4_13 : Int32) => (lp_ (b_Model_findRows_150 h0 x1 x2 x3 L23) (fun (x4 : Int32) (b : Bool) (σ : Sto) => ((), false, σ)) fuel_ x4_13 ((((((((((((b && cK σ h0 13) && cA σ (SR σ h0 0) 21 (9 : Int32)) && cK σ h0 13) && cA σ (SR σ h0 30) 24 x3) && cK σ_9 h0 13) && cA σ_9 (SR σ_9 h0 27) 21 x3) && cK σ_10 h0 13) && cK σ_10 h0 13) && cA σ_10 (SR σ_10 h0 0) 21 (((520 : Int32) + ((2 : Int32) * x3)) + (1 : Int32))) && cA σ_10 (SR σ_10 h0 28) 21 x3) && cK σ_11 h0 13) && cA σ_11 (SR σ_11 h0 29) 21 x3) σ_12))))))))))))
def b_Model_findRows_23 (h0 : Nat) (x1 : Int32) (L23 : Int32 → Bool → Sto → Rs Unit) (x2 : Int32) (b : Bool) (σ : Sto) : Rs Unit := (if x2 < (SI σ (SR σ h0 0) (ix (9 : Int32))) then (lt_ (-1 : Int32) (fun (x3_5 : Int32) => (lt_ (0 : Int32) (fun (x4_6 : Int32) => (lp_ (b_Model_findRows_39 h0 x1 x2 L23) (fun (x3 : Int32) (x4 : Int32) (b : Bool) (σ : Sto) => ((), false, σ)) fuel_ x3_5 x4_6 ((b && cK σ h0 13) && cA σ (SR σ h0 0) 21 (9 : Int32)) σ))))) else ((), ((b && cK σ h0 13) && cA σ (SR σ h0 0) 21 (9 : Int32)), σ))
def b_Model_findRows_2 (h0 : Nat) (x1 : Int32) (L2 : Int32 → Bool → Sto → Rs Unit) (x2 : Int32) (b : Bool) (σ : Sto) : Rs Unit := (if x2 < (20 : Int32) then (lt_ (pI σ (SR σ h0 30) (ix x2) ((0 : Int32) &&& 1)) (fun (σ_2 : Sto) => (lt_ (x2 + (1 : Int32)) (fun (x2_3 : Int32) => (L2 x2_3 ((b && cK σ h0 13) && cA σ (SR σ h0 30) 24 x2) σ_2))))) else (lt_ (0 : Int32) (fun (x2_4 : Int32) => (lp_ (b_Model_findRows_23 h0 x1) (fun (x2 : Int32) (b : Bool) (σ : Sto) => ((), false, σ)) fuel_ x2_4 b σ))))
def f_Model_findRows (h0 : Nat) (x1 : Int32) (b : Bool) (σ : Sto) : Rs Unit := (lt_ (0 : Int32) (fun (x2_1 : Int32) => (lp_ (b_Model_findRows_2 h0 x1) (fun (x2 : Int32) (b : Bool) (σ : Sto) => ((), false, σ)) fuel_ x2_1 b σ)))
set_option maxRecDepth 100000 in
set_option maxHeartbeats 4000000 in
theorem s_Model_findRows : ∀ (h0 : Nat) (x1 : Int32) (b : Bool) (σ : Sto), Snd M_Model_findRows 2 0 0 [vR h0, vI x1] b σ (tU (f_Model_findRows h0 x1 b σ).1) (f_Model_findRows h0 x1 b σ).2.1 (f_Model_findRows h0 x1 b σ).2.2 := by
  intro h0 x1 b σ
  refine Snd_of (tv := tU) (by decide) (Nat.le_of_ble_eq_true rfl) ?_
  show V M_Model_findRows 2 0 0 0 0 tU (f_Model_findRows h0 x1 b σ) 0 [(0, vR h0), (1, vI x1)] [] b σ
  unfold f_Model_findRows
  refine V_iconst 1 rfl (show decode M_Model_findRows.2.1 0 = .ok (.iconst 0, 1) by decide +kernel) (v := 0) rfl ?_
  refine V_istore_n (fun x2_1 => [(2, vI x2_1), (0, vR h0), (1, vI x1)]) 2 rfl (show decode M_Model_findRows.2.1 1 = .ok (.istore_n 2, 1) by decide +kernel) (by decide) (fun _ => rfl) (fun x2_1 => ?_)
  refine V_sub [1, 2, 0] rfl ?_
  refine lp_P (fun (L2 : Int32 → Bool → Sto → Rs Unit) => ∀ (x2 : Int32) (b : Bool) (σ : Sto), V M_Model_findRows 2 0 0 0 0 tU (L2 x2 b σ) 2 [(0, vR h0), (1, vI x1), (2, vI x2)] [] b σ) ?_ ?_ fuel_ x2_1 b σ
  · intro x2 b σ; exact V_bad
  · intro L2 hL2 x2 b σ
    unfold b_Model_findRows_2
    refine V_iload_n 3 rfl (show decode M_Model_findRows.2.1 2 = .ok (.iload_n 2, 1) by decide +kernel) 2 rfl ?_
    refine V_bipush 5 rfl (show decode M_Model_findRows.2.1 3 = .ok (.bipush 20, 2) by decide +kernel) (v := 20) rfl ?_
    refine V_icmpge 8 21 rfl (show decode M_Model_findRows.2.1 5 = .ok (.if_icmp .ge 16, 3) by decide +kernel) rfl ?_ ?_
    · skip
      refine V_aload_n 9 rfl (show decode M_Model_findRows.2.1 8 = .ok (.aload_n 0, 1) by decide +kernel) 0 rfl ?_
      refine V_get (j := 30) (v := vR (SR σ h0 30)) 12 rfl ck_Model (by decide) (by decide) (show decode M_Model_findRows.2.1 9 = .ok (.getfield 62, 3) by decide +kernel) wd_1534 rfl ?_
      refine V_iload_n 13 rfl (show decode M_Model_findRows.2.1 12 = .ok (.iload_n 2, 1) by decide +kernel) 2 rfl ?_
      refine V_iconst 14 rfl (show decode M_Model_findRows.2.1 13 = .ok (.iconst 0, 1) by decide +kernel) (v := 0) rfl ?_
      refine V_ast_bool 15 rfl (show decode M_Model_findRows.2.1 14 = .ok (.bastore, 1) by decide +kernel) (fun σ_2 => ?_)
      refine V_iinc (fun x2_3 => [(2, vI x2_3), (0, vR h0), (1, vI x1)]) 18 rfl (show decode M_Model_findRows.2.1 15 = .ok (.iinc 2 1, 3) by decide +kernel) 2 rfl (w := 1) rfl (by decide) (fun _ => rfl) (fun x2_3 => ?_)
      refine V_goto 2 (show decode M_Model_findRows.2.1 18 = .ok (.goto (-16), 3) by decide +kernel) rfl ?_
      exact V_sub [1, 2, 0] rfl (hL2 x2_3 ((b && cK σ h0 13) && cA σ (SR σ h0 30) 24 x2) σ_2)
    · skip
      refine V_iconst 22 rfl (show decode M_Model_findRows.2.1 21 = .ok (.iconst 0, 1) by decide +kernel) (v := 0) rfl ?_
      refine V_istore_n (fun x2_4 => [(2, vI x2_4), (0, vR h0), (1, vI x1)]) 23 rfl (show decode M_Model_findRows.2.1 22 = .ok (.istore_n 2, 1) by decide +kernel) (by decide) (fun _ => rfl) (fun x2_4 => ?_)
      refine V_sub [1, 2, 0] rfl ?_
      refine lp_P (fun (L23 : Int32 → Bool → Sto → Rs Unit) => ∀ (x2 : Int32) (b : Bool) (σ : Sto), V M_Model_findRows 2 0 0 0 0 tU (L23 x2 b σ) 23 [(0, vR h0), (1, vI x1), (2, vI x2)] [] b σ) ?_ ?_ fuel_ x2_4 b σ
      · intro x2 b σ; exact V_bad
      · intro L23 hL23 x2 b σ
        unfold b_Model_findRows_23
        refine V_iload_n 24 rfl (show decode M_Model_findRows.2.1 23 = .ok (.iload_n 2, 1) by decide +kernel) 2 rfl ?_
        refine V_aload_n 25 rfl (show decode M_Model_findRows.2.1 24 = .ok (.aload_n 0, 1) by decide +kernel) 0 rfl ?_
        refine V_get (j := 0) (v := vR (SR σ h0 0)) 28 rfl ck_Model (by decide) (by decide) (show decode M_Model_findRows.2.1 25 = .ok (.getfield 7, 3) by decide +kernel) wd_1504 rfl ?_
        refine V_bipush 30 rfl (show decode M_Model_findRows.2.1 28 = .ok (.bipush 9, 2) by decide +kernel) (v := 9) rfl ?_
        refine V_ald_int 31 rfl (show decode M_Model_findRows.2.1 30 = .ok (.iaload, 1) by decide +kernel) ?_
        refine V_icmpge 34 295 rfl (show decode M_Model_findRows.2.1 31 = .ok (.if_icmp .ge 264, 3) by decide +kernel) rfl ?_ ?_
        · skip
          refine V_iconst 35 rfl (show decode M_Model_findRows.2.1 34 = .ok (.iconst (-1), 1) by decide +kernel) (v := -1) rfl ?_
          refine V_istore_n (fun x3_5 => [(3, vI x3_5), (0, vR h0), (1, vI x1), (2, vI x2)]) 36 rfl (show decode M_Model_findRows.2.1 35 = .ok (.istore_n 3, 1) by decide +kernel) (by decide) (fun _ => rfl) (fun x3_5 => ?_)
          refine V_iconst 37 rfl (show decode M_Model_findRows.2.1 36 = .ok (.iconst 0, 1) by decide +kernel) (v := 0) rfl ?_
          refine V_istore (fun x4_6 => [(4, vI x4_6), (3, vI x3_5), (0, vR h0), (1, vI x1), (2, vI x2)]) 39 rfl (show decode M_Model_findRows.2.1 37 = .ok (.istore 4, 2) by decide +kernel) (by decide) (fun _ => rfl) (fun x4_6 => ?_)
          refine V_sub [2, 3, 4, 1, 0] rfl ?_
          refine lp_P (fun (L39 : Int32 → Int32 → Bool → Sto → Rs Unit) => ∀ (x3 : Int32) (x4 : Int32) (b : Bool) (σ : Sto), V M_Model_findRows 2 0 0 0 0 tU (L39 x3 x4 b σ) 39 [(0, vR h0), (1, vI x1), (2, vI x2), (3, vI x3), (4, vI x4)] [] b σ) ?_ ?_ fuel_ x3_5 x4_6 ((b && cK σ h0 13) && cA σ (SR σ h0 0) 21 (9 : Int32)) σ
          · intro x3 x4 b σ; exact V_bad
          · intro L39 hL39 x3 x4 b σ
            unfold b_Model_findRows_39
            refine V_iload 41 rfl (show decode M_Model_findRows.2.1 39 = .ok (.iload 4, 2) by decide +kernel) 4 rfl ?_
            refine V_aload_n 42 rfl (show decode M_Model_findRows.2.1 41 = .ok (.aload_n 0, 1) by decide +kernel) 0 rfl ?_
            refine V_get (j := 0) (v := vR (SR σ h0 0)) 45 rfl ck_Model (by decide) (by decide) (show decode M_Model_findRows.2.1 42 = .ok (.getfield 7, 3) by decide +kernel) wd_1504 rfl ?_
            refine V_bipush 47 rfl (show decode M_Model_findRows.2.1 45 = .ok (.bipush 9, 2) by decide +kernel) (v := 9) rfl ?_
            refine V_ald_int 48 rfl (show decode M_Model_findRows.2.1 47 = .ok (.iaload, 1) by decide +kernel) ?_
            refine V_icmpge 51 106 rfl (show decode M_Model_findRows.2.1 48 = .ok (.if_icmp .ge 58, 3) by decide +kernel) rfl ?_ ?_
            · skip
              refine V_aload_n 52 rfl (show decode M_Model_findRows.2.1 51 = .ok (.aload_n 0, 1) by decide +kernel) 0 rfl ?_
              refine V_get (j := 30) (v := vR (SR σ h0 30)) 55 rfl ck_Model (by decide) (by decide) (show decode M_Model_findRows.2.1 52 = .ok (.getfield 62, 3) by decide +kernel) wd_1534 rfl ?_
              refine V_iload 57 rfl (show decode M_Model_findRows.2.1 55 = .ok (.iload 4, 2) by decide +kernel) 4 rfl ?_
              refine V_ald_bool 58 rfl (show decode M_Model_findRows.2.1 57 = .ok (.baload, 1) by decide +kernel) ?_
              refine V_jn (fun (J99 : Int32 → Bool → Sto → Rs Unit) => ∀ (s0_99 : Int32) (b : Bool) (σ : Sto), V M_Model_findRows 2 0 0 0 0 tU (J99 s0_99 b σ) 99 [(0, vR h0), (1, vI x1), (2, vI x2), (4, vI x4)] [vI s0_99] b σ) ?_ (fun J99 hJ99 => ?_)
              · intro s0_99 b σ
                refine V_istore_n (fun x3_7 => [(3, vI x3_7), (0, vR h0), (1, vI x1), (2, vI x2), (4, vI x4)]) 100 rfl (show decode M_Model_findRows.2.1 99 = .ok (.istore_n 3, 1) by decide +kernel) (by decide) (fun _ => rfl) (fun x3_7 => ?_)
                refine V_iinc (fun x4_8 => [(4, vI x4_8), (3, vI x3_7), (0, vR h0), (1, vI x1), (2, vI x2)]) 103 rfl (show decode M_Model_findRows.2.1 100 = .ok (.iinc 4 1, 3) by decide +kernel) 4 rfl (w := 1) rfl (by decide) (fun _ => rfl) (fun x4_8 => ?_)
                refine V_goto 39 (show decode M_Model_findRows.2.1 103 = .ok (.goto (-64), 3) by decide +kernel) rfl ?_
                exact V_sub [2, 3, 4, 1, 0] rfl (hL39 x3_7 x4_8 b σ)
              · skip
                refine V_jn (fun (J98 : Bool → Sto → Rs Unit) => ∀ (b : Bool) (σ : Sto), V M_Model_findRows 2 0 0 0 0 tU (J98 b σ) 98 [(0, vR h0), (1, vI x1), (2, vI x2), (3, vI x3), (4, vI x4)] [] b σ) ?_ (fun J98 hJ98 => ?_)
                · intro b σ
                  refine V_iload_n 99 rfl (show decode M_Model_findRows.2.1 98 = .ok (.iload_n 3, 1) by decide +kernel) 3 rfl ?_
                  exact V_sub [0, 1, 2, 4] rfl (hJ99 x3 b σ)
                · skip
                  refine V_ifne 61 98 rfl (show decode M_Model_findRows.2.1 58 = .ok (.ifCond .ne 40, 3) by decide +kernel) rfl ?_ ?_
                  · skip
                    refine V_iload_n 62 rfl (show decode M_Model_findRows.2.1 61 = .ok (.iload_n 3, 1) by decide +kernel) 3 rfl ?_
                    refine V_jn (fun (J93 : Bool → Sto → Rs Unit) => ∀ (b : Bool) (σ : Sto), V M_Model_findRows 2 0 0 0 0 tU (J93 b σ) 93 [(0, vR h0), (1, vI x1), (2, vI x2), (4, vI x4)] [] b σ) ?_ (fun J93 hJ93 => ?_)
                    · intro b σ
                      refine V_iload 95 rfl (show decode M_Model_findRows.2.1 93 = .ok (.iload 4, 2) by decide +kernel) 3 rfl ?_
                      refine V_goto 99 (show decode M_Model_findRows.2.1 95 = .ok (.goto 4, 3) by decide +kernel) rfl ?_
                      exact V_sub [0, 1, 2, 3] rfl (hJ99 x4 b σ)
                    · skip
                      refine V_iflt 65 93 rfl (show decode M_Model_findRows.2.1 62 = .ok (.ifCond .lt 31, 3) by decide +kernel) rfl ?_ ?_
                      · skip
                        exact V_sub [0, 1, 2, 4] rfl (hJ93 ((((b && cK σ h0 13) && cA σ (SR σ h0 0) 21 (9 : Int32)) && cK σ h0 13) && cA σ (SR σ h0 30) 24 x4) σ)
                      · skip
                        refine V_aload_n 66 rfl (show decode M_Model_findRows.2.1 65 = .ok (.aload_n 0, 1) by decide +kernel) 0 rfl ?_
                        refine V_get (j := 0) (v := vR (SR σ h0 0)) 69 rfl ck_Model (by decide) (by decide) (show decode M_Model_findRows.2.1 66 = .ok (.getfield 7, 3) by decide +kernel) wd_1504 rfl ?_
                        refine V_sipush 72 rfl (show decode M_Model_findRows.2.1 69 = .ok (.sipush 520, 3) by decide +kernel) (v := 520) rfl ?_
                        refine V_iconst 73 rfl (show decode M_Model_findRows.2.1 72 = .ok (.iconst 2, 1) by decide +kernel) (v := 2) rfl ?_
                        refine V_iload 75 rfl (show decode M_Model_findRows.2.1 73 = .ok (.iload 4, 2) by decide +kernel) 4 rfl ?_
                        refine V_imul 76 rfl (show decode M_Model_findRows.2.1 75 = .ok (.imul, 1) by decide +kernel) ?_
                        refine V_iadd 77 rfl (show decode M_Model_findRows.2.1 76 = .ok (.iadd, 1) by decide +kernel) ?_
                        refine V_ald_int 78 rfl (show decode M_Model_findRows.2.1 77 = .ok (.iaload, 1) by decide +kernel) ?_
                        refine V_aload_n 79 rfl (show decode M_Model_findRows.2.1 78 = .ok (.aload_n 0, 1) by decide +kernel) 0 rfl ?_
                        refine V_get (j := 0) (v := vR (SR σ h0 0)) 82 rfl ck_Model (by decide) (by decide) (show decode M_Model_findRows.2.1 79 = .ok (.getfield 7, 3) by decide +kernel) wd_1504 rfl ?_
                        refine V_sipush 85 rfl (show decode M_Model_findRows.2.1 82 = .ok (.sipush 520, 3) by decide +kernel) (v := 520) rfl ?_
                        refine V_iconst 86 rfl (show decode M_Model_findRows.2.1 85 = .ok (.iconst 2, 1) by decide +kernel) (v := 2) rfl ?_
                        refine V_iload_n 87 rfl (show decode M_Model_findRows.2.1 86 = .ok (.iload_n 3, 1) by decide +kernel) 3 rfl ?_
                        refine V_imul 88 rfl (show decode M_Model_findRows.2.1 87 = .ok (.imul, 1) by decide +kernel) ?_
                        refine V_iadd 89 rfl (show decode M_Model_findRows.2.1 88 = .ok (.iadd, 1) by decide +kernel) ?_
                        refine V_ald_int 90 rfl (show decode M_Model_findRows.2.1 89 = .ok (.iaload, 1) by decide +kernel) ?_
                        refine V_icmple 93 98 rfl (show decode M_Model_findRows.2.1 90 = .ok (.if_icmp .le 8, 3) by decide +kernel) rfl ?_ ?_
                        · skip
                          exact V_sub [0, 1, 2, 4] rfl (hJ93 ((((((((b && cK σ h0 13) && cA σ (SR σ h0 0) 21 (9 : Int32)) && cK σ h0 13) && cA σ (SR σ h0 30) 24 x4) && cK σ h0 13) && cA σ (SR σ h0 0) 21 ((520 : Int32) + ((2 : Int32) * x4))) && cK σ h0 13) && cA σ (SR σ h0 0) 21 ((520 : Int32) + ((2 : Int32) * x3))) σ)
                        · skip
                          exact V_sub [0, 1, 2, 3, 4] rfl (hJ98 ((((((((b && cK σ h0 13) && cA σ (SR σ h0 0) 21 (9 : Int32)) && cK σ h0 13) && cA σ (SR σ h0 30) 24 x4) && cK σ h0 13) && cA σ (SR σ h0 0) 21 ((520 : Int32) + ((2 : Int32) * x4))) && cK σ h0 13) && cA σ (SR σ h0 0) 21 ((520 : Int32) + ((2 : Int32) * x3))) σ)
                  · skip
                    exact V_sub [0, 1, 2, 3, 4] rfl (hJ98 ((((b && cK σ h0 13) && cA σ (SR σ h0 0) 21 (9 : Int32)) && cK σ h0 13) && cA σ (SR σ h0 30) 24 x4) σ)
            · skip
              refine V_aload_n 107 rfl (show decode M_Model_findRows.2.1 106 = .ok (.aload_n 0, 1) by decide +kernel) 0 rfl ?_
              refine V_get (j := 30) (v := vR (SR σ h0 30)) 110 rfl ck_Model (by decide) (by decide) (show decode M_Model_findRows.2.1 107 = .ok (.getfield 62, 3) by decide +kernel) wd_1534 rfl ?_
              refine V_iload_n 111 rfl (show decode M_Model_findRows.2.1 110 = .ok (.iload_n 3, 1) by decide +kernel) 3 rfl ?_
              refine V_iconst 112 rfl (show decode M_Model_findRows.2.1 111 = .ok (.iconst 1, 1) by decide +kernel) (v := 1) rfl ?_
              refine V_ast_bool 113 rfl (show decode M_Model_findRows.2.1 112 = .ok (.bastore, 1) by decide +kernel) (fun σ_9 => ?_)
              refine V_aload_n 114 rfl (show decode M_Model_findRows.2.1 113 = .ok (.aload_n 0, 1) by decide +kernel) 0 rfl ?_
              refine V_get (j := 27) (v := vR (SR σ_9 h0 27)) 117 rfl ck_Model (by decide) (by decide) (show decode M_Model_findRows.2.1 114 = .ok (.getfield 53, 3) by decide +kernel) wd_1531 rfl ?_
              refine V_iload_n 118 rfl (show decode M_Model_findRows.2.1 117 = .ok (.iload_n 3, 1) by decide +kernel) 3 rfl ?_
              refine V_iconst 119 rfl (show decode M_Model_findRows.2.1 118 = .ok (.iconst 1, 1) by decide +kernel) (v := 1) rfl ?_
              refine V_ast_int 120 rfl (show decode M_Model_findRows.2.1 119 = .ok (.iastore, 1) by decide +kernel) (fun σ_10 => ?_)
              refine V_aload_n 121 rfl (show decode M_Model_findRows.2.1 120 = .ok (.aload_n 0, 1) by decide +kernel) 0 rfl ?_
              refine V_get (j := 28) (v := vR (SR σ_10 h0 28)) 124 rfl ck_Model (by decide) (by decide) (show decode M_Model_findRows.2.1 121 = .ok (.getfield 56, 3) by decide +kernel) wd_1532 rfl ?_
              refine V_iload_n 125 rfl (show decode M_Model_findRows.2.1 124 = .ok (.iload_n 3, 1) by decide +kernel) 3 rfl ?_
              refine V_aload_n 126 rfl (show decode M_Model_findRows.2.1 125 = .ok (.aload_n 0, 1) by decide +kernel) 0 rfl ?_
              refine V_get (j := 0) (v := vR (SR σ_10 h0 0)) 129 rfl ck_Model (by decide) (by decide) (show decode M_Model_findRows.2.1 126 = .ok (.getfield 7, 3) by decide +kernel) wd_1504 rfl ?_
              refine V_sipush 132 rfl (show decode M_Model_findRows.2.1 129 = .ok (.sipush 520, 3) by decide +kernel) (v := 520) rfl ?_
              refine V_iconst 133 rfl (show decode M_Model_findRows.2.1 132 = .ok (.iconst 2, 1) by decide +kernel) (v := 2) rfl ?_
              refine V_iload_n 134 rfl (show decode M_Model_findRows.2.1 133 = .ok (.iload_n 3, 1) by decide +kernel) 3 rfl ?_
              refine V_imul 135 rfl (show decode M_Model_findRows.2.1 134 = .ok (.imul, 1) by decide +kernel) ?_
              refine V_iadd 136 rfl (show decode M_Model_findRows.2.1 135 = .ok (.iadd, 1) by decide +kernel) ?_
              refine V_iconst 137 rfl (show decode M_Model_findRows.2.1 136 = .ok (.iconst 1, 1) by decide +kernel) (v := 1) rfl ?_
              refine V_iadd 138 rfl (show decode M_Model_findRows.2.1 137 = .ok (.iadd, 1) by decide +kernel) ?_
              refine V_ald_int 139 rfl (show decode M_Model_findRows.2.1 138 = .ok (.iaload, 1) by decide +kernel) ?_
              refine V_ast_int 140 rfl (show decode M_Model_findRows.2.1 139 = .ok (.iastore, 1) by decide +kernel) (fun σ_11 => ?_)
              refine V_aload_n 141 rfl (show decode M_Model_findRows.2.1 140 = .ok (.aload_n 0, 1) by decide +kernel) 0 rfl ?_
              refine V_get (j := 29) (v := vR (SR σ_11 h0 29)) 144 rfl ck_Model (by decide) (by decide) (show decode M_Model_findRows.2.1 141 = .ok (.getfield 59, 3) by decide +kernel) wd_1533 rfl ?_
              refine V_iload_n 145 rfl (show decode M_Model_findRows.2.1 144 = .ok (.iload_n 3, 1) by decide +kernel) 3 rfl ?_
              refine V_iconst 146 rfl (show decode M_Model_findRows.2.1 145 = .ok (.iconst (-1), 1) by decide +kernel) (v := -1) rfl ?_
              refine V_ast_int 147 rfl (show decode M_Model_findRows.2.1 146 = .ok (.iastore, 1) by decide +kernel) (fun σ_12 => ?_)
              refine V_iconst 148 rfl (show decode M_Model_findRows.2.1 147 = .ok (.iconst 0, 1) by decide +kernel) (v := 0) rfl ?_
              refine V_istore (fun x4_13 => [(4, vI x4_13), (0, vR h0), (1, vI x1), (2, vI x2), (3, vI x3)]) 150 rfl (show decode M_Model_findRows.2.1 148 = .ok (.istore 4, 2) by decide +kernel) (by decide) (fun _ => rfl) (fun x4_13 => ?_)
              refine V_sub [1, 2, 3, 4, 0] rfl ?_
              refine lp_P (fun (L150 : Int32 → Bool → Sto → Rs Unit) => ∀ (x4 : Int32) (b : Bool) (σ : Sto), V M_Model_findRows 2 0 0 0 0 tU (L150 x4 b σ) 150 [(0, vR h0), (1, vI x1), (2, vI x2), (3, vI x3), (4, vI x4)] [] b σ) ?_ ?_ fuel_ x4_13 ((((((((((((b && cK σ h0 13) && cA σ (SR σ h0 0) 21 (9 : Int32)) && cK σ h0 13) && cA σ (SR σ h0 30) 24 x3) && cK σ_9 h0 13) && cA σ_9 (SR σ_9 h0 27) 21 x3) && cK σ_10 h0 13) && cK σ_10 h0 13) && cA σ_10 (SR σ_10 h0 0) 21 (((520 : Int32) + ((2 : Int32) * x3)) + (1 : Int32))) && cA σ_10 (SR σ_10 h0 28) 21 x3) && cK σ_11 h0 13) && cA σ_11 (SR σ_11 h0 29) 21 x3) σ_12
              · intro x4 b σ; exact V_bad
              · intro L150 hL150 x4 b σ
                unfold b_Model_findRows_150
                refine V_iload 152 rfl (show decode M_Model_findRows.2.1 150 = .ok (.iload 4, 2) by decide +kernel) 4 rfl ?_
                refine V_aload_n 153 rfl (show decode M_Model_findRows.2.1 152 = .ok (.aload_n 0, 1) by decide +kernel) 0 rfl ?_
                refine V_get (j := 0) (v := vR (SR σ h0 0)) 156 rfl ck_Model (by decide) (by decide) (show decode M_Model_findRows.2.1 153 = .ok (.getfield 7, 3) by decide +kernel) wd_1504 rfl ?_
                refine V_bipush 158 rfl (show decode M_Model_findRows.2.1 156 = .ok (.bipush 9, 2) by decide +kernel) (v := 9) rfl ?_
                refine V_ald_int 159 rfl (show decode M_Model_findRows.2.1 158 = .ok (.iaload, 1) by decide +kernel) ?_
                refine V_icmpge 162 289 rfl (show decode M_Model_findRows.2.1 159 = .ok (.if_icmp .ge 130, 3) by decide +kernel) rfl ?_ ?_
                · skip
                  refine V_aload_n 163 rfl (show decode M_Model_findRows.2.1 162 = .ok (.aload_n 0, 1) by decide +kernel) 0 rfl ?_
                  refine V_get (j := 30) (v := vR (SR σ h0 30)) 166 rfl ck_Model (by decide) (by decide) (show decode M_Model_findRows.2.1 163 = .ok (.getfield 62, 3) by decide +kernel) wd_1534 rfl ?_
                  refine V_iload 168 rfl (show decode M_Model_findRows.2.1 166 = .ok (.iload 4, 2) by decide +kernel) 4 rfl ?_
                  refine V_ald_bool 169 rfl (show decode M_Model_findRows.2.1 168 = .ok (.baload, 1) by decide +kernel) ?_
                  refine V_jn (fun (J188 : Int32 → Bool → Sto → Rs Unit) => ∀ (s0_188 : Int32) (b : Bool) (σ : Sto), V M_Model_findRows 2 0 0 0 0 tU (J188 s0_188 b σ) 188 [(0, vR h0), (1, vI x1), (2, vI x2), (3, vI x3), (4, vI x4)] [vI s0_188] b σ) ?_ (fun J188 hJ188 => ?_)
                  · intro s0_188 b σ
                    refine V_istore (fun x5_14 => [(5, vI x5_14), (0, vR h0), (1, vI x1), (2, vI x2), (3, vI x3), (4, vI x4)]) 190 rfl (show decode M_Model_findRows.2.1 188 = .ok (.istore 5, 2) by decide +kernel) (by decide) (fun _ => rfl) (fun x5_14 => ?_)
                    refine V_iload 192 rfl (show decode M_Model_findRows.2.1 190 = .ok (.iload 5, 2) by decide +kernel) 0 rfl ?_
                    refine V_jn (fun (J283 : Bool → Sto → Rs Unit) => ∀ (b : Bool) (σ : Sto), V M_Model_findRows 2 0 0 0 0 tU (J283 b σ) 283 [(0, vR h0), (1, vI x1), (2, vI x2), (3, vI x3), (4, vI x4)] [] b σ) ?_ (fun J283 hJ283 => ?_)
                    · intro b σ
                      refine V_iinc (fun x4_15 => [(4, vI x4_15), (0, vR h0), (1, vI x1), (2, vI x2), (3, vI x3)]) 286 rfl (show decode M_Model_findRows.2.1 283 = .ok (.iinc 4 1, 3) by decide +kernel) 4 rfl (w := 1) rfl (by decide) (fun _ => rfl) (fun x4_15 => ?_)
                      refine V_goto 150 (show decode M_Model_findRows.2.1 286 = .ok (.goto (-136), 3) by decide +kernel) rfl ?_
                      exact V_sub [1, 2, 3, 4, 0] rfl (hL150 x4_15 b σ)
                    · skip
                      refine V_ifeq 195 283 rfl (show decode M_Model_findRows.2.1 192 = .ok (.ifCond .eq 91, 3) by decide +kernel) rfl ?_ ?_
                      · skip
                        exact V_sub [1, 2, 3, 4, 5] rfl (hJ283 b σ)
                      · skip
                        refine V_aload_n 196 rfl (show decode M_Model_findRows.2.1 195 = .ok (.aload_n 0, 1) by decide +kernel) 1 rfl ?_
                        refine V_get (j := 27) (v := vR (SR σ h0 27)) 199 rfl ck_Model (by decide) (by decide) (show decode M_Model_findRows.2.1 196 = .ok (.getfield 53, 3) by decide +kernel) wd_1531 rfl ?_
                        refine V_iload 201 rfl (show decode M_Model_findRows.2.1 199 = .ok (.iload 4, 2) by decide +kernel) 5 rfl ?_
                        refine V_ald_int 202 rfl (show decode M_Model_findRows.2.1 201 = .ok (.iaload, 1) by decide +kernel) ?_
                        refine V_iconst 203 rfl (show decode M_Model_findRows.2.1 202 = .ok (.iconst 1, 1) by decide +kernel) (v := 1) rfl ?_
                        refine V_iadd 204 rfl (show decode M_Model_findRows.2.1 203 = .ok (.iadd, 1) by decide +kernel) ?_
                        refine V_aload_n 205 rfl (show decode M_Model_findRows.2.1 204 = .ok (.aload_n 0, 1) by decide +kernel) 1 rfl ?_
                        refine V_get (j := 27) (v := vR (SR σ h0 27)) 208 rfl ck_Model (by decide) (by decide) (show decode M_Model_findRows.2.1 205 = .ok (.getfield 53, 3) by decide +kernel) wd_1531 rfl ?_
                        refine V_iload_n 209 rfl (show decode M_Model_findRows.2.1 208 = .ok (.iload_n 3, 1) by decide +kernel) 4 rfl ?_
                        refine V_ald_int 210 rfl (show decode M_Model_findRows.2.1 209 = .ok (.iaload, 1) by decide +kernel) ?_
                        refine V_jn (fun (J247 : Bool → Sto → Rs Unit) => ∀ (b : Bool) (σ : Sto), V M_Model_findRows 2 0 0 0 0 tU (J247 b σ) 247 [(0, vR h0), (1, vI x1), (2, vI x2), (3, vI x3), (4, vI x4)] [] b σ) ?_ (fun J247 hJ247 => ?_)
                        · intro b σ
                          refine V_aload_n 248 rfl (show decode M_Model_findRows.2.1 247 = .ok (.aload_n 0, 1) by decide +kernel) 0 rfl ?_
                          refine V_get (j := 27) (v := vR (SR σ h0 27)) 251 rfl ck_Model (by decide) (by decide) (show decode M_Model_findRows.2.1 248 = .ok (.getfield 53, 3) by decide +kernel) wd_1531 rfl ?_
                          refine V_iload_n 252 rfl (show decode M_Model_findRows.2.1 251 = .ok (.iload_n 3, 1) by decide +kernel) 3 rfl ?_
                          refine V_aload_n 253 rfl (show decode M_Model_findRows.2.1 252 = .ok (.aload_n 0, 1) by decide +kernel) 0 rfl ?_
                          refine V_get (j := 27) (v := vR (SR σ h0 27)) 256 rfl ck_Model (by decide) (by decide) (show decode M_Model_findRows.2.1 253 = .ok (.getfield 53, 3) by decide +kernel) wd_1531 rfl ?_
                          refine V_iload 258 rfl (show decode M_Model_findRows.2.1 256 = .ok (.iload 4, 2) by decide +kernel) 4 rfl ?_
                          refine V_ald_int 259 rfl (show decode M_Model_findRows.2.1 258 = .ok (.iaload, 1) by decide +kernel) ?_
                          refine V_iconst 260 rfl (show decode M_Model_findRows.2.1 259 = .ok (.iconst 1, 1) by decide +kernel) (v := 1) rfl ?_
                          refine V_iadd 261 rfl (show decode M_Model_findRows.2.1 260 = .ok (.iadd, 1) by decide +kernel) ?_
                          refine V_ast_int 262 rfl (show decode M_Model_findRows.2.1 261 = .ok (.iastore, 1) by decide +kernel) (fun σ_16 => ?_)
                          refine V_aload_n 263 rfl (show decode M_Model_findRows.2.1 262 = .ok (.aload_n 0, 1) by decide +kernel) 0 rfl ?_
                          refine V_get (j := 28) (v := vR (SR σ_16 h0 28)) 266 rfl ck_Model (by decide) (by decide) (show decode M_Model_findRows.2.1 263 = .ok (.getfield 56, 3) by decide +kernel) wd_1532 rfl ?_
                          refine V_iload_n 267 rfl (show decode M_Model_findRows.2.1 266 = .ok (.iload_n 3, 1) by decide +kernel) 3 rfl ?_
                          refine V_aload_n 268 rfl (show decode M_Model_findRows.2.1 267 = .ok (.aload_n 0, 1) by decide +kernel) 0 rfl ?_
                          refine V_get (j := 28) (v := vR (SR σ_16 h0 28)) 271 rfl ck_Model (by decide) (by decide) (show decode M_Model_findRows.2.1 268 = .ok (.getfield 56, 3) by decide +kernel) wd_1532 rfl ?_
                          refine V_iload 273 rfl (show decode M_Model_findRows.2.1 271 = .ok (.iload 4, 2) by decide +kernel) 4 rfl ?_
                          refine V_ald_int 274 rfl (show decode M_Model_findRows.2.1 273 = .ok (.iaload, 1) by decide +kernel) ?_
                          refine V_ast_int 275 rfl (show decode M_Model_findRows.2.1 274 = .ok (.iastore, 1) by decide +kernel) (fun σ_17 => ?_)
                          refine V_aload_n 276 rfl (show decode M_Model_findRows.2.1 275 = .ok (.aload_n 0, 1) by decide +kernel) 0 rfl ?_
                          refine V_get (j := 29) (v := vR (SR σ_17 h0 29)) 279 rfl ck_Model (by decide) (by decide) (show decode M_Model_findRows.2.1 276 = .ok (.getfield 59, 3) by decide +kernel) wd_1533 rfl ?_
                          refine V_iload_n 280 rfl (show decode M_Model_findRows.2.1 279 = .ok (.iload_n 3, 1) by decide +kernel) 3 rfl ?_
                          refine V_iload 282 rfl (show decode M_Model_findRows.2.1 280 = .ok (.iload 4, 2) by decide +kernel) 4 rfl ?_
                          refine V_ast_int 283 rfl (show decode M_Model_findRows.2.1 282 = .ok (.iastore, 1) by decide +kernel) (fun σ_18 => ?_)
                          exact V_sub [0, 1, 2, 3, 4] rfl (hJ283 ((((((((((b && cK σ h0 13) && cK σ h0 13) && cA σ (SR σ h0 27) 21 x4) && cA σ (SR σ h0 27) 21 x3) && cK σ_16 h0 13) && cK σ_16 h0 13) && cA σ_16 (SR σ_16 h0 28) 21 x4) && cA σ_16 (SR σ_16 h0 28) 21 x3) && cK σ_17 h0 13) && cA σ_17 (SR σ_17 h0 29) 21 x3) σ_18)
                        · skip
                          refine V_icmpgt 213 247 rfl (show decode M_Model_findRows.2.1 210 = .ok (.if_icmp .gt 37, 3) by decide +kernel) rfl ?_ ?_
                          · skip
                            exact V_sub [1, 2, 3, 4, 5] rfl (hJ247 ((((b && cK σ h0 13) && cA σ (SR σ h0 27) 21 x4) && cK σ h0 13) && cA σ (SR σ h0 27) 21 x3) σ)
                          · skip
                            refine V_aload_n 214 rfl (show decode M_Model_findRows.2.1 213 = .ok (.aload_n 0, 1) by decide +kernel) 1 rfl ?_
                            refine V_get (j := 27) (v := vR (SR σ h0 27)) 217 rfl ck_Model (by decide) (by decide) (show decode M_Model_findRows.2.1 214 = .ok (.getfield 53, 3) by decide +kernel) wd_1531 rfl ?_
                            refine V_iload 219 rfl (show decode M_Model_findRows.2.1 217 = .ok (.iload 4, 2) by decide +kernel) 5 rfl ?_
                            refine V_ald_int 220 rfl (show decode M_Model_findRows.2.1 219 = .ok (.iaload, 1) by decide +kernel) ?_
                            refine V_iconst 221 rfl (show decode M_Model_findRows.2.1 220 = .ok (.iconst 1, 1) by decide +kernel) (v := 1) rfl ?_
                            refine V_iadd 222 rfl (show decode M_Model_findRows.2.1 221 = .ok (.iadd, 1) by decide +kernel) ?_
                            refine V_aload_n 223 rfl (show decode M_Model_findRows.2.1 222 = .ok (.aload_n 0, 1) by decide +kernel) 1 rfl ?_
                            refine V_get (j := 27) (v := vR (SR σ h0 27)) 226 rfl ck_Model (by decide) (by decide) (show decode M_Model_findRows.2.1 223 = .ok (.getfield 53, 3) by decide +kernel) wd_1531 rfl ?_
                            refine V_iload_n 227 rfl (show decode M_Model_findRows.2.1 226 = .ok (.iload_n 3, 1) by decide +kernel) 4 rfl ?_
                            refine V_ald_int 228 rfl (show decode M_Model_findRows.2.1 227 = .ok (.iaload, 1) by decide +kernel) ?_
                            refine V_icmpne 231 283 rfl (show decode M_Model_findRows.2.1 228 = .ok (.if_icmp .ne 55, 3) by decide +kernel) rfl ?_ ?_
                            · skip
                              refine V_aload_n 232 rfl (show decode M_Model_findRows.2.1 231 = .ok (.aload_n 0, 1) by decide +kernel) 1 rfl ?_
                              refine V_get (j := 28) (v := vR (SR σ h0 28)) 235 rfl ck_Model (by decide) (by decide) (show decode M_Model_findRows.2.1 232 = .ok (.getfield 56, 3) by decide +kernel) wd_1532 rfl ?_
                              refine V_iload 237 rfl (show decode M_Model_findRows.2.1 235 = .ok (.iload 4, 2) by decide +kernel) 5 rfl ?_
                              refine V_ald_int 238 rfl (show decode M_Model_findRows.2.1 237 = .ok (.iaload, 1) by decide +kernel) ?_
                              refine V_aload_n 239 rfl (show decode M_Model_findRows.2.1 238 = .ok (.aload_n 0, 1) by decide +kernel) 1 rfl ?_
                              refine V_get (j := 28) (v := vR (SR σ h0 28)) 242 rfl ck_Model (by decide) (by decide) (show decode M_Model_findRows.2.1 239 = .ok (.getfield 56, 3) by decide +kernel) wd_1532 rfl ?_
                              refine V_iload_n 243 rfl (show decode M_Model_findRows.2.1 242 = .ok (.iload_n 3, 1) by decide +kernel) 4 rfl ?_
                              refine V_ald_int 244 rfl (show decode M_Model_findRows.2.1 243 = .ok (.iaload, 1) by decide +kernel) ?_
                              refine V_icmple 247 283 rfl (show decode M_Model_findRows.2.1 244 = .ok (.if_icmp .le 39, 3) by decide +kernel) rfl ?_ ?_
                              · skip
                                exact V_sub [1, 2, 3, 4, 5] rfl (hJ247 ((((((((((((b && cK σ h0 13) && cA σ (SR σ h0 27) 21 x4) && cK σ h0 13) && cA σ (SR σ h0 27) 21 x3) && cK σ h0 13) && cA σ (SR σ h0 27) 21 x4) && cK σ h0 13) && cA σ (SR σ h0 27) 21 x3) && cK σ h0 13) && cA σ (SR σ h0 28) 21 x4) && cK σ h0 13) && cA σ (SR σ h0 28) 21 x3) σ)
                              · skip
                                exact V_sub [1, 2, 3, 4, 5] rfl (hJ283 ((((((((((((b && cK σ h0 13) && cA σ (SR σ h0 27) 21 x4) && cK σ h0 13) && cA σ (SR σ h0 27) 21 x3) && cK σ h0 13) && cA σ (SR σ h0 27) 21 x4) && cK σ h0 13) && cA σ (SR σ h0 27) 21 x3) && cK σ h0 13) && cA σ (SR σ h0 28) 21 x4) && cK σ h0 13) && cA σ (SR σ h0 28) 21 x3) σ)
                            · skip
                              exact V_sub [1, 2, 3, 4, 5] rfl (hJ283 ((((((((b && cK σ h0 13) && cA σ (SR σ h0 27) 21 x4) && cK σ h0 13) && cA σ (SR σ h0 27) 21 x3) && cK σ h0 13) && cA σ (SR σ h0 27) 21 x4) && cK σ h0 13) && cA σ (SR σ h0 27) 21 x3) σ)
                  · skip
                    refine V_jn (fun (J187 : Bool → Sto → Rs Unit) => ∀ (b : Bool) (σ : Sto), V M_Model_findRows 2 0 0 0 0 tU (J187 b σ) 187 [(0, vR h0), (1, vI x1), (2, vI x2), (3, vI x3), (4, vI x4)] [] b σ) ?_ (fun J187 hJ187 => ?_)
                    · intro b σ
                      refine V_iconst 188 rfl (show decode M_Model_findRows.2.1 187 = .ok (.iconst 0, 1) by decide +kernel) (v := 0) rfl ?_
                      exact V_sub [0, 1, 2, 3, 4] rfl (hJ188 (0 : Int32) b σ)
                    · skip
                      refine V_ifeq 172 187 rfl (show decode M_Model_findRows.2.1 169 = .ok (.ifCond .eq 18, 3) by decide +kernel) rfl ?_ ?_
                      · skip
                        exact V_sub [0, 1, 2, 3, 4] rfl (hJ187 ((((b && cK σ h0 13) && cA σ (SR σ h0 0) 21 (9 : Int32)) && cK σ h0 13) && cA σ (SR σ h0 30) 24 x4) σ)
                      · skip
                        refine V_aload_n 173 rfl (show decode M_Model_findRows.2.1 172 = .ok (.aload_n 0, 1) by decide +kernel) 0 rfl ?_
                        refine V_iload_n 174 rfl (show decode M_Model_findRows.2.1 173 = .ok (.iload_n 3, 1) by decide +kernel) 3 rfl ?_
                        refine V_iload 176 rfl (show decode M_Model_findRows.2.1 174 = .ok (.iload 4, 2) by decide +kernel) 4 rfl ?_
                        refine V_iload_n 177 rfl (show decode M_Model_findRows.2.1 176 = .ok (.iload_n 1, 1) by decide +kernel) 1 rfl ?_
                        refine V_callV (tb := tI) (as := [vI x3, vI x4, vI x1]) (rest := []) (na := 3) 180 rfl ck_Model (by decide) (s_Model_follows h0 x3 x4 x1 (((((b && cK σ h0 13) && cA σ (SR σ h0 0) 21 (9 : Int32)) && cK σ h0 13) && cA σ (SR σ h0 30) 24 x4) && cK σ h0 13) σ) rfl rfl (Nat.le_of_ble_eq_true rfl) (cal_Model_follows _ _ _ _ _ (by decide) (by decide) (by decide)) (show decode M_Model_findRows.2.1 177 = .ok (.invokevirtual 361, 3) by decide +kernel) wd_2031 wd_2033 wd_168 (fun r_19 b_19 σ_19 => ?_)
                        show V M_Model_findRows 2 0 0 0 0 tU _ 180 [(0, vR h0), (1, vI x1), (2, vI x2), (3, vI x3), (4, vI x4)] [vI r_19] b_19 σ_19
                        refine V_ifeq 183 187 rfl (show decode M_Model_findRows.2.1 180 = .ok (.ifCond .eq 7, 3) by decide +kernel) rfl ?_ ?_
                        · skip
                          exact V_sub [0, 1, 2, 3, 4] rfl (hJ187 b_19 σ_19)
                        · skip
                          refine V_iconst 184 rfl (show decode M_Model_findRows.2.1 183 = .ok (.iconst 1, 1) by decide +kernel) (v := 1) rfl ?_
                          refine V_goto 188 (show decode M_Model_findRows.2.1 184 = .ok (.goto 4, 3) by decide +kernel) rfl ?_
                          exact V_sub [0, 1, 2, 3, 4] rfl (hJ188 (1 : Int32) b_19 σ_19)
                · skip
                  refine V_iinc (fun x2_20 => [(2, vI x2_20), (0, vR h0), (1, vI x1), (3, vI x3), (4, vI x4)]) 292 rfl (show decode M_Model_findRows.2.1 289 = .ok (.iinc 2 1, 3) by decide +kernel) 2 rfl (w := 1) rfl (by decide) (fun _ => rfl) (fun x2_20 => ?_)
                  refine V_goto 23 (show decode M_Model_findRows.2.1 292 = .ok (.goto (-269), 3) by decide +kernel) rfl ?_
                  exact V_sub [1, 2, 0] rfl (hL23 x2_20 ((b && cK σ h0 13) && cA σ (SR σ h0 0) 21 (9 : Int32)) σ)
        · skip
          exact V_vret rfl (by decide) (by decide) (show decode M_Model_findRows.2.1 295 = .ok (.return_, 1) by decide +kernel)
theorem cal_Model_findRows (d mc ms k n : Nat) (h1 : 2 + 1 ≤ d) (h2 : k + 0 ≤ mc) (h3 : n + 0 ≤ ms) : Cal M_Model_findRows 2 0 0 1 d mc ms k n := ⟨wd_2030, wd_181, by decide, h1, by decide, h2, h3⟩
abbrev M_Model_findTowns : MD := (⟨"LongTrailModel", "findTowns", "()I"⟩, prog_14_method_91_code, 4, (some FieldType.int))
def b_Model_findTowns_28 (h0 : Nat) (x1 : Int32) (x2 : Int32) (J82 : Int32 → Bool → Sto → Rs Int32) (L28 : Int32 → Bool → Sto → Rs Int32) (x3 : Int32) (b : Bool) (σ : Sto) : Rs Int32 := (lt_ (fun (b : Bool) (σ : Sto) => (lt_ (pI σ (SR σ h0 25) (ix x3) x2) (fun (σ_6 : Sto) => (lt_ (x1 + (1 : Int32)) (fun (x1_7 : Int32) => (J82 x1_7 ((b && cK σ h0 13) && cA σ (SR σ h0 25) 21 x3) σ_6)))))) (fun J72 => (if 0 < x3 then (bd_ (f_Model_mileOf h0 (SI σ (SR σ h0 25) (ix (x3 - (1 : Int32)))) (((b && cK σ h0 13) && cA σ (SR σ h0 25) 21 (x3 - (1 : Int32))) && cK σ h0 13) σ) (fun (r_8 : Int32) (b_8 : Bool) (σ_8 : Sto) => (bd_ (f_Model_mileOf h0 x2 (b_8 && cK σ_8 h0 13) σ_8) (fun (r_9 : Int32) (b_9 : Bool) (σ_9 : Sto) => (if r_9 < r_8 then (lt_ (pI σ_9 (SR σ_9 h0 25) (ix x3) (SI σ_9 (SR σ_9 h0 25) (ix (x3 - (1 : Int32))))) (fun (σ_10 : Sto) => (lt_ (x3 + (-1 : Int32)) (fun (x3_11 : Int32) => (L28 x3_11 ((((b_9 && cK σ_9 h0 13) && cK σ_9 h0 13) && cA σ_9 (SR σ_9 h0 25) 21 (x3 - (1 : Int32))) && cA σ_9 (SR σ_9 h0 25) 21 x3) σ_10))))) else (J72 b_9 σ_9)))))) else (J72 b σ))))
def b_Model_findTowns_4 (h0 : Nat) (L4 : Int32 → Int32 → Bool → Sto → Rs Int32) (x1 : Int32) (x2 : Int32) (b : Bool) (σ : Sto) : Rs Int32 := (if x2 < (SI σ (SR σ h0 0) (ix (2 : Int32))) then (bd_ (f_Model_kindOf h0 x2 (((b && cK σ h0 13) && cA σ (SR σ h0 0) 21 (2 : Int32)) && cK σ h0 13) σ) (fun (r_3 : Int32) (b_3 : Bool) (σ_3 : Sto) => (lt_ (fun (x1_82 : Int32) (b : Bool) (σ : Sto) => (lt_ (x2 + (1 : Int32)) (fun (x2_4 : Int32) => (L4 x1_82 x2_4 b σ)))) (fun J82 => (if r_3 = (3 : Int32) then (lt_ x1 (fun (x3_5 : Int32) => (lp_ (b_Model_findTowns_28 h0 x1 x2 J82) (fun (x3 : Int32) (b : Bool) (σ : Sto) => (0, false, σ)) fuel_ x3_5 b_3 σ_3))) else (J82 x1 b_3 σ_3)))))) else (x1, ((b && cK σ h0 13) && cA σ (SR σ h0 0) 21 (2 : Int32)), σ))
def f_Model_findTowns (h0 : Nat) (b : Bool) (σ : Sto) : Rs Int32 := (lt_ (0 : Int32) (fun (x1_1 : Int32) => (lt_ (0 : Int32) (fun (x2_2 : Int32) => (lp_ (b_Model_findTowns_4 h0) (fun (x1 : Int32) (x2 : Int32) (b : Bool) (σ : Sto) => (0, false, σ)) fuel_ x1_1 x2_2 b σ)))))
set_option maxRecDepth 100000 in
set_option maxHeartbeats 4000000 in
theorem s_Model_findTowns : ∀ (h0 : Nat) (b : Bool) (σ : Sto), Snd M_Model_findTowns 3 0 0 [vR h0] b σ (tI (f_Model_findTowns h0 b σ).1) (f_Model_findTowns h0 b σ).2.1 (f_Model_findTowns h0 b σ).2.2 := by
  intro h0 b σ
  refine Snd_of (tv := tI) (by decide) (Nat.le_of_ble_eq_true rfl) ?_
  show V M_Model_findTowns 3 0 0 0 0 tI (f_Model_findTowns h0 b σ) 0 [(0, vR h0)] [] b σ
  unfold f_Model_findTowns
  refine V_iconst 1 rfl (show decode M_Model_findTowns.2.1 0 = .ok (.iconst 0, 1) by decide +kernel) (v := 0) rfl ?_
  refine V_istore_n (fun x1_1 => [(1, vI x1_1), (0, vR h0)]) 2 rfl (show decode M_Model_findTowns.2.1 1 = .ok (.istore_n 1, 1) by decide +kernel) (by decide) (fun _ => rfl) (fun x1_1 => ?_)
  refine V_iconst 3 rfl (show decode M_Model_findTowns.2.1 2 = .ok (.iconst 0, 1) by decide +kernel) (v := 0) rfl ?_
  refine V_istore_n (fun x2_2 => [(2, vI x2_2), (1, vI x1_1), (0, vR h0)]) 4 rfl (show decode M_Model_findTowns.2.1 3 = .ok (.istore_n 2, 1) by decide +kernel) (by decide) (fun _ => rfl) (fun x2_2 => ?_)
  refine V_sub [2, 1, 0] rfl ?_
  refine lp_P (fun (L4 : Int32 → Int32 → Bool → Sto → Rs Int32) => ∀ (x1 : Int32) (x2 : Int32) (b : Bool) (σ : Sto), V M_Model_findTowns 3 0 0 0 0 tI (L4 x1 x2 b σ) 4 [(0, vR h0), (1, vI x1), (2, vI x2)] [] b σ) ?_ ?_ fuel_ x1_1 x2_2 b σ
  · intro x1 x2 b σ; exact V_bad
  · intro L4 hL4 x1 x2 b σ
    unfold b_Model_findTowns_4
    refine V_iload_n 5 rfl (show decode M_Model_findTowns.2.1 4 = .ok (.iload_n 2, 1) by decide +kernel) 2 rfl ?_
    refine V_aload_n 6 rfl (show decode M_Model_findTowns.2.1 5 = .ok (.aload_n 0, 1) by decide +kernel) 0 rfl ?_
    refine V_get (j := 0) (v := vR (SR σ h0 0)) 9 rfl ck_Model (by decide) (by decide) (show decode M_Model_findTowns.2.1 6 = .ok (.getfield 7, 3) by decide +kernel) wd_1504 rfl ?_
    refine V_iconst 10 rfl (show decode M_Model_findTowns.2.1 9 = .ok (.iconst 2, 1) by decide +kernel) (v := 2) rfl ?_
    refine V_ald_int 11 rfl (show decode M_Model_findTowns.2.1 10 = .ok (.iaload, 1) by decide +kernel) ?_
    refine V_icmpge 14 88 rfl (show decode M_Model_findTowns.2.1 11 = .ok (.if_icmp .ge 77, 3) by decide +kernel) rfl ?_ ?_
    · skip
      refine V_aload_n 15 rfl (show decode M_Model_findTowns.2.1 14 = .ok (.aload_n 0, 1) by decide +kernel) 0 rfl ?_
      refine V_iload_n 16 rfl (show decode M_Model_findTowns.2.1 15 = .ok (.iload_n 2, 1) by decide +kernel) 2 rfl ?_
      refine V_callV (tb := tI) (as := [vI x2]) (rest := []) (na := 1) 19 rfl ck_Model (by decide) (s_Model_kindOf h0 x2 (((b && cK σ h0 13) && cA σ (SR σ h0 0) 21 (2 : Int32)) && cK σ h0 13) σ) rfl rfl (Nat.le_of_ble_eq_true rfl) (cal_Model_kindOf _ _ _ _ _ (by decide) (by decide) (by decide)) (show decode M_Model_findTowns.2.1 16 = .ok (.invokevirtual 132, 3) by decide +kernel) wd_1685 wd_1687 wd_123 (fun r_3 b_3 σ_3 => ?_)
      show V M_Model_findTowns 3 0 0 0 0 tI _ 19 [(0, vR h0), (1, vI x1), (2, vI x2)] [vI r_3] b_3 σ_3
      refine V_iconst 20 rfl (show decode M_Model_findTowns.2.1 19 = .ok (.iconst 3, 1) by decide +kernel) (v := 3) rfl ?_
      refine V_jn (fun (J82 : Int32 → Bool → Sto → Rs Int32) => ∀ (x1_82 : Int32) (b : Bool) (σ : Sto), V M_Model_findTowns 3 0 0 0 0 tI (J82 x1_82 b σ) 82 [(0, vR h0), (1, vI x1_82), (2, vI x2)] [] b σ) ?_ (fun J82 hJ82 => ?_)
      · intro x1_82 b σ
        refine V_iinc (fun x2_4 => [(2, vI x2_4), (0, vR h0), (1, vI x1_82)]) 85 rfl (show decode M_Model_findTowns.2.1 82 = .ok (.iinc 2 1, 3) by decide +kernel) 2 rfl (w := 1) rfl (by decide) (fun _ => rfl) (fun x2_4 => ?_)
        refine V_goto 4 (show decode M_Model_findTowns.2.1 85 = .ok (.goto (-81), 3) by decide +kernel) rfl ?_
        exact V_sub [1, 2, 0] rfl (hL4 x1_82 x2_4 b σ)
      · skip
        refine V_icmpeq 23 26 rfl (show decode M_Model_findTowns.2.1 20 = .ok (.if_icmp .eq 6, 3) by decide +kernel) rfl ?_ ?_
        · skip
          refine V_iload_n 27 rfl (show decode M_Model_findTowns.2.1 26 = .ok (.iload_n 1, 1) by decide +kernel) 1 rfl ?_
          refine V_istore_n (fun x3_5 => [(3, vI x3_5), (0, vR h0), (1, vI x1), (2, vI x2)]) 28 rfl (show decode M_Model_findTowns.2.1 27 = .ok (.istore_n 3, 1) by decide +kernel) (by decide) (fun _ => rfl) (fun x3_5 => ?_)
          refine V_sub [1, 2, 3, 0] rfl ?_
          refine lp_P (fun (L28 : Int32 → Bool → Sto → Rs Int32) => ∀ (x3 : Int32) (b : Bool) (σ : Sto), V M_Model_findTowns 3 0 0 0 0 tI (L28 x3 b σ) 28 [(0, vR h0), (1, vI x1), (2, vI x2), (3, vI x3)] [] b σ) ?_ ?_ fuel_ x3_5 b_3 σ_3
          · intro x3 b σ; exact V_bad
          · intro L28 hL28 x3 b σ
            unfold b_Model_findTowns_28
            refine V_iload_n 29 rfl (show decode M_Model_findTowns.2.1 28 = .ok (.iload_n 3, 1) by decide +kernel) 3 rfl ?_
            refine V_jn (fun (J72 : Bool → Sto → Rs Int32) => ∀ (b : Bool) (σ : Sto), V M_Model_findTowns 3 0 0 0 0 tI (J72 b σ) 72 [(0, vR h0), (1, vI x1), (2, vI x2), (3, vI x3)] [] b σ) ?_ (fun J72 hJ72 => ?_)
            · intro b σ
              refine V_aload_n 73 rfl (show decode M_Model_findTowns.2.1 72 = .ok (.aload_n 0, 1) by decide +kernel) 0 rfl ?_
              refine V_get (j := 25) (v := vR (SR σ h0 25)) 76 rfl ck_Model (by decide) (by decide) (show decode M_Model_findTowns.2.1 73 = .ok (.getfield 47, 3) by decide +kernel) wd_1529 rfl ?_
              refine V_iload_n 77 rfl (show decode M_Model_findTowns.2.1 76 = .ok (.iload_n 3, 1) by decide +kernel) 3 rfl ?_
              refine V_iload_n 78 rfl (show decode M_Model_findTowns.2.1 77 = .ok (.iload_n 2, 1) by decide +kernel) 2 rfl ?_
              refine V_ast_int 79 rfl (show decode M_Model_findTowns.2.1 78 = .ok (.iastore, 1) by decide +kernel) (fun σ_6 => ?_)
              refine V_iinc (fun x1_7 => [(1, vI x1_7), (0, vR h0), (2, vI x2), (3, vI x3)]) 82 rfl (show decode M_Model_findTowns.2.1 79 = .ok (.iinc 1 1, 3) by decide +kernel) 1 rfl (w := 1) rfl (by decide) (fun _ => rfl) (fun x1_7 => ?_)
              exact V_sub [1, 0, 2] rfl (hJ82 x1_7 ((b && cK σ h0 13) && cA σ (SR σ h0 25) 21 x3) σ_6)
            · skip
              refine V_ifle 32 72 rfl (show decode M_Model_findTowns.2.1 29 = .ok (.ifCond .le 43, 3) by decide +kernel) rfl ?_ ?_
              · skip
                refine V_aload_n 33 rfl (show decode M_Model_findTowns.2.1 32 = .ok (.aload_n 0, 1) by decide +kernel) 0 rfl ?_
                refine V_aload_n 34 rfl (show decode M_Model_findTowns.2.1 33 = .ok (.aload_n 0, 1) by decide +kernel) 0 rfl ?_
                refine V_get (j := 25) (v := vR (SR σ h0 25)) 37 rfl ck_Model (by decide) (by decide) (show decode M_Model_findTowns.2.1 34 = .ok (.getfield 47, 3) by decide +kernel) wd_1529 rfl ?_
                refine V_iload_n 38 rfl (show decode M_Model_findTowns.2.1 37 = .ok (.iload_n 3, 1) by decide +kernel) 3 rfl ?_
                refine V_iconst 39 rfl (show decode M_Model_findTowns.2.1 38 = .ok (.iconst 1, 1) by decide +kernel) (v := 1) rfl ?_
                refine V_isub 40 rfl (show decode M_Model_findTowns.2.1 39 = .ok (.isub, 1) by decide +kernel) ?_
                refine V_ald_int 41 rfl (show decode M_Model_findTowns.2.1 40 = .ok (.iaload, 1) by decide +kernel) ?_
                refine V_callV (tb := tI) (as := [vI (SI σ (SR σ h0 25) (ix (x3 - (1 : Int32))))]) (rest := []) (na := 1) 44 rfl ck_Model (by decide) (s_Model_mileOf h0 (SI σ (SR σ h0 25) (ix (x3 - (1 : Int32)))) (((b && cK σ h0 13) && cA σ (SR σ h0 25) 21 (x3 - (1 : Int32))) && cK σ h0 13) σ) rfl rfl (Nat.le_of_ble_eq_true rfl) (cal_Model_mileOf _ _ _ _ _ (by decide) (by decide) (by decide)) (show decode M_Model_findTowns.2.1 41 = .ok (.invokevirtual 92, 3) by decide +kernel) wd_1621 wd_1623 wd_112 (fun r_8 b_8 σ_8 => ?_)
                show V M_Model_findTowns 3 0 0 0 0 tI _ 44 [(0, vR h0), (1, vI x1), (2, vI x2), (3, vI x3)] [vI r_8] b_8 σ_8
                refine V_aload_n 45 rfl (show decode M_Model_findTowns.2.1 44 = .ok (.aload_n 0, 1) by decide +kernel) 0 rfl ?_
                refine V_iload_n 46 rfl (show decode M_Model_findTowns.2.1 45 = .ok (.iload_n 2, 1) by decide +kernel) 2 rfl ?_
                refine V_callV (tb := tI) (as := [vI x2]) (rest := [vI r_8]) (na := 1) 49 rfl ck_Model (by decide) (s_Model_mileOf h0 x2 (b_8 && cK σ_8 h0 13) σ_8) rfl rfl (Nat.le_of_ble_eq_true rfl) (cal_Model_mileOf _ _ _ _ _ (by decide) (by decide) (by decide)) (show decode M_Model_findTowns.2.1 46 = .ok (.invokevirtual 92, 3) by decide +kernel) wd_1621 wd_1623 wd_112 (fun r_9 b_9 σ_9 => ?_)
                show V M_Model_findTowns 3 0 0 0 0 tI _ 49 [(0, vR h0), (1, vI x1), (2, vI x2), (3, vI x3)] [vI r_9, vI r_8] b_9 σ_9
                refine V_icmple 52 72 rfl (show decode M_Model_findTowns.2.1 49 = .ok (.if_icmp .le 23, 3) by decide +kernel) rfl ?_ ?_
                · skip
                  refine V_aload_n 53 rfl (show decode M_Model_findTowns.2.1 52 = .ok (.aload_n 0, 1) by decide +kernel) 0 rfl ?_
                  refine V_get (j := 25) (v := vR (SR σ_9 h0 25)) 56 rfl ck_Model (by decide) (by decide) (show decode M_Model_findTowns.2.1 53 = .ok (.getfield 47, 3) by decide +kernel) wd_1529 rfl ?_
                  refine V_iload_n 57 rfl (show decode M_Model_findTowns.2.1 56 = .ok (.iload_n 3, 1) by decide +kernel) 3 rfl ?_
                  refine V_aload_n 58 rfl (show decode M_Model_findTowns.2.1 57 = .ok (.aload_n 0, 1) by decide +kernel) 0 rfl ?_
                  refine V_get (j := 25) (v := vR (SR σ_9 h0 25)) 61 rfl ck_Model (by decide) (by decide) (show decode M_Model_findTowns.2.1 58 = .ok (.getfield 47, 3) by decide +kernel) wd_1529 rfl ?_
                  refine V_iload_n 62 rfl (show decode M_Model_findTowns.2.1 61 = .ok (.iload_n 3, 1) by decide +kernel) 3 rfl ?_
                  refine V_iconst 63 rfl (show decode M_Model_findTowns.2.1 62 = .ok (.iconst 1, 1) by decide +kernel) (v := 1) rfl ?_
                  refine V_isub 64 rfl (show decode M_Model_findTowns.2.1 63 = .ok (.isub, 1) by decide +kernel) ?_
                  refine V_ald_int 65 rfl (show decode M_Model_findTowns.2.1 64 = .ok (.iaload, 1) by decide +kernel) ?_
                  refine V_ast_int 66 rfl (show decode M_Model_findTowns.2.1 65 = .ok (.iastore, 1) by decide +kernel) (fun σ_10 => ?_)
                  refine V_iinc (fun x3_11 => [(3, vI x3_11), (0, vR h0), (1, vI x1), (2, vI x2)]) 69 rfl (show decode M_Model_findTowns.2.1 66 = .ok (.iinc 3 (-1), 3) by decide +kernel) 3 rfl (w := -1) rfl (by decide) (fun _ => rfl) (fun x3_11 => ?_)
                  refine V_goto 28 (show decode M_Model_findTowns.2.1 69 = .ok (.goto (-41), 3) by decide +kernel) rfl ?_
                  exact V_sub [1, 2, 3, 0] rfl (hL28 x3_11 ((((b_9 && cK σ_9 h0 13) && cK σ_9 h0 13) && cA σ_9 (SR σ_9 h0 25) 21 (x3 - (1 : Int32))) && cA σ_9 (SR σ_9 h0 25) 21 x3) σ_10)
                · skip
                  exact V_sub [0, 1, 2, 3] rfl (hJ72 b_9 σ_9)
              · skip
                exact V_sub [0, 1, 2, 3] rfl (hJ72 b σ)
        · skip
          refine V_goto 82 (show decode M_Model_findTowns.2.1 23 = .ok (.goto 59, 3) by decide +kernel) rfl ?_
          exact V_sub [0, 1, 2] rfl (hJ82 x1 b_3 σ_3)
    · skip
      refine V_iload_n 89 rfl (show decode M_Model_findTowns.2.1 88 = .ok (.iload_n 1, 1) by decide +kernel) 1 rfl ?_
      exact V_iret rfl (by decide) (by decide) (show decode M_Model_findTowns.2.1 89 = .ok (.ireturn, 1) by decide +kernel)
theorem cal_Model_findTowns (d mc ms k n : Nat) (h1 : 3 + 1 ≤ d) (h2 : k + 0 ≤ mc) (h3 : n + 0 ≤ ms) : Cal M_Model_findTowns 3 0 0 0 d mc ms k n := ⟨wd_1991, wd_181, by decide, h1, by decide, h2, h3⟩
abbrev M_Model_finds : MD := (⟨"LongTrailModel", "finds", "(II)I"⟩, prog_14_method_65_code, 3, (some FieldType.int))
def f_Model_finds (h0 : Nat) (x1 : Int32) (x2 : Int32) (b : Bool) (σ : Sto) : Rs Int32 := (bd_ (f_Model_isWalker h0 x1 (b && cK σ h0 13) σ) (fun (r_1 : Int32) (b_1 : Bool) (σ_1 : Sto) => (lt_ (fun (b : Bool) (σ : Sto) => ((-1000000001 : Int32), b, σ)) (fun J20 => (if r_1 = 0 then (J20 b_1 σ_1) else (bd_ (f_Model_isIn ((x2).toInt64) (1 : Int64) (20 : Int64) b_1 σ_1) (fun (r_2 : Int32) (b_2 : Bool) (σ_2 : Sto) => (if r_2 = 0 then (J20 b_2 σ_2) else (bd_ (f_Model_walks h0 x1 (b_2 && cK σ_2 h0 13) σ_2) (fun (r_3 : Int32) (b_3 : Bool) (σ_3 : Sto) => (if r_3 = 0 then ((-1000000002 : Int32), b_3, σ_3) else (bd_ (f_Model_eats h0 x1 x2 (b_3 && cK σ_3 h0 13) σ_3) (fun (r_4 : Unit) (b_4 : Bool) (σ_4 : Sto) => (bd_ (f_Model_walkerAt h0 x1 ((b_4 && cK σ_4 h0 13) && cK σ_4 h0 13) σ_4) (fun (r_5 : Int32) (b_5 : Bool) (σ_5 : Sto) => ((SI σ_5 (SR σ_4 h0 0) (ix (r_5 + (3 : Int32)))), (b_5 && cA σ_5 (SR σ_4 h0 0) 21 (r_5 + (3 : Int32))), σ_5))))))))))))))))
set_option maxRecDepth 100000 in
set_option maxHeartbeats 4000000 in
theorem s_Model_finds : ∀ (h0 : Nat) (x1 : Int32) (x2 : Int32) (b : Bool) (σ : Sto), Snd M_Model_finds 3 0 0 [vR h0, vI x1, vI x2] b σ (tI (f_Model_finds h0 x1 x2 b σ).1) (f_Model_finds h0 x1 x2 b σ).2.1 (f_Model_finds h0 x1 x2 b σ).2.2 := by
  intro h0 x1 x2 b σ
  refine Snd_of (tv := tI) (by decide) (Nat.le_of_ble_eq_true rfl) ?_
  show V M_Model_finds 3 0 0 0 0 tI (f_Model_finds h0 x1 x2 b σ) 0 [(0, vR h0), (1, vI x1), (2, vI x2)] [] b σ
  unfold f_Model_finds
  refine V_aload_n 1 rfl (show decode M_Model_finds.2.1 0 = .ok (.aload_n 0, 1) by decide +kernel) 0 rfl ?_
  refine V_iload_n 2 rfl (show decode M_Model_finds.2.1 1 = .ok (.iload_n 1, 1) by decide +kernel) 1 rfl ?_
  refine V_callV (tb := tI) (as := [vI x1]) (rest := []) (na := 1) 5 rfl ck_Model (by decide) (s_Model_isWalker h0 x1 (b && cK σ h0 13) σ) rfl rfl (Nat.le_of_ble_eq_true rfl) (cal_Model_isWalker _ _ _ _ _ (by decide) (by decide) (by decide)) (show decode M_Model_finds.2.1 2 = .ok (.invokevirtual 265, 3) by decide +kernel) wd_1837 wd_1839 wd_143 (fun r_1 b_1 σ_1 => ?_)
  show V M_Model_finds 3 0 0 0 0 tI _ 5 [(0, vR h0), (1, vI x1), (2, vI x2)] [vI r_1] b_1 σ_1
  refine V_jn (fun (J20 : Bool → Sto → Rs Int32) => ∀ (b : Bool) (σ : Sto), V M_Model_finds 3 0 0 0 0 tI (J20 b σ) 20 [] [] b σ) ?_ (fun J20 hJ20 => ?_)
  · intro b σ
    refine V_ldc 22 rfl (show decode M_Model_finds.2.1 20 = .ok (.ldc 91, 2) by decide +kernel) wd_1620 ?_
    exact V_iret rfl (by decide) (by decide) (show decode M_Model_finds.2.1 22 = .ok (.ireturn, 1) by decide +kernel)
  · skip
    refine V_ifeq 8 20 rfl (show decode M_Model_finds.2.1 5 = .ok (.ifCond .eq 15, 3) by decide +kernel) rfl ?_ ?_
    · skip
      exact V_sub [] rfl (hJ20 b_1 σ_1)
    · skip
      refine V_iload_n 9 rfl (show decode M_Model_finds.2.1 8 = .ok (.iload_n 2, 1) by decide +kernel) 2 rfl ?_
      refine V_i2l 10 rfl (show decode M_Model_finds.2.1 9 = .ok (.i2l, 1) by decide +kernel) ?_
      refine V_lconst 11 rfl (show decode M_Model_finds.2.1 10 = .ok (.lconst 1, 1) by decide +kernel) (v := 1) rfl ?_
      refine V_ldc2 14 rfl (show decode M_Model_finds.2.1 11 = .ok (.ldc2_w 87, 3) by decide +kernel) wd_1615 ?_
      refine V_callS (tb := tI) (as := [vL ((x2).toInt64), vL (1 : Int64), vL (20 : Int64)]) (rest := []) (na := 3) 17 rfl (s_Model_isIn ((x2).toInt64) (1 : Int64) (20 : Int64) b_1 σ_1) rfl rfl (Nat.le_of_ble_eq_true rfl) (cal_Model_isIn _ _ _ _ _ (by decide) (by decide) (by decide)) (show decode M_Model_finds.2.1 14 = .ok (.invokestatic 76, 3) by decide +kernel) wd_1617 wd_1618 (fun r_2 b_2 σ_2 => ?_)
      show V M_Model_finds 3 0 0 0 0 tI _ 17 [(0, vR h0), (1, vI x1), (2, vI x2)] [vI r_2] b_2 σ_2
      refine V_ifne 20 23 rfl (show decode M_Model_finds.2.1 17 = .ok (.ifCond .ne 6, 3) by decide +kernel) rfl ?_ ?_
      · skip
        exact V_sub [] rfl (hJ20 b_2 σ_2)
      · skip
        refine V_aload_n 24 rfl (show decode M_Model_finds.2.1 23 = .ok (.aload_n 0, 1) by decide +kernel) 0 rfl ?_
        refine V_iload_n 25 rfl (show decode M_Model_finds.2.1 24 = .ok (.iload_n 1, 1) by decide +kernel) 1 rfl ?_
        refine V_callV (tb := tI) (as := [vI x1]) (rest := []) (na := 1) 28 rfl ck_Model (by decide) (s_Model_walks h0 x1 (b_2 && cK σ_2 h0 13) σ_2) rfl rfl (Nat.le_of_ble_eq_true rfl) (cal_Model_walks _ _ _ _ _ (by decide) (by decide) (by decide)) (show decode M_Model_finds.2.1 25 = .ok (.invokevirtual 120, 3) by decide +kernel) wd_1669 wd_1671 wd_120 (fun r_3 b_3 σ_3 => ?_)
        show V M_Model_finds 3 0 0 0 0 tI _ 28 [(0, vR h0), (1, vI x1), (2, vI x2)] [vI r_3] b_3 σ_3
        refine V_ifne 31 34 rfl (show decode M_Model_finds.2.1 28 = .ok (.ifCond .ne 6, 3) by decide +kernel) rfl ?_ ?_
        · skip
          refine V_ldc 33 rfl (show decode M_Model_finds.2.1 31 = .ok (.ldc 98, 2) by decide +kernel) wd_1633 ?_
          exact V_iret rfl (by decide) (by decide) (show decode M_Model_finds.2.1 33 = .ok (.ireturn, 1) by decide +kernel)
        · skip
          refine V_aload_n 35 rfl (show decode M_Model_finds.2.1 34 = .ok (.aload_n 0, 1) by decide +kernel) 0 rfl ?_
          refine V_iload_n 36 rfl (show decode M_Model_finds.2.1 35 = .ok (.iload_n 1, 1) by decide +kernel) 1 rfl ?_
          refine V_iload_n 37 rfl (show decode M_Model_finds.2.1 36 = .ok (.iload_n 2, 1) by decide +kernel) 2 rfl ?_
          refine V_callV (tb := tU) (as := [vI x1, vI x2]) (rest := []) (na := 2) 40 rfl ck_Model (by decide) (s_Model_eats h0 x1 x2 (b_3 && cK σ_3 h0 13) σ_3) rfl rfl (Nat.le_of_ble_eq_true rfl) (cal_Model_eats _ _ _ _ _ (by decide) (by decide) (by decide)) (show decode M_Model_finds.2.1 37 = .ok (.invokevirtual 276, 3) by decide +kernel) wd_1862 wd_1864 wd_146 (fun r_4 b_4 σ_4 => ?_)
          show V M_Model_finds 3 0 0 0 0 tI _ 40 [(0, vR h0), (1, vI x1), (2, vI x2)] [] b_4 σ_4
          refine V_aload_n 41 rfl (show decode M_Model_finds.2.1 40 = .ok (.aload_n 0, 1) by decide +kernel) 0 rfl ?_
          refine V_get (j := 0) (v := vR (SR σ_4 h0 0)) 44 rfl ck_Model (by decide) (by decide) (show decode M_Model_finds.2.1 41 = .ok (.getfield 7, 3) by decide +kernel) wd_1504 rfl ?_
          refine V_aload_n 45 rfl (show decode M_Model_finds.2.1 44 = .ok (.aload_n 0, 1) by decide +kernel) 0 rfl ?_
          refine V_iload_n 46 rfl (show decode M_Model_finds.2.1 45 = .ok (.iload_n 1, 1) by decide +kernel) 1 rfl ?_
          refine V_callV (tb := tI) (as := [vI x1]) (rest := [vR (SR σ_4 h0 0)]) (na := 1) 49 rfl ck_Model (by decide) (s_Model_walkerAt h0 x1 ((b_4 && cK σ_4 h0 13) && cK σ_4 h0 13) σ_4) rfl rfl (Nat.le_of_ble_eq_true rfl) (cal_Model_walkerAt _ _ _ _ _ (by decide) (by decide) (by decide)) (show decode M_Model_finds.2.1 46 = .ok (.invokevirtual 84, 3) by decide +kernel) wd_1673 wd_1675 wd_121 (fun r_5 b_5 σ_5 => ?_)
          show V M_Model_finds 3 0 0 0 0 tI _ 49 [(0, vR h0), (1, vI x1), (2, vI x2)] [vI r_5, vR (SR σ_4 h0 0)] b_5 σ_5
          refine V_iconst 50 rfl (show decode M_Model_finds.2.1 49 = .ok (.iconst 3, 1) by decide +kernel) (v := 3) rfl ?_
          refine V_iadd 51 rfl (show decode M_Model_finds.2.1 50 = .ok (.iadd, 1) by decide +kernel) ?_
          refine V_ald_int 52 rfl (show decode M_Model_finds.2.1 51 = .ok (.iaload, 1) by decide +kernel) ?_
          exact V_iret rfl (by decide) (by decide) (show decode M_Model_finds.2.1 52 = .ok (.ireturn, 1) by decide +kernel)
theorem cal_Model_finds (d mc ms k n : Nat) (h1 : 3 + 1 ≤ d) (h2 : k + 0 ≤ mc) (h3 : n + 0 ≤ ms) : Cal M_Model_finds 3 0 0 2 d mc ms k n := ⟨wd_1861, wd_181, by decide, h1, by decide, h2, h3⟩
abbrev M_Model_fire : MD := (⟨"LongTrailModel", "fire", "(III)I"⟩, prog_14_method_31_code, 5, (some FieldType.int))
def f_Model_fire (h0 : Nat) (x1 : Int32) (x2 : Int32) (x3 : Int32) (b : Bool) (σ : Sto) : Rs Int32 := (bd_ (f_Model_isMile h0 x1 (b && cK σ h0 13) σ) (fun (r_1 : Int32) (b_1 : Bool) (σ_1 : Sto) => (lt_ (fun (b : Bool) (σ : Sto) => ((-1000000001 : Int32), b, σ)) (fun J49 => (if r_1 = 0 then (J49 b_1 σ_1) else (bd_ (f_Model_isMile h0 x2 (b_1 && cK σ_1 h0 13) σ_1) (fun (r_2 : Int32) (b_2 : Bool) (σ_2 : Sto) => (if r_2 = 0 then (J49 b_2 σ_2) else (if x1 < x2 then (if x3 < 0 then (J49 b_2 σ_2) else (if (x3 - x3 / (1000 : Int32) * (1000 : Int32)) < (x3 / (1000 : Int32)) then (J49 ((b_2 && !decide ((1000 : Int32) = 0)) && !decide ((1000 : Int32) = 0)) σ_2) else (if (999 : Int32) < (x3 / (1000 : Int32)) then (J49 (((b_2 && !decide ((1000 : Int32) = 0)) && !decide ((1000 : Int32) = 0)) && !decide ((1000 : Int32) = 0)) σ_2) else (if (SI σ_2 (SR σ_2 h0 0) (ix (3 : Int32))) = (6 : Int32) then ((-1000000003 : Int32), (((((b_2 && !decide ((1000 : Int32) = 0)) && !decide ((1000 : Int32) = 0)) && !decide ((1000 : Int32) = 0)) && cK σ_2 h0 13) && cA σ_2 (SR σ_2 h0 0) 21 (3 : Int32)), σ_2) else (bd_ (f_Model_fireAt h0 (SI σ_2 (SR σ_2 h0 0) (ix (3 : Int32))) ((((((((b_2 && !decide ((1000 : Int32) = 0)) && !decide ((1000 : Int32) = 0)) && !decide ((1000 : Int32) = 0)) && cK σ_2 h0 13) && cA σ_2 (SR σ_2 h0 0) 21 (3 : Int32)) && cK σ_2 h0 13) && cA σ_2 (SR σ_2 h0 0) 21 (3 : Int32)) && cK σ_2 h0 13) σ_2) (fun (r_3 : Int32) (b_3 : Bool) (σ_3 : Sto) => (lt_ r_3 (fun (x4_4 : Int32) => (lt_ (pI σ_3 (SR σ_3 h0 0) (ix (x4_4 + (0 : Int32))) x1) (fun (σ_5 : Sto) => (lt_ (pI σ_5 (SR σ_5 h0 0) (ix (x4_4 + (1 : Int32))) x2) (fun (σ_6 : Sto) => (lt_ (pI σ_6 (SR σ_6 h0 0) (ix (x4_4 + (2 : Int32))) (x3 / (1000 : Int32))) (fun (σ_7 : Sto) => (lt_ (pI σ_7 (SR σ_7 h0 0) (ix (x4_4 + (3 : Int32))) (x3 - x3 / (1000 : Int32) * (1000 : Int32))) (fun (σ_8 : Sto) => (lt_ (pI σ_8 (SR σ_8 h0 0) (ix (3 : Int32)) ((SI σ_8 (SR σ_8 h0 0) (ix (3 : Int32))) + (1 : Int32))) (fun (σ_9 : Sto) => (((SI σ_9 (SR σ_9 h0 0) (ix (3 : Int32))) - (1 : Int32)), (((((((((((((((b_3 && cK σ_3 h0 13) && cA σ_3 (SR σ_3 h0 0) 21 (x4_4 + (0 : Int32))) && cK σ_5 h0 13) && cA σ_5 (SR σ_5 h0 0) 21 (x4_4 + (1 : Int32))) && cK σ_6 h0 13) && !decide ((1000 : Int32) = 0)) && cA σ_6 (SR σ_6 h0 0) 21 (x4_4 + (2 : Int32))) && cK σ_7 h0 13) && !decide ((1000 : Int32) = 0)) && cA σ_7 (SR σ_7 h0 0) 21 (x4_4 + (3 : Int32))) && cK σ_8 h0 13) && cA σ_8 (SR σ_8 h0 0) 21 (3 : Int32)) && cA σ_8 (SR σ_8 h0 0) 21 (3 : Int32)) && cK σ_9 h0 13) && cA σ_9 (SR σ_9 h0 0) 21 (3 : Int32)), σ_9))))))))))))))))))) else (J49 b_2 σ_2))))))))))
set_option maxRecDepth 100000 in
set_option maxHeartbeats 4000000 in
theorem s_Model_fire : ∀ (h0 : Nat) (x1 : Int32) (x2 : Int32) (x3 : Int32) (b : Bool) (σ : Sto), Snd M_Model_fire 3 0 0 [vR h0, vI x1, vI x2, vI x3] b σ (tI (f_Model_fire h0 x1 x2 x3 b σ).1) (f_Model_fire h0 x1 x2 x3 b σ).2.1 (f_Model_fire h0 x1 x2 x3 b σ).2.2 := by
  intro h0 x1 x2 x3 b σ
  refine Snd_of (tv := tI) (by decide) (Nat.le_of_ble_eq_true rfl) ?_
  show V M_Model_fire 3 0 0 0 0 tI (f_Model_fire h0 x1 x2 x3 b σ) 0 [(0, vR h0), (1, vI x1), (2, vI x2), (3, vI x3)] [] b σ
  unfold f_Model_fire
  refine V_aload_n 1 rfl (show decode M_Model_fire.2.1 0 = .ok (.aload_n 0, 1) by decide +kernel) 0 rfl ?_
  refine V_iload_n 2 rfl (show decode M_Model_fire.2.1 1 = .ok (.iload_n 1, 1) by decide +kernel) 1 rfl ?_
  refine V_callV (tb := tI) (as := [vI x1]) (rest := []) (na := 1) 5 rfl ck_Model (by decide) (s_Model_isMile h0 x1 (b && cK σ h0 13) σ) rfl rfl (Nat.le_of_ble_eq_true rfl) (cal_Model_isMile _ _ _ _ _ (by decide) (by decide) (by decide)) (show decode M_Model_fire.2.1 2 = .ok (.invokevirtual 113, 3) by decide +kernel) wd_1648 wd_1650 wd_116 (fun r_1 b_1 σ_1 => ?_)
  show V M_Model_fire 3 0 0 0 0 tI _ 5 [(0, vR h0), (1, vI x1), (2, vI x2), (3, vI x3)] [vI r_1] b_1 σ_1
  refine V_jn (fun (J49 : Bool → Sto → Rs Int32) => ∀ (b : Bool) (σ : Sto), V M_Model_fire 3 0 0 0 0 tI (J49 b σ) 49 [] [] b σ) ?_ (fun J49 hJ49 => ?_)
  · intro b σ
    refine V_ldc 51 rfl (show decode M_Model_fire.2.1 49 = .ok (.ldc 91, 2) by decide +kernel) wd_1620 ?_
    exact V_iret rfl (by decide) (by decide) (show decode M_Model_fire.2.1 51 = .ok (.ireturn, 1) by decide +kernel)
  · skip
    refine V_ifeq 8 49 rfl (show decode M_Model_fire.2.1 5 = .ok (.ifCond .eq 44, 3) by decide +kernel) rfl ?_ ?_
    · skip
      exact V_sub [] rfl (hJ49 b_1 σ_1)
    · skip
      refine V_aload_n 9 rfl (show decode M_Model_fire.2.1 8 = .ok (.aload_n 0, 1) by decide +kernel) 0 rfl ?_
      refine V_iload_n 10 rfl (show decode M_Model_fire.2.1 9 = .ok (.iload_n 2, 1) by decide +kernel) 2 rfl ?_
      refine V_callV (tb := tI) (as := [vI x2]) (rest := []) (na := 1) 13 rfl ck_Model (by decide) (s_Model_isMile h0 x2 (b_1 && cK σ_1 h0 13) σ_1) rfl rfl (Nat.le_of_ble_eq_true rfl) (cal_Model_isMile _ _ _ _ _ (by decide) (by decide) (by decide)) (show decode M_Model_fire.2.1 10 = .ok (.invokevirtual 113, 3) by decide +kernel) wd_1648 wd_1650 wd_116 (fun r_2 b_2 σ_2 => ?_)
      show V M_Model_fire 3 0 0 0 0 tI _ 13 [(0, vR h0), (1, vI x1), (2, vI x2), (3, vI x3)] [vI r_2] b_2 σ_2
      refine V_ifeq 16 49 rfl (show decode M_Model_fire.2.1 13 = .ok (.ifCond .eq 36, 3) by decide +kernel) rfl ?_ ?_
      · skip
        exact V_sub [] rfl (hJ49 b_2 σ_2)
      · skip
        refine V_iload_n 17 rfl (show decode M_Model_fire.2.1 16 = .ok (.iload_n 2, 1) by decide +kernel) 2 rfl ?_
        refine V_iload_n 18 rfl (show decode M_Model_fire.2.1 17 = .ok (.iload_n 1, 1) by decide +kernel) 1 rfl ?_
        refine V_icmple 21 49 rfl (show decode M_Model_fire.2.1 18 = .ok (.if_icmp .le 31, 3) by decide +kernel) rfl ?_ ?_
        · skip
          refine V_iload_n 22 rfl (show decode M_Model_fire.2.1 21 = .ok (.iload_n 3, 1) by decide +kernel) 3 rfl ?_
          refine V_iflt 25 49 rfl (show decode M_Model_fire.2.1 22 = .ok (.ifCond .lt 27, 3) by decide +kernel) rfl ?_ ?_
          · skip
            exact V_sub [] rfl (hJ49 b_2 σ_2)
          · skip
            refine V_iload_n 26 rfl (show decode M_Model_fire.2.1 25 = .ok (.iload_n 3, 1) by decide +kernel) 3 rfl ?_
            refine V_sipush 29 rfl (show decode M_Model_fire.2.1 26 = .ok (.sipush 1000, 3) by decide +kernel) (v := 1000) rfl ?_
            refine V_idiv 30 rfl (show decode M_Model_fire.2.1 29 = .ok (.idiv, 1) by decide +kernel) ?_
            refine V_iload_n 31 rfl (show decode M_Model_fire.2.1 30 = .ok (.iload_n 3, 1) by decide +kernel) 3 rfl ?_
            refine V_sipush 34 rfl (show decode M_Model_fire.2.1 31 = .ok (.sipush 1000, 3) by decide +kernel) (v := 1000) rfl ?_
            refine V_irem 35 rfl (show decode M_Model_fire.2.1 34 = .ok (.irem, 1) by decide +kernel) ?_
            refine V_icmpgt 38 49 rfl (show decode M_Model_fire.2.1 35 = .ok (.if_icmp .gt 14, 3) by decide +kernel) rfl ?_ ?_
            · skip
              exact V_sub [] rfl (hJ49 ((b_2 && !decide ((1000 : Int32) = 0)) && !decide ((1000 : Int32) = 0)) σ_2)
            · skip
              refine V_iload_n 39 rfl (show decode M_Model_fire.2.1 38 = .ok (.iload_n 3, 1) by decide +kernel) 3 rfl ?_
              refine V_sipush 42 rfl (show decode M_Model_fire.2.1 39 = .ok (.sipush 1000, 3) by decide +kernel) (v := 1000) rfl ?_
              refine V_idiv 43 rfl (show decode M_Model_fire.2.1 42 = .ok (.idiv, 1) by decide +kernel) ?_
              refine V_sipush 46 rfl (show decode M_Model_fire.2.1 43 = .ok (.sipush 999, 3) by decide +kernel) (v := 999) rfl ?_
              refine V_icmple 49 52 rfl (show decode M_Model_fire.2.1 46 = .ok (.if_icmp .le 6, 3) by decide +kernel) rfl ?_ ?_
              · skip
                exact V_sub [] rfl (hJ49 (((b_2 && !decide ((1000 : Int32) = 0)) && !decide ((1000 : Int32) = 0)) && !decide ((1000 : Int32) = 0)) σ_2)
              · skip
                refine V_aload_n 53 rfl (show decode M_Model_fire.2.1 52 = .ok (.aload_n 0, 1) by decide +kernel) 0 rfl ?_
                refine V_get (j := 0) (v := vR (SR σ_2 h0 0)) 56 rfl ck_Model (by decide) (by decide) (show decode M_Model_fire.2.1 53 = .ok (.getfield 7, 3) by decide +kernel) wd_1504 rfl ?_
                refine V_iconst 57 rfl (show decode M_Model_fire.2.1 56 = .ok (.iconst 3, 1) by decide +kernel) (v := 3) rfl ?_
                refine V_ald_int 58 rfl (show decode M_Model_fire.2.1 57 = .ok (.iaload, 1) by decide +kernel) ?_
                refine V_bipush 60 rfl (show decode M_Model_fire.2.1 58 = .ok (.bipush 6, 2) by decide +kernel) (v := 6) rfl ?_
                refine V_icmpne 63 66 rfl (show decode M_Model_fire.2.1 60 = .ok (.if_icmp .ne 6, 3) by decide +kernel) rfl ?_ ?_
                · skip
                  refine V_ldc 65 rfl (show decode M_Model_fire.2.1 63 = .ok (.ldc 119, 2) by decide +kernel) wd_1656 ?_
                  exact V_iret rfl (by decide) (by decide) (show decode M_Model_fire.2.1 65 = .ok (.ireturn, 1) by decide +kernel)
                · skip
                  refine V_aload_n 67 rfl (show decode M_Model_fire.2.1 66 = .ok (.aload_n 0, 1) by decide +kernel) 0 rfl ?_
                  refine V_aload_n 68 rfl (show decode M_Model_fire.2.1 67 = .ok (.aload_n 0, 1) by decide +kernel) 0 rfl ?_
                  refine V_get (j := 0) (v := vR (SR σ_2 h0 0)) 71 rfl ck_Model (by decide) (by decide) (show decode M_Model_fire.2.1 68 = .ok (.getfield 7, 3) by decide +kernel) wd_1504 rfl ?_
                  refine V_iconst 72 rfl (show decode M_Model_fire.2.1 71 = .ok (.iconst 3, 1) by decide +kernel) (v := 3) rfl ?_
                  refine V_ald_int 73 rfl (show decode M_Model_fire.2.1 72 = .ok (.iaload, 1) by decide +kernel) ?_
                  refine V_callV (tb := tI) (as := [vI (SI σ_2 (SR σ_2 h0 0) (ix (3 : Int32)))]) (rest := []) (na := 1) 76 rfl ck_Model (by decide) (s_Model_fireAt h0 (SI σ_2 (SR σ_2 h0 0) (ix (3 : Int32))) ((((((((b_2 && !decide ((1000 : Int32) = 0)) && !decide ((1000 : Int32) = 0)) && !decide ((1000 : Int32) = 0)) && cK σ_2 h0 13) && cA σ_2 (SR σ_2 h0 0) 21 (3 : Int32)) && cK σ_2 h0 13) && cA σ_2 (SR σ_2 h0 0) 21 (3 : Int32)) && cK σ_2 h0 13) σ_2) rfl rfl (Nat.le_of_ble_eq_true rfl) (cal_Model_fireAt _ _ _ _ _ (by decide) (by decide) (by decide)) (show decode M_Model_fire.2.1 73 = .ok (.invokevirtual 95, 3) by decide +kernel) wd_1629 wd_1631 wd_114 (fun r_3 b_3 σ_3 => ?_)
                  show V M_Model_fire 3 0 0 0 0 tI _ 76 [(0, vR h0), (1, vI x1), (2, vI x2), (3, vI x3)] [vI r_3] b_3 σ_3
                  refine V_istore (fun x4_4 => [(4, vI x4_4), (0, vR h0), (1, vI x1), (2, vI x2), (3, vI x3)]) 78 rfl (show decode M_Model_fire.2.1 76 = .ok (.istore 4, 2) by decide +kernel) (by decide) (fun _ => rfl) (fun x4_4 => ?_)
                  refine V_aload_n 79 rfl (show decode M_Model_fire.2.1 78 = .ok (.aload_n 0, 1) by decide +kernel) 1 rfl ?_
                  refine V_get (j := 0) (v := vR (SR σ_3 h0 0)) 82 rfl ck_Model (by decide) (by decide) (show decode M_Model_fire.2.1 79 = .ok (.getfield 7, 3) by decide +kernel) wd_1504 rfl ?_
                  refine V_iload 84 rfl (show decode M_Model_fire.2.1 82 = .ok (.iload 4, 2) by decide +kernel) 0 rfl ?_
                  refine V_iconst 85 rfl (show decode M_Model_fire.2.1 84 = .ok (.iconst 0, 1) by decide +kernel) (v := 0) rfl ?_
                  refine V_iadd 86 rfl (show decode M_Model_fire.2.1 85 = .ok (.iadd, 1) by decide +kernel) ?_
                  refine V_iload_n 87 rfl (show decode M_Model_fire.2.1 86 = .ok (.iload_n 1, 1) by decide +kernel) 2 rfl ?_
                  refine V_ast_int 88 rfl (show decode M_Model_fire.2.1 87 = .ok (.iastore, 1) by decide +kernel) (fun σ_5 => ?_)
                  refine V_aload_n 89 rfl (show decode M_Model_fire.2.1 88 = .ok (.aload_n 0, 1) by decide +kernel) 1 rfl ?_
                  refine V_get (j := 0) (v := vR (SR σ_5 h0 0)) 92 rfl ck_Model (by decide) (by decide) (show decode M_Model_fire.2.1 89 = .ok (.getfield 7, 3) by decide +kernel) wd_1504 rfl ?_
                  refine V_iload 94 rfl (show decode M_Model_fire.2.1 92 = .ok (.iload 4, 2) by decide +kernel) 0 rfl ?_
                  refine V_iconst 95 rfl (show decode M_Model_fire.2.1 94 = .ok (.iconst 1, 1) by decide +kernel) (v := 1) rfl ?_
                  refine V_iadd 96 rfl (show decode M_Model_fire.2.1 95 = .ok (.iadd, 1) by decide +kernel) ?_
                  refine V_iload_n 97 rfl (show decode M_Model_fire.2.1 96 = .ok (.iload_n 2, 1) by decide +kernel) 3 rfl ?_
                  refine V_ast_int 98 rfl (show decode M_Model_fire.2.1 97 = .ok (.iastore, 1) by decide +kernel) (fun σ_6 => ?_)
                  refine V_aload_n 99 rfl (show decode M_Model_fire.2.1 98 = .ok (.aload_n 0, 1) by decide +kernel) 1 rfl ?_
                  refine V_get (j := 0) (v := vR (SR σ_6 h0 0)) 102 rfl ck_Model (by decide) (by decide) (show decode M_Model_fire.2.1 99 = .ok (.getfield 7, 3) by decide +kernel) wd_1504 rfl ?_
                  refine V_iload 104 rfl (show decode M_Model_fire.2.1 102 = .ok (.iload 4, 2) by decide +kernel) 0 rfl ?_
                  refine V_iconst 105 rfl (show decode M_Model_fire.2.1 104 = .ok (.iconst 2, 1) by decide +kernel) (v := 2) rfl ?_
                  refine V_iadd 106 rfl (show decode M_Model_fire.2.1 105 = .ok (.iadd, 1) by decide +kernel) ?_
                  refine V_iload_n 107 rfl (show decode M_Model_fire.2.1 106 = .ok (.iload_n 3, 1) by decide +kernel) 4 rfl ?_
                  refine V_sipush 110 rfl (show decode M_Model_fire.2.1 107 = .ok (.sipush 1000, 3) by decide +kernel) (v := 1000) rfl ?_
                  refine V_idiv 111 rfl (show decode M_Model_fire.2.1 110 = .ok (.idiv, 1) by decide +kernel) ?_
                  refine V_ast_int 112 rfl (show decode M_Model_fire.2.1 111 = .ok (.iastore, 1) by decide +kernel) (fun σ_7 => ?_)
                  refine V_aload_n 113 rfl (show decode M_Model_fire.2.1 112 = .ok (.aload_n 0, 1) by decide +kernel) 1 rfl ?_
                  refine V_get (j := 0) (v := vR (SR σ_7 h0 0)) 116 rfl ck_Model (by decide) (by decide) (show decode M_Model_fire.2.1 113 = .ok (.getfield 7, 3) by decide +kernel) wd_1504 rfl ?_
                  refine V_iload 118 rfl (show decode M_Model_fire.2.1 116 = .ok (.iload 4, 2) by decide +kernel) 0 rfl ?_
                  refine V_iconst 119 rfl (show decode M_Model_fire.2.1 118 = .ok (.iconst 3, 1) by decide +kernel) (v := 3) rfl ?_
                  refine V_iadd 120 rfl (show decode M_Model_fire.2.1 119 = .ok (.iadd, 1) by decide +kernel) ?_
                  refine V_iload_n 121 rfl (show decode M_Model_fire.2.1 120 = .ok (.iload_n 3, 1) by decide +kernel) 4 rfl ?_
                  refine V_sipush 124 rfl (show decode M_Model_fire.2.1 121 = .ok (.sipush 1000, 3) by decide +kernel) (v := 1000) rfl ?_
                  refine V_irem 125 rfl (show decode M_Model_fire.2.1 124 = .ok (.irem, 1) by decide +kernel) ?_
                  refine V_ast_int 126 rfl (show decode M_Model_fire.2.1 125 = .ok (.iastore, 1) by decide +kernel) (fun σ_8 => ?_)
                  refine V_aload_n 127 rfl (show decode M_Model_fire.2.1 126 = .ok (.aload_n 0, 1) by decide +kernel) 1 rfl ?_
                  refine V_get (j := 0) (v := vR (SR σ_8 h0 0)) 130 rfl ck_Model (by decide) (by decide) (show decode M_Model_fire.2.1 127 = .ok (.getfield 7, 3) by decide +kernel) wd_1504 rfl ?_
                  refine V_iconst 131 rfl (show decode M_Model_fire.2.1 130 = .ok (.iconst 3, 1) by decide +kernel) (v := 3) rfl ?_
                  refine V_dup2 132 rfl (show decode M_Model_fire.2.1 131 = .ok (.dup2, 1) by decide +kernel) rfl rfl ?_
                  refine V_ald_int 133 rfl (show decode M_Model_fire.2.1 132 = .ok (.iaload, 1) by decide +kernel) ?_
                  refine V_iconst 134 rfl (show decode M_Model_fire.2.1 133 = .ok (.iconst 1, 1) by decide +kernel) (v := 1) rfl ?_
                  refine V_iadd 135 rfl (show decode M_Model_fire.2.1 134 = .ok (.iadd, 1) by decide +kernel) ?_
                  refine V_ast_int 136 rfl (show decode M_Model_fire.2.1 135 = .ok (.iastore, 1) by decide +kernel) (fun σ_9 => ?_)
                  refine V_aload_n 137 rfl (show decode M_Model_fire.2.1 136 = .ok (.aload_n 0, 1) by decide +kernel) 1 rfl ?_
                  refine V_get (j := 0) (v := vR (SR σ_9 h0 0)) 140 rfl ck_Model (by decide) (by decide) (show decode M_Model_fire.2.1 137 = .ok (.getfield 7, 3) by decide +kernel) wd_1504 rfl ?_
                  refine V_iconst 141 rfl (show decode M_Model_fire.2.1 140 = .ok (.iconst 3, 1) by decide +kernel) (v := 3) rfl ?_
                  refine V_ald_int 142 rfl (show decode M_Model_fire.2.1 141 = .ok (.iaload, 1) by decide +kernel) ?_
                  refine V_iconst 143 rfl (show decode M_Model_fire.2.1 142 = .ok (.iconst 1, 1) by decide +kernel) (v := 1) rfl ?_
                  refine V_isub 144 rfl (show decode M_Model_fire.2.1 143 = .ok (.isub, 1) by decide +kernel) ?_
                  exact V_iret rfl (by decide) (by decide) (show decode M_Model_fire.2.1 144 = .ok (.ireturn, 1) by decide +kernel)
        · skip
          exact V_sub [] rfl (hJ49 b_2 σ_2)
theorem cal_Model_fire (d mc ms k n : Nat) (h1 : 3 + 1 ≤ d) (h2 : k + 0 ≤ mc) (h3 : n + 0 ≤ ms) : Cal M_Model_fire 3 0 0 3 d mc ms k n := ⟨wd_1718, wd_181, by decide, h1, by decide, h2, h3⟩
abbrev M_Model_granted : MD := (⟨"LongTrailModel", "granted", "(I)I"⟩, prog_14_method_88_code, 3, (some FieldType.int))
def f_Model_granted (h0 : Nat) (x1 : Int32) (b : Bool) (σ : Sto) : Rs Int32 := (bd_ (f_Model_isIn ((x1).toInt64) (0 : Int64) ((((SI σ (SR σ h0 0) (ix (7 : Int32))) - (1 : Int32))).toInt64) ((b && cK σ h0 13) && cA σ (SR σ h0 0) 21 (7 : Int32)) σ) (fun (r_1 : Int32) (b_1 : Bool) (σ_1 : Sto) => (if r_1 = 0 then ((-1000000001 : Int32), b_1, σ_1) else (bd_ (f_Model_findGrant h0 (-1 : Int32) (b_1 && cK σ_1 h0 13) σ_1) (fun (r_2 : Int32) (b_2 : Bool) (σ_2 : Sto) => (lt_ r_2 (fun (x2_3 : Int32) => (bd_ (f_Model_orNone (SI σ_2 (SR σ_2 h0 24) (ix x1)) ((b_2 && cK σ_2 h0 13) && cA σ_2 (SR σ_2 h0 24) 21 x1) σ_2) (fun (r_4 : Int32) (b_4 : Bool) (σ_4 : Sto) => (r_4, b_4, σ_4))))))))))
set_option maxRecDepth 100000 in
set_option maxHeartbeats 4000000 in
theorem s_Model_granted : ∀ (h0 : Nat) (x1 : Int32) (b : Bool) (σ : Sto), Snd M_Model_granted 5 0 0 [vR h0, vI x1] b σ (tI (f_Model_granted h0 x1 b σ).1) (f_Model_granted h0 x1 b σ).2.1 (f_Model_granted h0 x1 b σ).2.2 := by
  intro h0 x1 b σ
  refine Snd_of (tv := tI) (by decide) (Nat.le_of_ble_eq_true rfl) ?_
  show V M_Model_granted 5 0 0 0 0 tI (f_Model_granted h0 x1 b σ) 0 [(0, vR h0), (1, vI x1)] [] b σ
  unfold f_Model_granted
  refine V_iload_n 1 rfl (show decode M_Model_granted.2.1 0 = .ok (.iload_n 1, 1) by decide +kernel) 1 rfl ?_
  refine V_i2l 2 rfl (show decode M_Model_granted.2.1 1 = .ok (.i2l, 1) by decide +kernel) ?_
  refine V_lconst 3 rfl (show decode M_Model_granted.2.1 2 = .ok (.lconst 0, 1) by decide +kernel) (v := 0) rfl ?_
  refine V_aload_n 4 rfl (show decode M_Model_granted.2.1 3 = .ok (.aload_n 0, 1) by decide +kernel) 0 rfl ?_
  refine V_get (j := 0) (v := vR (SR σ h0 0)) 7 rfl ck_Model (by decide) (by decide) (show decode M_Model_granted.2.1 4 = .ok (.getfield 7, 3) by decide +kernel) wd_1504 rfl ?_
  refine V_bipush 9 rfl (show decode M_Model_granted.2.1 7 = .ok (.bipush 7, 2) by decide +kernel) (v := 7) rfl ?_
  refine V_ald_int 10 rfl (show decode M_Model_granted.2.1 9 = .ok (.iaload, 1) by decide +kernel) ?_
  refine V_iconst 11 rfl (show decode M_Model_granted.2.1 10 = .ok (.iconst 1, 1) by decide +kernel) (v := 1) rfl ?_
  refine V_isub 12 rfl (show decode M_Model_granted.2.1 11 = .ok (.isub, 1) by decide +kernel) ?_
  refine V_i2l 13 rfl (show decode M_Model_granted.2.1 12 = .ok (.i2l, 1) by decide +kernel) ?_
  refine V_callS (tb := tI) (as := [vL ((x1).toInt64), vL (0 : Int64), vL ((((SI σ (SR σ h0 0) (ix (7 : Int32))) - (1 : Int32))).toInt64)]) (rest := []) (na := 3) 16 rfl (s_Model_isIn ((x1).toInt64) (0 : Int64) ((((SI σ (SR σ h0 0) (ix (7 : Int32))) - (1 : Int32))).toInt64) ((b && cK σ h0 13) && cA σ (SR σ h0 0) 21 (7 : Int32)) σ) rfl rfl (Nat.le_of_ble_eq_true rfl) (cal_Model_isIn _ _ _ _ _ (by decide) (by decide) (by decide)) (show decode M_Model_granted.2.1 13 = .ok (.invokestatic 76, 3) by decide +kernel) wd_1617 wd_1618 (fun r_1 b_1 σ_1 => ?_)
  show V M_Model_granted 5 0 0 0 0 tI _ 16 [(0, vR h0), (1, vI x1)] [vI r_1] b_1 σ_1
  refine V_ifne 19 22 rfl (show decode M_Model_granted.2.1 16 = .ok (.ifCond .ne 6, 3) by decide +kernel) rfl ?_ ?_
  · skip
    refine V_ldc 21 rfl (show decode M_Model_granted.2.1 19 = .ok (.ldc 91, 2) by decide +kernel) wd_1620 ?_
    exact V_iret rfl (by decide) (by decide) (show decode M_Model_granted.2.1 21 = .ok (.ireturn, 1) by decide +kernel)
  · skip
    refine V_aload_n 23 rfl (show decode M_Model_granted.2.1 22 = .ok (.aload_n 0, 1) by decide +kernel) 0 rfl ?_
    refine V_iconst 24 rfl (show decode M_Model_granted.2.1 23 = .ok (.iconst (-1), 1) by decide +kernel) (v := -1) rfl ?_
    refine V_callV (tb := tI) (as := [vI (-1 : Int32)]) (rest := []) (na := 1) 27 rfl ck_Model (by decide) (s_Model_findGrant h0 (-1 : Int32) (b_1 && cK σ_1 h0 13) σ_1) rfl rfl (Nat.le_of_ble_eq_true rfl) (cal_Model_findGrant _ _ _ _ _ (by decide) (by decide) (by decide)) (show decode M_Model_granted.2.1 24 = .ok (.invokevirtual 339, 3) by decide +kernel) wd_1963 wd_1965 wd_161 (fun r_2 b_2 σ_2 => ?_)
    show V M_Model_granted 5 0 0 0 0 tI _ 27 [(0, vR h0), (1, vI x1)] [vI r_2] b_2 σ_2
    refine V_istore_n (fun x2_3 => [(2, vI x2_3), (0, vR h0), (1, vI x1)]) 28 rfl (show decode M_Model_granted.2.1 27 = .ok (.istore_n 2, 1) by decide +kernel) (by decide) (fun _ => rfl) (fun x2_3 => ?_)
    refine V_aload_n 29 rfl (show decode M_Model_granted.2.1 28 = .ok (.aload_n 0, 1) by decide +kernel) 1 rfl ?_
    refine V_get (j := 24) (v := vR (SR σ_2 h0 24)) 32 rfl ck_Model (by decide) (by decide) (show decode M_Model_granted.2.1 29 = .ok (.getfield 44, 3) by decide +kernel) wd_1528 rfl ?_
    refine V_iload_n 33 rfl (show decode M_Model_granted.2.1 32 = .ok (.iload_n 1, 1) by decide +kernel) 2 rfl ?_
    refine V_ald_int 34 rfl (show decode M_Model_granted.2.1 33 = .ok (.iaload, 1) by decide +kernel) ?_
    refine V_callS (tb := tI) (as := [vI (SI σ_2 (SR σ_2 h0 24) (ix x1))]) (rest := []) (na := 1) 37 rfl (s_Model_orNone (SI σ_2 (SR σ_2 h0 24) (ix x1)) ((b_2 && cK σ_2 h0 13) && cA σ_2 (SR σ_2 h0 24) 21 x1) σ_2) rfl rfl (Nat.le_of_ble_eq_true rfl) (cal_Model_orNone _ _ _ _ _ (by decide) (by decide) (by decide)) (show decode M_Model_granted.2.1 34 = .ok (.invokestatic 143, 3) by decide +kernel) wd_1704 wd_1705 (fun r_4 b_4 σ_4 => ?_)
    show V M_Model_granted 5 0 0 0 0 tI _ 37 [(2, vI x2_3), (0, vR h0), (1, vI x1)] [vI r_4] b_4 σ_4
    exact V_iret rfl (by decide) (by decide) (show decode M_Model_granted.2.1 37 = .ok (.ireturn, 1) by decide +kernel)
theorem cal_Model_granted (d mc ms k n : Nat) (h1 : 5 + 1 ≤ d) (h2 : k + 0 ≤ mc) (h3 : n + 0 ≤ ms) : Cal M_Model_granted 5 0 0 1 d mc ms k n := ⟨wd_1962, wd_181, by decide, h1, by decide, h2, h3⟩
abbrev M_Model_is : MD := (⟨"LongTrailModel", "is", "(II)I"⟩, prog_14_method_61_code, 3, (some FieldType.int))
def f_Model_is (h0 : Nat) (x1 : Int32) (x2 : Int32) (b : Bool) (σ : Sto) : Rs Int32 := (bd_ (f_Model_isWalker h0 x1 (b && cK σ h0 13) σ) (fun (r_1 : Int32) (b_1 : Bool) (σ_1 : Sto) => (lt_ (fun (b : Bool) (σ : Sto) => ((-1000000001 : Int32), b, σ)) (fun J20 => (if r_1 = 0 then (J20 b_1 σ_1) else (bd_ (f_Model_isIn ((x2).toInt64) (0 : Int64) (14 : Int64) b_1 σ_1) (fun (r_2 : Int32) (b_2 : Bool) (σ_2 : Sto) => (if r_2 = 0 then (J20 b_2 σ_2) else (if x2 = (14 : Int32) then (bd_ (f_Model_boxesAt h0 x1 (-1 : Int32) (b_2 && cK σ_2 h0 13) σ_2) (fun (r_3 : Int32) (b_3 : Bool) (σ_3 : Sto) => (r_3, b_3, σ_3))) else (bd_ (f_Model_walkerAt h0 x1 ((b_2 && cK σ_2 h0 13) && cK σ_2 h0 13) σ_2) (fun (r_4 : Int32) (b_4 : Bool) (σ_4 : Sto) => ((SI σ_4 (SR σ_2 h0 0) (ix (r_4 + x2))), (b_4 && cA σ_4 (SR σ_2 h0 0) 21 (r_4 + x2)), σ_4))))))))))))
set_option maxRecDepth 100000 in
set_option maxHeartbeats 4000000 in
theorem s_Model_is : ∀ (h0 : Nat) (x1 : Int32) (x2 : Int32) (b : Bool) (σ : Sto), Snd M_Model_is 4 0 0 [vR h0, vI x1, vI x2] b σ (tI (f_Model_is h0 x1 x2 b σ).1) (f_Model_is h0 x1 x2 b σ).2.1 (f_Model_is h0 x1 x2 b σ).2.2 := by
  intro h0 x1 x2 b σ
  refine Snd_of (tv := tI) (by decide) (Nat.le_of_ble_eq_true rfl) ?_
  show V M_Model_is 4 0 0 0 0 tI (f_Model_is h0 x1 x2 b σ) 0 [(0, vR h0), (1, vI x1), (2, vI x2)] [] b σ
  unfold f_Model_is
  refine V_aload_n 1 rfl (show decode M_Model_is.2.1 0 = .ok (.aload_n 0, 1) by decide +kernel) 0 rfl ?_
  refine V_iload_n 2 rfl (show decode M_Model_is.2.1 1 = .ok (.iload_n 1, 1) by decide +kernel) 1 rfl ?_
  refine V_callV (tb := tI) (as := [vI x1]) (rest := []) (na := 1) 5 rfl ck_Model (by decide) (s_Model_isWalker h0 x1 (b && cK σ h0 13) σ) rfl rfl (Nat.le_of_ble_eq_true rfl) (cal_Model_isWalker _ _ _ _ _ (by decide) (by decide) (by decide)) (show decode M_Model_is.2.1 2 = .ok (.invokevirtual 265, 3) by decide +kernel) wd_1837 wd_1839 wd_143 (fun r_1 b_1 σ_1 => ?_)
  show V M_Model_is 4 0 0 0 0 tI _ 5 [(0, vR h0), (1, vI x1), (2, vI x2)] [vI r_1] b_1 σ_1
  refine V_jn (fun (J20 : Bool → Sto → Rs Int32) => ∀ (b : Bool) (σ : Sto), V M_Model_is 4 0 0 0 0 tI (J20 b σ) 20 [] [] b σ) ?_ (fun J20 hJ20 => ?_)
  · intro b σ
    refine V_ldc 22 rfl (show decode M_Model_is.2.1 20 = .ok (.ldc 91, 2) by decide +kernel) wd_1620 ?_
    exact V_iret rfl (by decide) (by decide) (show decode M_Model_is.2.1 22 = .ok (.ireturn, 1) by decide +kernel)
  · skip
    refine V_ifeq 8 20 rfl (show decode M_Model_is.2.1 5 = .ok (.ifCond .eq 15, 3) by decide +kernel) rfl ?_ ?_
    · skip
      exact V_sub [] rfl (hJ20 b_1 σ_1)
    · skip
      refine V_iload_n 9 rfl (show decode M_Model_is.2.1 8 = .ok (.iload_n 2, 1) by decide +kernel) 2 rfl ?_
      refine V_i2l 10 rfl (show decode M_Model_is.2.1 9 = .ok (.i2l, 1) by decide +kernel) ?_
      refine V_lconst 11 rfl (show decode M_Model_is.2.1 10 = .ok (.lconst 0, 1) by decide +kernel) (v := 0) rfl ?_
      refine V_ldc2 14 rfl (show decode M_Model_is.2.1 11 = .ok (.ldc2_w 268, 3) by decide +kernel) wd_1841 ?_
      refine V_callS (tb := tI) (as := [vL ((x2).toInt64), vL (0 : Int64), vL (14 : Int64)]) (rest := []) (na := 3) 17 rfl (s_Model_isIn ((x2).toInt64) (0 : Int64) (14 : Int64) b_1 σ_1) rfl rfl (Nat.le_of_ble_eq_true rfl) (cal_Model_isIn _ _ _ _ _ (by decide) (by decide) (by decide)) (show decode M_Model_is.2.1 14 = .ok (.invokestatic 76, 3) by decide +kernel) wd_1617 wd_1618 (fun r_2 b_2 σ_2 => ?_)
      show V M_Model_is 4 0 0 0 0 tI _ 17 [(0, vR h0), (1, vI x1), (2, vI x2)] [vI r_2] b_2 σ_2
      refine V_ifne 20 23 rfl (show decode M_Model_is.2.1 17 = .ok (.ifCond .ne 6, 3) by decide +kernel) rfl ?_ ?_
      · skip
        exact V_sub [] rfl (hJ20 b_2 σ_2)
      · skip
        refine V_iload_n 24 rfl (show decode M_Model_is.2.1 23 = .ok (.iload_n 2, 1) by decide +kernel) 2 rfl ?_
        refine V_bipush 26 rfl (show decode M_Model_is.2.1 24 = .ok (.bipush 14, 2) by decide +kernel) (v := 14) rfl ?_
        refine V_icmpne 29 38 rfl (show decode M_Model_is.2.1 26 = .ok (.if_icmp .ne 12, 3) by decide +kernel) rfl ?_ ?_
        · skip
          refine V_aload_n 30 rfl (show decode M_Model_is.2.1 29 = .ok (.aload_n 0, 1) by decide +kernel) 0 rfl ?_
          refine V_iload_n 31 rfl (show decode M_Model_is.2.1 30 = .ok (.iload_n 1, 1) by decide +kernel) 1 rfl ?_
          refine V_iconst 32 rfl (show decode M_Model_is.2.1 31 = .ok (.iconst (-1), 1) by decide +kernel) (v := -1) rfl ?_
          refine V_callV (tb := tI) (as := [vI x1, vI (-1 : Int32)]) (rest := []) (na := 2) 35 rfl ck_Model (by decide) (s_Model_boxesAt h0 x1 (-1 : Int32) (b_2 && cK σ_2 h0 13) σ_2) rfl rfl (Nat.le_of_ble_eq_true rfl) (cal_Model_boxesAt _ _ _ _ _ (by decide) (by decide) (by decide)) (show decode M_Model_is.2.1 32 = .ok (.invokevirtual 270, 3) by decide +kernel) wd_1842 wd_1844 wd_144 (fun r_3 b_3 σ_3 => ?_)
          show V M_Model_is 4 0 0 0 0 tI _ 35 [(0, vR h0), (1, vI x1), (2, vI x2)] [vI r_3] b_3 σ_3
          refine V_goto 50 (show decode M_Model_is.2.1 35 = .ok (.goto 15, 3) by decide +kernel) rfl ?_
          exact V_iret rfl (by decide) (by decide) (show decode M_Model_is.2.1 50 = .ok (.ireturn, 1) by decide +kernel)
        · skip
          refine V_aload_n 39 rfl (show decode M_Model_is.2.1 38 = .ok (.aload_n 0, 1) by decide +kernel) 0 rfl ?_
          refine V_get (j := 0) (v := vR (SR σ_2 h0 0)) 42 rfl ck_Model (by decide) (by decide) (show decode M_Model_is.2.1 39 = .ok (.getfield 7, 3) by decide +kernel) wd_1504 rfl ?_
          refine V_aload_n 43 rfl (show decode M_Model_is.2.1 42 = .ok (.aload_n 0, 1) by decide +kernel) 0 rfl ?_
          refine V_iload_n 44 rfl (show decode M_Model_is.2.1 43 = .ok (.iload_n 1, 1) by decide +kernel) 1 rfl ?_
          refine V_callV (tb := tI) (as := [vI x1]) (rest := [vR (SR σ_2 h0 0)]) (na := 1) 47 rfl ck_Model (by decide) (s_Model_walkerAt h0 x1 ((b_2 && cK σ_2 h0 13) && cK σ_2 h0 13) σ_2) rfl rfl (Nat.le_of_ble_eq_true rfl) (cal_Model_walkerAt _ _ _ _ _ (by decide) (by decide) (by decide)) (show decode M_Model_is.2.1 44 = .ok (.invokevirtual 84, 3) by decide +kernel) wd_1673 wd_1675 wd_121 (fun r_4 b_4 σ_4 => ?_)
          show V M_Model_is 4 0 0 0 0 tI _ 47 [(0, vR h0), (1, vI x1), (2, vI x2)] [vI r_4, vR (SR σ_2 h0 0)] b_4 σ_4
          refine V_iload_n 48 rfl (show decode M_Model_is.2.1 47 = .ok (.iload_n 2, 1) by decide +kernel) 2 rfl ?_
          refine V_iadd 49 rfl (show decode M_Model_is.2.1 48 = .ok (.iadd, 1) by decide +kernel) ?_
          refine V_ald_int 50 rfl (show decode M_Model_is.2.1 49 = .ok (.iaload, 1) by decide +kernel) ?_
          exact V_iret rfl (by decide) (by decide) (show decode M_Model_is.2.1 50 = .ok (.ireturn, 1) by decide +kernel)
theorem cal_Model_is (d mc ms k n : Nat) (h1 : 4 + 1 ≤ d) (h2 : k + 0 ≤ mc) (h3 : n + 0 ≤ ms) : Cal M_Model_is 4 0 0 2 d mc ms k n := ⟨wd_1836, wd_181, by decide, h1, by decide, h2, h3⟩
abbrev M_Model_isText : MD := (⟨"LongTrailModel", "isText", "(I)Z"⟩, prog_14_method_13_code, 2, (some FieldType.boolean))
def f_Model_isText (h0 : Nat) (x1 : Int32) (b : Bool) (σ : Sto) : Rs Int32 := (bd_ (f_Model_isIn ((x1).toInt64) (0 : Int64) ((((SI σ (SR σ h0 0) (ix (4 : Int32))) - (1 : Int32))).toInt64) ((b && cK σ h0 13) && cA σ (SR σ h0 0) 21 (4 : Int32)) σ) (fun (r_1 : Int32) (b_1 : Bool) (σ_1 : Sto) => (r_1, (b_1 && zok r_1), σ_1)))
set_option maxRecDepth 100000 in
set_option maxHeartbeats 4000000 in
theorem s_Model_isText : ∀ (h0 : Nat) (x1 : Int32) (b : Bool) (σ : Sto), Snd M_Model_isText 2 0 0 [vR h0, vI x1] b σ (tI (f_Model_isText h0 x1 b σ).1) (f_Model_isText h0 x1 b σ).2.1 (f_Model_isText h0 x1 b σ).2.2 := by
  intro h0 x1 b σ
  refine Snd_of (tv := tI) (by decide) (Nat.le_of_ble_eq_true rfl) ?_
  show V M_Model_isText 2 0 0 0 0 tI (f_Model_isText h0 x1 b σ) 0 [(0, vR h0), (1, vI x1)] [] b σ
  unfold f_Model_isText
  refine V_iload_n 1 rfl (show decode M_Model_isText.2.1 0 = .ok (.iload_n 1, 1) by decide +kernel) 1 rfl ?_
  refine V_i2l 2 rfl (show decode M_Model_isText.2.1 1 = .ok (.i2l, 1) by decide +kernel) ?_
  refine V_lconst 3 rfl (show decode M_Model_isText.2.1 2 = .ok (.lconst 0, 1) by decide +kernel) (v := 0) rfl ?_
  refine V_aload_n 4 rfl (show decode M_Model_isText.2.1 3 = .ok (.aload_n 0, 1) by decide +kernel) 0 rfl ?_
  refine V_get (j := 0) (v := vR (SR σ h0 0)) 7 rfl ck_Model (by decide) (by decide) (show decode M_Model_isText.2.1 4 = .ok (.getfield 7, 3) by decide +kernel) wd_1504 rfl ?_
  refine V_iconst 8 rfl (show decode M_Model_isText.2.1 7 = .ok (.iconst 4, 1) by decide +kernel) (v := 4) rfl ?_
  refine V_ald_int 9 rfl (show decode M_Model_isText.2.1 8 = .ok (.iaload, 1) by decide +kernel) ?_
  refine V_iconst 10 rfl (show decode M_Model_isText.2.1 9 = .ok (.iconst 1, 1) by decide +kernel) (v := 1) rfl ?_
  refine V_isub 11 rfl (show decode M_Model_isText.2.1 10 = .ok (.isub, 1) by decide +kernel) ?_
  refine V_i2l 12 rfl (show decode M_Model_isText.2.1 11 = .ok (.i2l, 1) by decide +kernel) ?_
  refine V_callS (tb := tI) (as := [vL ((x1).toInt64), vL (0 : Int64), vL ((((SI σ (SR σ h0 0) (ix (4 : Int32))) - (1 : Int32))).toInt64)]) (rest := []) (na := 3) 15 rfl (s_Model_isIn ((x1).toInt64) (0 : Int64) ((((SI σ (SR σ h0 0) (ix (4 : Int32))) - (1 : Int32))).toInt64) ((b && cK σ h0 13) && cA σ (SR σ h0 0) 21 (4 : Int32)) σ) rfl rfl (Nat.le_of_ble_eq_true rfl) (cal_Model_isIn _ _ _ _ _ (by decide) (by decide) (by decide)) (show decode M_Model_isText.2.1 12 = .ok (.invokestatic 76, 3) by decide +kernel) wd_1617 wd_1618 (fun r_1 b_1 σ_1 => ?_)
  show V M_Model_isText 2 0 0 0 0 tI _ 15 [(0, vR h0), (1, vI x1)] [vI r_1] b_1 σ_1
  exact V_zretc rfl (by decide) (by decide) (show decode M_Model_isText.2.1 15 = .ok (.ireturn, 1) by decide +kernel)
theorem cal_Model_isText (d mc ms k n : Nat) (h1 : 2 + 1 ≤ d) (h2 : k + 0 ≤ mc) (h3 : n + 0 ≤ ms) : Cal M_Model_isText 2 0 0 1 d mc ms k n := ⟨wd_1818, wd_181, by decide, h1, by decide, h2, h3⟩
abbrev M_Model_isWordAt : MD := (⟨"LongTrailModel", "isWordAt", "(IIII)Z"⟩, prog_14_method_41_code, 5, (some FieldType.boolean))
def f_Model_isWordAt (h0 : Nat) (x1 : Int32) (x2 : Int32) (x3 : Int32) (x4 : Int32) (b : Bool) (σ : Sto) : Rs Int32 := (lt_ (fun (b : Bool) (σ : Sto) => ((0 : Int32), b, σ)) (fun J84 => (if (SI σ h0 11) = (1 : Int32) then (if ((SI σ h0 10) - (SI σ h0 9)) = (4 : Int32) then (if (SI σ (SR σ h0 7) (ix (SI σ h0 9))) = x1 then (if (SI σ (SR σ h0 7) (ix ((SI σ h0 9) + (1 : Int32)))) = x2 then (if (SI σ (SR σ h0 7) (ix ((SI σ h0 9) + (2 : Int32)))) = x3 then (if (SI σ (SR σ h0 7) (ix ((SI σ h0 9) + (3 : Int32)))) = x4 then ((1 : Int32), (((((((((((((((b && cK σ h0 13) && cK σ h0 13) && cK σ h0 13) && cK σ h0 13) && cK σ h0 13) && cA σ (SR σ h0 7) 21 (SI σ h0 9)) && cK σ h0 13) && cK σ h0 13) && cA σ (SR σ h0 7) 21 ((SI σ h0 9) + (1 : Int32))) && cK σ h0 13) && cK σ h0 13) && cA σ (SR σ h0 7) 21 ((SI σ h0 9) + (2 : Int32))) && cK σ h0 13) && cK σ h0 13) && cA σ (SR σ h0 7) 21 ((SI σ h0 9) + (3 : Int32))), σ) else (J84 (((((((((((((((b && cK σ h0 13) && cK σ h0 13) && cK σ h0 13) && cK σ h0 13) && cK σ h0 13) && cA σ (SR σ h0 7) 21 (SI σ h0 9)) && cK σ h0 13) && cK σ h0 13) && cA σ (SR σ h0 7) 21 ((SI σ h0 9) + (1 : Int32))) && cK σ h0 13) && cK σ h0 13) && cA σ (SR σ h0 7) 21 ((SI σ h0 9) + (2 : Int32))) && cK σ h0 13) && cK σ h0 13) && cA σ (SR σ h0 7) 21 ((SI σ h0 9) + (3 : Int32))) σ)) else (J84 ((((((((((((b && cK σ h0 13) && cK σ h0 13) && cK σ h0 13) && cK σ h0 13) && cK σ h0 13) && cA σ (SR σ h0 7) 21 (SI σ h0 9)) && cK σ h0 13) && cK σ h0 13) && cA σ (SR σ h0 7) 21 ((SI σ h0 9) + (1 : Int32))) && cK σ h0 13) && cK σ h0 13) && cA σ (SR σ h0 7) 21 ((SI σ h0 9) + (2 : Int32))) σ)) else (J84 (((((((((b && cK σ h0 13) && cK σ h0 13) && cK σ h0 13) && cK σ h0 13) && cK σ h0 13) && cA σ (SR σ h0 7) 21 (SI σ h0 9)) && cK σ h0 13) && cK σ h0 13) && cA σ (SR σ h0 7) 21 ((SI σ h0 9) + (1 : Int32))) σ)) else (J84 ((((((b && cK σ h0 13) && cK σ h0 13) && cK σ h0 13) && cK σ h0 13) && cK σ h0 13) && cA σ (SR σ h0 7) 21 (SI σ h0 9)) σ)) else (J84 (((b && cK σ h0 13) && cK σ h0 13) && cK σ h0 13) σ)) else (J84 (b && cK σ h0 13) σ))))
set_option maxRecDepth 100000 in
set_option maxHeartbeats 4000000 in
theorem s_Model_isWordAt : ∀ (h0 : Nat) (x1 : Int32) (x2 : Int32) (x3 : Int32) (x4 : Int32) (b : Bool) (σ : Sto), Snd M_Model_isWordAt 1 0 0 [vR h0, vI x1, vI x2, vI x3, vI x4] b σ (tI (f_Model_isWordAt h0 x1 x2 x3 x4 b σ).1) (f_Model_isWordAt h0 x1 x2 x3 x4 b σ).2.1 (f_Model_isWordAt h0 x1 x2 x3 x4 b σ).2.2 := by
  intro h0 x1 x2 x3 x4 b σ
  refine Snd_of (tv := tI) (by decide) (Nat.le_of_ble_eq_true rfl) ?_
  show V M_Model_isWordAt 1 0 0 0 0 tI (f_Model_isWordAt h0 x1 x2 x3 x4 b σ) 0 [(0, vR h0), (1, vI x1), (2, vI x2), (3, vI x3), (4, vI x4)] [] b σ
  unfold f_Model_isWordAt
  refine V_aload_n 1 rfl (show decode M_Model_isWordAt.2.1 0 = .ok (.aload_n 0, 1) by decide +kernel) 0 rfl ?_
  refine V_get (j := 11) (v := vI (SI σ h0 11)) 4 rfl ck_Model (by decide) (by decide) (show decode M_Model_isWordAt.2.1 1 = .ok (.getfield 167, 3) by decide +kernel) wd_1515 rfl ?_
  refine V_iconst 5 rfl (show decode M_Model_isWordAt.2.1 4 = .ok (.iconst 1, 1) by decide +kernel) (v := 1) rfl ?_
  refine V_jn (fun (J84 : Bool → Sto → Rs Int32) => ∀ (b : Bool) (σ : Sto), V M_Model_isWordAt 1 0 0 0 0 tI (J84 b σ) 84 [] [] b σ) ?_ (fun J84 hJ84 => ?_)
  · intro b σ
    refine V_iconst 85 rfl (show decode M_Model_isWordAt.2.1 84 = .ok (.iconst 0, 1) by decide +kernel) (v := 0) rfl ?_
    exact V_zret rfl (by decide) (by decide) rfl (show decode M_Model_isWordAt.2.1 85 = .ok (.ireturn, 1) by decide +kernel)
  · skip
    refine V_icmpne 8 84 rfl (show decode M_Model_isWordAt.2.1 5 = .ok (.if_icmp .ne 79, 3) by decide +kernel) rfl ?_ ?_
    · skip
      refine V_aload_n 9 rfl (show decode M_Model_isWordAt.2.1 8 = .ok (.aload_n 0, 1) by decide +kernel) 0 rfl ?_
      refine V_get (j := 10) (v := vI (SI σ h0 10)) 12 rfl ck_Model (by decide) (by decide) (show decode M_Model_isWordAt.2.1 9 = .ok (.getfield 164, 3) by decide +kernel) wd_1514 rfl ?_
      refine V_aload_n 13 rfl (show decode M_Model_isWordAt.2.1 12 = .ok (.aload_n 0, 1) by decide +kernel) 0 rfl ?_
      refine V_get (j := 9) (v := vI (SI σ h0 9)) 16 rfl ck_Model (by decide) (by decide) (show decode M_Model_isWordAt.2.1 13 = .ok (.getfield 170, 3) by decide +kernel) wd_1513 rfl ?_
      refine V_isub 17 rfl (show decode M_Model_isWordAt.2.1 16 = .ok (.isub, 1) by decide +kernel) ?_
      refine V_iconst 18 rfl (show decode M_Model_isWordAt.2.1 17 = .ok (.iconst 4, 1) by decide +kernel) (v := 4) rfl ?_
      refine V_icmpne 21 84 rfl (show decode M_Model_isWordAt.2.1 18 = .ok (.if_icmp .ne 66, 3) by decide +kernel) rfl ?_ ?_
      · skip
        refine V_aload_n 22 rfl (show decode M_Model_isWordAt.2.1 21 = .ok (.aload_n 0, 1) by decide +kernel) 0 rfl ?_
        refine V_get (j := 7) (v := vR (SR σ h0 7)) 25 rfl ck_Model (by decide) (by decide) (show decode M_Model_isWordAt.2.1 22 = .ok (.getfield 29, 3) by decide +kernel) wd_1511 rfl ?_
        refine V_aload_n 26 rfl (show decode M_Model_isWordAt.2.1 25 = .ok (.aload_n 0, 1) by decide +kernel) 0 rfl ?_
        refine V_get (j := 9) (v := vI (SI σ h0 9)) 29 rfl ck_Model (by decide) (by decide) (show decode M_Model_isWordAt.2.1 26 = .ok (.getfield 170, 3) by decide +kernel) wd_1513 rfl ?_
        refine V_ald_int 30 rfl (show decode M_Model_isWordAt.2.1 29 = .ok (.iaload, 1) by decide +kernel) ?_
        refine V_iload_n 31 rfl (show decode M_Model_isWordAt.2.1 30 = .ok (.iload_n 1, 1) by decide +kernel) 1 rfl ?_
        refine V_icmpne 34 84 rfl (show decode M_Model_isWordAt.2.1 31 = .ok (.if_icmp .ne 53, 3) by decide +kernel) rfl ?_ ?_
        · skip
          refine V_aload_n 35 rfl (show decode M_Model_isWordAt.2.1 34 = .ok (.aload_n 0, 1) by decide +kernel) 0 rfl ?_
          refine V_get (j := 7) (v := vR (SR σ h0 7)) 38 rfl ck_Model (by decide) (by decide) (show decode M_Model_isWordAt.2.1 35 = .ok (.getfield 29, 3) by decide +kernel) wd_1511 rfl ?_
          refine V_aload_n 39 rfl (show decode M_Model_isWordAt.2.1 38 = .ok (.aload_n 0, 1) by decide +kernel) 0 rfl ?_
          refine V_get (j := 9) (v := vI (SI σ h0 9)) 42 rfl ck_Model (by decide) (by decide) (show decode M_Model_isWordAt.2.1 39 = .ok (.getfield 170, 3) by decide +kernel) wd_1513 rfl ?_
          refine V_iconst 43 rfl (show decode M_Model_isWordAt.2.1 42 = .ok (.iconst 1, 1) by decide +kernel) (v := 1) rfl ?_
          refine V_iadd 44 rfl (show decode M_Model_isWordAt.2.1 43 = .ok (.iadd, 1) by decide +kernel) ?_
          refine V_ald_int 45 rfl (show decode M_Model_isWordAt.2.1 44 = .ok (.iaload, 1) by decide +kernel) ?_
          refine V_iload_n 46 rfl (show decode M_Model_isWordAt.2.1 45 = .ok (.iload_n 2, 1) by decide +kernel) 2 rfl ?_
          refine V_icmpne 49 84 rfl (show decode M_Model_isWordAt.2.1 46 = .ok (.if_icmp .ne 38, 3) by decide +kernel) rfl ?_ ?_
          · skip
            refine V_aload_n 50 rfl (show decode M_Model_isWordAt.2.1 49 = .ok (.aload_n 0, 1) by decide +kernel) 0 rfl ?_
            refine V_get (j := 7) (v := vR (SR σ h0 7)) 53 rfl ck_Model (by decide) (by decide) (show decode M_Model_isWordAt.2.1 50 = .ok (.getfield 29, 3) by decide +kernel) wd_1511 rfl ?_
            refine V_aload_n 54 rfl (show decode M_Model_isWordAt.2.1 53 = .ok (.aload_n 0, 1) by decide +kernel) 0 rfl ?_
            refine V_get (j := 9) (v := vI (SI σ h0 9)) 57 rfl ck_Model (by decide) (by decide) (show decode M_Model_isWordAt.2.1 54 = .ok (.getfield 170, 3) by decide +kernel) wd_1513 rfl ?_
            refine V_iconst 58 rfl (show decode M_Model_isWordAt.2.1 57 = .ok (.iconst 2, 1) by decide +kernel) (v := 2) rfl ?_
            refine V_iadd 59 rfl (show decode M_Model_isWordAt.2.1 58 = .ok (.iadd, 1) by decide +kernel) ?_
            refine V_ald_int 60 rfl (show decode M_Model_isWordAt.2.1 59 = .ok (.iaload, 1) by decide +kernel) ?_
            refine V_iload_n 61 rfl (show decode M_Model_isWordAt.2.1 60 = .ok (.iload_n 3, 1) by decide +kernel) 3 rfl ?_
            refine V_icmpne 64 84 rfl (show decode M_Model_isWordAt.2.1 61 = .ok (.if_icmp .ne 23, 3) by decide +kernel) rfl ?_ ?_
            · skip
              refine V_aload_n 65 rfl (show decode M_Model_isWordAt.2.1 64 = .ok (.aload_n 0, 1) by decide +kernel) 0 rfl ?_
              refine V_get (j := 7) (v := vR (SR σ h0 7)) 68 rfl ck_Model (by decide) (by decide) (show decode M_Model_isWordAt.2.1 65 = .ok (.getfield 29, 3) by decide +kernel) wd_1511 rfl ?_
              refine V_aload_n 69 rfl (show decode M_Model_isWordAt.2.1 68 = .ok (.aload_n 0, 1) by decide +kernel) 0 rfl ?_
              refine V_get (j := 9) (v := vI (SI σ h0 9)) 72 rfl ck_Model (by decide) (by decide) (show decode M_Model_isWordAt.2.1 69 = .ok (.getfield 170, 3) by decide +kernel) wd_1513 rfl ?_
              refine V_iconst 73 rfl (show decode M_Model_isWordAt.2.1 72 = .ok (.iconst 3, 1) by decide +kernel) (v := 3) rfl ?_
              refine V_iadd 74 rfl (show decode M_Model_isWordAt.2.1 73 = .ok (.iadd, 1) by decide +kernel) ?_
              refine V_ald_int 75 rfl (show decode M_Model_isWordAt.2.1 74 = .ok (.iaload, 1) by decide +kernel) ?_
              refine V_iload 77 rfl (show decode M_Model_isWordAt.2.1 75 = .ok (.iload 4, 2) by decide +kernel) 4 rfl ?_
              refine V_icmpne 80 84 rfl (show decode M_Model_isWordAt.2.1 77 = .ok (.if_icmp .ne 7, 3) by decide +kernel) rfl ?_ ?_
              · skip
                refine V_iconst 81 rfl (show decode M_Model_isWordAt.2.1 80 = .ok (.iconst 1, 1) by decide +kernel) (v := 1) rfl ?_
                refine V_goto 85 (show decode M_Model_isWordAt.2.1 81 = .ok (.goto 4, 3) by decide +kernel) rfl ?_
                exact V_zret rfl (by decide) (by decide) rfl (show decode M_Model_isWordAt.2.1 85 = .ok (.ireturn, 1) by decide +kernel)
              · skip
                exact V_sub [] rfl (hJ84 (((((((((((((((b && cK σ h0 13) && cK σ h0 13) && cK σ h0 13) && cK σ h0 13) && cK σ h0 13) && cA σ (SR σ h0 7) 21 (SI σ h0 9)) && cK σ h0 13) && cK σ h0 13) && cA σ (SR σ h0 7) 21 ((SI σ h0 9) + (1 : Int32))) && cK σ h0 13) && cK σ h0 13) && cA σ (SR σ h0 7) 21 ((SI σ h0 9) + (2 : Int32))) && cK σ h0 13) && cK σ h0 13) && cA σ (SR σ h0 7) 21 ((SI σ h0 9) + (3 : Int32))) σ)
            · skip
              exact V_sub [] rfl (hJ84 ((((((((((((b && cK σ h0 13) && cK σ h0 13) && cK σ h0 13) && cK σ h0 13) && cK σ h0 13) && cA σ (SR σ h0 7) 21 (SI σ h0 9)) && cK σ h0 13) && cK σ h0 13) && cA σ (SR σ h0 7) 21 ((SI σ h0 9) + (1 : Int32))) && cK σ h0 13) && cK σ h0 13) && cA σ (SR σ h0 7) 21 ((SI σ h0 9) + (2 : Int32))) σ)
          · skip
            exact V_sub [] rfl (hJ84 (((((((((b && cK σ h0 13) && cK σ h0 13) && cK σ h0 13) && cK σ h0 13) && cK σ h0 13) && cA σ (SR σ h0 7) 21 (SI σ h0 9)) && cK σ h0 13) && cK σ h0 13) && cA σ (SR σ h0 7) 21 ((SI σ h0 9) + (1 : Int32))) σ)
        · skip
          exact V_sub [] rfl (hJ84 ((((((b && cK σ h0 13) && cK σ h0 13) && cK σ h0 13) && cK σ h0 13) && cK σ h0 13) && cA σ (SR σ h0 7) 21 (SI σ h0 9)) σ)
      · skip
        exact V_sub [] rfl (hJ84 (((b && cK σ h0 13) && cK σ h0 13) && cK σ h0 13) σ)
    · skip
      exact V_sub [] rfl (hJ84 (b && cK σ h0 13) σ)
theorem cal_Model_isWordAt (d mc ms k n : Nat) (h1 : 1 + 1 ≤ d) (h2 : k + 0 ≤ mc) (h3 : n + 0 ≤ ms) : Cal M_Model_isWordAt 1 0 0 4 d mc ms k n := ⟨wd_1775, wd_181, by decide, h1, by decide, h2, h3⟩
abbrev M_Model_keep : MD := (⟨"LongTrailModel", "keep", "()I"⟩, prog_14_method_111_code, 1, (some FieldType.int))
def f_Model_keep (h0 : Nat) (b : Bool) (σ : Sto) : Rs Int32 := (lt_ (pI σ h0 3 (1 : Int32)) (fun (σ_1 : Sto) => (bd_ (f_Model_setAside h0 (SR σ_1 h0 0) (SR σ_1 h0 1) ((((b && cK σ h0 13) && cK σ_1 h0 13) && cK σ_1 h0 13) && cK σ_1 h0 13) σ_1) (fun (r_2 : Unit) (b_2 : Bool) (σ_2 : Sto) => ((SI σ_2 (SR σ_2 h0 0) (ix (0 : Int32))), ((b_2 && cK σ_2 h0 13) && cA σ_2 (SR σ_2 h0 0) 21 (0 : Int32)), σ_2)))))
set_option maxRecDepth 100000 in
set_option maxHeartbeats 4000000 in
theorem s_Model_keep : ∀ (h0 : Nat) (b : Bool) (σ : Sto), Snd M_Model_keep 2 0 0 [vR h0] b σ (tI (f_Model_keep h0 b σ).1) (f_Model_keep h0 b σ).2.1 (f_Model_keep h0 b σ).2.2 := by
  intro h0 b σ
  refine Snd_of (tv := tI) (by decide) (Nat.le_of_ble_eq_true rfl) ?_
  show V M_Model_keep 2 0 0 0 0 tI (f_Model_keep h0 b σ) 0 [(0, vR h0)] [] b σ
  unfold f_Model_keep
  refine V_aload_n 1 rfl (show decode M_Model_keep.2.1 0 = .ok (.aload_n 0, 1) by decide +kernel) 0 rfl ?_
  refine V_iconst 2 rfl (show decode M_Model_keep.2.1 1 = .ok (.iconst 1, 1) by decide +kernel) (v := 1) rfl ?_
  refine V_putI (j := 3) 5 rfl ck_Model (by decide) (by decide) (show decode M_Model_keep.2.1 2 = .ok (.putfield 380, 3) by decide +kernel) wd_1507 rfl (fun _ => rfl) rfl rfl (fun σ_1 => ?_)
  refine V_aload_n 6 rfl (show decode M_Model_keep.2.1 5 = .ok (.aload_n 0, 1) by decide +kernel) 0 rfl ?_
  refine V_aload_n 7 rfl (show decode M_Model_keep.2.1 6 = .ok (.aload_n 0, 1) by decide +kernel) 0 rfl ?_
  refine V_get (j := 0) (v := vR (SR σ_1 h0 0)) 10 rfl ck_Model (by decide) (by decide) (show decode M_Model_keep.2.1 7 = .ok (.getfield 7, 3) by decide +kernel) wd_1504 rfl ?_
  refine V_aload_n 11 rfl (show decode M_Model_keep.2.1 10 = .ok (.aload_n 0, 1) by decide +kernel) 0 rfl ?_
  refine V_get (j := 1) (v := vR (SR σ_1 h0 1)) 14 rfl ck_Model (by decide) (by decide) (show decode M_Model_keep.2.1 11 = .ok (.getfield 13, 3) by decide +kernel) wd_1505 rfl ?_
  refine V_callV (tb := tU) (as := [vR (SR σ_1 h0 0), vR (SR σ_1 h0 1)]) (rest := []) (na := 2) 17 rfl ck_Model (by decide) (s_Model_setAside h0 (SR σ_1 h0 0) (SR σ_1 h0 1) ((((b && cK σ h0 13) && cK σ_1 h0 13) && cK σ_1 h0 13) && cK σ_1 h0 13) σ_1) rfl rfl (Nat.le_of_ble_eq_true rfl) (cal_Model_setAside _ _ _ _ _ (by decide) (by decide) (by decide)) (show decode M_Model_keep.2.1 14 = .ok (.invokevirtual 327, 3) by decide +kernel) wd_1946 wd_1948 wd_160 (fun r_2 b_2 σ_2 => ?_)
  show V M_Model_keep 2 0 0 0 0 tI _ 17 [(0, vR h0)] [] b_2 σ_2
  refine V_aload_n 18 rfl (show decode M_Model_keep.2.1 17 = .ok (.aload_n 0, 1) by decide +kernel) 0 rfl ?_
  refine V_get (j := 0) (v := vR (SR σ_2 h0 0)) 21 rfl ck_Model (by decide) (by decide) (show decode M_Model_keep.2.1 18 = .ok (.getfield 7, 3) by decide +kernel) wd_1504 rfl ?_
  refine V_iconst 22 rfl (show decode M_Model_keep.2.1 21 = .ok (.iconst 0, 1) by decide +kernel) (v := 0) rfl ?_
  refine V_ald_int 23 rfl (show decode M_Model_keep.2.1 22 = .ok (.iaload, 1) by decide +kernel) ?_
  exact V_iret rfl (by decide) (by decide) (show decode M_Model_keep.2.1 23 = .ok (.ireturn, 1) by decide +kernel)
theorem cal_Model_keep (d mc ms k n : Nat) (h1 : 2 + 1 ≤ d) (h2 : k + 0 ≤ mc) (h3 : n + 0 ≤ ms) : Cal M_Model_keep 2 0 0 0 d mc ms k n := ⟨wd_2070, wd_181, by decide, h1, by decide, h2, h3⟩
abbrev M_Model_key : MD := (⟨"LongTrailModel", "key", "()I"⟩, prog_14_method_42_code, 1, (some FieldType.int))
def f_Model_key (h0 : Nat) (b : Bool) (σ : Sto) : Rs Int32 := (bd_ (f_Model_isWordAt h0 (99 : Int32) (97 : Int32) (109 : Int32) (112 : Int32) (b && cK σ h0 13) σ) (fun (r_1 : Int32) (b_1 : Bool) (σ_1 : Sto) => (if r_1 = 0 then (bd_ (f_Model_isWordAt h0 (115 : Int32) (107 : Int32) (105 : Int32) (112 : Int32) (b_1 && cK σ_1 h0 13) σ_1) (fun (r_2 : Int32) (b_2 : Bool) (σ_2 : Sto) => (if r_2 = 0 then (bd_ (f_Model_isWordAt h0 (113 : Int32) (117 : Int32) (105 : Int32) (116 : Int32) (b_2 && cK σ_2 h0 13) σ_2) (fun (r_3 : Int32) (b_3 : Bool) (σ_3 : Sto) => (if r_3 = 0 then (bd_ (f_Model_isWordAt h0 (100 : Int32) (114 : Int32) (97 : Int32) (119 : Int32) (b_3 && cK σ_3 h0 13) σ_3) (fun (r_4 : Int32) (b_4 : Bool) (σ_4 : Sto) => (if r_4 = 0 then ((-1 : Int32), b_4, σ_4) else ((3 : Int32), b_4, σ_4)))) else ((2 : Int32), b_3, σ_3)))) else ((1 : Int32), b_2, σ_2)))) else ((0 : Int32), b_1, σ_1))))
set_option maxRecDepth 100000 in
set_option maxHeartbeats 4000000 in
theorem s_Model_key : ∀ (h0 : Nat) (b : Bool) (σ : Sto), Snd M_Model_key 2 0 0 [vR h0] b σ (tI (f_Model_key h0 b σ).1) (f_Model_key h0 b σ).2.1 (f_Model_key h0 b σ).2.2 := by
  intro h0 b σ
  refine Snd_of (tv := tI) (by decide) (Nat.le_of_ble_eq_true rfl) ?_
  show V M_Model_key 2 0 0 0 0 tI (f_Model_key h0 b σ) 0 [(0, vR h0)] [] b σ
  unfold f_Model_key
  refine V_aload_n 1 rfl (show decode M_Model_key.2.1 0 = .ok (.aload_n 0, 1) by decide +kernel) 0 rfl ?_
  refine V_bipush 3 rfl (show decode M_Model_key.2.1 1 = .ok (.bipush 99, 2) by decide +kernel) (v := 99) rfl ?_
  refine V_bipush 5 rfl (show decode M_Model_key.2.1 3 = .ok (.bipush 97, 2) by decide +kernel) (v := 97) rfl ?_
  refine V_bipush 7 rfl (show decode M_Model_key.2.1 5 = .ok (.bipush 109, 2) by decide +kernel) (v := 109) rfl ?_
  refine V_bipush 9 rfl (show decode M_Model_key.2.1 7 = .ok (.bipush 112, 2) by decide +kernel) (v := 112) rfl ?_
  refine V_callV (tb := tI) (as := [vI (99 : Int32), vI (97 : Int32), vI (109 : Int32), vI (112 : Int32)]) (rest := []) (na := 4) 12 rfl ck_Model (by decide) (s_Model_isWordAt h0 (99 : Int32) (97 : Int32) (109 : Int32) (112 : Int32) (b && cK σ h0 13) σ) rfl rfl (Nat.le_of_ble_eq_true rfl) (cal_Model_isWordAt _ _ _ _ _ (by decide) (by decide) (by decide)) (show decode M_Model_key.2.1 9 = .ok (.invokevirtual 185, 3) by decide +kernel) wd_1772 wd_1774 wd_132 (fun r_1 b_1 σ_1 => ?_)
  show V M_Model_key 2 0 0 0 0 tI _ 12 [(0, vR h0)] [vI r_1] b_1 σ_1
  refine V_ifeq 15 19 rfl (show decode M_Model_key.2.1 12 = .ok (.ifCond .eq 7, 3) by decide +kernel) rfl ?_ ?_
  · skip
    refine V_aload_n 20 rfl (show decode M_Model_key.2.1 19 = .ok (.aload_n 0, 1) by decide +kernel) 0 rfl ?_
    refine V_bipush 22 rfl (show decode M_Model_key.2.1 20 = .ok (.bipush 115, 2) by decide +kernel) (v := 115) rfl ?_
    refine V_bipush 24 rfl (show decode M_Model_key.2.1 22 = .ok (.bipush 107, 2) by decide +kernel) (v := 107) rfl ?_
    refine V_bipush 26 rfl (show decode M_Model_key.2.1 24 = .ok (.bipush 105, 2) by decide +kernel) (v := 105) rfl ?_
    refine V_bipush 28 rfl (show decode M_Model_key.2.1 26 = .ok (.bipush 112, 2) by decide +kernel) (v := 112) rfl ?_
    refine V_callV (tb := tI) (as := [vI (115 : Int32), vI (107 : Int32), vI (105 : Int32), vI (112 : Int32)]) (rest := []) (na := 4) 31 rfl ck_Model (by decide) (s_Model_isWordAt h0 (115 : Int32) (107 : Int32) (105 : Int32) (112 : Int32) (b_1 && cK σ_1 h0 13) σ_1) rfl rfl (Nat.le_of_ble_eq_true rfl) (cal_Model_isWordAt _ _ _ _ _ (by decide) (by decide) (by decide)) (show decode M_Model_key.2.1 28 = .ok (.invokevirtual 185, 3) by decide +kernel) wd_1772 wd_1774 wd_132 (fun r_2 b_2 σ_2 => ?_)
    show V M_Model_key 2 0 0 0 0 tI _ 31 [(0, vR h0)] [vI r_2] b_2 σ_2
    refine V_ifeq 34 38 rfl (show decode M_Model_key.2.1 31 = .ok (.ifCond .eq 7, 3) by decide +kernel) rfl ?_ ?_
    · skip
      refine V_aload_n 39 rfl (show decode M_Model_key.2.1 38 = .ok (.aload_n 0, 1) by decide +kernel) 0 rfl ?_
      refine V_bipush 41 rfl (show decode M_Model_key.2.1 39 = .ok (.bipush 113, 2) by decide +kernel) (v := 113) rfl ?_
      refine V_bipush 43 rfl (show decode M_Model_key.2.1 41 = .ok (.bipush 117, 2) by decide +kernel) (v := 117) rfl ?_
      refine V_bipush 45 rfl (show decode M_Model_key.2.1 43 = .ok (.bipush 105, 2) by decide +kernel) (v := 105) rfl ?_
      refine V_bipush 47 rfl (show decode M_Model_key.2.1 45 = .ok (.bipush 116, 2) by decide +kernel) (v := 116) rfl ?_
      refine V_callV (tb := tI) (as := [vI (113 : Int32), vI (117 : Int32), vI (105 : Int32), vI (116 : Int32)]) (rest := []) (na := 4) 50 rfl ck_Model (by decide) (s_Model_isWordAt h0 (113 : Int32) (117 : Int32) (105 : Int32) (116 : Int32) (b_2 && cK σ_2 h0 13) σ_2) rfl rfl (Nat.le_of_ble_eq_true rfl) (cal_Model_isWordAt _ _ _ _ _ (by decide) (by decide) (by decide)) (show decode M_Model_key.2.1 47 = .ok (.invokevirtual 185, 3) by decide +kernel) wd_1772 wd_1774 wd_132 (fun r_3 b_3 σ_3 => ?_)
      show V M_Model_key 2 0 0 0 0 tI _ 50 [(0, vR h0)] [vI r_3] b_3 σ_3
      refine V_ifeq 53 57 rfl (show decode M_Model_key.2.1 50 = .ok (.ifCond .eq 7, 3) by decide +kernel) rfl ?_ ?_
      · skip
        refine V_aload_n 58 rfl (show decode M_Model_key.2.1 57 = .ok (.aload_n 0, 1) by decide +kernel) 0 rfl ?_
        refine V_bipush 60 rfl (show decode M_Model_key.2.1 58 = .ok (.bipush 100, 2) by decide +kernel) (v := 100) rfl ?_
        refine V_bipush 62 rfl (show decode M_Model_key.2.1 60 = .ok (.bipush 114, 2) by decide +kernel) (v := 114) rfl ?_
        refine V_bipush 64 rfl (show decode M_Model_key.2.1 62 = .ok (.bipush 97, 2) by decide +kernel) (v := 97) rfl ?_
        refine V_bipush 66 rfl (show decode M_Model_key.2.1 64 = .ok (.bipush 119, 2) by decide +kernel) (v := 119) rfl ?_
        refine V_callV (tb := tI) (as := [vI (100 : Int32), vI (114 : Int32), vI (97 : Int32), vI (119 : Int32)]) (rest := []) (na := 4) 69 rfl ck_Model (by decide) (s_Model_isWordAt h0 (100 : Int32) (114 : Int32) (97 : Int32) (119 : Int32) (b_3 && cK σ_3 h0 13) σ_3) rfl rfl (Nat.le_of_ble_eq_true rfl) (cal_Model_isWordAt _ _ _ _ _ (by decide) (by decide) (by decide)) (show decode M_Model_key.2.1 66 = .ok (.invokevirtual 185, 3) by decide +kernel) wd_1772 wd_1774 wd_132 (fun r_4 b_4 σ_4 => ?_)
        show V M_Model_key 2 0 0 0 0 tI _ 69 [(0, vR h0)] [vI r_4] b_4 σ_4
        refine V_ifeq 72 76 rfl (show decode M_Model_key.2.1 69 = .ok (.ifCond .eq 7, 3) by decide +kernel) rfl ?_ ?_
        · skip
          refine V_iconst 77 rfl (show decode M_Model_key.2.1 76 = .ok (.iconst (-1), 1) by decide +kernel) (v := -1) rfl ?_
          exact V_iret rfl (by decide) (by decide) (show decode M_Model_key.2.1 77 = .ok (.ireturn, 1) by decide +kernel)
        · skip
          refine V_iconst 73 rfl (show decode M_Model_key.2.1 72 = .ok (.iconst 3, 1) by decide +kernel) (v := 3) rfl ?_
          refine V_goto 77 (show decode M_Model_key.2.1 73 = .ok (.goto 4, 3) by decide +kernel) rfl ?_
          exact V_iret rfl (by decide) (by decide) (show decode M_Model_key.2.1 77 = .ok (.ireturn, 1) by decide +kernel)
      · skip
        refine V_iconst 54 rfl (show decode M_Model_key.2.1 53 = .ok (.iconst 2, 1) by decide +kernel) (v := 2) rfl ?_
        refine V_goto 77 (show decode M_Model_key.2.1 54 = .ok (.goto 23, 3) by decide +kernel) rfl ?_
        exact V_iret rfl (by decide) (by decide) (show decode M_Model_key.2.1 77 = .ok (.ireturn, 1) by decide +kernel)
    · skip
      refine V_iconst 35 rfl (show decode M_Model_key.2.1 34 = .ok (.iconst 1, 1) by decide +kernel) (v := 1) rfl ?_
      refine V_goto 77 (show decode M_Model_key.2.1 35 = .ok (.goto 42, 3) by decide +kernel) rfl ?_
      exact V_iret rfl (by decide) (by decide) (show decode M_Model_key.2.1 77 = .ok (.ireturn, 1) by decide +kernel)
  · skip
    refine V_iconst 16 rfl (show decode M_Model_key.2.1 15 = .ok (.iconst 0, 1) by decide +kernel) (v := 0) rfl ?_
    refine V_goto 77 (show decode M_Model_key.2.1 16 = .ok (.goto 61, 3) by decide +kernel) rfl ?_
    exact V_iret rfl (by decide) (by decide) (show decode M_Model_key.2.1 77 = .ok (.ireturn, 1) by decide +kernel)
theorem cal_Model_key (d mc ms k n : Nat) (h1 : 2 + 1 ≤ d) (h2 : k + 0 ≤ mc) (h3 : n + 0 ≤ ms) : Cal M_Model_key 2 0 0 0 d mc ms k n := ⟨wd_1771, wd_181, by decide, h1, by decide, h2, h3⟩
abbrev M_Model_land : MD := (⟨"LongTrailModel", "land", "(II)I"⟩, prog_14_method_28_code, 3, (some FieldType.int))
def f_Model_land (h0 : Nat) (x1 : Int32) (x2 : Int32) (b : Bool) (σ : Sto) : Rs Int32 := (bd_ (f_Model_isIn ((x1).toInt64) (1 : Int64) (3 : Int64) b σ) (fun (r_1 : Int32) (b_1 : Bool) (σ_1 : Sto) => (lt_ (fun (b : Bool) (σ : Sto) => ((-1000000001 : Int32), b, σ)) (fun J26 => (if r_1 = 0 then (J26 b_1 σ_1) else (lt_ (fun (b : Bool) (σ : Sto) => (lt_ (fun (s0_45 : Int32) (s1_45 : Int32) (s2_45 : Nat) (b : Bool) (σ : Sto) => (bd_ (f_Model_becomes s2_45 s1_45 s0_45 (b && cK σ s2_45 13) σ) (fun (r_2 : Int32) (b_2 : Bool) (σ_2 : Sto) => (bd_ (f_Model_orNone r_2 b_2 σ_2) (fun (r_3 : Int32) (b_3 : Bool) (σ_3 : Sto) => (r_3, b_3, σ_3)))))) (fun J45 => (if x2 = (-1000000005 : Int32) then (J45 (-1 : Int32) ((10 : Int32) + x1) h0 b σ) else (J45 x2 ((10 : Int32) + x1) h0 b σ))))) (fun J29 => (if x2 = (-1000000005 : Int32) then (J29 b_1 σ_1) else (bd_ (f_Model_isMile h0 x2 (b_1 && cK σ_1 h0 13) σ_1) (fun (r_4 : Int32) (b_4 : Bool) (σ_4 : Sto) => (if r_4 = 0 then (J26 b_4 σ_4) else (J29 b_4 σ_4))))))))))))
set_option maxRecDepth 100000 in
set_option maxHeartbeats 4000000 in
theorem s_Model_land : ∀ (h0 : Nat) (x1 : Int32) (x2 : Int32) (b : Bool) (σ : Sto), Snd M_Model_land 3 0 0 [vR h0, vI x1, vI x2] b σ (tI (f_Model_land h0 x1 x2 b σ).1) (f_Model_land h0 x1 x2 b σ).2.1 (f_Model_land h0 x1 x2 b σ).2.2 := by
  intro h0 x1 x2 b σ
  refine Snd_of (tv := tI) (by decide) (Nat.le_of_ble_eq_true rfl) ?_
  show V M_Model_land 3 0 0 0 0 tI (f_Model_land h0 x1 x2 b σ) 0 [(0, vR h0), (1, vI x1), (2, vI x2)] [] b σ
  unfold f_Model_land
  refine V_iload_n 1 rfl (show decode M_Model_land.2.1 0 = .ok (.iload_n 1, 1) by decide +kernel) 1 rfl ?_
  refine V_i2l 2 rfl (show decode M_Model_land.2.1 1 = .ok (.i2l, 1) by decide +kernel) ?_
  refine V_lconst 3 rfl (show decode M_Model_land.2.1 2 = .ok (.lconst 1, 1) by decide +kernel) (v := 1) rfl ?_
  refine V_ldc2 6 rfl (show decode M_Model_land.2.1 3 = .ok (.ldc2_w 141, 3) by decide +kernel) wd_1702 ?_
  refine V_callS (tb := tI) (as := [vL ((x1).toInt64), vL (1 : Int64), vL (3 : Int64)]) (rest := []) (na := 3) 9 rfl (s_Model_isIn ((x1).toInt64) (1 : Int64) (3 : Int64) b σ) rfl rfl (Nat.le_of_ble_eq_true rfl) (cal_Model_isIn _ _ _ _ _ (by decide) (by decide) (by decide)) (show decode M_Model_land.2.1 6 = .ok (.invokestatic 76, 3) by decide +kernel) wd_1617 wd_1618 (fun r_1 b_1 σ_1 => ?_)
  show V M_Model_land 3 0 0 0 0 tI _ 9 [(0, vR h0), (1, vI x1), (2, vI x2)] [vI r_1] b_1 σ_1
  refine V_jn (fun (J26 : Bool → Sto → Rs Int32) => ∀ (b : Bool) (σ : Sto), V M_Model_land 3 0 0 0 0 tI (J26 b σ) 26 [] [] b σ) ?_ (fun J26 hJ26 => ?_)
  · intro b σ
    refine V_ldc 28 rfl (show decode M_Model_land.2.1 26 = .ok (.ldc 91, 2) by decide +kernel) wd_1620 ?_
    exact V_iret rfl (by decide) (by decide) (show decode M_Model_land.2.1 28 = .ok (.ireturn, 1) by decide +kernel)
  · skip
    refine V_ifeq 12 26 rfl (show decode M_Model_land.2.1 9 = .ok (.ifCond .eq 17, 3) by decide +kernel) rfl ?_ ?_
    · skip
      exact V_sub [] rfl (hJ26 b_1 σ_1)
    · skip
      refine V_iload_n 13 rfl (show decode M_Model_land.2.1 12 = .ok (.iload_n 2, 1) by decide +kernel) 2 rfl ?_
      refine V_ldc 15 rfl (show decode M_Model_land.2.1 13 = .ok (.ldc 75, 2) by decide +kernel) wd_1703 ?_
      refine V_jn (fun (J29 : Bool → Sto → Rs Int32) => ∀ (b : Bool) (σ : Sto), V M_Model_land 3 0 0 0 0 tI (J29 b σ) 29 [(0, vR h0), (1, vI x1), (2, vI x2)] [] b σ) ?_ (fun J29 hJ29 => ?_)
      · intro b σ
        refine V_aload_n 30 rfl (show decode M_Model_land.2.1 29 = .ok (.aload_n 0, 1) by decide +kernel) 0 rfl ?_
        refine V_bipush 32 rfl (show decode M_Model_land.2.1 30 = .ok (.bipush 10, 2) by decide +kernel) (v := 10) rfl ?_
        refine V_iload_n 33 rfl (show decode M_Model_land.2.1 32 = .ok (.iload_n 1, 1) by decide +kernel) 1 rfl ?_
        refine V_iadd 34 rfl (show decode M_Model_land.2.1 33 = .ok (.iadd, 1) by decide +kernel) ?_
        refine V_iload_n 35 rfl (show decode M_Model_land.2.1 34 = .ok (.iload_n 2, 1) by decide +kernel) 2 rfl ?_
        refine V_ldc 37 rfl (show decode M_Model_land.2.1 35 = .ok (.ldc 75, 2) by decide +kernel) wd_1703 ?_
        refine V_jn (fun (J45 : Int32 → Int32 → Nat → Bool → Sto → Rs Int32) => ∀ (s0_45 : Int32) (s1_45 : Int32) (s2_45 : Nat) (b : Bool) (σ : Sto), V M_Model_land 3 0 0 0 0 tI (J45 s0_45 s1_45 s2_45 b σ) 45 [] [vI s0_45, vI s1_45, vR s2_45] b σ) ?_ (fun J45 hJ45 => ?_)
        · intro s0_45 s1_45 s2_45 b σ
          refine V_callV (tb := tI) (as := [vI s1_45, vI s0_45]) (rest := []) (na := 2) 48 rfl ck_Model (by decide) (s_Model_becomes s2_45 s1_45 s0_45 (b && cK σ s2_45 13) σ) rfl rfl (Nat.le_of_ble_eq_true rfl) (cal_Model_becomes _ _ _ _ _ (by decide) (by decide) (by decide)) (show decode M_Model_land.2.1 45 = .ok (.invokevirtual 99, 3) by decide +kernel) wd_1634 wd_1636 wd_115 (fun r_2 b_2 σ_2 => ?_)
          show V M_Model_land 3 0 0 0 0 tI _ 48 [] [vI r_2] b_2 σ_2
          refine V_callS (tb := tI) (as := [vI r_2]) (rest := []) (na := 1) 51 rfl (s_Model_orNone r_2 b_2 σ_2) rfl rfl (Nat.le_of_ble_eq_true rfl) (cal_Model_orNone _ _ _ _ _ (by decide) (by decide) (by decide)) (show decode M_Model_land.2.1 48 = .ok (.invokestatic 143, 3) by decide +kernel) wd_1704 wd_1705 (fun r_3 b_3 σ_3 => ?_)
          show V M_Model_land 3 0 0 0 0 tI _ 51 [] [vI r_3] b_3 σ_3
          exact V_iret rfl (by decide) (by decide) (show decode M_Model_land.2.1 51 = .ok (.ireturn, 1) by decide +kernel)
        · skip
          refine V_icmpne 40 44 rfl (show decode M_Model_land.2.1 37 = .ok (.if_icmp .ne 7, 3) by decide +kernel) rfl ?_ ?_
          · skip
            refine V_iconst 41 rfl (show decode M_Model_land.2.1 40 = .ok (.iconst (-1), 1) by decide +kernel) (v := -1) rfl ?_
            refine V_goto 45 (show decode M_Model_land.2.1 41 = .ok (.goto 4, 3) by decide +kernel) rfl ?_
            exact V_sub [] rfl (hJ45 (-1 : Int32) ((10 : Int32) + x1) h0 b σ)
          · skip
            refine V_iload_n 45 rfl (show decode M_Model_land.2.1 44 = .ok (.iload_n 2, 1) by decide +kernel) 2 rfl ?_
            exact V_sub [] rfl (hJ45 x2 ((10 : Int32) + x1) h0 b σ)
      · skip
        refine V_icmpeq 18 29 rfl (show decode M_Model_land.2.1 15 = .ok (.if_icmp .eq 14, 3) by decide +kernel) rfl ?_ ?_
        · skip
          exact V_sub [0, 1, 2] rfl (hJ29 b_1 σ_1)
        · skip
          refine V_aload_n 19 rfl (show decode M_Model_land.2.1 18 = .ok (.aload_n 0, 1) by decide +kernel) 0 rfl ?_
          refine V_iload_n 20 rfl (show decode M_Model_land.2.1 19 = .ok (.iload_n 2, 1) by decide +kernel) 2 rfl ?_
          refine V_callV (tb := tI) (as := [vI x2]) (rest := []) (na := 1) 23 rfl ck_Model (by decide) (s_Model_isMile h0 x2 (b_1 && cK σ_1 h0 13) σ_1) rfl rfl (Nat.le_of_ble_eq_true rfl) (cal_Model_isMile _ _ _ _ _ (by decide) (by decide) (by decide)) (show decode M_Model_land.2.1 20 = .ok (.invokevirtual 113, 3) by decide +kernel) wd_1648 wd_1650 wd_116 (fun r_4 b_4 σ_4 => ?_)
          show V M_Model_land 3 0 0 0 0 tI _ 23 [(0, vR h0), (1, vI x1), (2, vI x2)] [vI r_4] b_4 σ_4
          refine V_ifne 26 29 rfl (show decode M_Model_land.2.1 23 = .ok (.ifCond .ne 6, 3) by decide +kernel) rfl ?_ ?_
          · skip
            exact V_sub [] rfl (hJ26 b_4 σ_4)
          · skip
            exact V_sub [0, 1, 2] rfl (hJ29 b_4 σ_4)
theorem cal_Model_land (d mc ms k n : Nat) (h1 : 3 + 1 ≤ d) (h2 : k + 0 ≤ mc) (h3 : n + 0 ≤ ms) : Cal M_Model_land 3 0 0 2 d mc ms k n := ⟨wd_1701, wd_181, by decide, h1, by decide, h2, h3⟩
abbrev M_Model_landAt : MD := (⟨"LongTrailModel", "landAt", "(I)I"⟩, prog_14_method_30_code, 2, (some FieldType.int))
def f_Model_landAt (h0 : Nat) (x1 : Int32) (b : Bool) (σ : Sto) : Rs Int32 := (bd_ (f_Model_isMile h0 x1 (b && cK σ h0 13) σ) (fun (r_1 : Int32) (b_1 : Bool) (σ_1 : Sto) => (if r_1 = 0 then ((-1000000001 : Int32), b_1, σ_1) else (bd_ (f_Model_landOf h0 x1 (b_1 && cK σ_1 h0 13) σ_1) (fun (r_2 : Int32) (b_2 : Bool) (σ_2 : Sto) => (r_2, b_2, σ_2))))))
set_option maxRecDepth 100000 in
set_option maxHeartbeats 4000000 in
theorem s_Model_landAt : ∀ (h0 : Nat) (x1 : Int32) (b : Bool) (σ : Sto), Snd M_Model_landAt 3 0 0 [vR h0, vI x1] b σ (tI (f_Model_landAt h0 x1 b σ).1) (f_Model_landAt h0 x1 b σ).2.1 (f_Model_landAt h0 x1 b σ).2.2 := by
  intro h0 x1 b σ
  refine Snd_of (tv := tI) (by decide) (Nat.le_of_ble_eq_true rfl) ?_
  show V M_Model_landAt 3 0 0 0 0 tI (f_Model_landAt h0 x1 b σ) 0 [(0, vR h0), (1, vI x1)] [] b σ
  unfold f_Model_landAt
  refine V_aload_n 1 rfl (show decode M_Model_landAt.2.1 0 = .ok (.aload_n 0, 1) by decide +kernel) 0 rfl ?_
  refine V_iload_n 2 rfl (show decode M_Model_landAt.2.1 1 = .ok (.iload_n 1, 1) by decide +kernel) 1 rfl ?_
  refine V_callV (tb := tI) (as := [vI x1]) (rest := []) (na := 1) 5 rfl ck_Model (by decide) (s_Model_isMile h0 x1 (b && cK σ h0 13) σ) rfl rfl (Nat.le_of_ble_eq_true rfl) (cal_Model_isMile _ _ _ _ _ (by decide) (by decide) (by decide)) (show decode M_Model_landAt.2.1 2 = .ok (.invokevirtual 113, 3) by decide +kernel) wd_1648 wd_1650 wd_116 (fun r_1 b_1 σ_1 => ?_)
  show V M_Model_landAt 3 0 0 0 0 tI _ 5 [(0, vR h0), (1, vI x1)] [vI r_1] b_1 σ_1
  refine V_ifeq 8 16 rfl (show decode M_Model_landAt.2.1 5 = .ok (.ifCond .eq 11, 3) by decide +kernel) rfl ?_ ?_
  · skip
    refine V_ldc 18 rfl (show decode M_Model_landAt.2.1 16 = .ok (.ldc 91, 2) by decide +kernel) wd_1620 ?_
    exact V_iret rfl (by decide) (by decide) (show decode M_Model_landAt.2.1 18 = .ok (.ireturn, 1) by decide +kernel)
  · skip
    refine V_aload_n 9 rfl (show decode M_Model_landAt.2.1 8 = .ok (.aload_n 0, 1) by decide +kernel) 0 rfl ?_
    refine V_iload_n 10 rfl (show decode M_Model_landAt.2.1 9 = .ok (.iload_n 1, 1) by decide +kernel) 1 rfl ?_
    refine V_callV (tb := tI) (as := [vI x1]) (rest := []) (na := 1) 13 rfl ck_Model (by decide) (s_Model_landOf h0 x1 (b_1 && cK σ_1 h0 13) σ_1) rfl rfl (Nat.le_of_ble_eq_true rfl) (cal_Model_landOf _ _ _ _ _ (by decide) (by decide) (by decide)) (show decode M_Model_landAt.2.1 10 = .ok (.invokevirtual 146, 3) by decide +kernel) wd_1711 wd_1713 wd_124 (fun r_2 b_2 σ_2 => ?_)
    show V M_Model_landAt 3 0 0 0 0 tI _ 13 [(0, vR h0), (1, vI x1)] [vI r_2] b_2 σ_2
    refine V_goto 18 (show decode M_Model_landAt.2.1 13 = .ok (.goto 5, 3) by decide +kernel) rfl ?_
    exact V_iret rfl (by decide) (by decide) (show decode M_Model_landAt.2.1 18 = .ok (.ireturn, 1) by decide +kernel)
theorem cal_Model_landAt (d mc ms k n : Nat) (h1 : 3 + 1 ≤ d) (h2 : k + 0 ≤ mc) (h3 : n + 0 ≤ ms) : Cal M_Model_landAt 3 0 0 1 d mc ms k n := ⟨wd_1710, wd_181, by decide, h1, by decide, h2, h3⟩
abbrev M_Model_leg : MD := (⟨"LongTrailModel", "leg", "(III)I"⟩, prog_14_method_92_code, 4, (some FieldType.int))
def f_Model_leg (x0 : Int32) (x1 : Int32) (x2 : Int32) (b : Bool) (σ : Sto) : Rs Int32 := (lt_ (((x0 + x1) - (1 : Int32)) / x1) (fun (x3_1 : Int32) => (if x2 < x3_1 then ((-1 : Int32), (b && !decide (x1 = 0)), σ) else ((x3_1 * x3_1), (b && !decide (x1 = 0)), σ))))
set_option maxRecDepth 100000 in
set_option maxHeartbeats 4000000 in
theorem s_Model_leg : ∀ (x0 : Int32) (x1 : Int32) (x2 : Int32) (b : Bool) (σ : Sto), Snd M_Model_leg 1 0 0 [vI x0, vI x1, vI x2] b σ (tI (f_Model_leg x0 x1 x2 b σ).1) (f_Model_leg x0 x1 x2 b σ).2.1 (f_Model_leg x0 x1 x2 b σ).2.2 := by
  intro x0 x1 x2 b σ
  refine Snd_of (tv := tI) (by decide) (Nat.le_of_ble_eq_true rfl) ?_
  show V M_Model_leg 1 0 0 0 0 tI (f_Model_leg x0 x1 x2 b σ) 0 [(0, vI x0), (1, vI x1), (2, vI x2)] [] b σ
  unfold f_Model_leg
  refine V_iload_n 1 rfl (show decode M_Model_leg.2.1 0 = .ok (.iload_n 0, 1) by decide +kernel) 0 rfl ?_
  refine V_iload_n 2 rfl (show decode M_Model_leg.2.1 1 = .ok (.iload_n 1, 1) by decide +kernel) 1 rfl ?_
  refine V_iadd 3 rfl (show decode M_Model_leg.2.1 2 = .ok (.iadd, 1) by decide +kernel) ?_
  refine V_iconst 4 rfl (show decode M_Model_leg.2.1 3 = .ok (.iconst 1, 1) by decide +kernel) (v := 1) rfl ?_
  refine V_isub 5 rfl (show decode M_Model_leg.2.1 4 = .ok (.isub, 1) by decide +kernel) ?_
  refine V_iload_n 6 rfl (show decode M_Model_leg.2.1 5 = .ok (.iload_n 1, 1) by decide +kernel) 1 rfl ?_
  refine V_idiv 7 rfl (show decode M_Model_leg.2.1 6 = .ok (.idiv, 1) by decide +kernel) ?_
  refine V_istore_n (fun x3_1 => [(3, vI x3_1), (0, vI x0), (1, vI x1), (2, vI x2)]) 8 rfl (show decode M_Model_leg.2.1 7 = .ok (.istore_n 3, 1) by decide +kernel) (by decide) (fun _ => rfl) (fun x3_1 => ?_)
  refine V_iload_n 9 rfl (show decode M_Model_leg.2.1 8 = .ok (.iload_n 3, 1) by decide +kernel) 0 rfl ?_
  refine V_iload_n 10 rfl (show decode M_Model_leg.2.1 9 = .ok (.iload_n 2, 1) by decide +kernel) 3 rfl ?_
  refine V_icmple 13 17 rfl (show decode M_Model_leg.2.1 10 = .ok (.if_icmp .le 7, 3) by decide +kernel) rfl ?_ ?_
  · skip
    refine V_iconst 14 rfl (show decode M_Model_leg.2.1 13 = .ok (.iconst (-1), 1) by decide +kernel) (v := -1) rfl ?_
    refine V_goto 20 (show decode M_Model_leg.2.1 14 = .ok (.goto 6, 3) by decide +kernel) rfl ?_
    exact V_iret rfl (by decide) (by decide) (show decode M_Model_leg.2.1 20 = .ok (.ireturn, 1) by decide +kernel)
  · skip
    refine V_iload_n 18 rfl (show decode M_Model_leg.2.1 17 = .ok (.iload_n 3, 1) by decide +kernel) 0 rfl ?_
    refine V_iload_n 19 rfl (show decode M_Model_leg.2.1 18 = .ok (.iload_n 3, 1) by decide +kernel) 0 rfl ?_
    refine V_imul 20 rfl (show decode M_Model_leg.2.1 19 = .ok (.imul, 1) by decide +kernel) ?_
    exact V_iret rfl (by decide) (by decide) (show decode M_Model_leg.2.1 20 = .ok (.ireturn, 1) by decide +kernel)
theorem cal_Model_leg (d mc ms k n : Nat) (h1 : 1 + 1 ≤ d) (h2 : k + 0 ≤ mc) (h3 : n + 0 ≤ ms) : Cal M_Model_leg 1 0 0 3 d mc ms k n := ⟨wd_1998, wd_181, by decide, h1, by decide, h2, h3⟩
abbrev M_Model_length : MD := (⟨"LongTrailModel", "length", "(I)I"⟩, prog_14_method_21_code, 4, (some FieldType.int))
def b_Model_length_115 (h0 : Nat) (x1 : Int32) (L115 : Int32 → Int32 → Bool → Sto → Rs Int32) (x2 : Int32) (x3 : Int32) (b : Bool) (σ : Sto) : Rs Int32 := (if x3 < (SI σ (SR σ h0 0) (ix (9 : Int32))) then (lt_ (fun (s0_153 : Int32) (b : Bool) (σ : Sto) => (lt_ s0_153 (fun (x2_12 : Int32) => (lt_ (x3 + (1 : Int32)) (fun (x3_13 : Int32) => (L115 x2_12 x3_13 b σ)))))) (fun J153 => (lt_ (fun (b : Bool) (σ : Sto) => (J153 (1 : Int32) b σ)) (fun J148 => (if x2 = 0 then (if x1 < (SI σ (SR σ h0 0) (ix (((520 : Int32) + ((2 : Int32) * x3)) + (1 : Int32)))) then (J148 ((((b && cK σ h0 13) && cA σ (SR σ h0 0) 21 (9 : Int32)) && cK σ h0 13) && cA σ (SR σ h0 0) 21 (((520 : Int32) + ((2 : Int32) * x3)) + (1 : Int32))) σ) else (J153 (0 : Int32) ((((b && cK σ h0 13) && cA σ (SR σ h0 0) 21 (9 : Int32)) && cK σ h0 13) && cA σ (SR σ h0 0) 21 (((520 : Int32) + ((2 : Int32) * x3)) + (1 : Int32))) σ)) else (J148 ((b && cK σ h0 13) && cA σ (SR σ h0 0) 21 (9 : Int32)) σ)))))) else (if x2 = 0 then (bd_ (f_Model_becomes h0 (1 : Int32) x1 (((b && cK σ h0 13) && cA σ (SR σ h0 0) 21 (9 : Int32)) && cK σ h0 13) σ) (fun (r_14 : Int32) (b_14 : Bool) (σ_14 : Sto) => (r_14, b_14, σ_14))) else ((-1000000002 : Int32), ((b && cK σ h0 13) && cA σ (SR σ h0 0) 21 (9 : Int32)), σ)))
def b_Model_length_71 (h0 : Nat) (x1 : Int32) (L71 : Int32 → Int32 → Bool → Sto → Rs Int32) (x2 : Int32) (x3 : Int32) (b : Bool) (σ : Sto) : Rs Int32 := (if x3 < (SI σ (SR σ h0 0) (ix (3 : Int32))) then (lt_ (fun (s0_106 : Int32) (b : Bool) (σ : Sto) => (lt_ s0_106 (fun (x2_8 : Int32) => (lt_ (x3 + (1 : Int32)) (fun (x3_9 : Int32) => (L71 x2_8 x3_9 b σ)))))) (fun J106 => (lt_ (fun (b : Bool) (σ : Sto) => (J106 (1 : Int32) b σ)) (fun J101 => (if x2 = 0 then (bd_ (f_Model_fireAt h0 x3 ((((b && cK σ h0 13) && cA σ (SR σ h0 0) 21 (3 : Int32)) && cK σ h0 13) && cK σ h0 13) σ) (fun (r_10 : Int32) (b_10 : Bool) (σ_10 : Sto) => (if x1 < (SI σ_10 (SR σ h0 0) (ix (r_10 + (1 : Int32)))) then (J101 (b_10 && cA σ_10 (SR σ h0 0) 21 (r_10 + (1 : Int32))) σ_10) else (J106 (0 : Int32) (b_10 && cA σ_10 (SR σ h0 0) 21 (r_10 + (1 : Int32))) σ_10)))) else (J101 ((b && cK σ h0 13) && cA σ (SR σ h0 0) 21 (3 : Int32)) σ)))))) else (lt_ (0 : Int32) (fun (x3_11 : Int32) => (lp_ (b_Model_length_115 h0 x1) (fun (x2 : Int32) (x3 : Int32) (b : Bool) (σ : Sto) => (0, false, σ)) fuel_ x2 x3_11 ((b && cK σ h0 13) && cA σ (SR σ h0 0) 21 (3 : Int32)) σ))))
def b_Model_length_34 (h0 : Nat) (x1 : Int32) (L34 : Int32 → Int32 → Bool → Sto → Rs Int32) (x2 : Int32) (x3 : Int32) (b : Bool) (σ : Sto) : Rs Int32 := (if x3 < (SI σ (SR σ h0 0) (ix (2 : Int32))) then (lt_ (fun (s0_62 : Int32) (b : Bool) (σ : Sto) => (lt_ s0_62 (fun (x2_4 : Int32) => (lt_ (x3 + (1 : Int32)) (fun (x3_5 : Int32) => (L34 x2_4 x3_5 b σ)))))) (fun J62 => (lt_ (fun (b : Bool) (σ : Sto) => (J62 (1 : Int32) b σ)) (fun J57 => (if x2 = 0 then (bd_ (f_Model_mileOf h0 x3 (((b && cK σ h0 13) && cA σ (SR σ h0 0) 21 (2 : Int32)) && cK σ h0 13) σ) (fun (r_6 : Int32) (b_6 : Bool) (σ_6 : Sto) => (if x1 < r_6 then (J57 b_6 σ_6) else (J62 (0 : Int32) b_6 σ_6)))) else (J57 ((b && cK σ h0 13) && cA σ (SR σ h0 0) 21 (2 : Int32)) σ)))))) else (lt_ (0 : Int32) (fun (x3_7 : Int32) => (lp_ (b_Model_length_71 h0 x1) (fun (x2 : Int32) (x3 : Int32) (b : Bool) (σ : Sto) => (0, false, σ)) fuel_ x2 x3_7 ((b && cK σ h0 13) && cA σ (SR σ h0 0) 21 (2 : Int32)) σ))))
def f_Model_length (h0 : Nat) (x1 : Int32) (b : Bool) (σ : Sto) : Rs Int32 := (bd_ (f_Model_isIn ((x1).toInt64) (20 : Int64) (2000 : Int64) b σ) (fun (r_1 : Int32) (b_1 : Bool) (σ_1 : Sto) => (if r_1 = 0 then ((-1000000001 : Int32), b_1, σ_1) else (lt_ (fun (s0_31 : Int32) (b : Bool) (σ : Sto) => (lt_ s0_31 (fun (x2_2 : Int32) => (lt_ (0 : Int32) (fun (x3_3 : Int32) => (lp_ (b_Model_length_34 h0 x1) (fun (x2 : Int32) (x3 : Int32) (b : Bool) (σ : Sto) => (0, false, σ)) fuel_ x2_2 x3_3 b σ)))))) (fun J31 => (if 0 < (SI σ_1 (SR σ_1 h0 0) (ix (5 : Int32))) then (J31 (1 : Int32) ((b_1 && cK σ_1 h0 13) && cA σ_1 (SR σ_1 h0 0) 21 (5 : Int32)) σ_1) else (J31 (0 : Int32) ((b_1 && cK σ_1 h0 13) && cA σ_1 (SR σ_1 h0 0) 21 (5 : Int32)) σ_1)))))))
set_option maxRecDepth 100000 in
set_option maxHeartbeats 4000000 in
theorem s_Model_length : ∀ (h0 : Nat) (x1 : Int32) (b : Bool) (σ : Sto), Snd M_Model_length 3 0 0 [vR h0, vI x1] b σ (tI (f_Model_length h0 x1 b σ).1) (f_Model_length h0 x1 b σ).2.1 (f_Model_length h0 x1 b σ).2.2 := by
  intro h0 x1 b σ
  refine Snd_of (tv := tI) (by decide) (Nat.le_of_ble_eq_true rfl) ?_
  show V M_Model_length 3 0 0 0 0 tI (f_Model_length h0 x1 b σ) 0 [(0, vR h0), (1, vI x1)] [] b σ
  unfold f_Model_length
  refine V_iload_n 1 rfl (show decode M_Model_length.2.1 0 = .ok (.iload_n 1, 1) by decide +kernel) 1 rfl ?_
  refine V_i2l 2 rfl (show decode M_Model_length.2.1 1 = .ok (.i2l, 1) by decide +kernel) ?_
  refine V_ldc2 5 rfl (show decode M_Model_length.2.1 2 = .ok (.ldc2_w 87, 3) by decide +kernel) wd_1615 ?_
  refine V_ldc2 8 rfl (show decode M_Model_length.2.1 5 = .ok (.ldc2_w 89, 3) by decide +kernel) wd_1616 ?_
  refine V_callS (tb := tI) (as := [vL ((x1).toInt64), vL (20 : Int64), vL (2000 : Int64)]) (rest := []) (na := 3) 11 rfl (s_Model_isIn ((x1).toInt64) (20 : Int64) (2000 : Int64) b σ) rfl rfl (Nat.le_of_ble_eq_true rfl) (cal_Model_isIn _ _ _ _ _ (by decide) (by decide) (by decide)) (show decode M_Model_length.2.1 8 = .ok (.invokestatic 76, 3) by decide +kernel) wd_1617 wd_1618 (fun r_1 b_1 σ_1 => ?_)
  show V M_Model_length 3 0 0 0 0 tI _ 11 [(0, vR h0), (1, vI x1)] [vI r_1] b_1 σ_1
  refine V_ifne 14 17 rfl (show decode M_Model_length.2.1 11 = .ok (.ifCond .ne 6, 3) by decide +kernel) rfl ?_ ?_
  · skip
    refine V_ldc 16 rfl (show decode M_Model_length.2.1 14 = .ok (.ldc 91, 2) by decide +kernel) wd_1620 ?_
    exact V_iret rfl (by decide) (by decide) (show decode M_Model_length.2.1 16 = .ok (.ireturn, 1) by decide +kernel)
  · skip
    refine V_aload_n 18 rfl (show decode M_Model_length.2.1 17 = .ok (.aload_n 0, 1) by decide +kernel) 0 rfl ?_
    refine V_get (j := 0) (v := vR (SR σ_1 h0 0)) 21 rfl ck_Model (by decide) (by decide) (show decode M_Model_length.2.1 18 = .ok (.getfield 7, 3) by decide +kernel) wd_1504 rfl ?_
    refine V_iconst 22 rfl (show decode M_Model_length.2.1 21 = .ok (.iconst 5, 1) by decide +kernel) (v := 5) rfl ?_
    refine V_ald_int 23 rfl (show decode M_Model_length.2.1 22 = .ok (.iaload, 1) by decide +kernel) ?_
    refine V_jn (fun (J31 : Int32 → Bool → Sto → Rs Int32) => ∀ (s0_31 : Int32) (b : Bool) (σ : Sto), V M_Model_length 3 0 0 0 0 tI (J31 s0_31 b σ) 31 [(0, vR h0), (1, vI x1)] [vI s0_31] b σ) ?_ (fun J31 hJ31 => ?_)
    · intro s0_31 b σ
      refine V_istore_n (fun x2_2 => [(2, vI x2_2), (0, vR h0), (1, vI x1)]) 32 rfl (show decode M_Model_length.2.1 31 = .ok (.istore_n 2, 1) by decide +kernel) (by decide) (fun _ => rfl) (fun x2_2 => ?_)
      refine V_iconst 33 rfl (show decode M_Model_length.2.1 32 = .ok (.iconst 0, 1) by decide +kernel) (v := 0) rfl ?_
      refine V_istore_n (fun x3_3 => [(3, vI x3_3), (2, vI x2_2), (0, vR h0), (1, vI x1)]) 34 rfl (show decode M_Model_length.2.1 33 = .ok (.istore_n 3, 1) by decide +kernel) (by decide) (fun _ => rfl) (fun x3_3 => ?_)
      refine V_sub [2, 3, 1, 0] rfl ?_
      refine lp_P (fun (L34 : Int32 → Int32 → Bool → Sto → Rs Int32) => ∀ (x2 : Int32) (x3 : Int32) (b : Bool) (σ : Sto), V M_Model_length 3 0 0 0 0 tI (L34 x2 x3 b σ) 34 [(0, vR h0), (1, vI x1), (2, vI x2), (3, vI x3)] [] b σ) ?_ ?_ fuel_ x2_2 x3_3 b σ
      · intro x2 x3 b σ; exact V_bad
      · intro L34 hL34 x2 x3 b σ
        unfold b_Model_length_34
        refine V_iload_n 35 rfl (show decode M_Model_length.2.1 34 = .ok (.iload_n 3, 1) by decide +kernel) 3 rfl ?_
        refine V_aload_n 36 rfl (show decode M_Model_length.2.1 35 = .ok (.aload_n 0, 1) by decide +kernel) 0 rfl ?_
        refine V_get (j := 0) (v := vR (SR σ h0 0)) 39 rfl ck_Model (by decide) (by decide) (show decode M_Model_length.2.1 36 = .ok (.getfield 7, 3) by decide +kernel) wd_1504 rfl ?_
        refine V_iconst 40 rfl (show decode M_Model_length.2.1 39 = .ok (.iconst 2, 1) by decide +kernel) (v := 2) rfl ?_
        refine V_ald_int 41 rfl (show decode M_Model_length.2.1 40 = .ok (.iaload, 1) by decide +kernel) ?_
        refine V_icmpge 44 69 rfl (show decode M_Model_length.2.1 41 = .ok (.if_icmp .ge 28, 3) by decide +kernel) rfl ?_ ?_
        · skip
          refine V_iload_n 45 rfl (show decode M_Model_length.2.1 44 = .ok (.iload_n 2, 1) by decide +kernel) 2 rfl ?_
          refine V_jn (fun (J62 : Int32 → Bool → Sto → Rs Int32) => ∀ (s0_62 : Int32) (b : Bool) (σ : Sto), V M_Model_length 3 0 0 0 0 tI (J62 s0_62 b σ) 62 [(0, vR h0), (1, vI x1), (3, vI x3)] [vI s0_62] b σ) ?_ (fun J62 hJ62 => ?_)
          · intro s0_62 b σ
            refine V_istore_n (fun x2_4 => [(2, vI x2_4), (0, vR h0), (1, vI x1), (3, vI x3)]) 63 rfl (show decode M_Model_length.2.1 62 = .ok (.istore_n 2, 1) by decide +kernel) (by decide) (fun _ => rfl) (fun x2_4 => ?_)
            refine V_iinc (fun x3_5 => [(3, vI x3_5), (2, vI x2_4), (0, vR h0), (1, vI x1)]) 66 rfl (show decode M_Model_length.2.1 63 = .ok (.iinc 3 1, 3) by decide +kernel) 3 rfl (w := 1) rfl (by decide) (fun _ => rfl) (fun x3_5 => ?_)
            refine V_goto 34 (show decode M_Model_length.2.1 66 = .ok (.goto (-32), 3) by decide +kernel) rfl ?_
            exact V_sub [2, 3, 1, 0] rfl (hL34 x2_4 x3_5 b σ)
          · skip
            refine V_jn (fun (J57 : Bool → Sto → Rs Int32) => ∀ (b : Bool) (σ : Sto), V M_Model_length 3 0 0 0 0 tI (J57 b σ) 57 [(0, vR h0), (1, vI x1), (3, vI x3)] [] b σ) ?_ (fun J57 hJ57 => ?_)
            · intro b σ
              refine V_iconst 58 rfl (show decode M_Model_length.2.1 57 = .ok (.iconst 1, 1) by decide +kernel) (v := 1) rfl ?_
              refine V_goto 62 (show decode M_Model_length.2.1 58 = .ok (.goto 4, 3) by decide +kernel) rfl ?_
              exact V_sub [0, 1, 2] rfl (hJ62 (1 : Int32) b σ)
            · skip
              refine V_ifne 48 57 rfl (show decode M_Model_length.2.1 45 = .ok (.ifCond .ne 12, 3) by decide +kernel) rfl ?_ ?_
              · skip
                refine V_aload_n 49 rfl (show decode M_Model_length.2.1 48 = .ok (.aload_n 0, 1) by decide +kernel) 0 rfl ?_
                refine V_iload_n 50 rfl (show decode M_Model_length.2.1 49 = .ok (.iload_n 3, 1) by decide +kernel) 3 rfl ?_
                refine V_callV (tb := tI) (as := [vI x3]) (rest := []) (na := 1) 53 rfl ck_Model (by decide) (s_Model_mileOf h0 x3 (((b && cK σ h0 13) && cA σ (SR σ h0 0) 21 (2 : Int32)) && cK σ h0 13) σ) rfl rfl (Nat.le_of_ble_eq_true rfl) (cal_Model_mileOf _ _ _ _ _ (by decide) (by decide) (by decide)) (show decode M_Model_length.2.1 50 = .ok (.invokevirtual 92, 3) by decide +kernel) wd_1621 wd_1623 wd_112 (fun r_6 b_6 σ_6 => ?_)
                show V M_Model_length 3 0 0 0 0 tI _ 53 [(0, vR h0), (1, vI x1), (2, vI x2), (3, vI x3)] [vI r_6] b_6 σ_6
                refine V_iload_n 54 rfl (show decode M_Model_length.2.1 53 = .ok (.iload_n 1, 1) by decide +kernel) 1 rfl ?_
                refine V_icmple 57 61 rfl (show decode M_Model_length.2.1 54 = .ok (.if_icmp .le 7, 3) by decide +kernel) rfl ?_ ?_
                · skip
                  exact V_sub [0, 1, 3] rfl (hJ57 b_6 σ_6)
                · skip
                  refine V_iconst 62 rfl (show decode M_Model_length.2.1 61 = .ok (.iconst 0, 1) by decide +kernel) (v := 0) rfl ?_
                  exact V_sub [0, 1, 3] rfl (hJ62 (0 : Int32) b_6 σ_6)
              · skip
                exact V_sub [0, 1, 3] rfl (hJ57 ((b && cK σ h0 13) && cA σ (SR σ h0 0) 21 (2 : Int32)) σ)
        · skip
          refine V_iconst 70 rfl (show decode M_Model_length.2.1 69 = .ok (.iconst 0, 1) by decide +kernel) (v := 0) rfl ?_
          refine V_istore_n (fun x3_7 => [(3, vI x3_7), (0, vR h0), (1, vI x1), (2, vI x2)]) 71 rfl (show decode M_Model_length.2.1 70 = .ok (.istore_n 3, 1) by decide +kernel) (by decide) (fun _ => rfl) (fun x3_7 => ?_)
          refine V_sub [1, 2, 3, 0] rfl ?_
          refine lp_P (fun (L71 : Int32 → Int32 → Bool → Sto → Rs Int32) => ∀ (x2 : Int32) (x3 : Int32) (b : Bool) (σ : Sto), V M_Model_length 3 0 0 0 0 tI (L71 x2 x3 b σ) 71 [(0, vR h0), (1, vI x1), (2, vI x2), (3, vI x3)] [] b σ) ?_ ?_ fuel_ x2 x3_7 ((b && cK σ h0 13) && cA σ (SR σ h0 0) 21 (2 : Int32)) σ
          · intro x2 x3 b σ; exact V_bad
          · intro L71 hL71 x2 x3 b σ
            unfold b_Model_length_71
            refine V_iload_n 72 rfl (show decode M_Model_length.2.1 71 = .ok (.iload_n 3, 1) by decide +kernel) 3 rfl ?_
            refine V_aload_n 73 rfl (show decode M_Model_length.2.1 72 = .ok (.aload_n 0, 1) by decide +kernel) 0 rfl ?_
            refine V_get (j := 0) (v := vR (SR σ h0 0)) 76 rfl ck_Model (by decide) (by decide) (show decode M_Model_length.2.1 73 = .ok (.getfield 7, 3) by decide +kernel) wd_1504 rfl ?_
            refine V_iconst 77 rfl (show decode M_Model_length.2.1 76 = .ok (.iconst 3, 1) by decide +kernel) (v := 3) rfl ?_
            refine V_ald_int 78 rfl (show decode M_Model_length.2.1 77 = .ok (.iaload, 1) by decide +kernel) ?_
            refine V_icmpge 81 113 rfl (show decode M_Model_length.2.1 78 = .ok (.if_icmp .ge 35, 3) by decide +kernel) rfl ?_ ?_
            · skip
              refine V_iload_n 82 rfl (show decode M_Model_length.2.1 81 = .ok (.iload_n 2, 1) by decide +kernel) 2 rfl ?_
              refine V_jn (fun (J106 : Int32 → Bool → Sto → Rs Int32) => ∀ (s0_106 : Int32) (b : Bool) (σ : Sto), V M_Model_length 3 0 0 0 0 tI (J106 s0_106 b σ) 106 [(0, vR h0), (1, vI x1), (3, vI x3)] [vI s0_106] b σ) ?_ (fun J106 hJ106 => ?_)
              · intro s0_106 b σ
                refine V_istore_n (fun x2_8 => [(2, vI x2_8), (0, vR h0), (1, vI x1), (3, vI x3)]) 107 rfl (show decode M_Model_length.2.1 106 = .ok (.istore_n 2, 1) by decide +kernel) (by decide) (fun _ => rfl) (fun x2_8 => ?_)
                refine V_iinc (fun x3_9 => [(3, vI x3_9), (2, vI x2_8), (0, vR h0), (1, vI x1)]) 110 rfl (show decode M_Model_length.2.1 107 = .ok (.iinc 3 1, 3) by decide +kernel) 3 rfl (w := 1) rfl (by decide) (fun _ => rfl) (fun x3_9 => ?_)
                refine V_goto 71 (show decode M_Model_length.2.1 110 = .ok (.goto (-39), 3) by decide +kernel) rfl ?_
                exact V_sub [2, 3, 1, 0] rfl (hL71 x2_8 x3_9 b σ)
              · skip
                refine V_jn (fun (J101 : Bool → Sto → Rs Int32) => ∀ (b : Bool) (σ : Sto), V M_Model_length 3 0 0 0 0 tI (J101 b σ) 101 [(0, vR h0), (1, vI x1), (3, vI x3)] [] b σ) ?_ (fun J101 hJ101 => ?_)
                · intro b σ
                  refine V_iconst 102 rfl (show decode M_Model_length.2.1 101 = .ok (.iconst 1, 1) by decide +kernel) (v := 1) rfl ?_
                  refine V_goto 106 (show decode M_Model_length.2.1 102 = .ok (.goto 4, 3) by decide +kernel) rfl ?_
                  exact V_sub [0, 1, 2] rfl (hJ106 (1 : Int32) b σ)
                · skip
                  refine V_ifne 85 101 rfl (show decode M_Model_length.2.1 82 = .ok (.ifCond .ne 19, 3) by decide +kernel) rfl ?_ ?_
                  · skip
                    refine V_aload_n 86 rfl (show decode M_Model_length.2.1 85 = .ok (.aload_n 0, 1) by decide +kernel) 0 rfl ?_
                    refine V_get (j := 0) (v := vR (SR σ h0 0)) 89 rfl ck_Model (by decide) (by decide) (show decode M_Model_length.2.1 86 = .ok (.getfield 7, 3) by decide +kernel) wd_1504 rfl ?_
                    refine V_aload_n 90 rfl (show decode M_Model_length.2.1 89 = .ok (.aload_n 0, 1) by decide +kernel) 0 rfl ?_
                    refine V_iload_n 91 rfl (show decode M_Model_length.2.1 90 = .ok (.iload_n 3, 1) by decide +kernel) 3 rfl ?_
                    refine V_callV (tb := tI) (as := [vI x3]) (rest := [vR (SR σ h0 0)]) (na := 1) 94 rfl ck_Model (by decide) (s_Model_fireAt h0 x3 ((((b && cK σ h0 13) && cA σ (SR σ h0 0) 21 (3 : Int32)) && cK σ h0 13) && cK σ h0 13) σ) rfl rfl (Nat.le_of_ble_eq_true rfl) (cal_Model_fireAt _ _ _ _ _ (by decide) (by decide) (by decide)) (show decode M_Model_length.2.1 91 = .ok (.invokevirtual 95, 3) by decide +kernel) wd_1629 wd_1631 wd_114 (fun r_10 b_10 σ_10 => ?_)
                    show V M_Model_length 3 0 0 0 0 tI _ 94 [(0, vR h0), (1, vI x1), (2, vI x2), (3, vI x3)] [vI r_10, vR (SR σ h0 0)] b_10 σ_10
                    refine V_iconst 95 rfl (show decode M_Model_length.2.1 94 = .ok (.iconst 1, 1) by decide +kernel) (v := 1) rfl ?_
                    refine V_iadd 96 rfl (show decode M_Model_length.2.1 95 = .ok (.iadd, 1) by decide +kernel) ?_
                    refine V_ald_int 97 rfl (show decode M_Model_length.2.1 96 = .ok (.iaload, 1) by decide +kernel) ?_
                    refine V_iload_n 98 rfl (show decode M_Model_length.2.1 97 = .ok (.iload_n 1, 1) by decide +kernel) 1 rfl ?_
                    refine V_icmple 101 105 rfl (show decode M_Model_length.2.1 98 = .ok (.if_icmp .le 7, 3) by decide +kernel) rfl ?_ ?_
                    · skip
                      exact V_sub [0, 1, 3] rfl (hJ101 (b_10 && cA σ_10 (SR σ h0 0) 21 (r_10 + (1 : Int32))) σ_10)
                    · skip
                      refine V_iconst 106 rfl (show decode M_Model_length.2.1 105 = .ok (.iconst 0, 1) by decide +kernel) (v := 0) rfl ?_
                      exact V_sub [0, 1, 3] rfl (hJ106 (0 : Int32) (b_10 && cA σ_10 (SR σ h0 0) 21 (r_10 + (1 : Int32))) σ_10)
                  · skip
                    exact V_sub [0, 1, 3] rfl (hJ101 ((b && cK σ h0 13) && cA σ (SR σ h0 0) 21 (3 : Int32)) σ)
            · skip
              refine V_iconst 114 rfl (show decode M_Model_length.2.1 113 = .ok (.iconst 0, 1) by decide +kernel) (v := 0) rfl ?_
              refine V_istore_n (fun x3_11 => [(3, vI x3_11), (0, vR h0), (1, vI x1), (2, vI x2)]) 115 rfl (show decode M_Model_length.2.1 114 = .ok (.istore_n 3, 1) by decide +kernel) (by decide) (fun _ => rfl) (fun x3_11 => ?_)
              refine V_sub [1, 2, 3, 0] rfl ?_
              refine lp_P (fun (L115 : Int32 → Int32 → Bool → Sto → Rs Int32) => ∀ (x2 : Int32) (x3 : Int32) (b : Bool) (σ : Sto), V M_Model_length 3 0 0 0 0 tI (L115 x2 x3 b σ) 115 [(0, vR h0), (1, vI x1), (2, vI x2), (3, vI x3)] [] b σ) ?_ ?_ fuel_ x2 x3_11 ((b && cK σ h0 13) && cA σ (SR σ h0 0) 21 (3 : Int32)) σ
              · intro x2 x3 b σ; exact V_bad
              · intro L115 hL115 x2 x3 b σ
                unfold b_Model_length_115
                refine V_iload_n 116 rfl (show decode M_Model_length.2.1 115 = .ok (.iload_n 3, 1) by decide +kernel) 3 rfl ?_
                refine V_aload_n 117 rfl (show decode M_Model_length.2.1 116 = .ok (.aload_n 0, 1) by decide +kernel) 0 rfl ?_
                refine V_get (j := 0) (v := vR (SR σ h0 0)) 120 rfl ck_Model (by decide) (by decide) (show decode M_Model_length.2.1 117 = .ok (.getfield 7, 3) by decide +kernel) wd_1504 rfl ?_
                refine V_bipush 122 rfl (show decode M_Model_length.2.1 120 = .ok (.bipush 9, 2) by decide +kernel) (v := 9) rfl ?_
                refine V_ald_int 123 rfl (show decode M_Model_length.2.1 122 = .ok (.iaload, 1) by decide +kernel) ?_
                refine V_icmpge 126 160 rfl (show decode M_Model_length.2.1 123 = .ok (.if_icmp .ge 37, 3) by decide +kernel) rfl ?_ ?_
                · skip
                  refine V_iload_n 127 rfl (show decode M_Model_length.2.1 126 = .ok (.iload_n 2, 1) by decide +kernel) 2 rfl ?_
                  refine V_jn (fun (J153 : Int32 → Bool → Sto → Rs Int32) => ∀ (s0_153 : Int32) (b : Bool) (σ : Sto), V M_Model_length 3 0 0 0 0 tI (J153 s0_153 b σ) 153 [(0, vR h0), (1, vI x1), (3, vI x3)] [vI s0_153] b σ) ?_ (fun J153 hJ153 => ?_)
                  · intro s0_153 b σ
                    refine V_istore_n (fun x2_12 => [(2, vI x2_12), (0, vR h0), (1, vI x1), (3, vI x3)]) 154 rfl (show decode M_Model_length.2.1 153 = .ok (.istore_n 2, 1) by decide +kernel) (by decide) (fun _ => rfl) (fun x2_12 => ?_)
                    refine V_iinc (fun x3_13 => [(3, vI x3_13), (2, vI x2_12), (0, vR h0), (1, vI x1)]) 157 rfl (show decode M_Model_length.2.1 154 = .ok (.iinc 3 1, 3) by decide +kernel) 3 rfl (w := 1) rfl (by decide) (fun _ => rfl) (fun x3_13 => ?_)
                    refine V_goto 115 (show decode M_Model_length.2.1 157 = .ok (.goto (-42), 3) by decide +kernel) rfl ?_
                    exact V_sub [2, 3, 1, 0] rfl (hL115 x2_12 x3_13 b σ)
                  · skip
                    refine V_jn (fun (J148 : Bool → Sto → Rs Int32) => ∀ (b : Bool) (σ : Sto), V M_Model_length 3 0 0 0 0 tI (J148 b σ) 148 [(0, vR h0), (1, vI x1), (3, vI x3)] [] b σ) ?_ (fun J148 hJ148 => ?_)
                    · intro b σ
                      refine V_iconst 149 rfl (show decode M_Model_length.2.1 148 = .ok (.iconst 1, 1) by decide +kernel) (v := 1) rfl ?_
                      refine V_goto 153 (show decode M_Model_length.2.1 149 = .ok (.goto 4, 3) by decide +kernel) rfl ?_
                      exact V_sub [0, 1, 2] rfl (hJ153 (1 : Int32) b σ)
                    · skip
                      refine V_ifne 130 148 rfl (show decode M_Model_length.2.1 127 = .ok (.ifCond .ne 21, 3) by decide +kernel) rfl ?_ ?_
                      · skip
                        refine V_aload_n 131 rfl (show decode M_Model_length.2.1 130 = .ok (.aload_n 0, 1) by decide +kernel) 0 rfl ?_
                        refine V_get (j := 0) (v := vR (SR σ h0 0)) 134 rfl ck_Model (by decide) (by decide) (show decode M_Model_length.2.1 131 = .ok (.getfield 7, 3) by decide +kernel) wd_1504 rfl ?_
                        refine V_sipush 137 rfl (show decode M_Model_length.2.1 134 = .ok (.sipush 520, 3) by decide +kernel) (v := 520) rfl ?_
                        refine V_iconst 138 rfl (show decode M_Model_length.2.1 137 = .ok (.iconst 2, 1) by decide +kernel) (v := 2) rfl ?_
                        refine V_iload_n 139 rfl (show decode M_Model_length.2.1 138 = .ok (.iload_n 3, 1) by decide +kernel) 3 rfl ?_
                        refine V_imul 140 rfl (show decode M_Model_length.2.1 139 = .ok (.imul, 1) by decide +kernel) ?_
                        refine V_iadd 141 rfl (show decode M_Model_length.2.1 140 = .ok (.iadd, 1) by decide +kernel) ?_
                        refine V_iconst 142 rfl (show decode M_Model_length.2.1 141 = .ok (.iconst 1, 1) by decide +kernel) (v := 1) rfl ?_
                        refine V_iadd 143 rfl (show decode M_Model_length.2.1 142 = .ok (.iadd, 1) by decide +kernel) ?_
                        refine V_ald_int 144 rfl (show decode M_Model_length.2.1 143 = .ok (.iaload, 1) by decide +kernel) ?_
                        refine V_iload_n 145 rfl (show decode M_Model_length.2.1 144 = .ok (.iload_n 1, 1) by decide +kernel) 1 rfl ?_
                        refine V_icmple 148 152 rfl (show decode M_Model_length.2.1 145 = .ok (.if_icmp .le 7, 3) by decide +kernel) rfl ?_ ?_
                        · skip
                          exact V_sub [0, 1, 3] rfl (hJ148 ((((b && cK σ h0 13) && cA σ (SR σ h0 0) 21 (9 : Int32)) && cK σ h0 13) && cA σ (SR σ h0 0) 21 (((520 : Int32) + ((2 : Int32) * x3)) + (1 : Int32))) σ)
                        · skip
                          refine V_iconst 153 rfl (show decode M_Model_length.2.1 152 = .ok (.iconst 0, 1) by decide +kernel) (v := 0) rfl ?_
                          exact V_sub [0, 1, 3] rfl (hJ153 (0 : Int32) ((((b && cK σ h0 13) && cA σ (SR σ h0 0) 21 (9 : Int32)) && cK σ h0 13) && cA σ (SR σ h0 0) 21 (((520 : Int32) + ((2 : Int32) * x3)) + (1 : Int32))) σ)
                      · skip
                        exact V_sub [0, 1, 3] rfl (hJ148 ((b && cK σ h0 13) && cA σ (SR σ h0 0) 21 (9 : Int32)) σ)
                · skip
                  refine V_iload_n 161 rfl (show decode M_Model_length.2.1 160 = .ok (.iload_n 2, 1) by decide +kernel) 2 rfl ?_
                  refine V_ifeq 164 169 rfl (show decode M_Model_length.2.1 161 = .ok (.ifCond .eq 8, 3) by decide +kernel) rfl ?_ ?_
                  · skip
                    refine V_aload_n 170 rfl (show decode M_Model_length.2.1 169 = .ok (.aload_n 0, 1) by decide +kernel) 0 rfl ?_
                    refine V_iconst 171 rfl (show decode M_Model_length.2.1 170 = .ok (.iconst 1, 1) by decide +kernel) (v := 1) rfl ?_
                    refine V_iload_n 172 rfl (show decode M_Model_length.2.1 171 = .ok (.iload_n 1, 1) by decide +kernel) 1 rfl ?_
                    refine V_callV (tb := tI) (as := [vI (1 : Int32), vI x1]) (rest := []) (na := 2) 175 rfl ck_Model (by decide) (s_Model_becomes h0 (1 : Int32) x1 (((b && cK σ h0 13) && cA σ (SR σ h0 0) 21 (9 : Int32)) && cK σ h0 13) σ) rfl rfl (Nat.le_of_ble_eq_true rfl) (cal_Model_becomes _ _ _ _ _ (by decide) (by decide) (by decide)) (show decode M_Model_length.2.1 172 = .ok (.invokevirtual 99, 3) by decide +kernel) wd_1634 wd_1636 wd_115 (fun r_14 b_14 σ_14 => ?_)
                    show V M_Model_length 3 0 0 0 0 tI _ 175 [(0, vR h0), (1, vI x1), (2, vI x2), (3, vI x3)] [vI r_14] b_14 σ_14
                    exact V_iret rfl (by decide) (by decide) (show decode M_Model_length.2.1 175 = .ok (.ireturn, 1) by decide +kernel)
                  · skip
                    refine V_ldc 166 rfl (show decode M_Model_length.2.1 164 = .ok (.ldc 98, 2) by decide +kernel) wd_1633 ?_
                    refine V_goto 175 (show decode M_Model_length.2.1 166 = .ok (.goto 9, 3) by decide +kernel) rfl ?_
                    exact V_iret rfl (by decide) (by decide) (show decode M_Model_length.2.1 175 = .ok (.ireturn, 1) by decide +kernel)
    · skip
      refine V_ifle 26 30 rfl (show decode M_Model_length.2.1 23 = .ok (.ifCond .le 7, 3) by decide +kernel) rfl ?_ ?_
      · skip
        refine V_iconst 27 rfl (show decode M_Model_length.2.1 26 = .ok (.iconst 1, 1) by decide +kernel) (v := 1) rfl ?_
        refine V_goto 31 (show decode M_Model_length.2.1 27 = .ok (.goto 4, 3) by decide +kernel) rfl ?_
        exact V_sub [0, 1] rfl (hJ31 (1 : Int32) ((b_1 && cK σ_1 h0 13) && cA σ_1 (SR σ_1 h0 0) 21 (5 : Int32)) σ_1)
      · skip
        refine V_iconst 31 rfl (show decode M_Model_length.2.1 30 = .ok (.iconst 0, 1) by decide +kernel) (v := 0) rfl ?_
        exact V_sub [0, 1] rfl (hJ31 (0 : Int32) ((b_1 && cK σ_1 h0 13) && cA σ_1 (SR σ_1 h0 0) 21 (5 : Int32)) σ_1)
theorem cal_Model_length (d mc ms k n : Nat) (h1 : 3 + 1 ≤ d) (h2 : k + 0 ≤ mc) (h3 : n + 0 ≤ ms) : Cal M_Model_length 3 0 0 1 d mc ms k n := ⟨wd_1614, wd_181, by decide, h1, by decide, h2, h3⟩
abbrev M_Model_mark : MD := (⟨"LongTrailModel", "mark", "(III)I"⟩, prog_14_method_106_code, 5, (some FieldType.int))
def f_Model_mark (h0 : Nat) (x1 : Int32) (x2 : Int32) (x3 : Int32) (b : Bool) (σ : Sto) : Rs Int32 := (bd_ (f_Model_isSheet x1 b σ) (fun (r_1 : Int32) (b_1 : Bool) (σ_1 : Sto) => (if r_1 = 0 then ((-1000000001 : Int32), b_1, σ_1) else (if (SI σ_1 (SR σ_1 h0 4) (ix x1)) < 0 then ((-1000000011 : Int32), ((b_1 && cK σ_1 h0 13) && cA σ_1 (SR σ_1 h0 4) 21 x1), σ_1) else (bd_ (f_Model_isIn ((x2).toInt64) (0 : Int64) ((((SI σ_1 (SR σ_1 h0 5) (ix x1)) - (1 : Int32))).toInt64) ((((b_1 && cK σ_1 h0 13) && cA σ_1 (SR σ_1 h0 4) 21 x1) && cK σ_1 h0 13) && cA σ_1 (SR σ_1 h0 5) 21 x1) σ_1) (fun (r_2 : Int32) (b_2 : Bool) (σ_2 : Sto) => (if r_2 = 0 then ((-1000000013 : Int32), b_2, σ_2) else (lt_ (((SL σ_2 (SR σ_2 h0 6) (ix (((24 : Int32) * x1) + x2)))).toInt32) (fun (x4_3 : Int32) => (lt_ (fun (s0_91 : Int64) (s1_91 : Int32) (s2_91 : Nat) (b : Bool) (σ : Sto) => (lt_ (pL σ s2_91 (ix s1_91) s0_91) (fun (σ_4 : Sto) => (x4_3, (b && cA σ s2_91 23 s1_91), σ_4)))) (fun J91 => (if (SI σ_2 (SR σ_2 h0 4) (ix x1)) = 0 then (J91 ((((x3 <<< ((24 : Int32) &&& 31)) >>> ((24 : Int32) &&& 31))).toInt64) (((24 : Int32) * x1) + x2) (SR σ_2 h0 6) (((((b_2 && cK σ_2 h0 13) && cA σ_2 (SR σ_2 h0 6) 23 (((24 : Int32) * x1) + x2)) && cK σ_2 h0 13) && cK σ_2 h0 13) && cA σ_2 (SR σ_2 h0 4) 21 x1) σ_2) else (J91 ((x3).toInt64) (((24 : Int32) * x1) + x2) (SR σ_2 h0 6) (((((b_2 && cK σ_2 h0 13) && cA σ_2 (SR σ_2 h0 6) 23 (((24 : Int32) * x1) + x2)) && cK σ_2 h0 13) && cK σ_2 h0 13) && cA σ_2 (SR σ_2 h0 4) 21 x1) σ_2)))))))))))))
set_option maxRecDepth 100000 in
set_option maxHeartbeats 4000000 in
theorem s_Model_mark : ∀ (h0 : Nat) (x1 : Int32) (x2 : Int32) (x3 : Int32) (b : Bool) (σ : Sto), Snd M_Model_mark 3 0 0 [vR h0, vI x1, vI x2, vI x3] b σ (tI (f_Model_mark h0 x1 x2 x3 b σ).1) (f_Model_mark h0 x1 x2 x3 b σ).2.1 (f_Model_mark h0 x1 x2 x3 b σ).2.2 := by
  intro h0 x1 x2 x3 b σ
  refine Snd_of (tv := tI) (by decide) (Nat.le_of_ble_eq_true rfl) ?_
  show V M_Model_mark 3 0 0 0 0 tI (f_Model_mark h0 x1 x2 x3 b σ) 0 [(0, vR h0), (1, vI x1), (2, vI x2), (3, vI x3)] [] b σ
  unfold f_Model_mark
  refine V_iload_n 1 rfl (show decode M_Model_mark.2.1 0 = .ok (.iload_n 1, 1) by decide +kernel) 1 rfl ?_
  refine V_callS (tb := tI) (as := [vI x1]) (rest := []) (na := 1) 4 rfl (s_Model_isSheet x1 b σ) rfl rfl (Nat.le_of_ble_eq_true rfl) (cal_Model_isSheet _ _ _ _ _ (by decide) (by decide) (by decide)) (show decode M_Model_mark.2.1 1 = .ok (.invokestatic 367, 3) by decide +kernel) wd_2039 wd_2040 (fun r_1 b_1 σ_1 => ?_)
  show V M_Model_mark 3 0 0 0 0 tI _ 4 [(0, vR h0), (1, vI x1), (2, vI x2), (3, vI x3)] [vI r_1] b_1 σ_1
  refine V_ifne 7 10 rfl (show decode M_Model_mark.2.1 4 = .ok (.ifCond .ne 6, 3) by decide +kernel) rfl ?_ ?_
  · skip
    refine V_ldc 9 rfl (show decode M_Model_mark.2.1 7 = .ok (.ldc 91, 2) by decide +kernel) wd_1620 ?_
    exact V_iret rfl (by decide) (by decide) (show decode M_Model_mark.2.1 9 = .ok (.ireturn, 1) by decide +kernel)
  · skip
    refine V_aload_n 11 rfl (show decode M_Model_mark.2.1 10 = .ok (.aload_n 0, 1) by decide +kernel) 0 rfl ?_
    refine V_get (j := 4) (v := vR (SR σ_1 h0 4)) 14 rfl ck_Model (by decide) (by decide) (show decode M_Model_mark.2.1 11 = .ok (.getfield 19, 3) by decide +kernel) wd_1508 rfl ?_
    refine V_iload_n 15 rfl (show decode M_Model_mark.2.1 14 = .ok (.iload_n 1, 1) by decide +kernel) 1 rfl ?_
    refine V_ald_int 16 rfl (show decode M_Model_mark.2.1 15 = .ok (.iaload, 1) by decide +kernel) ?_
    refine V_ifge 19 23 rfl (show decode M_Model_mark.2.1 16 = .ok (.ifCond .ge 7, 3) by decide +kernel) rfl ?_ ?_
    · skip
      refine V_ldcw 22 rfl (show decode M_Model_mark.2.1 19 = .ok (.ldc_w 373, 3) by decide +kernel) wd_2048 ?_
      exact V_iret rfl (by decide) (by decide) (show decode M_Model_mark.2.1 22 = .ok (.ireturn, 1) by decide +kernel)
    · skip
      refine V_iload_n 24 rfl (show decode M_Model_mark.2.1 23 = .ok (.iload_n 2, 1) by decide +kernel) 2 rfl ?_
      refine V_i2l 25 rfl (show decode M_Model_mark.2.1 24 = .ok (.i2l, 1) by decide +kernel) ?_
      refine V_lconst 26 rfl (show decode M_Model_mark.2.1 25 = .ok (.lconst 0, 1) by decide +kernel) (v := 0) rfl ?_
      refine V_aload_n 27 rfl (show decode M_Model_mark.2.1 26 = .ok (.aload_n 0, 1) by decide +kernel) 0 rfl ?_
      refine V_get (j := 5) (v := vR (SR σ_1 h0 5)) 30 rfl ck_Model (by decide) (by decide) (show decode M_Model_mark.2.1 27 = .ok (.getfield 22, 3) by decide +kernel) wd_1509 rfl ?_
      refine V_iload_n 31 rfl (show decode M_Model_mark.2.1 30 = .ok (.iload_n 1, 1) by decide +kernel) 1 rfl ?_
      refine V_ald_int 32 rfl (show decode M_Model_mark.2.1 31 = .ok (.iaload, 1) by decide +kernel) ?_
      refine V_iconst 33 rfl (show decode M_Model_mark.2.1 32 = .ok (.iconst 1, 1) by decide +kernel) (v := 1) rfl ?_
      refine V_isub 34 rfl (show decode M_Model_mark.2.1 33 = .ok (.isub, 1) by decide +kernel) ?_
      refine V_i2l 35 rfl (show decode M_Model_mark.2.1 34 = .ok (.i2l, 1) by decide +kernel) ?_
      refine V_callS (tb := tI) (as := [vL ((x2).toInt64), vL (0 : Int64), vL ((((SI σ_1 (SR σ_1 h0 5) (ix x1)) - (1 : Int32))).toInt64)]) (rest := []) (na := 3) 38 rfl (s_Model_isIn ((x2).toInt64) (0 : Int64) ((((SI σ_1 (SR σ_1 h0 5) (ix x1)) - (1 : Int32))).toInt64) ((((b_1 && cK σ_1 h0 13) && cA σ_1 (SR σ_1 h0 4) 21 x1) && cK σ_1 h0 13) && cA σ_1 (SR σ_1 h0 5) 21 x1) σ_1) rfl rfl (Nat.le_of_ble_eq_true rfl) (cal_Model_isIn _ _ _ _ _ (by decide) (by decide) (by decide)) (show decode M_Model_mark.2.1 35 = .ok (.invokestatic 76, 3) by decide +kernel) wd_1617 wd_1618 (fun r_2 b_2 σ_2 => ?_)
      show V M_Model_mark 3 0 0 0 0 tI _ 38 [(0, vR h0), (1, vI x1), (2, vI x2), (3, vI x3)] [vI r_2] b_2 σ_2
      refine V_ifne 41 45 rfl (show decode M_Model_mark.2.1 38 = .ok (.ifCond .ne 7, 3) by decide +kernel) rfl ?_ ?_
      · skip
        refine V_ldcw 44 rfl (show decode M_Model_mark.2.1 41 = .ok (.ldc_w 374, 3) by decide +kernel) wd_2049 ?_
        exact V_iret rfl (by decide) (by decide) (show decode M_Model_mark.2.1 44 = .ok (.ireturn, 1) by decide +kernel)
      · skip
        refine V_aload_n 46 rfl (show decode M_Model_mark.2.1 45 = .ok (.aload_n 0, 1) by decide +kernel) 0 rfl ?_
        refine V_get (j := 6) (v := vR (SR σ_2 h0 6)) 49 rfl ck_Model (by decide) (by decide) (show decode M_Model_mark.2.1 46 = .ok (.getfield 25, 3) by decide +kernel) wd_1510 rfl ?_
        refine V_bipush 51 rfl (show decode M_Model_mark.2.1 49 = .ok (.bipush 24, 2) by decide +kernel) (v := 24) rfl ?_
        refine V_iload_n 52 rfl (show decode M_Model_mark.2.1 51 = .ok (.iload_n 1, 1) by decide +kernel) 1 rfl ?_
        refine V_imul 53 rfl (show decode M_Model_mark.2.1 52 = .ok (.imul, 1) by decide +kernel) ?_
        refine V_iload_n 54 rfl (show decode M_Model_mark.2.1 53 = .ok (.iload_n 2, 1) by decide +kernel) 2 rfl ?_
        refine V_iadd 55 rfl (show decode M_Model_mark.2.1 54 = .ok (.iadd, 1) by decide +kernel) ?_
        refine V_ald_long 56 rfl (show decode M_Model_mark.2.1 55 = .ok (.laload, 1) by decide +kernel) ?_
        refine V_l2i 57 rfl (show decode M_Model_mark.2.1 56 = .ok (.l2i, 1) by decide +kernel) ?_
        refine V_istore (fun x4_3 => [(4, vI x4_3), (0, vR h0), (1, vI x1), (2, vI x2), (3, vI x3)]) 59 rfl (show decode M_Model_mark.2.1 57 = .ok (.istore 4, 2) by decide +kernel) (by decide) (fun _ => rfl) (fun x4_3 => ?_)
        refine V_aload_n 60 rfl (show decode M_Model_mark.2.1 59 = .ok (.aload_n 0, 1) by decide +kernel) 1 rfl ?_
        refine V_get (j := 6) (v := vR (SR σ_2 h0 6)) 63 rfl ck_Model (by decide) (by decide) (show decode M_Model_mark.2.1 60 = .ok (.getfield 25, 3) by decide +kernel) wd_1510 rfl ?_
        refine V_bipush 65 rfl (show decode M_Model_mark.2.1 63 = .ok (.bipush 24, 2) by decide +kernel) (v := 24) rfl ?_
        refine V_iload_n 66 rfl (show decode M_Model_mark.2.1 65 = .ok (.iload_n 1, 1) by decide +kernel) 2 rfl ?_
        refine V_imul 67 rfl (show decode M_Model_mark.2.1 66 = .ok (.imul, 1) by decide +kernel) ?_
        refine V_iload_n 68 rfl (show decode M_Model_mark.2.1 67 = .ok (.iload_n 2, 1) by decide +kernel) 3 rfl ?_
        refine V_iadd 69 rfl (show decode M_Model_mark.2.1 68 = .ok (.iadd, 1) by decide +kernel) ?_
        refine V_aload_n 70 rfl (show decode M_Model_mark.2.1 69 = .ok (.aload_n 0, 1) by decide +kernel) 1 rfl ?_
        refine V_get (j := 4) (v := vR (SR σ_2 h0 4)) 73 rfl ck_Model (by decide) (by decide) (show decode M_Model_mark.2.1 70 = .ok (.getfield 19, 3) by decide +kernel) wd_1508 rfl ?_
        refine V_iload_n 74 rfl (show decode M_Model_mark.2.1 73 = .ok (.iload_n 1, 1) by decide +kernel) 2 rfl ?_
        refine V_ald_int 75 rfl (show decode M_Model_mark.2.1 74 = .ok (.iaload, 1) by decide +kernel) ?_
        refine V_jn (fun (J91 : Int64 → Int32 → Nat → Bool → Sto → Rs Int32) => ∀ (s0_91 : Int64) (s1_91 : Int32) (s2_91 : Nat) (b : Bool) (σ : Sto), V M_Model_mark 3 0 0 0 0 tI (J91 s0_91 s1_91 s2_91 b σ) 91 [(4, vI x4_3)] [vL s0_91, vI s1_91, vR s2_91] b σ) ?_ (fun J91 hJ91 => ?_)
        · intro s0_91 s1_91 s2_91 b σ
          refine V_ast_long 92 rfl (show decode M_Model_mark.2.1 91 = .ok (.lastore, 1) by decide +kernel) (fun σ_4 => ?_)
          refine V_iload 94 rfl (show decode M_Model_mark.2.1 92 = .ok (.iload 4, 2) by decide +kernel) 0 rfl ?_
          exact V_iret rfl (by decide) (by decide) (show decode M_Model_mark.2.1 94 = .ok (.ireturn, 1) by decide +kernel)
        · skip
          refine V_ifne 78 89 rfl (show decode M_Model_mark.2.1 75 = .ok (.ifCond .ne 14, 3) by decide +kernel) rfl ?_ ?_
          · skip
            refine V_iload_n 79 rfl (show decode M_Model_mark.2.1 78 = .ok (.iload_n 3, 1) by decide +kernel) 4 rfl ?_
            refine V_bipush 81 rfl (show decode M_Model_mark.2.1 79 = .ok (.bipush 24, 2) by decide +kernel) (v := 24) rfl ?_
            refine V_ishl 82 rfl (show decode M_Model_mark.2.1 81 = .ok (.ishl, 1) by decide +kernel) ?_
            refine V_bipush 84 rfl (show decode M_Model_mark.2.1 82 = .ok (.bipush 24, 2) by decide +kernel) (v := 24) rfl ?_
            refine V_ishr 85 rfl (show decode M_Model_mark.2.1 84 = .ok (.ishr, 1) by decide +kernel) ?_
            refine V_i2l 86 rfl (show decode M_Model_mark.2.1 85 = .ok (.i2l, 1) by decide +kernel) ?_
            refine V_goto 91 (show decode M_Model_mark.2.1 86 = .ok (.goto 5, 3) by decide +kernel) rfl ?_
            exact V_sub [0] rfl (hJ91 ((((x3 <<< ((24 : Int32) &&& 31)) >>> ((24 : Int32) &&& 31))).toInt64) (((24 : Int32) * x1) + x2) (SR σ_2 h0 6) (((((b_2 && cK σ_2 h0 13) && cA σ_2 (SR σ_2 h0 6) 23 (((24 : Int32) * x1) + x2)) && cK σ_2 h0 13) && cK σ_2 h0 13) && cA σ_2 (SR σ_2 h0 4) 21 x1) σ_2)
          · skip
            refine V_iload_n 90 rfl (show decode M_Model_mark.2.1 89 = .ok (.iload_n 3, 1) by decide +kernel) 4 rfl ?_
            refine V_i2l 91 rfl (show decode M_Model_mark.2.1 90 = .ok (.i2l, 1) by decide +kernel) ?_
            exact V_sub [0] rfl (hJ91 ((x3).toInt64) (((24 : Int32) * x1) + x2) (SR σ_2 h0 6) (((((b_2 && cK σ_2 h0 13) && cA σ_2 (SR σ_2 h0 6) 23 (((24 : Int32) * x1) + x2)) && cK σ_2 h0 13) && cK σ_2 h0 13) && cA σ_2 (SR σ_2 h0 4) 21 x1) σ_2)
theorem cal_Model_mark (d mc ms k n : Nat) (h1 : 3 + 1 ≤ d) (h2 : k + 0 ≤ mc) (h3 : n + 0 ≤ ms) : Cal M_Model_mark 3 0 0 3 d mc ms k n := ⟨wd_2047, wd_181, by decide, h1, by decide, h2, h3⟩
