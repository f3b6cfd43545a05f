/-! methods -/
abbrev M_Permits_wishesFor : MD := (⟨"LongTrail$Permits", "wishesFor", "(I)I"⟩, prog_5_method_5_code, 4, (some FieldType.int))
def b_Permits_wishesFor_4 (h0 : Nat) (x1 : Int32) (L4 : Int32 → Int32 → Bool → Sto → Rs Int32) (x2 : Int32) (x3 : Int32) (b : Bool) (σ : Sto) : Rs Int32 := (if x3 < (SI σ h0 3) then (lt_ (fun (s0_28 : Int32) (s1_28 : Int32) (b : Bool) (σ : Sto) => (lt_ (s1_28 + s0_28) (fun (x2_3 : Int32) => (lt_ (x3 + (1 : Int32)) (fun (x3_4 : Int32) => (L4 x2_3 x3_4 b σ)))))) (fun J28 => (if (SI σ (SR σ h0 1) (ix x3)) = x1 then (J28 (1 : Int32) x2 (((b && cK σ h0 4) && cK σ h0 4) && cA σ (SR σ h0 1) 21 x3) σ) else (J28 (0 : Int32) x2 (((b && cK σ h0 4) && cK σ h0 4) && cA σ (SR σ h0 1) 21 x3) σ)))) else (x2, (b && cK σ h0 4), σ))
def f_Permits_wishesFor (h0 : Nat) (x1 : Int32) (b : Bool) (σ : Sto) : Rs Int32 := (lt_ (0 : Int32) (fun (x2_1 : Int32) => (lt_ (0 : Int32) (fun (x3_2 : Int32) => (lp_ (b_Permits_wishesFor_4 h0 x1) (fun (x2 : Int32) (x3 : Int32) (b : Bool) (σ : Sto) => (0, false, σ)) fuel_ x2_1 x3_2 b σ)))))
set_option maxRecDepth 100000 in
set_option maxHeartbeats 4000000 in
theorem s_Permits_wishesFor : ∀ (h0 : Nat) (x1 : Int32) (b : Bool) (σ : Sto), Snd M_Permits_wishesFor 1 0 0 [vR h0, vI x1] b σ (tI (f_Permits_wishesFor h0 x1 b σ).1) (f_Permits_wishesFor h0 x1 b σ).2.1 (f_Permits_wishesFor h0 x1 b σ).2.2 := by
  intro h0 x1 b σ
  refine Snd_of (tv := tI) (by decide) (Nat.le_of_ble_eq_true rfl) ?_
  show V M_Permits_wishesFor 1 0 0 0 0 tI (f_Permits_wishesFor h0 x1 b σ) 0 [(0, vR h0), (1, vI x1)] [] b σ
  unfold f_Permits_wishesFor
  refine V_iconst 1 rfl (show decode M_Permits_wishesFor.2.1 0 = .ok (.iconst 0, 1) by decide +kernel) (v := 0) rfl ?_
  refine V_istore_n (fun x2_1 => [(2, vI x2_1), (0, vR h0), (1, vI x1)]) 2 rfl (show decode M_Permits_wishesFor.2.1 1 = .ok (.istore_n 2, 1) by decide +kernel) (by decide) (fun _ => rfl) (fun x2_1 => ?_)
  refine V_iconst 3 rfl (show decode M_Permits_wishesFor.2.1 2 = .ok (.iconst 0, 1) by decide +kernel) (v := 0) rfl ?_
  refine V_istore_n (fun x3_2 => [(3, vI x3_2), (2, vI x2_1), (0, vR h0), (1, vI x1)]) 4 rfl (show decode M_Permits_wishesFor.2.1 3 = .ok (.istore_n 3, 1) by decide +kernel) (by decide) (fun _ => rfl) (fun x3_2 => ?_)
  refine V_sub [2, 3, 1, 0] rfl ?_
  refine lp_P (fun (L4 : Int32 → Int32 → Bool → Sto → Rs Int32) => ∀ (x2 : Int32) (x3 : Int32) (b : Bool) (σ : Sto), V M_Permits_wishesFor 1 0 0 0 0 tI (L4 x2 x3 b σ) 4 [(0, vR h0), (1, vI x1), (2, vI x2), (3, vI x3)] [] b σ) ?_ ?_ fuel_ x2_1 x3_2 b σ
  · intro x2 x3 b σ; exact V_bad
  · intro L4 hL4 x2 x3 b σ
    unfold b_Permits_wishesFor_4
    refine V_iload_n 5 rfl (show decode M_Permits_wishesFor.2.1 4 = .ok (.iload_n 3, 1) by decide +kernel) 3 rfl ?_
    refine V_aload_n 6 rfl (show decode M_Permits_wishesFor.2.1 5 = .ok (.aload_n 0, 1) by decide +kernel) 0 rfl ?_
    refine V_get (j := 3) (v := vI (SI σ h0 3)) 9 rfl ck_Permits (by decide) (by decide) (show decode M_Permits_wishesFor.2.1 6 = .ok (.getfield 36, 3) by decide +kernel) wd_332 rfl ?_
    refine V_icmpge 12 36 rfl (show decode M_Permits_wishesFor.2.1 9 = .ok (.if_icmp .ge 27, 3) by decide +kernel) rfl ?_ ?_
    · skip
      refine V_iload_n 13 rfl (show decode M_Permits_wishesFor.2.1 12 = .ok (.iload_n 2, 1) by decide +kernel) 2 rfl ?_
      refine V_aload_n 14 rfl (show decode M_Permits_wishesFor.2.1 13 = .ok (.aload_n 0, 1) by decide +kernel) 0 rfl ?_
      refine V_get (j := 1) (v := vR (SR σ h0 1)) 17 rfl ck_Permits (by decide) (by decide) (show decode M_Permits_wishesFor.2.1 14 = .ok (.getfield 15, 3) by decide +kernel) wd_330 rfl ?_
      refine V_iload_n 18 rfl (show decode M_Permits_wishesFor.2.1 17 = .ok (.iload_n 3, 1) by decide +kernel) 3 rfl ?_
      refine V_ald_int 19 rfl (show decode M_Permits_wishesFor.2.1 18 = .ok (.iaload, 1) by decide +kernel) ?_
      refine V_iload_n 20 rfl (show decode M_Permits_wishesFor.2.1 19 = .ok (.iload_n 1, 1) by decide +kernel) 1 rfl ?_
      refine V_jn (fun (J28 : Int32 → Int32 → Bool → Sto → Rs Int32) => ∀ (s0_28 : Int32) (s1_28 : Int32) (b : Bool) (σ : Sto), V M_Permits_wishesFor 1 0 0 0 0 tI (J28 s0_28 s1_28 b σ) 28 [(0, vR h0), (1, vI x1), (3, vI x3)] [vI s0_28, vI s1_28] b σ) ?_ (fun J28 hJ28 => ?_)
      · intro s0_28 s1_28 b σ
        refine V_iadd 29 rfl (show decode M_Permits_wishesFor.2.1 28 = .ok (.iadd, 1) by decide +kernel) ?_
        refine V_istore_n (fun x2_3 => [(2, vI x2_3), (0, vR h0), (1, vI x1), (3, vI x3)]) 30 rfl (show decode M_Permits_wishesFor.2.1 29 = .ok (.istore_n 2, 1) by decide +kernel) (by decide) (fun _ => rfl) (fun x2_3 => ?_)
        refine V_iinc (fun x3_4 => [(3, vI x3_4), (2, vI x2_3), (0, vR h0), (1, vI x1)]) 33 rfl (show decode M_Permits_wishesFor.2.1 30 = .ok (.iinc 3 1, 3) by decide +kernel) 3 rfl (w := 1) rfl (by decide) (fun _ => rfl) (fun x3_4 => ?_)
        refine V_goto 4 (show decode M_Permits_wishesFor.2.1 33 = .ok (.goto (-29), 3) by decide +kernel) rfl ?_
        exact V_sub [2, 3, 1, 0] rfl (hL4 x2_3 x3_4 b σ)
      · skip
        refine V_icmpne 23 27 rfl (show decode M_Permits_wishesFor.2.1 20 = .ok (.if_icmp .ne 7, 3) by decide +kernel) rfl ?_ ?_
        · skip
          refine V_iconst 24 rfl (show decode M_Permits_wishesFor.2.1 23 = .ok (.iconst 1, 1) by decide +kernel) (v := 1) rfl ?_
          refine V_goto 28 (show decode M_Permits_wishesFor.2.1 24 = .ok (.goto 4, 3) by decide +kernel) rfl ?_
          exact V_sub [0, 1, 3] rfl (hJ28 (1 : Int32) x2 (((b && cK σ h0 4) && cK σ h0 4) && cA σ (SR σ h0 1) 21 x3) σ)
        · skip
          refine V_iconst 28 rfl (show decode M_Permits_wishesFor.2.1 27 = .ok (.iconst 0, 1) by decide +kernel) (v := 0) rfl ?_
          exact V_sub [0, 1, 3] rfl (hJ28 (0 : Int32) x2 (((b && cK σ h0 4) && cK σ h0 4) && cA σ (SR σ h0 1) 21 x3) σ)
    · skip
      refine V_iload_n 37 rfl (show decode M_Permits_wishesFor.2.1 36 = .ok (.iload_n 2, 1) by decide +kernel) 2 rfl ?_
      exact V_iret rfl (by decide) (by decide) (show decode M_Permits_wishesFor.2.1 37 = .ok (.ireturn, 1) by decide +kernel)
theorem cal_Permits_wishesFor (d mc ms k n : Nat) (h1 : 1 + 1 ≤ d) (h2 : k + 0 ≤ mc) (h3 : n + 0 ≤ ms) : Cal M_Permits_wishesFor 1 0 0 1 d mc ms k n := ⟨wd_1283, wd_175, by decide, h1, by decide, h2, h3⟩
abbrev M_Permits_drawUp : MD := (⟨"LongTrail$Permits", "drawUp", "(LLongTrail$Laws;I)V"⟩, prog_5_method_6_code, 5, (none : Option FieldType))
def b_Permits_drawUp_47 (h0 : Nat) (h1 : Nat) (x2 : Int32) (x3 : Int32) (L2 : Int32 → Bool → Sto → Rs Unit) (L47 : Int32 → Bool → Sto → Rs Unit) (x4 : Int32) (b : Bool) (σ : Sto) : Rs Unit := (lt_ (fun (b : Bool) (σ : Sto) => (lt_ (pI σ (SR σ h0 5) (ix x4) x3) (fun (σ_7 : Sto) => (lt_ (x3 + (1 : Int32)) (fun (x3_8 : Int32) => (L2 x3_8 ((b && cK σ h0 4) && cA σ (SR σ h0 5) 21 x4) σ_7)))))) (fun J97 => (if 0 < x4 then (if (SI σ (SR σ h0 4) (ix (SI σ (SR σ h0 5) (ix (x4 - (1 : Int32)))))) < (SI σ (SR σ h0 4) (ix x3)) then (lt_ (pI σ (SR σ h0 5) (ix x4) (SI σ (SR σ h0 5) (ix (x4 - (1 : Int32))))) (fun (σ_9 : Sto) => (lt_ (x4 + (-1 : Int32)) (fun (x4_10 : Int32) => (L47 x4_10 ((((((((((b && cK σ h0 4) && cK σ h0 4) && cA σ (SR σ h0 5) 21 (x4 - (1 : Int32))) && cA σ (SR σ h0 4) 21 (SI σ (SR σ h0 5) (ix (x4 - (1 : Int32))))) && cK σ h0 4) && cA σ (SR σ h0 4) 21 x3) && cK σ h0 4) && cK σ h0 4) && cA σ (SR σ h0 5) 21 (x4 - (1 : Int32))) && cA σ (SR σ h0 5) 21 x4) σ_9))))) else (J97 ((((((b && cK σ h0 4) && cK σ h0 4) && cA σ (SR σ h0 5) 21 (x4 - (1 : Int32))) && cA σ (SR σ h0 4) 21 (SI σ (SR σ h0 5) (ix (x4 - (1 : Int32))))) && cK σ h0 4) && cA σ (SR σ h0 4) 21 x3) σ)) else (J97 b σ))))
def b_Permits_drawUp_2 (h0 : Nat) (h1 : Nat) (x2 : Int32) (L2 : Int32 → Bool → Sto → Rs Unit) (x3 : Int32) (b : Bool) (σ : Sto) : Rs Unit := (if x3 < (SI σ h0 3) then (bd_ (f_Permits_wishesFor h0 (SI σ (SR σ h0 1) (ix x3)) ((((((b && cK σ h0 4) && cK σ h0 4) && cA σ (SR σ h0 1) 21 x3) && cK σ h0 4) && cA σ (SR σ h0 1) 21 x3) && cK σ h0 4) σ) (fun (r_2 : Int32) (b_2 : Bool) (σ_2 : Sto) => (bd_ (f_Laws_nameTwo h1 (SI σ (SR σ h0 1) (ix x3)) r_2 (b_2 && cK σ_2 h1 3) σ_2) (fun (r_3 : Unit) (b_3 : Bool) (σ_3 : Sto) => (bd_ (f_Laws_answerOf h1 (0 : Int32) (3 : Int32) x2 (0 : Int32) ((b_3 && cK σ_3 h0 4) && cK σ_3 h1 3) σ_3) (fun (r_4 : Int32) (b_4 : Bool) (σ_4 : Sto) => (lt_ (pI σ_4 (SR σ_3 h0 4) (ix x3) r_4) (fun (σ_5 : Sto) => (lt_ x3 (fun (x4_6 : Int32) => (lp_ (b_Permits_drawUp_47 h0 h1 x2 x3 L2) (fun (x4 : Int32) (b : Bool) (σ : Sto) => ((), false, σ)) fuel_ x4_6 (b_4 && cA σ_4 (SR σ_3 h0 4) 21 x3) σ_5))))))))))) else ((), (b && cK σ h0 4), σ))
def f_Permits_drawUp (h0 : Nat) (h1 : Nat) (x2 : Int32) (b : Bool) (σ : Sto) : Rs Unit := (lt_ (0 : Int32) (fun (x3_1 : Int32) => (lp_ (b_Permits_drawUp_2 h0 h1 x2) (fun (x3 : Int32) (b : Bool) (σ : Sto) => ((), false, σ)) fuel_ x3_1 b σ)))
set_option maxRecDepth 100000 in
set_option maxHeartbeats 4000000 in
theorem s_Permits_drawUp : ∀ (h0 : Nat) (h1 : Nat) (x2 : Int32) (b : Bool) (σ : Sto), Snd M_Permits_drawUp 4 0 0 [vR h0, vR h1, vI x2] b σ (tU (f_Permits_drawUp h0 h1 x2 b σ).1) (f_Permits_drawUp h0 h1 x2 b σ).2.1 (f_Permits_drawUp h0 h1 x2 b σ).2.2 := by
  intro h0 h1 x2 b σ
  refine Snd_of (tv := tU) (by decide) (Nat.le_of_ble_eq_true rfl) ?_
  show V M_Permits_drawUp 4 0 0 0 0 tU (f_Permits_drawUp h0 h1 x2 b σ) 0 [(0, vR h0), (1, vR h1), (2, vI x2)] [] b σ
  unfold f_Permits_drawUp
  refine V_iconst 1 rfl (show decode M_Permits_drawUp.2.1 0 = .ok (.iconst 0, 1) by decide +kernel) (v := 0) rfl ?_
  refine V_istore_n (fun x3_1 => [(3, vI x3_1), (0, vR h0), (1, vR h1), (2, vI x2)]) 2 rfl (show decode M_Permits_drawUp.2.1 1 = .ok (.istore_n 3, 1) by decide +kernel) (by decide) (fun _ => rfl) (fun x3_1 => ?_)
  refine V_sub [1, 2, 3, 0] rfl ?_
  refine lp_P (fun (L2 : Int32 → Bool → Sto → Rs Unit) => ∀ (x3 : Int32) (b : Bool) (σ : Sto), V M_Permits_drawUp 4 0 0 0 0 tU (L2 x3 b σ) 2 [(0, vR h0), (1, vR h1), (2, vI x2), (3, vI x3)] [] b σ) ?_ ?_ fuel_ x3_1 b σ
  · intro x3 b σ; exact V_bad
  · intro L2 hL2 x3 b σ
    unfold b_Permits_drawUp_2
    refine V_iload_n 3 rfl (show decode M_Permits_drawUp.2.1 2 = .ok (.iload_n 3, 1) by decide +kernel) 3 rfl ?_
    refine V_aload_n 4 rfl (show decode M_Permits_drawUp.2.1 3 = .ok (.aload_n 0, 1) by decide +kernel) 0 rfl ?_
    refine V_get (j := 3) (v := vI (SI σ h0 3)) 7 rfl ck_Permits (by decide) (by decide) (show decode M_Permits_drawUp.2.1 4 = .ok (.getfield 36, 3) by decide +kernel) wd_332 rfl ?_
    refine V_icmpge 10 111 rfl (show decode M_Permits_drawUp.2.1 7 = .ok (.if_icmp .ge 104, 3) by decide +kernel) rfl ?_ ?_
    · skip
      refine V_aload_n 11 rfl (show decode M_Permits_drawUp.2.1 10 = .ok (.aload_n 1, 1) by decide +kernel) 1 rfl ?_
      refine V_aload_n 12 rfl (show decode M_Permits_drawUp.2.1 11 = .ok (.aload_n 0, 1) by decide +kernel) 0 rfl ?_
      refine V_get (j := 1) (v := vR (SR σ h0 1)) 15 rfl ck_Permits (by decide) (by decide) (show decode M_Permits_drawUp.2.1 12 = .ok (.getfield 15, 3) by decide +kernel) wd_330 rfl ?_
      refine V_iload_n 16 rfl (show decode M_Permits_drawUp.2.1 15 = .ok (.iload_n 3, 1) by decide +kernel) 3 rfl ?_
      refine V_ald_int 17 rfl (show decode M_Permits_drawUp.2.1 16 = .ok (.iaload, 1) by decide +kernel) ?_
      refine V_aload_n 18 rfl (show decode M_Permits_drawUp.2.1 17 = .ok (.aload_n 0, 1) by decide +kernel) 0 rfl ?_
      refine V_aload_n 19 rfl (show decode M_Permits_drawUp.2.1 18 = .ok (.aload_n 0, 1) by decide +kernel) 0 rfl ?_
      refine V_get (j := 1) (v := vR (SR σ h0 1)) 22 rfl ck_Permits (by decide) (by decide) (show decode M_Permits_drawUp.2.1 19 = .ok (.getfield 15, 3) by decide +kernel) wd_330 rfl ?_
      refine V_iload_n 23 rfl (show decode M_Permits_drawUp.2.1 22 = .ok (.iload_n 3, 1) by decide +kernel) 3 rfl ?_
      refine V_ald_int 24 rfl (show decode M_Permits_drawUp.2.1 23 = .ok (.iaload, 1) by decide +kernel) ?_
      refine V_callV (tb := tI) (as := [vI (SI σ (SR σ h0 1) (ix x3))]) (rest := [vI (SI σ (SR σ h0 1) (ix x3)), vR h1]) (na := 1) 27 rfl ck_Permits (by decide) (s_Permits_wishesFor h0 (SI σ (SR σ h0 1) (ix x3)) ((((((b && cK σ h0 4) && cK σ h0 4) && cA σ (SR σ h0 1) 21 x3) && cK σ h0 4) && cA σ (SR σ h0 1) 21 x3) && cK σ h0 4) σ) rfl rfl (Nat.le_of_ble_eq_true rfl) (cal_Permits_wishesFor _ _ _ _ _ (by decide) (by decide) (by decide)) (show decode M_Permits_drawUp.2.1 24 = .ok (.invokevirtual 44, 3) by decide +kernel) wd_1280 wd_1282 wd_83 (fun r_2 b_2 σ_2 => ?_)
      show V M_Permits_drawUp 4 0 0 0 0 tU _ 27 [(0, vR h0), (1, vR h1), (2, vI x2), (3, vI x3)] [vI r_2, vI (SI σ (SR σ h0 1) (ix x3)), vR h1] b_2 σ_2
      refine V_callVN (tb := tU) (as := [vI (SI σ (SR σ h0 1) (ix x3)), vI r_2]) (rest := []) (na := 2) 30 rfl ck_Laws (by decide) (s_Laws_nameTwo h1 (SI σ (SR σ h0 1) (ix x3)) r_2 (b_2 && cK σ_2 h1 3) σ_2) rfl rfl (Nat.le_of_ble_eq_true rfl) (cal_Laws_nameTwo _ _ _ _ _ (by decide) (by decide) (by decide)) (show decode M_Permits_drawUp.2.1 27 = .ok (.invokevirtual 48, 3) by decide +kernel) wd_1284 wd_1128 wd_54 (fun r_3 b_3 σ_3 => ?_)
      show V M_Permits_drawUp 4 0 0 0 0 tU _ 30 [(0, vR h0), (1, vR h1), (2, vI x2), (3, vI x3)] [] b_3 σ_3
      refine V_aload_n 31 rfl (show decode M_Permits_drawUp.2.1 30 = .ok (.aload_n 0, 1) by decide +kernel) 0 rfl ?_
      refine V_get (j := 4) (v := vR (SR σ_3 h0 4)) 34 rfl ck_Permits (by decide) (by decide) (show decode M_Permits_drawUp.2.1 31 = .ok (.getfield 21, 3) by decide +kernel) wd_334 rfl ?_
      refine V_iload_n 35 rfl (show decode M_Permits_drawUp.2.1 34 = .ok (.iload_n 3, 1) by decide +kernel) 3 rfl ?_
      refine V_aload_n 36 rfl (show decode M_Permits_drawUp.2.1 35 = .ok (.aload_n 1, 1) by decide +kernel) 1 rfl ?_
      refine V_iconst 37 rfl (show decode M_Permits_drawUp.2.1 36 = .ok (.iconst 0, 1) by decide +kernel) (v := 0) rfl ?_
      refine V_iconst 38 rfl (show decode M_Permits_drawUp.2.1 37 = .ok (.iconst 3, 1) by decide +kernel) (v := 3) rfl ?_
      refine V_iload_n 39 rfl (show decode M_Permits_drawUp.2.1 38 = .ok (.iload_n 2, 1) by decide +kernel) 2 rfl ?_
      refine V_iconst 40 rfl (show decode M_Permits_drawUp.2.1 39 = .ok (.iconst 0, 1) by decide +kernel) (v := 0) rfl ?_
      refine V_callVN (tb := tI) (as := [vI (0 : Int32), vI (3 : Int32), vI x2, vI (0 : Int32)]) (rest := [vI x3, vR (SR σ_3 h0 4)]) (na := 4) 43 rfl ck_Laws (by decide) (s_Laws_answerOf h1 (0 : Int32) (3 : Int32) x2 (0 : Int32) ((b_3 && cK σ_3 h0 4) && cK σ_3 h1 3) σ_3) rfl rfl (Nat.le_of_ble_eq_true rfl) (cal_Laws_answerOf _ _ _ _ _ (by decide) (by decide) (by decide)) (show decode M_Permits_drawUp.2.1 40 = .ok (.invokevirtual 54, 3) by decide +kernel) wd_1285 wd_1133 wd_55 (fun r_4 b_4 σ_4 => ?_)
      show V M_Permits_drawUp 4 0 0 0 0 tU _ 43 [(0, vR h0), (1, vR h1), (2, vI x2), (3, vI x3)] [vI r_4, vI x3, vR (SR σ_3 h0 4)] b_4 σ_4
      refine V_ast_int 44 rfl (show decode M_Permits_drawUp.2.1 43 = .ok (.iastore, 1) by decide +kernel) (fun σ_5 => ?_)
      refine V_iload_n 45 rfl (show decode M_Permits_drawUp.2.1 44 = .ok (.iload_n 3, 1) by decide +kernel) 3 rfl ?_
      refine V_istore (fun x4_6 => [(4, vI x4_6), (0, vR h0), (1, vR h1), (2, vI x2), (3, vI x3)]) 47 rfl (show decode M_Permits_drawUp.2.1 45 = .ok (.istore 4, 2) by decide +kernel) (by decide) (fun _ => rfl) (fun x4_6 => ?_)
      refine V_sub [1, 2, 3, 4, 0] rfl ?_
      refine lp_P (fun (L47 : Int32 → Bool → Sto → Rs Unit) => ∀ (x4 : Int32) (b : Bool) (σ : Sto), V M_Permits_drawUp 4 0 0 0 0 tU (L47 x4 b σ) 47 [(0, vR h0), (1, vR h1), (2, vI x2), (3, vI x3), (4, vI x4)] [] b σ) ?_ ?_ fuel_ x4_6 (b_4 && cA σ_4 (SR σ_3 h0 4) 21 x3) σ_5
      · intro x4 b σ; exact V_bad
      · intro L47 hL47 x4 b σ
        unfold b_Permits_drawUp_47
        refine V_iload 49 rfl (show decode M_Permits_drawUp.2.1 47 = .ok (.iload 4, 2) by decide +kernel) 4 rfl ?_
        refine V_jn (fun (J97 : Bool → Sto → Rs Unit) => ∀ (b : Bool) (σ : Sto), V M_Permits_drawUp 4 0 0 0 0 tU (J97 b σ) 97 [(0, vR h0), (1, vR h1), (2, vI x2), (3, vI x3), (4, vI x4)] [] b σ) ?_ (fun J97 hJ97 => ?_)
        · intro b σ
          refine V_aload_n 98 rfl (show decode M_Permits_drawUp.2.1 97 = .ok (.aload_n 0, 1) by decide +kernel) 0 rfl ?_
          refine V_get (j := 5) (v := vR (SR σ h0 5)) 101 rfl ck_Permits (by decide) (by decide) (show decode M_Permits_drawUp.2.1 98 = .ok (.getfield 24, 3) by decide +kernel) wd_335 rfl ?_
          refine V_iload 103 rfl (show decode M_Permits_drawUp.2.1 101 = .ok (.iload 4, 2) by decide +kernel) 4 rfl ?_
          refine V_iload_n 104 rfl (show decode M_Permits_drawUp.2.1 103 = .ok (.iload_n 3, 1) by decide +kernel) 3 rfl ?_
          refine V_ast_int 105 rfl (show decode M_Permits_drawUp.2.1 104 = .ok (.iastore, 1) by decide +kernel) (fun σ_7 => ?_)
          refine V_iinc (fun x3_8 => [(3, vI x3_8), (0, vR h0), (1, vR h1), (2, vI x2), (4, vI x4)]) 108 rfl (show decode M_Permits_drawUp.2.1 105 = .ok (.iinc 3 1, 3) by decide +kernel) 3 rfl (w := 1) rfl (by decide) (fun _ => rfl) (fun x3_8 => ?_)
          refine V_goto 2 (show decode M_Permits_drawUp.2.1 108 = .ok (.goto (-106), 3) by decide +kernel) rfl ?_
          exact V_sub [1, 2, 3, 0] rfl (hL2 x3_8 ((b && cK σ h0 4) && cA σ (SR σ h0 5) 21 x4) σ_7)
        · skip
          refine V_ifle 52 97 rfl (show decode M_Permits_drawUp.2.1 49 = .ok (.ifCond .le 48, 3) by decide +kernel) rfl ?_ ?_
          · skip
            refine V_aload_n 53 rfl (show decode M_Permits_drawUp.2.1 52 = .ok (.aload_n 0, 1) by decide +kernel) 0 rfl ?_
            refine V_get (j := 4) (v := vR (SR σ h0 4)) 56 rfl ck_Permits (by decide) (by decide) (show decode M_Permits_drawUp.2.1 53 = .ok (.getfield 21, 3) by decide +kernel) wd_334 rfl ?_
            refine V_aload_n 57 rfl (show decode M_Permits_drawUp.2.1 56 = .ok (.aload_n 0, 1) by decide +kernel) 0 rfl ?_
            refine V_get (j := 5) (v := vR (SR σ h0 5)) 60 rfl ck_Permits (by decide) (by decide) (show decode M_Permits_drawUp.2.1 57 = .ok (.getfield 24, 3) by decide +kernel) wd_335 rfl ?_
            refine V_iload 62 rfl (show decode M_Permits_drawUp.2.1 60 = .ok (.iload 4, 2) by decide +kernel) 4 rfl ?_
            refine V_iconst 63 rfl (show decode M_Permits_drawUp.2.1 62 = .ok (.iconst 1, 1) by decide +kernel) (v := 1) rfl ?_
            refine V_isub 64 rfl (show decode M_Permits_drawUp.2.1 63 = .ok (.isub, 1) by decide +kernel) ?_
            refine V_ald_int 65 rfl (show decode M_Permits_drawUp.2.1 64 = .ok (.iaload, 1) by decide +kernel) ?_
            refine V_ald_int 66 rfl (show decode M_Permits_drawUp.2.1 65 = .ok (.iaload, 1) by decide +kernel) ?_
            refine V_aload_n 67 rfl (show decode M_Permits_drawUp.2.1 66 = .ok (.aload_n 0, 1) by decide +kernel) 0 rfl ?_
            refine V_get (j := 4) (v := vR (SR σ h0 4)) 70 rfl ck_Permits (by decide) (by decide) (show decode M_Permits_drawUp.2.1 67 = .ok (.getfield 21, 3) by decide +kernel) wd_334 rfl ?_
            refine V_iload_n 71 rfl (show decode M_Permits_drawUp.2.1 70 = .ok (.iload_n 3, 1) by decide +kernel) 3 rfl ?_
            refine V_ald_int 72 rfl (show decode M_Permits_drawUp.2.1 71 = .ok (.iaload, 1) by decide +kernel) ?_
            refine V_icmpge 75 97 rfl (show decode M_Permits_drawUp.2.1 72 = .ok (.if_icmp .ge 25, 3) by decide +kernel) rfl ?_ ?_
            · skip
              refine V_aload_n 76 rfl (show decode M_Permits_drawUp.2.1 75 = .ok (.aload_n 0, 1) by decide +kernel) 0 rfl ?_
              refine V_get (j := 5) (v := vR (SR σ h0 5)) 79 rfl ck_Permits (by decide) (by decide) (show decode M_Permits_drawUp.2.1 76 = .ok (.getfield 24, 3) by decide +kernel) wd_335 rfl ?_
              refine V_iload 81 rfl (show decode M_Permits_drawUp.2.1 79 = .ok (.iload 4, 2) by decide +kernel) 4 rfl ?_
              refine V_aload_n 82 rfl (show decode M_Permits_drawUp.2.1 81 = .ok (.aload_n 0, 1) by decide +kernel) 0 rfl ?_
              refine V_get (j := 5) (v := vR (SR σ h0 5)) 85 rfl ck_Permits (by decide) (by decide) (show decode M_Permits_drawUp.2.1 82 = .ok (.getfield 24, 3) by decide +kernel) wd_335 rfl ?_
              refine V_iload 87 rfl (show decode M_Permits_drawUp.2.1 85 = .ok (.iload 4, 2) by decide +kernel) 4 rfl ?_
              refine V_iconst 88 rfl (show decode M_Permits_drawUp.2.1 87 = .ok (.iconst 1, 1) by decide +kernel) (v := 1) rfl ?_
              refine V_isub 89 rfl (show decode M_Permits_drawUp.2.1 88 = .ok (.isub, 1) by decide +kernel) ?_
              refine V_ald_int 90 rfl (show decode M_Permits_drawUp.2.1 89 = .ok (.iaload, 1) by decide +kernel) ?_
              refine V_ast_int 91 rfl (show decode M_Permits_drawUp.2.1 90 = .ok (.iastore, 1) by decide +kernel) (fun σ_9 => ?_)
              refine V_iinc (fun x4_10 => [(4, vI x4_10), (0, vR h0), (1, vR h1), (2, vI x2), (3, vI x3)]) 94 rfl (show decode M_Permits_drawUp.2.1 91 = .ok (.iinc 4 (-1), 3) by decide +kernel) 4 rfl (w := -1) rfl (by decide) (fun _ => rfl) (fun x4_10 => ?_)
              refine V_goto 47 (show decode M_Permits_drawUp.2.1 94 = .ok (.goto (-47), 3) by decide +kernel) rfl ?_
              exact V_sub [1, 2, 3, 4, 0] rfl (hL47 x4_10 ((((((((((b && cK σ h0 4) && cK σ h0 4) && cA σ (SR σ h0 5) 21 (x4 - (1 : Int32))) && cA σ (SR σ h0 4) 21 (SI σ (SR σ h0 5) (ix (x4 - (1 : Int32))))) && cK σ h0 4) && cA σ (SR σ h0 4) 21 x3) && cK σ h0 4) && cK σ h0 4) && cA σ (SR σ h0 5) 21 (x4 - (1 : Int32))) && cA σ (SR σ h0 5) 21 x4) σ_9)
            · skip
              exact V_sub [0, 1, 2, 3, 4] rfl (hJ97 ((((((b && cK σ h0 4) && cK σ h0 4) && cA σ (SR σ h0 5) 21 (x4 - (1 : Int32))) && cA σ (SR σ h0 4) 21 (SI σ (SR σ h0 5) (ix (x4 - (1 : Int32))))) && cK σ h0 4) && cA σ (SR σ h0 4) 21 x3) σ)
          · skip
            exact V_sub [0, 1, 2, 3, 4] rfl (hJ97 b σ)
    · skip
      exact V_vret rfl (by decide) (by decide) (show decode M_Permits_drawUp.2.1 111 = .ok (.return_, 1) by decide +kernel)
theorem cal_Permits_drawUp (d mc ms k n : Nat) (h1 : 4 + 1 ≤ d) (h2 : k + 0 ≤ mc) (h3 : n + 0 ≤ ms) : Cal M_Permits_drawUp 4 0 0 2 d mc ms k n := ⟨wd_1279, wd_175, by decide, h1, by decide, h2, h3⟩
abbrev M_Permits_grantsOn : MD := (⟨"LongTrail$Permits", "grantsOn", "(I)I"⟩, prog_5_method_9_code, 4, (some FieldType.int))
def b_Permits_grantsOn_4 (h0 : Nat) (x1 : Int32) (L4 : Int32 → Int32 → Bool → Sto → Rs Int32) (x2 : Int32) (x3 : Int32) (b : Bool) (σ : Sto) : Rs Int32 := (if x3 < (SI σ h0 3) then (lt_ (fun (s0_28 : Int32) (s1_28 : Int32) (b : Bool) (σ : Sto) => (lt_ (s1_28 + s0_28) (fun (x2_3 : Int32) => (lt_ (x3 + (1 : Int32)) (fun (x3_4 : Int32) => (L4 x2_3 x3_4 b σ)))))) (fun J28 => (if (SI σ (SR σ h0 6) (ix x3)) = x1 then (J28 (1 : Int32) x2 (((b && cK σ h0 4) && cK σ h0 4) && cA σ (SR σ h0 6) 21 x3) σ) else (J28 (0 : Int32) x2 (((b && cK σ h0 4) && cK σ h0 4) && cA σ (SR σ h0 6) 21 x3) σ)))) else (x2, (b && cK σ h0 4), σ))
def f_Permits_grantsOn (h0 : Nat) (x1 : Int32) (b : Bool) (σ : Sto) : Rs Int32 := (lt_ (0 : Int32) (fun (x2_1 : Int32) => (lt_ (0 : Int32) (fun (x3_2 : Int32) => (lp_ (b_Permits_grantsOn_4 h0 x1) (fun (x2 : Int32) (x3 : Int32) (b : Bool) (σ : Sto) => (0, false, σ)) fuel_ x2_1 x3_2 b σ)))))
set_option maxRecDepth 100000 in
set_option maxHeartbeats 4000000 in
theorem s_Permits_grantsOn : ∀ (h0 : Nat) (x1 : Int32) (b : Bool) (σ : Sto), Snd M_Permits_grantsOn 1 0 0 [vR h0, vI x1] b σ (tI (f_Permits_grantsOn h0 x1 b σ).1) (f_Permits_grantsOn h0 x1 b σ).2.1 (f_Permits_grantsOn h0 x1 b σ).2.2 := by
  intro h0 x1 b σ
  refine Snd_of (tv := tI) (by decide) (Nat.le_of_ble_eq_true rfl) ?_
  show V M_Permits_grantsOn 1 0 0 0 0 tI (f_Permits_grantsOn h0 x1 b σ) 0 [(0, vR h0), (1, vI x1)] [] b σ
  unfold f_Permits_grantsOn
  refine V_iconst 1 rfl (show decode M_Permits_grantsOn.2.1 0 = .ok (.iconst 0, 1) by decide +kernel) (v := 0) rfl ?_
  refine V_istore_n (fun x2_1 => [(2, vI x2_1), (0, vR h0), (1, vI x1)]) 2 rfl (show decode M_Permits_grantsOn.2.1 1 = .ok (.istore_n 2, 1) by decide +kernel) (by decide) (fun _ => rfl) (fun x2_1 => ?_)
  refine V_iconst 3 rfl (show decode M_Permits_grantsOn.2.1 2 = .ok (.iconst 0, 1) by decide +kernel) (v := 0) rfl ?_
  refine V_istore_n (fun x3_2 => [(3, vI x3_2), (2, vI x2_1), (0, vR h0), (1, vI x1)]) 4 rfl (show decode M_Permits_grantsOn.2.1 3 = .ok (.istore_n 3, 1) by decide +kernel) (by decide) (fun _ => rfl) (fun x3_2 => ?_)
  refine V_sub [2, 3, 1, 0] rfl ?_
  refine lp_P (fun (L4 : Int32 → Int32 → Bool → Sto → Rs Int32) => ∀ (x2 : Int32) (x3 : Int32) (b : Bool) (σ : Sto), V M_Permits_grantsOn 1 0 0 0 0 tI (L4 x2 x3 b σ) 4 [(0, vR h0), (1, vI x1), (2, vI x2), (3, vI x3)] [] b σ) ?_ ?_ fuel_ x2_1 x3_2 b σ
  · intro x2 x3 b σ; exact V_bad
  · intro L4 hL4 x2 x3 b σ
    unfold b_Permits_grantsOn_4
    refine V_iload_n 5 rfl (show decode M_Permits_grantsOn.2.1 4 = .ok (.iload_n 3, 1) by decide +kernel) 3 rfl ?_
    refine V_aload_n 6 rfl (show decode M_Permits_grantsOn.2.1 5 = .ok (.aload_n 0, 1) by decide +kernel) 0 rfl ?_
    refine V_get (j := 3) (v := vI (SI σ h0 3)) 9 rfl ck_Permits (by decide) (by decide) (show decode M_Permits_grantsOn.2.1 6 = .ok (.getfield 36, 3) by decide +kernel) wd_332 rfl ?_
    refine V_icmpge 12 36 rfl (show decode M_Permits_grantsOn.2.1 9 = .ok (.if_icmp .ge 27, 3) by decide +kernel) rfl ?_ ?_
    · skip
      refine V_iload_n 13 rfl (show decode M_Permits_grantsOn.2.1 12 = .ok (.iload_n 2, 1) by decide +kernel) 2 rfl ?_
      refine V_aload_n 14 rfl (show decode M_Permits_grantsOn.2.1 13 = .ok (.aload_n 0, 1) by decide +kernel) 0 rfl ?_
      refine V_get (j := 6) (v := vR (SR σ h0 6)) 17 rfl ck_Permits (by decide) (by decide) (show decode M_Permits_grantsOn.2.1 14 = .ok (.getfield 27, 3) by decide +kernel) wd_336 rfl ?_
      refine V_iload_n 18 rfl (show decode M_Permits_grantsOn.2.1 17 = .ok (.iload_n 3, 1) by decide +kernel) 3 rfl ?_
      refine V_ald_int 19 rfl (show decode M_Permits_grantsOn.2.1 18 = .ok (.iaload, 1) by decide +kernel) ?_
      refine V_iload_n 20 rfl (show decode M_Permits_grantsOn.2.1 19 = .ok (.iload_n 1, 1) by decide +kernel) 1 rfl ?_
      refine V_jn (fun (J28 : Int32 → Int32 → Bool → Sto → Rs Int32) => ∀ (s0_28 : Int32) (s1_28 : Int32) (b : Bool) (σ : Sto), V M_Permits_grantsOn 1 0 0 0 0 tI (J28 s0_28 s1_28 b σ) 28 [(0, vR h0), (1, vI x1), (3, vI x3)] [vI s0_28, vI s1_28] b σ) ?_ (fun J28 hJ28 => ?_)
      · intro s0_28 s1_28 b σ
        refine V_iadd 29 rfl (show decode M_Permits_grantsOn.2.1 28 = .ok (.iadd, 1) by decide +kernel) ?_
        refine V_istore_n (fun x2_3 => [(2, vI x2_3), (0, vR h0), (1, vI x1), (3, vI x3)]) 30 rfl (show decode M_Permits_grantsOn.2.1 29 = .ok (.istore_n 2, 1) by decide +kernel) (by decide) (fun _ => rfl) (fun x2_3 => ?_)
        refine V_iinc (fun x3_4 => [(3, vI x3_4), (2, vI x2_3), (0, vR h0), (1, vI x1)]) 33 rfl (show decode M_Permits_grantsOn.2.1 30 = .ok (.iinc 3 1, 3) by decide +kernel) 3 rfl (w := 1) rfl (by decide) (fun _ => rfl) (fun x3_4 => ?_)
        refine V_goto 4 (show decode M_Permits_grantsOn.2.1 33 = .ok (.goto (-29), 3) by decide +kernel) rfl ?_
        exact V_sub [2, 3, 1, 0] rfl (hL4 x2_3 x3_4 b σ)
      · skip
        refine V_icmpne 23 27 rfl (show decode M_Permits_grantsOn.2.1 20 = .ok (.if_icmp .ne 7, 3) by decide +kernel) rfl ?_ ?_
        · skip
          refine V_iconst 24 rfl (show decode M_Permits_grantsOn.2.1 23 = .ok (.iconst 1, 1) by decide +kernel) (v := 1) rfl ?_
          refine V_goto 28 (show decode M_Permits_grantsOn.2.1 24 = .ok (.goto 4, 3) by decide +kernel) rfl ?_
          exact V_sub [0, 1, 3] rfl (hJ28 (1 : Int32) x2 (((b && cK σ h0 4) && cK σ h0 4) && cA σ (SR σ h0 6) 21 x3) σ)
        · skip
          refine V_iconst 28 rfl (show decode M_Permits_grantsOn.2.1 27 = .ok (.iconst 0, 1) by decide +kernel) (v := 0) rfl ?_
          exact V_sub [0, 1, 3] rfl (hJ28 (0 : Int32) x2 (((b && cK σ h0 4) && cK σ h0 4) && cA σ (SR σ h0 6) 21 x3) σ)
    · skip
      refine V_iload_n 37 rfl (show decode M_Permits_grantsOn.2.1 36 = .ok (.iload_n 2, 1) by decide +kernel) 2 rfl ?_
      exact V_iret rfl (by decide) (by decide) (show decode M_Permits_grantsOn.2.1 37 = .ok (.ireturn, 1) by decide +kernel)
theorem cal_Permits_grantsOn (d mc ms k n : Nat) (h1 : 1 + 1 ≤ d) (h2 : k + 0 ≤ mc) (h3 : n + 0 ≤ ms) : Cal M_Permits_grantsOn 1 0 0 1 d mc ms k n := ⟨wd_1301, wd_175, by decide, h1, by decide, h2, h3⟩
abbrev M_Permits_firstFreeDay : MD := (⟨"LongTrail$Permits", "firstFreeDay", "(II)I"⟩, prog_5_method_8_code, 5, (some FieldType.int))
def b_Permits_firstFreeDay_7 (h0 : Nat) (x1 : Int32) (x2 : Int32) (L7 : Int32 → Bool → Sto → Rs Int32) (x3 : Int32) (b : Bool) (σ : Sto) : Rs Int32 := (if ((SI σ (SR σ h0 1) (ix x1)) + (SI σ (SR σ h0 2) (ix x1))) < x3 then ((-1000000005 : Int32), ((((b && cK σ h0 4) && cA σ (SR σ h0 1) 21 x1) && cK σ h0 4) && cA σ (SR σ h0 2) 21 x1), σ) else (lt_ (fun (s0_43 : Int32) (b : Bool) (σ : Sto) => (lt_ s0_43 (fun (x4_2 : Int32) => (bd_ (f_Permits_grantsOn h0 x3 (b && cK σ h0 4) σ) (fun (r_3 : Int32) (b_3 : Bool) (σ_3 : Sto) => (if r_3 < x4_2 then (x3, b_3, σ_3) else (lt_ (x3 + (1 : Int32)) (fun (x3_4 : Int32) => (L7 x3_4 b_3 σ_3))))))))) (fun J43 => (if x2 = (-1000000005 : Int32) then (J43 (SI σ (SR σ h0 0) (ix (x3 - x3 / (7 : Int32) * (7 : Int32)))) (((((((b && cK σ h0 4) && cA σ (SR σ h0 1) 21 x1) && cK σ h0 4) && cA σ (SR σ h0 2) 21 x1) && cK σ h0 4) && !decide ((7 : Int32) = 0)) && cA σ (SR σ h0 0) 21 (x3 - x3 / (7 : Int32) * (7 : Int32))) σ) else (J43 x2 ((((b && cK σ h0 4) && cA σ (SR σ h0 1) 21 x1) && cK σ h0 4) && cA σ (SR σ h0 2) 21 x1) σ)))))
def f_Permits_firstFreeDay (h0 : Nat) (x1 : Int32) (x2 : Int32) (b : Bool) (σ : Sto) : Rs Int32 := (lt_ (SI σ (SR σ h0 1) (ix x1)) (fun (x3_1 : Int32) => (lp_ (b_Permits_firstFreeDay_7 h0 x1 x2) (fun (x3 : Int32) (b : Bool) (σ : Sto) => (0, false, σ)) fuel_ x3_1 ((b && cK σ h0 4) && cA σ (SR σ h0 1) 21 x1) σ)))
set_option maxRecDepth 100000 in
set_option maxHeartbeats 4000000 in
theorem s_Permits_firstFreeDay : ∀ (h0 : Nat) (x1 : Int32) (x2 : Int32) (b : Bool) (σ : Sto), Snd M_Permits_firstFreeDay 2 0 0 [vR h0, vI x1, vI x2] b σ (tI (f_Permits_firstFreeDay h0 x1 x2 b σ).1) (f_Permits_firstFreeDay h0 x1 x2 b σ).2.1 (f_Permits_firstFreeDay h0 x1 x2 b σ).2.2 := by
  intro h0 x1 x2 b σ
  refine Snd_of (tv := tI) (by decide) (Nat.le_of_ble_eq_true rfl) ?_
  show V M_Permits_firstFreeDay 2 0 0 0 0 tI (f_Permits_firstFreeDay h0 x1 x2 b σ) 0 [(0, vR h0), (1, vI x1), (2, vI x2)] [] b σ
  unfold f_Permits_firstFreeDay
  refine V_aload_n 1 rfl (show decode M_Permits_firstFreeDay.2.1 0 = .ok (.aload_n 0, 1) by decide +kernel) 0 rfl ?_
  refine V_get (j := 1) (v := vR (SR σ h0 1)) 4 rfl ck_Permits (by decide) (by decide) (show decode M_Permits_firstFreeDay.2.1 1 = .ok (.getfield 15, 3) by decide +kernel) wd_330 rfl ?_
  refine V_iload_n 5 rfl (show decode M_Permits_firstFreeDay.2.1 4 = .ok (.iload_n 1, 1) by decide +kernel) 1 rfl ?_
  refine V_ald_int 6 rfl (show decode M_Permits_firstFreeDay.2.1 5 = .ok (.iaload, 1) by decide +kernel) ?_
  refine V_istore_n (fun x3_1 => [(3, vI x3_1), (0, vR h0), (1, vI x1), (2, vI x2)]) 7 rfl (show decode M_Permits_firstFreeDay.2.1 6 = .ok (.istore_n 3, 1) by decide +kernel) (by decide) (fun _ => rfl) (fun x3_1 => ?_)
  refine V_sub [1, 2, 3, 0] rfl ?_
  refine lp_P (fun (L7 : Int32 → Bool → Sto → Rs Int32) => ∀ (x3 : Int32) (b : Bool) (σ : Sto), V M_Permits_firstFreeDay 2 0 0 0 0 tI (L7 x3 b σ) 7 [(0, vR h0), (1, vI x1), (2, vI x2), (3, vI x3)] [] b σ) ?_ ?_ fuel_ x3_1 ((b && cK σ h0 4) && cA σ (SR σ h0 1) 21 x1) σ
  · intro x3 b σ; exact V_bad
  · intro L7 hL7 x3 b σ
    unfold b_Permits_firstFreeDay_7
    refine V_iload_n 8 rfl (show decode M_Permits_firstFreeDay.2.1 7 = .ok (.iload_n 3, 1) by decide +kernel) 3 rfl ?_
    refine V_aload_n 9 rfl (show decode M_Permits_firstFreeDay.2.1 8 = .ok (.aload_n 0, 1) by decide +kernel) 0 rfl ?_
    refine V_get (j := 1) (v := vR (SR σ h0 1)) 12 rfl ck_Permits (by decide) (by decide) (show decode M_Permits_firstFreeDay.2.1 9 = .ok (.getfield 15, 3) by decide +kernel) wd_330 rfl ?_
    refine V_iload_n 13 rfl (show decode M_Permits_firstFreeDay.2.1 12 = .ok (.iload_n 1, 1) by decide +kernel) 1 rfl ?_
    refine V_ald_int 14 rfl (show decode M_Permits_firstFreeDay.2.1 13 = .ok (.iaload, 1) by decide +kernel) ?_
    refine V_aload_n 15 rfl (show decode M_Permits_firstFreeDay.2.1 14 = .ok (.aload_n 0, 1) by decide +kernel) 0 rfl ?_
    refine V_get (j := 2) (v := vR (SR σ h0 2)) 18 rfl ck_Permits (by decide) (by decide) (show decode M_Permits_firstFreeDay.2.1 15 = .ok (.getfield 18, 3) by decide +kernel) wd_331 rfl ?_
    refine V_iload_n 19 rfl (show decode M_Permits_firstFreeDay.2.1 18 = .ok (.iload_n 1, 1) by decide +kernel) 1 rfl ?_
    refine V_ald_int 20 rfl (show decode M_Permits_firstFreeDay.2.1 19 = .ok (.iaload, 1) by decide +kernel) ?_
    refine V_iadd 21 rfl (show decode M_Permits_firstFreeDay.2.1 20 = .ok (.iadd, 1) by decide +kernel) ?_
    refine V_icmpgt 24 63 rfl (show decode M_Permits_firstFreeDay.2.1 21 = .ok (.if_icmp .gt 42, 3) by decide +kernel) rfl ?_ ?_
    · skip
      refine V_ldc 65 rfl (show decode M_Permits_firstFreeDay.2.1 63 = .ok (.ldc 58, 2) by decide +kernel) wd_1290 ?_
      exact V_iret rfl (by decide) (by decide) (show decode M_Permits_firstFreeDay.2.1 65 = .ok (.ireturn, 1) by decide +kernel)
    · skip
      refine V_iload_n 25 rfl (show decode M_Permits_firstFreeDay.2.1 24 = .ok (.iload_n 2, 1) by decide +kernel) 2 rfl ?_
      refine V_ldc 27 rfl (show decode M_Permits_firstFreeDay.2.1 25 = .ok (.ldc 58, 2) by decide +kernel) wd_1290 ?_
      refine V_jn (fun (J43 : Int32 → Bool → Sto → Rs Int32) => ∀ (s0_43 : Int32) (b : Bool) (σ : Sto), V M_Permits_firstFreeDay 2 0 0 0 0 tI (J43 s0_43 b σ) 43 [(0, vR h0), (1, vI x1), (2, vI x2), (3, vI x3)] [vI s0_43] b σ) ?_ (fun J43 hJ43 => ?_)
      · intro s0_43 b σ
        refine V_istore (fun x4_2 => [(4, vI x4_2), (0, vR h0), (1, vI x1), (2, vI x2), (3, vI x3)]) 45 rfl (show decode M_Permits_firstFreeDay.2.1 43 = .ok (.istore 4, 2) by decide +kernel) (by decide) (fun _ => rfl) (fun x4_2 => ?_)
        refine V_aload_n 46 rfl (show decode M_Permits_firstFreeDay.2.1 45 = .ok (.aload_n 0, 1) by decide +kernel) 1 rfl ?_
        refine V_iload_n 47 rfl (show decode M_Permits_firstFreeDay.2.1 46 = .ok (.iload_n 3, 1) by decide +kernel) 4 rfl ?_
        refine V_callV (tb := tI) (as := [vI x3]) (rest := []) (na := 1) 50 rfl ck_Permits (by decide) (s_Permits_grantsOn h0 x3 (b && cK σ h0 4) σ) rfl rfl (Nat.le_of_ble_eq_true rfl) (cal_Permits_grantsOn _ _ _ _ _ (by decide) (by decide) (by decide)) (show decode M_Permits_firstFreeDay.2.1 47 = .ok (.invokevirtual 69, 3) by decide +kernel) wd_1298 wd_1300 wd_86 (fun r_3 b_3 σ_3 => ?_)
        show V M_Permits_firstFreeDay 2 0 0 0 0 tI _ 50 [(4, vI x4_2), (0, vR h0), (1, vI x1), (2, vI x2), (3, vI x3)] [vI r_3] b_3 σ_3
        refine V_iload 52 rfl (show decode M_Permits_firstFreeDay.2.1 50 = .ok (.iload 4, 2) by decide +kernel) 0 rfl ?_
        refine V_icmpge 55 57 rfl (show decode M_Permits_firstFreeDay.2.1 52 = .ok (.if_icmp .ge 5, 3) by decide +kernel) rfl ?_ ?_
        · skip
          refine V_iload_n 56 rfl (show decode M_Permits_firstFreeDay.2.1 55 = .ok (.iload_n 3, 1) by decide +kernel) 4 rfl ?_
          exact V_iret rfl (by decide) (by decide) (show decode M_Permits_firstFreeDay.2.1 56 = .ok (.ireturn, 1) by decide +kernel)
        · skip
          refine V_iinc (fun x3_4 => [(3, vI x3_4), (4, vI x4_2), (0, vR h0), (1, vI x1), (2, vI x2)]) 60 rfl (show decode M_Permits_firstFreeDay.2.1 57 = .ok (.iinc 3 1, 3) by decide +kernel) 4 rfl (w := 1) rfl (by decide) (fun _ => rfl) (fun x3_4 => ?_)
          refine V_goto 7 (show decode M_Permits_firstFreeDay.2.1 60 = .ok (.goto (-53), 3) by decide +kernel) rfl ?_
          exact V_sub [2, 3, 4, 0] rfl (hL7 x3_4 b_3 σ_3)
      · skip
        refine V_icmpne 30 42 rfl (show decode M_Permits_firstFreeDay.2.1 27 = .ok (.if_icmp .ne 15, 3) by decide +kernel) rfl ?_ ?_
        · skip
          refine V_aload_n 31 rfl (show decode M_Permits_firstFreeDay.2.1 30 = .ok (.aload_n 0, 1) by decide +kernel) 0 rfl ?_
          refine V_get (j := 0) (v := vR (SR σ h0 0)) 34 rfl ck_Permits (by decide) (by decide) (show decode M_Permits_firstFreeDay.2.1 31 = .ok (.getfield 9, 3) by decide +kernel) wd_328 rfl ?_
          refine V_iload_n 35 rfl (show decode M_Permits_firstFreeDay.2.1 34 = .ok (.iload_n 3, 1) by decide +kernel) 3 rfl ?_
          refine V_bipush 37 rfl (show decode M_Permits_firstFreeDay.2.1 35 = .ok (.bipush 7, 2) by decide +kernel) (v := 7) rfl ?_
          refine V_irem 38 rfl (show decode M_Permits_firstFreeDay.2.1 37 = .ok (.irem, 1) by decide +kernel) ?_
          refine V_ald_int 39 rfl (show decode M_Permits_firstFreeDay.2.1 38 = .ok (.iaload, 1) by decide +kernel) ?_
          refine V_goto 43 (show decode M_Permits_firstFreeDay.2.1 39 = .ok (.goto 4, 3) by decide +kernel) rfl ?_
          exact V_sub [0, 1, 2, 3] rfl (hJ43 (SI σ (SR σ h0 0) (ix (x3 - x3 / (7 : Int32) * (7 : Int32)))) (((((((b && cK σ h0 4) && cA σ (SR σ h0 1) 21 x1) && cK σ h0 4) && cA σ (SR σ h0 2) 21 x1) && cK σ h0 4) && !decide ((7 : Int32) = 0)) && cA σ (SR σ h0 0) 21 (x3 - x3 / (7 : Int32) * (7 : Int32))) σ)
        · skip
          refine V_iload_n 43 rfl (show decode M_Permits_firstFreeDay.2.1 42 = .ok (.iload_n 2, 1) by decide +kernel) 2 rfl ?_
          exact V_sub [0, 1, 2, 3] rfl (hJ43 x2 ((((b && cK σ h0 4) && cA σ (SR σ h0 1) 21 x1) && cK σ h0 4) && cA σ (SR σ h0 2) 21 x1) σ)
theorem cal_Permits_firstFreeDay (d mc ms k n : Nat) (h1 : 2 + 1 ≤ d) (h2 : k + 0 ≤ mc) (h3 : n + 0 ≤ ms) : Cal M_Permits_firstFreeDay 2 0 0 2 d mc ms k n := ⟨wd_1297, wd_175, by decide, h1, by decide, h2, h3⟩
abbrev M_Arrays_fill_rIIV : MD := (⟨"java/util/Arrays", "fill", "([II)V"⟩, prog_22_method_103_code, 4, (none : Option FieldType))
def b_Arrays_fill_rIIV_5 (h0 : Nat) (x1 : Int32) (x3_2 : Int32) (L5 : Int32 → Bool → Sto → Rs Unit) (x2 : Int32) (b : Bool) (σ : Sto) : Rs Unit := (if x2 < x3_2 then (lt_ (pI σ h0 (ix x2) x1) (fun (σ_3 : Sto) => (lt_ (x2 + (1 : Int32)) (fun (x2_4 : Int32) => (L5 x2_4 (b && cA σ h0 21 x2) σ_3))))) else ((), b, σ))
def f_Arrays_fill_rIIV (h0 : Nat) (x1 : Int32) (b : Bool) (σ : Sto) : Rs Unit := (lt_ (0 : Int32) (fun (x2_1 : Int32) => (lt_ (Int32.ofNat (Sln σ h0)) (fun (x3_2 : Int32) => (lp_ (b_Arrays_fill_rIIV_5 h0 x1 x3_2) (fun (x2 : Int32) (b : Bool) (σ : Sto) => ((), false, σ)) fuel_ x2_1 (b && cK σ h0 21) σ)))))
set_option maxRecDepth 100000 in
set_option maxHeartbeats 4000000 in
theorem s_Arrays_fill_rIIV : ∀ (h0 : Nat) (x1 : Int32) (b : Bool) (σ : Sto), Snd M_Arrays_fill_rIIV 1 0 0 [vR h0, vI x1] b σ (tU (f_Arrays_fill_rIIV h0 x1 b σ).1) (f_Arrays_fill_rIIV h0 x1 b σ).2.1 (f_Arrays_fill_rIIV h0 x1 b σ).2.2 := by
  intro h0 x1 b σ
  refine Snd_of (tv := tU) (by decide) (Nat.le_of_ble_eq_true rfl) ?_
  show V M_Arrays_fill_rIIV 1 0 0 0 0 tU (f_Arrays_fill_rIIV h0 x1 b σ) 0 [(0, vR h0), (1, vI x1)] [] b σ
  unfold f_Arrays_fill_rIIV
  refine V_iconst 1 rfl (show decode M_Arrays_fill_rIIV.2.1 0 = .ok (.iconst 0, 1) by decide +kernel) (v := 0) rfl ?_
  refine V_istore_n (fun x2_1 => [(2, vI x2_1), (0, vR h0), (1, vI x1)]) 2 rfl (show decode M_Arrays_fill_rIIV.2.1 1 = .ok (.istore_n 2, 1) by decide +kernel) (by decide) (fun _ => rfl) (fun x2_1 => ?_)
  refine V_aload_n 3 rfl (show decode M_Arrays_fill_rIIV.2.1 2 = .ok (.aload_n 0, 1) by decide +kernel) 1 rfl ?_
  refine V_alen_int 4 rfl (show decode M_Arrays_fill_rIIV.2.1 3 = .ok (.arraylength, 1) by decide +kernel) ?_
  refine V_istore_n (fun x3_2 => [(3, vI x3_2), (2, vI x2_1), (0, vR h0), (1, vI x1)]) 5 rfl (show decode M_Arrays_fill_rIIV.2.1 4 = .ok (.istore_n 3, 1) by decide +kernel) (by decide) (fun _ => rfl) (fun x3_2 => ?_)
  refine V_sub [2, 3, 1, 0] rfl ?_
  refine lp_P (fun (L5 : Int32 → Bool → Sto → Rs Unit) => ∀ (x2 : Int32) (b : Bool) (σ : Sto), V M_Arrays_fill_rIIV 1 0 0 0 0 tU (L5 x2 b σ) 5 [(0, vR h0), (1, vI x1), (2, vI x2), (3, vI x3_2)] [] b σ) ?_ ?_ fuel_ x2_1 (b && cK σ h0 21) σ
  · intro x2 b σ; exact V_bad
  · intro L5 hL5 x2 b σ
    unfold b_Arrays_fill_rIIV_5
    refine V_iload_n 6 rfl (show decode M_Arrays_fill_rIIV.2.1 5 = .ok (.iload_n 2, 1) by decide +kernel) 2 rfl ?_
    refine V_iload_n 7 rfl (show decode M_Arrays_fill_rIIV.2.1 6 = .ok (.iload_n 3, 1) by decide +kernel) 3 rfl ?_
    refine V_icmpge 10 20 rfl (show decode M_Arrays_fill_rIIV.2.1 7 = .ok (.if_icmp .ge 13, 3) by decide +kernel) rfl ?_ ?_
    · skip
      refine V_aload_n 11 rfl (show decode M_Arrays_fill_rIIV.2.1 10 = .ok (.aload_n 0, 1) by decide +kernel) 0 rfl ?_
      refine V_iload_n 12 rfl (show decode M_Arrays_fill_rIIV.2.1 11 = .ok (.iload_n 2, 1) by decide +kernel) 2 rfl ?_
      refine V_iload_n 13 rfl (show decode M_Arrays_fill_rIIV.2.1 12 = .ok (.iload_n 1, 1) by decide +kernel) 1 rfl ?_
      refine V_ast_int 14 rfl (show decode M_Arrays_fill_rIIV.2.1 13 = .ok (.iastore, 1) by decide +kernel) (fun σ_3 => ?_)
      refine V_iinc (fun x2_4 => [(2, vI x2_4), (0, vR h0), (1, vI x1), (3, vI x3_2)]) 17 rfl (show decode M_Arrays_fill_rIIV.2.1 14 = .ok (.iinc 2 1, 3) by decide +kernel) 2 rfl (w := 1) rfl (by decide) (fun _ => rfl) (fun x2_4 => ?_)
      refine V_goto 5 (show decode M_Arrays_fill_rIIV.2.1 17 = .ok (.goto (-12), 3) by decide +kernel) rfl ?_
      exact V_sub [1, 2, 0, 3] rfl (hL5 x2_4 (b && cA σ h0 21 x2) σ_3)
    · skip
      exact V_vret rfl (by decide) (by decide) (show decode M_Arrays_fill_rIIV.2.1 20 = .ok (.return_, 1) by decide +kernel)
theorem cal_Arrays_fill_rIIV (d mc ms k n : Nat) (h1 : 1 + 1 ≤ d) (h2 : k + 0 ≤ mc) (h3 : n + 0 ≤ ms) : Cal M_Arrays_fill_rIIV 1 0 0 2 d mc ms k n := ⟨wd_1293, wd_189, by decide, h1, by decide, h2, h3⟩
abbrev M_Permits_grantAll : MD := (⟨"LongTrail$Permits", "grantAll", "(I)I"⟩, prog_5_method_7_code, 5, (some FieldType.int))
def b_Permits_grantAll_13 (h0 : Nat) (x1 : Int32) (L13 : Int32 → Int32 → Bool → Sto → Rs Int32) (x2 : Int32) (x3 : Int32) (b : Bool) (σ : Sto) : Rs Int32 := (if x3 < (SI σ h0 3) then (lt_ (SI σ (SR σ h0 5) (ix x3)) (fun (x4_4 : Int32) => (bd_ (f_Permits_firstFreeDay h0 x4_4 x1 (((((b && cK σ h0 4) && cK σ h0 4) && cA σ (SR σ h0 5) 21 x3) && cK σ h0 4) && cK σ h0 4) σ) (fun (r_5 : Int32) (b_5 : Bool) (σ_5 : Sto) => (lt_ (pI σ_5 (SR σ h0 6) (ix x4_4) r_5) (fun (σ_6 : Sto) => (lt_ (fun (s0_61 : Int32) (s1_61 : Int32) (b : Bool) (σ : Sto) => (lt_ (s1_61 + s0_61) (fun (x2_7 : Int32) => (lt_ (x3 + (1 : Int32)) (fun (x3_8 : Int32) => (L13 x2_7 x3_8 b σ)))))) (fun J61 => (if (SI σ_6 (SR σ_6 h0 6) (ix x4_4)) = (-1000000005 : Int32) then (J61 (0 : Int32) x2 (((b_5 && cA σ_5 (SR σ h0 6) 21 x4_4) && cK σ_6 h0 4) && cA σ_6 (SR σ_6 h0 6) 21 x4_4) σ_6) else (J61 (1 : Int32) x2 (((b_5 && cA σ_5 (SR σ h0 6) 21 x4_4) && cK σ_6 h0 4) && cA σ_6 (SR σ_6 h0 6) 21 x4_4) σ_6)))))))))) else (x2, (b && cK σ h0 4), σ))
def f_Permits_grantAll (h0 : Nat) (x1 : Int32) (b : Bool) (σ : Sto) : Rs Int32 := (bd_ (f_Arrays_fill_rIIV (SR σ h0 6) (-1000000005 : Int32) (b && cK σ h0 4) σ) (fun (r_1 : Unit) (b_1 : Bool) (σ_1 : Sto) => (lt_ (0 : Int32) (fun (x2_2 : Int32) => (lt_ (0 : Int32) (fun (x3_3 : Int32) => (lp_ (b_Permits_grantAll_13 h0 x1) (fun (x2 : Int32) (x3 : Int32) (b : Bool) (σ : Sto) => (0, false, σ)) fuel_ x2_2 x3_3 b_1 σ_1)))))))
set_option maxRecDepth 100000 in
set_option maxHeartbeats 4000000 in
theorem s_Permits_grantAll : ∀ (h0 : Nat) (x1 : Int32) (b : Bool) (σ : Sto), Snd M_Permits_grantAll 3 0 0 [vR h0, vI x1] b σ (tI (f_Permits_grantAll h0 x1 b σ).1) (f_Permits_grantAll h0 x1 b σ).2.1 (f_Permits_grantAll h0 x1 b σ).2.2 := by
  intro h0 x1 b σ
  refine Snd_of (tv := tI) (by decide) (Nat.le_of_ble_eq_true rfl) ?_
  show V M_Permits_grantAll 3 0 0 0 0 tI (f_Permits_grantAll h0 x1 b σ) 0 [(0, vR h0), (1, vI x1)] [] b σ
  unfold f_Permits_grantAll
  refine V_aload_n 1 rfl (show decode M_Permits_grantAll.2.1 0 = .ok (.aload_n 0, 1) by decide +kernel) 0 rfl ?_
  refine V_get (j := 6) (v := vR (SR σ h0 6)) 4 rfl ck_Permits (by decide) (by decide) (show decode M_Permits_grantAll.2.1 1 = .ok (.getfield 27, 3) by decide +kernel) wd_336 rfl ?_
  refine V_ldc 6 rfl (show decode M_Permits_grantAll.2.1 4 = .ok (.ldc 58, 2) by decide +kernel) wd_1290 ?_
  refine V_callS (tb := tU) (as := [vR (SR σ h0 6), vI (-1000000005 : Int32)]) (rest := []) (na := 2) 9 rfl (s_Arrays_fill_rIIV (SR σ h0 6) (-1000000005 : Int32) (b && cK σ h0 4) σ) rfl rfl (Nat.le_of_ble_eq_true rfl) (cal_Arrays_fill_rIIV _ _ _ _ _ (by decide) (by decide) (by decide)) (show decode M_Permits_grantAll.2.1 6 = .ok (.invokestatic 59, 3) by decide +kernel) wd_1291 wd_1292 (fun r_1 b_1 σ_1 => ?_)
  show V M_Permits_grantAll 3 0 0 0 0 tI _ 9 [(0, vR h0), (1, vI x1)] [] b_1 σ_1
  refine V_iconst 10 rfl (show decode M_Permits_grantAll.2.1 9 = .ok (.iconst 0, 1) by decide +kernel) (v := 0) rfl ?_
  refine V_istore_n (fun x2_2 => [(2, vI x2_2), (0, vR h0), (1, vI x1)]) 11 rfl (show decode M_Permits_grantAll.2.1 10 = .ok (.istore_n 2, 1) by decide +kernel) (by decide) (fun _ => rfl) (fun x2_2 => ?_)
  refine V_iconst 12 rfl (show decode M_Permits_grantAll.2.1 11 = .ok (.iconst 0, 1) by decide +kernel) (v := 0) rfl ?_
  refine V_istore_n (fun x3_3 => [(3, vI x3_3), (2, vI x2_2), (0, vR h0), (1, vI x1)]) 13 rfl (show decode M_Permits_grantAll.2.1 12 = .ok (.istore_n 3, 1) by decide +kernel) (by decide) (fun _ => rfl) (fun x3_3 => ?_)
  refine V_sub [2, 3, 1, 0] rfl ?_
  refine lp_P (fun (L13 : Int32 → Int32 → Bool → Sto → Rs Int32) => ∀ (x2 : Int32) (x3 : Int32) (b : Bool) (σ : Sto), V M_Permits_grantAll 3 0 0 0 0 tI (L13 x2 x3 b σ) 13 [(0, vR h0), (1, vI x1), (2, vI x2), (3, vI x3)] [] b σ) ?_ ?_ fuel_ x2_2 x3_3 b_1 σ_1
  · intro x2 x3 b σ; exact V_bad
  · intro L13 hL13 x2 x3 b σ
    unfold b_Permits_grantAll_13
    refine V_iload_n 14 rfl (show decode M_Permits_grantAll.2.1 13 = .ok (.iload_n 3, 1) by decide +kernel) 3 rfl ?_
    refine V_aload_n 15 rfl (show decode M_Permits_grantAll.2.1 14 = .ok (.aload_n 0, 1) by decide +kernel) 0 rfl ?_
    refine V_get (j := 3) (v := vI (SI σ h0 3)) 18 rfl ck_Permits (by decide) (by decide) (show decode M_Permits_grantAll.2.1 15 = .ok (.getfield 36, 3) by decide +kernel) wd_332 rfl ?_
    refine V_icmpge 21 69 rfl (show decode M_Permits_grantAll.2.1 18 = .ok (.if_icmp .ge 51, 3) by decide +kernel) rfl ?_ ?_
    · skip
      refine V_aload_n 22 rfl (show decode M_Permits_grantAll.2.1 21 = .ok (.aload_n 0, 1) by decide +kernel) 0 rfl ?_
      refine V_get (j := 5) (v := vR (SR σ h0 5)) 25 rfl ck_Permits (by decide) (by decide) (show decode M_Permits_grantAll.2.1 22 = .ok (.getfield 24, 3) by decide +kernel) wd_335 rfl ?_
      refine V_iload_n 26 rfl (show decode M_Permits_grantAll.2.1 25 = .ok (.iload_n 3, 1) by decide +kernel) 3 rfl ?_
      refine V_ald_int 27 rfl (show decode M_Permits_grantAll.2.1 26 = .ok (.iaload, 1) by decide +kernel) ?_
      refine V_istore (fun x4_4 => [(4, vI x4_4), (0, vR h0), (1, vI x1), (2, vI x2), (3, vI x3)]) 29 rfl (show decode M_Permits_grantAll.2.1 27 = .ok (.istore 4, 2) by decide +kernel) (by decide) (fun _ => rfl) (fun x4_4 => ?_)
      refine V_aload_n 30 rfl (show decode M_Permits_grantAll.2.1 29 = .ok (.aload_n 0, 1) by decide +kernel) 1 rfl ?_
      refine V_get (j := 6) (v := vR (SR σ h0 6)) 33 rfl ck_Permits (by decide) (by decide) (show decode M_Permits_grantAll.2.1 30 = .ok (.getfield 27, 3) by decide +kernel) wd_336 rfl ?_
      refine V_iload 35 rfl (show decode M_Permits_grantAll.2.1 33 = .ok (.iload 4, 2) by decide +kernel) 0 rfl ?_
      refine V_aload_n 36 rfl (show decode M_Permits_grantAll.2.1 35 = .ok (.aload_n 0, 1) by decide +kernel) 1 rfl ?_
      refine V_iload 38 rfl (show decode M_Permits_grantAll.2.1 36 = .ok (.iload 4, 2) by decide +kernel) 0 rfl ?_
      refine V_iload_n 39 rfl (show decode M_Permits_grantAll.2.1 38 = .ok (.iload_n 1, 1) by decide +kernel) 2 rfl ?_
      refine V_callV (tb := tI) (as := [vI x4_4, vI x1]) (rest := [vI x4_4, vR (SR σ h0 6)]) (na := 2) 42 rfl ck_Permits (by decide) (s_Permits_firstFreeDay h0 x4_4 x1 (((((b && cK σ h0 4) && cK σ h0 4) && cA σ (SR σ h0 5) 21 x3) && cK σ h0 4) && cK σ h0 4) σ) rfl rfl (Nat.le_of_ble_eq_true rfl) (cal_Permits_firstFreeDay _ _ _ _ _ (by decide) (by decide) (by decide)) (show decode M_Permits_grantAll.2.1 39 = .ok (.invokevirtual 65, 3) by decide +kernel) wd_1294 wd_1296 wd_85 (fun r_5 b_5 σ_5 => ?_)
      show V M_Permits_grantAll 3 0 0 0 0 tI _ 42 [(4, vI x4_4), (0, vR h0), (1, vI x1), (2, vI x2), (3, vI x3)] [vI r_5, vI x4_4, vR (SR σ h0 6)] b_5 σ_5
      refine V_ast_int 43 rfl (show decode M_Permits_grantAll.2.1 42 = .ok (.iastore, 1) by decide +kernel) (fun σ_6 => ?_)
      refine V_iload_n 44 rfl (show decode M_Permits_grantAll.2.1 43 = .ok (.iload_n 2, 1) by decide +kernel) 3 rfl ?_
      refine V_aload_n 45 rfl (show decode M_Permits_grantAll.2.1 44 = .ok (.aload_n 0, 1) by decide +kernel) 1 rfl ?_
      refine V_get (j := 6) (v := vR (SR σ_6 h0 6)) 48 rfl ck_Permits (by decide) (by decide) (show decode M_Permits_grantAll.2.1 45 = .ok (.getfield 27, 3) by decide +kernel) wd_336 rfl ?_
      refine V_iload 50 rfl (show decode M_Permits_grantAll.2.1 48 = .ok (.iload 4, 2) by decide +kernel) 0 rfl ?_
      refine V_ald_int 51 rfl (show decode M_Permits_grantAll.2.1 50 = .ok (.iaload, 1) by decide +kernel) ?_
      refine V_ldc 53 rfl (show decode M_Permits_grantAll.2.1 51 = .ok (.ldc 58, 2) by decide +kernel) wd_1290 ?_
      refine V_jn (fun (J61 : Int32 → Int32 → Bool → Sto → Rs Int32) => ∀ (s0_61 : Int32) (s1_61 : Int32) (b : Bool) (σ : Sto), V M_Permits_grantAll 3 0 0 0 0 tI (J61 s0_61 s1_61 b σ) 61 [(0, vR h0), (1, vI x1), (3, vI x3)] [vI s0_61, vI s1_61] b σ) ?_ (fun J61 hJ61 => ?_)
      · intro s0_61 s1_61 b σ
        refine V_iadd 62 rfl (show decode M_Permits_grantAll.2.1 61 = .ok (.iadd, 1) by decide +kernel) ?_
        refine V_istore_n (fun x2_7 => [(2, vI x2_7), (0, vR h0), (1, vI x1), (3, vI x3)]) 63 rfl (show decode M_Permits_grantAll.2.1 62 = .ok (.istore_n 2, 1) by decide +kernel) (by decide) (fun _ => rfl) (fun x2_7 => ?_)
        refine V_iinc (fun x3_8 => [(3, vI x3_8), (2, vI x2_7), (0, vR h0), (1, vI x1)]) 66 rfl (show decode M_Permits_grantAll.2.1 63 = .ok (.iinc 3 1, 3) by decide +kernel) 3 rfl (w := 1) rfl (by decide) (fun _ => rfl) (fun x3_8 => ?_)
        refine V_goto 13 (show decode M_Permits_grantAll.2.1 66 = .ok (.goto (-53), 3) by decide +kernel) rfl ?_
        exact V_sub [2, 3, 1, 0] rfl (hL13 x2_7 x3_8 b σ)
      · skip
        refine V_icmpne 56 60 rfl (show decode M_Permits_grantAll.2.1 53 = .ok (.if_icmp .ne 7, 3) by decide +kernel) rfl ?_ ?_
        · skip
          refine V_iconst 57 rfl (show decode M_Permits_grantAll.2.1 56 = .ok (.iconst 0, 1) by decide +kernel) (v := 0) rfl ?_
          refine V_goto 61 (show decode M_Permits_grantAll.2.1 57 = .ok (.goto 4, 3) by decide +kernel) rfl ?_
          exact V_sub [1, 2, 4] rfl (hJ61 (0 : Int32) x2 (((b_5 && cA σ_5 (SR σ h0 6) 21 x4_4) && cK σ_6 h0 4) && cA σ_6 (SR σ_6 h0 6) 21 x4_4) σ_6)
        · skip
          refine V_iconst 61 rfl (show decode M_Permits_grantAll.2.1 60 = .ok (.iconst 1, 1) by decide +kernel) (v := 1) rfl ?_
          exact V_sub [1, 2, 4] rfl (hJ61 (1 : Int32) x2 (((b_5 && cA σ_5 (SR σ h0 6) 21 x4_4) && cK σ_6 h0 4) && cA σ_6 (SR σ_6 h0 6) 21 x4_4) σ_6)
    · skip
      refine V_iload_n 70 rfl (show decode M_Permits_grantAll.2.1 69 = .ok (.iload_n 2, 1) by decide +kernel) 2 rfl ?_
      exact V_iret rfl (by decide) (by decide) (show decode M_Permits_grantAll.2.1 70 = .ok (.ireturn, 1) by decide +kernel)
theorem cal_Permits_grantAll (d mc ms k n : Nat) (h1 : 3 + 1 ≤ d) (h2 : k + 0 ≤ mc) (h3 : n + 0 ≤ ms) : Cal M_Permits_grantAll 3 0 0 1 d mc ms k n := ⟨wd_1289, wd_175, by decide, h1, by decide, h2, h3⟩
abbrev M_Permits_hasWish : MD := (⟨"LongTrail$Permits", "hasWish", "(I)Z"⟩, prog_5_method_3_code, 2, (some FieldType.boolean))
def f_Permits_hasWish (h0 : Nat) (x1 : Int32) (b : Bool) (σ : Sto) : Rs Int32 := (bd_ (f_Trail_within x1 (0 : Int32) ((SI σ h0 3) - (1 : Int32)) (b && cK σ h0 4) σ) (fun (r_1 : Int32) (b_1 : Bool) (σ_1 : Sto) => (r_1, (b_1 && zok r_1), σ_1)))
set_option maxRecDepth 100000 in
set_option maxHeartbeats 4000000 in
theorem s_Permits_hasWish : ∀ (h0 : Nat) (x1 : Int32) (b : Bool) (σ : Sto), Snd M_Permits_hasWish 2 0 0 [vR h0, vI x1] b σ (tI (f_Permits_hasWish h0 x1 b σ).1) (f_Permits_hasWish h0 x1 b σ).2.1 (f_Permits_hasWish h0 x1 b σ).2.2 := by
  intro h0 x1 b σ
  refine Snd_of (tv := tI) (by decide) (Nat.le_of_ble_eq_true rfl) ?_
  show V M_Permits_hasWish 2 0 0 0 0 tI (f_Permits_hasWish h0 x1 b σ) 0 [(0, vR h0), (1, vI x1)] [] b σ
  unfold f_Permits_hasWish
  refine V_iload_n 1 rfl (show decode M_Permits_hasWish.2.1 0 = .ok (.iload_n 1, 1) by decide +kernel) 1 rfl ?_
  refine V_iconst 2 rfl (show decode M_Permits_hasWish.2.1 1 = .ok (.iconst 0, 1) by decide +kernel) (v := 0) rfl ?_
  refine V_aload_n 3 rfl (show decode M_Permits_hasWish.2.1 2 = .ok (.aload_n 0, 1) by decide +kernel) 0 rfl ?_
  refine V_get (j := 3) (v := vI (SI σ h0 3)) 6 rfl ck_Permits (by decide) (by decide) (show decode M_Permits_hasWish.2.1 3 = .ok (.getfield 36, 3) by decide +kernel) wd_332 rfl ?_
  refine V_iconst 7 rfl (show decode M_Permits_hasWish.2.1 6 = .ok (.iconst 1, 1) by decide +kernel) (v := 1) rfl ?_
  refine V_isub 8 rfl (show decode M_Permits_hasWish.2.1 7 = .ok (.isub, 1) by decide +kernel) ?_
  refine V_callSN (tb := tI) (as := [vI x1, vI (0 : Int32), vI ((SI σ h0 3) - (1 : Int32))]) (rest := []) (na := 3) 11 rfl (s_Trail_within x1 (0 : Int32) ((SI σ h0 3) - (1 : Int32)) (b && cK σ h0 4) σ) rfl rfl (Nat.le_of_ble_eq_true rfl) (cal_Trail_within _ _ _ _ _ (by decide) (by decide) (by decide)) (show decode M_Permits_hasWish.2.1 8 = .ok (.invokestatic 40, 3) by decide +kernel) wd_1275 wd_629 (fun r_1 b_1 σ_1 => ?_)
  show V M_Permits_hasWish 2 0 0 0 0 tI _ 11 [(0, vR h0), (1, vI x1)] [vI r_1] b_1 σ_1
  exact V_zretc rfl (by decide) (by decide) (show decode M_Permits_hasWish.2.1 11 = .ok (.ireturn, 1) by decide +kernel)
theorem cal_Permits_hasWish (d mc ms k n : Nat) (h1 : 2 + 1 ≤ d) (h2 : k + 0 ≤ mc) (h3 : n + 0 ≤ ms) : Cal M_Permits_hasWish 2 0 0 1 d mc ms k n := ⟨wd_1274, wd_175, by decide, h1, by decide, h2, h3⟩
abbrev M_Trail_granted : MD := (⟨"LongTrail", "granted", "(I)I"⟩, prog_1_method_29_code, 3, (some FieldType.int))
def f_Trail_granted (h0 : Nat) (x1 : Int32) (b : Bool) (σ : Sto) : Rs Int32 := (lt_ (SR σ (SR σ h0 0) 3) (fun (h2_1 : Nat) => (bd_ (f_Permits_hasWish h2_1 x1 (((b && cK σ h0 12) && cK σ (SR σ h0 0) 11) && cK σ h2_1 4) σ) (fun (r_2 : Int32) (b_2 : Bool) (σ_2 : Sto) => (if r_2 = 0 then ((-1000000001 : Int32), b_2, σ_2) else (bd_ (f_Permits_drawUp h2_1 (SR σ_2 (SR σ_2 h0 0) 1) (SI σ_2 (SR σ_2 h0 0) 8) (((((b_2 && cK σ_2 h0 12) && cK σ_2 (SR σ_2 h0 0) 11) && cK σ_2 h0 12) && cK σ_2 (SR σ_2 h0 0) 11) && cK σ_2 h2_1 4) σ_2) (fun (r_3 : Unit) (b_3 : Bool) (σ_3 : Sto) => (bd_ (f_Permits_grantAll h2_1 (-1000000005 : Int32) (b_3 && cK σ_3 h2_1 4) σ_3) (fun (r_4 : Int32) (b_4 : Bool) (σ_4 : Sto) => ((SI σ_4 (SR σ_4 h2_1 6) (ix x1)), ((b_4 && cK σ_4 h2_1 4) && cA σ_4 (SR σ_4 h2_1 6) 21 x1), σ_4))))))))))
set_option maxRecDepth 100000 in
set_option maxHeartbeats 4000000 in
theorem s_Trail_granted : ∀ (h0 : Nat) (x1 : Int32) (b : Bool) (σ : Sto), Snd M_Trail_granted 5 0 0 [vR h0, vI x1] b σ (tI (f_Trail_granted h0 x1 b σ).1) (f_Trail_granted h0 x1 b σ).2.1 (f_Trail_granted h0 x1 b σ).2.2 := by
  intro h0 x1 b σ
  refine Snd_of (tv := tI) (by decide) (Nat.le_of_ble_eq_true rfl) ?_
  show V M_Trail_granted 5 0 0 0 0 tI (f_Trail_granted h0 x1 b σ) 0 [(0, vR h0), (1, vI x1)] [] b σ
  unfold f_Trail_granted
  refine V_aload_n 1 rfl (show decode M_Trail_granted.2.1 0 = .ok (.aload_n 0, 1) by decide +kernel) 0 rfl ?_
  refine V_get (j := 0) (v := vR (SR σ h0 0)) 4 rfl ck_Trail (by decide) (by decide) (show decode M_Trail_granted.2.1 1 = .ok (.getfield 10, 3) by decide +kernel) wd_599 rfl ?_
  refine V_getN (j := 3) (v := vR (SR σ (SR σ h0 0) 3)) 7 rfl ck_World (by decide) (by decide) (show decode M_Trail_granted.2.1 4 = .ok (.getfield 271, 3) by decide +kernel) wd_504 rfl ?_
  refine V_astore_n (fun h2_1 => [(2, vR h2_1), (0, vR h0), (1, vI x1)]) 8 rfl (show decode M_Trail_granted.2.1 7 = .ok (.astore_n 2, 1) by decide +kernel) (by decide) (fun _ => rfl) (fun h2_1 => ?_)
  refine V_aload_n 9 rfl (show decode M_Trail_granted.2.1 8 = .ok (.aload_n 2, 1) by decide +kernel) 0 rfl ?_
  refine V_iload_n 10 rfl (show decode M_Trail_granted.2.1 9 = .ok (.iload_n 1, 1) by decide +kernel) 2 rfl ?_
  refine V_callVN (tb := tI) (as := [vI x1]) (rest := []) (na := 1) 13 rfl ck_Permits (by decide) (s_Permits_hasWish h2_1 x1 (((b && cK σ h0 12) && cK σ (SR σ h0 0) 11) && cK σ h2_1 4) σ) rfl rfl (Nat.le_of_ble_eq_true rfl) (cal_Permits_hasWish _ _ _ _ _ (by decide) (by decide) (by decide)) (show decode M_Trail_granted.2.1 10 = .ok (.invokevirtual 284, 3) by decide +kernel) wd_1271 wd_1273 wd_81 (fun r_2 b_2 σ_2 => ?_)
  show V M_Trail_granted 5 0 0 0 0 tI _ 13 [(2, vR h2_1), (0, vR h0), (1, vI x1)] [vI r_2] b_2 σ_2
  refine V_ifne 16 19 rfl (show decode M_Trail_granted.2.1 13 = .ok (.ifCond .ne 6, 3) by decide +kernel) rfl ?_ ?_
  · skip
    refine V_ldc 18 rfl (show decode M_Trail_granted.2.1 16 = .ok (.ldc 44, 2) by decide +kernel) wd_631 ?_
    exact V_iret rfl (by decide) (by decide) (show decode M_Trail_granted.2.1 18 = .ok (.ireturn, 1) by decide +kernel)
  · skip
    refine V_aload_n 20 rfl (show decode M_Trail_granted.2.1 19 = .ok (.aload_n 2, 1) by decide +kernel) 0 rfl ?_
    refine V_aload_n 21 rfl (show decode M_Trail_granted.2.1 20 = .ok (.aload_n 0, 1) by decide +kernel) 1 rfl ?_
    refine V_get (j := 0) (v := vR (SR σ_2 h0 0)) 24 rfl ck_Trail (by decide) (by decide) (show decode M_Trail_granted.2.1 21 = .ok (.getfield 10, 3) by decide +kernel) wd_599 rfl ?_
    refine V_getN (j := 1) (v := vR (SR σ_2 (SR σ_2 h0 0) 1)) 27 rfl ck_World (by decide) (by decide) (show decode M_Trail_granted.2.1 24 = .ok (.getfield 158, 3) by decide +kernel) wd_500 rfl ?_
    refine V_aload_n 28 rfl (show decode M_Trail_granted.2.1 27 = .ok (.aload_n 0, 1) by decide +kernel) 1 rfl ?_
    refine V_get (j := 0) (v := vR (SR σ_2 h0 0)) 31 rfl ck_Trail (by decide) (by decide) (show decode M_Trail_granted.2.1 28 = .ok (.getfield 10, 3) by decide +kernel) wd_599 rfl ?_
    refine V_getN (j := 8) (v := vI (SI σ_2 (SR σ_2 h0 0) 8)) 34 rfl ck_World (by decide) (by decide) (show decode M_Trail_granted.2.1 31 = .ok (.getfield 138, 3) by decide +kernel) wd_514 rfl ?_
    refine V_callVN (tb := tU) (as := [vR (SR σ_2 (SR σ_2 h0 0) 1), vI (SI σ_2 (SR σ_2 h0 0) 8)]) (rest := []) (na := 2) 37 rfl ck_Permits (by decide) (s_Permits_drawUp h2_1 (SR σ_2 (SR σ_2 h0 0) 1) (SI σ_2 (SR σ_2 h0 0) 8) (((((b_2 && cK σ_2 h0 12) && cK σ_2 (SR σ_2 h0 0) 11) && cK σ_2 h0 12) && cK σ_2 (SR σ_2 h0 0) 11) && cK σ_2 h2_1 4) σ_2) rfl rfl (Nat.le_of_ble_eq_true rfl) (cal_Permits_drawUp _ _ _ _ _ (by decide) (by decide) (by decide)) (show decode M_Trail_granted.2.1 34 = .ok (.invokevirtual 287, 3) by decide +kernel) wd_1276 wd_1278 wd_82 (fun r_3 b_3 σ_3 => ?_)
    show V M_Trail_granted 5 0 0 0 0 tI _ 37 [(2, vR h2_1), (0, vR h0), (1, vI x1)] [] b_3 σ_3
    refine V_aload_n 38 rfl (show decode M_Trail_granted.2.1 37 = .ok (.aload_n 2, 1) by decide +kernel) 0 rfl ?_
    refine V_ldc 40 rfl (show decode M_Trail_granted.2.1 38 = .ok (.ldc 123, 2) by decide +kernel) wd_706 ?_
    refine V_callVN (tb := tI) (as := [vI (-1000000005 : Int32)]) (rest := []) (na := 1) 43 rfl ck_Permits (by decide) (s_Permits_grantAll h2_1 (-1000000005 : Int32) (b_3 && cK σ_3 h2_1 4) σ_3) rfl rfl (Nat.le_of_ble_eq_true rfl) (cal_Permits_grantAll _ _ _ _ _ (by decide) (by decide) (by decide)) (show decode M_Trail_granted.2.1 40 = .ok (.invokevirtual 291, 3) by decide +kernel) wd_1286 wd_1288 wd_84 (fun r_4 b_4 σ_4 => ?_)
    show V M_Trail_granted 5 0 0 0 0 tI _ 43 [(2, vR h2_1), (0, vR h0), (1, vI x1)] [vI r_4] b_4 σ_4
    refine V_pop 44 rfl (show decode M_Trail_granted.2.1 43 = .ok (.pop, 1) by decide +kernel) rfl ?_
    refine V_aload_n 45 rfl (show decode M_Trail_granted.2.1 44 = .ok (.aload_n 2, 1) by decide +kernel) 0 rfl ?_
    refine V_getN (j := 6) (v := vR (SR σ_4 h2_1 6)) 48 rfl ck_Permits (by decide) (by decide) (show decode M_Trail_granted.2.1 45 = .ok (.getfield 294, 3) by decide +kernel) wd_337 rfl ?_
    refine V_iload_n 49 rfl (show decode M_Trail_granted.2.1 48 = .ok (.iload_n 1, 1) by decide +kernel) 2 rfl ?_
    refine V_ald_int 50 rfl (show decode M_Trail_granted.2.1 49 = .ok (.iaload, 1) by decide +kernel) ?_
    exact V_iret rfl (by decide) (by decide) (show decode M_Trail_granted.2.1 50 = .ok (.ireturn, 1) by decide +kernel)
theorem cal_Trail_granted (d mc ms k n : Nat) (h1 : 5 + 1 ≤ d) (h2 : k + 0 ≤ mc) (h3 : n + 0 ≤ ms) : Cal M_Trail_granted 5 0 0 1 d mc ms k n := ⟨wd_1270, wd_170, by decide, h1, by decide, h2, h3⟩
abbrev M_Post_openOf : MD := (⟨"LongTrail$Post", "openOf", "(I)I"⟩, prog_6_method_8_code, 4, (some FieldType.int))
def b_Post_openOf_4 (h0 : Nat) (x1 : Int32) (L4 : Int32 → Int32 → Bool → Sto → Rs Int32) (x2 : Int32) (x3 : Int32) (b : Bool) (σ : Sto) : Rs Int32 := (if x3 < (SI σ h0 5) then (bd_ (f_Post_isOpenFor h0 x3 x1 ((b && cK σ h0 5) && cK σ h0 5) σ) (fun (r_3 : Int32) (b_3 : Bool) (σ_3 : Sto) => (lt_ (fun (s0_27 : Int32) (s1_27 : Int32) (b : Bool) (σ : Sto) => (lt_ (s1_27 + s0_27) (fun (x2_4 : Int32) => (lt_ (x3 + (1 : Int32)) (fun (x3_5 : Int32) => (L4 x2_4 x3_5 b σ)))))) (fun J27 => (if r_3 = 0 then (J27 (0 : Int32) x2 b_3 σ_3) else (J27 (1 : Int32) x2 b_3 σ_3)))))) else (x2, (b && cK σ h0 5), σ))
def f_Post_openOf (h0 : Nat) (x1 : Int32) (b : Bool) (σ : Sto) : Rs Int32 := (lt_ (0 : Int32) (fun (x2_1 : Int32) => (lt_ (0 : Int32) (fun (x3_2 : Int32) => (lp_ (b_Post_openOf_4 h0 x1) (fun (x2 : Int32) (x3 : Int32) (b : Bool) (σ : Sto) => (0, false, σ)) fuel_ x2_1 x3_2 b σ)))))
set_option maxRecDepth 100000 in
set_option maxHeartbeats 4000000 in
theorem s_Post_openOf : ∀ (h0 : Nat) (x1 : Int32) (b : Bool) (σ : Sto), Snd M_Post_openOf 2 0 0 [vR h0, vI x1] b σ (tI (f_Post_openOf h0 x1 b σ).1) (f_Post_openOf h0 x1 b σ).2.1 (f_Post_openOf h0 x1 b σ).2.2 := by
  intro h0 x1 b σ
  refine Snd_of (tv := tI) (by decide) (Nat.le_of_ble_eq_true rfl) ?_
  show V M_Post_openOf 2 0 0 0 0 tI (f_Post_openOf h0 x1 b σ) 0 [(0, vR h0), (1, vI x1)] [] b σ
  unfold f_Post_openOf
  refine V_iconst 1 rfl (show decode M_Post_openOf.2.1 0 = .ok (.iconst 0, 1) by decide +kernel) (v := 0) rfl ?_
  refine V_istore_n (fun x2_1 => [(2, vI x2_1), (0, vR h0), (1, vI x1)]) 2 rfl (show decode M_Post_openOf.2.1 1 = .ok (.istore_n 2, 1) by decide +kernel) (by decide) (fun _ => rfl) (fun x2_1 => ?_)
  refine V_iconst 3 rfl (show decode M_Post_openOf.2.1 2 = .ok (.iconst 0, 1) by decide +kernel) (v := 0) rfl ?_
  refine V_istore_n (fun x3_2 => [(3, vI x3_2), (2, vI x2_1), (0, vR h0), (1, vI x1)]) 4 rfl (show decode M_Post_openOf.2.1 3 = .ok (.istore_n 3, 1) by decide +kernel) (by decide) (fun _ => rfl) (fun x3_2 => ?_)
  refine V_sub [2, 3, 1, 0] rfl ?_
  refine lp_P (fun (L4 : Int32 → Int32 → Bool → Sto → Rs Int32) => ∀ (x2 : Int32) (x3 : Int32) (b : Bool) (σ : Sto), V M_Post_openOf 2 0 0 0 0 tI (L4 x2 x3 b σ) 4 [(0, vR h0), (1, vI x1), (2, vI x2), (3, vI x3)] [] b σ) ?_ ?_ fuel_ x2_1 x3_2 b σ
  · intro x2 x3 b σ; exact V_bad
  · intro L4 hL4 x2 x3 b σ
    unfold b_Post_openOf_4
    refine V_iload_n 5 rfl (show decode M_Post_openOf.2.1 4 = .ok (.iload_n 3, 1) by decide +kernel) 3 rfl ?_
    refine V_aload_n 6 rfl (show decode M_Post_openOf.2.1 5 = .ok (.aload_n 0, 1) by decide +kernel) 0 rfl ?_
    refine V_get (j := 5) (v := vI (SI σ h0 5)) 9 rfl ck_Post (by decide) (by decide) (show decode M_Post_openOf.2.1 6 = .ok (.getfield 31, 3) by decide +kernel) wd_307 rfl ?_
    refine V_icmpge 12 35 rfl (show decode M_Post_openOf.2.1 9 = .ok (.if_icmp .ge 26, 3) by decide +kernel) rfl ?_ ?_
    · skip
      refine V_iload_n 13 rfl (show decode M_Post_openOf.2.1 12 = .ok (.iload_n 2, 1) by decide +kernel) 2 rfl ?_
      refine V_aload_n 14 rfl (show decode M_Post_openOf.2.1 13 = .ok (.aload_n 0, 1) by decide +kernel) 0 rfl ?_
      refine V_iload_n 15 rfl (show decode M_Post_openOf.2.1 14 = .ok (.iload_n 3, 1) by decide +kernel) 3 rfl ?_
      refine V_iload_n 16 rfl (show decode M_Post_openOf.2.1 15 = .ok (.iload_n 1, 1) by decide +kernel) 1 rfl ?_
      refine V_callV (tb := tI) (as := [vI x3, vI x1]) (rest := [vI x2]) (na := 2) 19 rfl ck_Post (by decide) (s_Post_isOpenFor h0 x3 x1 ((b && cK σ h0 5) && cK σ h0 5) σ) rfl rfl (Nat.le_of_ble_eq_true rfl) (cal_Post_isOpenFor _ _ _ _ _ (by decide) (by decide) (by decide)) (show decode M_Post_openOf.2.1 16 = .ok (.invokevirtual 41, 3) by decide +kernel) wd_1025 wd_1027 wd_37 (fun r_3 b_3 σ_3 => ?_)
      show V M_Post_openOf 2 0 0 0 0 tI _ 19 [(0, vR h0), (1, vI x1), (2, vI x2), (3, vI x3)] [vI r_3, vI x2] b_3 σ_3
      refine V_jn (fun (J27 : Int32 → Int32 → Bool → Sto → Rs Int32) => ∀ (s0_27 : Int32) (s1_27 : Int32) (b : Bool) (σ : Sto), V M_Post_openOf 2 0 0 0 0 tI (J27 s0_27 s1_27 b σ) 27 [(0, vR h0), (1, vI x1), (3, vI x3)] [vI s0_27, vI s1_27] b σ) ?_ (fun J27 hJ27 => ?_)
      · intro s0_27 s1_27 b σ
        refine V_iadd 28 rfl (show decode M_Post_openOf.2.1 27 = .ok (.iadd, 1) by decide +kernel) ?_
        refine V_istore_n (fun x2_4 => [(2, vI x2_4), (0, vR h0), (1, vI x1), (3, vI x3)]) 29 rfl (show decode M_Post_openOf.2.1 28 = .ok (.istore_n 2, 1) by decide +kernel) (by decide) (fun _ => rfl) (fun x2_4 => ?_)
        refine V_iinc (fun x3_5 => [(3, vI x3_5), (2, vI x2_4), (0, vR h0), (1, vI x1)]) 32 rfl (show decode M_Post_openOf.2.1 29 = .ok (.iinc 3 1, 3) by decide +kernel) 3 rfl (w := 1) rfl (by decide) (fun _ => rfl) (fun x3_5 => ?_)
        refine V_goto 4 (show decode M_Post_openOf.2.1 32 = .ok (.goto (-28), 3) by decide +kernel) rfl ?_
        exact V_sub [2, 3, 1, 0] rfl (hL4 x2_4 x3_5 b σ)
      · skip
        refine V_ifeq 22 26 rfl (show decode M_Post_openOf.2.1 19 = .ok (.ifCond .eq 7, 3) by decide +kernel) rfl ?_ ?_
        · skip
          refine V_iconst 27 rfl (show decode M_Post_openOf.2.1 26 = .ok (.iconst 0, 1) by decide +kernel) (v := 0) rfl ?_
          exact V_sub [0, 1, 3] rfl (hJ27 (0 : Int32) x2 b_3 σ_3)
        · skip
          refine V_iconst 23 rfl (show decode M_Post_openOf.2.1 22 = .ok (.iconst 1, 1) by decide +kernel) (v := 1) rfl ?_
          refine V_goto 27 (show decode M_Post_openOf.2.1 23 = .ok (.goto 4, 3) by decide +kernel) rfl ?_
          exact V_sub [0, 1, 3] rfl (hJ27 (1 : Int32) x2 b_3 σ_3)
    · skip
      refine V_iload_n 36 rfl (show decode M_Post_openOf.2.1 35 = .ok (.iload_n 2, 1) by decide +kernel) 2 rfl ?_
      exact V_iret rfl (by decide) (by decide) (show decode M_Post_openOf.2.1 36 = .ok (.ireturn, 1) by decide +kernel)
theorem cal_Post_openOf (d mc ms k n : Nat) (h1 : 2 + 1 ≤ d) (h2 : k + 0 ≤ mc) (h3 : n + 0 ≤ ms) : Cal M_Post_openOf 2 0 0 1 d mc ms k n := ⟨wd_1024, wd_174, by decide, h1, by decide, h2, h3⟩
abbrev M_Walker_toldOf : MD := (⟨"LongTrail$Walker", "toldOf", "(I)I"⟩, prog_11_method_4_code, 2, (some FieldType.int))
def f_Walker_toldOf (h0 : Nat) (x1 : Int32) (b : Bool) (σ : Sto) : Rs Int32 := (if x1 = (0 : Int32) then ((SI σ h0 5), (b && cK σ h0 10), σ) else (if x1 = (1 : Int32) then ((SI σ h0 6), (b && cK σ h0 10), σ) else (if x1 = (2 : Int32) then ((SI σ h0 1), (b && cK σ h0 10), σ) else (if x1 = (3 : Int32) then ((SI σ h0 7), (b && cK σ h0 10), σ) else (if x1 = (4 : Int32) then ((SI σ h0 8), (b && cK σ h0 10), σ) else (if x1 = (5 : Int32) then ((SI σ h0 9), (b && cK σ h0 10), σ) else (if x1 = (6 : Int32) then ((SI σ h0 10), (b && cK σ h0 10), σ) else (if x1 = (7 : Int32) then ((SI σ h0 11), (b && cK σ h0 10), σ) else (if x1 = (8 : Int32) then ((SI σ h0 12), (b && cK σ h0 10), σ) else (if x1 = (9 : Int32) then ((SI σ h0 13), (b && cK σ h0 10), σ) else (if x1 = (10 : Int32) then ((SI σ h0 14), (b && cK σ h0 10), σ) else (if x1 = (11 : Int32) then ((SI σ h0 15), (b && cK σ h0 10), σ) else (if x1 = (12 : Int32) then ((SI σ h0 16), (b && cK σ h0 10), σ) else ((SI σ h0 17), (b && cK σ h0 10), σ))))))))))))))
set_option maxRecDepth 100000 in
set_option maxHeartbeats 4000000 in
theorem s_Walker_toldOf : ∀ (h0 : Nat) (x1 : Int32) (b : Bool) (σ : Sto), Snd M_Walker_toldOf 1 0 0 [vR h0, vI x1] b σ (tI (f_Walker_toldOf h0 x1 b σ).1) (f_Walker_toldOf h0 x1 b σ).2.1 (f_Walker_toldOf h0 x1 b σ).2.2 := by
  intro h0 x1 b σ
  refine Snd_of (tv := tI) (by decide) (Nat.le_of_ble_eq_true rfl) ?_
  show V M_Walker_toldOf 1 0 0 0 0 tI (f_Walker_toldOf h0 x1 b σ) 0 [(0, vR h0), (1, vI x1)] [] b σ
  unfold f_Walker_toldOf
  refine V_iload_n 1 rfl (show decode M_Walker_toldOf.2.1 0 = .ok (.iload_n 1, 1) by decide +kernel) 1 rfl ?_
  refine V_ite (fun hs1_0 => ?_) (fun hs1_0 => ?_)
  · refine V_tswIn (off := 67) 68 (show decode M_Walker_toldOf.2.1 1 = .ok (.tableswitch 132 0 12 #[67, 72, 77, 82, 87, 92, 97, 102, 107, 112, 117, 122, 127], 67) by decide +kernel) (by rw [hs1_0]; decide) (by rw [hs1_0]; decide) (by rw [hs1_0]; decide) rfl ?_
    refine V_aload_n 69 rfl (show decode M_Walker_toldOf.2.1 68 = .ok (.aload_n 0, 1) by decide +kernel) 0 rfl ?_
    refine V_get (j := 5) (v := vI (SI σ h0 5)) 72 rfl ck_Walker (by decide) (by decide) (show decode M_Walker_toldOf.2.1 69 = .ok (.getfield 25, 3) by decide +kernel) wd_430 rfl ?_
    exact V_iret rfl (by decide) (by decide) (show decode M_Walker_toldOf.2.1 72 = .ok (.ireturn, 1) by decide +kernel)
  refine V_ite (fun hs1_1 => ?_) (fun hs1_1 => ?_)
  · refine V_tswIn (off := 72) 73 (show decode M_Walker_toldOf.2.1 1 = .ok (.tableswitch 132 0 12 #[67, 72, 77, 82, 87, 92, 97, 102, 107, 112, 117, 122, 127], 67) by decide +kernel) (by rw [hs1_1]; decide) (by rw [hs1_1]; decide) (by rw [hs1_1]; decide) rfl ?_
    refine V_aload_n 74 rfl (show decode M_Walker_toldOf.2.1 73 = .ok (.aload_n 0, 1) by decide +kernel) 0 rfl ?_
    refine V_get (j := 6) (v := vI (SI σ h0 6)) 77 rfl ck_Walker (by decide) (by decide) (show decode M_Walker_toldOf.2.1 74 = .ok (.getfield 28, 3) by decide +kernel) wd_433 rfl ?_
    exact V_iret rfl (by decide) (by decide) (show decode M_Walker_toldOf.2.1 77 = .ok (.ireturn, 1) by decide +kernel)
  refine V_ite (fun hs1_2 => ?_) (fun hs1_2 => ?_)
  · refine V_tswIn (off := 77) 78 (show decode M_Walker_toldOf.2.1 1 = .ok (.tableswitch 132 0 12 #[67, 72, 77, 82, 87, 92, 97, 102, 107, 112, 117, 122, 127], 67) by decide +kernel) (by rw [hs1_2]; decide) (by rw [hs1_2]; decide) (by rw [hs1_2]; decide) rfl ?_
    refine V_aload_n 79 rfl (show decode M_Walker_toldOf.2.1 78 = .ok (.aload_n 0, 1) by decide +kernel) 0 rfl ?_
    refine V_get (j := 1) (v := vI (SI σ h0 1)) 82 rfl ck_Walker (by decide) (by decide) (show decode M_Walker_toldOf.2.1 79 = .ok (.getfield 13, 3) by decide +kernel) wd_425 rfl ?_
    exact V_iret rfl (by decide) (by decide) (show decode M_Walker_toldOf.2.1 82 = .ok (.ireturn, 1) by decide +kernel)
  refine V_ite (fun hs1_3 => ?_) (fun hs1_3 => ?_)
  · refine V_tswIn (off := 82) 83 (show decode M_Walker_toldOf.2.1 1 = .ok (.tableswitch 132 0 12 #[67, 72, 77, 82, 87, 92, 97, 102, 107, 112, 117, 122, 127], 67) by decide +kernel) (by rw [hs1_3]; decide) (by rw [hs1_3]; decide) (by rw [hs1_3]; decide) rfl ?_
    refine V_aload_n 84 rfl (show decode M_Walker_toldOf.2.1 83 = .ok (.aload_n 0, 1) by decide +kernel) 0 rfl ?_
    refine V_get (j := 7) (v := vI (SI σ h0 7)) 87 rfl ck_Walker (by decide) (by decide) (show decode M_Walker_toldOf.2.1 84 = .ok (.getfield 31, 3) by decide +kernel) wd_436 rfl ?_
    exact V_iret rfl (by decide) (by decide) (show decode M_Walker_toldOf.2.1 87 = .ok (.ireturn, 1) by decide +kernel)
  refine V_ite (fun hs1_4 => ?_) (fun hs1_4 => ?_)
  · refine V_tswIn (off := 87) 88 (show decode M_Walker_toldOf.2.1 1 = .ok (.tableswitch 132 0 12 #[67, 72, 77, 82, 87, 92, 97, 102, 107, 112, 117, 122, 127], 67) by decide +kernel) (by rw [hs1_4]; decide) (by rw [hs1_4]; decide) (by rw [hs1_4]; decide) rfl ?_
    refine V_aload_n 89 rfl (show decode M_Walker_toldOf.2.1 88 = .ok (.aload_n 0, 1) by decide +kernel) 0 rfl ?_
    refine V_get (j := 8) (v := vI (SI σ h0 8)) 92 rfl ck_Walker (by decide) (by decide) (show decode M_Walker_toldOf.2.1 89 = .ok (.getfield 34, 3) by decide +kernel) wd_439 rfl ?_
    exact V_iret rfl (by decide) (by decide) (show decode M_Walker_toldOf.2.1 92 = .ok (.ireturn, 1) by decide +kernel)
  refine V_ite (fun hs1_5 => ?_) (fun hs1_5 => ?_)
  · refine V_tswIn (off := 92) 93 (show decode M_Walker_toldOf.2.1 1 = .ok (.tableswitch 132 0 12 #[67, 72, 77, 82, 87, 92, 97, 102, 107, 112, 117, 122, 127], 67) by decide +kernel) (by rw [hs1_5]; decide) (by rw [hs1_5]; decide) (by rw [hs1_5]; decide) rfl ?_
    refine V_aload_n 94 rfl (show decode M_Walker_toldOf.2.1 93 = .ok (.aload_n 0, 1) by decide +kernel) 0 rfl ?_
    refine V_get (j := 9) (v := vI (SI σ h0 9)) 97 rfl ck_Walker (by decide) (by decide) (show decode M_Walker_toldOf.2.1 94 = .ok (.getfield 37, 3) by decide +kernel) wd_441 rfl ?_
    exact V_iret rfl (by decide) (by decide) (show decode M_Walker_toldOf.2.1 97 = .ok (.ireturn, 1) by decide +kernel)
  refine V_ite (fun hs1_6 => ?_) (fun hs1_6 => ?_)
  · refine V_tswIn (off := 97) 98 (show decode M_Walker_toldOf.2.1 1 = .ok (.tableswitch 132 0 12 #[67, 72, 77, 82, 87, 92, 97, 102, 107, 112, 117, 122, 127], 67) by decide +kernel) (by rw [hs1_6]; decide) (by rw [hs1_6]; decide) (by rw [hs1_6]; decide) rfl ?_
    refine V_aload_n 99 rfl (show decode M_Walker_toldOf.2.1 98 = .ok (.aload_n 0, 1) by decide +kernel) 0 rfl ?_
    refine V_get (j := 10) (v := vI (SI σ h0 10)) 102 rfl ck_Walker (by decide) (by decide) (show decode M_Walker_toldOf.2.1 99 = .ok (.getfield 40, 3) by decide +kernel) wd_443 rfl ?_
    exact V_iret rfl (by decide) (by decide) (show decode M_Walker_toldOf.2.1 102 = .ok (.ireturn, 1) by decide +kernel)
  refine V_ite (fun hs1_7 => ?_) (fun hs1_7 => ?_)
  · refine V_tswIn (off := 102) 103 (show decode M_Walker_toldOf.2.1 1 = .ok (.tableswitch 132 0 12 #[67, 72, 77, 82, 87, 92, 97, 102, 107, 112, 117, 122, 127], 67) by decide +kernel) (by rw [hs1_7]; decide) (by rw [hs1_7]; decide) (by rw [hs1_7]; decide) rfl ?_
    refine V_aload_n 104 rfl (show decode M_Walker_toldOf.2.1 103 = .ok (.aload_n 0, 1) by decide +kernel) 0 rfl ?_
    refine V_get (j := 11) (v := vI (SI σ h0 11)) 107 rfl ck_Walker (by decide) (by decide) (show decode M_Walker_toldOf.2.1 104 = .ok (.getfield 43, 3) by decide +kernel) wd_444 rfl ?_
    exact V_iret rfl (by decide) (by decide) (show decode M_Walker_toldOf.2.1 107 = .ok (.ireturn, 1) by decide +kernel)
  refine V_ite (fun hs1_8 => ?_) (fun hs1_8 => ?_)
  · refine V_tswIn (off := 107) 108 (show decode M_Walker_toldOf.2.1 1 = .ok (.tableswitch 132 0 12 #[67, 72, 77, 82, 87, 92, 97, 102, 107, 112, 117, 122, 127], 67) by decide +kernel) (by rw [hs1_8]; decide) (by rw [hs1_8]; decide) (by rw [hs1_8]; decide) rfl ?_
    refine V_aload_n 109 rfl (show decode M_Walker_toldOf.2.1 108 = .ok (.aload_n 0, 1) by decide +kernel) 0 rfl ?_
    refine V_get (j := 12) (v := vI (SI σ h0 12)) 112 rfl ck_Walker (by decide) (by decide) (show decode M_Walker_toldOf.2.1 109 = .ok (.getfield 46, 3) by decide +kernel) wd_446 rfl ?_
    exact V_iret rfl (by decide) (by decide) (show decode M_Walker_toldOf.2.1 112 = .ok (.ireturn, 1) by decide +kernel)
  refine V_ite (fun hs1_9 => ?_) (fun hs1_9 => ?_)
  · refine V_tswIn (off := 112) 113 (show decode M_Walker_toldOf.2.1 1 = .ok (.tableswitch 132 0 12 #[67, 72, 77, 82, 87, 92, 97, 102, 107, 112, 117, 122, 127], 67) by decide +kernel) (by rw [hs1_9]; decide) (by rw [hs1_9]; decide) (by rw [hs1_9]; decide) rfl ?_
    refine V_aload_n 114 rfl (show decode M_Walker_toldOf.2.1 113 = .ok (.aload_n 0, 1) by decide +kernel) 0 rfl ?_
    refine V_get (j := 13) (v := vI (SI σ h0 13)) 117 rfl ck_Walker (by decide) (by decide) (show decode M_Walker_toldOf.2.1 114 = .ok (.getfield 49, 3) by decide +kernel) wd_449 rfl ?_
    exact V_iret rfl (by decide) (by decide) (show decode M_Walker_toldOf.2.1 117 = .ok (.ireturn, 1) by decide +kernel)
  refine V_ite (fun hs1_10 => ?_) (fun hs1_10 => ?_)
  · refine V_tswIn (off := 117) 118 (show decode M_Walker_toldOf.2.1 1 = .ok (.tableswitch 132 0 12 #[67, 72, 77, 82, 87, 92, 97, 102, 107, 112, 117, 122, 127], 67) by decide +kernel) (by rw [hs1_10]; decide) (by rw [hs1_10]; decide) (by rw [hs1_10]; decide) rfl ?_
    refine V_aload_n 119 rfl (show decode M_Walker_toldOf.2.1 118 = .ok (.aload_n 0, 1) by decide +kernel) 0 rfl ?_
    refine V_get (j := 14) (v := vI (SI σ h0 14)) 122 rfl ck_Walker (by decide) (by decide) (show decode M_Walker_toldOf.2.1 119 = .ok (.getfield 52, 3) by decide +kernel) wd_452 rfl ?_
    exact V_iret rfl (by decide) (by decide) (show decode M_Walker_toldOf.2.1 122 = .ok (.ireturn, 1) by decide +kernel)
  refine V_ite (fun hs1_11 => ?_) (fun hs1_11 => ?_)
  · refine V_tswIn (off := 122) 123 (show decode M_Walker_toldOf.2.1 1 = .ok (.tableswitch 132 0 12 #[67, 72, 77, 82, 87, 92, 97, 102, 107, 112, 117, 122, 127], 67) by decide +kernel) (by rw [hs1_11]; decide) (by rw [hs1_11]; decide) (by rw [hs1_11]; decide) rfl ?_
    refine V_aload_n 124 rfl (show decode M_Walker_toldOf.2.1 123 = .ok (.aload_n 0, 1) by decide +kernel) 0 rfl ?_
    refine V_get (j := 15) (v := vI (SI σ h0 15)) 127 rfl ck_Walker (by decide) (by decide) (show decode M_Walker_toldOf.2.1 124 = .ok (.getfield 55, 3) by decide +kernel) wd_454 rfl ?_
    exact V_iret rfl (by decide) (by decide) (show decode M_Walker_toldOf.2.1 127 = .ok (.ireturn, 1) by decide +kernel)
  refine V_ite (fun hs1_12 => ?_) (fun hs1_12 => ?_)
  · refine V_tswIn (off := 127) 128 (show decode M_Walker_toldOf.2.1 1 = .ok (.tableswitch 132 0 12 #[67, 72, 77, 82, 87, 92, 97, 102, 107, 112, 117, 122, 127], 67) by decide +kernel) (by rw [hs1_12]; decide) (by rw [hs1_12]; decide) (by rw [hs1_12]; decide) rfl ?_
    refine V_aload_n 129 rfl (show decode M_Walker_toldOf.2.1 128 = .ok (.aload_n 0, 1) by decide +kernel) 0 rfl ?_
    refine V_get (j := 16) (v := vI (SI σ h0 16)) 132 rfl ck_Walker (by decide) (by decide) (show decode M_Walker_toldOf.2.1 129 = .ok (.getfield 58, 3) by decide +kernel) wd_456 rfl ?_
    exact V_iret rfl (by decide) (by decide) (show decode M_Walker_toldOf.2.1 132 = .ok (.ireturn, 1) by decide +kernel)
  · refine V_tswD 133 (show decode M_Walker_toldOf.2.1 1 = .ok (.tableswitch 132 0 12 #[67, 72, 77, 82, 87, 92, 97, 102, 107, 112, 117, 122, 127], 67) by decide +kernel) rfl (by decide) ?_ ?_
    · intro z hz hz2
      have hm : z = 0 ∨ z = 1 ∨ z = 2 ∨ z = 3 ∨ z = 4 ∨ z = 5 ∨ z = 6 ∨ z = 7 ∨ z = 8 ∨ z = 9 ∨ z = 10 ∨ z = 11 ∨ z = 12 := by simp at hz2; omega
      rcases hm with rfl | rfl | rfl | rfl | rfl | rfl | rfl | rfl | rfl | rfl | rfl | rfl | rfl
      · exact absurd (Int32.toInt_inj.mp (hz.trans (by decide))) hs1_0
      · exact absurd (Int32.toInt_inj.mp (hz.trans (by decide))) hs1_1
      · exact absurd (Int32.toInt_inj.mp (hz.trans (by decide))) hs1_2
      · exact absurd (Int32.toInt_inj.mp (hz.trans (by decide))) hs1_3
      · exact absurd (Int32.toInt_inj.mp (hz.trans (by decide))) hs1_4
      · exact absurd (Int32.toInt_inj.mp (hz.trans (by decide))) hs1_5
      · exact absurd (Int32.toInt_inj.mp (hz.trans (by decide))) hs1_6
      · exact absurd (Int32.toInt_inj.mp (hz.trans (by decide))) hs1_7
      · exact absurd (Int32.toInt_inj.mp (hz.trans (by decide))) hs1_8
      · exact absurd (Int32.toInt_inj.mp (hz.trans (by decide))) hs1_9
      · exact absurd (Int32.toInt_inj.mp (hz.trans (by decide))) hs1_10
      · exact absurd (Int32.toInt_inj.mp (hz.trans (by decide))) hs1_11
      · exact absurd (Int32.toInt_inj.mp (hz.trans (by decide))) hs1_12
    · skip
      refine V_aload_n 134 rfl (show decode M_Walker_toldOf.2.1 133 = .ok (.aload_n 0, 1) by decide +kernel) 0 rfl ?_
      refine V_get (j := 17) (v := vI (SI σ h0 17)) 137 rfl ck_Walker (by decide) (by decide) (show decode M_Walker_toldOf.2.1 134 = .ok (.getfield 61, 3) by decide +kernel) wd_458 rfl ?_
      exact V_iret rfl (by decide) (by decide) (show decode M_Walker_toldOf.2.1 137 = .ok (.ireturn, 1) by decide +kernel)
theorem cal_Walker_toldOf (d mc ms k n : Nat) (h1 : 1 + 1 ≤ d) (h2 : k + 0 ≤ mc) (h3 : n + 0 ≤ ms) : Cal M_Walker_toldOf 1 0 0 1 d mc ms k n := ⟨wd_1032, wd_178, by decide, h1, by decide, h2, h3⟩
abbrev M_Trail_is : MD := (⟨"LongTrail", "is", "(II)I"⟩, prog_1_method_18_code, 3, (some FieldType.int))
def f_Trail_is (h0 : Nat) (x1 : Int32) (x2 : Int32) (b : Bool) (σ : Sto) : Rs Int32 := (bd_ (f_World_hasWalker (SR σ h0 0) x1 ((b && cK σ h0 12) && cK σ (SR σ h0 0) 11) σ) (fun (r_1 : Int32) (b_1 : Bool) (σ_1 : Sto) => (lt_ (fun (b : Bool) (σ : Sto) => ((-1000000001 : Int32), b, σ)) (fun J21 => (if r_1 = 0 then (J21 b_1 σ_1) else (bd_ (f_Trail_within x2 (0 : Int32) (14 : Int32) b_1 σ_1) (fun (r_2 : Int32) (b_2 : Bool) (σ_2 : Sto) => (if r_2 = 0 then (J21 b_2 σ_2) else (if (13 : Int32) < x2 then (bd_ (f_Post_openOf (SR σ_2 (SR σ_2 h0 0) 2) x1 (((b_2 && cK σ_2 h0 12) && cK σ_2 (SR σ_2 h0 0) 11) && cK σ_2 (SR σ_2 (SR σ_2 h0 0) 2) 5) σ_2) (fun (r_3 : Int32) (b_3 : Bool) (σ_3 : Sto) => (r_3, b_3, σ_3))) else (bd_ (f_Walker_toldOf (SR σ_2 (SR σ_2 (SR σ_2 h0 0) 6) (ix x1)) x2 ((((b_2 && cK σ_2 h0 12) && cK σ_2 (SR σ_2 h0 0) 11) && cA σ_2 (SR σ_2 (SR σ_2 h0 0) 6) 26 x1) && cK σ_2 (SR σ_2 (SR σ_2 (SR σ_2 h0 0) 6) (ix x1)) 10) σ_2) (fun (r_4 : Int32) (b_4 : Bool) (σ_4 : Sto) => (r_4, b_4, σ_4))))))))))))
set_option maxRecDepth 100000 in
set_option maxHeartbeats 4000000 in
theorem s_Trail_is : ∀ (h0 : Nat) (x1 : Int32) (x2 : Int32) (b : Bool) (σ : Sto), Snd M_Trail_is 3 0 0 [vR h0, vI x1, vI x2] b σ (tI (f_Trail_is h0 x1 x2 b σ).1) (f_Trail_is h0 x1 x2 b σ).2.1 (f_Trail_is h0 x1 x2 b σ).2.2 := by
  intro h0 x1 x2 b σ
  refine Snd_of (tv := tI) (by decide) (Nat.le_of_ble_eq_true rfl) ?_
  show V M_Trail_is 3 0 0 0 0 tI (f_Trail_is h0 x1 x2 b σ) 0 [(0, vR h0), (1, vI x1), (2, vI x2)] [] b σ
  unfold f_Trail_is
  refine V_aload_n 1 rfl (show decode M_Trail_is.2.1 0 = .ok (.aload_n 0, 1) by decide +kernel) 0 rfl ?_
  refine V_get (j := 0) (v := vR (SR σ h0 0)) 4 rfl ck_Trail (by decide) (by decide) (show decode M_Trail_is.2.1 1 = .ok (.getfield 10, 3) by decide +kernel) wd_599 rfl ?_
  refine V_iload_n 5 rfl (show decode M_Trail_is.2.1 4 = .ok (.iload_n 1, 1) by decide +kernel) 1 rfl ?_
  refine V_callVN (tb := tI) (as := [vI x1]) (rest := []) (na := 1) 8 rfl ck_World (by decide) (s_World_hasWalker (SR σ h0 0) x1 ((b && cK σ h0 12) && cK σ (SR σ h0 0) 11) σ) rfl rfl (Nat.le_of_ble_eq_true rfl) (cal_World_hasWalker _ _ _ _ _ (by decide) (by decide) (by decide)) (show decode M_Trail_is.2.1 5 = .ok (.invokevirtual 202, 3) by decide +kernel) wd_1016 wd_1018 wd_35 (fun r_1 b_1 σ_1 => ?_)
  show V M_Trail_is 3 0 0 0 0 tI _ 8 [(0, vR h0), (1, vI x1), (2, vI x2)] [vI r_1] b_1 σ_1
  refine V_jn (fun (J21 : Bool → Sto → Rs Int32) => ∀ (b : Bool) (σ : Sto), V M_Trail_is 3 0 0 0 0 tI (J21 b σ) 21 [] [] b σ) ?_ (fun J21 hJ21 => ?_)
  · intro b σ
    refine V_ldc 23 rfl (show decode M_Trail_is.2.1 21 = .ok (.ldc 44, 2) by decide +kernel) wd_631 ?_
    exact V_iret rfl (by decide) (by decide) (show decode M_Trail_is.2.1 23 = .ok (.ireturn, 1) by decide +kernel)
  · skip
    refine V_ifeq 11 21 rfl (show decode M_Trail_is.2.1 8 = .ok (.ifCond .eq 13, 3) by decide +kernel) rfl ?_ ?_
    · skip
      exact V_sub [] rfl (hJ21 b_1 σ_1)
    · skip
      refine V_iload_n 12 rfl (show decode M_Trail_is.2.1 11 = .ok (.iload_n 2, 1) by decide +kernel) 2 rfl ?_
      refine V_iconst 13 rfl (show decode M_Trail_is.2.1 12 = .ok (.iconst 0, 1) by decide +kernel) (v := 0) rfl ?_
      refine V_bipush 15 rfl (show decode M_Trail_is.2.1 13 = .ok (.bipush 14, 2) by decide +kernel) (v := 14) rfl ?_
      refine V_callS (tb := tI) (as := [vI x2, vI (0 : Int32), vI (14 : Int32)]) (rest := []) (na := 3) 18 rfl (s_Trail_within x2 (0 : Int32) (14 : Int32) b_1 σ_1) rfl rfl (Nat.le_of_ble_eq_true rfl) (cal_Trail_within _ _ _ _ _ (by decide) (by decide) (by decide)) (show decode M_Trail_is.2.1 15 = .ok (.invokestatic 40, 3) by decide +kernel) wd_628 wd_629 (fun r_2 b_2 σ_2 => ?_)
      show V M_Trail_is 3 0 0 0 0 tI _ 18 [(0, vR h0), (1, vI x1), (2, vI x2)] [vI r_2] b_2 σ_2
      refine V_ifne 21 24 rfl (show decode M_Trail_is.2.1 18 = .ok (.ifCond .ne 6, 3) by decide +kernel) rfl ?_ ?_
      · skip
        exact V_sub [] rfl (hJ21 b_2 σ_2)
      · skip
        refine V_iload_n 25 rfl (show decode M_Trail_is.2.1 24 = .ok (.iload_n 2, 1) by decide +kernel) 2 rfl ?_
        refine V_bipush 27 rfl (show decode M_Trail_is.2.1 25 = .ok (.bipush 13, 2) by decide +kernel) (v := 13) rfl ?_
        refine V_icmple 30 44 rfl (show decode M_Trail_is.2.1 27 = .ok (.if_icmp .le 17, 3) by decide +kernel) rfl ?_ ?_
        · skip
          refine V_aload_n 31 rfl (show decode M_Trail_is.2.1 30 = .ok (.aload_n 0, 1) by decide +kernel) 0 rfl ?_
          refine V_get (j := 0) (v := vR (SR σ_2 h0 0)) 34 rfl ck_Trail (by decide) (by decide) (show decode M_Trail_is.2.1 31 = .ok (.getfield 10, 3) by decide +kernel) wd_599 rfl ?_
          refine V_getN (j := 2) (v := vR (SR σ_2 (SR σ_2 h0 0) 2)) 37 rfl ck_World (by decide) (by decide) (show decode M_Trail_is.2.1 34 = .ok (.getfield 107, 3) by decide +kernel) wd_502 rfl ?_
          refine V_iload_n 38 rfl (show decode M_Trail_is.2.1 37 = .ok (.iload_n 1, 1) by decide +kernel) 1 rfl ?_
          refine V_callVN (tb := tI) (as := [vI x1]) (rest := []) (na := 1) 41 rfl ck_Post (by decide) (s_Post_openOf (SR σ_2 (SR σ_2 h0 0) 2) x1 (((b_2 && cK σ_2 h0 12) && cK σ_2 (SR σ_2 h0 0) 11) && cK σ_2 (SR σ_2 (SR σ_2 h0 0) 2) 5) σ_2) rfl rfl (Nat.le_of_ble_eq_true rfl) (cal_Post_openOf _ _ _ _ _ (by decide) (by decide) (by decide)) (show decode M_Trail_is.2.1 38 = .ok (.invokevirtual 205, 3) by decide +kernel) wd_1021 wd_1023 wd_36 (fun r_3 b_3 σ_3 => ?_)
          show V M_Trail_is 3 0 0 0 0 tI _ 41 [(0, vR h0), (1, vI x1), (2, vI x2)] [vI r_3] b_3 σ_3
          refine V_goto 57 (show decode M_Trail_is.2.1 41 = .ok (.goto 16, 3) by decide +kernel) rfl ?_
          exact V_iret rfl (by decide) (by decide) (show decode M_Trail_is.2.1 57 = .ok (.ireturn, 1) by decide +kernel)
        · skip
          refine V_aload_n 45 rfl (show decode M_Trail_is.2.1 44 = .ok (.aload_n 0, 1) by decide +kernel) 0 rfl ?_
          refine V_get (j := 0) (v := vR (SR σ_2 h0 0)) 48 rfl ck_Trail (by decide) (by decide) (show decode M_Trail_is.2.1 45 = .ok (.getfield 10, 3) by decide +kernel) wd_599 rfl ?_
          refine V_getN (j := 6) (v := vR (SR σ_2 (SR σ_2 h0 0) 6)) 51 rfl ck_World (by decide) (by decide) (show decode M_Trail_is.2.1 48 = .ok (.getfield 194, 3) by decide +kernel) wd_510 rfl ?_
          refine V_iload_n 52 rfl (show decode M_Trail_is.2.1 51 = .ok (.iload_n 1, 1) by decide +kernel) 1 rfl ?_
          refine V_ald_r26 53 rfl (show decode M_Trail_is.2.1 52 = .ok (.aaload, 1) by decide +kernel) ?_
          refine V_iload_n 54 rfl (show decode M_Trail_is.2.1 53 = .ok (.iload_n 2, 1) by decide +kernel) 2 rfl ?_
          refine V_callVN (tb := tI) (as := [vI x2]) (rest := []) (na := 1) 57 rfl ck_Walker (by decide) (s_Walker_toldOf (SR σ_2 (SR σ_2 (SR σ_2 h0 0) 6) (ix x1)) x2 ((((b_2 && cK σ_2 h0 12) && cK σ_2 (SR σ_2 h0 0) 11) && cA σ_2 (SR σ_2 (SR σ_2 h0 0) 6) 26 x1) && cK σ_2 (SR σ_2 (SR σ_2 (SR σ_2 h0 0) 6) (ix x1)) 10) σ_2) rfl rfl (Nat.le_of_ble_eq_true rfl) (cal_Walker_toldOf _ _ _ _ _ (by decide) (by decide) (by decide)) (show decode M_Trail_is.2.1 54 = .ok (.invokevirtual 208, 3) by decide +kernel) wd_1029 wd_1031 wd_38 (fun r_4 b_4 σ_4 => ?_)
          show V M_Trail_is 3 0 0 0 0 tI _ 57 [(0, vR h0), (1, vI x1), (2, vI x2)] [vI r_4] b_4 σ_4
          exact V_iret rfl (by decide) (by decide) (show decode M_Trail_is.2.1 57 = .ok (.ireturn, 1) by decide +kernel)
theorem cal_Trail_is (d mc ms k n : Nat) (h1 : 3 + 1 ≤ d) (h2 : k + 0 ≤ mc) (h3 : n + 0 ≤ ms) : Cal M_Trail_is 3 0 0 2 d mc ms k n := ⟨wd_1015, wd_170, by decide, h1, by decide, h2, h3⟩
abbrev M_Trail_keep : MD := (⟨"LongTrail", "keep", "()I"⟩, prog_1_method_44_code, 1, (some FieldType.int))
def f_Trail_keep (h0 : Nat) (b : Bool) (σ : Sto) : Rs Int32 := (bd_ (f_World_become (SR σ h0 1) (SR σ h0 0) (((b && cK σ h0 12) && cK σ h0 12) && cK σ (SR σ h0 1) 11) σ) (fun (r_1 : Unit) (b_1 : Bool) (σ_1 : Sto) => (lt_ (pI σ_1 h0 7 (1 : Int32)) (fun (σ_2 : Sto) => ((SI σ_2 (SR σ_2 h0 0) 8), (((b_1 && cK σ_1 h0 12) && cK σ_2 h0 12) && cK σ_2 (SR σ_2 h0 0) 11), σ_2)))))
set_option maxRecDepth 100000 in
set_option maxHeartbeats 4000000 in
theorem s_Trail_keep : ∀ (h0 : Nat) (b : Bool) (σ : Sto), Snd M_Trail_keep 3 0 0 [vR h0] b σ (tI (f_Trail_keep h0 b σ).1) (f_Trail_keep h0 b σ).2.1 (f_Trail_keep h0 b σ).2.2 := by
  intro h0 b σ
  refine Snd_of (tv := tI) (by decide) (Nat.le_of_ble_eq_true rfl) ?_
  show V M_Trail_keep 3 0 0 0 0 tI (f_Trail_keep h0 b σ) 0 [(0, vR h0)] [] b σ
  unfold f_Trail_keep
  refine V_aload_n 1 rfl (show decode M_Trail_keep.2.1 0 = .ok (.aload_n 0, 1) by decide +kernel) 0 rfl ?_
  refine V_get (j := 1) (v := vR (SR σ h0 1)) 4 rfl ck_Trail (by decide) (by decide) (show decode M_Trail_keep.2.1 1 = .ok (.getfield 16, 3) by decide +kernel) wd_600 rfl ?_
  refine V_aload_n 5 rfl (show decode M_Trail_keep.2.1 4 = .ok (.aload_n 0, 1) by decide +kernel) 0 rfl ?_
  refine V_get (j := 0) (v := vR (SR σ h0 0)) 8 rfl ck_Trail (by decide) (by decide) (show decode M_Trail_keep.2.1 5 = .ok (.getfield 10, 3) by decide +kernel) wd_599 rfl ?_
  refine V_callVN (tb := tU) (as := [vR (SR σ h0 0)]) (rest := []) (na := 1) 11 rfl ck_World (by decide) (s_World_become (SR σ h0 1) (SR σ h0 0) (((b && cK σ h0 12) && cK σ h0 12) && cK σ (SR σ h0 1) 11) σ) rfl rfl (Nat.le_of_ble_eq_true rfl) (cal_World_become _ _ _ _ _ (by decide) (by decide) (by decide)) (show decode M_Trail_keep.2.1 8 = .ok (.invokevirtual 261, 3) by decide +kernel) wd_1217 wd_1219 wd_72 (fun r_1 b_1 σ_1 => ?_)
  show V M_Trail_keep 3 0 0 0 0 tI _ 11 [(0, vR h0)] [] b_1 σ_1
  refine V_aload_n 12 rfl (show decode M_Trail_keep.2.1 11 = .ok (.aload_n 0, 1) by decide +kernel) 0 rfl ?_
  refine V_iconst 13 rfl (show decode M_Trail_keep.2.1 12 = .ok (.iconst 1, 1) by decide +kernel) (v := 1) rfl ?_
  refine V_putI (j := 7) 16 rfl ck_Trail (by decide) (by decide) (show decode M_Trail_keep.2.1 13 = .ok (.putfield 393, 3) by decide +kernel) wd_606 rfl (fun _ => rfl) rfl rfl (fun σ_2 => ?_)
  refine V_aload_n 17 rfl (show decode M_Trail_keep.2.1 16 = .ok (.aload_n 0, 1) by decide +kernel) 0 rfl ?_
  refine V_get (j := 0) (v := vR (SR σ_2 h0 0)) 20 rfl ck_Trail (by decide) (by decide) (show decode M_Trail_keep.2.1 17 = .ok (.getfield 10, 3) by decide +kernel) wd_599 rfl ?_
  refine V_getN (j := 8) (v := vI (SI σ_2 (SR σ_2 h0 0) 8)) 23 rfl ck_World (by decide) (by decide) (show decode M_Trail_keep.2.1 20 = .ok (.getfield 138, 3) by decide +kernel) wd_514 rfl ?_
  exact V_iret rfl (by decide) (by decide) (show decode M_Trail_keep.2.1 23 = .ok (.ireturn, 1) by decide +kernel)
theorem cal_Trail_keep (d mc ms k n : Nat) (h1 : 3 + 1 ≤ d) (h2 : k + 0 ≤ mc) (h3 : n + 0 ≤ ms) : Cal M_Trail_keep 3 0 0 0 d mc ms k n := ⟨wd_1477, wd_170, by decide, h1, by decide, h2, h3⟩
abbrev M_Trail_land : MD := (⟨"LongTrail", "land", "(II)I"⟩, prog_1_method_7_code, 5, (some FieldType.int))
def f_Trail_land (h0 : Nat) (x1 : Int32) (x2 : Int32) (b : Bool) (σ : Sto) : Rs Int32 := (lt_ (SR σ (SR σ h0 0) 0) (fun (h3_1 : Nat) => (bd_ (f_Trail_within x1 (1 : Int32) (3 : Int32) ((b && cK σ h0 12) && cK σ (SR σ h0 0) 11) σ) (fun (r_2 : Int32) (b_2 : Bool) (σ_2 : Sto) => (lt_ (fun (b : Bool) (σ : Sto) => ((-1000000001 : Int32), b, σ)) (fun J31 => (if r_2 = 0 then (J31 b_2 σ_2) else (lt_ (fun (b : Bool) (σ : Sto) => (lt_ (SI σ (SR σ h3_1 4) (ix x1)) (fun (x4_3 : Int32) => (lt_ (pI σ (SR σ h3_1 4) (ix x1) x2) (fun (σ_4 : Sto) => (x4_3, ((((b && cK σ h3_1 2) && cA σ (SR σ h3_1 4) 21 x1) && cK σ h3_1 2) && cA σ (SR σ h3_1 4) 21 x1), σ_4)))))) (fun J34 => (if x2 = (-1000000005 : Int32) then (J34 b_2 σ_2) else (bd_ (f_Ground_hasMile h3_1 x2 (b_2 && cK σ_2 h3_1 2) σ_2) (fun (r_5 : Int32) (b_5 : Bool) (σ_5 : Sto) => (if r_5 = 0 then (J31 b_5 σ_5) else (J34 b_5 σ_5))))))))))))))
set_option maxRecDepth 100000 in
set_option maxHeartbeats 4000000 in
theorem s_Trail_land : ∀ (h0 : Nat) (x1 : Int32) (x2 : Int32) (b : Bool) (σ : Sto), Snd M_Trail_land 3 0 0 [vR h0, vI x1, vI x2] b σ (tI (f_Trail_land h0 x1 x2 b σ).1) (f_Trail_land h0 x1 x2 b σ).2.1 (f_Trail_land h0 x1 x2 b σ).2.2 := by
  intro h0 x1 x2 b σ
  refine Snd_of (tv := tI) (by decide) (Nat.le_of_ble_eq_true rfl) ?_
  show V M_Trail_land 3 0 0 0 0 tI (f_Trail_land h0 x1 x2 b σ) 0 [(0, vR h0), (1, vI x1), (2, vI x2)] [] b σ
  unfold f_Trail_land
  refine V_aload_n 1 rfl (show decode M_Trail_land.2.1 0 = .ok (.aload_n 0, 1) by decide +kernel) 0 rfl ?_
  refine V_get (j := 0) (v := vR (SR σ h0 0)) 4 rfl ck_Trail (by decide) (by decide) (show decode M_Trail_land.2.1 1 = .ok (.getfield 10, 3) by decide +kernel) wd_599 rfl ?_
  refine V_getN (j := 0) (v := vR (SR σ (SR σ h0 0) 0)) 7 rfl ck_World (by decide) (by decide) (show decode M_Trail_land.2.1 4 = .ok (.getfield 49, 3) by decide +kernel) wd_498 rfl ?_
  refine V_astore_n (fun h3_1 => [(3, vR h3_1), (0, vR h0), (1, vI x1), (2, vI x2)]) 8 rfl (show decode M_Trail_land.2.1 7 = .ok (.astore_n 3, 1) by decide +kernel) (by decide) (fun _ => rfl) (fun h3_1 => ?_)
  refine V_iload_n 9 rfl (show decode M_Trail_land.2.1 8 = .ok (.iload_n 1, 1) by decide +kernel) 2 rfl ?_
  refine V_iconst 10 rfl (show decode M_Trail_land.2.1 9 = .ok (.iconst 1, 1) by decide +kernel) (v := 1) rfl ?_
  refine V_iconst 11 rfl (show decode M_Trail_land.2.1 10 = .ok (.iconst 3, 1) by decide +kernel) (v := 3) rfl ?_
  refine V_callS (tb := tI) (as := [vI x1, vI (1 : Int32), vI (3 : Int32)]) (rest := []) (na := 3) 14 rfl (s_Trail_within x1 (1 : Int32) (3 : Int32) ((b && cK σ h0 12) && cK σ (SR σ h0 0) 11) σ) rfl rfl (Nat.le_of_ble_eq_true rfl) (cal_Trail_within _ _ _ _ _ (by decide) (by decide) (by decide)) (show decode M_Trail_land.2.1 11 = .ok (.invokestatic 40, 3) by decide +kernel) wd_628 wd_629 (fun r_2 b_2 σ_2 => ?_)
  show V M_Trail_land 3 0 0 0 0 tI _ 14 [(3, vR h3_1), (0, vR h0), (1, vI x1), (2, vI x2)] [vI r_2] b_2 σ_2
  refine V_jn (fun (J31 : Bool → Sto → Rs Int32) => ∀ (b : Bool) (σ : Sto), V M_Trail_land 3 0 0 0 0 tI (J31 b σ) 31 [] [] b σ) ?_ (fun J31 hJ31 => ?_)
  · intro b σ
    refine V_ldc 33 rfl (show decode M_Trail_land.2.1 31 = .ok (.ldc 44, 2) by decide +kernel) wd_631 ?_
    exact V_iret rfl (by decide) (by decide) (show decode M_Trail_land.2.1 33 = .ok (.ireturn, 1) by decide +kernel)
  · skip
    refine V_ifeq 17 31 rfl (show decode M_Trail_land.2.1 14 = .ok (.ifCond .eq 17, 3) by decide +kernel) rfl ?_ ?_
    · skip
      exact V_sub [] rfl (hJ31 b_2 σ_2)
    · skip
      refine V_iload_n 18 rfl (show decode M_Trail_land.2.1 17 = .ok (.iload_n 2, 1) by decide +kernel) 3 rfl ?_
      refine V_ldc 20 rfl (show decode M_Trail_land.2.1 18 = .ok (.ldc 123, 2) by decide +kernel) wd_706 ?_
      refine V_jn (fun (J34 : Bool → Sto → Rs Int32) => ∀ (b : Bool) (σ : Sto), V M_Trail_land 3 0 0 0 0 tI (J34 b σ) 34 [(1, vI x1), (2, vI x2), (3, vR h3_1)] [] b σ) ?_ (fun J34 hJ34 => ?_)
      · intro b σ
        refine V_aload_n 35 rfl (show decode M_Trail_land.2.1 34 = .ok (.aload_n 3, 1) by decide +kernel) 2 rfl ?_
        refine V_getN (j := 4) (v := vR (SR σ h3_1 4)) 38 rfl ck_Ground (by decide) (by decide) (show decode M_Trail_land.2.1 35 = .ok (.getfield 124, 3) by decide +kernel) wd_223 rfl ?_
        refine V_iload_n 39 rfl (show decode M_Trail_land.2.1 38 = .ok (.iload_n 1, 1) by decide +kernel) 0 rfl ?_
        refine V_ald_int 40 rfl (show decode M_Trail_land.2.1 39 = .ok (.iaload, 1) by decide +kernel) ?_
        refine V_istore (fun x4_3 => [(4, vI x4_3), (1, vI x1), (2, vI x2), (3, vR h3_1)]) 42 rfl (show decode M_Trail_land.2.1 40 = .ok (.istore 4, 2) by decide +kernel) (by decide) (fun _ => rfl) (fun x4_3 => ?_)
        refine V_aload_n 43 rfl (show decode M_Trail_land.2.1 42 = .ok (.aload_n 3, 1) by decide +kernel) 3 rfl ?_
        refine V_getN (j := 4) (v := vR (SR σ h3_1 4)) 46 rfl ck_Ground (by decide) (by decide) (show decode M_Trail_land.2.1 43 = .ok (.getfield 124, 3) by decide +kernel) wd_223 rfl ?_
        refine V_iload_n 47 rfl (show decode M_Trail_land.2.1 46 = .ok (.iload_n 1, 1) by decide +kernel) 1 rfl ?_
        refine V_iload_n 48 rfl (show decode M_Trail_land.2.1 47 = .ok (.iload_n 2, 1) by decide +kernel) 2 rfl ?_
        refine V_ast_int 49 rfl (show decode M_Trail_land.2.1 48 = .ok (.iastore, 1) by decide +kernel) (fun σ_4 => ?_)
        refine V_iload 51 rfl (show decode M_Trail_land.2.1 49 = .ok (.iload 4, 2) by decide +kernel) 0 rfl ?_
        exact V_iret rfl (by decide) (by decide) (show decode M_Trail_land.2.1 51 = .ok (.ireturn, 1) by decide +kernel)
      · skip
        refine V_icmpeq 23 34 rfl (show decode M_Trail_land.2.1 20 = .ok (.if_icmp .eq 14, 3) by decide +kernel) rfl ?_ ?_
        · skip
          exact V_sub [2, 3, 0] rfl (hJ34 b_2 σ_2)
        · skip
          refine V_aload_n 24 rfl (show decode M_Trail_land.2.1 23 = .ok (.aload_n 3, 1) by decide +kernel) 0 rfl ?_
          refine V_iload_n 25 rfl (show decode M_Trail_land.2.1 24 = .ok (.iload_n 2, 1) by decide +kernel) 3 rfl ?_
          refine V_callVN (tb := tI) (as := [vI x2]) (rest := []) (na := 1) 28 rfl ck_Ground (by decide) (s_Ground_hasMile h3_1 x2 (b_2 && cK σ_2 h3_1 2) σ_2) rfl rfl (Nat.le_of_ble_eq_true rfl) (cal_Ground_hasMile _ _ _ _ _ (by decide) (by decide) (by decide)) (show decode M_Trail_land.2.1 25 = .ok (.invokevirtual 70, 3) by decide +kernel) wd_645 wd_647 wd_2 (fun r_5 b_5 σ_5 => ?_)
          show V M_Trail_land 3 0 0 0 0 tI _ 28 [(3, vR h3_1), (0, vR h0), (1, vI x1), (2, vI x2)] [vI r_5] b_5 σ_5
          refine V_ifne 31 34 rfl (show decode M_Trail_land.2.1 28 = .ok (.ifCond .ne 6, 3) by decide +kernel) rfl ?_ ?_
          · skip
            exact V_sub [] rfl (hJ31 b_5 σ_5)
          · skip
            exact V_sub [2, 3, 0] rfl (hJ34 b_5 σ_5)
theorem cal_Trail_land (d mc ms k n : Nat) (h1 : 3 + 1 ≤ d) (h2 : k + 0 ≤ mc) (h3 : n + 0 ≤ ms) : Cal M_Trail_land 3 0 0 2 d mc ms k n := ⟨wd_705, wd_170, by decide, h1, by decide, h2, h3⟩
abbrev M_Trail_landAt : MD := (⟨"LongTrail", "landAt", "(I)I"⟩, prog_1_method_8_code, 2, (some FieldType.int))
def f_Trail_landAt (h0 : Nat) (x1 : Int32) (b : Bool) (σ : Sto) : Rs Int32 := (bd_ (f_Ground_hasMile (SR σ (SR σ h0 0) 0) x1 (((b && cK σ h0 12) && cK σ (SR σ h0 0) 11) && cK σ (SR σ (SR σ h0 0) 0) 2) σ) (fun (r_1 : Int32) (b_1 : Bool) (σ_1 : Sto) => (if r_1 = 0 then ((-1000000001 : Int32), b_1, σ_1) else (bd_ (f_Ground_landOf (SR σ_1 (SR σ_1 h0 0) 0) x1 (((b_1 && cK σ_1 h0 12) && cK σ_1 (SR σ_1 h0 0) 11) && cK σ_1 (SR σ_1 (SR σ_1 h0 0) 0) 2) σ_1) (fun (r_2 : Int32) (b_2 : Bool) (σ_2 : Sto) => (r_2, b_2, σ_2))))))
set_option maxRecDepth 100000 in
set_option maxHeartbeats 4000000 in
theorem s_Trail_landAt : ∀ (h0 : Nat) (x1 : Int32) (b : Bool) (σ : Sto), Snd M_Trail_landAt 3 0 0 [vR h0, vI x1] b σ (tI (f_Trail_landAt h0 x1 b σ).1) (f_Trail_landAt h0 x1 b σ).2.1 (f_Trail_landAt h0 x1 b σ).2.2 := by
  intro h0 x1 b σ
  refine Snd_of (tv := tI) (by decide) (Nat.le_of_ble_eq_true rfl) ?_
  show V M_Trail_landAt 3 0 0 0 0 tI (f_Trail_landAt h0 x1 b σ) 0 [(0, vR h0), (1, vI x1)] [] b σ
  unfold f_Trail_landAt
  refine V_aload_n 1 rfl (show decode M_Trail_landAt.2.1 0 = .ok (.aload_n 0, 1) by decide +kernel) 0 rfl ?_
  refine V_get (j := 0) (v := vR (SR σ h0 0)) 4 rfl ck_Trail (by decide) (by decide) (show decode M_Trail_landAt.2.1 1 = .ok (.getfield 10, 3) by decide +kernel) wd_599 rfl ?_
  refine V_getN (j := 0) (v := vR (SR σ (SR σ h0 0) 0)) 7 rfl ck_World (by decide) (by decide) (show decode M_Trail_landAt.2.1 4 = .ok (.getfield 49, 3) by decide +kernel) wd_498 rfl ?_
  refine V_iload_n 8 rfl (show decode M_Trail_landAt.2.1 7 = .ok (.iload_n 1, 1) by decide +kernel) 1 rfl ?_
  refine V_callVN (tb := tI) (as := [vI x1]) (rest := []) (na := 1) 11 rfl ck_Ground (by decide) (s_Ground_hasMile (SR σ (SR σ h0 0) 0) x1 (((b && cK σ h0 12) && cK σ (SR σ h0 0) 11) && cK σ (SR σ (SR σ h0 0) 0) 2) σ) rfl rfl (Nat.le_of_ble_eq_true rfl) (cal_Ground_hasMile _ _ _ _ _ (by decide) (by decide) (by decide)) (show decode M_Trail_landAt.2.1 8 = .ok (.invokevirtual 70, 3) by decide +kernel) wd_645 wd_647 wd_2 (fun r_1 b_1 σ_1 => ?_)
  show V M_Trail_landAt 3 0 0 0 0 tI _ 11 [(0, vR h0), (1, vI x1)] [vI r_1] b_1 σ_1
  refine V_ifeq 14 28 rfl (show decode M_Trail_landAt.2.1 11 = .ok (.ifCond .eq 17, 3) by decide +kernel) rfl ?_ ?_
  · skip
    refine V_ldc 30 rfl (show decode M_Trail_landAt.2.1 28 = .ok (.ldc 44, 2) by decide +kernel) wd_631 ?_
    exact V_iret rfl (by decide) (by decide) (show decode M_Trail_landAt.2.1 30 = .ok (.ireturn, 1) by decide +kernel)
  · skip
    refine V_aload_n 15 rfl (show decode M_Trail_landAt.2.1 14 = .ok (.aload_n 0, 1) by decide +kernel) 0 rfl ?_
    refine V_get (j := 0) (v := vR (SR σ_1 h0 0)) 18 rfl ck_Trail (by decide) (by decide) (show decode M_Trail_landAt.2.1 15 = .ok (.getfield 10, 3) by decide +kernel) wd_599 rfl ?_
    refine V_getN (j := 0) (v := vR (SR σ_1 (SR σ_1 h0 0) 0)) 21 rfl ck_World (by decide) (by decide) (show decode M_Trail_landAt.2.1 18 = .ok (.getfield 49, 3) by decide +kernel) wd_498 rfl ?_
    refine V_iload_n 22 rfl (show decode M_Trail_landAt.2.1 21 = .ok (.iload_n 1, 1) by decide +kernel) 1 rfl ?_
    refine V_callVN (tb := tI) (as := [vI x1]) (rest := []) (na := 1) 25 rfl ck_Ground (by decide) (s_Ground_landOf (SR σ_1 (SR σ_1 h0 0) 0) x1 (((b_1 && cK σ_1 h0 12) && cK σ_1 (SR σ_1 h0 0) 11) && cK σ_1 (SR σ_1 (SR σ_1 h0 0) 0) 2) σ_1) rfl rfl (Nat.le_of_ble_eq_true rfl) (cal_Ground_landOf _ _ _ _ _ (by decide) (by decide) (by decide)) (show decode M_Trail_landAt.2.1 22 = .ok (.invokevirtual 127, 3) by decide +kernel) wd_711 wd_713 wd_11 (fun r_2 b_2 σ_2 => ?_)
    show V M_Trail_landAt 3 0 0 0 0 tI _ 25 [(0, vR h0), (1, vI x1)] [vI r_2] b_2 σ_2
    refine V_goto 30 (show decode M_Trail_landAt.2.1 25 = .ok (.goto 5, 3) by decide +kernel) rfl ?_
    exact V_iret rfl (by decide) (by decide) (show decode M_Trail_landAt.2.1 30 = .ok (.ireturn, 1) by decide +kernel)
theorem cal_Trail_landAt (d mc ms k n : Nat) (h1 : 3 + 1 ≤ d) (h2 : k + 0 ≤ mc) (h3 : n + 0 ≤ ms) : Cal M_Trail_landAt 3 0 0 1 d mc ms k n := ⟨wd_710, wd_170, by decide, h1, by decide, h2, h3⟩
abbrev M_Album_reachesBeyond : MD := (⟨"LongTrail$Album", "reachesBeyond", "(I)Z"⟩, prog_2_method_4_code, 3, (some FieldType.boolean))
def b_Album_reachesBeyond_2 (h0 : Nat) (x1 : Int32) (L2 : Int32 → Bool → Sto → Rs Int32) (x2 : Int32) (b : Bool) (σ : Sto) : Rs Int32 := (if x2 < (SI σ h0 2) then (if x1 < (SI σ (SR σ h0 1) (ix x2)) then ((1 : Int32), (((b && cK σ h0 1) && cK σ h0 1) && cA σ (SR σ h0 1) 21 x2), σ) else (lt_ (x2 + (1 : Int32)) (fun (x2_2 : Int32) => (L2 x2_2 (((b && cK σ h0 1) && cK σ h0 1) && cA σ (SR σ h0 1) 21 x2) σ)))) else ((0 : Int32), (b && cK σ h0 1), σ))
def f_Album_reachesBeyond (h0 : Nat) (x1 : Int32) (b : Bool) (σ : Sto) : Rs Int32 := (lt_ (0 : Int32) (fun (x2_1 : Int32) => (lp_ (b_Album_reachesBeyond_2 h0 x1) (fun (x2 : Int32) (b : Bool) (σ : Sto) => (0, false, σ)) fuel_ x2_1 b σ)))
set_option maxRecDepth 100000 in
set_option maxHeartbeats 4000000 in
theorem s_Album_reachesBeyond : ∀ (h0 : Nat) (x1 : Int32) (b : Bool) (σ : Sto), Snd M_Album_reachesBeyond 1 0 0 [vR h0, vI x1] b σ (tI (f_Album_reachesBeyond h0 x1 b σ).1) (f_Album_reachesBeyond h0 x1 b σ).2.1 (f_Album_reachesBeyond h0 x1 b σ).2.2 := by
  intro h0 x1 b σ
  refine Snd_of (tv := tI) (by decide) (Nat.le_of_ble_eq_true rfl) ?_
  show V M_Album_reachesBeyond 1 0 0 0 0 tI (f_Album_reachesBeyond h0 x1 b σ) 0 [(0, vR h0), (1, vI x1)] [] b σ
  unfold f_Album_reachesBeyond
  refine V_iconst 1 rfl (show decode M_Album_reachesBeyond.2.1 0 = .ok (.iconst 0, 1) by decide +kernel) (v := 0) rfl ?_
  refine V_istore_n (fun x2_1 => [(2, vI x2_1), (0, vR h0), (1, vI x1)]) 2 rfl (show decode M_Album_reachesBeyond.2.1 1 = .ok (.istore_n 2, 1) by decide +kernel) (by decide) (fun _ => rfl) (fun x2_1 => ?_)
  refine V_sub [1, 2, 0] rfl ?_
  refine lp_P (fun (L2 : Int32 → Bool → Sto → Rs Int32) => ∀ (x2 : Int32) (b : Bool) (σ : Sto), V M_Album_reachesBeyond 1 0 0 0 0 tI (L2 x2 b σ) 2 [(0, vR h0), (1, vI x1), (2, vI x2)] [] b σ) ?_ ?_ fuel_ x2_1 b σ
  · intro x2 b σ; exact V_bad
  · intro L2 hL2 x2 b σ
    unfold b_Album_reachesBeyond_2
    refine V_iload_n 3 rfl (show decode M_Album_reachesBeyond.2.1 2 = .ok (.iload_n 2, 1) by decide +kernel) 2 rfl ?_
    refine V_aload_n 4 rfl (show decode M_Album_reachesBeyond.2.1 3 = .ok (.aload_n 0, 1) by decide +kernel) 0 rfl ?_
    refine V_get (j := 2) (v := vI (SI σ h0 2)) 7 rfl ck_Album (by decide) (by decide) (show decode M_Album_reachesBeyond.2.1 4 = .ok (.getfield 36, 3) by decide +kernel) wd_395 rfl ?_
    refine V_icmpge 10 28 rfl (show decode M_Album_reachesBeyond.2.1 7 = .ok (.if_icmp .ge 21, 3) by decide +kernel) rfl ?_ ?_
    · skip
      refine V_aload_n 11 rfl (show decode M_Album_reachesBeyond.2.1 10 = .ok (.aload_n 0, 1) by decide +kernel) 0 rfl ?_
      refine V_get (j := 1) (v := vR (SR σ h0 1)) 14 rfl ck_Album (by decide) (by decide) (show decode M_Album_reachesBeyond.2.1 11 = .ok (.getfield 15, 3) by decide +kernel) wd_394 rfl ?_
      refine V_iload_n 15 rfl (show decode M_Album_reachesBeyond.2.1 14 = .ok (.iload_n 2, 1) by decide +kernel) 2 rfl ?_
      refine V_ald_int 16 rfl (show decode M_Album_reachesBeyond.2.1 15 = .ok (.iaload, 1) by decide +kernel) ?_
      refine V_iload_n 17 rfl (show decode M_Album_reachesBeyond.2.1 16 = .ok (.iload_n 1, 1) by decide +kernel) 1 rfl ?_
      refine V_icmple 20 22 rfl (show decode M_Album_reachesBeyond.2.1 17 = .ok (.if_icmp .le 5, 3) by decide +kernel) rfl ?_ ?_
      · skip
        refine V_iconst 21 rfl (show decode M_Album_reachesBeyond.2.1 20 = .ok (.iconst 1, 1) by decide +kernel) (v := 1) rfl ?_
        exact V_zret rfl (by decide) (by decide) rfl (show decode M_Album_reachesBeyond.2.1 21 = .ok (.ireturn, 1) by decide +kernel)
      · skip
        refine V_iinc (fun x2_2 => [(2, vI x2_2), (0, vR h0), (1, vI x1)]) 25 rfl (show decode M_Album_reachesBeyond.2.1 22 = .ok (.iinc 2 1, 3) by decide +kernel) 2 rfl (w := 1) rfl (by decide) (fun _ => rfl) (fun x2_2 => ?_)
        refine V_goto 2 (show decode M_Album_reachesBeyond.2.1 25 = .ok (.goto (-23), 3) by decide +kernel) rfl ?_
        exact V_sub [1, 2, 0] rfl (hL2 x2_2 (((b && cK σ h0 1) && cK σ h0 1) && cA σ (SR σ h0 1) 21 x2) σ)
    · skip
      refine V_iconst 29 rfl (show decode M_Album_reachesBeyond.2.1 28 = .ok (.iconst 0, 1) by decide +kernel) (v := 0) rfl ?_
      exact V_zret rfl (by decide) (by decide) rfl (show decode M_Album_reachesBeyond.2.1 29 = .ok (.ireturn, 1) by decide +kernel)
theorem cal_Album_reachesBeyond (d mc ms k n : Nat) (h1 : 1 + 1 ≤ d) (h2 : k + 0 ≤ mc) (h3 : n + 0 ≤ ms) : Cal M_Album_reachesBeyond 1 0 0 1 d mc ms k n := ⟨wd_639, wd_177, by decide, h1, by decide, h2, h3⟩
abbrev M_Ground_reachesBeyond : MD := (⟨"LongTrail$Ground", "reachesBeyond", "(I)Z"⟩, prog_3_method_9_code, 3, (some FieldType.boolean))
def b_Ground_reachesBeyond_30 (h0 : Nat) (x1 : Int32) (L30 : Int32 → Bool → Sto → Rs Int32) (x2 : Int32) (b : Bool) (σ : Sto) : Rs Int32 := (if x2 < (SI σ h0 11) then (if x1 < (SI σ (SR σ h0 6) (ix x2)) then ((1 : Int32), (((b && cK σ h0 2) && cK σ h0 2) && cA σ (SR σ h0 6) 21 x2), σ) else (lt_ (x2 + (1 : Int32)) (fun (x2_4 : Int32) => (L30 x2_4 (((b && cK σ h0 2) && cK σ h0 2) && cA σ (SR σ h0 6) 21 x2) σ)))) else ((0 : Int32), (b && cK σ h0 2), σ))
def b_Ground_reachesBeyond_2 (h0 : Nat) (x1 : Int32) (L2 : Int32 → Bool → Sto → Rs Int32) (x2 : Int32) (b : Bool) (σ : Sto) : Rs Int32 := (if x2 < (SI σ h0 10) then (if x1 < (SI σ (SR σ h0 1) (ix x2)) then ((1 : Int32), (((b && cK σ h0 2) && cK σ h0 2) && cA σ (SR σ h0 1) 21 x2), σ) else (lt_ (x2 + (1 : Int32)) (fun (x2_2 : Int32) => (L2 x2_2 (((b && cK σ h0 2) && cK σ h0 2) && cA σ (SR σ h0 1) 21 x2) σ)))) else (lt_ (0 : Int32) (fun (x2_3 : Int32) => (lp_ (b_Ground_reachesBeyond_30 h0 x1) (fun (x2 : Int32) (b : Bool) (σ : Sto) => (0, false, σ)) fuel_ x2_3 (b && cK σ h0 2) σ))))
def f_Ground_reachesBeyond (h0 : Nat) (x1 : Int32) (b : Bool) (σ : Sto) : Rs Int32 := (lt_ (0 : Int32) (fun (x2_1 : Int32) => (lp_ (b_Ground_reachesBeyond_2 h0 x1) (fun (x2 : Int32) (b : Bool) (σ : Sto) => (0, false, σ)) fuel_ x2_1 b σ)))
set_option maxRecDepth 100000 in
set_option maxHeartbeats 4000000 in
theorem s_Ground_reachesBeyond : ∀ (h0 : Nat) (x1 : Int32) (b : Bool) (σ : Sto), Snd M_Ground_reachesBeyond 1 0 0 [vR h0, vI x1] b σ (tI (f_Ground_reachesBeyond h0 x1 b σ).1) (f_Ground_reachesBeyond h0 x1 b σ).2.1 (f_Ground_reachesBeyond h0 x1 b σ).2.2 := by
  intro h0 x1 b σ
  refine Snd_of (tv := tI) (by decide) (Nat.le_of_ble_eq_true rfl) ?_
  show V M_Ground_reachesBeyond 1 0 0 0 0 tI (f_Ground_reachesBeyond h0 x1 b σ) 0 [(0, vR h0), (1, vI x1)] [] b σ
  unfold f_Ground_reachesBeyond
  refine V_iconst 1 rfl (show decode M_Ground_reachesBeyond.2.1 0 = .ok (.iconst 0, 1) by decide +kernel) (v := 0) rfl ?_
  refine V_istore_n (fun x2_1 => [(2, vI x2_1), (0, vR h0), (1, vI x1)]) 2 rfl (show decode M_Ground_reachesBeyond.2.1 1 = .ok (.istore_n 2, 1) by decide +kernel) (by decide) (fun _ => rfl) (fun x2_1 => ?_)
  refine V_sub [1, 2, 0] rfl ?_
  refine lp_P (fun (L2 : Int32 → Bool → Sto → Rs Int32) => ∀ (x2 : Int32) (b : Bool) (σ : Sto), V M_Ground_reachesBeyond 1 0 0 0 0 tI (L2 x2 b σ) 2 [(0, vR h0), (1, vI x1), (2, vI x2)] [] b σ) ?_ ?_ fuel_ x2_1 b σ
  · intro x2 b σ; exact V_bad
  · intro L2 hL2 x2 b σ
    unfold b_Ground_reachesBeyond_2
    refine V_iload_n 3 rfl (show decode M_Ground_reachesBeyond.2.1 2 = .ok (.iload_n 2, 1) by decide +kernel) 2 rfl ?_
    refine V_aload_n 4 rfl (show decode M_Ground_reachesBeyond.2.1 3 = .ok (.aload_n 0, 1) by decide +kernel) 0 rfl ?_
    refine V_get (j := 10) (v := vI (SI σ h0 10)) 7 rfl ck_Ground (by decide) (by decide) (show decode M_Ground_reachesBeyond.2.1 4 = .ok (.getfield 50, 3) by decide +kernel) wd_235 rfl ?_
    refine V_icmpge 10 28 rfl (show decode M_Ground_reachesBeyond.2.1 7 = .ok (.if_icmp .ge 21, 3) by decide +kernel) rfl ?_ ?_
    · skip
      refine V_aload_n 11 rfl (show decode M_Ground_reachesBeyond.2.1 10 = .ok (.aload_n 0, 1) by decide +kernel) 0 rfl ?_
      refine V_get (j := 1) (v := vR (SR σ h0 1)) 14 rfl ck_Ground (by decide) (by decide) (show decode M_Ground_reachesBeyond.2.1 11 = .ok (.getfield 15, 3) by decide +kernel) wd_214 rfl ?_
      refine V_iload_n 15 rfl (show decode M_Ground_reachesBeyond.2.1 14 = .ok (.iload_n 2, 1) by decide +kernel) 2 rfl ?_
      refine V_ald_int 16 rfl (show decode M_Ground_reachesBeyond.2.1 15 = .ok (.iaload, 1) by decide +kernel) ?_
      refine V_iload_n 17 rfl (show decode M_Ground_reachesBeyond.2.1 16 = .ok (.iload_n 1, 1) by decide +kernel) 1 rfl ?_
      refine V_icmple 20 22 rfl (show decode M_Ground_reachesBeyond.2.1 17 = .ok (.if_icmp .le 5, 3) by decide +kernel) rfl ?_ ?_
      · skip
        refine V_iconst 21 rfl (show decode M_Ground_reachesBeyond.2.1 20 = .ok (.iconst 1, 1) by decide +kernel) (v := 1) rfl ?_
        exact V_zret rfl (by decide) (by decide) rfl (show decode M_Ground_reachesBeyond.2.1 21 = .ok (.ireturn, 1) by decide +kernel)
      · skip
        refine V_iinc (fun x2_2 => [(2, vI x2_2), (0, vR h0), (1, vI x1)]) 25 rfl (show decode M_Ground_reachesBeyond.2.1 22 = .ok (.iinc 2 1, 3) by decide +kernel) 2 rfl (w := 1) rfl (by decide) (fun _ => rfl) (fun x2_2 => ?_)
        refine V_goto 2 (show decode M_Ground_reachesBeyond.2.1 25 = .ok (.goto (-23), 3) by decide +kernel) rfl ?_
        exact V_sub [1, 2, 0] rfl (hL2 x2_2 (((b && cK σ h0 2) && cK σ h0 2) && cA σ (SR σ h0 1) 21 x2) σ)
    · skip
      refine V_iconst 29 rfl (show decode M_Ground_reachesBeyond.2.1 28 = .ok (.iconst 0, 1) by decide +kernel) (v := 0) rfl ?_
      refine V_istore_n (fun x2_3 => [(2, vI x2_3), (0, vR h0), (1, vI x1)]) 30 rfl (show decode M_Ground_reachesBeyond.2.1 29 = .ok (.istore_n 2, 1) by decide +kernel) (by decide) (fun _ => rfl) (fun x2_3 => ?_)
      refine V_sub [1, 2, 0] rfl ?_
      refine lp_P (fun (L30 : Int32 → Bool → Sto → Rs Int32) => ∀ (x2 : Int32) (b : Bool) (σ : Sto), V M_Ground_reachesBeyond 1 0 0 0 0 tI (L30 x2 b σ) 30 [(0, vR h0), (1, vI x1), (2, vI x2)] [] b σ) ?_ ?_ fuel_ x2_3 (b && cK σ h0 2) σ
      · intro x2 b σ; exact V_bad
      · intro L30 hL30 x2 b σ
        unfold b_Ground_reachesBeyond_30
        refine V_iload_n 31 rfl (show decode M_Ground_reachesBeyond.2.1 30 = .ok (.iload_n 2, 1) by decide +kernel) 2 rfl ?_
        refine V_aload_n 32 rfl (show decode M_Ground_reachesBeyond.2.1 31 = .ok (.aload_n 0, 1) by decide +kernel) 0 rfl ?_
        refine V_get (j := 11) (v := vI (SI σ h0 11)) 35 rfl ck_Ground (by decide) (by decide) (show decode M_Ground_reachesBeyond.2.1 32 = .ok (.getfield 53, 3) by decide +kernel) wd_238 rfl ?_
        refine V_icmpge 38 56 rfl (show decode M_Ground_reachesBeyond.2.1 35 = .ok (.if_icmp .ge 21, 3) by decide +kernel) rfl ?_ ?_
        · skip
          refine V_aload_n 39 rfl (show decode M_Ground_reachesBeyond.2.1 38 = .ok (.aload_n 0, 1) by decide +kernel) 0 rfl ?_
          refine V_get (j := 6) (v := vR (SR σ h0 6)) 42 rfl ck_Ground (by decide) (by decide) (show decode M_Ground_reachesBeyond.2.1 39 = .ok (.getfield 31, 3) by decide +kernel) wd_226 rfl ?_
          refine V_iload_n 43 rfl (show decode M_Ground_reachesBeyond.2.1 42 = .ok (.iload_n 2, 1) by decide +kernel) 2 rfl ?_
          refine V_ald_int 44 rfl (show decode M_Ground_reachesBeyond.2.1 43 = .ok (.iaload, 1) by decide +kernel) ?_
          refine V_iload_n 45 rfl (show decode M_Ground_reachesBeyond.2.1 44 = .ok (.iload_n 1, 1) by decide +kernel) 1 rfl ?_
          refine V_icmple 48 50 rfl (show decode M_Ground_reachesBeyond.2.1 45 = .ok (.if_icmp .le 5, 3) by decide +kernel) rfl ?_ ?_
          · skip
            refine V_iconst 49 rfl (show decode M_Ground_reachesBeyond.2.1 48 = .ok (.iconst 1, 1) by decide +kernel) (v := 1) rfl ?_
            exact V_zret rfl (by decide) (by decide) rfl (show decode M_Ground_reachesBeyond.2.1 49 = .ok (.ireturn, 1) by decide +kernel)
          · skip
            refine V_iinc (fun x2_4 => [(2, vI x2_4), (0, vR h0), (1, vI x1)]) 53 rfl (show decode M_Ground_reachesBeyond.2.1 50 = .ok (.iinc 2 1, 3) by decide +kernel) 2 rfl (w := 1) rfl (by decide) (fun _ => rfl) (fun x2_4 => ?_)
            refine V_goto 30 (show decode M_Ground_reachesBeyond.2.1 53 = .ok (.goto (-23), 3) by decide +kernel) rfl ?_
            exact V_sub [1, 2, 0] rfl (hL30 x2_4 (((b && cK σ h0 2) && cK σ h0 2) && cA σ (SR σ h0 6) 21 x2) σ)
        · skip
          refine V_iconst 57 rfl (show decode M_Ground_reachesBeyond.2.1 56 = .ok (.iconst 0, 1) by decide +kernel) (v := 0) rfl ?_
          exact V_zret rfl (by decide) (by decide) rfl (show decode M_Ground_reachesBeyond.2.1 57 = .ok (.ireturn, 1) by decide +kernel)
theorem cal_Ground_reachesBeyond (d mc ms k n : Nat) (h1 : 1 + 1 ≤ d) (h2 : k + 0 ≤ mc) (h3 : n + 0 ≤ ms) : Cal M_Ground_reachesBeyond 1 0 0 1 d mc ms k n := ⟨wd_635, wd_172, by decide, h1, by decide, h2, h3⟩
abbrev M_Trail_length : MD := (⟨"LongTrail", "length", "(I)I"⟩, prog_1_method_2_code, 3, (some FieldType.int))
def f_Trail_length (h0 : Nat) (x1 : Int32) (b : Bool) (σ : Sto) : Rs Int32 := (bd_ (f_Trail_within x1 (20 : Int32) (2000 : Int32) b σ) (fun (r_1 : Int32) (b_1 : Bool) (σ_1 : Sto) => (if r_1 = 0 then ((-1000000001 : Int32), b_1, σ_1) else (lt_ (fun (b : Bool) (σ : Sto) => ((-1000000002 : Int32), b, σ)) (fun J53 => (if 0 < (SI σ_1 (SR σ_1 h0 0) 7) then (J53 ((b_1 && cK σ_1 h0 12) && cK σ_1 (SR σ_1 h0 0) 11) σ_1) else (bd_ (f_Ground_reachesBeyond (SR σ_1 (SR σ_1 h0 0) 0) x1 (((((b_1 && cK σ_1 h0 12) && cK σ_1 (SR σ_1 h0 0) 11) && cK σ_1 h0 12) && cK σ_1 (SR σ_1 h0 0) 11) && cK σ_1 (SR σ_1 (SR σ_1 h0 0) 0) 2) σ_1) (fun (r_2 : Int32) (b_2 : Bool) (σ_2 : Sto) => (if r_2 = 0 then (bd_ (f_Album_reachesBeyond (SR σ_2 (SR σ_2 h0 0) 5) x1 (((b_2 && cK σ_2 h0 12) && cK σ_2 (SR σ_2 h0 0) 11) && cK σ_2 (SR σ_2 (SR σ_2 h0 0) 5) 1) σ_2) (fun (r_3 : Int32) (b_3 : Bool) (σ_3 : Sto) => (if r_3 = 0 then (lt_ (SI σ_3 (SR σ_3 (SR σ_3 h0 0) 0) 9) (fun (x2_4 : Int32) => (lt_ (pI σ_3 (SR σ_3 (SR σ_3 h0 0) 0) 9 x1) (fun (σ_5 : Sto) => (x2_4, ((((((b_3 && cK σ_3 h0 12) && cK σ_3 (SR σ_3 h0 0) 11) && cK σ_3 (SR σ_3 (SR σ_3 h0 0) 0) 2) && cK σ_3 h0 12) && cK σ_3 (SR σ_3 h0 0) 11) && cK σ_3 (SR σ_3 (SR σ_3 h0 0) 0) 2), σ_5))))) else (J53 b_3 σ_3)))) else (J53 b_2 σ_2))))))))))
set_option maxRecDepth 100000 in
set_option maxHeartbeats 4000000 in
theorem s_Trail_length : ∀ (h0 : Nat) (x1 : Int32) (b : Bool) (σ : Sto), Snd M_Trail_length 2 0 0 [vR h0, vI x1] b σ (tI (f_Trail_length h0 x1 b σ).1) (f_Trail_length h0 x1 b σ).2.1 (f_Trail_length h0 x1 b σ).2.2 := by
  intro h0 x1 b σ
  refine Snd_of (tv := tI) (by decide) (Nat.le_of_ble_eq_true rfl) ?_
  show V M_Trail_length 2 0 0 0 0 tI (f_Trail_length h0 x1 b σ) 0 [(0, vR h0), (1, vI x1)] [] b σ
  unfold f_Trail_length
  refine V_iload_n 1 rfl (show decode M_Trail_length.2.1 0 = .ok (.iload_n 1, 1) by decide +kernel) 1 rfl ?_
  refine V_bipush 3 rfl (show decode M_Trail_length.2.1 1 = .ok (.bipush 20, 2) by decide +kernel) (v := 20) rfl ?_
  refine V_sipush 6 rfl (show decode M_Trail_length.2.1 3 = .ok (.sipush 2000, 3) by decide +kernel) (v := 2000) rfl ?_
  refine V_callS (tb := tI) (as := [vI x1, vI (20 : Int32), vI (2000 : Int32)]) (rest := []) (na := 3) 9 rfl (s_Trail_within x1 (20 : Int32) (2000 : Int32) b σ) rfl rfl (Nat.le_of_ble_eq_true rfl) (cal_Trail_within _ _ _ _ _ (by decide) (by decide) (by decide)) (show decode M_Trail_length.2.1 6 = .ok (.invokestatic 40, 3) by decide +kernel) wd_628 wd_629 (fun r_1 b_1 σ_1 => ?_)
  show V M_Trail_length 2 0 0 0 0 tI _ 9 [(0, vR h0), (1, vI x1)] [vI r_1] b_1 σ_1
  refine V_ifne 12 15 rfl (show decode M_Trail_length.2.1 9 = .ok (.ifCond .ne 6, 3) by decide +kernel) rfl ?_ ?_
  · skip
    refine V_ldc 14 rfl (show decode M_Trail_length.2.1 12 = .ok (.ldc 44, 2) by decide +kernel) wd_631 ?_
    exact V_iret rfl (by decide) (by decide) (show decode M_Trail_length.2.1 14 = .ok (.ireturn, 1) by decide +kernel)
  · skip
    refine V_aload_n 16 rfl (show decode M_Trail_length.2.1 15 = .ok (.aload_n 0, 1) by decide +kernel) 0 rfl ?_
    refine V_get (j := 0) (v := vR (SR σ_1 h0 0)) 19 rfl ck_Trail (by decide) (by decide) (show decode M_Trail_length.2.1 16 = .ok (.getfield 10, 3) by decide +kernel) wd_599 rfl ?_
    refine V_getN (j := 7) (v := vI (SI σ_1 (SR σ_1 h0 0) 7)) 22 rfl ck_World (by decide) (by decide) (show decode M_Trail_length.2.1 19 = .ok (.getfield 45, 3) by decide +kernel) wd_511 rfl ?_
    refine V_jn (fun (J53 : Bool → Sto → Rs Int32) => ∀ (b : Bool) (σ : Sto), V M_Trail_length 2 0 0 0 0 tI (J53 b σ) 53 [] [] b σ) ?_ (fun J53 hJ53 => ?_)
    · intro b σ
      refine V_ldc 55 rfl (show decode M_Trail_length.2.1 53 = .ok (.ldc 66, 2) by decide +kernel) wd_640 ?_
      exact V_iret rfl (by decide) (by decide) (show decode M_Trail_length.2.1 55 = .ok (.ireturn, 1) by decide +kernel)
    · skip
      refine V_ifgt 25 53 rfl (show decode M_Trail_length.2.1 22 = .ok (.ifCond .gt 31, 3) by decide +kernel) rfl ?_ ?_
      · skip
        exact V_sub [] rfl (hJ53 ((b_1 && cK σ_1 h0 12) && cK σ_1 (SR σ_1 h0 0) 11) σ_1)
      · skip
        refine V_aload_n 26 rfl (show decode M_Trail_length.2.1 25 = .ok (.aload_n 0, 1) by decide +kernel) 0 rfl ?_
        refine V_get (j := 0) (v := vR (SR σ_1 h0 0)) 29 rfl ck_Trail (by decide) (by decide) (show decode M_Trail_length.2.1 26 = .ok (.getfield 10, 3) by decide +kernel) wd_599 rfl ?_
        refine V_getN (j := 0) (v := vR (SR σ_1 (SR σ_1 h0 0) 0)) 32 rfl ck_World (by decide) (by decide) (show decode M_Trail_length.2.1 29 = .ok (.getfield 49, 3) by decide +kernel) wd_498 rfl ?_
        refine V_iload_n 33 rfl (show decode M_Trail_length.2.1 32 = .ok (.iload_n 1, 1) by decide +kernel) 1 rfl ?_
        refine V_callVN (tb := tI) (as := [vI x1]) (rest := []) (na := 1) 36 rfl ck_Ground (by decide) (s_Ground_reachesBeyond (SR σ_1 (SR σ_1 h0 0) 0) x1 (((((b_1 && cK σ_1 h0 12) && cK σ_1 (SR σ_1 h0 0) 11) && cK σ_1 h0 12) && cK σ_1 (SR σ_1 h0 0) 11) && cK σ_1 (SR σ_1 (SR σ_1 h0 0) 0) 2) σ_1) rfl rfl (Nat.le_of_ble_eq_true rfl) (cal_Ground_reachesBeyond _ _ _ _ _ (by decide) (by decide) (by decide)) (show decode M_Trail_length.2.1 33 = .ok (.invokevirtual 53, 3) by decide +kernel) wd_632 wd_634 wd_0 (fun r_2 b_2 σ_2 => ?_)
        show V M_Trail_length 2 0 0 0 0 tI _ 36 [(0, vR h0), (1, vI x1)] [vI r_2] b_2 σ_2
        refine V_ifne 39 53 rfl (show decode M_Trail_length.2.1 36 = .ok (.ifCond .ne 17, 3) by decide +kernel) rfl ?_ ?_
        · skip
          refine V_aload_n 40 rfl (show decode M_Trail_length.2.1 39 = .ok (.aload_n 0, 1) by decide +kernel) 0 rfl ?_
          refine V_get (j := 0) (v := vR (SR σ_2 h0 0)) 43 rfl ck_Trail (by decide) (by decide) (show decode M_Trail_length.2.1 40 = .ok (.getfield 10, 3) by decide +kernel) wd_599 rfl ?_
          refine V_getN (j := 5) (v := vR (SR σ_2 (SR σ_2 h0 0) 5)) 46 rfl ck_World (by decide) (by decide) (show decode M_Trail_length.2.1 43 = .ok (.getfield 59, 3) by decide +kernel) wd_508 rfl ?_
          refine V_iload_n 47 rfl (show decode M_Trail_length.2.1 46 = .ok (.iload_n 1, 1) by decide +kernel) 1 rfl ?_
          refine V_callVN (tb := tI) (as := [vI x1]) (rest := []) (na := 1) 50 rfl ck_Album (by decide) (s_Album_reachesBeyond (SR σ_2 (SR σ_2 h0 0) 5) x1 (((b_2 && cK σ_2 h0 12) && cK σ_2 (SR σ_2 h0 0) 11) && cK σ_2 (SR σ_2 (SR σ_2 h0 0) 5) 1) σ_2) rfl rfl (Nat.le_of_ble_eq_true rfl) (cal_Album_reachesBeyond _ _ _ _ _ (by decide) (by decide) (by decide)) (show decode M_Trail_length.2.1 47 = .ok (.invokevirtual 63, 3) by decide +kernel) wd_636 wd_638 wd_1 (fun r_3 b_3 σ_3 => ?_)
          show V M_Trail_length 2 0 0 0 0 tI _ 50 [(0, vR h0), (1, vI x1)] [vI r_3] b_3 σ_3
          refine V_ifeq 53 56 rfl (show decode M_Trail_length.2.1 50 = .ok (.ifCond .eq 6, 3) by decide +kernel) rfl ?_ ?_
          · skip
            refine V_aload_n 57 rfl (show decode M_Trail_length.2.1 56 = .ok (.aload_n 0, 1) by decide +kernel) 0 rfl ?_
            refine V_get (j := 0) (v := vR (SR σ_3 h0 0)) 60 rfl ck_Trail (by decide) (by decide) (show decode M_Trail_length.2.1 57 = .ok (.getfield 10, 3) by decide +kernel) wd_599 rfl ?_
            refine V_getN (j := 0) (v := vR (SR σ_3 (SR σ_3 h0 0) 0)) 63 rfl ck_World (by decide) (by decide) (show decode M_Trail_length.2.1 60 = .ok (.getfield 49, 3) by decide +kernel) wd_498 rfl ?_
            refine V_getN (j := 9) (v := vI (SI σ_3 (SR σ_3 (SR σ_3 h0 0) 0) 9)) 66 rfl ck_Ground (by decide) (by decide) (show decode M_Trail_length.2.1 63 = .ok (.getfield 67, 3) by decide +kernel) wd_231 rfl ?_
            refine V_istore_n (fun x2_4 => [(2, vI x2_4), (0, vR h0), (1, vI x1)]) 67 rfl (show decode M_Trail_length.2.1 66 = .ok (.istore_n 2, 1) by decide +kernel) (by decide) (fun _ => rfl) (fun x2_4 => ?_)
            refine V_aload_n 68 rfl (show decode M_Trail_length.2.1 67 = .ok (.aload_n 0, 1) by decide +kernel) 1 rfl ?_
            refine V_get (j := 0) (v := vR (SR σ_3 h0 0)) 71 rfl ck_Trail (by decide) (by decide) (show decode M_Trail_length.2.1 68 = .ok (.getfield 10, 3) by decide +kernel) wd_599 rfl ?_
            refine V_getN (j := 0) (v := vR (SR σ_3 (SR σ_3 h0 0) 0)) 74 rfl ck_World (by decide) (by decide) (show decode M_Trail_length.2.1 71 = .ok (.getfield 49, 3) by decide +kernel) wd_498 rfl ?_
            refine V_iload_n 75 rfl (show decode M_Trail_length.2.1 74 = .ok (.iload_n 1, 1) by decide +kernel) 2 rfl ?_
            refine V_putIN (j := 9) 78 rfl ck_Ground (by decide) (by decide) (show decode M_Trail_length.2.1 75 = .ok (.putfield 67, 3) by decide +kernel) wd_231 rfl (fun _ => rfl) rfl rfl (fun σ_5 => ?_)
            refine V_iload_n 79 rfl (show decode M_Trail_length.2.1 78 = .ok (.iload_n 2, 1) by decide +kernel) 0 rfl ?_
            exact V_iret rfl (by decide) (by decide) (show decode M_Trail_length.2.1 79 = .ok (.ireturn, 1) by decide +kernel)
          · skip
            exact V_sub [] rfl (hJ53 b_3 σ_3)
        · skip
          exact V_sub [] rfl (hJ53 b_2 σ_2)
theorem cal_Trail_length (d mc ms k n : Nat) (h1 : 2 + 1 ≤ d) (h2 : k + 0 ≤ mc) (h3 : n + 0 ≤ ms) : Cal M_Trail_length 2 0 0 1 d mc ms k n := ⟨wd_627, wd_170, by decide, h1, by decide, h2, h3⟩
abbrev M_Trail_mark : MD := (⟨"LongTrail", "mark", "(III)I"⟩, prog_1_method_39_code, 7, (some FieldType.int))
def f_Trail_mark (h0 : Nat) (x1 : Int32) (x2 : Int32) (x3 : Int32) (b : Bool) (σ : Sto) : Rs Int32 := (bd_ (f_Trail_hasSheet h0 x1 (b && cK σ h0 12) σ) (fun (r_1 : Int32) (b_1 : Bool) (σ_1 : Sto) => (if r_1 = 0 then ((-1000000001 : Int32), b_1, σ_1) else (lt_ (SR σ_1 (SR σ_1 h0 4) (ix x1)) (fun (h4_2 : Nat) => (if (SI σ_1 h4_2 0) = (-1 : Int32) then ((-1000000011 : Int32), (((b_1 && cK σ_1 h0 12) && cA σ_1 (SR σ_1 h0 4) 27 x1) && cK σ_1 h4_2 6), σ_1) else (bd_ (f_Trail_within x2 (0 : Int32) ((SI σ_1 h4_2 1) - (1 : Int32)) ((((b_1 && cK σ_1 h0 12) && cA σ_1 (SR σ_1 h0 4) 27 x1) && cK σ_1 h4_2 6) && cK σ_1 h4_2 6) σ_1) (fun (r_3 : Int32) (b_3 : Bool) (σ_3 : Sto) => (if r_3 = 0 then ((-1000000013 : Int32), b_3, σ_3) else (lt_ (SL σ_3 (SR σ_3 h4_2 2) (ix x2)) (fun (l5_4 : Int64) => (lt_ (fun (s0_82 : Int64) (s1_82 : Int32) (s2_82 : Nat) (b : Bool) (σ : Sto) => (lt_ (pL σ s2_82 (ix s1_82) s0_82) (fun (σ_5 : Sto) => (((l5_4).toInt32), (b && cA σ s2_82 23 s1_82), σ_5)))) (fun J82 => (if (SI σ_3 h4_2 0) = 0 then (J82 ((((x3).toInt8.toInt32)).toInt64) x2 (SR σ_3 h4_2 2) ((((b_3 && cK σ_3 h4_2 6) && cA σ_3 (SR σ_3 h4_2 2) 23 x2) && cK σ_3 h4_2 6) && cK σ_3 h4_2 6) σ_3) else (J82 ((x3).toInt64) x2 (SR σ_3 h4_2 2) ((((b_3 && cK σ_3 h4_2 6) && cA σ_3 (SR σ_3 h4_2 2) 23 x2) && cK σ_3 h4_2 6) && cK σ_3 h4_2 6) σ_3)))))))))))))))
set_option maxRecDepth 100000 in
set_option maxHeartbeats 4000000 in
theorem s_Trail_mark : ∀ (h0 : Nat) (x1 : Int32) (x2 : Int32) (x3 : Int32) (b : Bool) (σ : Sto), Snd M_Trail_mark 3 0 0 [vR h0, vI x1, vI x2, vI x3] b σ (tI (f_Trail_mark h0 x1 x2 x3 b σ).1) (f_Trail_mark h0 x1 x2 x3 b σ).2.1 (f_Trail_mark h0 x1 x2 x3 b σ).2.2 := by
  intro h0 x1 x2 x3 b σ
  refine Snd_of (tv := tI) (by decide) (Nat.le_of_ble_eq_true rfl) ?_
  show V M_Trail_mark 3 0 0 0 0 tI (f_Trail_mark h0 x1 x2 x3 b σ) 0 [(0, vR h0), (1, vI x1), (2, vI x2), (3, vI x3)] [] b σ
  unfold f_Trail_mark
  refine V_aload_n 1 rfl (show decode M_Trail_mark.2.1 0 = .ok (.aload_n 0, 1) by decide +kernel) 0 rfl ?_
  refine V_iload_n 2 rfl (show decode M_Trail_mark.2.1 1 = .ok (.iload_n 1, 1) by decide +kernel) 1 rfl ?_
  refine V_callV (tb := tI) (as := [vI x1]) (rest := []) (na := 1) 5 rfl ck_Trail (by decide) (s_Trail_hasSheet h0 x1 (b && cK σ h0 12) σ) rfl rfl (Nat.le_of_ble_eq_true rfl) (cal_Trail_hasSheet _ _ _ _ _ (by decide) (by decide) (by decide)) (show decode M_Trail_mark.2.1 2 = .ok (.invokevirtual 360, 3) by decide +kernel) wd_1423 wd_1425 wd_103 (fun r_1 b_1 σ_1 => ?_)
  show V M_Trail_mark 3 0 0 0 0 tI _ 5 [(0, vR h0), (1, vI x1), (2, vI x2), (3, vI x3)] [vI r_1] b_1 σ_1
  refine V_ifne 8 11 rfl (show decode M_Trail_mark.2.1 5 = .ok (.ifCond .ne 6, 3) by decide +kernel) rfl ?_ ?_
  · skip
    refine V_ldc 10 rfl (show decode M_Trail_mark.2.1 8 = .ok (.ldc 44, 2) by decide +kernel) wd_631 ?_
    exact V_iret rfl (by decide) (by decide) (show decode M_Trail_mark.2.1 10 = .ok (.ireturn, 1) by decide +kernel)
  · skip
    refine V_aload_n 12 rfl (show decode M_Trail_mark.2.1 11 = .ok (.aload_n 0, 1) by decide +kernel) 0 rfl ?_
    refine V_get (j := 4) (v := vR (SR σ_1 h0 4)) 15 rfl ck_Trail (by decide) (by decide) (show decode M_Trail_mark.2.1 12 = .ok (.getfield 32, 3) by decide +kernel) wd_603 rfl ?_
    refine V_iload_n 16 rfl (show decode M_Trail_mark.2.1 15 = .ok (.iload_n 1, 1) by decide +kernel) 1 rfl ?_
    refine V_ald_r27 17 rfl (show decode M_Trail_mark.2.1 16 = .ok (.aaload, 1) by decide +kernel) ?_
    refine V_astore (fun h4_2 => [(4, vR h4_2), (0, vR h0), (1, vI x1), (2, vI x2), (3, vI x3)]) 19 rfl (show decode M_Trail_mark.2.1 17 = .ok (.astore 4, 2) by decide +kernel) (by decide) (fun _ => rfl) (fun h4_2 => ?_)
    refine V_aload 21 rfl (show decode M_Trail_mark.2.1 19 = .ok (.aload 4, 2) by decide +kernel) 0 rfl ?_
    refine V_getN (j := 0) (v := vI (SI σ_1 h4_2 0)) 24 rfl ck_Sheet (by decide) (by decide) (show decode M_Trail_mark.2.1 21 = .ok (.getfield 368, 3) by decide +kernel) wd_587 rfl ?_
    refine V_iconst 25 rfl (show decode M_Trail_mark.2.1 24 = .ok (.iconst (-1), 1) by decide +kernel) (v := -1) rfl ?_
    refine V_icmpne 28 32 rfl (show decode M_Trail_mark.2.1 25 = .ok (.if_icmp .ne 7, 3) by decide +kernel) rfl ?_ ?_
    · skip
      refine V_ldcw 31 rfl (show decode M_Trail_mark.2.1 28 = .ok (.ldc_w 371, 3) by decide +kernel) wd_1439 ?_
      exact V_iret rfl (by decide) (by decide) (show decode M_Trail_mark.2.1 31 = .ok (.ireturn, 1) by decide +kernel)
    · skip
      refine V_iload_n 33 rfl (show decode M_Trail_mark.2.1 32 = .ok (.iload_n 2, 1) by decide +kernel) 3 rfl ?_
      refine V_iconst 34 rfl (show decode M_Trail_mark.2.1 33 = .ok (.iconst 0, 1) by decide +kernel) (v := 0) rfl ?_
      refine V_aload 36 rfl (show decode M_Trail_mark.2.1 34 = .ok (.aload 4, 2) by decide +kernel) 0 rfl ?_
      refine V_getN (j := 1) (v := vI (SI σ_1 h4_2 1)) 39 rfl ck_Sheet (by decide) (by decide) (show decode M_Trail_mark.2.1 36 = .ok (.getfield 372, 3) by decide +kernel) wd_589 rfl ?_
      refine V_iconst 40 rfl (show decode M_Trail_mark.2.1 39 = .ok (.iconst 1, 1) by decide +kernel) (v := 1) rfl ?_
      refine V_isub 41 rfl (show decode M_Trail_mark.2.1 40 = .ok (.isub, 1) by decide +kernel) ?_
      refine V_callS (tb := tI) (as := [vI x2, vI (0 : Int32), vI ((SI σ_1 h4_2 1) - (1 : Int32))]) (rest := []) (na := 3) 44 rfl (s_Trail_within x2 (0 : Int32) ((SI σ_1 h4_2 1) - (1 : Int32)) ((((b_1 && cK σ_1 h0 12) && cA σ_1 (SR σ_1 h0 4) 27 x1) && cK σ_1 h4_2 6) && cK σ_1 h4_2 6) σ_1) rfl rfl (Nat.le_of_ble_eq_true rfl) (cal_Trail_within _ _ _ _ _ (by decide) (by decide) (by decide)) (show decode M_Trail_mark.2.1 41 = .ok (.invokestatic 40, 3) by decide +kernel) wd_628 wd_629 (fun r_3 b_3 σ_3 => ?_)
      show V M_Trail_mark 3 0 0 0 0 tI _ 44 [(4, vR h4_2), (0, vR h0), (1, vI x1), (2, vI x2), (3, vI x3)] [vI r_3] b_3 σ_3
      refine V_ifne 47 51 rfl (show decode M_Trail_mark.2.1 44 = .ok (.ifCond .ne 7, 3) by decide +kernel) rfl ?_ ?_
      · skip
        refine V_ldcw 50 rfl (show decode M_Trail_mark.2.1 47 = .ok (.ldc_w 373, 3) by decide +kernel) wd_1440 ?_
        exact V_iret rfl (by decide) (by decide) (show decode M_Trail_mark.2.1 50 = .ok (.ireturn, 1) by decide +kernel)
      · skip
        refine V_aload 53 rfl (show decode M_Trail_mark.2.1 51 = .ok (.aload 4, 2) by decide +kernel) 0 rfl ?_
        refine V_getN (j := 2) (v := vR (SR σ_3 h4_2 2)) 56 rfl ck_Sheet (by decide) (by decide) (show decode M_Trail_mark.2.1 53 = .ok (.getfield 374, 3) by decide +kernel) wd_591 rfl ?_
        refine V_iload_n 57 rfl (show decode M_Trail_mark.2.1 56 = .ok (.iload_n 2, 1) by decide +kernel) 3 rfl ?_
        refine V_ald_long 58 rfl (show decode M_Trail_mark.2.1 57 = .ok (.laload, 1) by decide +kernel) ?_
        refine V_lstore (fun l5_4 => [(5, vL l5_4), (4, vR h4_2), (0, vR h0), (1, vI x1), (2, vI x2), (3, vI x3)]) 60 rfl (show decode M_Trail_mark.2.1 58 = .ok (.lstore 5, 2) by decide +kernel) (by decide) (fun _ => rfl) (fun l5_4 => ?_)
        refine V_aload 62 rfl (show decode M_Trail_mark.2.1 60 = .ok (.aload 4, 2) by decide +kernel) 1 rfl ?_
        refine V_getN (j := 2) (v := vR (SR σ_3 h4_2 2)) 65 rfl ck_Sheet (by decide) (by decide) (show decode M_Trail_mark.2.1 62 = .ok (.getfield 374, 3) by decide +kernel) wd_591 rfl ?_
        refine V_iload_n 66 rfl (show decode M_Trail_mark.2.1 65 = .ok (.iload_n 2, 1) by decide +kernel) 4 rfl ?_
        refine V_aload 68 rfl (show decode M_Trail_mark.2.1 66 = .ok (.aload 4, 2) by decide +kernel) 1 rfl ?_
        refine V_getN (j := 0) (v := vI (SI σ_3 h4_2 0)) 71 rfl ck_Sheet (by decide) (by decide) (show decode M_Trail_mark.2.1 68 = .ok (.getfield 368, 3) by decide +kernel) wd_587 rfl ?_
        refine V_jn (fun (J82 : Int64 → Int32 → Nat → Bool → Sto → Rs Int32) => ∀ (s0_82 : Int64) (s1_82 : Int32) (s2_82 : Nat) (b : Bool) (σ : Sto), V M_Trail_mark 3 0 0 0 0 tI (J82 s0_82 s1_82 s2_82 b σ) 82 [(5, vL l5_4)] [vL s0_82, vI s1_82, vR s2_82] b σ) ?_ (fun J82 hJ82 => ?_)
        · intro s0_82 s1_82 s2_82 b σ
          refine V_ast_long 83 rfl (show decode M_Trail_mark.2.1 82 = .ok (.lastore, 1) by decide +kernel) (fun σ_5 => ?_)
          refine V_lload 85 rfl (show decode M_Trail_mark.2.1 83 = .ok (.lload 5, 2) by decide +kernel) 0 rfl ?_
          refine V_l2i 86 rfl (show decode M_Trail_mark.2.1 85 = .ok (.l2i, 1) by decide +kernel) ?_
          exact V_iret rfl (by decide) (by decide) (show decode M_Trail_mark.2.1 86 = .ok (.ireturn, 1) by decide +kernel)
        · skip
          refine V_ifne 74 80 rfl (show decode M_Trail_mark.2.1 71 = .ok (.ifCond .ne 9, 3) by decide +kernel) rfl ?_ ?_
          · skip
            refine V_iload_n 75 rfl (show decode M_Trail_mark.2.1 74 = .ok (.iload_n 3, 1) by decide +kernel) 5 rfl ?_
            refine V_i2b 76 rfl (show decode M_Trail_mark.2.1 75 = .ok (.i2b, 1) by decide +kernel) ?_
            refine V_i2l 77 rfl (show decode M_Trail_mark.2.1 76 = .ok (.i2l, 1) by decide +kernel) ?_
            refine V_goto 82 (show decode M_Trail_mark.2.1 77 = .ok (.goto 5, 3) by decide +kernel) rfl ?_
            exact V_sub [0] rfl (hJ82 ((((x3).toInt8.toInt32)).toInt64) x2 (SR σ_3 h4_2 2) ((((b_3 && cK σ_3 h4_2 6) && cA σ_3 (SR σ_3 h4_2 2) 23 x2) && cK σ_3 h4_2 6) && cK σ_3 h4_2 6) σ_3)
          · skip
            refine V_iload_n 81 rfl (show decode M_Trail_mark.2.1 80 = .ok (.iload_n 3, 1) by decide +kernel) 5 rfl ?_
            refine V_i2l 82 rfl (show decode M_Trail_mark.2.1 81 = .ok (.i2l, 1) by decide +kernel) ?_
            exact V_sub [0] rfl (hJ82 ((x3).toInt64) x2 (SR σ_3 h4_2 2) ((((b_3 && cK σ_3 h4_2 6) && cA σ_3 (SR σ_3 h4_2 2) 23 x2) && cK σ_3 h4_2 6) && cK σ_3 h4_2 6) σ_3)
theorem cal_Trail_mark (d mc ms k n : Nat) (h1 : 3 + 1 ≤ d) (h2 : k + 0 ≤ mc) (h3 : n + 0 ≤ ms) : Cal M_Trail_mark 3 0 0 3 d mc ms k n := ⟨wd_1438, wd_170, by decide, h1, by decide, h2, h3⟩
abbrev M_Supply_leastMinutes : MD := (⟨"LongTrail$Supply", "leastMinutes", "(II)I"⟩, prog_8_method_4_code, 7, (some FieldType.int))
def b_Supply_leastMinutes_29 (h0 : Nat) (x2 : Int32) (x3 : Int32) (L18 : Int32 → Bool → Sto → Rs Int32) (L29 : Int32 → Bool → Sto → Rs Int32) (x4 : Int32) (b : Bool) (σ : Sto) : Rs Int32 := (if x4 < (SI σ h0 4) then (lt_ (SI σ (SR σ h0 1) (ix x4)) (fun (x5_5 : Int32) => (lt_ (SI σ (SR σ h0 2) (ix x4)) (fun (x6_6 : Int32) => (lt_ (pI σ (SR σ h0 5) (ix x5_5) (mnI (SI σ (SR σ h0 5) (ix x5_5)) ((SI σ (SR σ h0 5) (ix x6_6)) + (SI σ (SR σ h0 3) (ix x4))))) (fun (σ_7 : Sto) => (lt_ (pI σ_7 (SR σ_7 h0 5) (ix x6_6) (mnI (SI σ_7 (SR σ_7 h0 5) (ix x6_6)) ((SI σ_7 (SR σ_7 h0 5) (ix x5_5)) + (SI σ_7 (SR σ_7 h0 3) (ix x4))))) (fun (σ_8 : Sto) => (lt_ (x4 + (1 : Int32)) (fun (x4_9 : Int32) => (L29 x4_9 (((((((((((((((((((((b && cK σ h0 7) && cK σ h0 7) && cA σ (SR σ h0 1) 21 x4) && cK σ h0 7) && cA σ (SR σ h0 2) 21 x4) && cK σ h0 7) && cK σ h0 7) && cA σ (SR σ h0 5) 21 x5_5) && cK σ h0 7) && cA σ (SR σ h0 5) 21 x6_6) && cK σ h0 7) && cA σ (SR σ h0 3) 21 x4) && cA σ (SR σ h0 5) 21 x5_5) && cK σ_7 h0 7) && cK σ_7 h0 7) && cA σ_7 (SR σ_7 h0 5) 21 x6_6) && cK σ_7 h0 7) && cA σ_7 (SR σ_7 h0 5) 21 x5_5) && cK σ_7 h0 7) && cA σ_7 (SR σ_7 h0 3) 21 x4) && cA σ_7 (SR σ_7 h0 5) 21 x6_6) σ_8))))))))))) else (lt_ (x3 + (1 : Int32)) (fun (x3_10 : Int32) => (L18 x3_10 (b && cK σ h0 7) σ))))
def b_Supply_leastMinutes_18 (h0 : Nat) (x2 : Int32) (L18 : Int32 → Bool → Sto → Rs Int32) (x3 : Int32) (b : Bool) (σ : Sto) : Rs Int32 := (if x3 < (SI σ h0 4) then (lt_ (0 : Int32) (fun (x4_4 : Int32) => (lp_ (b_Supply_leastMinutes_29 h0 x2 x3 L18) (fun (x4 : Int32) (b : Bool) (σ : Sto) => (0, false, σ)) fuel_ x4_4 (b && cK σ h0 7) σ))) else (if (SI σ (SR σ h0 5) (ix x2)) < (1000000 : Int32) then ((SI σ (SR σ h0 5) (ix x2)), (((((b && cK σ h0 7) && cK σ h0 7) && cA σ (SR σ h0 5) 21 x2) && cK σ h0 7) && cA σ (SR σ h0 5) 21 x2), σ) else ((-1000000005 : Int32), (((b && cK σ h0 7) && cK σ h0 7) && cA σ (SR σ h0 5) 21 x2), σ)))
def f_Supply_leastMinutes (h0 : Nat) (x1 : Int32) (x2 : Int32) (b : Bool) (σ : Sto) : Rs Int32 := (bd_ (f_Arrays_fill_rIIV (SR σ h0 5) (1000000 : Int32) (b && cK σ h0 7) σ) (fun (r_1 : Unit) (b_1 : Bool) (σ_1 : Sto) => (lt_ (pI σ_1 (SR σ_1 h0 5) (ix x1) (0 : Int32)) (fun (σ_2 : Sto) => (lt_ (0 : Int32) (fun (x3_3 : Int32) => (lp_ (b_Supply_leastMinutes_18 h0 x2) (fun (x3 : Int32) (b : Bool) (σ : Sto) => (0, false, σ)) fuel_ x3_3 ((b_1 && cK σ_1 h0 7) && cA σ_1 (SR σ_1 h0 5) 21 x1) σ_2)))))))
set_option maxRecDepth 100000 in
set_option maxHeartbeats 4000000 in
theorem s_Supply_leastMinutes : ∀ (h0 : Nat) (x1 : Int32) (x2 : Int32) (b : Bool) (σ : Sto), Snd M_Supply_leastMinutes 2 0 0 [vR h0, vI x1, vI x2] b σ (tI (f_Supply_leastMinutes h0 x1 x2 b σ).1) (f_Supply_leastMinutes h0 x1 x2 b σ).2.1 (f_Supply_leastMinutes h0 x1 x2 b σ).2.2 := by
  intro h0 x1 x2 b σ
  refine Snd_of (tv := tI) (by decide) (Nat.le_of_ble_eq_true rfl) ?_
  show V M_Supply_leastMinutes 2 0 0 0 0 tI (f_Supply_leastMinutes h0 x1 x2 b σ) 0 [(0, vR h0), (1, vI x1), (2, vI x2)] [] b σ
  unfold f_Supply_leastMinutes
  refine V_aload_n 1 rfl (show decode M_Supply_leastMinutes.2.1 0 = .ok (.aload_n 0, 1) by decide +kernel) 0 rfl ?_
  refine V_get (j := 5) (v := vR (SR σ h0 5)) 4 rfl ck_Supply (by decide) (by decide) (show decode M_Supply_leastMinutes.2.1 1 = .ok (.getfield 27, 3) by decide +kernel) wd_366 rfl ?_
  refine V_ldc 6 rfl (show decode M_Supply_leastMinutes.2.1 4 = .ok (.ldc 46, 2) by decide +kernel) wd_1355 ?_
  refine V_callS (tb := tU) (as := [vR (SR σ h0 5), vI (1000000 : Int32)]) (rest := []) (na := 2) 9 rfl (s_Arrays_fill_rIIV (SR σ h0 5) (1000000 : Int32) (b && cK σ h0 7) σ) rfl rfl (Nat.le_of_ble_eq_true rfl) (cal_Arrays_fill_rIIV _ _ _ _ _ (by decide) (by decide) (by decide)) (show decode M_Supply_leastMinutes.2.1 6 = .ok (.invokestatic 47, 3) by decide +kernel) wd_1356 wd_1292 (fun r_1 b_1 σ_1 => ?_)
  show V M_Supply_leastMinutes 2 0 0 0 0 tI _ 9 [(0, vR h0), (1, vI x1), (2, vI x2)] [] b_1 σ_1
  refine V_aload_n 10 rfl (show decode M_Supply_leastMinutes.2.1 9 = .ok (.aload_n 0, 1) by decide +kernel) 0 rfl ?_
  refine V_get (j := 5) (v := vR (SR σ_1 h0 5)) 13 rfl ck_Supply (by decide) (by decide) (show decode M_Supply_leastMinutes.2.1 10 = .ok (.getfield 27, 3) by decide +kernel) wd_366 rfl ?_
  refine V_iload_n 14 rfl (show decode M_Supply_leastMinutes.2.1 13 = .ok (.iload_n 1, 1) by decide +kernel) 1 rfl ?_
  refine V_iconst 15 rfl (show decode M_Supply_leastMinutes.2.1 14 = .ok (.iconst 0, 1) by decide +kernel) (v := 0) rfl ?_
  refine V_ast_int 16 rfl (show decode M_Supply_leastMinutes.2.1 15 = .ok (.iastore, 1) by decide +kernel) (fun σ_2 => ?_)
  refine V_iconst 17 rfl (show decode M_Supply_leastMinutes.2.1 16 = .ok (.iconst 0, 1) by decide +kernel) (v := 0) rfl ?_
  refine V_istore_n (fun x3_3 => [(3, vI x3_3), (0, vR h0), (1, vI x1), (2, vI x2)]) 18 rfl (show decode M_Supply_leastMinutes.2.1 17 = .ok (.istore_n 3, 1) by decide +kernel) (by decide) (fun _ => rfl) (fun x3_3 => ?_)
  refine V_sub [1, 3, 0] rfl ?_
  refine lp_P (fun (L18 : Int32 → Bool → Sto → Rs Int32) => ∀ (x3 : Int32) (b : Bool) (σ : Sto), V M_Supply_leastMinutes 2 0 0 0 0 tI (L18 x3 b σ) 18 [(0, vR h0), (2, vI x2), (3, vI x3)] [] b σ) ?_ ?_ fuel_ x3_3 ((b_1 && cK σ_1 h0 7) && cA σ_1 (SR σ_1 h0 5) 21 x1) σ_2
  · intro x3 b σ; exact V_bad
  · intro L18 hL18 x3 b σ
    unfold b_Supply_leastMinutes_18
    refine V_iload_n 19 rfl (show decode M_Supply_leastMinutes.2.1 18 = .ok (.iload_n 3, 1) by decide +kernel) 2 rfl ?_
    refine V_aload_n 20 rfl (show decode M_Supply_leastMinutes.2.1 19 = .ok (.aload_n 0, 1) by decide +kernel) 0 rfl ?_
    refine V_get (j := 4) (v := vI (SI σ h0 4)) 23 rfl ck_Supply (by decide) (by decide) (show decode M_Supply_leastMinutes.2.1 20 = .ok (.getfield 43, 3) by decide +kernel) wd_364 rfl ?_
    refine V_icmpge 26 132 rfl (show decode M_Supply_leastMinutes.2.1 23 = .ok (.if_icmp .ge 109, 3) by decide +kernel) rfl ?_ ?_
    · skip
      refine V_iconst 27 rfl (show decode M_Supply_leastMinutes.2.1 26 = .ok (.iconst 0, 1) by decide +kernel) (v := 0) rfl ?_
      refine V_istore (fun x4_4 => [(4, vI x4_4), (0, vR h0), (2, vI x2), (3, vI x3)]) 29 rfl (show decode M_Supply_leastMinutes.2.1 27 = .ok (.istore 4, 2) by decide +kernel) (by decide) (fun _ => rfl) (fun x4_4 => ?_)
      refine V_sub [1, 2, 3, 0] rfl ?_
      refine lp_P (fun (L29 : Int32 → Bool → Sto → Rs Int32) => ∀ (x4 : Int32) (b : Bool) (σ : Sto), V M_Supply_leastMinutes 2 0 0 0 0 tI (L29 x4 b σ) 29 [(0, vR h0), (2, vI x2), (3, vI x3), (4, vI x4)] [] b σ) ?_ ?_ fuel_ x4_4 (b && cK σ h0 7) σ
      · intro x4 b σ; exact V_bad
      · intro L29 hL29 x4 b σ
        unfold b_Supply_leastMinutes_29
        refine V_iload 31 rfl (show decode M_Supply_leastMinutes.2.1 29 = .ok (.iload 4, 2) by decide +kernel) 3 rfl ?_
        refine V_aload_n 32 rfl (show decode M_Supply_leastMinutes.2.1 31 = .ok (.aload_n 0, 1) by decide +kernel) 0 rfl ?_
        refine V_get (j := 4) (v := vI (SI σ h0 4)) 35 rfl ck_Supply (by decide) (by decide) (show decode M_Supply_leastMinutes.2.1 32 = .ok (.getfield 43, 3) by decide +kernel) wd_364 rfl ?_
        refine V_icmpge 38 126 rfl (show decode M_Supply_leastMinutes.2.1 35 = .ok (.if_icmp .ge 91, 3) by decide +kernel) rfl ?_ ?_
        · skip
          refine V_aload_n 39 rfl (show decode M_Supply_leastMinutes.2.1 38 = .ok (.aload_n 0, 1) by decide +kernel) 0 rfl ?_
          refine V_get (j := 1) (v := vR (SR σ h0 1)) 42 rfl ck_Supply (by decide) (by decide) (show decode M_Supply_leastMinutes.2.1 39 = .ok (.getfield 15, 3) by decide +kernel) wd_361 rfl ?_
          refine V_iload 44 rfl (show decode M_Supply_leastMinutes.2.1 42 = .ok (.iload 4, 2) by decide +kernel) 3 rfl ?_
          refine V_ald_int 45 rfl (show decode M_Supply_leastMinutes.2.1 44 = .ok (.iaload, 1) by decide +kernel) ?_
          refine V_istore (fun x5_5 => [(5, vI x5_5), (0, vR h0), (2, vI x2), (3, vI x3), (4, vI x4)]) 47 rfl (show decode M_Supply_leastMinutes.2.1 45 = .ok (.istore 5, 2) by decide +kernel) (by decide) (fun _ => rfl) (fun x5_5 => ?_)
          refine V_aload_n 48 rfl (show decode M_Supply_leastMinutes.2.1 47 = .ok (.aload_n 0, 1) by decide +kernel) 1 rfl ?_
          refine V_get (j := 2) (v := vR (SR σ h0 2)) 51 rfl ck_Supply (by decide) (by decide) (show decode M_Supply_leastMinutes.2.1 48 = .ok (.getfield 19, 3) by decide +kernel) wd_362 rfl ?_
          refine V_iload 53 rfl (show decode M_Supply_leastMinutes.2.1 51 = .ok (.iload 4, 2) by decide +kernel) 4 rfl ?_
          refine V_ald_int 54 rfl (show decode M_Supply_leastMinutes.2.1 53 = .ok (.iaload, 1) by decide +kernel) ?_
          refine V_istore (fun x6_6 => [(6, vI x6_6), (5, vI x5_5), (0, vR h0), (2, vI x2), (3, vI x3), (4, vI x4)]) 56 rfl (show decode M_Supply_leastMinutes.2.1 54 = .ok (.istore 6, 2) by decide +kernel) (by decide) (fun _ => rfl) (fun x6_6 => ?_)
          refine V_aload_n 57 rfl (show decode M_Supply_leastMinutes.2.1 56 = .ok (.aload_n 0, 1) by decide +kernel) 2 rfl ?_
          refine V_get (j := 5) (v := vR (SR σ h0 5)) 60 rfl ck_Supply (by decide) (by decide) (show decode M_Supply_leastMinutes.2.1 57 = .ok (.getfield 27, 3) by decide +kernel) wd_366 rfl ?_
          refine V_iload 62 rfl (show decode M_Supply_leastMinutes.2.1 60 = .ok (.iload 5, 2) by decide +kernel) 1 rfl ?_
          refine V_aload_n 63 rfl (show decode M_Supply_leastMinutes.2.1 62 = .ok (.aload_n 0, 1) by decide +kernel) 2 rfl ?_
          refine V_get (j := 5) (v := vR (SR σ h0 5)) 66 rfl ck_Supply (by decide) (by decide) (show decode M_Supply_leastMinutes.2.1 63 = .ok (.getfield 27, 3) by decide +kernel) wd_366 rfl ?_
          refine V_iload 68 rfl (show decode M_Supply_leastMinutes.2.1 66 = .ok (.iload 5, 2) by decide +kernel) 1 rfl ?_
          refine V_ald_int 69 rfl (show decode M_Supply_leastMinutes.2.1 68 = .ok (.iaload, 1) by decide +kernel) ?_
          refine V_aload_n 70 rfl (show decode M_Supply_leastMinutes.2.1 69 = .ok (.aload_n 0, 1) by decide +kernel) 2 rfl ?_
          refine V_get (j := 5) (v := vR (SR σ h0 5)) 73 rfl ck_Supply (by decide) (by decide) (show decode M_Supply_leastMinutes.2.1 70 = .ok (.getfield 27, 3) by decide +kernel) wd_366 rfl ?_
          refine V_iload 75 rfl (show decode M_Supply_leastMinutes.2.1 73 = .ok (.iload 6, 2) by decide +kernel) 0 rfl ?_
          refine V_ald_int 76 rfl (show decode M_Supply_leastMinutes.2.1 75 = .ok (.iaload, 1) by decide +kernel) ?_
          refine V_aload_n 77 rfl (show decode M_Supply_leastMinutes.2.1 76 = .ok (.aload_n 0, 1) by decide +kernel) 2 rfl ?_
          refine V_get (j := 3) (v := vR (SR σ h0 3)) 80 rfl ck_Supply (by decide) (by decide) (show decode M_Supply_leastMinutes.2.1 77 = .ok (.getfield 22, 3) by decide +kernel) wd_363 rfl ?_
          refine V_iload 82 rfl (show decode M_Supply_leastMinutes.2.1 80 = .ok (.iload 4, 2) by decide +kernel) 5 rfl ?_
          refine V_ald_int 83 rfl (show decode M_Supply_leastMinutes.2.1 82 = .ok (.iaload, 1) by decide +kernel) ?_
          refine V_iadd 84 rfl (show decode M_Supply_leastMinutes.2.1 83 = .ok (.iadd, 1) by decide +kernel) ?_
          refine V_min 87 rfl (show decode M_Supply_leastMinutes.2.1 84 = .ok (.invokestatic 53, 3) by decide +kernel) wd_1357 wd_880 wd_186 wd_minc (by decide) (Nat.le_of_ble_eq_true rfl) (by decide) (by decide) ?_
          refine V_ast_int 88 rfl (show decode M_Supply_leastMinutes.2.1 87 = .ok (.iastore, 1) by decide +kernel) (fun σ_7 => ?_)
          refine V_aload_n 89 rfl (show decode M_Supply_leastMinutes.2.1 88 = .ok (.aload_n 0, 1) by decide +kernel) 2 rfl ?_
          refine V_get (j := 5) (v := vR (SR σ_7 h0 5)) 92 rfl ck_Supply (by decide) (by decide) (show decode M_Supply_leastMinutes.2.1 89 = .ok (.getfield 27, 3) by decide +kernel) wd_366 rfl ?_
          refine V_iload 94 rfl (show decode M_Supply_leastMinutes.2.1 92 = .ok (.iload 6, 2) by decide +kernel) 0 rfl ?_
          refine V_aload_n 95 rfl (show decode M_Supply_leastMinutes.2.1 94 = .ok (.aload_n 0, 1) by decide +kernel) 2 rfl ?_
          refine V_get (j := 5) (v := vR (SR σ_7 h0 5)) 98 rfl ck_Supply (by decide) (by decide) (show decode M_Supply_leastMinutes.2.1 95 = .ok (.getfield 27, 3) by decide +kernel) wd_366 rfl ?_
          refine V_iload 100 rfl (show decode M_Supply_leastMinutes.2.1 98 = .ok (.iload 6, 2) by decide +kernel) 0 rfl ?_
          refine V_ald_int 101 rfl (show decode M_Supply_leastMinutes.2.1 100 = .ok (.iaload, 1) by decide +kernel) ?_
          refine V_aload_n 102 rfl (show decode M_Supply_leastMinutes.2.1 101 = .ok (.aload_n 0, 1) by decide +kernel) 2 rfl ?_
          refine V_get (j := 5) (v := vR (SR σ_7 h0 5)) 105 rfl ck_Supply (by decide) (by decide) (show decode M_Supply_leastMinutes.2.1 102 = .ok (.getfield 27, 3) by decide +kernel) wd_366 rfl ?_
          refine V_iload 107 rfl (show decode M_Supply_leastMinutes.2.1 105 = .ok (.iload 5, 2) by decide +kernel) 1 rfl ?_
          refine V_ald_int 108 rfl (show decode M_Supply_leastMinutes.2.1 107 = .ok (.iaload, 1) by decide +kernel) ?_
          refine V_aload_n 109 rfl (show decode M_Supply_leastMinutes.2.1 108 = .ok (.aload_n 0, 1) by decide +kernel) 2 rfl ?_
          refine V_get (j := 3) (v := vR (SR σ_7 h0 3)) 112 rfl ck_Supply (by decide) (by decide) (show decode M_Supply_leastMinutes.2.1 109 = .ok (.getfield 22, 3) by decide +kernel) wd_363 rfl ?_
          refine V_iload 114 rfl (show decode M_Supply_leastMinutes.2.1 112 = .ok (.iload 4, 2) by decide +kernel) 5 rfl ?_
          refine V_ald_int 115 rfl (show decode M_Supply_leastMinutes.2.1 114 = .ok (.iaload, 1) by decide +kernel) ?_
          refine V_iadd 116 rfl (show decode M_Supply_leastMinutes.2.1 115 = .ok (.iadd, 1) by decide +kernel) ?_
          refine V_min 119 rfl (show decode M_Supply_leastMinutes.2.1 116 = .ok (.invokestatic 53, 3) by decide +kernel) wd_1357 wd_880 wd_186 wd_minc (by decide) (Nat.le_of_ble_eq_true rfl) (by decide) (by decide) ?_
          refine V_ast_int 120 rfl (show decode M_Supply_leastMinutes.2.1 119 = .ok (.iastore, 1) by decide +kernel) (fun σ_8 => ?_)
          refine V_iinc (fun x4_9 => [(4, vI x4_9), (6, vI x6_6), (5, vI x5_5), (0, vR h0), (2, vI x2), (3, vI x3)]) 123 rfl (show decode M_Supply_leastMinutes.2.1 120 = .ok (.iinc 4 1, 3) by decide +kernel) 5 rfl (w := 1) rfl (by decide) (fun _ => rfl) (fun x4_9 => ?_)
          refine V_goto 29 (show decode M_Supply_leastMinutes.2.1 123 = .ok (.goto (-94), 3) by decide +kernel) rfl ?_
          exact V_sub [3, 4, 5, 0] rfl (hL29 x4_9 (((((((((((((((((((((b && cK σ h0 7) && cK σ h0 7) && cA σ (SR σ h0 1) 21 x4) && cK σ h0 7) && cA σ (SR σ h0 2) 21 x4) && cK σ h0 7) && cK σ h0 7) && cA σ (SR σ h0 5) 21 x5_5) && cK σ h0 7) && cA σ (SR σ h0 5) 21 x6_6) && cK σ h0 7) && cA σ (SR σ h0 3) 21 x4) && cA σ (SR σ h0 5) 21 x5_5) && cK σ_7 h0 7) && cK σ_7 h0 7) && cA σ_7 (SR σ_7 h0 5) 21 x6_6) && cK σ_7 h0 7) && cA σ_7 (SR σ_7 h0 5) 21 x5_5) && cK σ_7 h0 7) && cA σ_7 (SR σ_7 h0 3) 21 x4) && cA σ_7 (SR σ_7 h0 5) 21 x6_6) σ_8)
        · skip
          refine V_iinc (fun x3_10 => [(3, vI x3_10), (0, vR h0), (2, vI x2), (4, vI x4)]) 129 rfl (show decode M_Supply_leastMinutes.2.1 126 = .ok (.iinc 3 1, 3) by decide +kernel) 2 rfl (w := 1) rfl (by decide) (fun _ => rfl) (fun x3_10 => ?_)
          refine V_goto 18 (show decode M_Supply_leastMinutes.2.1 129 = .ok (.goto (-111), 3) by decide +kernel) rfl ?_
          exact V_sub [1, 2, 0] rfl (hL18 x3_10 (b && cK σ h0 7) σ)
    · skip
      refine V_aload_n 133 rfl (show decode M_Supply_leastMinutes.2.1 132 = .ok (.aload_n 0, 1) by decide +kernel) 0 rfl ?_
      refine V_get (j := 5) (v := vR (SR σ h0 5)) 136 rfl ck_Supply (by decide) (by decide) (show decode M_Supply_leastMinutes.2.1 133 = .ok (.getfield 27, 3) by decide +kernel) wd_366 rfl ?_
      refine V_iload_n 137 rfl (show decode M_Supply_leastMinutes.2.1 136 = .ok (.iload_n 2, 1) by decide +kernel) 1 rfl ?_
      refine V_ald_int 138 rfl (show decode M_Supply_leastMinutes.2.1 137 = .ok (.iaload, 1) by decide +kernel) ?_
      refine V_ldc 140 rfl (show decode M_Supply_leastMinutes.2.1 138 = .ok (.ldc 46, 2) by decide +kernel) wd_1355 ?_
      refine V_icmplt 143 148 rfl (show decode M_Supply_leastMinutes.2.1 140 = .ok (.if_icmp .lt 8, 3) by decide +kernel) rfl ?_ ?_
      · skip
        refine V_aload_n 149 rfl (show decode M_Supply_leastMinutes.2.1 148 = .ok (.aload_n 0, 1) by decide +kernel) 0 rfl ?_
        refine V_get (j := 5) (v := vR (SR σ h0 5)) 152 rfl ck_Supply (by decide) (by decide) (show decode M_Supply_leastMinutes.2.1 149 = .ok (.getfield 27, 3) by decide +kernel) wd_366 rfl ?_
        refine V_iload_n 153 rfl (show decode M_Supply_leastMinutes.2.1 152 = .ok (.iload_n 2, 1) by decide +kernel) 1 rfl ?_
        refine V_ald_int 154 rfl (show decode M_Supply_leastMinutes.2.1 153 = .ok (.iaload, 1) by decide +kernel) ?_
        exact V_iret rfl (by decide) (by decide) (show decode M_Supply_leastMinutes.2.1 154 = .ok (.ireturn, 1) by decide +kernel)
      · skip
        refine V_ldc 145 rfl (show decode M_Supply_leastMinutes.2.1 143 = .ok (.ldc 59, 2) by decide +kernel) wd_1358 ?_
        refine V_goto 154 (show decode M_Supply_leastMinutes.2.1 145 = .ok (.goto 9, 3) by decide +kernel) rfl ?_
        exact V_iret rfl (by decide) (by decide) (show decode M_Supply_leastMinutes.2.1 154 = .ok (.ireturn, 1) by decide +kernel)
theorem cal_Supply_leastMinutes (d mc ms k n : Nat) (h1 : 2 + 1 ≤ d) (h2 : k + 0 ≤ mc) (h3 : n + 0 ≤ ms) : Cal M_Supply_leastMinutes 2 0 0 2 d mc ms k n := ⟨wd_1354, wd_176, by decide, h1, by decide, h2, h3⟩
abbrev M_Trail_minutes : MD := (⟨"LongTrail", "minutes", "(II)I"⟩, prog_1_method_34_code, 4, (some FieldType.int))
def f_Trail_minutes (h0 : Nat) (x1 : Int32) (x2 : Int32) (b : Bool) (σ : Sto) : Rs Int32 := (lt_ (SR σ (SR σ h0 0) 0) (fun (h3_1 : Nat) => (bd_ (f_Ground_hasPlace h3_1 x1 (((b && cK σ h0 12) && cK σ (SR σ h0 0) 11) && cK σ h3_1 2) σ) (fun (r_2 : Int32) (b_2 : Bool) (σ_2 : Sto) => (lt_ (fun (b : Bool) (σ : Sto) => ((-1000000001 : Int32), b, σ)) (fun J24 => (if r_2 = 0 then (J24 b_2 σ_2) else (bd_ (f_Ground_hasPlace h3_1 x2 (b_2 && cK σ_2 h3_1 2) σ_2) (fun (r_3 : Int32) (b_3 : Bool) (σ_3 : Sto) => (if r_3 = 0 then (J24 b_3 σ_3) else (bd_ (f_Ground_isTown h3_1 x1 (b_3 && cK σ_3 h3_1 2) σ_3) (fun (r_4 : Int32) (b_4 : Bool) (σ_4 : Sto) => (lt_ (fun (b : Bool) (σ : Sto) => ((-1000000012 : Int32), b, σ)) (fun J43 => (if r_4 = 0 then (J43 b_4 σ_4) else (bd_ (f_Ground_isTown h3_1 x2 (b_4 && cK σ_4 h3_1 2) σ_4) (fun (r_5 : Int32) (b_5 : Bool) (σ_5 : Sto) => (if r_5 = 0 then (J43 b_5 σ_5) else (bd_ (f_Supply_leastMinutes (SR σ_5 (SR σ_5 h0 0) 4) x1 x2 (((b_5 && cK σ_5 h0 12) && cK σ_5 (SR σ_5 h0 0) 11) && cK σ_5 (SR σ_5 (SR σ_5 h0 0) 4) 7) σ_5) (fun (r_6 : Int32) (b_6 : Bool) (σ_6 : Sto) => (r_6, b_6, σ_6)))))))))))))))))))))
set_option maxRecDepth 100000 in
set_option maxHeartbeats 4000000 in
theorem s_Trail_minutes : ∀ (h0 : Nat) (x1 : Int32) (x2 : Int32) (b : Bool) (σ : Sto), Snd M_Trail_minutes 3 0 0 [vR h0, vI x1, vI x2] b σ (tI (f_Trail_minutes h0 x1 x2 b σ).1) (f_Trail_minutes h0 x1 x2 b σ).2.1 (f_Trail_minutes h0 x1 x2 b σ).2.2 := by
  intro h0 x1 x2 b σ
  refine Snd_of (tv := tI) (by decide) (Nat.le_of_ble_eq_true rfl) ?_
  show V M_Trail_minutes 3 0 0 0 0 tI (f_Trail_minutes h0 x1 x2 b σ) 0 [(0, vR h0), (1, vI x1), (2, vI x2)] [] b σ
  unfold f_Trail_minutes
  refine V_aload_n 1 rfl (show decode M_Trail_minutes.2.1 0 = .ok (.aload_n 0, 1) by decide +kernel) 0 rfl ?_
  refine V_get (j := 0) (v := vR (SR σ h0 0)) 4 rfl ck_Trail (by decide) (by decide) (show decode M_Trail_minutes.2.1 1 = .ok (.getfield 10, 3) by decide +kernel) wd_599 rfl ?_
  refine V_getN (j := 0) (v := vR (SR σ (SR σ h0 0) 0)) 7 rfl ck_World (by decide) (by decide) (show decode M_Trail_minutes.2.1 4 = .ok (.getfield 49, 3) by decide +kernel) wd_498 rfl ?_
  refine V_astore_n (fun h3_1 => [(3, vR h3_1), (0, vR h0), (1, vI x1), (2, vI x2)]) 8 rfl (show decode M_Trail_minutes.2.1 7 = .ok (.astore_n 3, 1) by decide +kernel) (by decide) (fun _ => rfl) (fun h3_1 => ?_)
  refine V_aload_n 9 rfl (show decode M_Trail_minutes.2.1 8 = .ok (.aload_n 3, 1) by decide +kernel) 0 rfl ?_
  refine V_iload_n 10 rfl (show decode M_Trail_minutes.2.1 9 = .ok (.iload_n 1, 1) by decide +kernel) 2 rfl ?_
  refine V_callVN (tb := tI) (as := [vI x1]) (rest := []) (na := 1) 13 rfl ck_Ground (by decide) (s_Ground_hasPlace h3_1 x1 (((b && cK σ h0 12) && cK σ (SR σ h0 0) 11) && cK σ h3_1 2) σ) rfl rfl (Nat.le_of_ble_eq_true rfl) (cal_Ground_hasPlace _ _ _ _ _ (by decide) (by decide) (by decide)) (show decode M_Trail_minutes.2.1 10 = .ok (.invokevirtual 89, 3) by decide +kernel) wd_666 wd_668 wd_5 (fun r_2 b_2 σ_2 => ?_)
  show V M_Trail_minutes 3 0 0 0 0 tI _ 13 [(3, vR h3_1), (0, vR h0), (1, vI x1), (2, vI x2)] [vI r_2] b_2 σ_2
  refine V_jn (fun (J24 : Bool → Sto → Rs Int32) => ∀ (b : Bool) (σ : Sto), V M_Trail_minutes 3 0 0 0 0 tI (J24 b σ) 24 [] [] b σ) ?_ (fun J24 hJ24 => ?_)
  · intro b σ
    refine V_ldc 26 rfl (show decode M_Trail_minutes.2.1 24 = .ok (.ldc 44, 2) by decide +kernel) wd_631 ?_
    exact V_iret rfl (by decide) (by decide) (show decode M_Trail_minutes.2.1 26 = .ok (.ireturn, 1) by decide +kernel)
  · skip
    refine V_ifeq 16 24 rfl (show decode M_Trail_minutes.2.1 13 = .ok (.ifCond .eq 11, 3) by decide +kernel) rfl ?_ ?_
    · skip
      exact V_sub [] rfl (hJ24 b_2 σ_2)
    · skip
      refine V_aload_n 17 rfl (show decode M_Trail_minutes.2.1 16 = .ok (.aload_n 3, 1) by decide +kernel) 0 rfl ?_
      refine V_iload_n 18 rfl (show decode M_Trail_minutes.2.1 17 = .ok (.iload_n 2, 1) by decide +kernel) 3 rfl ?_
      refine V_callVN (tb := tI) (as := [vI x2]) (rest := []) (na := 1) 21 rfl ck_Ground (by decide) (s_Ground_hasPlace h3_1 x2 (b_2 && cK σ_2 h3_1 2) σ_2) rfl rfl (Nat.le_of_ble_eq_true rfl) (cal_Ground_hasPlace _ _ _ _ _ (by decide) (by decide) (by decide)) (show decode M_Trail_minutes.2.1 18 = .ok (.invokevirtual 89, 3) by decide +kernel) wd_666 wd_668 wd_5 (fun r_3 b_3 σ_3 => ?_)
      show V M_Trail_minutes 3 0 0 0 0 tI _ 21 [(3, vR h3_1), (0, vR h0), (1, vI x1), (2, vI x2)] [vI r_3] b_3 σ_3
      refine V_ifne 24 27 rfl (show decode M_Trail_minutes.2.1 21 = .ok (.ifCond .ne 6, 3) by decide +kernel) rfl ?_ ?_
      · skip
        exact V_sub [] rfl (hJ24 b_3 σ_3)
      · skip
        refine V_aload_n 28 rfl (show decode M_Trail_minutes.2.1 27 = .ok (.aload_n 3, 1) by decide +kernel) 0 rfl ?_
        refine V_iload_n 29 rfl (show decode M_Trail_minutes.2.1 28 = .ok (.iload_n 1, 1) by decide +kernel) 2 rfl ?_
        refine V_callVN (tb := tI) (as := [vI x1]) (rest := []) (na := 1) 32 rfl ck_Ground (by decide) (s_Ground_isTown h3_1 x1 (b_3 && cK σ_3 h3_1 2) σ_3) rfl rfl (Nat.le_of_ble_eq_true rfl) (cal_Ground_isTown _ _ _ _ _ (by decide) (by decide) (by decide)) (show decode M_Trail_minutes.2.1 29 = .ok (.invokevirtual 120, 3) by decide +kernel) wd_697 wd_699 wd_10 (fun r_4 b_4 σ_4 => ?_)
        show V M_Trail_minutes 3 0 0 0 0 tI _ 32 [(3, vR h3_1), (0, vR h0), (1, vI x1), (2, vI x2)] [vI r_4] b_4 σ_4
        refine V_jn (fun (J43 : Bool → Sto → Rs Int32) => ∀ (b : Bool) (σ : Sto), V M_Trail_minutes 3 0 0 0 0 tI (J43 b σ) 43 [] [] b σ) ?_ (fun J43 hJ43 => ?_)
        · intro b σ
          refine V_ldc 45 rfl (show decode M_Trail_minutes.2.1 43 = .ok (.ldc 119, 2) by decide +kernel) wd_692 ?_
          exact V_iret rfl (by decide) (by decide) (show decode M_Trail_minutes.2.1 45 = .ok (.ireturn, 1) by decide +kernel)
        · skip
          refine V_ifeq 35 43 rfl (show decode M_Trail_minutes.2.1 32 = .ok (.ifCond .eq 11, 3) by decide +kernel) rfl ?_ ?_
          · skip
            exact V_sub [] rfl (hJ43 b_4 σ_4)
          · skip
            refine V_aload_n 36 rfl (show decode M_Trail_minutes.2.1 35 = .ok (.aload_n 3, 1) by decide +kernel) 0 rfl ?_
            refine V_iload_n 37 rfl (show decode M_Trail_minutes.2.1 36 = .ok (.iload_n 2, 1) by decide +kernel) 3 rfl ?_
            refine V_callVN (tb := tI) (as := [vI x2]) (rest := []) (na := 1) 40 rfl ck_Ground (by decide) (s_Ground_isTown h3_1 x2 (b_4 && cK σ_4 h3_1 2) σ_4) rfl rfl (Nat.le_of_ble_eq_true rfl) (cal_Ground_isTown _ _ _ _ _ (by decide) (by decide) (by decide)) (show decode M_Trail_minutes.2.1 37 = .ok (.invokevirtual 120, 3) by decide +kernel) wd_697 wd_699 wd_10 (fun r_5 b_5 σ_5 => ?_)
            show V M_Trail_minutes 3 0 0 0 0 tI _ 40 [(3, vR h3_1), (0, vR h0), (1, vI x1), (2, vI x2)] [vI r_5] b_5 σ_5
            refine V_ifne 43 46 rfl (show decode M_Trail_minutes.2.1 40 = .ok (.ifCond .ne 6, 3) by decide +kernel) rfl ?_ ?_
            · skip
              exact V_sub [] rfl (hJ43 b_5 σ_5)
            · skip
              refine V_aload_n 47 rfl (show decode M_Trail_minutes.2.1 46 = .ok (.aload_n 0, 1) by decide +kernel) 1 rfl ?_
              refine V_get (j := 0) (v := vR (SR σ_5 h0 0)) 50 rfl ck_Trail (by decide) (by decide) (show decode M_Trail_minutes.2.1 47 = .ok (.getfield 10, 3) by decide +kernel) wd_599 rfl ?_
              refine V_getN (j := 4) (v := vR (SR σ_5 (SR σ_5 h0 0) 4)) 53 rfl ck_World (by decide) (by decide) (show decode M_Trail_minutes.2.1 50 = .ok (.getfield 297, 3) by decide +kernel) wd_506 rfl ?_
              refine V_iload_n 54 rfl (show decode M_Trail_minutes.2.1 53 = .ok (.iload_n 1, 1) by decide +kernel) 2 rfl ?_
              refine V_iload_n 55 rfl (show decode M_Trail_minutes.2.1 54 = .ok (.iload_n 2, 1) by decide +kernel) 3 rfl ?_
              refine V_callVN (tb := tI) (as := [vI x1, vI x2]) (rest := []) (na := 2) 58 rfl ck_Supply (by decide) (s_Supply_leastMinutes (SR σ_5 (SR σ_5 h0 0) 4) x1 x2 (((b_5 && cK σ_5 h0 12) && cK σ_5 (SR σ_5 h0 0) 11) && cK σ_5 (SR σ_5 (SR σ_5 h0 0) 4) 7) σ_5) rfl rfl (Nat.le_of_ble_eq_true rfl) (cal_Supply_leastMinutes _ _ _ _ _ (by decide) (by decide) (by decide)) (show decode M_Trail_minutes.2.1 55 = .ok (.invokevirtual 326, 3) by decide +kernel) wd_1351 wd_1353 wd_91 (fun r_6 b_6 σ_6 => ?_)
              show V M_Trail_minutes 3 0 0 0 0 tI _ 58 [(3, vR h3_1), (0, vR h0), (1, vI x1), (2, vI x2)] [vI r_6] b_6 σ_6
              exact V_iret rfl (by decide) (by decide) (show decode M_Trail_minutes.2.1 58 = .ok (.ireturn, 1) by decide +kernel)
theorem cal_Trail_minutes (d mc ms k n : Nat) (h1 : 3 + 1 ≤ d) (h2 : k + 0 ≤ mc) (h3 : n + 0 ≤ ms) : Cal M_Trail_minutes 3 0 0 2 d mc ms k n := ⟨wd_1350, wd_170, by decide, h1, by decide, h2, h3⟩
abbrev M_Trail_of : MD := (⟨"LongTrail", "of", "(II)I"⟩, prog_1_method_15_code, 4, (some FieldType.int))
def f_Trail_of (h0 : Nat) (x1 : Int32) (x2 : Int32) (b : Bool) (σ : Sto) : Rs Int32 := (bd_ (f_Laws_textOf (SR σ (SR σ h0 0) 1) x1 (((b && cK σ h0 12) && cK σ (SR σ h0 0) 11) && cK σ (SR σ (SR σ h0 0) 1) 3) σ) (fun (r_1 : Nat) (b_1 : Bool) (σ_1 : Sto) => (lt_ r_1 (fun (h3_2 : Nat) => (if h3_2 = 0 then ((-1000000001 : Int32), b_1, σ_1) else (if x2 = (0 : Int32) then ((SI σ_1 h3_2 0), (b_1 && cK σ_1 h3_2 9), σ_1) else (if x2 = (1 : Int32) then ((SI σ_1 h3_2 1), (b_1 && cK σ_1 h3_2 9), σ_1) else (if x2 = (2 : Int32) then ((SI σ_1 h3_2 2), (b_1 && cK σ_1 h3_2 9), σ_1) else (if x2 = (3 : Int32) then ((SI σ_1 h3_2 3), (b_1 && cK σ_1 h3_2 9), σ_1) else ((-1000000001 : Int32), b_1, σ_1))))))))))
set_option maxRecDepth 100000 in
set_option maxHeartbeats 4000000 in
theorem s_Trail_of : ∀ (h0 : Nat) (x1 : Int32) (x2 : Int32) (b : Bool) (σ : Sto), Snd M_Trail_of 3 0 0 [vR h0, vI x1, vI x2] b σ (tI (f_Trail_of h0 x1 x2 b σ).1) (f_Trail_of h0 x1 x2 b σ).2.1 (f_Trail_of h0 x1 x2 b σ).2.2 := by
  intro h0 x1 x2 b σ
  refine Snd_of (tv := tI) (by decide) (Nat.le_of_ble_eq_true rfl) ?_
  show V M_Trail_of 3 0 0 0 0 tI (f_Trail_of h0 x1 x2 b σ) 0 [(0, vR h0), (1, vI x1), (2, vI x2)] [] b σ
  unfold f_Trail_of
  refine V_aload_n 1 rfl (show decode M_Trail_of.2.1 0 = .ok (.aload_n 0, 1) by decide +kernel) 0 rfl ?_
  refine V_get (j := 0) (v := vR (SR σ h0 0)) 4 rfl ck_Trail (by decide) (by decide) (show decode M_Trail_of.2.1 1 = .ok (.getfield 10, 3) by decide +kernel) wd_599 rfl ?_
  refine V_getN (j := 1) (v := vR (SR σ (SR σ h0 0) 1)) 7 rfl ck_World (by decide) (by decide) (show decode M_Trail_of.2.1 4 = .ok (.getfield 158, 3) by decide +kernel) wd_500 rfl ?_
  refine V_iload_n 8 rfl (show decode M_Trail_of.2.1 7 = .ok (.iload_n 1, 1) by decide +kernel) 1 rfl ?_
  refine V_callVN (tb := tR) (as := [vI x1]) (rest := []) (na := 1) 11 rfl ck_Laws (by decide) (s_Laws_textOf (SR σ (SR σ h0 0) 1) x1 (((b && cK σ h0 12) && cK σ (SR σ h0 0) 11) && cK σ (SR σ (SR σ h0 0) 1) 3) σ) rfl rfl (Nat.le_of_ble_eq_true rfl) (cal_Laws_textOf _ _ _ _ _ (by decide) (by decide) (by decide)) (show decode M_Trail_of.2.1 8 = .ok (.invokevirtual 173, 3) by decide +kernel) wd_991 wd_993 wd_32 (fun r_1 b_1 σ_1 => ?_)
  show V M_Trail_of 3 0 0 0 0 tI _ 11 [(0, vR h0), (1, vI x1), (2, vI x2)] [vR r_1] b_1 σ_1
  refine V_astore_n (fun h3_2 => [(3, vR h3_2), (0, vR h0), (1, vI x1), (2, vI x2)]) 12 rfl (show decode M_Trail_of.2.1 11 = .ok (.astore_n 3, 1) by decide +kernel) (by decide) (fun _ => rfl) (fun h3_2 => ?_)
  refine V_aload_n 13 rfl (show decode M_Trail_of.2.1 12 = .ok (.aload_n 3, 1) by decide +kernel) 0 rfl ?_
  refine V_ifnonnull 16 19 rfl (show decode M_Trail_of.2.1 13 = .ok (.ifnonnull 6, 3) by decide +kernel) rfl ?_ ?_
  · skip
    refine V_ldc 18 rfl (show decode M_Trail_of.2.1 16 = .ok (.ldc 44, 2) by decide +kernel) wd_631 ?_
    exact V_iret rfl (by decide) (by decide) (show decode M_Trail_of.2.1 18 = .ok (.ireturn, 1) by decide +kernel)
  · skip
    refine V_iload_n 20 rfl (show decode M_Trail_of.2.1 19 = .ok (.iload_n 2, 1) by decide +kernel) 3 rfl ?_
    refine V_ite (fun hs20_0 => ?_) (fun hs20_0 => ?_)
    · refine V_tswIn (off := 32) 52 (show decode M_Trail_of.2.1 20 = .ok (.tableswitch 52 0 3 #[32, 37, 42, 47], 32) by decide +kernel) (by rw [hs20_0]; decide) (by rw [hs20_0]; decide) (by rw [hs20_0]; decide) rfl ?_
      refine V_aload_n 53 rfl (show decode M_Trail_of.2.1 52 = .ok (.aload_n 3, 1) by decide +kernel) 0 rfl ?_
      refine V_getN (j := 0) (v := vI (SI σ_1 h3_2 0)) 56 rfl ck_Text (by decide) (by decide) (show decode M_Trail_of.2.1 53 = .ok (.getfield 177, 3) by decide +kernel) wd_961 rfl ?_
      exact V_iret rfl (by decide) (by decide) (show decode M_Trail_of.2.1 56 = .ok (.ireturn, 1) by decide +kernel)
    refine V_ite (fun hs20_1 => ?_) (fun hs20_1 => ?_)
    · refine V_tswIn (off := 37) 57 (show decode M_Trail_of.2.1 20 = .ok (.tableswitch 52 0 3 #[32, 37, 42, 47], 32) by decide +kernel) (by rw [hs20_1]; decide) (by rw [hs20_1]; decide) (by rw [hs20_1]; decide) rfl ?_
      refine V_aload_n 58 rfl (show decode M_Trail_of.2.1 57 = .ok (.aload_n 3, 1) by decide +kernel) 0 rfl ?_
      refine V_getN (j := 1) (v := vI (SI σ_1 h3_2 1)) 61 rfl ck_Text (by decide) (by decide) (show decode M_Trail_of.2.1 58 = .ok (.getfield 182, 3) by decide +kernel) wd_964 rfl ?_
      exact V_iret rfl (by decide) (by decide) (show decode M_Trail_of.2.1 61 = .ok (.ireturn, 1) by decide +kernel)
    refine V_ite (fun hs20_2 => ?_) (fun hs20_2 => ?_)
    · refine V_tswIn (off := 42) 62 (show decode M_Trail_of.2.1 20 = .ok (.tableswitch 52 0 3 #[32, 37, 42, 47], 32) by decide +kernel) (by rw [hs20_2]; decide) (by rw [hs20_2]; decide) (by rw [hs20_2]; decide) rfl ?_
      refine V_aload_n 63 rfl (show decode M_Trail_of.2.1 62 = .ok (.aload_n 3, 1) by decide +kernel) 0 rfl ?_
      refine V_getN (j := 2) (v := vI (SI σ_1 h3_2 2)) 66 rfl ck_Text (by decide) (by decide) (show decode M_Trail_of.2.1 63 = .ok (.getfield 185, 3) by decide +kernel) wd_967 rfl ?_
      exact V_iret rfl (by decide) (by decide) (show decode M_Trail_of.2.1 66 = .ok (.ireturn, 1) by decide +kernel)
    refine V_ite (fun hs20_3 => ?_) (fun hs20_3 => ?_)
    · refine V_tswIn (off := 47) 67 (show decode M_Trail_of.2.1 20 = .ok (.tableswitch 52 0 3 #[32, 37, 42, 47], 32) by decide +kernel) (by rw [hs20_3]; decide) (by rw [hs20_3]; decide) (by rw [hs20_3]; decide) rfl ?_
      refine V_aload_n 68 rfl (show decode M_Trail_of.2.1 67 = .ok (.aload_n 3, 1) by decide +kernel) 0 rfl ?_
      refine V_getN (j := 3) (v := vI (SI σ_1 h3_2 3)) 71 rfl ck_Text (by decide) (by decide) (show decode M_Trail_of.2.1 68 = .ok (.getfield 186, 3) by decide +kernel) wd_969 rfl ?_
      exact V_iret rfl (by decide) (by decide) (show decode M_Trail_of.2.1 71 = .ok (.ireturn, 1) by decide +kernel)
    · refine V_tswD 72 (show decode M_Trail_of.2.1 20 = .ok (.tableswitch 52 0 3 #[32, 37, 42, 47], 32) by decide +kernel) rfl (by decide) ?_ ?_
      · intro z hz hz2
        have hm : z = 0 ∨ z = 1 ∨ z = 2 ∨ z = 3 := by simp at hz2; omega
        rcases hm with rfl | rfl | rfl | rfl
        · exact absurd (Int32.toInt_inj.mp (hz.trans (by decide))) hs20_0
        · exact absurd (Int32.toInt_inj.mp (hz.trans (by decide))) hs20_1
        · exact absurd (Int32.toInt_inj.mp (hz.trans (by decide))) hs20_2
        · exact absurd (Int32.toInt_inj.mp (hz.trans (by decide))) hs20_3
      · skip
        refine V_ldc 74 rfl (show decode M_Trail_of.2.1 72 = .ok (.ldc 44, 2) by decide +kernel) wd_631 ?_
        exact V_iret rfl (by decide) (by decide) (show decode M_Trail_of.2.1 74 = .ok (.ireturn, 1) by decide +kernel)
theorem cal_Trail_of (d mc ms k n : Nat) (h1 : 3 + 1 ≤ d) (h2 : k + 0 ≤ mc) (h3 : n + 0 ≤ ms) : Cal M_Trail_of 3 0 0 2 d mc ms k n := ⟨wd_990, wd_170, by decide, h1, by decide, h2, h3⟩
abbrev M_Album_addPicture : MD := (⟨"LongTrail$Album", "addPicture", "(II)I"⟩, prog_2_method_3_code, 3, (some FieldType.int))
def f_Album_addPicture (h0 : Nat) (x1 : Int32) (x2 : Int32) (b : Bool) (σ : Sto) : Rs Int32 := (lt_ (pI σ (SR σ h0 0) (ix (SI σ h0 2)) x1) (fun (σ_1 : Sto) => (lt_ (pI σ_1 (SR σ_1 h0 1) (ix (SI σ_1 h0 2)) x2) (fun (σ_2 : Sto) => (lt_ (pI σ_2 h0 2 ((SI σ_2 h0 2) + (1 : Int32))) (fun (σ_3 : Sto) => (((SI σ_3 h0 2) - (1 : Int32)), (((((((((b && cK σ h0 1) && cK σ h0 1) && cA σ (SR σ h0 0) 21 (SI σ h0 2)) && cK σ_1 h0 1) && cK σ_1 h0 1) && cA σ_1 (SR σ_1 h0 1) 21 (SI σ_1 h0 2)) && cK σ_2 h0 1) && cK σ_2 h0 1) && cK σ_3 h0 1), σ_3)))))))
set_option maxRecDepth 100000 in
set_option maxHeartbeats 4000000 in
theorem s_Album_addPicture : ∀ (h0 : Nat) (x1 : Int32) (x2 : Int32) (b : Bool) (σ : Sto), Snd M_Album_addPicture 1 0 0 [vR h0, vI x1, vI x2] b σ (tI (f_Album_addPicture h0 x1 x2 b σ).1) (f_Album_addPicture h0 x1 x2 b σ).2.1 (f_Album_addPicture h0 x1 x2 b σ).2.2 := by
  intro h0 x1 x2 b σ
  refine Snd_of (tv := tI) (by decide) (Nat.le_of_ble_eq_true rfl) ?_
  show V M_Album_addPicture 1 0 0 0 0 tI (f_Album_addPicture h0 x1 x2 b σ) 0 [(0, vR h0), (1, vI x1), (2, vI x2)] [] b σ
  unfold f_Album_addPicture
  refine V_aload_n 1 rfl (show decode M_Album_addPicture.2.1 0 = .ok (.aload_n 0, 1) by decide +kernel) 0 rfl ?_
  refine V_get (j := 0) (v := vR (SR σ h0 0)) 4 rfl ck_Album (by decide) (by decide) (show decode M_Album_addPicture.2.1 1 = .ok (.getfield 11, 3) by decide +kernel) wd_393 rfl ?_
  refine V_aload_n 5 rfl (show decode M_Album_addPicture.2.1 4 = .ok (.aload_n 0, 1) by decide +kernel) 0 rfl ?_
  refine V_get (j := 2) (v := vI (SI σ h0 2)) 8 rfl ck_Album (by decide) (by decide) (show decode M_Album_addPicture.2.1 5 = .ok (.getfield 36, 3) by decide +kernel) wd_395 rfl ?_
  refine V_iload_n 9 rfl (show decode M_Album_addPicture.2.1 8 = .ok (.iload_n 1, 1) by decide +kernel) 1 rfl ?_
  refine V_ast_int 10 rfl (show decode M_Album_addPicture.2.1 9 = .ok (.iastore, 1) by decide +kernel) (fun σ_1 => ?_)
  refine V_aload_n 11 rfl (show decode M_Album_addPicture.2.1 10 = .ok (.aload_n 0, 1) by decide +kernel) 0 rfl ?_
  refine V_get (j := 1) (v := vR (SR σ_1 h0 1)) 14 rfl ck_Album (by decide) (by decide) (show decode M_Album_addPicture.2.1 11 = .ok (.getfield 15, 3) by decide +kernel) wd_394 rfl ?_
  refine V_aload_n 15 rfl (show decode M_Album_addPicture.2.1 14 = .ok (.aload_n 0, 1) by decide +kernel) 0 rfl ?_
  refine V_get (j := 2) (v := vI (SI σ_1 h0 2)) 18 rfl ck_Album (by decide) (by decide) (show decode M_Album_addPicture.2.1 15 = .ok (.getfield 36, 3) by decide +kernel) wd_395 rfl ?_
  refine V_iload_n 19 rfl (show decode M_Album_addPicture.2.1 18 = .ok (.iload_n 2, 1) by decide +kernel) 2 rfl ?_
  refine V_ast_int 20 rfl (show decode M_Album_addPicture.2.1 19 = .ok (.iastore, 1) by decide +kernel) (fun σ_2 => ?_)
  refine V_aload_n 21 rfl (show decode M_Album_addPicture.2.1 20 = .ok (.aload_n 0, 1) by decide +kernel) 0 rfl ?_
  refine V_dup 22 rfl (show decode M_Album_addPicture.2.1 21 = .ok (.dup, 1) by decide +kernel) rfl ?_
  refine V_get (j := 2) (v := vI (SI σ_2 h0 2)) 25 rfl ck_Album (by decide) (by decide) (show decode M_Album_addPicture.2.1 22 = .ok (.getfield 36, 3) by decide +kernel) wd_395 rfl ?_
  refine V_iconst 26 rfl (show decode M_Album_addPicture.2.1 25 = .ok (.iconst 1, 1) by decide +kernel) (v := 1) rfl ?_
  refine V_iadd 27 rfl (show decode M_Album_addPicture.2.1 26 = .ok (.iadd, 1) by decide +kernel) ?_
  refine V_putI (j := 2) 30 rfl ck_Album (by decide) (by decide) (show decode M_Album_addPicture.2.1 27 = .ok (.putfield 36, 3) by decide +kernel) wd_395 rfl (fun _ => rfl) rfl rfl (fun σ_3 => ?_)
  refine V_aload_n 31 rfl (show decode M_Album_addPicture.2.1 30 = .ok (.aload_n 0, 1) by decide +kernel) 0 rfl ?_
  refine V_get (j := 2) (v := vI (SI σ_3 h0 2)) 34 rfl ck_Album (by decide) (by decide) (show decode M_Album_addPicture.2.1 31 = .ok (.getfield 36, 3) by decide +kernel) wd_395 rfl ?_
  refine V_iconst 35 rfl (show decode M_Album_addPicture.2.1 34 = .ok (.iconst 1, 1) by decide +kernel) (v := 1) rfl ?_
  refine V_isub 36 rfl (show decode M_Album_addPicture.2.1 35 = .ok (.isub, 1) by decide +kernel) ?_
  exact V_iret rfl (by decide) (by decide) (show decode M_Album_addPicture.2.1 36 = .ok (.ireturn, 1) by decide +kernel)
theorem cal_Album_addPicture (d mc ms k n : Nat) (h1 : 1 + 1 ≤ d) (h2 : k + 0 ≤ mc) (h3 : n + 0 ≤ ms) : Cal M_Album_addPicture 1 0 0 2 d mc ms k n := ⟨wd_1383, wd_177, by decide, h1, by decide, h2, h3⟩
abbrev M_Trail_picture : MD := (⟨"LongTrail", "picture", "(II)I"⟩, prog_1_method_36_code, 3, (some FieldType.int))
def f_Trail_picture (h0 : Nat) (x1 : Int32) (x2 : Int32) (b : Bool) (σ : Sto) : Rs Int32 := (bd_ (f_Trail_within x1 (0 : Int32) (999 : Int32) b σ) (fun (r_1 : Int32) (b_1 : Bool) (σ_1 : Sto) => (lt_ (fun (b : Bool) (σ : Sto) => ((-1000000001 : Int32), b, σ)) (fun J25 => (if r_1 = 0 then (J25 b_1 σ_1) else (bd_ (f_Ground_hasMile (SR σ_1 (SR σ_1 h0 0) 0) x2 (((b_1 && cK σ_1 h0 12) && cK σ_1 (SR σ_1 h0 0) 11) && cK σ_1 (SR σ_1 (SR σ_1 h0 0) 0) 2) σ_1) (fun (r_2 : Int32) (b_2 : Bool) (σ_2 : Sto) => (if r_2 = 0 then (J25 b_2 σ_2) else (if (SI σ_2 (SR σ_2 (SR σ_2 h0 0) 5) 2) < (20 : Int32) then (bd_ (f_Album_addPicture (SR σ_2 (SR σ_2 h0 0) 5) x1 x2 ((((((b_2 && cK σ_2 h0 12) && cK σ_2 (SR σ_2 h0 0) 11) && cK σ_2 (SR σ_2 (SR σ_2 h0 0) 5) 1) && cK σ_2 h0 12) && cK σ_2 (SR σ_2 h0 0) 11) && cK σ_2 (SR σ_2 (SR σ_2 h0 0) 5) 1) σ_2) (fun (r_3 : Int32) (b_3 : Bool) (σ_3 : Sto) => (r_3, b_3, σ_3))) else ((-1000000003 : Int32), (((b_2 && cK σ_2 h0 12) && cK σ_2 (SR σ_2 h0 0) 11) && cK σ_2 (SR σ_2 (SR σ_2 h0 0) 5) 1), σ_2))))))))))
set_option maxRecDepth 100000 in
set_option maxHeartbeats 4000000 in
theorem s_Trail_picture : ∀ (h0 : Nat) (x1 : Int32) (x2 : Int32) (b : Bool) (σ : Sto), Snd M_Trail_picture 3 0 0 [vR h0, vI x1, vI x2] b σ (tI (f_Trail_picture h0 x1 x2 b σ).1) (f_Trail_picture h0 x1 x2 b σ).2.1 (f_Trail_picture h0 x1 x2 b σ).2.2 := by
  intro h0 x1 x2 b σ
  refine Snd_of (tv := tI) (by decide) (Nat.le_of_ble_eq_true rfl) ?_
  show V M_Trail_picture 3 0 0 0 0 tI (f_Trail_picture h0 x1 x2 b σ) 0 [(0, vR h0), (1, vI x1), (2, vI x2)] [] b σ
  unfold f_Trail_picture
  refine V_iload_n 1 rfl (show decode M_Trail_picture.2.1 0 = .ok (.iload_n 1, 1) by decide +kernel) 1 rfl ?_
  refine V_iconst 2 rfl (show decode M_Trail_picture.2.1 1 = .ok (.iconst 0, 1) by decide +kernel) (v := 0) rfl ?_
  refine V_sipush 5 rfl (show decode M_Trail_picture.2.1 2 = .ok (.sipush 999, 3) by decide +kernel) (v := 999) rfl ?_
  refine V_callS (tb := tI) (as := [vI x1, vI (0 : Int32), vI (999 : Int32)]) (rest := []) (na := 3) 8 rfl (s_Trail_within x1 (0 : Int32) (999 : Int32) b σ) rfl rfl (Nat.le_of_ble_eq_true rfl) (cal_Trail_within _ _ _ _ _ (by decide) (by decide) (by decide)) (show decode M_Trail_picture.2.1 5 = .ok (.invokestatic 40, 3) by decide +kernel) wd_628 wd_629 (fun r_1 b_1 σ_1 => ?_)
  show V M_Trail_picture 3 0 0 0 0 tI _ 8 [(0, vR h0), (1, vI x1), (2, vI x2)] [vI r_1] b_1 σ_1
  refine V_jn (fun (J25 : Bool → Sto → Rs Int32) => ∀ (b : Bool) (σ : Sto), V M_Trail_picture 3 0 0 0 0 tI (J25 b σ) 25 [] [] b σ) ?_ (fun J25 hJ25 => ?_)
  · intro b σ
    refine V_ldc 27 rfl (show decode M_Trail_picture.2.1 25 = .ok (.ldc 44, 2) by decide +kernel) wd_631 ?_
    exact V_iret rfl (by decide) (by decide) (show decode M_Trail_picture.2.1 27 = .ok (.ireturn, 1) by decide +kernel)
  · skip
    refine V_ifeq 11 25 rfl (show decode M_Trail_picture.2.1 8 = .ok (.ifCond .eq 17, 3) by decide +kernel) rfl ?_ ?_
    · skip
      exact V_sub [] rfl (hJ25 b_1 σ_1)
    · skip
      refine V_aload_n 12 rfl (show decode M_Trail_picture.2.1 11 = .ok (.aload_n 0, 1) by decide +kernel) 0 rfl ?_
      refine V_get (j := 0) (v := vR (SR σ_1 h0 0)) 15 rfl ck_Trail (by decide) (by decide) (show decode M_Trail_picture.2.1 12 = .ok (.getfield 10, 3) by decide +kernel) wd_599 rfl ?_
      refine V_getN (j := 0) (v := vR (SR σ_1 (SR σ_1 h0 0) 0)) 18 rfl ck_World (by decide) (by decide) (show decode M_Trail_picture.2.1 15 = .ok (.getfield 49, 3) by decide +kernel) wd_498 rfl ?_
      refine V_iload_n 19 rfl (show decode M_Trail_picture.2.1 18 = .ok (.iload_n 2, 1) by decide +kernel) 2 rfl ?_
      refine V_callVN (tb := tI) (as := [vI x2]) (rest := []) (na := 1) 22 rfl ck_Ground (by decide) (s_Ground_hasMile (SR σ_1 (SR σ_1 h0 0) 0) x2 (((b_1 && cK σ_1 h0 12) && cK σ_1 (SR σ_1 h0 0) 11) && cK σ_1 (SR σ_1 (SR σ_1 h0 0) 0) 2) σ_1) rfl rfl (Nat.le_of_ble_eq_true rfl) (cal_Ground_hasMile _ _ _ _ _ (by decide) (by decide) (by decide)) (show decode M_Trail_picture.2.1 19 = .ok (.invokevirtual 70, 3) by decide +kernel) wd_645 wd_647 wd_2 (fun r_2 b_2 σ_2 => ?_)
      show V M_Trail_picture 3 0 0 0 0 tI _ 22 [(0, vR h0), (1, vI x1), (2, vI x2)] [vI r_2] b_2 σ_2
      refine V_ifne 25 28 rfl (show decode M_Trail_picture.2.1 22 = .ok (.ifCond .ne 6, 3) by decide +kernel) rfl ?_ ?_
      · skip
        exact V_sub [] rfl (hJ25 b_2 σ_2)
      · skip
        refine V_aload_n 29 rfl (show decode M_Trail_picture.2.1 28 = .ok (.aload_n 0, 1) by decide +kernel) 0 rfl ?_
        refine V_get (j := 0) (v := vR (SR σ_2 h0 0)) 32 rfl ck_Trail (by decide) (by decide) (show decode M_Trail_picture.2.1 29 = .ok (.getfield 10, 3) by decide +kernel) wd_599 rfl ?_
        refine V_getN (j := 5) (v := vR (SR σ_2 (SR σ_2 h0 0) 5)) 35 rfl ck_World (by decide) (by decide) (show decode M_Trail_picture.2.1 32 = .ok (.getfield 59, 3) by decide +kernel) wd_508 rfl ?_
        refine V_getN (j := 2) (v := vI (SI σ_2 (SR σ_2 (SR σ_2 h0 0) 5) 2)) 38 rfl ck_Album (by decide) (by decide) (show decode M_Trail_picture.2.1 35 = .ok (.getfield 344, 3) by decide +kernel) wd_396 rfl ?_
        refine V_bipush 40 rfl (show decode M_Trail_picture.2.1 38 = .ok (.bipush 20, 2) by decide +kernel) (v := 20) rfl ?_
        refine V_icmplt 43 46 rfl (show decode M_Trail_picture.2.1 40 = .ok (.if_icmp .lt 6, 3) by decide +kernel) rfl ?_ ?_
        · skip
          refine V_aload_n 47 rfl (show decode M_Trail_picture.2.1 46 = .ok (.aload_n 0, 1) by decide +kernel) 0 rfl ?_
          refine V_get (j := 0) (v := vR (SR σ_2 h0 0)) 50 rfl ck_Trail (by decide) (by decide) (show decode M_Trail_picture.2.1 47 = .ok (.getfield 10, 3) by decide +kernel) wd_599 rfl ?_
          refine V_getN (j := 5) (v := vR (SR σ_2 (SR σ_2 h0 0) 5)) 53 rfl ck_World (by decide) (by decide) (show decode M_Trail_picture.2.1 50 = .ok (.getfield 59, 3) by decide +kernel) wd_508 rfl ?_
          refine V_iload_n 54 rfl (show decode M_Trail_picture.2.1 53 = .ok (.iload_n 1, 1) by decide +kernel) 1 rfl ?_
          refine V_iload_n 55 rfl (show decode M_Trail_picture.2.1 54 = .ok (.iload_n 2, 1) by decide +kernel) 2 rfl ?_
          refine V_callVN (tb := tI) (as := [vI x1, vI x2]) (rest := []) (na := 2) 58 rfl ck_Album (by decide) (s_Album_addPicture (SR σ_2 (SR σ_2 h0 0) 5) x1 x2 ((((((b_2 && cK σ_2 h0 12) && cK σ_2 (SR σ_2 h0 0) 11) && cK σ_2 (SR σ_2 (SR σ_2 h0 0) 5) 1) && cK σ_2 h0 12) && cK σ_2 (SR σ_2 h0 0) 11) && cK σ_2 (SR σ_2 (SR σ_2 h0 0) 5) 1) σ_2) rfl rfl (Nat.le_of_ble_eq_true rfl) (cal_Album_addPicture _ _ _ _ _ (by decide) (by decide) (by decide)) (show decode M_Trail_picture.2.1 55 = .ok (.invokevirtual 345, 3) by decide +kernel) wd_1380 wd_1382 wd_95 (fun r_3 b_3 σ_3 => ?_)
          show V M_Trail_picture 3 0 0 0 0 tI _ 58 [(0, vR h0), (1, vI x1), (2, vI x2)] [vI r_3] b_3 σ_3
          exact V_iret rfl (by decide) (by decide) (show decode M_Trail_picture.2.1 58 = .ok (.ireturn, 1) by decide +kernel)
        · skip
          refine V_ldc 45 rfl (show decode M_Trail_picture.2.1 43 = .ok (.ldc 84, 2) by decide +kernel) wd_657 ?_
          exact V_iret rfl (by decide) (by decide) (show decode M_Trail_picture.2.1 45 = .ok (.ireturn, 1) by decide +kernel)
theorem cal_Trail_picture (d mc ms k n : Nat) (h1 : 3 + 1 ≤ d) (h2 : k + 0 ≤ mc) (h3 : n + 0 ≤ ms) : Cal M_Trail_picture 3 0 0 2 d mc ms k n := ⟨wd_1379, wd_170, by decide, h1, by decide, h2, h3⟩
abbrev M_Ground_addPlace : MD := (⟨"LongTrail$Ground", "addPlace", "(III)I"⟩, prog_3_method_7_code, 4, (some FieldType.int))
def f_Ground_addPlace (h0 : Nat) (x1 : Int32) (x2 : Int32) (x3 : Int32) (b : Bool) (σ : Sto) : Rs Int32 := (lt_ (pI σ (SR σ h0 0) (ix (SI σ h0 10)) x1) (fun (σ_1 : Sto) => (lt_ (pI σ_1 (SR σ_1 h0 1) (ix (SI σ_1 h0 10)) x2) (fun (σ_2 : Sto) => (lt_ (pI σ_2 (SR σ_2 h0 2) (ix (SI σ_2 h0 10)) x3) (fun (σ_3 : Sto) => (lt_ (pI σ_3 (SR σ_3 h0 3) (ix (SI σ_3 h0 10)) (0 : Int32)) (fun (σ_4 : Sto) => (lt_ (pI σ_4 h0 10 ((SI σ_4 h0 10) + (1 : Int32))) (fun (σ_5 : Sto) => (((SI σ_5 h0 10) - (1 : Int32)), (((((((((((((((b && cK σ h0 2) && cK σ h0 2) && cA σ (SR σ h0 0) 21 (SI σ h0 10)) && cK σ_1 h0 2) && cK σ_1 h0 2) && cA σ_1 (SR σ_1 h0 1) 21 (SI σ_1 h0 10)) && cK σ_2 h0 2) && cK σ_2 h0 2) && cA σ_2 (SR σ_2 h0 2) 21 (SI σ_2 h0 10)) && cK σ_3 h0 2) && cK σ_3 h0 2) && cA σ_3 (SR σ_3 h0 3) 21 (SI σ_3 h0 10)) && cK σ_4 h0 2) && cK σ_4 h0 2) && cK σ_5 h0 2), σ_5)))))))))))
set_option maxRecDepth 100000 in
set_option maxHeartbeats 4000000 in
theorem s_Ground_addPlace : ∀ (h0 : Nat) (x1 : Int32) (x2 : Int32) (x3 : Int32) (b : Bool) (σ : Sto), Snd M_Ground_addPlace 1 0 0 [vR h0, vI x1, vI x2, vI x3] b σ (tI (f_Ground_addPlace h0 x1 x2 x3 b σ).1) (f_Ground_addPlace h0 x1 x2 x3 b σ).2.1 (f_Ground_addPlace h0 x1 x2 x3 b σ).2.2 := by
  intro h0 x1 x2 x3 b σ
  refine Snd_of (tv := tI) (by decide) (Nat.le_of_ble_eq_true rfl) ?_
  show V M_Ground_addPlace 1 0 0 0 0 tI (f_Ground_addPlace h0 x1 x2 x3 b σ) 0 [(0, vR h0), (1, vI x1), (2, vI x2), (3, vI x3)] [] b σ
  unfold f_Ground_addPlace
  refine V_aload_n 1 rfl (show decode M_Ground_addPlace.2.1 0 = .ok (.aload_n 0, 1) by decide +kernel) 0 rfl ?_
  refine V_get (j := 0) (v := vR (SR σ h0 0)) 4 rfl ck_Ground (by decide) (by decide) (show decode M_Ground_addPlace.2.1 1 = .ok (.getfield 11, 3) by decide +kernel) wd_212 rfl ?_
  refine V_aload_n 5 rfl (show decode M_Ground_addPlace.2.1 4 = .ok (.aload_n 0, 1) by decide +kernel) 0 rfl ?_
  refine V_get (j := 10) (v := vI (SI σ h0 10)) 8 rfl ck_Ground (by decide) (by decide) (show decode M_Ground_addPlace.2.1 5 = .ok (.getfield 50, 3) by decide +kernel) wd_235 rfl ?_
  refine V_iload_n 9 rfl (show decode M_Ground_addPlace.2.1 8 = .ok (.iload_n 1, 1) by decide +kernel) 1 rfl ?_
  refine V_ast_int 10 rfl (show decode M_Ground_addPlace.2.1 9 = .ok (.iastore, 1) by decide +kernel) (fun σ_1 => ?_)
  refine V_aload_n 11 rfl (show decode M_Ground_addPlace.2.1 10 = .ok (.aload_n 0, 1) by decide +kernel) 0 rfl ?_
  refine V_get (j := 1) (v := vR (SR σ_1 h0 1)) 14 rfl ck_Ground (by decide) (by decide) (show decode M_Ground_addPlace.2.1 11 = .ok (.getfield 15, 3) by decide +kernel) wd_214 rfl ?_
  refine V_aload_n 15 rfl (show decode M_Ground_addPlace.2.1 14 = .ok (.aload_n 0, 1) by decide +kernel) 0 rfl ?_
  refine V_get (j := 10) (v := vI (SI σ_1 h0 10)) 18 rfl ck_Ground (by decide) (by decide) (show decode M_Ground_addPlace.2.1 15 = .ok (.getfield 50, 3) by decide +kernel) wd_235 rfl ?_
  refine V_iload_n 19 rfl (show decode M_Ground_addPlace.2.1 18 = .ok (.iload_n 2, 1) by decide +kernel) 2 rfl ?_
  refine V_ast_int 20 rfl (show decode M_Ground_addPlace.2.1 19 = .ok (.iastore, 1) by decide +kernel) (fun σ_2 => ?_)
  refine V_aload_n 21 rfl (show decode M_Ground_addPlace.2.1 20 = .ok (.aload_n 0, 1) by decide +kernel) 0 rfl ?_
  refine V_get (j := 2) (v := vR (SR σ_2 h0 2)) 24 rfl ck_Ground (by decide) (by decide) (show decode M_Ground_addPlace.2.1 21 = .ok (.getfield 18, 3) by decide +kernel) wd_218 rfl ?_
  refine V_aload_n 25 rfl (show decode M_Ground_addPlace.2.1 24 = .ok (.aload_n 0, 1) by decide +kernel) 0 rfl ?_
  refine V_get (j := 10) (v := vI (SI σ_2 h0 10)) 28 rfl ck_Ground (by decide) (by decide) (show decode M_Ground_addPlace.2.1 25 = .ok (.getfield 50, 3) by decide +kernel) wd_235 rfl ?_
  refine V_iload_n 29 rfl (show decode M_Ground_addPlace.2.1 28 = .ok (.iload_n 3, 1) by decide +kernel) 3 rfl ?_
  refine V_ast_int 30 rfl (show decode M_Ground_addPlace.2.1 29 = .ok (.iastore, 1) by decide +kernel) (fun σ_3 => ?_)
  refine V_aload_n 31 rfl (show decode M_Ground_addPlace.2.1 30 = .ok (.aload_n 0, 1) by decide +kernel) 0 rfl ?_
  refine V_get (j := 3) (v := vR (SR σ_3 h0 3)) 34 rfl ck_Ground (by decide) (by decide) (show decode M_Ground_addPlace.2.1 31 = .ok (.getfield 21, 3) by decide +kernel) wd_220 rfl ?_
  refine V_aload_n 35 rfl (show decode M_Ground_addPlace.2.1 34 = .ok (.aload_n 0, 1) by decide +kernel) 0 rfl ?_
  refine V_get (j := 10) (v := vI (SI σ_3 h0 10)) 38 rfl ck_Ground (by decide) (by decide) (show decode M_Ground_addPlace.2.1 35 = .ok (.getfield 50, 3) by decide +kernel) wd_235 rfl ?_
  refine V_iconst 39 rfl (show decode M_Ground_addPlace.2.1 38 = .ok (.iconst 0, 1) by decide +kernel) (v := 0) rfl ?_
  refine V_ast_int 40 rfl (show decode M_Ground_addPlace.2.1 39 = .ok (.iastore, 1) by decide +kernel) (fun σ_4 => ?_)
  refine V_aload_n 41 rfl (show decode M_Ground_addPlace.2.1 40 = .ok (.aload_n 0, 1) by decide +kernel) 0 rfl ?_
  refine V_dup 42 rfl (show decode M_Ground_addPlace.2.1 41 = .ok (.dup, 1) by decide +kernel) rfl ?_
  refine V_get (j := 10) (v := vI (SI σ_4 h0 10)) 45 rfl ck_Ground (by decide) (by decide) (show decode M_Ground_addPlace.2.1 42 = .ok (.getfield 50, 3) by decide +kernel) wd_235 rfl ?_
  refine V_iconst 46 rfl (show decode M_Ground_addPlace.2.1 45 = .ok (.iconst 1, 1) by decide +kernel) (v := 1) rfl ?_
  refine V_iadd 47 rfl (show decode M_Ground_addPlace.2.1 46 = .ok (.iadd, 1) by decide +kernel) ?_
  refine V_putI (j := 10) 50 rfl ck_Ground (by decide) (by decide) (show decode M_Ground_addPlace.2.1 47 = .ok (.putfield 50, 3) by decide +kernel) wd_235 rfl (fun _ => rfl) rfl rfl (fun σ_5 => ?_)
  refine V_aload_n 51 rfl (show decode M_Ground_addPlace.2.1 50 = .ok (.aload_n 0, 1) by decide +kernel) 0 rfl ?_
  refine V_get (j := 10) (v := vI (SI σ_5 h0 10)) 54 rfl ck_Ground (by decide) (by decide) (show decode M_Ground_addPlace.2.1 51 = .ok (.getfield 50, 3) by decide +kernel) wd_235 rfl ?_
  refine V_iconst 55 rfl (show decode M_Ground_addPlace.2.1 54 = .ok (.iconst 1, 1) by decide +kernel) (v := 1) rfl ?_
  refine V_isub 56 rfl (show decode M_Ground_addPlace.2.1 55 = .ok (.isub, 1) by decide +kernel) ?_
  exact V_iret rfl (by decide) (by decide) (show decode M_Ground_addPlace.2.1 56 = .ok (.ireturn, 1) by decide +kernel)
theorem cal_Ground_addPlace (d mc ms k n : Nat) (h1 : 1 + 1 ≤ d) (h2 : k + 0 ≤ mc) (h3 : n + 0 ≤ ms) : Cal M_Ground_addPlace 1 0 0 3 d mc ms k n := ⟨wd_661, wd_172, by decide, h1, by decide, h2, h3⟩
abbrev M_Ground_suits : MD := (⟨"LongTrail$Ground", "suits", "(II)Z"⟩, prog_3_method_6_code, 2, (some FieldType.boolean))
def f_Ground_suits (x0 : Int32) (x1 : Int32) (b : Bool) (σ : Sto) : Rs Int32 := (lt_ (fun (b : Bool) (σ : Sto) => (if x1 = 0 then ((1 : Int32), b, σ) else ((0 : Int32), b, σ))) (fun J9 => (if x0 = 0 then (J9 b σ) else (if x0 = (1 : Int32) then (J9 b σ) else (if x0 = (4 : Int32) then (bd_ (f_Trail_within x1 (0 : Int32) (142 : Int32) b σ) (fun (r_1 : Int32) (b_1 : Bool) (σ_1 : Sto) => (r_1, (b_1 && zok r_1), σ_1))) else (bd_ (f_Trail_within x1 (1 : Int32) (9 : Int32) b σ) (fun (r_2 : Int32) (b_2 : Bool) (σ_2 : Sto) => (r_2, (b_2 && zok r_2), σ_2))))))))
set_option maxRecDepth 100000 in
set_option maxHeartbeats 4000000 in
theorem s_Ground_suits : ∀ (x0 : Int32) (x1 : Int32) (b : Bool) (σ : Sto), Snd M_Ground_suits 2 0 0 [vI x0, vI x1] b σ (tI (f_Ground_suits x0 x1 b σ).1) (f_Ground_suits x0 x1 b σ).2.1 (f_Ground_suits x0 x1 b σ).2.2 := by
  intro x0 x1 b σ
  refine Snd_of (tv := tI) (by decide) (Nat.le_of_ble_eq_true rfl) ?_
  show V M_Ground_suits 2 0 0 0 0 tI (f_Ground_suits x0 x1 b σ) 0 [(0, vI x0), (1, vI x1)] [] b σ
  unfold f_Ground_suits
  refine V_iload_n 1 rfl (show decode M_Ground_suits.2.1 0 = .ok (.iload_n 0, 1) by decide +kernel) 0 rfl ?_
  refine V_jn (fun (J9 : Bool → Sto → Rs Int32) => ∀ (b : Bool) (σ : Sto), V M_Ground_suits 2 0 0 0 0 tI (J9 b σ) 9 [(1, vI x1)] [] b σ) ?_ (fun J9 hJ9 => ?_)
  · intro b σ
    refine V_iload_n 10 rfl (show decode M_Ground_suits.2.1 9 = .ok (.iload_n 1, 1) by decide +kernel) 0 rfl ?_
    refine V_ifne 13 17 rfl (show decode M_Ground_suits.2.1 10 = .ok (.ifCond .ne 7, 3) by decide +kernel) rfl ?_ ?_
    · skip
      refine V_iconst 14 rfl (show decode M_Ground_suits.2.1 13 = .ok (.iconst 1, 1) by decide +kernel) (v := 1) rfl ?_
      refine V_goto 18 (show decode M_Ground_suits.2.1 14 = .ok (.goto 4, 3) by decide +kernel) rfl ?_
      exact V_zret rfl (by decide) (by decide) rfl (show decode M_Ground_suits.2.1 18 = .ok (.ireturn, 1) by decide +kernel)
    · skip
      refine V_iconst 18 rfl (show decode M_Ground_suits.2.1 17 = .ok (.iconst 0, 1) by decide +kernel) (v := 0) rfl ?_
      exact V_zret rfl (by decide) (by decide) rfl (show decode M_Ground_suits.2.1 18 = .ok (.ireturn, 1) by decide +kernel)
  · skip
    refine V_ifeq 4 9 rfl (show decode M_Ground_suits.2.1 1 = .ok (.ifCond .eq 8, 3) by decide +kernel) rfl ?_ ?_
    · skip
      exact V_sub [1] rfl (hJ9 b σ)
    · skip
      refine V_iload_n 5 rfl (show decode M_Ground_suits.2.1 4 = .ok (.iload_n 0, 1) by decide +kernel) 0 rfl ?_
      refine V_iconst 6 rfl (show decode M_Ground_suits.2.1 5 = .ok (.iconst 1, 1) by decide +kernel) (v := 1) rfl ?_
      refine V_icmpne 9 19 rfl (show decode M_Ground_suits.2.1 6 = .ok (.if_icmp .ne 13, 3) by decide +kernel) rfl ?_ ?_
      · skip
        exact V_sub [1] rfl (hJ9 b σ)
      · skip
        refine V_iload_n 20 rfl (show decode M_Ground_suits.2.1 19 = .ok (.iload_n 0, 1) by decide +kernel) 0 rfl ?_
        refine V_iconst 21 rfl (show decode M_Ground_suits.2.1 20 = .ok (.iconst 4, 1) by decide +kernel) (v := 4) rfl ?_
        refine V_icmpne 24 35 rfl (show decode M_Ground_suits.2.1 21 = .ok (.if_icmp .ne 14, 3) by decide +kernel) rfl ?_ ?_
        · skip
          refine V_iload_n 25 rfl (show decode M_Ground_suits.2.1 24 = .ok (.iload_n 1, 1) by decide +kernel) 1 rfl ?_
          refine V_iconst 26 rfl (show decode M_Ground_suits.2.1 25 = .ok (.iconst 0, 1) by decide +kernel) (v := 0) rfl ?_
          refine V_sipush 29 rfl (show decode M_Ground_suits.2.1 26 = .ok (.sipush 142, 3) by decide +kernel) (v := 142) rfl ?_
          refine V_callSN (tb := tI) (as := [vI x1, vI (0 : Int32), vI (142 : Int32)]) (rest := []) (na := 3) 32 rfl (s_Trail_within x1 (0 : Int32) (142 : Int32) b σ) rfl rfl (Nat.le_of_ble_eq_true rfl) (cal_Trail_within _ _ _ _ _ (by decide) (by decide) (by decide)) (show decode M_Ground_suits.2.1 29 = .ok (.invokestatic 56, 3) by decide +kernel) wd_649 wd_629 (fun r_1 b_1 σ_1 => ?_)
          show V M_Ground_suits 2 0 0 0 0 tI _ 32 [(0, vI x0), (1, vI x1)] [vI r_1] b_1 σ_1
          refine V_goto 42 (show decode M_Ground_suits.2.1 32 = .ok (.goto 10, 3) by decide +kernel) rfl ?_
          exact V_zretc rfl (by decide) (by decide) (show decode M_Ground_suits.2.1 42 = .ok (.ireturn, 1) by decide +kernel)
        · skip
          refine V_iload_n 36 rfl (show decode M_Ground_suits.2.1 35 = .ok (.iload_n 1, 1) by decide +kernel) 1 rfl ?_
          refine V_iconst 37 rfl (show decode M_Ground_suits.2.1 36 = .ok (.iconst 1, 1) by decide +kernel) (v := 1) rfl ?_
          refine V_bipush 39 rfl (show decode M_Ground_suits.2.1 37 = .ok (.bipush 9, 2) by decide +kernel) (v := 9) rfl ?_
          refine V_callSN (tb := tI) (as := [vI x1, vI (1 : Int32), vI (9 : Int32)]) (rest := []) (na := 3) 42 rfl (s_Trail_within x1 (1 : Int32) (9 : Int32) b σ) rfl rfl (Nat.le_of_ble_eq_true rfl) (cal_Trail_within _ _ _ _ _ (by decide) (by decide) (by decide)) (show decode M_Ground_suits.2.1 39 = .ok (.invokestatic 56, 3) by decide +kernel) wd_649 wd_629 (fun r_2 b_2 σ_2 => ?_)
          show V M_Ground_suits 2 0 0 0 0 tI _ 42 [(0, vI x0), (1, vI x1)] [vI r_2] b_2 σ_2
          exact V_zretc rfl (by decide) (by decide) (show decode M_Ground_suits.2.1 42 = .ok (.ireturn, 1) by decide +kernel)
theorem cal_Ground_suits (d mc ms k n : Nat) (h1 : 2 + 1 ≤ d) (h2 : k + 0 ≤ mc) (h3 : n + 0 ≤ ms) : Cal M_Ground_suits 2 0 0 2 d mc ms k n := ⟨wd_652, wd_172, by decide, h1, by decide, h2, h3⟩
abbrev M_Trail_place : MD := (⟨"LongTrail", "place", "(III)I"⟩, prog_1_method_3_code, 5, (some FieldType.int))
def f_Trail_place (h0 : Nat) (x1 : Int32) (x2 : Int32) (x3 : Int32) (b : Bool) (σ : Sto) : Rs Int32 := (lt_ (SR σ (SR σ h0 0) 0) (fun (h4_1 : Nat) => (bd_ (f_Trail_within x1 (0 : Int32) (5 : Int32) ((b && cK σ h0 12) && cK σ (SR σ h0 0) 11) σ) (fun (r_2 : Int32) (b_2 : Bool) (σ_2 : Sto) => (lt_ (fun (b : Bool) (σ : Sto) => ((-1000000001 : Int32), b, σ)) (fun J35 => (if r_2 = 0 then (J35 b_2 σ_2) else (bd_ (f_Ground_hasMile h4_1 x2 (b_2 && cK σ_2 h4_1 2) σ_2) (fun (r_3 : Int32) (b_3 : Bool) (σ_3 : Sto) => (if r_3 = 0 then (J35 b_3 σ_3) else (bd_ (f_Ground_suits x1 x3 b_3 σ_3) (fun (r_4 : Int32) (b_4 : Bool) (σ_4 : Sto) => (if r_4 = 0 then (J35 b_4 σ_4) else (bd_ (f_Ground_placeAt h4_1 x2 (b_4 && cK σ_4 h4_1 2) σ_4) (fun (r_5 : Int32) (b_5 : Bool) (σ_5 : Sto) => (if r_5 < 0 then (if (SI σ_5 h4_1 10) < (16 : Int32) then (bd_ (f_Ground_addPlace h4_1 x1 x2 x3 ((b_5 && cK σ_5 h4_1 2) && cK σ_5 h4_1 2) σ_5) (fun (r_6 : Int32) (b_6 : Bool) (σ_6 : Sto) => (r_6, b_6, σ_6))) else ((-1000000003 : Int32), (b_5 && cK σ_5 h4_1 2), σ_5)) else ((-1000000002 : Int32), b_5, σ_5)))))))))))))))))
set_option maxRecDepth 100000 in
set_option maxHeartbeats 4000000 in
theorem s_Trail_place : ∀ (h0 : Nat) (x1 : Int32) (x2 : Int32) (x3 : Int32) (b : Bool) (σ : Sto), Snd M_Trail_place 3 0 0 [vR h0, vI x1, vI x2, vI x3] b σ (tI (f_Trail_place h0 x1 x2 x3 b σ).1) (f_Trail_place h0 x1 x2 x3 b σ).2.1 (f_Trail_place h0 x1 x2 x3 b σ).2.2 := by
  intro h0 x1 x2 x3 b σ
  refine Snd_of (tv := tI) (by decide) (Nat.le_of_ble_eq_true rfl) ?_
  show V M_Trail_place 3 0 0 0 0 tI (f_Trail_place h0 x1 x2 x3 b σ) 0 [(0, vR h0), (1, vI x1), (2, vI x2), (3, vI x3)] [] b σ
  unfold f_Trail_place
  refine V_aload_n 1 rfl (show decode M_Trail_place.2.1 0 = .ok (.aload_n 0, 1) by decide +kernel) 0 rfl ?_
  refine V_get (j := 0) (v := vR (SR σ h0 0)) 4 rfl ck_Trail (by decide) (by decide) (show decode M_Trail_place.2.1 1 = .ok (.getfield 10, 3) by decide +kernel) wd_599 rfl ?_
  refine V_getN (j := 0) (v := vR (SR σ (SR σ h0 0) 0)) 7 rfl ck_World (by decide) (by decide) (show decode M_Trail_place.2.1 4 = .ok (.getfield 49, 3) by decide +kernel) wd_498 rfl ?_
  refine V_astore (fun h4_1 => [(4, vR h4_1), (0, vR h0), (1, vI x1), (2, vI x2), (3, vI x3)]) 9 rfl (show decode M_Trail_place.2.1 7 = .ok (.astore 4, 2) by decide +kernel) (by decide) (fun _ => rfl) (fun h4_1 => ?_)
  refine V_iload_n 10 rfl (show decode M_Trail_place.2.1 9 = .ok (.iload_n 1, 1) by decide +kernel) 2 rfl ?_
  refine V_iconst 11 rfl (show decode M_Trail_place.2.1 10 = .ok (.iconst 0, 1) by decide +kernel) (v := 0) rfl ?_
  refine V_iconst 12 rfl (show decode M_Trail_place.2.1 11 = .ok (.iconst 5, 1) by decide +kernel) (v := 5) rfl ?_
  refine V_callS (tb := tI) (as := [vI x1, vI (0 : Int32), vI (5 : Int32)]) (rest := []) (na := 3) 15 rfl (s_Trail_within x1 (0 : Int32) (5 : Int32) ((b && cK σ h0 12) && cK σ (SR σ h0 0) 11) σ) rfl rfl (Nat.le_of_ble_eq_true rfl) (cal_Trail_within _ _ _ _ _ (by decide) (by decide) (by decide)) (show decode M_Trail_place.2.1 12 = .ok (.invokestatic 40, 3) by decide +kernel) wd_628 wd_629 (fun r_2 b_2 σ_2 => ?_)
  show V M_Trail_place 3 0 0 0 0 tI _ 15 [(4, vR h4_1), (0, vR h0), (1, vI x1), (2, vI x2), (3, vI x3)] [vI r_2] b_2 σ_2
  refine V_jn (fun (J35 : Bool → Sto → Rs Int32) => ∀ (b : Bool) (σ : Sto), V M_Trail_place 3 0 0 0 0 tI (J35 b σ) 35 [] [] b σ) ?_ (fun J35 hJ35 => ?_)
  · intro b σ
    refine V_ldc 37 rfl (show decode M_Trail_place.2.1 35 = .ok (.ldc 44, 2) by decide +kernel) wd_631 ?_
    exact V_iret rfl (by decide) (by decide) (show decode M_Trail_place.2.1 37 = .ok (.ireturn, 1) by decide +kernel)
  · skip
    refine V_ifeq 18 35 rfl (show decode M_Trail_place.2.1 15 = .ok (.ifCond .eq 20, 3) by decide +kernel) rfl ?_ ?_
    · skip
      exact V_sub [] rfl (hJ35 b_2 σ_2)
    · skip
      refine V_aload 20 rfl (show decode M_Trail_place.2.1 18 = .ok (.aload 4, 2) by decide +kernel) 0 rfl ?_
      refine V_iload_n 21 rfl (show decode M_Trail_place.2.1 20 = .ok (.iload_n 2, 1) by decide +kernel) 3 rfl ?_
      refine V_callVN (tb := tI) (as := [vI x2]) (rest := []) (na := 1) 24 rfl ck_Ground (by decide) (s_Ground_hasMile h4_1 x2 (b_2 && cK σ_2 h4_1 2) σ_2) rfl rfl (Nat.le_of_ble_eq_true rfl) (cal_Ground_hasMile _ _ _ _ _ (by decide) (by decide) (by decide)) (show decode M_Trail_place.2.1 21 = .ok (.invokevirtual 70, 3) by decide +kernel) wd_645 wd_647 wd_2 (fun r_3 b_3 σ_3 => ?_)
      show V M_Trail_place 3 0 0 0 0 tI _ 24 [(4, vR h4_1), (0, vR h0), (1, vI x1), (2, vI x2), (3, vI x3)] [vI r_3] b_3 σ_3
      refine V_ifeq 27 35 rfl (show decode M_Trail_place.2.1 24 = .ok (.ifCond .eq 11, 3) by decide +kernel) rfl ?_ ?_
      · skip
        exact V_sub [] rfl (hJ35 b_3 σ_3)
      · skip
        refine V_iload_n 28 rfl (show decode M_Trail_place.2.1 27 = .ok (.iload_n 1, 1) by decide +kernel) 2 rfl ?_
        refine V_iload_n 29 rfl (show decode M_Trail_place.2.1 28 = .ok (.iload_n 3, 1) by decide +kernel) 4 rfl ?_
        refine V_callSN (tb := tI) (as := [vI x1, vI x3]) (rest := []) (na := 2) 32 rfl (s_Ground_suits x1 x3 b_3 σ_3) rfl rfl (Nat.le_of_ble_eq_true rfl) (cal_Ground_suits _ _ _ _ _ (by decide) (by decide) (by decide)) (show decode M_Trail_place.2.1 29 = .ok (.invokestatic 73, 3) by decide +kernel) wd_650 wd_651 (fun r_4 b_4 σ_4 => ?_)
        show V M_Trail_place 3 0 0 0 0 tI _ 32 [(4, vR h4_1), (0, vR h0), (1, vI x1), (2, vI x2), (3, vI x3)] [vI r_4] b_4 σ_4
        refine V_ifne 35 38 rfl (show decode M_Trail_place.2.1 32 = .ok (.ifCond .ne 6, 3) by decide +kernel) rfl ?_ ?_
        · skip
          exact V_sub [] rfl (hJ35 b_4 σ_4)
        · skip
          refine V_aload 40 rfl (show decode M_Trail_place.2.1 38 = .ok (.aload 4, 2) by decide +kernel) 0 rfl ?_
          refine V_iload_n 41 rfl (show decode M_Trail_place.2.1 40 = .ok (.iload_n 2, 1) by decide +kernel) 3 rfl ?_
          refine V_callVN (tb := tI) (as := [vI x2]) (rest := []) (na := 1) 44 rfl ck_Ground (by decide) (s_Ground_placeAt h4_1 x2 (b_4 && cK σ_4 h4_1 2) σ_4) rfl rfl (Nat.le_of_ble_eq_true rfl) (cal_Ground_placeAt _ _ _ _ _ (by decide) (by decide) (by decide)) (show decode M_Trail_place.2.1 41 = .ok (.invokevirtual 77, 3) by decide +kernel) wd_653 wd_655 wd_3 (fun r_5 b_5 σ_5 => ?_)
          show V M_Trail_place 3 0 0 0 0 tI _ 44 [(4, vR h4_1), (0, vR h0), (1, vI x1), (2, vI x2), (3, vI x3)] [vI r_5] b_5 σ_5
          refine V_iflt 47 50 rfl (show decode M_Trail_place.2.1 44 = .ok (.ifCond .lt 6, 3) by decide +kernel) rfl ?_ ?_
          · skip
            refine V_aload 52 rfl (show decode M_Trail_place.2.1 50 = .ok (.aload 4, 2) by decide +kernel) 0 rfl ?_
            refine V_getN (j := 10) (v := vI (SI σ_5 h4_1 10)) 55 rfl ck_Ground (by decide) (by decide) (show decode M_Trail_place.2.1 52 = .ok (.getfield 81, 3) by decide +kernel) wd_236 rfl ?_
            refine V_bipush 57 rfl (show decode M_Trail_place.2.1 55 = .ok (.bipush 16, 2) by decide +kernel) (v := 16) rfl ?_
            refine V_icmplt 60 63 rfl (show decode M_Trail_place.2.1 57 = .ok (.if_icmp .lt 6, 3) by decide +kernel) rfl ?_ ?_
            · skip
              refine V_aload 65 rfl (show decode M_Trail_place.2.1 63 = .ok (.aload 4, 2) by decide +kernel) 0 rfl ?_
              refine V_iload_n 66 rfl (show decode M_Trail_place.2.1 65 = .ok (.iload_n 1, 1) by decide +kernel) 2 rfl ?_
              refine V_iload_n 67 rfl (show decode M_Trail_place.2.1 66 = .ok (.iload_n 2, 1) by decide +kernel) 3 rfl ?_
              refine V_iload_n 68 rfl (show decode M_Trail_place.2.1 67 = .ok (.iload_n 3, 1) by decide +kernel) 4 rfl ?_
              refine V_callVN (tb := tI) (as := [vI x1, vI x2, vI x3]) (rest := []) (na := 3) 71 rfl ck_Ground (by decide) (s_Ground_addPlace h4_1 x1 x2 x3 ((b_5 && cK σ_5 h4_1 2) && cK σ_5 h4_1 2) σ_5) rfl rfl (Nat.le_of_ble_eq_true rfl) (cal_Ground_addPlace _ _ _ _ _ (by decide) (by decide) (by decide)) (show decode M_Trail_place.2.1 68 = .ok (.invokevirtual 85, 3) by decide +kernel) wd_658 wd_660 wd_4 (fun r_6 b_6 σ_6 => ?_)
              show V M_Trail_place 3 0 0 0 0 tI _ 71 [(4, vR h4_1), (0, vR h0), (1, vI x1), (2, vI x2), (3, vI x3)] [vI r_6] b_6 σ_6
              exact V_iret rfl (by decide) (by decide) (show decode M_Trail_place.2.1 71 = .ok (.ireturn, 1) by decide +kernel)
            · skip
              refine V_ldc 62 rfl (show decode M_Trail_place.2.1 60 = .ok (.ldc 84, 2) by decide +kernel) wd_657 ?_
              exact V_iret rfl (by decide) (by decide) (show decode M_Trail_place.2.1 62 = .ok (.ireturn, 1) by decide +kernel)
          · skip
            refine V_ldc 49 rfl (show decode M_Trail_place.2.1 47 = .ok (.ldc 66, 2) by decide +kernel) wd_640 ?_
            exact V_iret rfl (by decide) (by decide) (show decode M_Trail_place.2.1 49 = .ok (.ireturn, 1) by decide +kernel)
theorem cal_Trail_place (d mc ms k n : Nat) (h1 : 3 + 1 ≤ d) (h2 : k + 0 ≤ mc) (h3 : n + 0 ≤ ms) : Cal M_Trail_place 3 0 0 3 d mc ms k n := ⟨wd_644, wd_170, by decide, h1, by decide, h2, h3⟩
abbrev M_Supply_boxesOf : MD := (⟨"LongTrail$Supply", "boxesOf", "(J)I"⟩, prog_8_method_6_code, 2, (some FieldType.int))
def f_Supply_boxesOf (l0 : Int64) (b : Bool) (σ : Sto) : Rs Int32 := (((((l0 >>> (((16 : Int32)).toInt64 &&& 63))).toInt32) &&& (31 : Int32)), b, σ)
set_option maxRecDepth 100000 in
set_option maxHeartbeats 4000000 in
theorem s_Supply_boxesOf : ∀ (l0 : Int64) (b : Bool) (σ : Sto), Snd M_Supply_boxesOf 1 0 0 [vL l0] b σ (tI (f_Supply_boxesOf l0 b σ).1) (f_Supply_boxesOf l0 b σ).2.1 (f_Supply_boxesOf l0 b σ).2.2 := by
  intro l0 b σ
  refine Snd_of (tv := tI) (by decide) (Nat.le_of_ble_eq_true rfl) ?_
  show V M_Supply_boxesOf 1 0 0 0 0 tI (f_Supply_boxesOf l0 b σ) 0 [(0, vL l0)] [] b σ
  unfold f_Supply_boxesOf
  refine V_lload_n 1 rfl (show decode M_Supply_boxesOf.2.1 0 = .ok (.lload_n 0, 1) by decide +kernel) 0 rfl ?_
  refine V_bipush 3 rfl (show decode M_Supply_boxesOf.2.1 1 = .ok (.bipush 16, 2) by decide +kernel) (v := 16) rfl ?_
  refine V_lshr 4 rfl (show decode M_Supply_boxesOf.2.1 3 = .ok (.lshr, 1) by decide +kernel) ?_
  refine V_l2i 5 rfl (show decode M_Supply_boxesOf.2.1 4 = .ok (.l2i, 1) by decide +kernel) ?_
  refine V_bipush 7 rfl (show decode M_Supply_boxesOf.2.1 5 = .ok (.bipush 31, 2) by decide +kernel) (v := 31) rfl ?_
  refine V_iand 8 rfl (show decode M_Supply_boxesOf.2.1 7 = .ok (.iand, 1) by decide +kernel) ?_
  exact V_iret rfl (by decide) (by decide) (show decode M_Supply_boxesOf.2.1 8 = .ok (.ireturn, 1) by decide +kernel)
theorem cal_Supply_boxesOf (d mc ms k n : Nat) (h1 : 1 + 1 ≤ d) (h2 : k + 0 ≤ mc) (h3 : n + 0 ≤ ms) : Cal M_Supply_boxesOf 1 0 0 1 d mc ms k n := ⟨wd_1334, wd_176, by decide, h1, by decide, h2, h3⟩
abbrev M_Supply_leastWayTo : MD := (⟨"LongTrail$Supply", "leastWayTo", "(III)J"⟩, prog_8_method_9_code, 14, (some FieldType.long))
def b_Supply_leastWayTo_8 (h0 : Nat) (x1 : Int32) (x2 : Int32) (x3 : Int32) (L8 : Int64 → Int32 → Bool → Sto → Rs Int64) (l4 : Int64) (x6 : Int32) (b : Bool) (σ : Sto) : Rs Int64 := (if x6 < x1 then (lt_ (fun (s0_30 : Int64) (b : Bool) (σ : Sto) => (lt_ s0_30 (fun (l7_3 : Int64) => (lt_ (fun (s0_54 : Int32) (s1_54 : Int32) (b : Bool) (σ : Sto) => (lt_ (s1_54 - s0_54) (fun (x9_4 : Int32) => (lt_ (fun (s0_74 : Int64) (b : Bool) (σ : Sto) => (lt_ s0_74 (fun (l10_5 : Int64) => (lt_ (l7_3 + ((l10_5 * l10_5) <<< (((21 : Int32)).toInt64 &&& 63))) (fun (l12_6 : Int64) => (lt_ (fun (l4_123 : Int64) (b : Bool) (σ : Sto) => (lt_ (x6 + (1 : Int32)) (fun (x6_7 : Int32) => (L8 l4_123 x6_7 b σ)))) (fun J123 => (if (lg_cmp l7_3 (0 : Int64)) < 0 then (J123 l4 b σ) else (if 0 < (lg_cmp l10_5 ((x3).toInt64)) then (J123 l4 b σ) else (lt_ (fun (b : Bool) (σ : Sto) => (lt_ l12_6 (fun (l4_8 : Int64) => (J123 l4_8 b σ)))) (fun J119 => (if (lg_cmp l4 (0 : Int64)) < 0 then (J119 b σ) else (if (lg_cmp l12_6 l4) < 0 then (J119 b σ) else (J123 l4 b σ)))))))))))))) (fun J74 => (if 0 < x2 then (J74 (((((x9_4 + x2) - (1 : Int32)) / x2)).toInt64) (b && !decide (x2 = 0)) σ) else (J74 (0 : Int64) b σ))))))) (fun J54 => (if x6 < 0 then (J54 (0 : Int32) (SI σ (SR σ h0 6) (ix x1)) ((b && cK σ h0 7) && cA σ (SR σ h0 6) 21 x1) σ) else (J54 (SI σ (SR σ h0 6) (ix x6)) (SI σ (SR σ h0 6) (ix x1)) ((((b && cK σ h0 7) && cA σ (SR σ h0 6) 21 x1) && cK σ h0 7) && cA σ (SR σ h0 6) 21 x6) σ))))))) (fun J30 => (if x6 < 0 then (J30 (0 : Int64) b σ) else (J30 (SL σ (SR σ h0 7) (ix x6)) ((b && cK σ h0 7) && cA σ (SR σ h0 7) 23 x6) σ)))) else (l4, b, σ))
def f_Supply_leastWayTo (h0 : Nat) (x1 : Int32) (x2 : Int32) (x3 : Int32) (b : Bool) (σ : Sto) : Rs Int64 := (lt_ (-1 : Int64) (fun (l4_1 : Int64) => (lt_ (-1 : Int32) (fun (x6_2 : Int32) => (lp_ (b_Supply_leastWayTo_8 h0 x1 x2 x3) (fun (l4 : Int64) (x6 : Int32) (b : Bool) (σ : Sto) => (0, false, σ)) fuel_ l4_1 x6_2 b σ)))))
set_option maxRecDepth 100000 in
set_option maxHeartbeats 4000000 in
theorem s_Supply_leastWayTo : ∀ (h0 : Nat) (x1 : Int32) (x2 : Int32) (x3 : Int32) (b : Bool) (σ : Sto), Snd M_Supply_leastWayTo 1 0 0 [vR h0, vI x1, vI x2, vI x3] b σ (tL (f_Supply_leastWayTo h0 x1 x2 x3 b σ).1) (f_Supply_leastWayTo h0 x1 x2 x3 b σ).2.1 (f_Supply_leastWayTo h0 x1 x2 x3 b σ).2.2 := by
  intro h0 x1 x2 x3 b σ
  refine Snd_of (tv := tL) (by decide) (Nat.le_of_ble_eq_true rfl) ?_
  show V M_Supply_leastWayTo 1 0 0 0 0 tL (f_Supply_leastWayTo h0 x1 x2 x3 b σ) 0 [(0, vR h0), (1, vI x1), (2, vI x2), (3, vI x3)] [] b σ
  unfold f_Supply_leastWayTo
  refine V_ldc2 3 rfl (show decode M_Supply_leastWayTo.2.1 0 = .ok (.ldc2_w 74, 3) by decide +kernel) wd_1328 ?_
  refine V_lstore (fun l4_1 => [(4, vL l4_1), (0, vR h0), (1, vI x1), (2, vI x2), (3, vI x3)]) 5 rfl (show decode M_Supply_leastWayTo.2.1 3 = .ok (.lstore 4, 2) by decide +kernel) (by decide) (fun _ => rfl) (fun l4_1 => ?_)
  refine V_iconst 6 rfl (show decode M_Supply_leastWayTo.2.1 5 = .ok (.iconst (-1), 1) by decide +kernel) (v := -1) rfl ?_
  refine V_istore (fun x6_2 => [(6, vI x6_2), (4, vL l4_1), (0, vR h0), (1, vI x1), (2, vI x2), (3, vI x3)]) 8 rfl (show decode M_Supply_leastWayTo.2.1 6 = .ok (.istore 6, 2) by decide +kernel) (by decide) (fun _ => rfl) (fun x6_2 => ?_)
  refine V_sub [2, 3, 4, 5, 1, 0] rfl ?_
  refine lp_P (fun (L8 : Int64 → Int32 → Bool → Sto → Rs Int64) => ∀ (l4 : Int64) (x6 : Int32) (b : Bool) (σ : Sto), V M_Supply_leastWayTo 1 0 0 0 0 tL (L8 l4 x6 b σ) 8 [(0, vR h0), (1, vI x1), (2, vI x2), (3, vI x3), (4, vL l4), (6, vI x6)] [] b σ) ?_ ?_ fuel_ l4_1 x6_2 b σ
  · intro l4 x6 b σ; exact V_bad
  · intro L8 hL8 l4 x6 b σ
    unfold b_Supply_leastWayTo_8
    refine V_iload 10 rfl (show decode M_Supply_leastWayTo.2.1 8 = .ok (.iload 6, 2) by decide +kernel) 5 rfl ?_
    refine V_iload_n 11 rfl (show decode M_Supply_leastWayTo.2.1 10 = .ok (.iload_n 1, 1) by decide +kernel) 1 rfl ?_
    refine V_icmpge 14 129 rfl (show decode M_Supply_leastWayTo.2.1 11 = .ok (.if_icmp .ge 118, 3) by decide +kernel) rfl ?_ ?_
    · skip
      refine V_iload 16 rfl (show decode M_Supply_leastWayTo.2.1 14 = .ok (.iload 6, 2) by decide +kernel) 5 rfl ?_
      refine V_jn (fun (J30 : Int64 → Bool → Sto → Rs Int64) => ∀ (s0_30 : Int64) (b : Bool) (σ : Sto), V M_Supply_leastWayTo 1 0 0 0 0 tL (J30 s0_30 b σ) 30 [(0, vR h0), (1, vI x1), (2, vI x2), (3, vI x3), (4, vL l4), (6, vI x6)] [vL s0_30] b σ) ?_ (fun J30 hJ30 => ?_)
      · intro s0_30 b σ
        refine V_lstore (fun l7_3 => [(7, vL l7_3), (0, vR h0), (1, vI x1), (2, vI x2), (3, vI x3), (4, vL l4), (6, vI x6)]) 32 rfl (show decode M_Supply_leastWayTo.2.1 30 = .ok (.lstore 7, 2) by decide +kernel) (by decide) (fun _ => rfl) (fun l7_3 => ?_)
        refine V_aload_n 33 rfl (show decode M_Supply_leastWayTo.2.1 32 = .ok (.aload_n 0, 1) by decide +kernel) 1 rfl ?_
        refine V_get (j := 6) (v := vR (SR σ h0 6)) 36 rfl ck_Supply (by decide) (by decide) (show decode M_Supply_leastWayTo.2.1 33 = .ok (.getfield 30, 3) by decide +kernel) wd_367 rfl ?_
        refine V_iload_n 37 rfl (show decode M_Supply_leastWayTo.2.1 36 = .ok (.iload_n 1, 1) by decide +kernel) 2 rfl ?_
        refine V_ald_int 38 rfl (show decode M_Supply_leastWayTo.2.1 37 = .ok (.iaload, 1) by decide +kernel) ?_
        refine V_iload 40 rfl (show decode M_Supply_leastWayTo.2.1 38 = .ok (.iload 6, 2) by decide +kernel) 6 rfl ?_
        refine V_jn (fun (J54 : Int32 → Int32 → Bool → Sto → Rs Int64) => ∀ (s0_54 : Int32) (s1_54 : Int32) (b : Bool) (σ : Sto), V M_Supply_leastWayTo 1 0 0 0 0 tL (J54 s0_54 s1_54 b σ) 54 [(0, vR h0), (1, vI x1), (2, vI x2), (3, vI x3), (4, vL l4), (6, vI x6), (7, vL l7_3)] [vI s0_54, vI s1_54] b σ) ?_ (fun J54 hJ54 => ?_)
        · intro s0_54 s1_54 b σ
          refine V_isub 55 rfl (show decode M_Supply_leastWayTo.2.1 54 = .ok (.isub, 1) by decide +kernel) ?_
          refine V_istore (fun x9_4 => [(9, vI x9_4), (0, vR h0), (1, vI x1), (2, vI x2), (3, vI x3), (4, vL l4), (6, vI x6), (7, vL l7_3)]) 57 rfl (show decode M_Supply_leastWayTo.2.1 55 = .ok (.istore 9, 2) by decide +kernel) (by decide) (fun _ => rfl) (fun x9_4 => ?_)
          refine V_iload_n 58 rfl (show decode M_Supply_leastWayTo.2.1 57 = .ok (.iload_n 2, 1) by decide +kernel) 3 rfl ?_
          refine V_jn (fun (J74 : Int64 → Bool → Sto → Rs Int64) => ∀ (s0_74 : Int64) (b : Bool) (σ : Sto), V M_Supply_leastWayTo 1 0 0 0 0 tL (J74 s0_74 b σ) 74 [(0, vR h0), (1, vI x1), (2, vI x2), (3, vI x3), (4, vL l4), (6, vI x6), (7, vL l7_3)] [vL s0_74] b σ) ?_ (fun J74 hJ74 => ?_)
          · intro s0_74 b σ
            refine V_lstore (fun l10_5 => [(10, vL l10_5), (0, vR h0), (1, vI x1), (2, vI x2), (3, vI x3), (4, vL l4), (6, vI x6), (7, vL l7_3)]) 76 rfl (show decode M_Supply_leastWayTo.2.1 74 = .ok (.lstore 10, 2) by decide +kernel) (by decide) (fun _ => rfl) (fun l10_5 => ?_)
            refine V_lload 78 rfl (show decode M_Supply_leastWayTo.2.1 76 = .ok (.lload 7, 2) by decide +kernel) 7 rfl ?_
            refine V_lload 80 rfl (show decode M_Supply_leastWayTo.2.1 78 = .ok (.lload 10, 2) by decide +kernel) 0 rfl ?_
            refine V_lload 82 rfl (show decode M_Supply_leastWayTo.2.1 80 = .ok (.lload 10, 2) by decide +kernel) 0 rfl ?_
            refine V_lmul 83 rfl (show decode M_Supply_leastWayTo.2.1 82 = .ok (.lmul, 1) by decide +kernel) ?_
            refine V_bipush 85 rfl (show decode M_Supply_leastWayTo.2.1 83 = .ok (.bipush 21, 2) by decide +kernel) (v := 21) rfl ?_
            refine V_lshl 86 rfl (show decode M_Supply_leastWayTo.2.1 85 = .ok (.lshl, 1) by decide +kernel) ?_
            refine V_ladd 87 rfl (show decode M_Supply_leastWayTo.2.1 86 = .ok (.ladd, 1) by decide +kernel) ?_
            refine V_lstore (fun l12_6 => [(12, vL l12_6), (10, vL l10_5), (0, vR h0), (1, vI x1), (2, vI x2), (3, vI x3), (4, vL l4), (6, vI x6), (7, vL l7_3)]) 89 rfl (show decode M_Supply_leastWayTo.2.1 87 = .ok (.lstore 12, 2) by decide +kernel) (by decide) (fun _ => rfl) (fun l12_6 => ?_)
            refine V_lload 91 rfl (show decode M_Supply_leastWayTo.2.1 89 = .ok (.lload 7, 2) by decide +kernel) 8 rfl ?_
            refine V_lconst 92 rfl (show decode M_Supply_leastWayTo.2.1 91 = .ok (.lconst 0, 1) by decide +kernel) (v := 0) rfl ?_
            refine V_lcmp 93 rfl (show decode M_Supply_leastWayTo.2.1 92 = .ok (.lcmp, 1) by decide +kernel) ?_
            refine V_jn (fun (J123 : Int64 → Bool → Sto → Rs Int64) => ∀ (l4_123 : Int64) (b : Bool) (σ : Sto), V M_Supply_leastWayTo 1 0 0 0 0 tL (J123 l4_123 b σ) 123 [(0, vR h0), (1, vI x1), (2, vI x2), (3, vI x3), (4, vL l4_123), (6, vI x6)] [] b σ) ?_ (fun J123 hJ123 => ?_)
            · intro l4_123 b σ
              refine V_iinc (fun x6_7 => [(6, vI x6_7), (0, vR h0), (1, vI x1), (2, vI x2), (3, vI x3), (4, vL l4_123)]) 126 rfl (show decode M_Supply_leastWayTo.2.1 123 = .ok (.iinc 6 1, 3) by decide +kernel) 5 rfl (w := 1) rfl (by decide) (fun _ => rfl) (fun x6_7 => ?_)
              refine V_goto 8 (show decode M_Supply_leastWayTo.2.1 126 = .ok (.goto (-118), 3) by decide +kernel) rfl ?_
              exact V_sub [1, 2, 3, 4, 5, 0] rfl (hL8 l4_123 x6_7 b σ)
            · skip
              refine V_iflt 96 123 rfl (show decode M_Supply_leastWayTo.2.1 93 = .ok (.ifCond .lt 30, 3) by decide +kernel) rfl ?_ ?_
              · skip
                exact V_sub [2, 3, 4, 5, 6, 7] rfl (hJ123 l4 b σ)
              · skip
                refine V_lload 98 rfl (show decode M_Supply_leastWayTo.2.1 96 = .ok (.lload 10, 2) by decide +kernel) 1 rfl ?_
                refine V_iload_n 99 rfl (show decode M_Supply_leastWayTo.2.1 98 = .ok (.iload_n 3, 1) by decide +kernel) 5 rfl ?_
                refine V_i2l 100 rfl (show decode M_Supply_leastWayTo.2.1 99 = .ok (.i2l, 1) by decide +kernel) ?_
                refine V_lcmp 101 rfl (show decode M_Supply_leastWayTo.2.1 100 = .ok (.lcmp, 1) by decide +kernel) ?_
                refine V_ifgt 104 123 rfl (show decode M_Supply_leastWayTo.2.1 101 = .ok (.ifCond .gt 22, 3) by decide +kernel) rfl ?_ ?_
                · skip
                  exact V_sub [2, 3, 4, 5, 6, 7] rfl (hJ123 l4 b σ)
                · skip
                  refine V_lload 106 rfl (show decode M_Supply_leastWayTo.2.1 104 = .ok (.lload 4, 2) by decide +kernel) 6 rfl ?_
                  refine V_lconst 107 rfl (show decode M_Supply_leastWayTo.2.1 106 = .ok (.lconst 0, 1) by decide +kernel) (v := 0) rfl ?_
                  refine V_lcmp 108 rfl (show decode M_Supply_leastWayTo.2.1 107 = .ok (.lcmp, 1) by decide +kernel) ?_
                  refine V_jn (fun (J119 : Bool → Sto → Rs Int64) => ∀ (b : Bool) (σ : Sto), V M_Supply_leastWayTo 1 0 0 0 0 tL (J119 b σ) 119 [(0, vR h0), (1, vI x1), (2, vI x2), (3, vI x3), (6, vI x6), (12, vL l12_6)] [] b σ) ?_ (fun J119 hJ119 => ?_)
                  · intro b σ
                    refine V_lload 121 rfl (show decode M_Supply_leastWayTo.2.1 119 = .ok (.lload 12, 2) by decide +kernel) 5 rfl ?_
                    refine V_lstore (fun l4_8 => [(4, vL l4_8), (0, vR h0), (1, vI x1), (2, vI x2), (3, vI x3), (6, vI x6), (12, vL l12_6)]) 123 rfl (show decode M_Supply_leastWayTo.2.1 121 = .ok (.lstore 4, 2) by decide +kernel) (by decide) (fun _ => rfl) (fun l4_8 => ?_)
                    exact V_sub [1, 2, 3, 4, 0, 5] rfl (hJ123 l4_8 b σ)
                  · skip
                    refine V_iflt 111 119 rfl (show decode M_Supply_leastWayTo.2.1 108 = .ok (.ifCond .lt 11, 3) by decide +kernel) rfl ?_ ?_
                    · skip
                      exact V_sub [2, 3, 4, 5, 7, 0] rfl (hJ119 b σ)
                    · skip
                      refine V_lload 113 rfl (show decode M_Supply_leastWayTo.2.1 111 = .ok (.lload 12, 2) by decide +kernel) 0 rfl ?_
                      refine V_lload 115 rfl (show decode M_Supply_leastWayTo.2.1 113 = .ok (.lload 4, 2) by decide +kernel) 6 rfl ?_
                      refine V_lcmp 116 rfl (show decode M_Supply_leastWayTo.2.1 115 = .ok (.lcmp, 1) by decide +kernel) ?_
                      refine V_ifge 119 123 rfl (show decode M_Supply_leastWayTo.2.1 116 = .ok (.ifCond .ge 7, 3) by decide +kernel) rfl ?_ ?_
                      · skip
                        exact V_sub [2, 3, 4, 5, 7, 0] rfl (hJ119 b σ)
                      · skip
                        exact V_sub [2, 3, 4, 5, 6, 7] rfl (hJ123 l4 b σ)
          · skip
            refine V_ifgt 61 65 rfl (show decode M_Supply_leastWayTo.2.1 58 = .ok (.ifCond .gt 7, 3) by decide +kernel) rfl ?_ ?_
            · skip
              refine V_iload 67 rfl (show decode M_Supply_leastWayTo.2.1 65 = .ok (.iload 9, 2) by decide +kernel) 0 rfl ?_
              refine V_iload_n 68 rfl (show decode M_Supply_leastWayTo.2.1 67 = .ok (.iload_n 2, 1) by decide +kernel) 3 rfl ?_
              refine V_iadd 69 rfl (show decode M_Supply_leastWayTo.2.1 68 = .ok (.iadd, 1) by decide +kernel) ?_
              refine V_iconst 70 rfl (show decode M_Supply_leastWayTo.2.1 69 = .ok (.iconst 1, 1) by decide +kernel) (v := 1) rfl ?_
              refine V_isub 71 rfl (show decode M_Supply_leastWayTo.2.1 70 = .ok (.isub, 1) by decide +kernel) ?_
              refine V_iload_n 72 rfl (show decode M_Supply_leastWayTo.2.1 71 = .ok (.iload_n 2, 1) by decide +kernel) 3 rfl ?_
              refine V_idiv 73 rfl (show decode M_Supply_leastWayTo.2.1 72 = .ok (.idiv, 1) by decide +kernel) ?_
              refine V_i2l 74 rfl (show decode M_Supply_leastWayTo.2.1 73 = .ok (.i2l, 1) by decide +kernel) ?_
              exact V_sub [1, 2, 3, 4, 5, 6, 7] rfl (hJ74 (((((x9_4 + x2) - (1 : Int32)) / x2)).toInt64) (b && !decide (x2 = 0)) σ)
            · skip
              refine V_lconst 62 rfl (show decode M_Supply_leastWayTo.2.1 61 = .ok (.lconst 0, 1) by decide +kernel) (v := 0) rfl ?_
              refine V_goto 74 (show decode M_Supply_leastWayTo.2.1 62 = .ok (.goto 12, 3) by decide +kernel) rfl ?_
              exact V_sub [1, 2, 3, 4, 5, 6, 7] rfl (hJ74 (0 : Int64) b σ)
        · skip
          refine V_ifge 43 47 rfl (show decode M_Supply_leastWayTo.2.1 40 = .ok (.ifCond .ge 7, 3) by decide +kernel) rfl ?_ ?_
          · skip
            refine V_iconst 44 rfl (show decode M_Supply_leastWayTo.2.1 43 = .ok (.iconst 0, 1) by decide +kernel) (v := 0) rfl ?_
            refine V_goto 54 (show decode M_Supply_leastWayTo.2.1 44 = .ok (.goto 10, 3) by decide +kernel) rfl ?_
            exact V_sub [1, 2, 3, 4, 5, 6, 0] rfl (hJ54 (0 : Int32) (SI σ (SR σ h0 6) (ix x1)) ((b && cK σ h0 7) && cA σ (SR σ h0 6) 21 x1) σ)
          · skip
            refine V_aload_n 48 rfl (show decode M_Supply_leastWayTo.2.1 47 = .ok (.aload_n 0, 1) by decide +kernel) 1 rfl ?_
            refine V_get (j := 6) (v := vR (SR σ h0 6)) 51 rfl ck_Supply (by decide) (by decide) (show decode M_Supply_leastWayTo.2.1 48 = .ok (.getfield 30, 3) by decide +kernel) wd_367 rfl ?_
            refine V_iload 53 rfl (show decode M_Supply_leastWayTo.2.1 51 = .ok (.iload 6, 2) by decide +kernel) 6 rfl ?_
            refine V_ald_int 54 rfl (show decode M_Supply_leastWayTo.2.1 53 = .ok (.iaload, 1) by decide +kernel) ?_
            exact V_sub [1, 2, 3, 4, 5, 6, 0] rfl (hJ54 (SI σ (SR σ h0 6) (ix x6)) (SI σ (SR σ h0 6) (ix x1)) ((((b && cK σ h0 7) && cA σ (SR σ h0 6) 21 x1) && cK σ h0 7) && cA σ (SR σ h0 6) 21 x6) σ)
      · skip
        refine V_ifge 19 23 rfl (show decode M_Supply_leastWayTo.2.1 16 = .ok (.ifCond .ge 7, 3) by decide +kernel) rfl ?_ ?_
        · skip
          refine V_lconst 20 rfl (show decode M_Supply_leastWayTo.2.1 19 = .ok (.lconst 0, 1) by decide +kernel) (v := 0) rfl ?_
          refine V_goto 30 (show decode M_Supply_leastWayTo.2.1 20 = .ok (.goto 10, 3) by decide +kernel) rfl ?_
          exact V_sub [0, 1, 2, 3, 4, 5] rfl (hJ30 (0 : Int64) b σ)
        · skip
          refine V_aload_n 24 rfl (show decode M_Supply_leastWayTo.2.1 23 = .ok (.aload_n 0, 1) by decide +kernel) 0 rfl ?_
          refine V_get (j := 7) (v := vR (SR σ h0 7)) 27 rfl ck_Supply (by decide) (by decide) (show decode M_Supply_leastWayTo.2.1 24 = .ok (.getfield 33, 3) by decide +kernel) wd_368 rfl ?_
          refine V_iload 29 rfl (show decode M_Supply_leastWayTo.2.1 27 = .ok (.iload 6, 2) by decide +kernel) 5 rfl ?_
          refine V_ald_long 30 rfl (show decode M_Supply_leastWayTo.2.1 29 = .ok (.laload, 1) by decide +kernel) ?_
          exact V_sub [0, 1, 2, 3, 4, 5] rfl (hJ30 (SL σ (SR σ h0 7) (ix x6)) ((b && cK σ h0 7) && cA σ (SR σ h0 7) 23 x6) σ)
    · skip
      refine V_lload 131 rfl (show decode M_Supply_leastWayTo.2.1 129 = .ok (.lload 4, 2) by decide +kernel) 4 rfl ?_
      exact V_lret rfl (by decide) (by decide) (show decode M_Supply_leastWayTo.2.1 131 = .ok (.lreturn, 1) by decide +kernel)
theorem cal_Supply_leastWayTo (d mc ms k n : Nat) (h1 : 1 + 1 ≤ d) (h2 : k + 0 ≤ mc) (h3 : n + 0 ≤ ms) : Cal M_Supply_leastWayTo 1 0 0 3 d mc ms k n := ⟨wd_1327, wd_176, by decide, h1, by decide, h2, h3⟩
abbrev M_Supply_lineUpTowns : MD := (⟨"LongTrail$Supply", "lineUpTowns", "(LLongTrail$Ground;)I"⟩, prog_8_method_10_code, 5, (some FieldType.int))
def b_Supply_lineUpTowns_26 (h0 : Nat) (h1 : Nat) (x2 : Int32) (x3 : Int32) (J87 : Int32 → Bool → Sto → Rs Int32) (L26 : Int32 → Bool → Sto → Rs Int32) (x4 : Int32) (b : Bool) (σ : Sto) : Rs Int32 := (lt_ (fun (b : Bool) (σ : Sto) => (lt_ (pI σ (SR σ h0 6) (ix x4) (SI σ (SR σ h1 1) (ix x3))) (fun (σ_6 : Sto) => (lt_ (x2 + (1 : Int32)) (fun (x2_7 : Int32) => (J87 x2_7 ((((b && cK σ h0 7) && cK σ h1 2) && cA σ (SR σ h1 1) 21 x3) && cA σ (SR σ h0 6) 21 x4) σ_6)))))) (fun J71 => (if 0 < x4 then (if (SI σ (SR σ h1 1) (ix x3)) < (SI σ (SR σ h0 6) (ix (x4 - (1 : Int32)))) then (lt_ (pI σ (SR σ h0 6) (ix x4) (SI σ (SR σ h0 6) (ix (x4 - (1 : Int32))))) (fun (σ_8 : Sto) => (lt_ (x4 + (-1 : Int32)) (fun (x4_9 : Int32) => (L26 x4_9 ((((((((b && cK σ h0 7) && cA σ (SR σ h0 6) 21 (x4 - (1 : Int32))) && cK σ h1 2) && cA σ (SR σ h1 1) 21 x3) && cK σ h0 7) && cK σ h0 7) && cA σ (SR σ h0 6) 21 (x4 - (1 : Int32))) && cA σ (SR σ h0 6) 21 x4) σ_8))))) else (J71 ((((b && cK σ h0 7) && cA σ (SR σ h0 6) 21 (x4 - (1 : Int32))) && cK σ h1 2) && cA σ (SR σ h1 1) 21 x3) σ)) else (J71 b σ))))
def b_Supply_lineUpTowns_4 (h0 : Nat) (h1 : Nat) (L4 : Int32 → Int32 → Bool → Sto → Rs Int32) (x2 : Int32) (x3 : Int32) (b : Bool) (σ : Sto) : Rs Int32 := (if x3 < (SI σ h1 10) then (bd_ (f_Ground_isTown h1 x3 ((b && cK σ h1 2) && cK σ h1 2) σ) (fun (r_3 : Int32) (b_3 : Bool) (σ_3 : Sto) => (lt_ (fun (x2_87 : Int32) (b : Bool) (σ : Sto) => (lt_ (x3 + (1 : Int32)) (fun (x3_4 : Int32) => (L4 x2_87 x3_4 b σ)))) (fun J87 => (if r_3 = 0 then (J87 x2 b_3 σ_3) else (lt_ x2 (fun (x4_5 : Int32) => (lp_ (b_Supply_lineUpTowns_26 h0 h1 x2 x3 J87) (fun (x4 : Int32) (b : Bool) (σ : Sto) => (0, false, σ)) fuel_ x4_5 b_3 σ_3)))))))) else (x2, (b && cK σ h1 2), σ))
def f_Supply_lineUpTowns (h0 : Nat) (h1 : Nat) (b : Bool) (σ : Sto) : Rs Int32 := (lt_ (0 : Int32) (fun (x2_1 : Int32) => (lt_ (0 : Int32) (fun (x3_2 : Int32) => (lp_ (b_Supply_lineUpTowns_4 h0 h1) (fun (x2 : Int32) (x3 : Int32) (b : Bool) (σ : Sto) => (0, false, σ)) fuel_ x2_1 x3_2 b σ)))))
set_option maxRecDepth 100000 in
set_option maxHeartbeats 4000000 in
theorem s_Supply_lineUpTowns : ∀ (h0 : Nat) (h1 : Nat) (b : Bool) (σ : Sto), Snd M_Supply_lineUpTowns 3 0 0 [vR h0, vR h1] b σ (tI (f_Supply_lineUpTowns h0 h1 b σ).1) (f_Supply_lineUpTowns h0 h1 b σ).2.1 (f_Supply_lineUpTowns h0 h1 b σ).2.2 := by
  intro h0 h1 b σ
  refine Snd_of (tv := tI) (by decide) (Nat.le_of_ble_eq_true rfl) ?_
  show V M_Supply_lineUpTowns 3 0 0 0 0 tI (f_Supply_lineUpTowns h0 h1 b σ) 0 [(0, vR h0), (1, vR h1)] [] b σ
  unfold f_Supply_lineUpTowns
  refine V_iconst 1 rfl (show decode M_Supply_lineUpTowns.2.1 0 = .ok (.iconst 0, 1) by decide +kernel) (v := 0) rfl ?_
  refine V_istore_n (fun x2_1 => [(2, vI x2_1), (0, vR h0), (1, vR h1)]) 2 rfl (show decode M_Supply_lineUpTowns.2.1 1 = .ok (.istore_n 2, 1) by decide +kernel) (by decide) (fun _ => rfl) (fun x2_1 => ?_)
  refine V_iconst 3 rfl (show decode M_Supply_lineUpTowns.2.1 2 = .ok (.iconst 0, 1) by decide +kernel) (v := 0) rfl ?_
  refine V_istore_n (fun x3_2 => [(3, vI x3_2), (2, vI x2_1), (0, vR h0), (1, vR h1)]) 4 rfl (show decode M_Supply_lineUpTowns.2.1 3 = .ok (.istore_n 3, 1) by decide +kernel) (by decide) (fun _ => rfl) (fun x3_2 => ?_)
  refine V_sub [2, 3, 1, 0] rfl ?_
  refine lp_P (fun (L4 : Int32 → Int32 → Bool → Sto → Rs Int32) => ∀ (x2 : Int32) (x3 : Int32) (b : Bool) (σ : Sto), V M_Supply_lineUpTowns 3 0 0 0 0 tI (L4 x2 x3 b σ) 4 [(0, vR h0), (1, vR h1), (2, vI x2), (3, vI x3)] [] b σ) ?_ ?_ fuel_ x2_1 x3_2 b σ
  · intro x2 x3 b σ; exact V_bad
  · intro L4 hL4 x2 x3 b σ
    unfold b_Supply_lineUpTowns_4
    refine V_iload_n 5 rfl (show decode M_Supply_lineUpTowns.2.1 4 = .ok (.iload_n 3, 1) by decide +kernel) 3 rfl ?_
    refine V_aload_n 6 rfl (show decode M_Supply_lineUpTowns.2.1 5 = .ok (.aload_n 1, 1) by decide +kernel) 1 rfl ?_
    refine V_getN (j := 10) (v := vI (SI σ h1 10)) 9 rfl ck_Ground (by decide) (by decide) (show decode M_Supply_lineUpTowns.2.1 6 = .ok (.getfield 76, 3) by decide +kernel) wd_237 rfl ?_
    refine V_icmpge 12 93 rfl (show decode M_Supply_lineUpTowns.2.1 9 = .ok (.if_icmp .ge 84, 3) by decide +kernel) rfl ?_ ?_
    · skip
      refine V_aload_n 13 rfl (show decode M_Supply_lineUpTowns.2.1 12 = .ok (.aload_n 1, 1) by decide +kernel) 1 rfl ?_
      refine V_iload_n 14 rfl (show decode M_Supply_lineUpTowns.2.1 13 = .ok (.iload_n 3, 1) by decide +kernel) 3 rfl ?_
      refine V_callVN (tb := tI) (as := [vI x3]) (rest := []) (na := 1) 17 rfl ck_Ground (by decide) (s_Ground_isTown h1 x3 ((b && cK σ h1 2) && cK σ h1 2) σ) rfl rfl (Nat.le_of_ble_eq_true rfl) (cal_Ground_isTown _ _ _ _ _ (by decide) (by decide) (by decide)) (show decode M_Supply_lineUpTowns.2.1 14 = .ok (.invokevirtual 79, 3) by decide +kernel) wd_1322 wd_699 wd_10 (fun r_3 b_3 σ_3 => ?_)
      show V M_Supply_lineUpTowns 3 0 0 0 0 tI _ 17 [(0, vR h0), (1, vR h1), (2, vI x2), (3, vI x3)] [vI r_3] b_3 σ_3
      refine V_jn (fun (J87 : Int32 → Bool → Sto → Rs Int32) => ∀ (x2_87 : Int32) (b : Bool) (σ : Sto), V M_Supply_lineUpTowns 3 0 0 0 0 tI (J87 x2_87 b σ) 87 [(0, vR h0), (1, vR h1), (2, vI x2_87), (3, vI x3)] [] b σ) ?_ (fun J87 hJ87 => ?_)
      · intro x2_87 b σ
        refine V_iinc (fun x3_4 => [(3, vI x3_4), (0, vR h0), (1, vR h1), (2, vI x2_87)]) 90 rfl (show decode M_Supply_lineUpTowns.2.1 87 = .ok (.iinc 3 1, 3) by decide +kernel) 3 rfl (w := 1) rfl (by decide) (fun _ => rfl) (fun x3_4 => ?_)
        refine V_goto 4 (show decode M_Supply_lineUpTowns.2.1 90 = .ok (.goto (-86), 3) by decide +kernel) rfl ?_
        exact V_sub [1, 2, 3, 0] rfl (hL4 x2_87 x3_4 b σ)
      · skip
        refine V_ifne 20 23 rfl (show decode M_Supply_lineUpTowns.2.1 17 = .ok (.ifCond .ne 6, 3) by decide +kernel) rfl ?_ ?_
        · skip
          refine V_goto 87 (show decode M_Supply_lineUpTowns.2.1 20 = .ok (.goto 67, 3) by decide +kernel) rfl ?_
          exact V_sub [0, 1, 2, 3] rfl (hJ87 x2 b_3 σ_3)
        · skip
          refine V_iload_n 24 rfl (show decode M_Supply_lineUpTowns.2.1 23 = .ok (.iload_n 2, 1) by decide +kernel) 2 rfl ?_
          refine V_istore (fun x4_5 => [(4, vI x4_5), (0, vR h0), (1, vR h1), (2, vI x2), (3, vI x3)]) 26 rfl (show decode M_Supply_lineUpTowns.2.1 24 = .ok (.istore 4, 2) by decide +kernel) (by decide) (fun _ => rfl) (fun x4_5 => ?_)
          refine V_sub [1, 2, 3, 4, 0] rfl ?_
          refine lp_P (fun (L26 : Int32 → Bool → Sto → Rs Int32) => ∀ (x4 : Int32) (b : Bool) (σ : Sto), V M_Supply_lineUpTowns 3 0 0 0 0 tI (L26 x4 b σ) 26 [(0, vR h0), (1, vR h1), (2, vI x2), (3, vI x3), (4, vI x4)] [] b σ) ?_ ?_ fuel_ x4_5 b_3 σ_3
          · intro x4 b σ; exact V_bad
          · intro L26 hL26 x4 b σ
            unfold b_Supply_lineUpTowns_26
            refine V_iload 28 rfl (show decode M_Supply_lineUpTowns.2.1 26 = .ok (.iload 4, 2) by decide +kernel) 4 rfl ?_
            refine V_jn (fun (J71 : Bool → Sto → Rs Int32) => ∀ (b : Bool) (σ : Sto), V M_Supply_lineUpTowns 3 0 0 0 0 tI (J71 b σ) 71 [(0, vR h0), (1, vR h1), (2, vI x2), (3, vI x3), (4, vI x4)] [] b σ) ?_ (fun J71 hJ71 => ?_)
            · intro b σ
              refine V_aload_n 72 rfl (show decode M_Supply_lineUpTowns.2.1 71 = .ok (.aload_n 0, 1) by decide +kernel) 0 rfl ?_
              refine V_get (j := 6) (v := vR (SR σ h0 6)) 75 rfl ck_Supply (by decide) (by decide) (show decode M_Supply_lineUpTowns.2.1 72 = .ok (.getfield 30, 3) by decide +kernel) wd_367 rfl ?_
              refine V_iload 77 rfl (show decode M_Supply_lineUpTowns.2.1 75 = .ok (.iload 4, 2) by decide +kernel) 4 rfl ?_
              refine V_aload_n 78 rfl (show decode M_Supply_lineUpTowns.2.1 77 = .ok (.aload_n 1, 1) by decide +kernel) 1 rfl ?_
              refine V_getN (j := 1) (v := vR (SR σ h1 1)) 81 rfl ck_Ground (by decide) (by decide) (show decode M_Supply_lineUpTowns.2.1 78 = .ok (.getfield 83, 3) by decide +kernel) wd_217 rfl ?_
              refine V_iload_n 82 rfl (show decode M_Supply_lineUpTowns.2.1 81 = .ok (.iload_n 3, 1) by decide +kernel) 3 rfl ?_
              refine V_ald_int 83 rfl (show decode M_Supply_lineUpTowns.2.1 82 = .ok (.iaload, 1) by decide +kernel) ?_
              refine V_ast_int 84 rfl (show decode M_Supply_lineUpTowns.2.1 83 = .ok (.iastore, 1) by decide +kernel) (fun σ_6 => ?_)
              refine V_iinc (fun x2_7 => [(2, vI x2_7), (0, vR h0), (1, vR h1), (3, vI x3), (4, vI x4)]) 87 rfl (show decode M_Supply_lineUpTowns.2.1 84 = .ok (.iinc 2 1, 3) by decide +kernel) 2 rfl (w := 1) rfl (by decide) (fun _ => rfl) (fun x2_7 => ?_)
              exact V_sub [1, 2, 0, 3] rfl (hJ87 x2_7 ((((b && cK σ h0 7) && cK σ h1 2) && cA σ (SR σ h1 1) 21 x3) && cA σ (SR σ h0 6) 21 x4) σ_6)
            · skip
              refine V_ifle 31 71 rfl (show decode M_Supply_lineUpTowns.2.1 28 = .ok (.ifCond .le 43, 3) by decide +kernel) rfl ?_ ?_
              · skip
                refine V_aload_n 32 rfl (show decode M_Supply_lineUpTowns.2.1 31 = .ok (.aload_n 0, 1) by decide +kernel) 0 rfl ?_
                refine V_get (j := 6) (v := vR (SR σ h0 6)) 35 rfl ck_Supply (by decide) (by decide) (show decode M_Supply_lineUpTowns.2.1 32 = .ok (.getfield 30, 3) by decide +kernel) wd_367 rfl ?_
                refine V_iload 37 rfl (show decode M_Supply_lineUpTowns.2.1 35 = .ok (.iload 4, 2) by decide +kernel) 4 rfl ?_
                refine V_iconst 38 rfl (show decode M_Supply_lineUpTowns.2.1 37 = .ok (.iconst 1, 1) by decide +kernel) (v := 1) rfl ?_
                refine V_isub 39 rfl (show decode M_Supply_lineUpTowns.2.1 38 = .ok (.isub, 1) by decide +kernel) ?_
                refine V_ald_int 40 rfl (show decode M_Supply_lineUpTowns.2.1 39 = .ok (.iaload, 1) by decide +kernel) ?_
                refine V_aload_n 41 rfl (show decode M_Supply_lineUpTowns.2.1 40 = .ok (.aload_n 1, 1) by decide +kernel) 1 rfl ?_
                refine V_getN (j := 1) (v := vR (SR σ h1 1)) 44 rfl ck_Ground (by decide) (by decide) (show decode M_Supply_lineUpTowns.2.1 41 = .ok (.getfield 83, 3) by decide +kernel) wd_217 rfl ?_
                refine V_iload_n 45 rfl (show decode M_Supply_lineUpTowns.2.1 44 = .ok (.iload_n 3, 1) by decide +kernel) 3 rfl ?_
                refine V_ald_int 46 rfl (show decode M_Supply_lineUpTowns.2.1 45 = .ok (.iaload, 1) by decide +kernel) ?_
                refine V_icmple 49 71 rfl (show decode M_Supply_lineUpTowns.2.1 46 = .ok (.if_icmp .le 25, 3) by decide +kernel) rfl ?_ ?_
                · skip
                  refine V_aload_n 50 rfl (show decode M_Supply_lineUpTowns.2.1 49 = .ok (.aload_n 0, 1) by decide +kernel) 0 rfl ?_
                  refine V_get (j := 6) (v := vR (SR σ h0 6)) 53 rfl ck_Supply (by decide) (by decide) (show decode M_Supply_lineUpTowns.2.1 50 = .ok (.getfield 30, 3) by decide +kernel) wd_367 rfl ?_
                  refine V_iload 55 rfl (show decode M_Supply_lineUpTowns.2.1 53 = .ok (.iload 4, 2) by decide +kernel) 4 rfl ?_
                  refine V_aload_n 56 rfl (show decode M_Supply_lineUpTowns.2.1 55 = .ok (.aload_n 0, 1) by decide +kernel) 0 rfl ?_
                  refine V_get (j := 6) (v := vR (SR σ h0 6)) 59 rfl ck_Supply (by decide) (by decide) (show decode M_Supply_lineUpTowns.2.1 56 = .ok (.getfield 30, 3) by decide +kernel) wd_367 rfl ?_
                  refine V_iload 61 rfl (show decode M_Supply_lineUpTowns.2.1 59 = .ok (.iload 4, 2) by decide +kernel) 4 rfl ?_
                  refine V_iconst 62 rfl (show decode M_Supply_lineUpTowns.2.1 61 = .ok (.iconst 1, 1) by decide +kernel) (v := 1) rfl ?_
                  refine V_isub 63 rfl (show decode M_Supply_lineUpTowns.2.1 62 = .ok (.isub, 1) by decide +kernel) ?_
                  refine V_ald_int 64 rfl (show decode M_Supply_lineUpTowns.2.1 63 = .ok (.iaload, 1) by decide +kernel) ?_
                  refine V_ast_int 65 rfl (show decode M_Supply_lineUpTowns.2.1 64 = .ok (.iastore, 1) by decide +kernel) (fun σ_8 => ?_)
                  refine V_iinc (fun x4_9 => [(4, vI x4_9), (0, vR h0), (1, vR h1), (2, vI x2), (3, vI x3)]) 68 rfl (show decode M_Supply_lineUpTowns.2.1 65 = .ok (.iinc 4 (-1), 3) by decide +kernel) 4 rfl (w := -1) rfl (by decide) (fun _ => rfl) (fun x4_9 => ?_)
                  refine V_goto 26 (show decode M_Supply_lineUpTowns.2.1 68 = .ok (.goto (-42), 3) by decide +kernel) rfl ?_
                  exact V_sub [1, 2, 3, 4, 0] rfl (hL26 x4_9 ((((((((b && cK σ h0 7) && cA σ (SR σ h0 6) 21 (x4 - (1 : Int32))) && cK σ h1 2) && cA σ (SR σ h1 1) 21 x3) && cK σ h0 7) && cK σ h0 7) && cA σ (SR σ h0 6) 21 (x4 - (1 : Int32))) && cA σ (SR σ h0 6) 21 x4) σ_8)
                · skip
                  exact V_sub [0, 1, 2, 3, 4] rfl (hJ71 ((((b && cK σ h0 7) && cA σ (SR σ h0 6) 21 (x4 - (1 : Int32))) && cK σ h1 2) && cA σ (SR σ h1 1) 21 x3) σ)
              · skip
                exact V_sub [0, 1, 2, 3, 4] rfl (hJ71 b σ)
    · skip
      refine V_iload_n 94 rfl (show decode M_Supply_lineUpTowns.2.1 93 = .ok (.iload_n 2, 1) by decide +kernel) 2 rfl ?_
      exact V_iret rfl (by decide) (by decide) (show decode M_Supply_lineUpTowns.2.1 94 = .ok (.ireturn, 1) by decide +kernel)
theorem cal_Supply_lineUpTowns (d mc ms k n : Nat) (h1 : 3 + 1 ≤ d) (h2 : k + 0 ≤ mc) (h3 : n + 0 ≤ ms) : Cal M_Supply_lineUpTowns 3 0 0 1 d mc ms k n := ⟨wd_1321, wd_176, by decide, h1, by decide, h2, h3⟩
abbrev M_Supply_leastPlan : MD := (⟨"LongTrail$Supply", "leastPlan", "(LLongTrail$Ground;II)J"⟩, prog_8_method_8_code, 10, (some FieldType.long))
def b_Supply_leastPlan_21 (h0 : Nat) (x2 : Int32) (x3 : Int32) (x4_2 : Int32) (L21 : Int32 → Bool → Sto → Rs Int64) (x5 : Int32) (b : Bool) (σ : Sto) : Rs Int64 := (if x5 < x4_2 then (lt_ ((((((SI σ h0 0)).toInt64) <<< (((21 : Int32)).toInt64 &&& 63)) + (65536 : Int64)) + ((1 : Int64) <<< ((x5).toInt64 &&& 63))) (fun (l6_5 : Int64) => (bd_ (f_Supply_leastWayTo h0 x5 x2 x3 ((b && cK σ h0 7) && cK σ h0 7) σ) (fun (r_6 : Int64) (b_6 : Bool) (σ_6 : Sto) => (lt_ r_6 (fun (l8_7 : Int64) => (lt_ (fun (s0_81 : Int64) (s1_81 : Int32) (s2_81 : Nat) (b : Bool) (σ : Sto) => (lt_ (pL σ s2_81 (ix s1_81) s0_81) (fun (σ_8 : Sto) => (lt_ (x5 + (1 : Int32)) (fun (x5_9 : Int32) => (L21 x5_9 (b && cA σ s2_81 23 s1_81) σ_8)))))) (fun J81 => (if (lg_cmp l8_7 (0 : Int64)) < 0 then (J81 (-1 : Int64) x5 (SR σ_6 h0 7) (b_6 && cK σ_6 h0 7) σ_6) else (J81 (l8_7 + l6_5) x5 (SR σ_6 h0 7) (b_6 && cK σ_6 h0 7) σ_6)))))))))) else (bd_ (f_Supply_leastWayTo h0 x4_2 x2 x3 (b && cK σ h0 7) σ) (fun (r_10 : Int64) (b_10 : Bool) (σ_10 : Sto) => (r_10, b_10, σ_10))))
def f_Supply_leastPlan (h0 : Nat) (h1 : Nat) (x2 : Int32) (x3 : Int32) (b : Bool) (σ : Sto) : Rs Int64 := (bd_ (f_Supply_lineUpTowns h0 h1 (b && cK σ h0 7) σ) (fun (r_1 : Int32) (b_1 : Bool) (σ_1 : Sto) => (lt_ r_1 (fun (x4_2 : Int32) => (lt_ (pI σ_1 (SR σ_1 h0 6) (ix x4_2) (SI σ_1 h1 9)) (fun (σ_3 : Sto) => (lt_ (0 : Int32) (fun (x5_4 : Int32) => (lp_ (b_Supply_leastPlan_21 h0 x2 x3 x4_2) (fun (x5 : Int32) (b : Bool) (σ : Sto) => (0, false, σ)) fuel_ x5_4 (((b_1 && cK σ_1 h0 7) && cK σ_1 h1 2) && cA σ_1 (SR σ_1 h0 6) 21 x4_2) σ_3)))))))))
set_option maxRecDepth 100000 in
set_option maxHeartbeats 4000000 in
theorem s_Supply_leastPlan : ∀ (h0 : Nat) (h1 : Nat) (x2 : Int32) (x3 : Int32) (b : Bool) (σ : Sto), Snd M_Supply_leastPlan 4 0 0 [vR h0, vR h1, vI x2, vI x3] b σ (tL (f_Supply_leastPlan h0 h1 x2 x3 b σ).1) (f_Supply_leastPlan h0 h1 x2 x3 b σ).2.1 (f_Supply_leastPlan h0 h1 x2 x3 b σ).2.2 := by
  intro h0 h1 x2 x3 b σ
  refine Snd_of (tv := tL) (by decide) (Nat.le_of_ble_eq_true rfl) ?_
  show V M_Supply_leastPlan 4 0 0 0 0 tL (f_Supply_leastPlan h0 h1 x2 x3 b σ) 0 [(0, vR h0), (1, vR h1), (2, vI x2), (3, vI x3)] [] b σ
  unfold f_Supply_leastPlan
  refine V_aload_n 1 rfl (show decode M_Supply_leastPlan.2.1 0 = .ok (.aload_n 0, 1) by decide +kernel) 0 rfl ?_
  refine V_aload_n 2 rfl (show decode M_Supply_leastPlan.2.1 1 = .ok (.aload_n 1, 1) by decide +kernel) 1 rfl ?_
  refine V_callV (tb := tI) (as := [vR h1]) (rest := []) (na := 1) 5 rfl ck_Supply (by decide) (s_Supply_lineUpTowns h0 h1 (b && cK σ h0 7) σ) rfl rfl (Nat.le_of_ble_eq_true rfl) (cal_Supply_lineUpTowns _ _ _ _ _ (by decide) (by decide) (by decide)) (show decode M_Supply_leastPlan.2.1 2 = .ok (.invokevirtual 61, 3) by decide +kernel) wd_1318 wd_1320 wd_88 (fun r_1 b_1 σ_1 => ?_)
  show V M_Supply_leastPlan 4 0 0 0 0 tL _ 5 [(0, vR h0), (1, vR h1), (2, vI x2), (3, vI x3)] [vI r_1] b_1 σ_1
  refine V_istore (fun x4_2 => [(4, vI x4_2), (0, vR h0), (1, vR h1), (2, vI x2), (3, vI x3)]) 7 rfl (show decode M_Supply_leastPlan.2.1 5 = .ok (.istore 4, 2) by decide +kernel) (by decide) (fun _ => rfl) (fun x4_2 => ?_)
  refine V_aload_n 8 rfl (show decode M_Supply_leastPlan.2.1 7 = .ok (.aload_n 0, 1) by decide +kernel) 1 rfl ?_
  refine V_get (j := 6) (v := vR (SR σ_1 h0 6)) 11 rfl ck_Supply (by decide) (by decide) (show decode M_Supply_leastPlan.2.1 8 = .ok (.getfield 30, 3) by decide +kernel) wd_367 rfl ?_
  refine V_iload 13 rfl (show decode M_Supply_leastPlan.2.1 11 = .ok (.iload 4, 2) by decide +kernel) 0 rfl ?_
  refine V_aload_n 14 rfl (show decode M_Supply_leastPlan.2.1 13 = .ok (.aload_n 1, 1) by decide +kernel) 2 rfl ?_
  refine V_getN (j := 9) (v := vI (SI σ_1 h1 9)) 17 rfl ck_Ground (by decide) (by decide) (show decode M_Supply_leastPlan.2.1 14 = .ok (.getfield 65, 3) by decide +kernel) wd_232 rfl ?_
  refine V_ast_int 18 rfl (show decode M_Supply_leastPlan.2.1 17 = .ok (.iastore, 1) by decide +kernel) (fun σ_3 => ?_)
  refine V_iconst 19 rfl (show decode M_Supply_leastPlan.2.1 18 = .ok (.iconst 0, 1) by decide +kernel) (v := 0) rfl ?_
  refine V_istore (fun x5_4 => [(5, vI x5_4), (4, vI x4_2), (0, vR h0), (1, vR h1), (2, vI x2), (3, vI x3)]) 21 rfl (show decode M_Supply_leastPlan.2.1 19 = .ok (.istore 5, 2) by decide +kernel) (by decide) (fun _ => rfl) (fun x5_4 => ?_)
  refine V_sub [2, 4, 5, 1, 0] rfl ?_
  refine lp_P (fun (L21 : Int32 → Bool → Sto → Rs Int64) => ∀ (x5 : Int32) (b : Bool) (σ : Sto), V M_Supply_leastPlan 4 0 0 0 0 tL (L21 x5 b σ) 21 [(0, vR h0), (2, vI x2), (3, vI x3), (4, vI x4_2), (5, vI x5)] [] b σ) ?_ ?_ fuel_ x5_4 (((b_1 && cK σ_1 h0 7) && cK σ_1 h1 2) && cA σ_1 (SR σ_1 h0 6) 21 x4_2) σ_3
  · intro x5 b σ; exact V_bad
  · intro L21 hL21 x5 b σ
    unfold b_Supply_leastPlan_21
    refine V_iload 23 rfl (show decode M_Supply_leastPlan.2.1 21 = .ok (.iload 5, 2) by decide +kernel) 4 rfl ?_
    refine V_iload 25 rfl (show decode M_Supply_leastPlan.2.1 23 = .ok (.iload 4, 2) by decide +kernel) 3 rfl ?_
    refine V_icmpge 28 88 rfl (show decode M_Supply_leastPlan.2.1 25 = .ok (.if_icmp .ge 63, 3) by decide +kernel) rfl ?_ ?_
    · skip
      refine V_aload_n 29 rfl (show decode M_Supply_leastPlan.2.1 28 = .ok (.aload_n 0, 1) by decide +kernel) 0 rfl ?_
      refine V_get (j := 0) (v := vI (SI σ h0 0)) 32 rfl ck_Supply (by decide) (by decide) (show decode M_Supply_leastPlan.2.1 29 = .ok (.getfield 9, 3) by decide +kernel) wd_359 rfl ?_
      refine V_i2l 33 rfl (show decode M_Supply_leastPlan.2.1 32 = .ok (.i2l, 1) by decide +kernel) ?_
      refine V_bipush 35 rfl (show decode M_Supply_leastPlan.2.1 33 = .ok (.bipush 21, 2) by decide +kernel) (v := 21) rfl ?_
      refine V_lshl 36 rfl (show decode M_Supply_leastPlan.2.1 35 = .ok (.lshl, 1) by decide +kernel) ?_
      refine V_ldc2 39 rfl (show decode M_Supply_leastPlan.2.1 36 = .ok (.ldc2_w 68, 3) by decide +kernel) wd_1323 ?_
      refine V_ladd 40 rfl (show decode M_Supply_leastPlan.2.1 39 = .ok (.ladd, 1) by decide +kernel) ?_
      refine V_lconst 41 rfl (show decode M_Supply_leastPlan.2.1 40 = .ok (.lconst 1, 1) by decide +kernel) (v := 1) rfl ?_
      refine V_iload 43 rfl (show decode M_Supply_leastPlan.2.1 41 = .ok (.iload 5, 2) by decide +kernel) 4 rfl ?_
      refine V_lshl 44 rfl (show decode M_Supply_leastPlan.2.1 43 = .ok (.lshl, 1) by decide +kernel) ?_
      refine V_ladd 45 rfl (show decode M_Supply_leastPlan.2.1 44 = .ok (.ladd, 1) by decide +kernel) ?_
      refine V_lstore (fun l6_5 => [(6, vL l6_5), (0, vR h0), (2, vI x2), (3, vI x3), (4, vI x4_2), (5, vI x5)]) 47 rfl (show decode M_Supply_leastPlan.2.1 45 = .ok (.lstore 6, 2) by decide +kernel) (by decide) (fun _ => rfl) (fun l6_5 => ?_)
      refine V_aload_n 48 rfl (show decode M_Supply_leastPlan.2.1 47 = .ok (.aload_n 0, 1) by decide +kernel) 1 rfl ?_
      refine V_iload 50 rfl (show decode M_Supply_leastPlan.2.1 48 = .ok (.iload 5, 2) by decide +kernel) 5 rfl ?_
      refine V_iload_n 51 rfl (show decode M_Supply_leastPlan.2.1 50 = .ok (.iload_n 2, 1) by decide +kernel) 2 rfl ?_
      refine V_iload_n 52 rfl (show decode M_Supply_leastPlan.2.1 51 = .ok (.iload_n 3, 1) by decide +kernel) 3 rfl ?_
      refine V_callV (tb := tL) (as := [vI x5, vI x2, vI x3]) (rest := []) (na := 3) 55 rfl ck_Supply (by decide) (s_Supply_leastWayTo h0 x5 x2 x3 ((b && cK σ h0 7) && cK σ h0 7) σ) rfl rfl (Nat.le_of_ble_eq_true rfl) (cal_Supply_leastWayTo _ _ _ _ _ (by decide) (by decide) (by decide)) (show decode M_Supply_leastPlan.2.1 52 = .ok (.invokevirtual 70, 3) by decide +kernel) wd_1324 wd_1326 wd_89 (fun r_6 b_6 σ_6 => ?_)
      show V M_Supply_leastPlan 4 0 0 0 0 tL _ 55 [(6, vL l6_5), (0, vR h0), (2, vI x2), (3, vI x3), (4, vI x4_2), (5, vI x5)] [vL r_6] b_6 σ_6
      refine V_lstore (fun l8_7 => [(8, vL l8_7), (6, vL l6_5), (0, vR h0), (2, vI x2), (3, vI x3), (4, vI x4_2), (5, vI x5)]) 57 rfl (show decode M_Supply_leastPlan.2.1 55 = .ok (.lstore 8, 2) by decide +kernel) (by decide) (fun _ => rfl) (fun l8_7 => ?_)
      refine V_aload_n 58 rfl (show decode M_Supply_leastPlan.2.1 57 = .ok (.aload_n 0, 1) by decide +kernel) 2 rfl ?_
      refine V_get (j := 7) (v := vR (SR σ_6 h0 7)) 61 rfl ck_Supply (by decide) (by decide) (show decode M_Supply_leastPlan.2.1 58 = .ok (.getfield 33, 3) by decide +kernel) wd_368 rfl ?_
      refine V_iload 63 rfl (show decode M_Supply_leastPlan.2.1 61 = .ok (.iload 5, 2) by decide +kernel) 6 rfl ?_
      refine V_lload 65 rfl (show decode M_Supply_leastPlan.2.1 63 = .ok (.lload 8, 2) by decide +kernel) 0 rfl ?_
      refine V_lconst 66 rfl (show decode M_Supply_leastPlan.2.1 65 = .ok (.lconst 0, 1) by decide +kernel) (v := 0) rfl ?_
      refine V_lcmp 67 rfl (show decode M_Supply_leastPlan.2.1 66 = .ok (.lcmp, 1) by decide +kernel) ?_
      refine V_jn (fun (J81 : Int64 → Int32 → Nat → Bool → Sto → Rs Int64) => ∀ (s0_81 : Int64) (s1_81 : Int32) (s2_81 : Nat) (b : Bool) (σ : Sto), V M_Supply_leastPlan 4 0 0 0 0 tL (J81 s0_81 s1_81 s2_81 b σ) 81 [(0, vR h0), (2, vI x2), (3, vI x3), (4, vI x4_2), (5, vI x5)] [vL s0_81, vI s1_81, vR s2_81] b σ) ?_ (fun J81 hJ81 => ?_)
      · intro s0_81 s1_81 s2_81 b σ
        refine V_ast_long 82 rfl (show decode M_Supply_leastPlan.2.1 81 = .ok (.lastore, 1) by decide +kernel) (fun σ_8 => ?_)
        refine V_iinc (fun x5_9 => [(5, vI x5_9), (0, vR h0), (2, vI x2), (3, vI x3), (4, vI x4_2)]) 85 rfl (show decode M_Supply_leastPlan.2.1 82 = .ok (.iinc 5 1, 3) by decide +kernel) 4 rfl (w := 1) rfl (by decide) (fun _ => rfl) (fun x5_9 => ?_)
        refine V_goto 21 (show decode M_Supply_leastPlan.2.1 85 = .ok (.goto (-64), 3) by decide +kernel) rfl ?_
        exact V_sub [1, 2, 3, 4, 0] rfl (hL21 x5_9 (b && cA σ s2_81 23 s1_81) σ_8)
      · skip
        refine V_ifge 70 76 rfl (show decode M_Supply_leastPlan.2.1 67 = .ok (.ifCond .ge 9, 3) by decide +kernel) rfl ?_ ?_
        · skip
          refine V_ldc2 73 rfl (show decode M_Supply_leastPlan.2.1 70 = .ok (.ldc2_w 74, 3) by decide +kernel) wd_1328 ?_
          refine V_goto 81 (show decode M_Supply_leastPlan.2.1 73 = .ok (.goto 8, 3) by decide +kernel) rfl ?_
          exact V_sub [2, 3, 4, 5, 6] rfl (hJ81 (-1 : Int64) x5 (SR σ_6 h0 7) (b_6 && cK σ_6 h0 7) σ_6)
        · skip
          refine V_lload 78 rfl (show decode M_Supply_leastPlan.2.1 76 = .ok (.lload 8, 2) by decide +kernel) 0 rfl ?_
          refine V_lload 80 rfl (show decode M_Supply_leastPlan.2.1 78 = .ok (.lload 6, 2) by decide +kernel) 1 rfl ?_
          refine V_ladd 81 rfl (show decode M_Supply_leastPlan.2.1 80 = .ok (.ladd, 1) by decide +kernel) ?_
          exact V_sub [2, 3, 4, 5, 6] rfl (hJ81 (l8_7 + l6_5) x5 (SR σ_6 h0 7) (b_6 && cK σ_6 h0 7) σ_6)
    · skip
      refine V_aload_n 89 rfl (show decode M_Supply_leastPlan.2.1 88 = .ok (.aload_n 0, 1) by decide +kernel) 0 rfl ?_
      refine V_iload 91 rfl (show decode M_Supply_leastPlan.2.1 89 = .ok (.iload 4, 2) by decide +kernel) 3 rfl ?_
      refine V_iload_n 92 rfl (show decode M_Supply_leastPlan.2.1 91 = .ok (.iload_n 2, 1) by decide +kernel) 1 rfl ?_
      refine V_iload_n 93 rfl (show decode M_Supply_leastPlan.2.1 92 = .ok (.iload_n 3, 1) by decide +kernel) 2 rfl ?_
      refine V_callV (tb := tL) (as := [vI x4_2, vI x2, vI x3]) (rest := []) (na := 3) 96 rfl ck_Supply (by decide) (s_Supply_leastWayTo h0 x4_2 x2 x3 (b && cK σ h0 7) σ) rfl rfl (Nat.le_of_ble_eq_true rfl) (cal_Supply_leastWayTo _ _ _ _ _ (by decide) (by decide) (by decide)) (show decode M_Supply_leastPlan.2.1 93 = .ok (.invokevirtual 70, 3) by decide +kernel) wd_1324 wd_1326 wd_89 (fun r_10 b_10 σ_10 => ?_)
      show V M_Supply_leastPlan 4 0 0 0 0 tL _ 96 [(0, vR h0), (2, vI x2), (3, vI x3), (4, vI x4_2), (5, vI x5)] [vL r_10] b_10 σ_10
      exact V_lret rfl (by decide) (by decide) (show decode M_Supply_leastPlan.2.1 96 = .ok (.lreturn, 1) by decide +kernel)
theorem cal_Supply_leastPlan (d mc ms k n : Nat) (h1 : 4 + 1 ≤ d) (h2 : k + 0 ≤ mc) (h3 : n + 0 ≤ ms) : Cal M_Supply_leastPlan 4 0 0 3 d mc ms k n := ⟨wd_1317, wd_176, by decide, h1, by decide, h2, h3⟩
abbrev M_Supply_townsOf : MD := (⟨"LongTrail$Supply", "townsOf", "(J)I"⟩, prog_8_method_7_code, 2, (some FieldType.int))
def f_Supply_townsOf (l0 : Int64) (b : Bool) (σ : Sto) : Rs Int32 := ((((l0).toInt32) &&& (65535 : Int32)), b, σ)
set_option maxRecDepth 100000 in
set_option maxHeartbeats 4000000 in
theorem s_Supply_townsOf : ∀ (l0 : Int64) (b : Bool) (σ : Sto), Snd M_Supply_townsOf 1 0 0 [vL l0] b σ (tI (f_Supply_townsOf l0 b σ).1) (f_Supply_townsOf l0 b σ).2.1 (f_Supply_townsOf l0 b σ).2.2 := by
  intro l0 b σ
  refine Snd_of (tv := tI) (by decide) (Nat.le_of_ble_eq_true rfl) ?_
  show V M_Supply_townsOf 1 0 0 0 0 tI (f_Supply_townsOf l0 b σ) 0 [(0, vL l0)] [] b σ
  unfold f_Supply_townsOf
  refine V_lload_n 1 rfl (show decode M_Supply_townsOf.2.1 0 = .ok (.lload_n 0, 1) by decide +kernel) 0 rfl ?_
  refine V_l2i 2 rfl (show decode M_Supply_townsOf.2.1 1 = .ok (.l2i, 1) by decide +kernel) ?_
  refine V_ldc 4 rfl (show decode M_Supply_townsOf.2.1 2 = .ok (.ldc 60, 2) by decide +kernel) wd_1338 ?_
  refine V_iand 5 rfl (show decode M_Supply_townsOf.2.1 4 = .ok (.iand, 1) by decide +kernel) ?_
  exact V_iret rfl (by decide) (by decide) (show decode M_Supply_townsOf.2.1 5 = .ok (.ireturn, 1) by decide +kernel)
theorem cal_Supply_townsOf (d mc ms k n : Nat) (h1 : 1 + 1 ≤ d) (h2 : k + 0 ≤ mc) (h3 : n + 0 ≤ ms) : Cal M_Supply_townsOf 1 0 0 1 d mc ms k n := ⟨wd_1337, wd_176, by decide, h1, by decide, h2, h3⟩
abbrev M_Supply_weightOf : MD := (⟨"LongTrail$Supply", "weightOf", "(J)I"⟩, prog_8_method_5_code, 2, (some FieldType.int))
def f_Supply_weightOf (l0 : Int64) (b : Bool) (σ : Sto) : Rs Int32 := ((((l0 >>> (((21 : Int32)).toInt64 &&& 63))).toInt32), b, σ)
set_option maxRecDepth 100000 in
set_option maxHeartbeats 4000000 in
theorem s_Supply_weightOf : ∀ (l0 : Int64) (b : Bool) (σ : Sto), Snd M_Supply_weightOf 1 0 0 [vL l0] b σ (tI (f_Supply_weightOf l0 b σ).1) (f_Supply_weightOf l0 b σ).2.1 (f_Supply_weightOf l0 b σ).2.2 := by
  intro l0 b σ
  refine Snd_of (tv := tI) (by decide) (Nat.le_of_ble_eq_true rfl) ?_
  show V M_Supply_weightOf 1 0 0 0 0 tI (f_Supply_weightOf l0 b σ) 0 [(0, vL l0)] [] b σ
  unfold f_Supply_weightOf
  refine V_lload_n 1 rfl (show decode M_Supply_weightOf.2.1 0 = .ok (.lload_n 0, 1) by decide +kernel) 0 rfl ?_
  refine V_bipush 3 rfl (show decode M_Supply_weightOf.2.1 1 = .ok (.bipush 21, 2) by decide +kernel) (v := 21) rfl ?_
  refine V_lshr 4 rfl (show decode M_Supply_weightOf.2.1 3 = .ok (.lshr, 1) by decide +kernel) ?_
  refine V_l2i 5 rfl (show decode M_Supply_weightOf.2.1 4 = .ok (.l2i, 1) by decide +kernel) ?_
  exact V_iret rfl (by decide) (by decide) (show decode M_Supply_weightOf.2.1 5 = .ok (.ireturn, 1) by decide +kernel)
theorem cal_Supply_weightOf (d mc ms k n : Nat) (h1 : 1 + 1 ≤ d) (h2 : k + 0 ≤ mc) (h3 : n + 0 ≤ ms) : Cal M_Supply_weightOf 1 0 0 1 d mc ms k n := ⟨wd_1331, wd_176, by decide, h1, by decide, h2, h3⟩
abbrev M_Trail_plan : MD := (⟨"LongTrail", "plan", "(III)I"⟩, prog_1_method_32_code, 6, (some FieldType.int))
def f_Trail_plan (h0 : Nat) (x1 : Int32) (x2 : Int32) (x3 : Int32) (b : Bool) (σ : Sto) : Rs Int32 := (bd_ (f_Trail_within x1 (1 : Int32) (40 : Int32) b σ) (fun (r_1 : Int32) (b_1 : Bool) (σ_1 : Sto) => (lt_ (fun (b : Bool) (σ : Sto) => ((-1000000001 : Int32), b, σ)) (fun J29 => (if r_1 = 0 then (J29 b_1 σ_1) else (bd_ (f_Trail_within x2 (1 : Int32) (20 : Int32) b_1 σ_1) (fun (r_2 : Int32) (b_2 : Bool) (σ_2 : Sto) => (if r_2 = 0 then (J29 b_2 σ_2) else (bd_ (f_Trail_within x3 (0 : Int32) (2 : Int32) b_2 σ_2) (fun (r_3 : Int32) (b_3 : Bool) (σ_3 : Sto) => (if r_3 = 0 then (J29 b_3 σ_3) else (bd_ (f_Supply_leastPlan (SR σ_3 (SR σ_3 h0 0) 4) (SR σ_3 (SR σ_3 h0 0) 0) x1 x2 (((((b_3 && cK σ_3 h0 12) && cK σ_3 (SR σ_3 h0 0) 11) && cK σ_3 h0 12) && cK σ_3 (SR σ_3 h0 0) 11) && cK σ_3 (SR σ_3 (SR σ_3 h0 0) 4) 7) σ_3) (fun (r_4 : Int64) (b_4 : Bool) (σ_4 : Sto) => (lt_ r_4 (fun (l4_5 : Int64) => (if (lg_cmp l4_5 (0 : Int64)) < 0 then ((-1000000005 : Int32), b_4, σ_4) else (if x3 = (0 : Int32) then (bd_ (f_Supply_weightOf l4_5 b_4 σ_4) (fun (r_6 : Int32) (b_6 : Bool) (σ_6 : Sto) => (r_6, b_6, σ_6))) else (if x3 = (1 : Int32) then (bd_ (f_Supply_boxesOf l4_5 b_4 σ_4) (fun (r_7 : Int32) (b_7 : Bool) (σ_7 : Sto) => (r_7, b_7, σ_7))) else (bd_ (f_Supply_townsOf l4_5 b_4 σ_4) (fun (r_8 : Int32) (b_8 : Bool) (σ_8 : Sto) => (r_8, b_8, σ_8)))))))))))))))))))))
set_option maxRecDepth 100000 in
set_option maxHeartbeats 4000000 in
theorem s_Trail_plan : ∀ (h0 : Nat) (x1 : Int32) (x2 : Int32) (x3 : Int32) (b : Bool) (σ : Sto), Snd M_Trail_plan 5 0 0 [vR h0, vI x1, vI x2, vI x3] b σ (tI (f_Trail_plan h0 x1 x2 x3 b σ).1) (f_Trail_plan h0 x1 x2 x3 b σ).2.1 (f_Trail_plan h0 x1 x2 x3 b σ).2.2 := by
  intro h0 x1 x2 x3 b σ
  refine Snd_of (tv := tI) (by decide) (Nat.le_of_ble_eq_true rfl) ?_
  show V M_Trail_plan 5 0 0 0 0 tI (f_Trail_plan h0 x1 x2 x3 b σ) 0 [(0, vR h0), (1, vI x1), (2, vI x2), (3, vI x3)] [] b σ
  unfold f_Trail_plan
  refine V_iload_n 1 rfl (show decode M_Trail_plan.2.1 0 = .ok (.iload_n 1, 1) by decide +kernel) 1 rfl ?_
  refine V_iconst 2 rfl (show decode M_Trail_plan.2.1 1 = .ok (.iconst 1, 1) by decide +kernel) (v := 1) rfl ?_
  refine V_bipush 4 rfl (show decode M_Trail_plan.2.1 2 = .ok (.bipush 40, 2) by decide +kernel) (v := 40) rfl ?_
  refine V_callS (tb := tI) (as := [vI x1, vI (1 : Int32), vI (40 : Int32)]) (rest := []) (na := 3) 7 rfl (s_Trail_within x1 (1 : Int32) (40 : Int32) b σ) rfl rfl (Nat.le_of_ble_eq_true rfl) (cal_Trail_within _ _ _ _ _ (by decide) (by decide) (by decide)) (show decode M_Trail_plan.2.1 4 = .ok (.invokestatic 40, 3) by decide +kernel) wd_628 wd_629 (fun r_1 b_1 σ_1 => ?_)
  show V M_Trail_plan 5 0 0 0 0 tI _ 7 [(0, vR h0), (1, vI x1), (2, vI x2), (3, vI x3)] [vI r_1] b_1 σ_1
  refine V_jn (fun (J29 : Bool → Sto → Rs Int32) => ∀ (b : Bool) (σ : Sto), V M_Trail_plan 5 0 0 0 0 tI (J29 b σ) 29 [] [] b σ) ?_ (fun J29 hJ29 => ?_)
  · intro b σ
    refine V_ldc 31 rfl (show decode M_Trail_plan.2.1 29 = .ok (.ldc 44, 2) by decide +kernel) wd_631 ?_
    exact V_iret rfl (by decide) (by decide) (show decode M_Trail_plan.2.1 31 = .ok (.ireturn, 1) by decide +kernel)
  · skip
    refine V_ifeq 10 29 rfl (show decode M_Trail_plan.2.1 7 = .ok (.ifCond .eq 22, 3) by decide +kernel) rfl ?_ ?_
    · skip
      exact V_sub [] rfl (hJ29 b_1 σ_1)
    · skip
      refine V_iload_n 11 rfl (show decode M_Trail_plan.2.1 10 = .ok (.iload_n 2, 1) by decide +kernel) 2 rfl ?_
      refine V_iconst 12 rfl (show decode M_Trail_plan.2.1 11 = .ok (.iconst 1, 1) by decide +kernel) (v := 1) rfl ?_
      refine V_bipush 14 rfl (show decode M_Trail_plan.2.1 12 = .ok (.bipush 20, 2) by decide +kernel) (v := 20) rfl ?_
      refine V_callS (tb := tI) (as := [vI x2, vI (1 : Int32), vI (20 : Int32)]) (rest := []) (na := 3) 17 rfl (s_Trail_within x2 (1 : Int32) (20 : Int32) b_1 σ_1) rfl rfl (Nat.le_of_ble_eq_true rfl) (cal_Trail_within _ _ _ _ _ (by decide) (by decide) (by decide)) (show decode M_Trail_plan.2.1 14 = .ok (.invokestatic 40, 3) by decide +kernel) wd_628 wd_629 (fun r_2 b_2 σ_2 => ?_)
      show V M_Trail_plan 5 0 0 0 0 tI _ 17 [(0, vR h0), (1, vI x1), (2, vI x2), (3, vI x3)] [vI r_2] b_2 σ_2
      refine V_ifeq 20 29 rfl (show decode M_Trail_plan.2.1 17 = .ok (.ifCond .eq 12, 3) by decide +kernel) rfl ?_ ?_
      · skip
        exact V_sub [] rfl (hJ29 b_2 σ_2)
      · skip
        refine V_iload_n 21 rfl (show decode M_Trail_plan.2.1 20 = .ok (.iload_n 3, 1) by decide +kernel) 3 rfl ?_
        refine V_iconst 22 rfl (show decode M_Trail_plan.2.1 21 = .ok (.iconst 0, 1) by decide +kernel) (v := 0) rfl ?_
        refine V_iconst 23 rfl (show decode M_Trail_plan.2.1 22 = .ok (.iconst 2, 1) by decide +kernel) (v := 2) rfl ?_
        refine V_callS (tb := tI) (as := [vI x3, vI (0 : Int32), vI (2 : Int32)]) (rest := []) (na := 3) 26 rfl (s_Trail_within x3 (0 : Int32) (2 : Int32) b_2 σ_2) rfl rfl (Nat.le_of_ble_eq_true rfl) (cal_Trail_within _ _ _ _ _ (by decide) (by decide) (by decide)) (show decode M_Trail_plan.2.1 23 = .ok (.invokestatic 40, 3) by decide +kernel) wd_628 wd_629 (fun r_3 b_3 σ_3 => ?_)
        show V M_Trail_plan 5 0 0 0 0 tI _ 26 [(0, vR h0), (1, vI x1), (2, vI x2), (3, vI x3)] [vI r_3] b_3 σ_3
        refine V_ifne 29 32 rfl (show decode M_Trail_plan.2.1 26 = .ok (.ifCond .ne 6, 3) by decide +kernel) rfl ?_ ?_
        · skip
          exact V_sub [] rfl (hJ29 b_3 σ_3)
        · skip
          refine V_aload_n 33 rfl (show decode M_Trail_plan.2.1 32 = .ok (.aload_n 0, 1) by decide +kernel) 0 rfl ?_
          refine V_get (j := 0) (v := vR (SR σ_3 h0 0)) 36 rfl ck_Trail (by decide) (by decide) (show decode M_Trail_plan.2.1 33 = .ok (.getfield 10, 3) by decide +kernel) wd_599 rfl ?_
          refine V_getN (j := 4) (v := vR (SR σ_3 (SR σ_3 h0 0) 4)) 39 rfl ck_World (by decide) (by decide) (show decode M_Trail_plan.2.1 36 = .ok (.getfield 297, 3) by decide +kernel) wd_506 rfl ?_
          refine V_aload_n 40 rfl (show decode M_Trail_plan.2.1 39 = .ok (.aload_n 0, 1) by decide +kernel) 0 rfl ?_
          refine V_get (j := 0) (v := vR (SR σ_3 h0 0)) 43 rfl ck_Trail (by decide) (by decide) (show decode M_Trail_plan.2.1 40 = .ok (.getfield 10, 3) by decide +kernel) wd_599 rfl ?_
          refine V_getN (j := 0) (v := vR (SR σ_3 (SR σ_3 h0 0) 0)) 46 rfl ck_World (by decide) (by decide) (show decode M_Trail_plan.2.1 43 = .ok (.getfield 49, 3) by decide +kernel) wd_498 rfl ?_
          refine V_iload_n 47 rfl (show decode M_Trail_plan.2.1 46 = .ok (.iload_n 1, 1) by decide +kernel) 1 rfl ?_
          refine V_iload_n 48 rfl (show decode M_Trail_plan.2.1 47 = .ok (.iload_n 2, 1) by decide +kernel) 2 rfl ?_
          refine V_callVN (tb := tL) (as := [vR (SR σ_3 (SR σ_3 h0 0) 0), vI x1, vI x2]) (rest := []) (na := 3) 51 rfl ck_Supply (by decide) (s_Supply_leastPlan (SR σ_3 (SR σ_3 h0 0) 4) (SR σ_3 (SR σ_3 h0 0) 0) x1 x2 (((((b_3 && cK σ_3 h0 12) && cK σ_3 (SR σ_3 h0 0) 11) && cK σ_3 h0 12) && cK σ_3 (SR σ_3 h0 0) 11) && cK σ_3 (SR σ_3 (SR σ_3 h0 0) 4) 7) σ_3) rfl rfl (Nat.le_of_ble_eq_true rfl) (cal_Supply_leastPlan _ _ _ _ _ (by decide) (by decide) (by decide)) (show decode M_Trail_plan.2.1 48 = .ok (.invokevirtual 306, 3) by decide +kernel) wd_1314 wd_1316 wd_87 (fun r_4 b_4 σ_4 => ?_)
          show V M_Trail_plan 5 0 0 0 0 tI _ 51 [(0, vR h0), (1, vI x1), (2, vI x2), (3, vI x3)] [vL r_4] b_4 σ_4
          refine V_lstore (fun l4_5 => [(4, vL l4_5), (0, vR h0), (1, vI x1), (2, vI x2), (3, vI x3)]) 53 rfl (show decode M_Trail_plan.2.1 51 = .ok (.lstore 4, 2) by decide +kernel) (by decide) (fun _ => rfl) (fun l4_5 => ?_)
          refine V_lload 55 rfl (show decode M_Trail_plan.2.1 53 = .ok (.lload 4, 2) by decide +kernel) 0 rfl ?_
          refine V_lconst 56 rfl (show decode M_Trail_plan.2.1 55 = .ok (.lconst 0, 1) by decide +kernel) (v := 0) rfl ?_
          refine V_lcmp 57 rfl (show decode M_Trail_plan.2.1 56 = .ok (.lcmp, 1) by decide +kernel) ?_
          refine V_ifge 60 63 rfl (show decode M_Trail_plan.2.1 57 = .ok (.ifCond .ge 6, 3) by decide +kernel) rfl ?_ ?_
          · skip
            refine V_ldc 62 rfl (show decode M_Trail_plan.2.1 60 = .ok (.ldc 123, 2) by decide +kernel) wd_706 ?_
            exact V_iret rfl (by decide) (by decide) (show decode M_Trail_plan.2.1 62 = .ok (.ireturn, 1) by decide +kernel)
          · skip
            refine V_iload_n 64 rfl (show decode M_Trail_plan.2.1 63 = .ok (.iload_n 3, 1) by decide +kernel) 4 rfl ?_
            refine V_ite (fun hs64_0 => ?_) (fun hs64_0 => ?_)
            · refine V_lsw (off := 28) 92 (show decode M_Trail_plan.2.1 64 = .ok (.lookupswitch 40 #[(0, 28), (1, 34)], 28) by decide +kernel) (by decide) (by rw [hs64_0]; decide) rfl ?_
              refine V_lload 94 rfl (show decode M_Trail_plan.2.1 92 = .ok (.lload 4, 2) by decide +kernel) 0 rfl ?_
              refine V_callSN (tb := tI) (as := [vL l4_5]) (rest := []) (na := 1) 97 rfl (s_Supply_weightOf l4_5 b_4 σ_4) rfl rfl (Nat.le_of_ble_eq_true rfl) (cal_Supply_weightOf _ _ _ _ _ (by decide) (by decide) (by decide)) (show decode M_Trail_plan.2.1 94 = .ok (.invokestatic 310, 3) by decide +kernel) wd_1329 wd_1330 (fun r_6 b_6 σ_6 => ?_)
              show V M_Trail_plan 5 0 0 0 0 tI _ 97 [(4, vL l4_5), (0, vR h0), (1, vI x1), (2, vI x2), (3, vI x3)] [vI r_6] b_6 σ_6
              exact V_iret rfl (by decide) (by decide) (show decode M_Trail_plan.2.1 97 = .ok (.ireturn, 1) by decide +kernel)
            refine V_ite (fun hs64_1 => ?_) (fun hs64_1 => ?_)
            · refine V_lsw (off := 34) 98 (show decode M_Trail_plan.2.1 64 = .ok (.lookupswitch 40 #[(0, 28), (1, 34)], 28) by decide +kernel) (by decide) (by rw [hs64_1]; decide) rfl ?_
              refine V_lload 100 rfl (show decode M_Trail_plan.2.1 98 = .ok (.lload 4, 2) by decide +kernel) 0 rfl ?_
              refine V_callSN (tb := tI) (as := [vL l4_5]) (rest := []) (na := 1) 103 rfl (s_Supply_boxesOf l4_5 b_4 σ_4) rfl rfl (Nat.le_of_ble_eq_true rfl) (cal_Supply_boxesOf _ _ _ _ _ (by decide) (by decide) (by decide)) (show decode M_Trail_plan.2.1 100 = .ok (.invokestatic 314, 3) by decide +kernel) wd_1332 wd_1333 (fun r_7 b_7 σ_7 => ?_)
              show V M_Trail_plan 5 0 0 0 0 tI _ 103 [(4, vL l4_5), (0, vR h0), (1, vI x1), (2, vI x2), (3, vI x3)] [vI r_7] b_7 σ_7
              exact V_iret rfl (by decide) (by decide) (show decode M_Trail_plan.2.1 103 = .ok (.ireturn, 1) by decide +kernel)
            · refine V_lsw (off := 40) 104 (show decode M_Trail_plan.2.1 64 = .ok (.lookupswitch 40 #[(0, 28), (1, 34)], 28) by decide +kernel) (by decide) ((lv_osw hs64_0 rfl).trans ((lv_osw hs64_1 rfl).trans (rfl))) rfl ?_
              refine V_lload 106 rfl (show decode M_Trail_plan.2.1 104 = .ok (.lload 4, 2) by decide +kernel) 0 rfl ?_
              refine V_callSN (tb := tI) (as := [vL l4_5]) (rest := []) (na := 1) 109 rfl (s_Supply_townsOf l4_5 b_4 σ_4) rfl rfl (Nat.le_of_ble_eq_true rfl) (cal_Supply_townsOf _ _ _ _ _ (by decide) (by decide) (by decide)) (show decode M_Trail_plan.2.1 106 = .ok (.invokestatic 317, 3) by decide +kernel) wd_1335 wd_1336 (fun r_8 b_8 σ_8 => ?_)
              show V M_Trail_plan 5 0 0 0 0 tI _ 109 [(4, vL l4_5), (0, vR h0), (1, vI x1), (2, vI x2), (3, vI x3)] [vI r_8] b_8 σ_8
              exact V_iret rfl (by decide) (by decide) (show decode M_Trail_plan.2.1 109 = .ok (.ireturn, 1) by decide +kernel)
theorem cal_Trail_plan (d mc ms k n : Nat) (h1 : 5 + 1 ≤ d) (h2 : k + 0 ≤ mc) (h3 : n + 0 ≤ ms) : Cal M_Trail_plan 5 0 0 3 d mc ms k n := ⟨wd_1313, wd_170, by decide, h1, by decide, h2, h3⟩
abbrev M_Album_mayFollow : MD := (⟨"LongTrail$Album", "mayFollow", "(III)Z"⟩, prog_2_method_8_code, 5, (some FieldType.boolean))
def f_Album_mayFollow (h0 : Nat) (x1 : Int32) (x2 : Int32) (x3 : Int32) (b : Bool) (σ : Sto) : Rs Int32 := (lt_ ((SI σ (SR σ h0 0) (ix x2)) - (SI σ (SR σ h0 0) (ix x1))) (fun (x4_1 : Int32) => (lt_ (fun (b : Bool) (σ : Sto) => ((0 : Int32), b, σ)) (fun J48 => (if 0 < x4_1 then (bd_ (f_Trail_within ((SI σ (SR σ h0 1) (ix x2)) - (SI σ (SR σ h0 1) (ix x1))) (0 : Int32) (x3 * x4_1) ((((((((b && cK σ h0 1) && cA σ (SR σ h0 0) 21 x2) && cK σ h0 1) && cA σ (SR σ h0 0) 21 x1) && cK σ h0 1) && cA σ (SR σ h0 1) 21 x2) && cK σ h0 1) && cA σ (SR σ h0 1) 21 x1) σ) (fun (r_2 : Int32) (b_2 : Bool) (σ_2 : Sto) => (if r_2 = 0 then (J48 b_2 σ_2) else ((1 : Int32), b_2, σ_2)))) else (J48 ((((b && cK σ h0 1) && cA σ (SR σ h0 0) 21 x2) && cK σ h0 1) && cA σ (SR σ h0 0) 21 x1) σ))))))
set_option maxRecDepth 100000 in
set_option maxHeartbeats 4000000 in
theorem s_Album_mayFollow : ∀ (h0 : Nat) (x1 : Int32) (x2 : Int32) (x3 : Int32) (b : Bool) (σ : Sto), Snd M_Album_mayFollow 2 0 0 [vR h0, vI x1, vI x2, vI x3] b σ (tI (f_Album_mayFollow h0 x1 x2 x3 b σ).1) (f_Album_mayFollow h0 x1 x2 x3 b σ).2.1 (f_Album_mayFollow h0 x1 x2 x3 b σ).2.2 := by
  intro h0 x1 x2 x3 b σ
  refine Snd_of (tv := tI) (by decide) (Nat.le_of_ble_eq_true rfl) ?_
  show V M_Album_mayFollow 2 0 0 0 0 tI (f_Album_mayFollow h0 x1 x2 x3 b σ) 0 [(0, vR h0), (1, vI x1), (2, vI x2), (3, vI x3)] [] b σ
  unfold f_Album_mayFollow
  refine V_aload_n 1 rfl (show decode M_Album_mayFollow.2.1 0 = .ok (.aload_n 0, 1) by decide +kernel) 0 rfl ?_
  refine V_get (j := 0) (v := vR (SR σ h0 0)) 4 rfl ck_Album (by decide) (by decide) (show decode M_Album_mayFollow.2.1 1 = .ok (.getfield 11, 3) by decide +kernel) wd_393 rfl ?_
  refine V_iload_n 5 rfl (show decode M_Album_mayFollow.2.1 4 = .ok (.iload_n 2, 1) by decide +kernel) 2 rfl ?_
  refine V_ald_int 6 rfl (show decode M_Album_mayFollow.2.1 5 = .ok (.iaload, 1) by decide +kernel) ?_
  refine V_aload_n 7 rfl (show decode M_Album_mayFollow.2.1 6 = .ok (.aload_n 0, 1) by decide +kernel) 0 rfl ?_
  refine V_get (j := 0) (v := vR (SR σ h0 0)) 10 rfl ck_Album (by decide) (by decide) (show decode M_Album_mayFollow.2.1 7 = .ok (.getfield 11, 3) by decide +kernel) wd_393 rfl ?_
  refine V_iload_n 11 rfl (show decode M_Album_mayFollow.2.1 10 = .ok (.iload_n 1, 1) by decide +kernel) 1 rfl ?_
  refine V_ald_int 12 rfl (show decode M_Album_mayFollow.2.1 11 = .ok (.iaload, 1) by decide +kernel) ?_
  refine V_isub 13 rfl (show decode M_Album_mayFollow.2.1 12 = .ok (.isub, 1) by decide +kernel) ?_
  refine V_istore (fun x4_1 => [(4, vI x4_1), (0, vR h0), (1, vI x1), (2, vI x2), (3, vI x3)]) 15 rfl (show decode M_Album_mayFollow.2.1 13 = .ok (.istore 4, 2) by decide +kernel) (by decide) (fun _ => rfl) (fun x4_1 => ?_)
  refine V_iload 17 rfl (show decode M_Album_mayFollow.2.1 15 = .ok (.iload 4, 2) by decide +kernel) 0 rfl ?_
  refine V_jn (fun (J48 : Bool → Sto → Rs Int32) => ∀ (b : Bool) (σ : Sto), V M_Album_mayFollow 2 0 0 0 0 tI (J48 b σ) 48 [] [] b σ) ?_ (fun J48 hJ48 => ?_)
  · intro b σ
    refine V_iconst 49 rfl (show decode M_Album_mayFollow.2.1 48 = .ok (.iconst 0, 1) by decide +kernel) (v := 0) rfl ?_
    exact V_zret rfl (by decide) (by decide) rfl (show decode M_Album_mayFollow.2.1 49 = .ok (.ireturn, 1) by decide +kernel)
  · skip
    refine V_ifle 20 48 rfl (show decode M_Album_mayFollow.2.1 17 = .ok (.ifCond .le 31, 3) by decide +kernel) rfl ?_ ?_
    · skip
      refine V_aload_n 21 rfl (show decode M_Album_mayFollow.2.1 20 = .ok (.aload_n 0, 1) by decide +kernel) 1 rfl ?_
      refine V_get (j := 1) (v := vR (SR σ h0 1)) 24 rfl ck_Album (by decide) (by decide) (show decode M_Album_mayFollow.2.1 21 = .ok (.getfield 15, 3) by decide +kernel) wd_394 rfl ?_
      refine V_iload_n 25 rfl (show decode M_Album_mayFollow.2.1 24 = .ok (.iload_n 2, 1) by decide +kernel) 3 rfl ?_
      refine V_ald_int 26 rfl (show decode M_Album_mayFollow.2.1 25 = .ok (.iaload, 1) by decide +kernel) ?_
      refine V_aload_n 27 rfl (show decode M_Album_mayFollow.2.1 26 = .ok (.aload_n 0, 1) by decide +kernel) 1 rfl ?_
      refine V_get (j := 1) (v := vR (SR σ h0 1)) 30 rfl ck_Album (by decide) (by decide) (show decode M_Album_mayFollow.2.1 27 = .ok (.getfield 15, 3) by decide +kernel) wd_394 rfl ?_
      refine V_iload_n 31 rfl (show decode M_Album_mayFollow.2.1 30 = .ok (.iload_n 1, 1) by decide +kernel) 2 rfl ?_
      refine V_ald_int 32 rfl (show decode M_Album_mayFollow.2.1 31 = .ok (.iaload, 1) by decide +kernel) ?_
      refine V_isub 33 rfl (show decode M_Album_mayFollow.2.1 32 = .ok (.isub, 1) by decide +kernel) ?_
      refine V_iconst 34 rfl (show decode M_Album_mayFollow.2.1 33 = .ok (.iconst 0, 1) by decide +kernel) (v := 0) rfl ?_
      refine V_iload_n 35 rfl (show decode M_Album_mayFollow.2.1 34 = .ok (.iload_n 3, 1) by decide +kernel) 4 rfl ?_
      refine V_iload 37 rfl (show decode M_Album_mayFollow.2.1 35 = .ok (.iload 4, 2) by decide +kernel) 0 rfl ?_
      refine V_imul 38 rfl (show decode M_Album_mayFollow.2.1 37 = .ok (.imul, 1) by decide +kernel) ?_
      refine V_callSN (tb := tI) (as := [vI ((SI σ (SR σ h0 1) (ix x2)) - (SI σ (SR σ h0 1) (ix x1))), vI (0 : Int32), vI (x3 * x4_1)]) (rest := []) (na := 3) 41 rfl (s_Trail_within ((SI σ (SR σ h0 1) (ix x2)) - (SI σ (SR σ h0 1) (ix x1))) (0 : Int32) (x3 * x4_1) ((((((((b && cK σ h0 1) && cA σ (SR σ h0 0) 21 x2) && cK σ h0 1) && cA σ (SR σ h0 0) 21 x1) && cK σ h0 1) && cA σ (SR σ h0 1) 21 x2) && cK σ h0 1) && cA σ (SR σ h0 1) 21 x1) σ) rfl rfl (Nat.le_of_ble_eq_true rfl) (cal_Trail_within _ _ _ _ _ (by decide) (by decide) (by decide)) (show decode M_Album_mayFollow.2.1 38 = .ok (.invokestatic 59, 3) by decide +kernel) wd_1404 wd_629 (fun r_2 b_2 σ_2 => ?_)
      show V M_Album_mayFollow 2 0 0 0 0 tI _ 41 [(4, vI x4_1), (0, vR h0), (1, vI x1), (2, vI x2), (3, vI x3)] [vI r_2] b_2 σ_2
      refine V_ifeq 44 48 rfl (show decode M_Album_mayFollow.2.1 41 = .ok (.ifCond .eq 7, 3) by decide +kernel) rfl ?_ ?_
      · skip
        exact V_sub [] rfl (hJ48 b_2 σ_2)
      · skip
        refine V_iconst 45 rfl (show decode M_Album_mayFollow.2.1 44 = .ok (.iconst 1, 1) by decide +kernel) (v := 1) rfl ?_
        refine V_goto 49 (show decode M_Album_mayFollow.2.1 45 = .ok (.goto 4, 3) by decide +kernel) rfl ?_
        exact V_zret rfl (by decide) (by decide) rfl (show decode M_Album_mayFollow.2.1 49 = .ok (.ireturn, 1) by decide +kernel)
    · skip
      exact V_sub [] rfl (hJ48 ((((b && cK σ h0 1) && cA σ (SR σ h0 0) 21 x2) && cK σ h0 1) && cA σ (SR σ h0 0) 21 x1) σ)
theorem cal_Album_mayFollow (d mc ms k n : Nat) (h1 : 2 + 1 ≤ d) (h2 : k + 0 ≤ mc) (h3 : n + 0 ≤ ms) : Cal M_Album_mayFollow 2 0 0 3 d mc ms k n := ⟨wd_1403, wd_177, by decide, h1, by decide, h2, h3⟩
abbrev M_Album_provesMore : MD := (⟨"LongTrail$Album", "provesMore", "(II)Z"⟩, prog_2_method_9_code, 3, (some FieldType.boolean))
def f_Album_provesMore (h0 : Nat) (x1 : Int32) (x2 : Int32) (b : Bool) (σ : Sto) : Rs Int32 := (lt_ (fun (b : Bool) (σ : Sto) => ((1 : Int32), b, σ)) (fun J45 => (if (SI σ (SR σ h0 4) (ix x2)) < (SI σ (SR σ h0 4) (ix x1)) then (J45 ((((b && cK σ h0 1) && cA σ (SR σ h0 4) 21 x1) && cK σ h0 1) && cA σ (SR σ h0 4) 21 x2) σ) else (lt_ (fun (b : Bool) (σ : Sto) => ((0 : Int32), b, σ)) (fun J49 => (if (SI σ (SR σ h0 4) (ix x1)) = (SI σ (SR σ h0 4) (ix x2)) then (if (SI σ (SR σ h0 5) (ix x2)) < (SI σ (SR σ h0 5) (ix x1)) then (J45 ((((((((((((b && cK σ h0 1) && cA σ (SR σ h0 4) 21 x1) && cK σ h0 1) && cA σ (SR σ h0 4) 21 x2) && cK σ h0 1) && cA σ (SR σ h0 4) 21 x1) && cK σ h0 1) && cA σ (SR σ h0 4) 21 x2) && cK σ h0 1) && cA σ (SR σ h0 5) 21 x1) && cK σ h0 1) && cA σ (SR σ h0 5) 21 x2) σ) else (J49 ((((((((((((b && cK σ h0 1) && cA σ (SR σ h0 4) 21 x1) && cK σ h0 1) && cA σ (SR σ h0 4) 21 x2) && cK σ h0 1) && cA σ (SR σ h0 4) 21 x1) && cK σ h0 1) && cA σ (SR σ h0 4) 21 x2) && cK σ h0 1) && cA σ (SR σ h0 5) 21 x1) && cK σ h0 1) && cA σ (SR σ h0 5) 21 x2) σ)) else (J49 ((((((((b && cK σ h0 1) && cA σ (SR σ h0 4) 21 x1) && cK σ h0 1) && cA σ (SR σ h0 4) 21 x2) && cK σ h0 1) && cA σ (SR σ h0 4) 21 x1) && cK σ h0 1) && cA σ (SR σ h0 4) 21 x2) σ)))))))
set_option maxRecDepth 100000 in
set_option maxHeartbeats 4000000 in
theorem s_Album_provesMore : ∀ (h0 : Nat) (x1 : Int32) (x2 : Int32) (b : Bool) (σ : Sto), Snd M_Album_provesMore 1 0 0 [vR h0, vI x1, vI x2] b σ (tI (f_Album_provesMore h0 x1 x2 b σ).1) (f_Album_provesMore h0 x1 x2 b σ).2.1 (f_Album_provesMore h0 x1 x2 b σ).2.2 := by
  intro h0 x1 x2 b σ
  refine Snd_of (tv := tI) (by decide) (Nat.le_of_ble_eq_true rfl) ?_
  show V M_Album_provesMore 1 0 0 0 0 tI (f_Album_provesMore h0 x1 x2 b σ) 0 [(0, vR h0), (1, vI x1), (2, vI x2)] [] b σ
  unfold f_Album_provesMore
  refine V_aload_n 1 rfl (show decode M_Album_provesMore.2.1 0 = .ok (.aload_n 0, 1) by decide +kernel) 0 rfl ?_
  refine V_get (j := 4) (v := vR (SR σ h0 4)) 4 rfl ck_Album (by decide) (by decide) (show decode M_Album_provesMore.2.1 1 = .ok (.getfield 21, 3) by decide +kernel) wd_398 rfl ?_
  refine V_iload_n 5 rfl (show decode M_Album_provesMore.2.1 4 = .ok (.iload_n 1, 1) by decide +kernel) 1 rfl ?_
  refine V_ald_int 6 rfl (show decode M_Album_provesMore.2.1 5 = .ok (.iaload, 1) by decide +kernel) ?_
  refine V_aload_n 7 rfl (show decode M_Album_provesMore.2.1 6 = .ok (.aload_n 0, 1) by decide +kernel) 0 rfl ?_
  refine V_get (j := 4) (v := vR (SR σ h0 4)) 10 rfl ck_Album (by decide) (by decide) (show decode M_Album_provesMore.2.1 7 = .ok (.getfield 21, 3) by decide +kernel) wd_398 rfl ?_
  refine V_iload_n 11 rfl (show decode M_Album_provesMore.2.1 10 = .ok (.iload_n 2, 1) by decide +kernel) 2 rfl ?_
  refine V_ald_int 12 rfl (show decode M_Album_provesMore.2.1 11 = .ok (.iaload, 1) by decide +kernel) ?_
  refine V_jn (fun (J45 : Bool → Sto → Rs Int32) => ∀ (b : Bool) (σ : Sto), V M_Album_provesMore 1 0 0 0 0 tI (J45 b σ) 45 [] [] b σ) ?_ (fun J45 hJ45 => ?_)
  · intro b σ
    refine V_iconst 46 rfl (show decode M_Album_provesMore.2.1 45 = .ok (.iconst 1, 1) by decide +kernel) (v := 1) rfl ?_
    refine V_goto 50 (show decode M_Album_provesMore.2.1 46 = .ok (.goto 4, 3) by decide +kernel) rfl ?_
    exact V_zret rfl (by decide) (by decide) rfl (show decode M_Album_provesMore.2.1 50 = .ok (.ireturn, 1) by decide +kernel)
  · skip
    refine V_icmpgt 15 45 rfl (show decode M_Album_provesMore.2.1 12 = .ok (.if_icmp .gt 33, 3) by decide +kernel) rfl ?_ ?_
    · skip
      exact V_sub [] rfl (hJ45 ((((b && cK σ h0 1) && cA σ (SR σ h0 4) 21 x1) && cK σ h0 1) && cA σ (SR σ h0 4) 21 x2) σ)
    · skip
      refine V_aload_n 16 rfl (show decode M_Album_provesMore.2.1 15 = .ok (.aload_n 0, 1) by decide +kernel) 0 rfl ?_
      refine V_get (j := 4) (v := vR (SR σ h0 4)) 19 rfl ck_Album (by decide) (by decide) (show decode M_Album_provesMore.2.1 16 = .ok (.getfield 21, 3) by decide +kernel) wd_398 rfl ?_
      refine V_iload_n 20 rfl (show decode M_Album_provesMore.2.1 19 = .ok (.iload_n 1, 1) by decide +kernel) 1 rfl ?_
      refine V_ald_int 21 rfl (show decode M_Album_provesMore.2.1 20 = .ok (.iaload, 1) by decide +kernel) ?_
      refine V_aload_n 22 rfl (show decode M_Album_provesMore.2.1 21 = .ok (.aload_n 0, 1) by decide +kernel) 0 rfl ?_
      refine V_get (j := 4) (v := vR (SR σ h0 4)) 25 rfl ck_Album (by decide) (by decide) (show decode M_Album_provesMore.2.1 22 = .ok (.getfield 21, 3) by decide +kernel) wd_398 rfl ?_
      refine V_iload_n 26 rfl (show decode M_Album_provesMore.2.1 25 = .ok (.iload_n 2, 1) by decide +kernel) 2 rfl ?_
      refine V_ald_int 27 rfl (show decode M_Album_provesMore.2.1 26 = .ok (.iaload, 1) by decide +kernel) ?_
      refine V_jn (fun (J49 : Bool → Sto → Rs Int32) => ∀ (b : Bool) (σ : Sto), V M_Album_provesMore 1 0 0 0 0 tI (J49 b σ) 49 [] [] b σ) ?_ (fun J49 hJ49 => ?_)
      · intro b σ
        refine V_iconst 50 rfl (show decode M_Album_provesMore.2.1 49 = .ok (.iconst 0, 1) by decide +kernel) (v := 0) rfl ?_
        exact V_zret rfl (by decide) (by decide) rfl (show decode M_Album_provesMore.2.1 50 = .ok (.ireturn, 1) by decide +kernel)
      · skip
        refine V_icmpne 30 49 rfl (show decode M_Album_provesMore.2.1 27 = .ok (.if_icmp .ne 22, 3) by decide +kernel) rfl ?_ ?_
        · skip
          refine V_aload_n 31 rfl (show decode M_Album_provesMore.2.1 30 = .ok (.aload_n 0, 1) by decide +kernel) 0 rfl ?_
          refine V_get (j := 5) (v := vR (SR σ h0 5)) 34 rfl ck_Album (by decide) (by decide) (show decode M_Album_provesMore.2.1 31 = .ok (.getfield 24, 3) by decide +kernel) wd_400 rfl ?_
          refine V_iload_n 35 rfl (show decode M_Album_provesMore.2.1 34 = .ok (.iload_n 1, 1) by decide +kernel) 1 rfl ?_
          refine V_ald_int 36 rfl (show decode M_Album_provesMore.2.1 35 = .ok (.iaload, 1) by decide +kernel) ?_
          refine V_aload_n 37 rfl (show decode M_Album_provesMore.2.1 36 = .ok (.aload_n 0, 1) by decide +kernel) 0 rfl ?_
          refine V_get (j := 5) (v := vR (SR σ h0 5)) 40 rfl ck_Album (by decide) (by decide) (show decode M_Album_provesMore.2.1 37 = .ok (.getfield 24, 3) by decide +kernel) wd_400 rfl ?_
          refine V_iload_n 41 rfl (show decode M_Album_provesMore.2.1 40 = .ok (.iload_n 2, 1) by decide +kernel) 2 rfl ?_
          refine V_ald_int 42 rfl (show decode M_Album_provesMore.2.1 41 = .ok (.iaload, 1) by decide +kernel) ?_
          refine V_icmple 45 49 rfl (show decode M_Album_provesMore.2.1 42 = .ok (.if_icmp .le 7, 3) by decide +kernel) rfl ?_ ?_
          · skip
            exact V_sub [] rfl (hJ45 ((((((((((((b && cK σ h0 1) && cA σ (SR σ h0 4) 21 x1) && cK σ h0 1) && cA σ (SR σ h0 4) 21 x2) && cK σ h0 1) && cA σ (SR σ h0 4) 21 x1) && cK σ h0 1) && cA σ (SR σ h0 4) 21 x2) && cK σ h0 1) && cA σ (SR σ h0 5) 21 x1) && cK σ h0 1) && cA σ (SR σ h0 5) 21 x2) σ)
          · skip
            exact V_sub [] rfl (hJ49 ((((((((((((b && cK σ h0 1) && cA σ (SR σ h0 4) 21 x1) && cK σ h0 1) && cA σ (SR σ h0 4) 21 x2) && cK σ h0 1) && cA σ (SR σ h0 4) 21 x1) && cK σ h0 1) && cA σ (SR σ h0 4) 21 x2) && cK σ h0 1) && cA σ (SR σ h0 5) 21 x1) && cK σ h0 1) && cA σ (SR σ h0 5) 21 x2) σ)
        · skip
          exact V_sub [] rfl (hJ49 ((((((((b && cK σ h0 1) && cA σ (SR σ h0 4) 21 x1) && cK σ h0 1) && cA σ (SR σ h0 4) 21 x2) && cK σ h0 1) && cA σ (SR σ h0 4) 21 x1) && cK σ h0 1) && cA σ (SR σ h0 4) 21 x2) σ)
theorem cal_Album_provesMore (d mc ms k n : Nat) (h1 : 1 + 1 ≤ d) (h2 : k + 0 ≤ mc) (h3 : n + 0 ≤ ms) : Cal M_Album_provesMore 1 0 0 2 d mc ms k n := ⟨wd_1408, wd_177, by decide, h1, by decide, h2, h3⟩
abbrev M_Album_fillRowOf : MD := (⟨"LongTrail$Album", "fillRowOf", "(II)V"⟩, prog_2_method_7_code, 5, (none : Option FieldType))
def b_Album_fillRowOf_5 (h0 : Nat) (x1 : Int32) (x2 : Int32) (L5 : Int32 → Int32 → Bool → Sto → Rs Unit) (x3 : Int32) (x4 : Int32) (b : Bool) (σ : Sto) : Rs Unit := (if x4 < (SI σ h0 2) then (bd_ (f_Album_mayFollow h0 x1 x4 x2 ((b && cK σ h0 1) && cK σ h0 1) σ) (fun (r_3 : Int32) (b_3 : Bool) (σ_3 : Sto) => (lt_ (fun (x3_42 : Int32) (b : Bool) (σ : Sto) => (lt_ (x4 + (1 : Int32)) (fun (x4_4 : Int32) => (L5 x3_42 x4_4 b σ)))) (fun J42 => (if r_3 = 0 then (J42 x3 b_3 σ_3) else (lt_ (fun (b : Bool) (σ : Sto) => (lt_ x4 (fun (x3_5 : Int32) => (J42 x3_5 b σ)))) (fun J39 => (if x3 < 0 then (J39 b_3 σ_3) else (bd_ (f_Album_provesMore h0 x4 x3 (b_3 && cK σ_3 h0 1) σ_3) (fun (r_6 : Int32) (b_6 : Bool) (σ_6 : Sto) => (if r_6 = 0 then (J42 x3 b_6 σ_6) else (J39 b_6 σ_6)))))))))))) else (lt_ (pI σ (SR σ h0 6) (ix x1) x3) (fun (σ_7 : Sto) => (lt_ (fun (s0_76 : Int32) (s1_76 : Int32) (s2_76 : Nat) (b : Bool) (σ : Sto) => (lt_ (pI σ s2_76 (ix s1_76) s0_76) (fun (σ_8 : Sto) => (lt_ (fun (s0_101 : Int32) (s1_101 : Int32) (s2_101 : Nat) (b : Bool) (σ : Sto) => (lt_ (pI σ s2_101 (ix s1_101) s0_101) (fun (σ_9 : Sto) => ((), (b && cA σ s2_101 21 s1_101), σ_9)))) (fun J101 => (if x3 < 0 then (J101 (SI σ_8 (SR σ_8 h0 1) (ix x1)) x1 (SR σ_8 h0 5) ((((b && cA σ s2_76 21 s1_76) && cK σ_8 h0 1) && cK σ_8 h0 1) && cA σ_8 (SR σ_8 h0 1) 21 x1) σ_8) else (J101 (SI σ_8 (SR σ_8 h0 5) (ix x3)) x1 (SR σ_8 h0 5) ((((b && cA σ s2_76 21 s1_76) && cK σ_8 h0 1) && cK σ_8 h0 1) && cA σ_8 (SR σ_8 h0 5) 21 x3) σ_8))))))) (fun J76 => (if x3 < 0 then (J76 (1 : Int32) x1 (SR σ_7 h0 4) ((((b && cK σ h0 1) && cK σ h0 1) && cA σ (SR σ h0 6) 21 x1) && cK σ_7 h0 1) σ_7) else (J76 ((1 : Int32) + (SI σ_7 (SR σ_7 h0 4) (ix x3))) x1 (SR σ_7 h0 4) ((((((b && cK σ h0 1) && cK σ h0 1) && cA σ (SR σ h0 6) 21 x1) && cK σ_7 h0 1) && cK σ_7 h0 1) && cA σ_7 (SR σ_7 h0 4) 21 x3) σ_7)))))))
def f_Album_fillRowOf (h0 : Nat) (x1 : Int32) (x2 : Int32) (b : Bool) (σ : Sto) : Rs Unit := (lt_ (-1 : Int32) (fun (x3_1 : Int32) => (lt_ (0 : Int32) (fun (x4_2 : Int32) => (lp_ (b_Album_fillRowOf_5 h0 x1 x2) (fun (x3 : Int32) (x4 : Int32) (b : Bool) (σ : Sto) => ((), false, σ)) fuel_ x3_1 x4_2 b σ)))))
set_option maxRecDepth 100000 in
set_option maxHeartbeats 4000000 in
theorem s_Album_fillRowOf : ∀ (h0 : Nat) (x1 : Int32) (x2 : Int32) (b : Bool) (σ : Sto), Snd M_Album_fillRowOf 3 0 0 [vR h0, vI x1, vI x2] b σ (tU (f_Album_fillRowOf h0 x1 x2 b σ).1) (f_Album_fillRowOf h0 x1 x2 b σ).2.1 (f_Album_fillRowOf h0 x1 x2 b σ).2.2 := by
  intro h0 x1 x2 b σ
  refine Snd_of (tv := tU) (by decide) (Nat.le_of_ble_eq_true rfl) ?_
  show V M_Album_fillRowOf 3 0 0 0 0 tU (f_Album_fillRowOf h0 x1 x2 b σ) 0 [(0, vR h0), (1, vI x1), (2, vI x2)] [] b σ
  unfold f_Album_fillRowOf
  refine V_iconst 1 rfl (show decode M_Album_fillRowOf.2.1 0 = .ok (.iconst (-1), 1) by decide +kernel) (v := -1) rfl ?_
  refine V_istore_n (fun x3_1 => [(3, vI x3_1), (0, vR h0), (1, vI x1), (2, vI x2)]) 2 rfl (show decode M_Album_fillRowOf.2.1 1 = .ok (.istore_n 3, 1) by decide +kernel) (by decide) (fun _ => rfl) (fun x3_1 => ?_)
  refine V_iconst 3 rfl (show decode M_Album_fillRowOf.2.1 2 = .ok (.iconst 0, 1) by decide +kernel) (v := 0) rfl ?_
  refine V_istore (fun x4_2 => [(4, vI x4_2), (3, vI x3_1), (0, vR h0), (1, vI x1), (2, vI x2)]) 5 rfl (show decode M_Album_fillRowOf.2.1 3 = .ok (.istore 4, 2) by decide +kernel) (by decide) (fun _ => rfl) (fun x4_2 => ?_)
  refine V_sub [2, 3, 4, 1, 0] rfl ?_
  refine lp_P (fun (L5 : Int32 → Int32 → Bool → Sto → Rs Unit) => ∀ (x3 : Int32) (x4 : Int32) (b : Bool) (σ : Sto), V M_Album_fillRowOf 3 0 0 0 0 tU (L5 x3 x4 b σ) 5 [(0, vR h0), (1, vI x1), (2, vI x2), (3, vI x3), (4, vI x4)] [] b σ) ?_ ?_ fuel_ x3_1 x4_2 b σ
  · intro x3 x4 b σ; exact V_bad
  · intro L5 hL5 x3 x4 b σ
    unfold b_Album_fillRowOf_5
    refine V_iload 7 rfl (show decode M_Album_fillRowOf.2.1 5 = .ok (.iload 4, 2) by decide +kernel) 4 rfl ?_
    refine V_aload_n 8 rfl (show decode M_Album_fillRowOf.2.1 7 = .ok (.aload_n 0, 1) by decide +kernel) 0 rfl ?_
    refine V_get (j := 2) (v := vI (SI σ h0 2)) 11 rfl ck_Album (by decide) (by decide) (show decode M_Album_fillRowOf.2.1 8 = .ok (.getfield 36, 3) by decide +kernel) wd_395 rfl ?_
    refine V_icmpge 14 48 rfl (show decode M_Album_fillRowOf.2.1 11 = .ok (.if_icmp .ge 37, 3) by decide +kernel) rfl ?_ ?_
    · skip
      refine V_aload_n 15 rfl (show decode M_Album_fillRowOf.2.1 14 = .ok (.aload_n 0, 1) by decide +kernel) 0 rfl ?_
      refine V_iload_n 16 rfl (show decode M_Album_fillRowOf.2.1 15 = .ok (.iload_n 1, 1) by decide +kernel) 1 rfl ?_
      refine V_iload 18 rfl (show decode M_Album_fillRowOf.2.1 16 = .ok (.iload 4, 2) by decide +kernel) 4 rfl ?_
      refine V_iload_n 19 rfl (show decode M_Album_fillRowOf.2.1 18 = .ok (.iload_n 2, 1) by decide +kernel) 2 rfl ?_
      refine V_callV (tb := tI) (as := [vI x1, vI x4, vI x2]) (rest := []) (na := 3) 22 rfl ck_Album (by decide) (s_Album_mayFollow h0 x1 x4 x2 ((b && cK σ h0 1) && cK σ h0 1) σ) rfl rfl (Nat.le_of_ble_eq_true rfl) (cal_Album_mayFollow _ _ _ _ _ (by decide) (by decide) (by decide)) (show decode M_Album_fillRowOf.2.1 19 = .ok (.invokevirtual 51, 3) by decide +kernel) wd_1400 wd_1402 wd_99 (fun r_3 b_3 σ_3 => ?_)
      show V M_Album_fillRowOf 3 0 0 0 0 tU _ 22 [(0, vR h0), (1, vI x1), (2, vI x2), (3, vI x3), (4, vI x4)] [vI r_3] b_3 σ_3
      refine V_jn (fun (J42 : Int32 → Bool → Sto → Rs Unit) => ∀ (x3_42 : Int32) (b : Bool) (σ : Sto), V M_Album_fillRowOf 3 0 0 0 0 tU (J42 x3_42 b σ) 42 [(0, vR h0), (1, vI x1), (2, vI x2), (3, vI x3_42), (4, vI x4)] [] b σ) ?_ (fun J42 hJ42 => ?_)
      · intro x3_42 b σ
        refine V_iinc (fun x4_4 => [(4, vI x4_4), (0, vR h0), (1, vI x1), (2, vI x2), (3, vI x3_42)]) 45 rfl (show decode M_Album_fillRowOf.2.1 42 = .ok (.iinc 4 1, 3) by decide +kernel) 4 rfl (w := 1) rfl (by decide) (fun _ => rfl) (fun x4_4 => ?_)
        refine V_goto 5 (show decode M_Album_fillRowOf.2.1 45 = .ok (.goto (-40), 3) by decide +kernel) rfl ?_
        exact V_sub [1, 2, 3, 4, 0] rfl (hL5 x3_42 x4_4 b σ)
      · skip
        refine V_ifeq 25 42 rfl (show decode M_Album_fillRowOf.2.1 22 = .ok (.ifCond .eq 20, 3) by decide +kernel) rfl ?_ ?_
        · skip
          exact V_sub [0, 1, 2, 3, 4] rfl (hJ42 x3 b_3 σ_3)
        · skip
          refine V_iload_n 26 rfl (show decode M_Album_fillRowOf.2.1 25 = .ok (.iload_n 3, 1) by decide +kernel) 3 rfl ?_
          refine V_jn (fun (J39 : Bool → Sto → Rs Unit) => ∀ (b : Bool) (σ : Sto), V M_Album_fillRowOf 3 0 0 0 0 tU (J39 b σ) 39 [(0, vR h0), (1, vI x1), (2, vI x2), (4, vI x4)] [] b σ) ?_ (fun J39 hJ39 => ?_)
          · intro b σ
            refine V_iload 41 rfl (show decode M_Album_fillRowOf.2.1 39 = .ok (.iload 4, 2) by decide +kernel) 3 rfl ?_
            refine V_istore_n (fun x3_5 => [(3, vI x3_5), (0, vR h0), (1, vI x1), (2, vI x2), (4, vI x4)]) 42 rfl (show decode M_Album_fillRowOf.2.1 41 = .ok (.istore_n 3, 1) by decide +kernel) (by decide) (fun _ => rfl) (fun x3_5 => ?_)
            exact V_sub [1, 2, 3, 0, 4] rfl (hJ42 x3_5 b σ)
          · skip
            refine V_iflt 29 39 rfl (show decode M_Album_fillRowOf.2.1 26 = .ok (.ifCond .lt 13, 3) by decide +kernel) rfl ?_ ?_
            · skip
              exact V_sub [0, 1, 2, 4] rfl (hJ39 b_3 σ_3)
            · skip
              refine V_aload_n 30 rfl (show decode M_Album_fillRowOf.2.1 29 = .ok (.aload_n 0, 1) by decide +kernel) 0 rfl ?_
              refine V_iload 32 rfl (show decode M_Album_fillRowOf.2.1 30 = .ok (.iload 4, 2) by decide +kernel) 4 rfl ?_
              refine V_iload_n 33 rfl (show decode M_Album_fillRowOf.2.1 32 = .ok (.iload_n 3, 1) by decide +kernel) 3 rfl ?_
              refine V_callV (tb := tI) (as := [vI x4, vI x3]) (rest := []) (na := 2) 36 rfl ck_Album (by decide) (s_Album_provesMore h0 x4 x3 (b_3 && cK σ_3 h0 1) σ_3) rfl rfl (Nat.le_of_ble_eq_true rfl) (cal_Album_provesMore _ _ _ _ _ (by decide) (by decide) (by decide)) (show decode M_Album_fillRowOf.2.1 33 = .ok (.invokevirtual 55, 3) by decide +kernel) wd_1405 wd_1407 wd_100 (fun r_6 b_6 σ_6 => ?_)
              show V M_Album_fillRowOf 3 0 0 0 0 tU _ 36 [(0, vR h0), (1, vI x1), (2, vI x2), (3, vI x3), (4, vI x4)] [vI r_6] b_6 σ_6
              refine V_ifeq 39 42 rfl (show decode M_Album_fillRowOf.2.1 36 = .ok (.ifCond .eq 6, 3) by decide +kernel) rfl ?_ ?_
              · skip
                exact V_sub [0, 1, 2, 3, 4] rfl (hJ42 x3 b_6 σ_6)
              · skip
                exact V_sub [0, 1, 2, 4] rfl (hJ39 b_6 σ_6)
    · skip
      refine V_aload_n 49 rfl (show decode M_Album_fillRowOf.2.1 48 = .ok (.aload_n 0, 1) by decide +kernel) 0 rfl ?_
      refine V_get (j := 6) (v := vR (SR σ h0 6)) 52 rfl ck_Album (by decide) (by decide) (show decode M_Album_fillRowOf.2.1 49 = .ok (.getfield 27, 3) by decide +kernel) wd_401 rfl ?_
      refine V_iload_n 53 rfl (show decode M_Album_fillRowOf.2.1 52 = .ok (.iload_n 1, 1) by decide +kernel) 1 rfl ?_
      refine V_iload_n 54 rfl (show decode M_Album_fillRowOf.2.1 53 = .ok (.iload_n 3, 1) by decide +kernel) 3 rfl ?_
      refine V_ast_int 55 rfl (show decode M_Album_fillRowOf.2.1 54 = .ok (.iastore, 1) by decide +kernel) (fun σ_7 => ?_)
      refine V_aload_n 56 rfl (show decode M_Album_fillRowOf.2.1 55 = .ok (.aload_n 0, 1) by decide +kernel) 0 rfl ?_
      refine V_get (j := 4) (v := vR (SR σ_7 h0 4)) 59 rfl ck_Album (by decide) (by decide) (show decode M_Album_fillRowOf.2.1 56 = .ok (.getfield 21, 3) by decide +kernel) wd_398 rfl ?_
      refine V_iload_n 60 rfl (show decode M_Album_fillRowOf.2.1 59 = .ok (.iload_n 1, 1) by decide +kernel) 1 rfl ?_
      refine V_iload_n 61 rfl (show decode M_Album_fillRowOf.2.1 60 = .ok (.iload_n 3, 1) by decide +kernel) 3 rfl ?_
      refine V_jn (fun (J76 : Int32 → Int32 → Nat → Bool → Sto → Rs Unit) => ∀ (s0_76 : Int32) (s1_76 : Int32) (s2_76 : Nat) (b : Bool) (σ : Sto), V M_Album_fillRowOf 3 0 0 0 0 tU (J76 s0_76 s1_76 s2_76 b σ) 76 [(0, vR h0), (1, vI x1), (3, vI x3)] [vI s0_76, vI s1_76, vR s2_76] b σ) ?_ (fun J76 hJ76 => ?_)
      · intro s0_76 s1_76 s2_76 b σ
        refine V_ast_int 77 rfl (show decode M_Album_fillRowOf.2.1 76 = .ok (.iastore, 1) by decide +kernel) (fun σ_8 => ?_)
        refine V_aload_n 78 rfl (show decode M_Album_fillRowOf.2.1 77 = .ok (.aload_n 0, 1) by decide +kernel) 0 rfl ?_
        refine V_get (j := 5) (v := vR (SR σ_8 h0 5)) 81 rfl ck_Album (by decide) (by decide) (show decode M_Album_fillRowOf.2.1 78 = .ok (.getfield 24, 3) by decide +kernel) wd_400 rfl ?_
        refine V_iload_n 82 rfl (show decode M_Album_fillRowOf.2.1 81 = .ok (.iload_n 1, 1) by decide +kernel) 1 rfl ?_
        refine V_iload_n 83 rfl (show decode M_Album_fillRowOf.2.1 82 = .ok (.iload_n 3, 1) by decide +kernel) 2 rfl ?_
        refine V_jn (fun (J101 : Int32 → Int32 → Nat → Bool → Sto → Rs Unit) => ∀ (s0_101 : Int32) (s1_101 : Int32) (s2_101 : Nat) (b : Bool) (σ : Sto), V M_Album_fillRowOf 3 0 0 0 0 tU (J101 s0_101 s1_101 s2_101 b σ) 101 [] [vI s0_101, vI s1_101, vR s2_101] b σ) ?_ (fun J101 hJ101 => ?_)
        · intro s0_101 s1_101 s2_101 b σ
          refine V_ast_int 102 rfl (show decode M_Album_fillRowOf.2.1 101 = .ok (.iastore, 1) by decide +kernel) (fun σ_9 => ?_)
          exact V_vret rfl (by decide) (by decide) (show decode M_Album_fillRowOf.2.1 102 = .ok (.return_, 1) by decide +kernel)
        · skip
          refine V_ifge 86 95 rfl (show decode M_Album_fillRowOf.2.1 83 = .ok (.ifCond .ge 12, 3) by decide +kernel) rfl ?_ ?_
          · skip
            refine V_aload_n 87 rfl (show decode M_Album_fillRowOf.2.1 86 = .ok (.aload_n 0, 1) by decide +kernel) 0 rfl ?_
            refine V_get (j := 1) (v := vR (SR σ_8 h0 1)) 90 rfl ck_Album (by decide) (by decide) (show decode M_Album_fillRowOf.2.1 87 = .ok (.getfield 15, 3) by decide +kernel) wd_394 rfl ?_
            refine V_iload_n 91 rfl (show decode M_Album_fillRowOf.2.1 90 = .ok (.iload_n 1, 1) by decide +kernel) 1 rfl ?_
            refine V_ald_int 92 rfl (show decode M_Album_fillRowOf.2.1 91 = .ok (.iaload, 1) by decide +kernel) ?_
            refine V_goto 101 (show decode M_Album_fillRowOf.2.1 92 = .ok (.goto 9, 3) by decide +kernel) rfl ?_
            exact V_sub [] rfl (hJ101 (SI σ_8 (SR σ_8 h0 1) (ix x1)) x1 (SR σ_8 h0 5) ((((b && cA σ s2_76 21 s1_76) && cK σ_8 h0 1) && cK σ_8 h0 1) && cA σ_8 (SR σ_8 h0 1) 21 x1) σ_8)
          · skip
            refine V_aload_n 96 rfl (show decode M_Album_fillRowOf.2.1 95 = .ok (.aload_n 0, 1) by decide +kernel) 0 rfl ?_
            refine V_get (j := 5) (v := vR (SR σ_8 h0 5)) 99 rfl ck_Album (by decide) (by decide) (show decode M_Album_fillRowOf.2.1 96 = .ok (.getfield 24, 3) by decide +kernel) wd_400 rfl ?_
            refine V_iload_n 100 rfl (show decode M_Album_fillRowOf.2.1 99 = .ok (.iload_n 3, 1) by decide +kernel) 2 rfl ?_
            refine V_ald_int 101 rfl (show decode M_Album_fillRowOf.2.1 100 = .ok (.iaload, 1) by decide +kernel) ?_
            exact V_sub [] rfl (hJ101 (SI σ_8 (SR σ_8 h0 5) (ix x3)) x1 (SR σ_8 h0 5) ((((b && cA σ s2_76 21 s1_76) && cK σ_8 h0 1) && cK σ_8 h0 1) && cA σ_8 (SR σ_8 h0 5) 21 x3) σ_8)
      · skip
        refine V_ifge 64 68 rfl (show decode M_Album_fillRowOf.2.1 61 = .ok (.ifCond .ge 7, 3) by decide +kernel) rfl ?_ ?_
        · skip
          refine V_iconst 65 rfl (show decode M_Album_fillRowOf.2.1 64 = .ok (.iconst 1, 1) by decide +kernel) (v := 1) rfl ?_
          refine V_goto 76 (show decode M_Album_fillRowOf.2.1 65 = .ok (.goto 11, 3) by decide +kernel) rfl ?_
          exact V_sub [0, 1, 3] rfl (hJ76 (1 : Int32) x1 (SR σ_7 h0 4) ((((b && cK σ h0 1) && cK σ h0 1) && cA σ (SR σ h0 6) 21 x1) && cK σ_7 h0 1) σ_7)
        · skip
          refine V_iconst 69 rfl (show decode M_Album_fillRowOf.2.1 68 = .ok (.iconst 1, 1) by decide +kernel) (v := 1) rfl ?_
          refine V_aload_n 70 rfl (show decode M_Album_fillRowOf.2.1 69 = .ok (.aload_n 0, 1) by decide +kernel) 0 rfl ?_
          refine V_get (j := 4) (v := vR (SR σ_7 h0 4)) 73 rfl ck_Album (by decide) (by decide) (show decode M_Album_fillRowOf.2.1 70 = .ok (.getfield 21, 3) by decide +kernel) wd_398 rfl ?_
          refine V_iload_n 74 rfl (show decode M_Album_fillRowOf.2.1 73 = .ok (.iload_n 3, 1) by decide +kernel) 3 rfl ?_
          refine V_ald_int 75 rfl (show decode M_Album_fillRowOf.2.1 74 = .ok (.iaload, 1) by decide +kernel) ?_
          refine V_iadd 76 rfl (show decode M_Album_fillRowOf.2.1 75 = .ok (.iadd, 1) by decide +kernel) ?_
          exact V_sub [0, 1, 3] rfl (hJ76 ((1 : Int32) + (SI σ_7 (SR σ_7 h0 4) (ix x3))) x1 (SR σ_7 h0 4) ((((((b && cK σ h0 1) && cK σ h0 1) && cA σ (SR σ h0 6) 21 x1) && cK σ_7 h0 1) && cK σ_7 h0 1) && cA σ_7 (SR σ_7 h0 4) 21 x3) σ_7)
theorem cal_Album_fillRowOf (d mc ms k n : Nat) (h1 : 3 + 1 ≤ d) (h2 : k + 0 ≤ mc) (h3 : n + 0 ≤ ms) : Cal M_Album_fillRowOf 3 0 0 2 d mc ms k n := ⟨wd_1399, wd_177, by decide, h1, by decide, h2, h3⟩
abbrev M_Album_lineUpByDays : MD := (⟨"LongTrail$Album", "lineUpByDays", "()V"⟩, prog_2_method_6_code, 3, (none : Option FieldType))
def b_Album_lineUpByDays_12 (h0 : Nat) (x1 : Int32) (L2 : Int32 → Bool → Sto → Rs Unit) (L12 : Int32 → Bool → Sto → Rs Unit) (x2 : Int32) (b : Bool) (σ : Sto) : Rs Unit := (lt_ (fun (b : Bool) (σ : Sto) => (lt_ (pI σ (SR σ h0 3) (ix x2) x1) (fun (σ_3 : Sto) => (lt_ (x1 + (1 : Int32)) (fun (x1_4 : Int32) => (L2 x1_4 ((b && cK σ h0 1) && cA σ (SR σ h0 3) 21 x2) σ_3)))))) (fun J58 => (if 0 < x2 then (if (SI σ (SR σ h0 0) (ix (SI σ (SR σ h0 3) (ix (x2 - (1 : Int32)))))) < (SI σ (SR σ h0 0) (ix x1)) then (lt_ (pI σ (SR σ h0 3) (ix x2) (SI σ (SR σ h0 3) (ix (x2 - (1 : Int32))))) (fun (σ_5 : Sto) => (lt_ (x2 + (-1 : Int32)) (fun (x2_6 : Int32) => (L12 x2_6 ((((((((((b && cK σ h0 1) && cK σ h0 1) && cA σ (SR σ h0 3) 21 (x2 - (1 : Int32))) && cA σ (SR σ h0 0) 21 (SI σ (SR σ h0 3) (ix (x2 - (1 : Int32))))) && cK σ h0 1) && cA σ (SR σ h0 0) 21 x1) && cK σ h0 1) && cK σ h0 1) && cA σ (SR σ h0 3) 21 (x2 - (1 : Int32))) && cA σ (SR σ h0 3) 21 x2) σ_5))))) else (J58 ((((((b && cK σ h0 1) && cK σ h0 1) && cA σ (SR σ h0 3) 21 (x2 - (1 : Int32))) && cA σ (SR σ h0 0) 21 (SI σ (SR σ h0 3) (ix (x2 - (1 : Int32))))) && cK σ h0 1) && cA σ (SR σ h0 0) 21 x1) σ)) else (J58 b σ))))
def b_Album_lineUpByDays_2 (h0 : Nat) (L2 : Int32 → Bool → Sto → Rs Unit) (x1 : Int32) (b : Bool) (σ : Sto) : Rs Unit := (if x1 < (SI σ h0 2) then (lt_ x1 (fun (x2_2 : Int32) => (lp_ (b_Album_lineUpByDays_12 h0 x1 L2) (fun (x2 : Int32) (b : Bool) (σ : Sto) => ((), false, σ)) fuel_ x2_2 (b && cK σ h0 1) σ))) else ((), (b && cK σ h0 1), σ))
def f_Album_lineUpByDays (h0 : Nat) (b : Bool) (σ : Sto) : Rs Unit := (lt_ (0 : Int32) (fun (x1_1 : Int32) => (lp_ (b_Album_lineUpByDays_2 h0) (fun (x1 : Int32) (b : Bool) (σ : Sto) => ((), false, σ)) fuel_ x1_1 b σ)))
set_option maxRecDepth 100000 in
set_option maxHeartbeats 4000000 in
theorem s_Album_lineUpByDays : ∀ (h0 : Nat) (b : Bool) (σ : Sto), Snd M_Album_lineUpByDays 1 0 0 [vR h0] b σ (tU (f_Album_lineUpByDays h0 b σ).1) (f_Album_lineUpByDays h0 b σ).2.1 (f_Album_lineUpByDays h0 b σ).2.2 := by
  intro h0 b σ
  refine Snd_of (tv := tU) (by decide) (Nat.le_of_ble_eq_true rfl) ?_
  show V M_Album_lineUpByDays 1 0 0 0 0 tU (f_Album_lineUpByDays h0 b σ) 0 [(0, vR h0)] [] b σ
  unfold f_Album_lineUpByDays
  refine V_iconst 1 rfl (show decode M_Album_lineUpByDays.2.1 0 = .ok (.iconst 0, 1) by decide +kernel) (v := 0) rfl ?_
  refine V_istore_n (fun x1_1 => [(1, vI x1_1), (0, vR h0)]) 2 rfl (show decode M_Album_lineUpByDays.2.1 1 = .ok (.istore_n 1, 1) by decide +kernel) (by decide) (fun _ => rfl) (fun x1_1 => ?_)
  refine V_sub [1, 0] rfl ?_
  refine lp_P (fun (L2 : Int32 → Bool → Sto → Rs Unit) => ∀ (x1 : Int32) (b : Bool) (σ : Sto), V M_Album_lineUpByDays 1 0 0 0 0 tU (L2 x1 b σ) 2 [(0, vR h0), (1, vI x1)] [] b σ) ?_ ?_ fuel_ x1_1 b σ
  · intro x1 b σ; exact V_bad
  · intro L2 hL2 x1 b σ
    unfold b_Album_lineUpByDays_2
    refine V_iload_n 3 rfl (show decode M_Album_lineUpByDays.2.1 2 = .ok (.iload_n 1, 1) by decide +kernel) 1 rfl ?_
    refine V_aload_n 4 rfl (show decode M_Album_lineUpByDays.2.1 3 = .ok (.aload_n 0, 1) by decide +kernel) 0 rfl ?_
    refine V_get (j := 2) (v := vI (SI σ h0 2)) 7 rfl ck_Album (by decide) (by decide) (show decode M_Album_lineUpByDays.2.1 4 = .ok (.getfield 36, 3) by decide +kernel) wd_395 rfl ?_
    refine V_icmpge 10 71 rfl (show decode M_Album_lineUpByDays.2.1 7 = .ok (.if_icmp .ge 64, 3) by decide +kernel) rfl ?_ ?_
    · skip
      refine V_iload_n 11 rfl (show decode M_Album_lineUpByDays.2.1 10 = .ok (.iload_n 1, 1) by decide +kernel) 1 rfl ?_
      refine V_istore_n (fun x2_2 => [(2, vI x2_2), (0, vR h0), (1, vI x1)]) 12 rfl (show decode M_Album_lineUpByDays.2.1 11 = .ok (.istore_n 2, 1) by decide +kernel) (by decide) (fun _ => rfl) (fun x2_2 => ?_)
      refine V_sub [1, 2, 0] rfl ?_
      refine lp_P (fun (L12 : Int32 → Bool → Sto → Rs Unit) => ∀ (x2 : Int32) (b : Bool) (σ : Sto), V M_Album_lineUpByDays 1 0 0 0 0 tU (L12 x2 b σ) 12 [(0, vR h0), (1, vI x1), (2, vI x2)] [] b σ) ?_ ?_ fuel_ x2_2 (b && cK σ h0 1) σ
      · intro x2 b σ; exact V_bad
      · intro L12 hL12 x2 b σ
        unfold b_Album_lineUpByDays_12
        refine V_iload_n 13 rfl (show decode M_Album_lineUpByDays.2.1 12 = .ok (.iload_n 2, 1) by decide +kernel) 2 rfl ?_
        refine V_jn (fun (J58 : Bool → Sto → Rs Unit) => ∀ (b : Bool) (σ : Sto), V M_Album_lineUpByDays 1 0 0 0 0 tU (J58 b σ) 58 [(0, vR h0), (1, vI x1), (2, vI x2)] [] b σ) ?_ (fun J58 hJ58 => ?_)
        · intro b σ
          refine V_aload_n 59 rfl (show decode M_Album_lineUpByDays.2.1 58 = .ok (.aload_n 0, 1) by decide +kernel) 0 rfl ?_
          refine V_get (j := 3) (v := vR (SR σ h0 3)) 62 rfl ck_Album (by decide) (by decide) (show decode M_Album_lineUpByDays.2.1 59 = .ok (.getfield 18, 3) by decide +kernel) wd_397 rfl ?_
          refine V_iload_n 63 rfl (show decode M_Album_lineUpByDays.2.1 62 = .ok (.iload_n 2, 1) by decide +kernel) 2 rfl ?_
          refine V_iload_n 64 rfl (show decode M_Album_lineUpByDays.2.1 63 = .ok (.iload_n 1, 1) by decide +kernel) 1 rfl ?_
          refine V_ast_int 65 rfl (show decode M_Album_lineUpByDays.2.1 64 = .ok (.iastore, 1) by decide +kernel) (fun σ_3 => ?_)
          refine V_iinc (fun x1_4 => [(1, vI x1_4), (0, vR h0), (2, vI x2)]) 68 rfl (show decode M_Album_lineUpByDays.2.1 65 = .ok (.iinc 1 1, 3) by decide +kernel) 1 rfl (w := 1) rfl (by decide) (fun _ => rfl) (fun x1_4 => ?_)
          refine V_goto 2 (show decode M_Album_lineUpByDays.2.1 68 = .ok (.goto (-66), 3) by decide +kernel) rfl ?_
          exact V_sub [1, 0] rfl (hL2 x1_4 ((b && cK σ h0 1) && cA σ (SR σ h0 3) 21 x2) σ_3)
        · skip
          refine V_ifle 16 58 rfl (show decode M_Album_lineUpByDays.2.1 13 = .ok (.ifCond .le 45, 3) by decide +kernel) rfl ?_ ?_
          · skip
            refine V_aload_n 17 rfl (show decode M_Album_lineUpByDays.2.1 16 = .ok (.aload_n 0, 1) by decide +kernel) 0 rfl ?_
            refine V_get (j := 0) (v := vR (SR σ h0 0)) 20 rfl ck_Album (by decide) (by decide) (show decode M_Album_lineUpByDays.2.1 17 = .ok (.getfield 11, 3) by decide +kernel) wd_393 rfl ?_
            refine V_aload_n 21 rfl (show decode M_Album_lineUpByDays.2.1 20 = .ok (.aload_n 0, 1) by decide +kernel) 0 rfl ?_
            refine V_get (j := 3) (v := vR (SR σ h0 3)) 24 rfl ck_Album (by decide) (by decide) (show decode M_Album_lineUpByDays.2.1 21 = .ok (.getfield 18, 3) by decide +kernel) wd_397 rfl ?_
            refine V_iload_n 25 rfl (show decode M_Album_lineUpByDays.2.1 24 = .ok (.iload_n 2, 1) by decide +kernel) 2 rfl ?_
            refine V_iconst 26 rfl (show decode M_Album_lineUpByDays.2.1 25 = .ok (.iconst 1, 1) by decide +kernel) (v := 1) rfl ?_
            refine V_isub 27 rfl (show decode M_Album_lineUpByDays.2.1 26 = .ok (.isub, 1) by decide +kernel) ?_
            refine V_ald_int 28 rfl (show decode M_Album_lineUpByDays.2.1 27 = .ok (.iaload, 1) by decide +kernel) ?_
            refine V_ald_int 29 rfl (show decode M_Album_lineUpByDays.2.1 28 = .ok (.iaload, 1) by decide +kernel) ?_
            refine V_aload_n 30 rfl (show decode M_Album_lineUpByDays.2.1 29 = .ok (.aload_n 0, 1) by decide +kernel) 0 rfl ?_
            refine V_get (j := 0) (v := vR (SR σ h0 0)) 33 rfl ck_Album (by decide) (by decide) (show decode M_Album_lineUpByDays.2.1 30 = .ok (.getfield 11, 3) by decide +kernel) wd_393 rfl ?_
            refine V_iload_n 34 rfl (show decode M_Album_lineUpByDays.2.1 33 = .ok (.iload_n 1, 1) by decide +kernel) 1 rfl ?_
            refine V_ald_int 35 rfl (show decode M_Album_lineUpByDays.2.1 34 = .ok (.iaload, 1) by decide +kernel) ?_
            refine V_icmpge 38 58 rfl (show decode M_Album_lineUpByDays.2.1 35 = .ok (.if_icmp .ge 23, 3) by decide +kernel) rfl ?_ ?_
            · skip
              refine V_aload_n 39 rfl (show decode M_Album_lineUpByDays.2.1 38 = .ok (.aload_n 0, 1) by decide +kernel) 0 rfl ?_
              refine V_get (j := 3) (v := vR (SR σ h0 3)) 42 rfl ck_Album (by decide) (by decide) (show decode M_Album_lineUpByDays.2.1 39 = .ok (.getfield 18, 3) by decide +kernel) wd_397 rfl ?_
              refine V_iload_n 43 rfl (show decode M_Album_lineUpByDays.2.1 42 = .ok (.iload_n 2, 1) by decide +kernel) 2 rfl ?_
              refine V_aload_n 44 rfl (show decode M_Album_lineUpByDays.2.1 43 = .ok (.aload_n 0, 1) by decide +kernel) 0 rfl ?_
              refine V_get (j := 3) (v := vR (SR σ h0 3)) 47 rfl ck_Album (by decide) (by decide) (show decode M_Album_lineUpByDays.2.1 44 = .ok (.getfield 18, 3) by decide +kernel) wd_397 rfl ?_
              refine V_iload_n 48 rfl (show decode M_Album_lineUpByDays.2.1 47 = .ok (.iload_n 2, 1) by decide +kernel) 2 rfl ?_
              refine V_iconst 49 rfl (show decode M_Album_lineUpByDays.2.1 48 = .ok (.iconst 1, 1) by decide +kernel) (v := 1) rfl ?_
              refine V_isub 50 rfl (show decode M_Album_lineUpByDays.2.1 49 = .ok (.isub, 1) by decide +kernel) ?_
              refine V_ald_int 51 rfl (show decode M_Album_lineUpByDays.2.1 50 = .ok (.iaload, 1) by decide +kernel) ?_
              refine V_ast_int 52 rfl (show decode M_Album_lineUpByDays.2.1 51 = .ok (.iastore, 1) by decide +kernel) (fun σ_5 => ?_)
              refine V_iinc (fun x2_6 => [(2, vI x2_6), (0, vR h0), (1, vI x1)]) 55 rfl (show decode M_Album_lineUpByDays.2.1 52 = .ok (.iinc 2 (-1), 3) by decide +kernel) 2 rfl (w := -1) rfl (by decide) (fun _ => rfl) (fun x2_6 => ?_)
              refine V_goto 12 (show decode M_Album_lineUpByDays.2.1 55 = .ok (.goto (-43), 3) by decide +kernel) rfl ?_
              exact V_sub [1, 2, 0] rfl (hL12 x2_6 ((((((((((b && cK σ h0 1) && cK σ h0 1) && cA σ (SR σ h0 3) 21 (x2 - (1 : Int32))) && cA σ (SR σ h0 0) 21 (SI σ (SR σ h0 3) (ix (x2 - (1 : Int32))))) && cK σ h0 1) && cA σ (SR σ h0 0) 21 x1) && cK σ h0 1) && cK σ h0 1) && cA σ (SR σ h0 3) 21 (x2 - (1 : Int32))) && cA σ (SR σ h0 3) 21 x2) σ_5)
            · skip
              exact V_sub [0, 1, 2] rfl (hJ58 ((((((b && cK σ h0 1) && cK σ h0 1) && cA σ (SR σ h0 3) 21 (x2 - (1 : Int32))) && cA σ (SR σ h0 0) 21 (SI σ (SR σ h0 3) (ix (x2 - (1 : Int32))))) && cK σ h0 1) && cA σ (SR σ h0 0) 21 x1) σ)
          · skip
            exact V_sub [0, 1, 2] rfl (hJ58 b σ)
    · skip
      exact V_vret rfl (by decide) (by decide) (show decode M_Album_lineUpByDays.2.1 71 = .ok (.return_, 1) by decide +kernel)
theorem cal_Album_lineUpByDays (d mc ms k n : Nat) (h1 : 1 + 1 ≤ d) (h2 : k + 0 ≤ mc) (h3 : n + 0 ≤ ms) : Cal M_Album_lineUpByDays 1 0 0 0 d mc ms k n := ⟨wd_1395, wd_177, by decide, h1, by decide, h2, h3⟩
abbrev M_Album_rowMiles : MD := (⟨"LongTrail$Album", "rowMiles", "(I)I"⟩, prog_2_method_10_code, 2, (some FieldType.int))
def f_Album_rowMiles (h0 : Nat) (x1 : Int32) (b : Bool) (σ : Sto) : Rs Int32 := (((SI σ (SR σ h0 5) (ix x1)) - (SI σ (SR σ h0 1) (ix x1))), ((((b && cK σ h0 1) && cA σ (SR σ h0 5) 21 x1) && cK σ h0 1) && cA σ (SR σ h0 1) 21 x1), σ)
set_option maxRecDepth 100000 in
set_option maxHeartbeats 4000000 in
theorem s_Album_rowMiles : ∀ (h0 : Nat) (x1 : Int32) (b : Bool) (σ : Sto), Snd M_Album_rowMiles 1 0 0 [vR h0, vI x1] b σ (tI (f_Album_rowMiles h0 x1 b σ).1) (f_Album_rowMiles h0 x1 b σ).2.1 (f_Album_rowMiles h0 x1 b σ).2.2 := by
  intro h0 x1 b σ
  refine Snd_of (tv := tI) (by decide) (Nat.le_of_ble_eq_true rfl) ?_
  show V M_Album_rowMiles 1 0 0 0 0 tI (f_Album_rowMiles h0 x1 b σ) 0 [(0, vR h0), (1, vI x1)] [] b σ
  unfold f_Album_rowMiles
  refine V_aload_n 1 rfl (show decode M_Album_rowMiles.2.1 0 = .ok (.aload_n 0, 1) by decide +kernel) 0 rfl ?_
  refine V_get (j := 5) (v := vR (SR σ h0 5)) 4 rfl ck_Album (by decide) (by decide) (show decode M_Album_rowMiles.2.1 1 = .ok (.getfield 24, 3) by decide +kernel) wd_400 rfl ?_
  refine V_iload_n 5 rfl (show decode M_Album_rowMiles.2.1 4 = .ok (.iload_n 1, 1) by decide +kernel) 1 rfl ?_
  refine V_ald_int 6 rfl (show decode M_Album_rowMiles.2.1 5 = .ok (.iaload, 1) by decide +kernel) ?_
  refine V_aload_n 7 rfl (show decode M_Album_rowMiles.2.1 6 = .ok (.aload_n 0, 1) by decide +kernel) 0 rfl ?_
  refine V_get (j := 1) (v := vR (SR σ h0 1)) 10 rfl ck_Album (by decide) (by decide) (show decode M_Album_rowMiles.2.1 7 = .ok (.getfield 15, 3) by decide +kernel) wd_394 rfl ?_
  refine V_iload_n 11 rfl (show decode M_Album_rowMiles.2.1 10 = .ok (.iload_n 1, 1) by decide +kernel) 1 rfl ?_
  refine V_ald_int 12 rfl (show decode M_Album_rowMiles.2.1 11 = .ok (.iaload, 1) by decide +kernel) ?_
  refine V_isub 13 rfl (show decode M_Album_rowMiles.2.1 12 = .ok (.isub, 1) by decide +kernel) ?_
  exact V_iret rfl (by decide) (by decide) (show decode M_Album_rowMiles.2.1 13 = .ok (.ireturn, 1) by decide +kernel)
theorem cal_Album_rowMiles (d mc ms k n : Nat) (h1 : 1 + 1 ≤ d) (h2 : k + 0 ≤ mc) (h3 : n + 0 ≤ ms) : Cal M_Album_rowMiles 1 0 0 1 d mc ms k n := ⟨wd_1412, wd_177, by decide, h1, by decide, h2, h3⟩
abbrev M_Album_firstOfBestRow : MD := (⟨"LongTrail$Album", "firstOfBestRow", "(I)I"⟩, prog_2_method_5_code, 4, (some FieldType.int))
def b_Album_firstOfBestRow_35 (h0 : Nat) (L35 : Int32 → Int32 → Bool → Sto → Rs Int32) (x2 : Int32) (x3 : Int32) (b : Bool) (σ : Sto) : Rs Int32 := (if x3 < (SI σ h0 2) then (lt_ (fun (x2_92 : Int32) (b : Bool) (σ : Sto) => (lt_ (x3 + (1 : Int32)) (fun (x3_7 : Int32) => (L35 x2_92 x3_7 b σ)))) (fun J92 => (lt_ (fun (b : Bool) (σ : Sto) => (lt_ x3 (fun (x2_8 : Int32) => (J92 x2_8 b σ)))) (fun J90 => (if x2 < 0 then (J90 (b && cK σ h0 1) σ) else (if (SI σ (SR σ h0 4) (ix x2)) < (SI σ (SR σ h0 4) (ix x3)) then (J90 (((((b && cK σ h0 1) && cK σ h0 1) && cA σ (SR σ h0 4) 21 x3) && cK σ h0 1) && cA σ (SR σ h0 4) 21 x2) σ) else (if (SI σ (SR σ h0 4) (ix x3)) = (SI σ (SR σ h0 4) (ix x2)) then (bd_ (f_Album_rowMiles h0 x3 ((((((((((b && cK σ h0 1) && cK σ h0 1) && cA σ (SR σ h0 4) 21 x3) && cK σ h0 1) && cA σ (SR σ h0 4) 21 x2) && cK σ h0 1) && cA σ (SR σ h0 4) 21 x3) && cK σ h0 1) && cA σ (SR σ h0 4) 21 x2) && cK σ h0 1) σ) (fun (r_9 : Int32) (b_9 : Bool) (σ_9 : Sto) => (bd_ (f_Album_rowMiles h0 x2 (b_9 && cK σ_9 h0 1) σ_9) (fun (r_10 : Int32) (b_10 : Bool) (σ_10 : Sto) => (if r_10 < r_9 then (J90 b_10 σ_10) else (J92 x2 b_10 σ_10)))))) else (J92 x2 (((((((((b && cK σ h0 1) && cK σ h0 1) && cA σ (SR σ h0 4) 21 x3) && cK σ h0 1) && cA σ (SR σ h0 4) 21 x2) && cK σ h0 1) && cA σ (SR σ h0 4) 21 x3) && cK σ h0 1) && cA σ (SR σ h0 4) 21 x2) σ)))))))) else (x2, (b && cK σ h0 1), σ))
def b_Album_firstOfBestRow_6 (h0 : Nat) (x1 : Int32) (L6 : Int32 → Bool → Sto → Rs Int32) (x2 : Int32) (b : Bool) (σ : Sto) : Rs Int32 := (if x2 < (SI σ h0 2) then (bd_ (f_Album_fillRowOf h0 (SI σ (SR σ h0 3) (ix x2)) x1 ((((b && cK σ h0 1) && cK σ h0 1) && cA σ (SR σ h0 3) 21 x2) && cK σ h0 1) σ) (fun (r_3 : Unit) (b_3 : Bool) (σ_3 : Sto) => (lt_ (x2 + (1 : Int32)) (fun (x2_4 : Int32) => (L6 x2_4 b_3 σ_3))))) else (lt_ (-1 : Int32) (fun (x2_5 : Int32) => (lt_ (0 : Int32) (fun (x3_6 : Int32) => (lp_ (b_Album_firstOfBestRow_35 h0) (fun (x2 : Int32) (x3 : Int32) (b : Bool) (σ : Sto) => (0, false, σ)) fuel_ x2_5 x3_6 (b && cK σ h0 1) σ))))))
def f_Album_firstOfBestRow (h0 : Nat) (x1 : Int32) (b : Bool) (σ : Sto) : Rs Int32 := (bd_ (f_Album_lineUpByDays h0 (b && cK σ h0 1) σ) (fun (r_1 : Unit) (b_1 : Bool) (σ_1 : Sto) => (lt_ (0 : Int32) (fun (x2_2 : Int32) => (lp_ (b_Album_firstOfBestRow_6 h0 x1) (fun (x2 : Int32) (b : Bool) (σ : Sto) => (0, false, σ)) fuel_ x2_2 b_1 σ_1)))))
set_option maxRecDepth 100000 in
set_option maxHeartbeats 4000000 in
theorem s_Album_firstOfBestRow : ∀ (h0 : Nat) (x1 : Int32) (b : Bool) (σ : Sto), Snd M_Album_firstOfBestRow 4 0 0 [vR h0, vI x1] b σ (tI (f_Album_firstOfBestRow h0 x1 b σ).1) (f_Album_firstOfBestRow h0 x1 b σ).2.1 (f_Album_firstOfBestRow h0 x1 b σ).2.2 := by
  intro h0 x1 b σ
  refine Snd_of (tv := tI) (by decide) (Nat.le_of_ble_eq_true rfl) ?_
  show V M_Album_firstOfBestRow 4 0 0 0 0 tI (f_Album_firstOfBestRow h0 x1 b σ) 0 [(0, vR h0), (1, vI x1)] [] b σ
  unfold f_Album_firstOfBestRow
  refine V_aload_n 1 rfl (show decode M_Album_firstOfBestRow.2.1 0 = .ok (.aload_n 0, 1) by decide +kernel) 0 rfl ?_
  refine V_callV (tb := tU) (as := []) (rest := []) (na := 0) 4 rfl ck_Album (by decide) (s_Album_lineUpByDays h0 (b && cK σ h0 1) σ) rfl rfl (Nat.le_of_ble_eq_true rfl) (cal_Album_lineUpByDays _ _ _ _ _ (by decide) (by decide) (by decide)) (show decode M_Album_firstOfBestRow.2.1 1 = .ok (.invokevirtual 40, 3) by decide +kernel) wd_1392 wd_1394 wd_97 (fun r_1 b_1 σ_1 => ?_)
  show V M_Album_firstOfBestRow 4 0 0 0 0 tI _ 4 [(0, vR h0), (1, vI x1)] [] b_1 σ_1
  refine V_iconst 5 rfl (show decode M_Album_firstOfBestRow.2.1 4 = .ok (.iconst 0, 1) by decide +kernel) (v := 0) rfl ?_
  refine V_istore_n (fun x2_2 => [(2, vI x2_2), (0, vR h0), (1, vI x1)]) 6 rfl (show decode M_Album_firstOfBestRow.2.1 5 = .ok (.istore_n 2, 1) by decide +kernel) (by decide) (fun _ => rfl) (fun x2_2 => ?_)
  refine V_sub [1, 2, 0] rfl ?_
  refine lp_P (fun (L6 : Int32 → Bool → Sto → Rs Int32) => ∀ (x2 : Int32) (b : Bool) (σ : Sto), V M_Album_firstOfBestRow 4 0 0 0 0 tI (L6 x2 b σ) 6 [(0, vR h0), (1, vI x1), (2, vI x2)] [] b σ) ?_ ?_ fuel_ x2_2 b_1 σ_1
  · intro x2 b σ; exact V_bad
  · intro L6 hL6 x2 b σ
    unfold b_Album_firstOfBestRow_6
    refine V_iload_n 7 rfl (show decode M_Album_firstOfBestRow.2.1 6 = .ok (.iload_n 2, 1) by decide +kernel) 2 rfl ?_
    refine V_aload_n 8 rfl (show decode M_Album_firstOfBestRow.2.1 7 = .ok (.aload_n 0, 1) by decide +kernel) 0 rfl ?_
    refine V_get (j := 2) (v := vI (SI σ h0 2)) 11 rfl ck_Album (by decide) (by decide) (show decode M_Album_firstOfBestRow.2.1 8 = .ok (.getfield 36, 3) by decide +kernel) wd_395 rfl ?_
    refine V_icmpge 14 31 rfl (show decode M_Album_firstOfBestRow.2.1 11 = .ok (.if_icmp .ge 20, 3) by decide +kernel) rfl ?_ ?_
    · skip
      refine V_aload_n 15 rfl (show decode M_Album_firstOfBestRow.2.1 14 = .ok (.aload_n 0, 1) by decide +kernel) 0 rfl ?_
      refine V_aload_n 16 rfl (show decode M_Album_firstOfBestRow.2.1 15 = .ok (.aload_n 0, 1) by decide +kernel) 0 rfl ?_
      refine V_get (j := 3) (v := vR (SR σ h0 3)) 19 rfl ck_Album (by decide) (by decide) (show decode M_Album_firstOfBestRow.2.1 16 = .ok (.getfield 18, 3) by decide +kernel) wd_397 rfl ?_
      refine V_iload_n 20 rfl (show decode M_Album_firstOfBestRow.2.1 19 = .ok (.iload_n 2, 1) by decide +kernel) 2 rfl ?_
      refine V_ald_int 21 rfl (show decode M_Album_firstOfBestRow.2.1 20 = .ok (.iaload, 1) by decide +kernel) ?_
      refine V_iload_n 22 rfl (show decode M_Album_firstOfBestRow.2.1 21 = .ok (.iload_n 1, 1) by decide +kernel) 1 rfl ?_
      refine V_callV (tb := tU) (as := [vI (SI σ (SR σ h0 3) (ix x2)), vI x1]) (rest := []) (na := 2) 25 rfl ck_Album (by decide) (s_Album_fillRowOf h0 (SI σ (SR σ h0 3) (ix x2)) x1 ((((b && cK σ h0 1) && cK σ h0 1) && cA σ (SR σ h0 3) 21 x2) && cK σ h0 1) σ) rfl rfl (Nat.le_of_ble_eq_true rfl) (cal_Album_fillRowOf _ _ _ _ _ (by decide) (by decide) (by decide)) (show decode M_Album_firstOfBestRow.2.1 22 = .ok (.invokevirtual 43, 3) by decide +kernel) wd_1396 wd_1398 wd_98 (fun r_3 b_3 σ_3 => ?_)
      show V M_Album_firstOfBestRow 4 0 0 0 0 tI _ 25 [(0, vR h0), (1, vI x1), (2, vI x2)] [] b_3 σ_3
      refine V_iinc (fun x2_4 => [(2, vI x2_4), (0, vR h0), (1, vI x1)]) 28 rfl (show decode M_Album_firstOfBestRow.2.1 25 = .ok (.iinc 2 1, 3) by decide +kernel) 2 rfl (w := 1) rfl (by decide) (fun _ => rfl) (fun x2_4 => ?_)
      refine V_goto 6 (show decode M_Album_firstOfBestRow.2.1 28 = .ok (.goto (-22), 3) by decide +kernel) rfl ?_
      exact V_sub [1, 2, 0] rfl (hL6 x2_4 b_3 σ_3)
    · skip
      refine V_iconst 32 rfl (show decode M_Album_firstOfBestRow.2.1 31 = .ok (.iconst (-1), 1) by decide +kernel) (v := -1) rfl ?_
      refine V_istore_n (fun x2_5 => [(2, vI x2_5), (0, vR h0), (1, vI x1)]) 33 rfl (show decode M_Album_firstOfBestRow.2.1 32 = .ok (.istore_n 2, 1) by decide +kernel) (by decide) (fun _ => rfl) (fun x2_5 => ?_)
      refine V_iconst 34 rfl (show decode M_Album_firstOfBestRow.2.1 33 = .ok (.iconst 0, 1) by decide +kernel) (v := 0) rfl ?_
      refine V_istore_n (fun x3_6 => [(3, vI x3_6), (2, vI x2_5), (0, vR h0), (1, vI x1)]) 35 rfl (show decode M_Album_firstOfBestRow.2.1 34 = .ok (.istore_n 3, 1) by decide +kernel) (by decide) (fun _ => rfl) (fun x3_6 => ?_)
      refine V_sub [2, 1, 0] rfl ?_
      refine lp_P (fun (L35 : Int32 → Int32 → Bool → Sto → Rs Int32) => ∀ (x2 : Int32) (x3 : Int32) (b : Bool) (σ : Sto), V M_Album_firstOfBestRow 4 0 0 0 0 tI (L35 x2 x3 b σ) 35 [(0, vR h0), (2, vI x2), (3, vI x3)] [] b σ) ?_ ?_ fuel_ x2_5 x3_6 (b && cK σ h0 1) σ
      · intro x2 x3 b σ; exact V_bad
      · intro L35 hL35 x2 x3 b σ
        unfold b_Album_firstOfBestRow_35
        refine V_iload_n 36 rfl (show decode M_Album_firstOfBestRow.2.1 35 = .ok (.iload_n 3, 1) by decide +kernel) 2 rfl ?_
        refine V_aload_n 37 rfl (show decode M_Album_firstOfBestRow.2.1 36 = .ok (.aload_n 0, 1) by decide +kernel) 0 rfl ?_
        refine V_get (j := 2) (v := vI (SI σ h0 2)) 40 rfl ck_Album (by decide) (by decide) (show decode M_Album_firstOfBestRow.2.1 37 = .ok (.getfield 36, 3) by decide +kernel) wd_395 rfl ?_
        refine V_icmpge 43 98 rfl (show decode M_Album_firstOfBestRow.2.1 40 = .ok (.if_icmp .ge 58, 3) by decide +kernel) rfl ?_ ?_
        · skip
          refine V_iload_n 44 rfl (show decode M_Album_firstOfBestRow.2.1 43 = .ok (.iload_n 2, 1) by decide +kernel) 1 rfl ?_
          refine V_jn (fun (J92 : Int32 → Bool → Sto → Rs Int32) => ∀ (x2_92 : Int32) (b : Bool) (σ : Sto), V M_Album_firstOfBestRow 4 0 0 0 0 tI (J92 x2_92 b σ) 92 [(0, vR h0), (2, vI x2_92), (3, vI x3)] [] b σ) ?_ (fun J92 hJ92 => ?_)
          · intro x2_92 b σ
            refine V_iinc (fun x3_7 => [(3, vI x3_7), (0, vR h0), (2, vI x2_92)]) 95 rfl (show decode M_Album_firstOfBestRow.2.1 92 = .ok (.iinc 3 1, 3) by decide +kernel) 2 rfl (w := 1) rfl (by decide) (fun _ => rfl) (fun x3_7 => ?_)
            refine V_goto 35 (show decode M_Album_firstOfBestRow.2.1 95 = .ok (.goto (-60), 3) by decide +kernel) rfl ?_
            exact V_sub [1, 2, 0] rfl (hL35 x2_92 x3_7 b σ)
          · skip
            refine V_jn (fun (J90 : Bool → Sto → Rs Int32) => ∀ (b : Bool) (σ : Sto), V M_Album_firstOfBestRow 4 0 0 0 0 tI (J90 b σ) 90 [(0, vR h0), (3, vI x3)] [] b σ) ?_ (fun J90 hJ90 => ?_)
            · intro b σ
              refine V_iload_n 91 rfl (show decode M_Album_firstOfBestRow.2.1 90 = .ok (.iload_n 3, 1) by decide +kernel) 1 rfl ?_
              refine V_istore_n (fun x2_8 => [(2, vI x2_8), (0, vR h0), (3, vI x3)]) 92 rfl (show decode M_Album_firstOfBestRow.2.1 91 = .ok (.istore_n 2, 1) by decide +kernel) (by decide) (fun _ => rfl) (fun x2_8 => ?_)
              exact V_sub [1, 0, 2] rfl (hJ92 x2_8 b σ)
            · skip
              refine V_iflt 47 90 rfl (show decode M_Album_firstOfBestRow.2.1 44 = .ok (.ifCond .lt 46, 3) by decide +kernel) rfl ?_ ?_
              · skip
                exact V_sub [0, 2] rfl (hJ90 (b && cK σ h0 1) σ)
              · skip
                refine V_aload_n 48 rfl (show decode M_Album_firstOfBestRow.2.1 47 = .ok (.aload_n 0, 1) by decide +kernel) 0 rfl ?_
                refine V_get (j := 4) (v := vR (SR σ h0 4)) 51 rfl ck_Album (by decide) (by decide) (show decode M_Album_firstOfBestRow.2.1 48 = .ok (.getfield 21, 3) by decide +kernel) wd_398 rfl ?_
                refine V_iload_n 52 rfl (show decode M_Album_firstOfBestRow.2.1 51 = .ok (.iload_n 3, 1) by decide +kernel) 2 rfl ?_
                refine V_ald_int 53 rfl (show decode M_Album_firstOfBestRow.2.1 52 = .ok (.iaload, 1) by decide +kernel) ?_
                refine V_aload_n 54 rfl (show decode M_Album_firstOfBestRow.2.1 53 = .ok (.aload_n 0, 1) by decide +kernel) 0 rfl ?_
                refine V_get (j := 4) (v := vR (SR σ h0 4)) 57 rfl ck_Album (by decide) (by decide) (show decode M_Album_firstOfBestRow.2.1 54 = .ok (.getfield 21, 3) by decide +kernel) wd_398 rfl ?_
                refine V_iload_n 58 rfl (show decode M_Album_firstOfBestRow.2.1 57 = .ok (.iload_n 2, 1) by decide +kernel) 1 rfl ?_
                refine V_ald_int 59 rfl (show decode M_Album_firstOfBestRow.2.1 58 = .ok (.iaload, 1) by decide +kernel) ?_
                refine V_icmpgt 62 90 rfl (show decode M_Album_firstOfBestRow.2.1 59 = .ok (.if_icmp .gt 31, 3) by decide +kernel) rfl ?_ ?_
                · skip
                  exact V_sub [0, 2] rfl (hJ90 (((((b && cK σ h0 1) && cK σ h0 1) && cA σ (SR σ h0 4) 21 x3) && cK σ h0 1) && cA σ (SR σ h0 4) 21 x2) σ)
                · skip
                  refine V_aload_n 63 rfl (show decode M_Album_firstOfBestRow.2.1 62 = .ok (.aload_n 0, 1) by decide +kernel) 0 rfl ?_
                  refine V_get (j := 4) (v := vR (SR σ h0 4)) 66 rfl ck_Album (by decide) (by decide) (show decode M_Album_firstOfBestRow.2.1 63 = .ok (.getfield 21, 3) by decide +kernel) wd_398 rfl ?_
                  refine V_iload_n 67 rfl (show decode M_Album_firstOfBestRow.2.1 66 = .ok (.iload_n 3, 1) by decide +kernel) 2 rfl ?_
                  refine V_ald_int 68 rfl (show decode M_Album_firstOfBestRow.2.1 67 = .ok (.iaload, 1) by decide +kernel) ?_
                  refine V_aload_n 69 rfl (show decode M_Album_firstOfBestRow.2.1 68 = .ok (.aload_n 0, 1) by decide +kernel) 0 rfl ?_
                  refine V_get (j := 4) (v := vR (SR σ h0 4)) 72 rfl ck_Album (by decide) (by decide) (show decode M_Album_firstOfBestRow.2.1 69 = .ok (.getfield 21, 3) by decide +kernel) wd_398 rfl ?_
                  refine V_iload_n 73 rfl (show decode M_Album_firstOfBestRow.2.1 72 = .ok (.iload_n 2, 1) by decide +kernel) 1 rfl ?_
                  refine V_ald_int 74 rfl (show decode M_Album_firstOfBestRow.2.1 73 = .ok (.iaload, 1) by decide +kernel) ?_
                  refine V_icmpne 77 92 rfl (show decode M_Album_firstOfBestRow.2.1 74 = .ok (.if_icmp .ne 18, 3) by decide +kernel) rfl ?_ ?_
                  · skip
                    refine V_aload_n 78 rfl (show decode M_Album_firstOfBestRow.2.1 77 = .ok (.aload_n 0, 1) by decide +kernel) 0 rfl ?_
                    refine V_iload_n 79 rfl (show decode M_Album_firstOfBestRow.2.1 78 = .ok (.iload_n 3, 1) by decide +kernel) 2 rfl ?_
                    refine V_callV (tb := tI) (as := [vI x3]) (rest := []) (na := 1) 82 rfl ck_Album (by decide) (s_Album_rowMiles h0 x3 ((((((((((b && cK σ h0 1) && cK σ h0 1) && cA σ (SR σ h0 4) 21 x3) && cK σ h0 1) && cA σ (SR σ h0 4) 21 x2) && cK σ h0 1) && cA σ (SR σ h0 4) 21 x3) && cK σ h0 1) && cA σ (SR σ h0 4) 21 x2) && cK σ h0 1) σ) rfl rfl (Nat.le_of_ble_eq_true rfl) (cal_Album_rowMiles _ _ _ _ _ (by decide) (by decide) (by decide)) (show decode M_Album_firstOfBestRow.2.1 79 = .ok (.invokevirtual 47, 3) by decide +kernel) wd_1409 wd_1411 wd_101 (fun r_9 b_9 σ_9 => ?_)
                    show V M_Album_firstOfBestRow 4 0 0 0 0 tI _ 82 [(0, vR h0), (2, vI x2), (3, vI x3)] [vI r_9] b_9 σ_9
                    refine V_aload_n 83 rfl (show decode M_Album_firstOfBestRow.2.1 82 = .ok (.aload_n 0, 1) by decide +kernel) 0 rfl ?_
                    refine V_iload_n 84 rfl (show decode M_Album_firstOfBestRow.2.1 83 = .ok (.iload_n 2, 1) by decide +kernel) 1 rfl ?_
                    refine V_callV (tb := tI) (as := [vI x2]) (rest := [vI r_9]) (na := 1) 87 rfl ck_Album (by decide) (s_Album_rowMiles h0 x2 (b_9 && cK σ_9 h0 1) σ_9) rfl rfl (Nat.le_of_ble_eq_true rfl) (cal_Album_rowMiles _ _ _ _ _ (by decide) (by decide) (by decide)) (show decode M_Album_firstOfBestRow.2.1 84 = .ok (.invokevirtual 47, 3) by decide +kernel) wd_1409 wd_1411 wd_101 (fun r_10 b_10 σ_10 => ?_)
                    show V M_Album_firstOfBestRow 4 0 0 0 0 tI _ 87 [(0, vR h0), (2, vI x2), (3, vI x3)] [vI r_10, vI r_9] b_10 σ_10
                    refine V_icmple 90 92 rfl (show decode M_Album_firstOfBestRow.2.1 87 = .ok (.if_icmp .le 5, 3) by decide +kernel) rfl ?_ ?_
                    · skip
                      exact V_sub [0, 2] rfl (hJ90 b_10 σ_10)
                    · skip
                      exact V_sub [0, 1, 2] rfl (hJ92 x2 b_10 σ_10)
                  · skip
                    exact V_sub [0, 1, 2] rfl (hJ92 x2 (((((((((b && cK σ h0 1) && cK σ h0 1) && cA σ (SR σ h0 4) 21 x3) && cK σ h0 1) && cA σ (SR σ h0 4) 21 x2) && cK σ h0 1) && cA σ (SR σ h0 4) 21 x3) && cK σ h0 1) && cA σ (SR σ h0 4) 21 x2) σ)
        · skip
          refine V_iload_n 99 rfl (show decode M_Album_firstOfBestRow.2.1 98 = .ok (.iload_n 2, 1) by decide +kernel) 1 rfl ?_
          exact V_iret rfl (by decide) (by decide) (show decode M_Album_firstOfBestRow.2.1 99 = .ok (.ireturn, 1) by decide +kernel)
theorem cal_Album_firstOfBestRow (d mc ms k n : Nat) (h1 : 4 + 1 ≤ d) (h2 : k + 0 ≤ mc) (h3 : n + 0 ≤ ms) : Cal M_Album_firstOfBestRow 4 0 0 1 d mc ms k n := ⟨wd_1391, wd_177, by decide, h1, by decide, h2, h3⟩
abbrev M_Album_pictureOfRow : MD := (⟨"LongTrail$Album", "pictureOfRow", "(II)I"⟩, prog_2_method_11_code, 5, (some FieldType.int))
def b_Album_pictureOfRow_26 (h0 : Nat) (x2 : Int32) (L26 : Int32 → Int32 → Bool → Sto → Rs Int32) (x3 : Int32) (x4 : Int32) (b : Bool) (σ : Sto) : Rs Int32 := (lt_ (fun (b : Bool) (σ : Sto) => (x3, b, σ)) (fun J54 => (if x4 < x2 then (if (SI σ (SR σ h0 6) (ix x3)) < 0 then (J54 ((b && cK σ h0 1) && cA σ (SR σ h0 6) 21 x3) σ) else (lt_ (SI σ (SR σ h0 6) (ix x3)) (fun (x3_3 : Int32) => (lt_ (x4 + (1 : Int32)) (fun (x4_4 : Int32) => (L26 x3_3 x4_4 ((((b && cK σ h0 1) && cA σ (SR σ h0 6) 21 x3) && cK σ h0 1) && cA σ (SR σ h0 6) 21 x3) σ)))))) else (J54 b σ))))
def f_Album_pictureOfRow (h0 : Nat) (x1 : Int32) (x2 : Int32) (b : Bool) (σ : Sto) : Rs Int32 := (lt_ (fun (b : Bool) (σ : Sto) => ((-1000000005 : Int32), b, σ)) (fun J18 => (if x1 < 0 then (J18 b σ) else (if x2 < 0 then (J18 b σ) else (if x2 < (SI σ (SR σ h0 4) (ix x1)) then (lt_ x1 (fun (x3_1 : Int32) => (lt_ (0 : Int32) (fun (x4_2 : Int32) => (lp_ (b_Album_pictureOfRow_26 h0 x2) (fun (x3 : Int32) (x4 : Int32) (b : Bool) (σ : Sto) => (0, false, σ)) fuel_ x3_1 x4_2 ((b && cK σ h0 1) && cA σ (SR σ h0 4) 21 x1) σ))))) else (J18 ((b && cK σ h0 1) && cA σ (SR σ h0 4) 21 x1) σ))))))
set_option maxRecDepth 100000 in
set_option maxHeartbeats 4000000 in
theorem s_Album_pictureOfRow : ∀ (h0 : Nat) (x1 : Int32) (x2 : Int32) (b : Bool) (σ : Sto), Snd M_Album_pictureOfRow 1 0 0 [vR h0, vI x1, vI x2] b σ (tI (f_Album_pictureOfRow h0 x1 x2 b σ).1) (f_Album_pictureOfRow h0 x1 x2 b σ).2.1 (f_Album_pictureOfRow h0 x1 x2 b σ).2.2 := by
  intro h0 x1 x2 b σ
  refine Snd_of (tv := tI) (by decide) (Nat.le_of_ble_eq_true rfl) ?_
  show V M_Album_pictureOfRow 1 0 0 0 0 tI (f_Album_pictureOfRow h0 x1 x2 b σ) 0 [(0, vR h0), (1, vI x1), (2, vI x2)] [] b σ
  unfold f_Album_pictureOfRow
  refine V_iload_n 1 rfl (show decode M_Album_pictureOfRow.2.1 0 = .ok (.iload_n 1, 1) by decide +kernel) 1 rfl ?_
  refine V_jn (fun (J18 : Bool → Sto → Rs Int32) => ∀ (b : Bool) (σ : Sto), V M_Album_pictureOfRow 1 0 0 0 0 tI (J18 b σ) 18 [] [] b σ) ?_ (fun J18 hJ18 => ?_)
  · intro b σ
    refine V_ldc 20 rfl (show decode M_Album_pictureOfRow.2.1 18 = .ok (.ldc 62, 2) by decide +kernel) wd_1418 ?_
    exact V_iret rfl (by decide) (by decide) (show decode M_Album_pictureOfRow.2.1 20 = .ok (.ireturn, 1) by decide +kernel)
  · skip
    refine V_iflt 4 18 rfl (show decode M_Album_pictureOfRow.2.1 1 = .ok (.ifCond .lt 17, 3) by decide +kernel) rfl ?_ ?_
    · skip
      exact V_sub [] rfl (hJ18 b σ)
    · skip
      refine V_iload_n 5 rfl (show decode M_Album_pictureOfRow.2.1 4 = .ok (.iload_n 2, 1) by decide +kernel) 2 rfl ?_
      refine V_iflt 8 18 rfl (show decode M_Album_pictureOfRow.2.1 5 = .ok (.ifCond .lt 13, 3) by decide +kernel) rfl ?_ ?_
      · skip
        exact V_sub [] rfl (hJ18 b σ)
      · skip
        refine V_iload_n 9 rfl (show decode M_Album_pictureOfRow.2.1 8 = .ok (.iload_n 2, 1) by decide +kernel) 2 rfl ?_
        refine V_aload_n 10 rfl (show decode M_Album_pictureOfRow.2.1 9 = .ok (.aload_n 0, 1) by decide +kernel) 0 rfl ?_
        refine V_get (j := 4) (v := vR (SR σ h0 4)) 13 rfl ck_Album (by decide) (by decide) (show decode M_Album_pictureOfRow.2.1 10 = .ok (.getfield 21, 3) by decide +kernel) wd_398 rfl ?_
        refine V_iload_n 14 rfl (show decode M_Album_pictureOfRow.2.1 13 = .ok (.iload_n 1, 1) by decide +kernel) 1 rfl ?_
        refine V_ald_int 15 rfl (show decode M_Album_pictureOfRow.2.1 14 = .ok (.iaload, 1) by decide +kernel) ?_
        refine V_icmplt 18 21 rfl (show decode M_Album_pictureOfRow.2.1 15 = .ok (.if_icmp .lt 6, 3) by decide +kernel) rfl ?_ ?_
        · skip
          refine V_iload_n 22 rfl (show decode M_Album_pictureOfRow.2.1 21 = .ok (.iload_n 1, 1) by decide +kernel) 1 rfl ?_
          refine V_istore_n (fun x3_1 => [(3, vI x3_1), (0, vR h0), (1, vI x1), (2, vI x2)]) 23 rfl (show decode M_Album_pictureOfRow.2.1 22 = .ok (.istore_n 3, 1) by decide +kernel) (by decide) (fun _ => rfl) (fun x3_1 => ?_)
          refine V_iconst 24 rfl (show decode M_Album_pictureOfRow.2.1 23 = .ok (.iconst 0, 1) by decide +kernel) (v := 0) rfl ?_
          refine V_istore (fun x4_2 => [(4, vI x4_2), (3, vI x3_1), (0, vR h0), (1, vI x1), (2, vI x2)]) 26 rfl (show decode M_Album_pictureOfRow.2.1 24 = .ok (.istore 4, 2) by decide +kernel) (by decide) (fun _ => rfl) (fun x4_2 => ?_)
          refine V_sub [2, 4, 1, 0] rfl ?_
          refine lp_P (fun (L26 : Int32 → Int32 → Bool → Sto → Rs Int32) => ∀ (x3 : Int32) (x4 : Int32) (b : Bool) (σ : Sto), V M_Album_pictureOfRow 1 0 0 0 0 tI (L26 x3 x4 b σ) 26 [(0, vR h0), (2, vI x2), (3, vI x3), (4, vI x4)] [] b σ) ?_ ?_ fuel_ x3_1 x4_2 ((b && cK σ h0 1) && cA σ (SR σ h0 4) 21 x1) σ
          · intro x3 x4 b σ; exact V_bad
          · intro L26 hL26 x3 x4 b σ
            unfold b_Album_pictureOfRow_26
            refine V_iload 28 rfl (show decode M_Album_pictureOfRow.2.1 26 = .ok (.iload 4, 2) by decide +kernel) 3 rfl ?_
            refine V_iload_n 29 rfl (show decode M_Album_pictureOfRow.2.1 28 = .ok (.iload_n 2, 1) by decide +kernel) 1 rfl ?_
            refine V_jn (fun (J54 : Bool → Sto → Rs Int32) => ∀ (b : Bool) (σ : Sto), V M_Album_pictureOfRow 1 0 0 0 0 tI (J54 b σ) 54 [(3, vI x3)] [] b σ) ?_ (fun J54 hJ54 => ?_)
            · intro b σ
              refine V_iload_n 55 rfl (show decode M_Album_pictureOfRow.2.1 54 = .ok (.iload_n 3, 1) by decide +kernel) 0 rfl ?_
              exact V_iret rfl (by decide) (by decide) (show decode M_Album_pictureOfRow.2.1 55 = .ok (.ireturn, 1) by decide +kernel)
            · skip
              refine V_icmpge 32 54 rfl (show decode M_Album_pictureOfRow.2.1 29 = .ok (.if_icmp .ge 25, 3) by decide +kernel) rfl ?_ ?_
              · skip
                refine V_aload_n 33 rfl (show decode M_Album_pictureOfRow.2.1 32 = .ok (.aload_n 0, 1) by decide +kernel) 0 rfl ?_
                refine V_get (j := 6) (v := vR (SR σ h0 6)) 36 rfl ck_Album (by decide) (by decide) (show decode M_Album_pictureOfRow.2.1 33 = .ok (.getfield 27, 3) by decide +kernel) wd_401 rfl ?_
                refine V_iload_n 37 rfl (show decode M_Album_pictureOfRow.2.1 36 = .ok (.iload_n 3, 1) by decide +kernel) 2 rfl ?_
                refine V_ald_int 38 rfl (show decode M_Album_pictureOfRow.2.1 37 = .ok (.iaload, 1) by decide +kernel) ?_
                refine V_iflt 41 54 rfl (show decode M_Album_pictureOfRow.2.1 38 = .ok (.ifCond .lt 16, 3) by decide +kernel) rfl ?_ ?_
                · skip
                  exact V_sub [2] rfl (hJ54 ((b && cK σ h0 1) && cA σ (SR σ h0 6) 21 x3) σ)
                · skip
                  refine V_aload_n 42 rfl (show decode M_Album_pictureOfRow.2.1 41 = .ok (.aload_n 0, 1) by decide +kernel) 0 rfl ?_
                  refine V_get (j := 6) (v := vR (SR σ h0 6)) 45 rfl ck_Album (by decide) (by decide) (show decode M_Album_pictureOfRow.2.1 42 = .ok (.getfield 27, 3) by decide +kernel) wd_401 rfl ?_
                  refine V_iload_n 46 rfl (show decode M_Album_pictureOfRow.2.1 45 = .ok (.iload_n 3, 1) by decide +kernel) 2 rfl ?_
                  refine V_ald_int 47 rfl (show decode M_Album_pictureOfRow.2.1 46 = .ok (.iaload, 1) by decide +kernel) ?_
                  refine V_istore_n (fun x3_3 => [(3, vI x3_3), (0, vR h0), (2, vI x2), (4, vI x4)]) 48 rfl (show decode M_Album_pictureOfRow.2.1 47 = .ok (.istore_n 3, 1) by decide +kernel) (by decide) (fun _ => rfl) (fun x3_3 => ?_)
                  refine V_iinc (fun x4_4 => [(4, vI x4_4), (3, vI x3_3), (0, vR h0), (2, vI x2)]) 51 rfl (show decode M_Album_pictureOfRow.2.1 48 = .ok (.iinc 4 1, 3) by decide +kernel) 3 rfl (w := 1) rfl (by decide) (fun _ => rfl) (fun x4_4 => ?_)
                  refine V_goto 26 (show decode M_Album_pictureOfRow.2.1 51 = .ok (.goto (-25), 3) by decide +kernel) rfl ?_
                  exact V_sub [2, 3, 1, 0] rfl (hL26 x3_3 x4_4 ((((b && cK σ h0 1) && cA σ (SR σ h0 6) 21 x3) && cK σ h0 1) && cA σ (SR σ h0 6) 21 x3) σ)
              · skip
                exact V_sub [2] rfl (hJ54 b σ)
        · skip
          exact V_sub [] rfl (hJ18 ((b && cK σ h0 1) && cA σ (SR σ h0 4) 21 x1) σ)
theorem cal_Album_pictureOfRow (d mc ms k n : Nat) (h1 : 1 + 1 ≤ d) (h2 : k + 0 ≤ mc) (h3 : n + 0 ≤ ms) : Cal M_Album_pictureOfRow 1 0 0 2 d mc ms k n := ⟨wd_1417, wd_177, by decide, h1, by decide, h2, h3⟩
abbrev M_Trail_proved : MD := (⟨"LongTrail", "proved", "(II)I"⟩, prog_1_method_37_code, 4, (some FieldType.int))
def f_Trail_proved (h0 : Nat) (x1 : Int32) (x2 : Int32) (b : Bool) (σ : Sto) : Rs Int32 := (bd_ (f_Trail_within x1 (1 : Int32) (99 : Int32) b σ) (fun (r_1 : Int32) (b_1 : Bool) (σ_1 : Sto) => (lt_ (fun (b : Bool) (σ : Sto) => ((-1000000001 : Int32), b, σ)) (fun J14 => (if r_1 = 0 then (J14 b_1 σ_1) else (if x2 < 0 then (J14 b_1 σ_1) else (bd_ (f_Album_firstOfBestRow (SR σ_1 (SR σ_1 h0 0) 5) x1 (((b_1 && cK σ_1 h0 12) && cK σ_1 (SR σ_1 h0 0) 11) && cK σ_1 (SR σ_1 (SR σ_1 h0 0) 5) 1) σ_1) (fun (r_2 : Int32) (b_2 : Bool) (σ_2 : Sto) => (lt_ r_2 (fun (x3_3 : Int32) => (if x2 = (0 : Int32) then (if x3_3 < 0 then ((0 : Int32), b_2, σ_2) else ((SI σ_2 (SR σ_2 (SR σ_2 (SR σ_2 h0 0) 5) 4) (ix x3_3)), ((((b_2 && cK σ_2 h0 12) && cK σ_2 (SR σ_2 h0 0) 11) && cK σ_2 (SR σ_2 (SR σ_2 h0 0) 5) 1) && cA σ_2 (SR σ_2 (SR σ_2 (SR σ_2 h0 0) 5) 4) 21 x3_3), σ_2)) else (if x2 = (1 : Int32) then (if x3_3 < 0 then ((0 : Int32), b_2, σ_2) else (bd_ (f_Album_rowMiles (SR σ_2 (SR σ_2 h0 0) 5) x3_3 (((b_2 && cK σ_2 h0 12) && cK σ_2 (SR σ_2 h0 0) 11) && cK σ_2 (SR σ_2 (SR σ_2 h0 0) 5) 1) σ_2) (fun (r_4 : Int32) (b_4 : Bool) (σ_4 : Sto) => (r_4, b_4, σ_4)))) else (bd_ (f_Album_pictureOfRow (SR σ_2 (SR σ_2 h0 0) 5) x3_3 (x2 - (2 : Int32)) (((b_2 && cK σ_2 h0 12) && cK σ_2 (SR σ_2 h0 0) 11) && cK σ_2 (SR σ_2 (SR σ_2 h0 0) 5) 1) σ_2) (fun (r_5 : Int32) (b_5 : Bool) (σ_5 : Sto) => (r_5, b_5, σ_5)))))))))))))))
set_option maxRecDepth 100000 in
set_option maxHeartbeats 4000000 in
theorem s_Trail_proved : ∀ (h0 : Nat) (x1 : Int32) (x2 : Int32) (b : Bool) (σ : Sto), Snd M_Trail_proved 5 0 0 [vR h0, vI x1, vI x2] b σ (tI (f_Trail_proved h0 x1 x2 b σ).1) (f_Trail_proved h0 x1 x2 b σ).2.1 (f_Trail_proved h0 x1 x2 b σ).2.2 := by
  intro h0 x1 x2 b σ
  refine Snd_of (tv := tI) (by decide) (Nat.le_of_ble_eq_true rfl) ?_
  show V M_Trail_proved 5 0 0 0 0 tI (f_Trail_proved h0 x1 x2 b σ) 0 [(0, vR h0), (1, vI x1), (2, vI x2)] [] b σ
  unfold f_Trail_proved
  refine V_iload_n 1 rfl (show decode M_Trail_proved.2.1 0 = .ok (.iload_n 1, 1) by decide +kernel) 1 rfl ?_
  refine V_iconst 2 rfl (show decode M_Trail_proved.2.1 1 = .ok (.iconst 1, 1) by decide +kernel) (v := 1) rfl ?_
  refine V_bipush 4 rfl (show decode M_Trail_proved.2.1 2 = .ok (.bipush 99, 2) by decide +kernel) (v := 99) rfl ?_
  refine V_callS (tb := tI) (as := [vI x1, vI (1 : Int32), vI (99 : Int32)]) (rest := []) (na := 3) 7 rfl (s_Trail_within x1 (1 : Int32) (99 : Int32) b σ) rfl rfl (Nat.le_of_ble_eq_true rfl) (cal_Trail_within _ _ _ _ _ (by decide) (by decide) (by decide)) (show decode M_Trail_proved.2.1 4 = .ok (.invokestatic 40, 3) by decide +kernel) wd_628 wd_629 (fun r_1 b_1 σ_1 => ?_)
  show V M_Trail_proved 5 0 0 0 0 tI _ 7 [(0, vR h0), (1, vI x1), (2, vI x2)] [vI r_1] b_1 σ_1
  refine V_jn (fun (J14 : Bool → Sto → Rs Int32) => ∀ (b : Bool) (σ : Sto), V M_Trail_proved 5 0 0 0 0 tI (J14 b σ) 14 [] [] b σ) ?_ (fun J14 hJ14 => ?_)
  · intro b σ
    refine V_ldc 16 rfl (show decode M_Trail_proved.2.1 14 = .ok (.ldc 44, 2) by decide +kernel) wd_631 ?_
    exact V_iret rfl (by decide) (by decide) (show decode M_Trail_proved.2.1 16 = .ok (.ireturn, 1) by decide +kernel)
  · skip
    refine V_ifeq 10 14 rfl (show decode M_Trail_proved.2.1 7 = .ok (.ifCond .eq 7, 3) by decide +kernel) rfl ?_ ?_
    · skip
      exact V_sub [] rfl (hJ14 b_1 σ_1)
    · skip
      refine V_iload_n 11 rfl (show decode M_Trail_proved.2.1 10 = .ok (.iload_n 2, 1) by decide +kernel) 2 rfl ?_
      refine V_ifge 14 17 rfl (show decode M_Trail_proved.2.1 11 = .ok (.ifCond .ge 6, 3) by decide +kernel) rfl ?_ ?_
      · skip
        exact V_sub [] rfl (hJ14 b_1 σ_1)
      · skip
        refine V_aload_n 18 rfl (show decode M_Trail_proved.2.1 17 = .ok (.aload_n 0, 1) by decide +kernel) 0 rfl ?_
        refine V_get (j := 0) (v := vR (SR σ_1 h0 0)) 21 rfl ck_Trail (by decide) (by decide) (show decode M_Trail_proved.2.1 18 = .ok (.getfield 10, 3) by decide +kernel) wd_599 rfl ?_
        refine V_getN (j := 5) (v := vR (SR σ_1 (SR σ_1 h0 0) 5)) 24 rfl ck_World (by decide) (by decide) (show decode M_Trail_proved.2.1 21 = .ok (.getfield 59, 3) by decide +kernel) wd_508 rfl ?_
        refine V_iload_n 25 rfl (show decode M_Trail_proved.2.1 24 = .ok (.iload_n 1, 1) by decide +kernel) 1 rfl ?_
        refine V_callVN (tb := tI) (as := [vI x1]) (rest := []) (na := 1) 28 rfl ck_Album (by decide) (s_Album_firstOfBestRow (SR σ_1 (SR σ_1 h0 0) 5) x1 (((b_1 && cK σ_1 h0 12) && cK σ_1 (SR σ_1 h0 0) 11) && cK σ_1 (SR σ_1 (SR σ_1 h0 0) 5) 1) σ_1) rfl rfl (Nat.le_of_ble_eq_true rfl) (cal_Album_firstOfBestRow _ _ _ _ _ (by decide) (by decide) (by decide)) (show decode M_Trail_proved.2.1 25 = .ok (.invokevirtual 348, 3) by decide +kernel) wd_1388 wd_1390 wd_96 (fun r_2 b_2 σ_2 => ?_)
        show V M_Trail_proved 5 0 0 0 0 tI _ 28 [(0, vR h0), (1, vI x1), (2, vI x2)] [vI r_2] b_2 σ_2
        refine V_istore_n (fun x3_3 => [(3, vI x3_3), (0, vR h0), (1, vI x1), (2, vI x2)]) 29 rfl (show decode M_Trail_proved.2.1 28 = .ok (.istore_n 3, 1) by decide +kernel) (by decide) (fun _ => rfl) (fun x3_3 => ?_)
        refine V_iload_n 30 rfl (show decode M_Trail_proved.2.1 29 = .ok (.iload_n 2, 1) by decide +kernel) 3 rfl ?_
        refine V_ite (fun hs30_0 => ?_) (fun hs30_0 => ?_)
        · refine V_lsw (off := 26) 56 (show decode M_Trail_proved.2.1 30 = .ok (.lookupswitch 67 #[(0, 26), (1, 47)], 26) by decide +kernel) (by decide) (by rw [hs30_0]; decide) rfl ?_
          refine V_iload_n 57 rfl (show decode M_Trail_proved.2.1 56 = .ok (.iload_n 3, 1) by decide +kernel) 0 rfl ?_
          refine V_ifge 60 64 rfl (show decode M_Trail_proved.2.1 57 = .ok (.ifCond .ge 7, 3) by decide +kernel) rfl ?_ ?_
          · skip
            refine V_iconst 61 rfl (show decode M_Trail_proved.2.1 60 = .ok (.iconst 0, 1) by decide +kernel) (v := 0) rfl ?_
            refine V_goto 76 (show decode M_Trail_proved.2.1 61 = .ok (.goto 15, 3) by decide +kernel) rfl ?_
            exact V_iret rfl (by decide) (by decide) (show decode M_Trail_proved.2.1 76 = .ok (.ireturn, 1) by decide +kernel)
          · skip
            refine V_aload_n 65 rfl (show decode M_Trail_proved.2.1 64 = .ok (.aload_n 0, 1) by decide +kernel) 1 rfl ?_
            refine V_get (j := 0) (v := vR (SR σ_2 h0 0)) 68 rfl ck_Trail (by decide) (by decide) (show decode M_Trail_proved.2.1 65 = .ok (.getfield 10, 3) by decide +kernel) wd_599 rfl ?_
            refine V_getN (j := 5) (v := vR (SR σ_2 (SR σ_2 h0 0) 5)) 71 rfl ck_World (by decide) (by decide) (show decode M_Trail_proved.2.1 68 = .ok (.getfield 59, 3) by decide +kernel) wd_508 rfl ?_
            refine V_getN (j := 4) (v := vR (SR σ_2 (SR σ_2 (SR σ_2 h0 0) 5) 4)) 74 rfl ck_Album (by decide) (by decide) (show decode M_Trail_proved.2.1 71 = .ok (.getfield 351, 3) by decide +kernel) wd_399 rfl ?_
            refine V_iload_n 75 rfl (show decode M_Trail_proved.2.1 74 = .ok (.iload_n 3, 1) by decide +kernel) 0 rfl ?_
            refine V_ald_int 76 rfl (show decode M_Trail_proved.2.1 75 = .ok (.iaload, 1) by decide +kernel) ?_
            exact V_iret rfl (by decide) (by decide) (show decode M_Trail_proved.2.1 76 = .ok (.ireturn, 1) by decide +kernel)
        refine V_ite (fun hs30_1 => ?_) (fun hs30_1 => ?_)
        · refine V_lsw (off := 47) 77 (show decode M_Trail_proved.2.1 30 = .ok (.lookupswitch 67 #[(0, 26), (1, 47)], 26) by decide +kernel) (by decide) (by rw [hs30_1]; decide) rfl ?_
          refine V_iload_n 78 rfl (show decode M_Trail_proved.2.1 77 = .ok (.iload_n 3, 1) by decide +kernel) 0 rfl ?_
          refine V_ifge 81 85 rfl (show decode M_Trail_proved.2.1 78 = .ok (.ifCond .ge 7, 3) by decide +kernel) rfl ?_ ?_
          · skip
            refine V_iconst 82 rfl (show decode M_Trail_proved.2.1 81 = .ok (.iconst 0, 1) by decide +kernel) (v := 0) rfl ?_
            refine V_goto 96 (show decode M_Trail_proved.2.1 82 = .ok (.goto 14, 3) by decide +kernel) rfl ?_
            exact V_iret rfl (by decide) (by decide) (show decode M_Trail_proved.2.1 96 = .ok (.ireturn, 1) by decide +kernel)
          · skip
            refine V_aload_n 86 rfl (show decode M_Trail_proved.2.1 85 = .ok (.aload_n 0, 1) by decide +kernel) 1 rfl ?_
            refine V_get (j := 0) (v := vR (SR σ_2 h0 0)) 89 rfl ck_Trail (by decide) (by decide) (show decode M_Trail_proved.2.1 86 = .ok (.getfield 10, 3) by decide +kernel) wd_599 rfl ?_
            refine V_getN (j := 5) (v := vR (SR σ_2 (SR σ_2 h0 0) 5)) 92 rfl ck_World (by decide) (by decide) (show decode M_Trail_proved.2.1 89 = .ok (.getfield 59, 3) by decide +kernel) wd_508 rfl ?_
            refine V_iload_n 93 rfl (show decode M_Trail_proved.2.1 92 = .ok (.iload_n 3, 1) by decide +kernel) 0 rfl ?_
            refine V_callVN (tb := tI) (as := [vI x3_3]) (rest := []) (na := 1) 96 rfl ck_Album (by decide) (s_Album_rowMiles (SR σ_2 (SR σ_2 h0 0) 5) x3_3 (((b_2 && cK σ_2 h0 12) && cK σ_2 (SR σ_2 h0 0) 11) && cK σ_2 (SR σ_2 (SR σ_2 h0 0) 5) 1) σ_2) rfl rfl (Nat.le_of_ble_eq_true rfl) (cal_Album_rowMiles _ _ _ _ _ (by decide) (by decide) (by decide)) (show decode M_Trail_proved.2.1 93 = .ok (.invokevirtual 354, 3) by decide +kernel) wd_1413 wd_1411 wd_101 (fun r_4 b_4 σ_4 => ?_)
            show V M_Trail_proved 5 0 0 0 0 tI _ 96 [(3, vI x3_3), (0, vR h0), (1, vI x1), (2, vI x2)] [vI r_4] b_4 σ_4
            exact V_iret rfl (by decide) (by decide) (show decode M_Trail_proved.2.1 96 = .ok (.ireturn, 1) by decide +kernel)
        · refine V_lsw (off := 67) 97 (show decode M_Trail_proved.2.1 30 = .ok (.lookupswitch 67 #[(0, 26), (1, 47)], 26) by decide +kernel) (by decide) ((lv_osw hs30_0 rfl).trans ((lv_osw hs30_1 rfl).trans (rfl))) rfl ?_
          refine V_aload_n 98 rfl (show decode M_Trail_proved.2.1 97 = .ok (.aload_n 0, 1) by decide +kernel) 1 rfl ?_
          refine V_get (j := 0) (v := vR (SR σ_2 h0 0)) 101 rfl ck_Trail (by decide) (by decide) (show decode M_Trail_proved.2.1 98 = .ok (.getfield 10, 3) by decide +kernel) wd_599 rfl ?_
          refine V_getN (j := 5) (v := vR (SR σ_2 (SR σ_2 h0 0) 5)) 104 rfl ck_World (by decide) (by decide) (show decode M_Trail_proved.2.1 101 = .ok (.getfield 59, 3) by decide +kernel) wd_508 rfl ?_
          refine V_iload_n 105 rfl (show decode M_Trail_proved.2.1 104 = .ok (.iload_n 3, 1) by decide +kernel) 0 rfl ?_
          refine V_iload_n 106 rfl (show decode M_Trail_proved.2.1 105 = .ok (.iload_n 2, 1) by decide +kernel) 3 rfl ?_
          refine V_iconst 107 rfl (show decode M_Trail_proved.2.1 106 = .ok (.iconst 2, 1) by decide +kernel) (v := 2) rfl ?_
          refine V_isub 108 rfl (show decode M_Trail_proved.2.1 107 = .ok (.isub, 1) by decide +kernel) ?_
          refine V_callVN (tb := tI) (as := [vI x3_3, vI (x2 - (2 : Int32))]) (rest := []) (na := 2) 111 rfl ck_Album (by decide) (s_Album_pictureOfRow (SR σ_2 (SR σ_2 h0 0) 5) x3_3 (x2 - (2 : Int32)) (((b_2 && cK σ_2 h0 12) && cK σ_2 (SR σ_2 h0 0) 11) && cK σ_2 (SR σ_2 (SR σ_2 h0 0) 5) 1) σ_2) rfl rfl (Nat.le_of_ble_eq_true rfl) (cal_Album_pictureOfRow _ _ _ _ _ (by decide) (by decide) (by decide)) (show decode M_Trail_proved.2.1 108 = .ok (.invokevirtual 357, 3) by decide +kernel) wd_1414 wd_1416 wd_102 (fun r_5 b_5 σ_5 => ?_)
          show V M_Trail_proved 5 0 0 0 0 tI _ 111 [(3, vI x3_3), (0, vR h0), (1, vI x1), (2, vI x2)] [vI r_5] b_5 σ_5
          exact V_iret rfl (by decide) (by decide) (show decode M_Trail_proved.2.1 111 = .ok (.ireturn, 1) by decide +kernel)
theorem cal_Trail_proved (d mc ms k n : Nat) (h1 : 5 + 1 ≤ d) (h2 : k + 0 ≤ mc) (h3 : n + 0 ≤ ms) : Cal M_Trail_proved 5 0 0 2 d mc ms k n := ⟨wd_1387, wd_170, by decide, h1, by decide, h2, h3⟩
abbrev M_Trail_quota : MD := (⟨"LongTrail", "quota", "(II)I"⟩, prog_1_method_27_code, 4, (some FieldType.int))
def f_Trail_quota (h0 : Nat) (x1 : Int32) (x2 : Int32) (b : Bool) (σ : Sto) : Rs Int32 := (bd_ (f_Trail_within x1 (0 : Int32) (6 : Int32) b σ) (fun (r_1 : Int32) (b_1 : Bool) (σ_1 : Sto) => (lt_ (fun (b : Bool) (σ : Sto) => ((-1000000001 : Int32), b, σ)) (fun J20 => (if r_1 = 0 then (J20 b_1 σ_1) else (bd_ (f_Trail_within x2 (0 : Int32) (9 : Int32) b_1 σ_1) (fun (r_2 : Int32) (b_2 : Bool) (σ_2 : Sto) => (if r_2 = 0 then (J20 b_2 σ_2) else (lt_ (SI σ_2 (SR σ_2 (SR σ_2 (SR σ_2 h0 0) 3) 0) (ix x1)) (fun (x3_3 : Int32) => (lt_ (pI σ_2 (SR σ_2 (SR σ_2 (SR σ_2 h0 0) 3) 0) (ix x1) x2) (fun (σ_4 : Sto) => (x3_3, ((((((((b_2 && cK σ_2 h0 12) && cK σ_2 (SR σ_2 h0 0) 11) && cK σ_2 (SR σ_2 (SR σ_2 h0 0) 3) 4) && cA σ_2 (SR σ_2 (SR σ_2 (SR σ_2 h0 0) 3) 0) 21 x1) && cK σ_2 h0 12) && cK σ_2 (SR σ_2 h0 0) 11) && cK σ_2 (SR σ_2 (SR σ_2 h0 0) 3) 4) && cA σ_2 (SR σ_2 (SR σ_2 (SR σ_2 h0 0) 3) 0) 21 x1), σ_4)))))))))))))
set_option maxRecDepth 100000 in
set_option maxHeartbeats 4000000 in
theorem s_Trail_quota : ∀ (h0 : Nat) (x1 : Int32) (x2 : Int32) (b : Bool) (σ : Sto), Snd M_Trail_quota 2 0 0 [vR h0, vI x1, vI x2] b σ (tI (f_Trail_quota h0 x1 x2 b σ).1) (f_Trail_quota h0 x1 x2 b σ).2.1 (f_Trail_quota h0 x1 x2 b σ).2.2 := by
  intro h0 x1 x2 b σ
  refine Snd_of (tv := tI) (by decide) (Nat.le_of_ble_eq_true rfl) ?_
  show V M_Trail_quota 2 0 0 0 0 tI (f_Trail_quota h0 x1 x2 b σ) 0 [(0, vR h0), (1, vI x1), (2, vI x2)] [] b σ
  unfold f_Trail_quota
  refine V_iload_n 1 rfl (show decode M_Trail_quota.2.1 0 = .ok (.iload_n 1, 1) by decide +kernel) 1 rfl ?_
  refine V_iconst 2 rfl (show decode M_Trail_quota.2.1 1 = .ok (.iconst 0, 1) by decide +kernel) (v := 0) rfl ?_
  refine V_bipush 4 rfl (show decode M_Trail_quota.2.1 2 = .ok (.bipush 6, 2) by decide +kernel) (v := 6) rfl ?_
  refine V_callS (tb := tI) (as := [vI x1, vI (0 : Int32), vI (6 : Int32)]) (rest := []) (na := 3) 7 rfl (s_Trail_within x1 (0 : Int32) (6 : Int32) b σ) rfl rfl (Nat.le_of_ble_eq_true rfl) (cal_Trail_within _ _ _ _ _ (by decide) (by decide) (by decide)) (show decode M_Trail_quota.2.1 4 = .ok (.invokestatic 40, 3) by decide +kernel) wd_628 wd_629 (fun r_1 b_1 σ_1 => ?_)
  show V M_Trail_quota 2 0 0 0 0 tI _ 7 [(0, vR h0), (1, vI x1), (2, vI x2)] [vI r_1] b_1 σ_1
  refine V_jn (fun (J20 : Bool → Sto → Rs Int32) => ∀ (b : Bool) (σ : Sto), V M_Trail_quota 2 0 0 0 0 tI (J20 b σ) 20 [] [] b σ) ?_ (fun J20 hJ20 => ?_)
  · intro b σ
    refine V_ldc 22 rfl (show decode M_Trail_quota.2.1 20 = .ok (.ldc 44, 2) by decide +kernel) wd_631 ?_
    exact V_iret rfl (by decide) (by decide) (show decode M_Trail_quota.2.1 22 = .ok (.ireturn, 1) by decide +kernel)
  · skip
    refine V_ifeq 10 20 rfl (show decode M_Trail_quota.2.1 7 = .ok (.ifCond .eq 13, 3) by decide +kernel) rfl ?_ ?_
    · skip
      exact V_sub [] rfl (hJ20 b_1 σ_1)
    · skip
      refine V_iload_n 11 rfl (show decode M_Trail_quota.2.1 10 = .ok (.iload_n 2, 1) by decide +kernel) 2 rfl ?_
      refine V_iconst 12 rfl (show decode M_Trail_quota.2.1 11 = .ok (.iconst 0, 1) by decide +kernel) (v := 0) rfl ?_
      refine V_bipush 14 rfl (show decode M_Trail_quota.2.1 12 = .ok (.bipush 9, 2) by decide +kernel) (v := 9) rfl ?_
      refine V_callS (tb := tI) (as := [vI x2, vI (0 : Int32), vI (9 : Int32)]) (rest := []) (na := 3) 17 rfl (s_Trail_within x2 (0 : Int32) (9 : Int32) b_1 σ_1) rfl rfl (Nat.le_of_ble_eq_true rfl) (cal_Trail_within _ _ _ _ _ (by decide) (by decide) (by decide)) (show decode M_Trail_quota.2.1 14 = .ok (.invokestatic 40, 3) by decide +kernel) wd_628 wd_629 (fun r_2 b_2 σ_2 => ?_)
      show V M_Trail_quota 2 0 0 0 0 tI _ 17 [(0, vR h0), (1, vI x1), (2, vI x2)] [vI r_2] b_2 σ_2
      refine V_ifne 20 23 rfl (show decode M_Trail_quota.2.1 17 = .ok (.ifCond .ne 6, 3) by decide +kernel) rfl ?_ ?_
      · skip
        exact V_sub [] rfl (hJ20 b_2 σ_2)
      · skip
        refine V_aload_n 24 rfl (show decode M_Trail_quota.2.1 23 = .ok (.aload_n 0, 1) by decide +kernel) 0 rfl ?_
        refine V_get (j := 0) (v := vR (SR σ_2 h0 0)) 27 rfl ck_Trail (by decide) (by decide) (show decode M_Trail_quota.2.1 24 = .ok (.getfield 10, 3) by decide +kernel) wd_599 rfl ?_
        refine V_getN (j := 3) (v := vR (SR σ_2 (SR σ_2 h0 0) 3)) 30 rfl ck_World (by decide) (by decide) (show decode M_Trail_quota.2.1 27 = .ok (.getfield 271, 3) by decide +kernel) wd_504 rfl ?_
        refine V_getN (j := 0) (v := vR (SR σ_2 (SR σ_2 (SR σ_2 h0 0) 3) 0)) 33 rfl ck_Permits (by decide) (by decide) (show decode M_Trail_quota.2.1 30 = .ok (.getfield 275, 3) by decide +kernel) wd_329 rfl ?_
        refine V_iload_n 34 rfl (show decode M_Trail_quota.2.1 33 = .ok (.iload_n 1, 1) by decide +kernel) 1 rfl ?_
        refine V_ald_int 35 rfl (show decode M_Trail_quota.2.1 34 = .ok (.iaload, 1) by decide +kernel) ?_
        refine V_istore_n (fun x3_3 => [(3, vI x3_3), (0, vR h0), (1, vI x1), (2, vI x2)]) 36 rfl (show decode M_Trail_quota.2.1 35 = .ok (.istore_n 3, 1) by decide +kernel) (by decide) (fun _ => rfl) (fun x3_3 => ?_)
        refine V_aload_n 37 rfl (show decode M_Trail_quota.2.1 36 = .ok (.aload_n 0, 1) by decide +kernel) 1 rfl ?_
        refine V_get (j := 0) (v := vR (SR σ_2 h0 0)) 40 rfl ck_Trail (by decide) (by decide) (show decode M_Trail_quota.2.1 37 = .ok (.getfield 10, 3) by decide +kernel) wd_599 rfl ?_
        refine V_getN (j := 3) (v := vR (SR σ_2 (SR σ_2 h0 0) 3)) 43 rfl ck_World (by decide) (by decide) (show decode M_Trail_quota.2.1 40 = .ok (.getfield 271, 3) by decide +kernel) wd_504 rfl ?_
        refine V_getN (j := 0) (v := vR (SR σ_2 (SR σ_2 (SR σ_2 h0 0) 3) 0)) 46 rfl ck_Permits (by decide) (by decide) (show decode M_Trail_quota.2.1 43 = .ok (.getfield 275, 3) by decide +kernel) wd_329 rfl ?_
        refine V_iload_n 47 rfl (show decode M_Trail_quota.2.1 46 = .ok (.iload_n 1, 1) by decide +kernel) 2 rfl ?_
        refine V_iload_n 48 rfl (show decode M_Trail_quota.2.1 47 = .ok (.iload_n 2, 1) by decide +kernel) 3 rfl ?_
        refine V_ast_int 49 rfl (show decode M_Trail_quota.2.1 48 = .ok (.iastore, 1) by decide +kernel) (fun σ_4 => ?_)
        refine V_iload_n 50 rfl (show decode M_Trail_quota.2.1 49 = .ok (.iload_n 3, 1) by decide +kernel) 0 rfl ?_
        exact V_iret rfl (by decide) (by decide) (show decode M_Trail_quota.2.1 50 = .ok (.ireturn, 1) by decide +kernel)
theorem cal_Trail_quota (d mc ms k n : Nat) (h1 : 2 + 1 ≤ d) (h2 : k + 0 ≤ mc) (h3 : n + 0 ≤ ms) : Cal M_Trail_quota 2 0 0 2 d mc ms k n := ⟨wd_1258, wd_170, by decide, h1, by decide, h2, h3⟩
