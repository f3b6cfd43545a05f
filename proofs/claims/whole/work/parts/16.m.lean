/-! methods -/
abbrev M_Model_textAt : MD := (⟨"LongTrailModel", "textAt", "(I)I"⟩, prog_14_method_10_code, 2, (some FieldType.int))
def f_Model_textAt (h0 : Nat) (x1 : Int32) (b : Bool) (σ : Sto) : Rs Int32 := (((600 : Int32) + ((200 : Int32) * x1)), b, σ)
set_option maxRecDepth 100000 in
set_option maxHeartbeats 4000000 in
theorem s_Model_textAt : ∀ (h0 : Nat) (x1 : Int32) (b : Bool) (σ : Sto), Snd M_Model_textAt 1 0 0 [vR h0, vI x1] b σ (tI (f_Model_textAt h0 x1 b σ).1) (f_Model_textAt h0 x1 b σ).2.1 (f_Model_textAt h0 x1 b σ).2.2 := by
  intro h0 x1 b σ
  refine Snd_of (tv := tI) (by decide) (Nat.le_of_ble_eq_true rfl) ?_
  show V M_Model_textAt 1 0 0 0 0 tI (f_Model_textAt h0 x1 b σ) 0 [(0, vR h0), (1, vI x1)] [] b σ
  unfold f_Model_textAt
  refine V_sipush 3 rfl (show decode M_Model_textAt.2.1 0 = .ok (.sipush 600, 3) by decide +kernel) (v := 600) rfl ?_
  refine V_sipush 6 rfl (show decode M_Model_textAt.2.1 3 = .ok (.sipush 200, 3) by decide +kernel) (v := 200) rfl ?_
  refine V_iload_n 7 rfl (show decode M_Model_textAt.2.1 6 = .ok (.iload_n 1, 1) by decide +kernel) 1 rfl ?_
  refine V_imul 8 rfl (show decode M_Model_textAt.2.1 7 = .ok (.imul, 1) by decide +kernel) ?_
  refine V_iadd 9 rfl (show decode M_Model_textAt.2.1 8 = .ok (.iadd, 1) by decide +kernel) ?_
  exact V_iret rfl (by decide) (by decide) (show decode M_Model_textAt.2.1 9 = .ok (.ireturn, 1) by decide +kernel)
theorem cal_Model_textAt (d mc ms k n : Nat) (h1 : 1 + 1 ≤ d) (h2 : k + 0 ≤ mc) (h3 : n + 0 ≤ ms) : Cal M_Model_textAt 1 0 0 1 d mc ms k n := ⟨wd_1751, wd_181, by decide, h1, by decide, h2, h3⟩
abbrev M_Model_counts : MD := (⟨"LongTrailModel", "counts", "(II)I"⟩, prog_14_method_54_code, 7, (some FieldType.int))
def b_Model_counts_5 (h0 : Nat) (x1 : Int32) (x2 : Int32) (L5 : Int32 → Int32 → Bool → Sto → Rs Int32) (x3 : Int32) (x4 : Int32) (b : Bool) (σ : Sto) : Rs Int32 := (if x4 < (SI σ (SR σ h0 0) (ix (4 : Int32))) then (bd_ (f_Model_textAt h0 x4 (((b && cK σ h0 13) && cA σ (SR σ h0 0) 21 (4 : Int32)) && cK σ h0 13) σ) (fun (r_3 : Int32) (b_3 : Bool) (σ_3 : Sto) => (lt_ r_3 (fun (x5_4 : Int32) => (lt_ (fun (s0_73 : Int32) (b : Bool) (σ : Sto) => (lt_ s0_73 (fun (x6_5 : Int32) => (lt_ (fun (s0_114 : Int32) (b : Bool) (σ : Sto) => (lt_ s0_114 (fun (x3_6 : Int32) => (lt_ (x4 + (1 : Int32)) (fun (x4_7 : Int32) => (L5 x3_6 x4_7 b σ)))))) (fun J114 => (lt_ (fun (b : Bool) (σ : Sto) => (J114 x3 b σ)) (fun J113 => (if x6_5 = 0 then (J113 b σ) else (lt_ (fun (b : Bool) (σ : Sto) => (J114 x4 b σ)) (fun J108 => (if x3 < 0 then (J108 b σ) else (bd_ (f_Model_textAt h0 x3 ((((b && cK σ h0 13) && cA σ (SR σ h0 0) 21 (x5_4 + (2 : Int32))) && cK σ h0 13) && cK σ h0 13) σ) (fun (r_8 : Int32) (b_8 : Bool) (σ_8 : Sto) => (if (SI σ (SR σ h0 0) (ix (x5_4 + (2 : Int32)))) < (SI σ_8 (SR σ h0 0) (ix (r_8 + (2 : Int32)))) then (J113 (b_8 && cA σ_8 (SR σ h0 0) 21 (r_8 + (2 : Int32))) σ_8) else (J108 (b_8 && cA σ_8 (SR σ h0 0) 21 (r_8 + (2 : Int32))) σ_8))))))))))))))) (fun J73 => (lt_ (fun (b : Bool) (σ : Sto) => (J73 (0 : Int32) b σ)) (fun J72 => (if (SI σ_3 (SR σ_3 h0 0) (ix (x5_4 + (0 : Int32)))) = x2 then (if (SI σ_3 (SR σ_3 h0 0) (ix (x5_4 + (1 : Int32)))) = x1 then (if (SI σ_3 (SR σ_3 h0 0) (ix (0 : Int32))) < (SI σ_3 (SR σ_3 h0 0) (ix (x5_4 + (2 : Int32)))) then (J72 ((((((((b_3 && cK σ_3 h0 13) && cA σ_3 (SR σ_3 h0 0) 21 (x5_4 + (0 : Int32))) && cK σ_3 h0 13) && cA σ_3 (SR σ_3 h0 0) 21 (x5_4 + (1 : Int32))) && cK σ_3 h0 13) && cA σ_3 (SR σ_3 h0 0) 21 (x5_4 + (2 : Int32))) && cK σ_3 h0 13) && cA σ_3 (SR σ_3 h0 0) 21 (0 : Int32)) σ_3) else (J73 (1 : Int32) ((((((((b_3 && cK σ_3 h0 13) && cA σ_3 (SR σ_3 h0 0) 21 (x5_4 + (0 : Int32))) && cK σ_3 h0 13) && cA σ_3 (SR σ_3 h0 0) 21 (x5_4 + (1 : Int32))) && cK σ_3 h0 13) && cA σ_3 (SR σ_3 h0 0) 21 (x5_4 + (2 : Int32))) && cK σ_3 h0 13) && cA σ_3 (SR σ_3 h0 0) 21 (0 : Int32)) σ_3)) else (J72 ((((b_3 && cK σ_3 h0 13) && cA σ_3 (SR σ_3 h0 0) 21 (x5_4 + (0 : Int32))) && cK σ_3 h0 13) && cA σ_3 (SR σ_3 h0 0) 21 (x5_4 + (1 : Int32))) σ_3)) else (J72 ((b_3 && cK σ_3 h0 13) && cA σ_3 (SR σ_3 h0 0) 21 (x5_4 + (0 : Int32))) σ_3)))))))))) else (x3, ((b && cK σ h0 13) && cA σ (SR σ h0 0) 21 (4 : Int32)), σ))
def f_Model_counts (h0 : Nat) (x1 : Int32) (x2 : Int32) (b : Bool) (σ : Sto) : Rs Int32 := (lt_ (-1 : Int32) (fun (x3_1 : Int32) => (lt_ (0 : Int32) (fun (x4_2 : Int32) => (lp_ (b_Model_counts_5 h0 x1 x2) (fun (x3 : Int32) (x4 : Int32) (b : Bool) (σ : Sto) => (0, false, σ)) fuel_ x3_1 x4_2 b σ)))))
set_option maxRecDepth 100000 in
set_option maxHeartbeats 4000000 in
theorem s_Model_counts : ∀ (h0 : Nat) (x1 : Int32) (x2 : Int32) (b : Bool) (σ : Sto), Snd M_Model_counts 2 0 0 [vR h0, vI x1, vI x2] b σ (tI (f_Model_counts h0 x1 x2 b σ).1) (f_Model_counts h0 x1 x2 b σ).2.1 (f_Model_counts h0 x1 x2 b σ).2.2 := by
  intro h0 x1 x2 b σ
  refine Snd_of (tv := tI) (by decide) (Nat.le_of_ble_eq_true rfl) ?_
  show V M_Model_counts 2 0 0 0 0 tI (f_Model_counts h0 x1 x2 b σ) 0 [(0, vR h0), (1, vI x1), (2, vI x2)] [] b σ
  unfold f_Model_counts
  refine V_iconst 1 rfl (show decode M_Model_counts.2.1 0 = .ok (.iconst (-1), 1) by decide +kernel) (v := -1) rfl ?_
  refine V_istore_n (fun x3_1 => [(3, vI x3_1), (0, vR h0), (1, vI x1), (2, vI x2)]) 2 rfl (show decode M_Model_counts.2.1 1 = .ok (.istore_n 3, 1) by decide +kernel) (by decide) (fun _ => rfl) (fun x3_1 => ?_)
  refine V_iconst 3 rfl (show decode M_Model_counts.2.1 2 = .ok (.iconst 0, 1) by decide +kernel) (v := 0) rfl ?_
  refine V_istore (fun x4_2 => [(4, vI x4_2), (3, vI x3_1), (0, vR h0), (1, vI x1), (2, vI x2)]) 5 rfl (show decode M_Model_counts.2.1 3 = .ok (.istore 4, 2) by decide +kernel) (by decide) (fun _ => rfl) (fun x4_2 => ?_)
  refine V_sub [2, 3, 4, 1, 0] rfl ?_
  refine lp_P (fun (L5 : Int32 → Int32 → Bool → Sto → Rs Int32) => ∀ (x3 : Int32) (x4 : Int32) (b : Bool) (σ : Sto), V M_Model_counts 2 0 0 0 0 tI (L5 x3 x4 b σ) 5 [(0, vR h0), (1, vI x1), (2, vI x2), (3, vI x3), (4, vI x4)] [] b σ) ?_ ?_ fuel_ x3_1 x4_2 b σ
  · intro x3 x4 b σ; exact V_bad
  · intro L5 hL5 x3 x4 b σ
    unfold b_Model_counts_5
    refine V_iload 7 rfl (show decode M_Model_counts.2.1 5 = .ok (.iload 4, 2) by decide +kernel) 4 rfl ?_
    refine V_aload_n 8 rfl (show decode M_Model_counts.2.1 7 = .ok (.aload_n 0, 1) by decide +kernel) 0 rfl ?_
    refine V_get (j := 0) (v := vR (SR σ h0 0)) 11 rfl ck_Model (by decide) (by decide) (show decode M_Model_counts.2.1 8 = .ok (.getfield 7, 3) by decide +kernel) wd_1504 rfl ?_
    refine V_iconst 12 rfl (show decode M_Model_counts.2.1 11 = .ok (.iconst 4, 1) by decide +kernel) (v := 4) rfl ?_
    refine V_ald_int 13 rfl (show decode M_Model_counts.2.1 12 = .ok (.iaload, 1) by decide +kernel) ?_
    refine V_icmpge 16 121 rfl (show decode M_Model_counts.2.1 13 = .ok (.if_icmp .ge 108, 3) by decide +kernel) rfl ?_ ?_
    · skip
      refine V_aload_n 17 rfl (show decode M_Model_counts.2.1 16 = .ok (.aload_n 0, 1) by decide +kernel) 0 rfl ?_
      refine V_iload 19 rfl (show decode M_Model_counts.2.1 17 = .ok (.iload 4, 2) by decide +kernel) 4 rfl ?_
      refine V_callV (tb := tI) (as := [vI x4]) (rest := []) (na := 1) 22 rfl ck_Model (by decide) (s_Model_textAt h0 x4 (((b && cK σ h0 13) && cA σ (SR σ h0 0) 21 (4 : Int32)) && cK σ h0 13) σ) rfl rfl (Nat.le_of_ble_eq_true rfl) (cal_Model_textAt _ _ _ _ _ (by decide) (by decide) (by decide)) (show decode M_Model_counts.2.1 19 = .ok (.invokevirtual 236, 3) by decide +kernel) wd_1748 wd_1750 wd_127 (fun r_3 b_3 σ_3 => ?_)
      show V M_Model_counts 2 0 0 0 0 tI _ 22 [(0, vR h0), (1, vI x1), (2, vI x2), (3, vI x3), (4, vI x4)] [vI r_3] b_3 σ_3
      refine V_istore (fun x5_4 => [(5, vI x5_4), (0, vR h0), (1, vI x1), (2, vI x2), (3, vI x3), (4, vI x4)]) 24 rfl (show decode M_Model_counts.2.1 22 = .ok (.istore 5, 2) by decide +kernel) (by decide) (fun _ => rfl) (fun x5_4 => ?_)
      refine V_aload_n 25 rfl (show decode M_Model_counts.2.1 24 = .ok (.aload_n 0, 1) by decide +kernel) 1 rfl ?_
      refine V_get (j := 0) (v := vR (SR σ_3 h0 0)) 28 rfl ck_Model (by decide) (by decide) (show decode M_Model_counts.2.1 25 = .ok (.getfield 7, 3) by decide +kernel) wd_1504 rfl ?_
      refine V_iload 30 rfl (show decode M_Model_counts.2.1 28 = .ok (.iload 5, 2) by decide +kernel) 0 rfl ?_
      refine V_iconst 31 rfl (show decode M_Model_counts.2.1 30 = .ok (.iconst 0, 1) by decide +kernel) (v := 0) rfl ?_
      refine V_iadd 32 rfl (show decode M_Model_counts.2.1 31 = .ok (.iadd, 1) by decide +kernel) ?_
      refine V_ald_int 33 rfl (show decode M_Model_counts.2.1 32 = .ok (.iaload, 1) by decide +kernel) ?_
      refine V_iload_n 34 rfl (show decode M_Model_counts.2.1 33 = .ok (.iload_n 2, 1) by decide +kernel) 3 rfl ?_
      refine V_jn (fun (J73 : Int32 → Bool → Sto → Rs Int32) => ∀ (s0_73 : Int32) (b : Bool) (σ : Sto), V M_Model_counts 2 0 0 0 0 tI (J73 s0_73 b σ) 73 [(0, vR h0), (1, vI x1), (2, vI x2), (3, vI x3), (4, vI x4), (5, vI x5_4)] [vI s0_73] b σ) ?_ (fun J73 hJ73 => ?_)
      · intro s0_73 b σ
        refine V_istore (fun x6_5 => [(6, vI x6_5), (0, vR h0), (1, vI x1), (2, vI x2), (3, vI x3), (4, vI x4), (5, vI x5_4)]) 75 rfl (show decode M_Model_counts.2.1 73 = .ok (.istore 6, 2) by decide +kernel) (by decide) (fun _ => rfl) (fun x6_5 => ?_)
        refine V_iload 77 rfl (show decode M_Model_counts.2.1 75 = .ok (.iload 6, 2) by decide +kernel) 0 rfl ?_
        refine V_jn (fun (J114 : Int32 → Bool → Sto → Rs Int32) => ∀ (s0_114 : Int32) (b : Bool) (σ : Sto), V M_Model_counts 2 0 0 0 0 tI (J114 s0_114 b σ) 114 [(0, vR h0), (1, vI x1), (2, vI x2), (4, vI x4)] [vI s0_114] b σ) ?_ (fun J114 hJ114 => ?_)
        · intro s0_114 b σ
          refine V_istore_n (fun x3_6 => [(3, vI x3_6), (0, vR h0), (1, vI x1), (2, vI x2), (4, vI x4)]) 115 rfl (show decode M_Model_counts.2.1 114 = .ok (.istore_n 3, 1) by decide +kernel) (by decide) (fun _ => rfl) (fun x3_6 => ?_)
          refine V_iinc (fun x4_7 => [(4, vI x4_7), (3, vI x3_6), (0, vR h0), (1, vI x1), (2, vI x2)]) 118 rfl (show decode M_Model_counts.2.1 115 = .ok (.iinc 4 1, 3) by decide +kernel) 4 rfl (w := 1) rfl (by decide) (fun _ => rfl) (fun x4_7 => ?_)
          refine V_goto 5 (show decode M_Model_counts.2.1 118 = .ok (.goto (-113), 3) by decide +kernel) rfl ?_
          exact V_sub [2, 3, 4, 1, 0] rfl (hL5 x3_6 x4_7 b σ)
        · skip
          refine V_jn (fun (J113 : Bool → Sto → Rs Int32) => ∀ (b : Bool) (σ : Sto), V M_Model_counts 2 0 0 0 0 tI (J113 b σ) 113 [(0, vR h0), (1, vI x1), (2, vI x2), (3, vI x3), (4, vI x4)] [] b σ) ?_ (fun J113 hJ113 => ?_)
          · intro b σ
            refine V_iload_n 114 rfl (show decode M_Model_counts.2.1 113 = .ok (.iload_n 3, 1) by decide +kernel) 3 rfl ?_
            exact V_sub [0, 1, 2, 4] rfl (hJ114 x3 b σ)
          · skip
            refine V_ifeq 80 113 rfl (show decode M_Model_counts.2.1 77 = .ok (.ifCond .eq 36, 3) by decide +kernel) rfl ?_ ?_
            · skip
              exact V_sub [1, 2, 3, 4, 5] rfl (hJ113 b σ)
            · skip
              refine V_iload_n 81 rfl (show decode M_Model_counts.2.1 80 = .ok (.iload_n 3, 1) by decide +kernel) 4 rfl ?_
              refine V_jn (fun (J108 : Bool → Sto → Rs Int32) => ∀ (b : Bool) (σ : Sto), V M_Model_counts 2 0 0 0 0 tI (J108 b σ) 108 [(0, vR h0), (1, vI x1), (2, vI x2), (4, vI x4)] [] b σ) ?_ (fun J108 hJ108 => ?_)
              · intro b σ
                refine V_iload 110 rfl (show decode M_Model_counts.2.1 108 = .ok (.iload 4, 2) by decide +kernel) 3 rfl ?_
                refine V_goto 114 (show decode M_Model_counts.2.1 110 = .ok (.goto 4, 3) by decide +kernel) rfl ?_
                exact V_sub [0, 1, 2, 3] rfl (hJ114 x4 b σ)
              · skip
                refine V_iflt 84 108 rfl (show decode M_Model_counts.2.1 81 = .ok (.ifCond .lt 27, 3) by decide +kernel) rfl ?_ ?_
                · skip
                  exact V_sub [1, 2, 3, 5] rfl (hJ108 b σ)
                · skip
                  refine V_aload_n 85 rfl (show decode M_Model_counts.2.1 84 = .ok (.aload_n 0, 1) by decide +kernel) 1 rfl ?_
                  refine V_get (j := 0) (v := vR (SR σ h0 0)) 88 rfl ck_Model (by decide) (by decide) (show decode M_Model_counts.2.1 85 = .ok (.getfield 7, 3) by decide +kernel) wd_1504 rfl ?_
                  refine V_iload 90 rfl (show decode M_Model_counts.2.1 88 = .ok (.iload 5, 2) by decide +kernel) 6 rfl ?_
                  refine V_iconst 91 rfl (show decode M_Model_counts.2.1 90 = .ok (.iconst 2, 1) by decide +kernel) (v := 2) rfl ?_
                  refine V_iadd 92 rfl (show decode M_Model_counts.2.1 91 = .ok (.iadd, 1) by decide +kernel) ?_
                  refine V_ald_int 93 rfl (show decode M_Model_counts.2.1 92 = .ok (.iaload, 1) by decide +kernel) ?_
                  refine V_aload_n 94 rfl (show decode M_Model_counts.2.1 93 = .ok (.aload_n 0, 1) by decide +kernel) 1 rfl ?_
                  refine V_get (j := 0) (v := vR (SR σ h0 0)) 97 rfl ck_Model (by decide) (by decide) (show decode M_Model_counts.2.1 94 = .ok (.getfield 7, 3) by decide +kernel) wd_1504 rfl ?_
                  refine V_aload_n 98 rfl (show decode M_Model_counts.2.1 97 = .ok (.aload_n 0, 1) by decide +kernel) 1 rfl ?_
                  refine V_iload_n 99 rfl (show decode M_Model_counts.2.1 98 = .ok (.iload_n 3, 1) by decide +kernel) 4 rfl ?_
                  refine V_callV (tb := tI) (as := [vI x3]) (rest := [vR (SR σ h0 0), vI (SI σ (SR σ h0 0) (ix (x5_4 + (2 : Int32))))]) (na := 1) 102 rfl ck_Model (by decide) (s_Model_textAt h0 x3 ((((b && cK σ h0 13) && cA σ (SR σ h0 0) 21 (x5_4 + (2 : Int32))) && cK σ h0 13) && cK σ h0 13) σ) rfl rfl (Nat.le_of_ble_eq_true rfl) (cal_Model_textAt _ _ _ _ _ (by decide) (by decide) (by decide)) (show decode M_Model_counts.2.1 99 = .ok (.invokevirtual 236, 3) by decide +kernel) wd_1748 wd_1750 wd_127 (fun r_8 b_8 σ_8 => ?_)
                  show V M_Model_counts 2 0 0 0 0 tI _ 102 [(6, vI x6_5), (0, vR h0), (1, vI x1), (2, vI x2), (3, vI x3), (4, vI x4), (5, vI x5_4)] [vI r_8, vR (SR σ h0 0), vI (SI σ (SR σ h0 0) (ix (x5_4 + (2 : Int32))))] b_8 σ_8
                  refine V_iconst 103 rfl (show decode M_Model_counts.2.1 102 = .ok (.iconst 2, 1) by decide +kernel) (v := 2) rfl ?_
                  refine V_iadd 104 rfl (show decode M_Model_counts.2.1 103 = .ok (.iadd, 1) by decide +kernel) ?_
                  refine V_ald_int 105 rfl (show decode M_Model_counts.2.1 104 = .ok (.iaload, 1) by decide +kernel) ?_
                  refine V_icmplt 108 113 rfl (show decode M_Model_counts.2.1 105 = .ok (.if_icmp .lt 8, 3) by decide +kernel) rfl ?_ ?_
                  · skip
                    exact V_sub [1, 2, 3, 4, 5] rfl (hJ113 (b_8 && cA σ_8 (SR σ h0 0) 21 (r_8 + (2 : Int32))) σ_8)
                  · skip
                    exact V_sub [1, 2, 3, 5] rfl (hJ108 (b_8 && cA σ_8 (SR σ h0 0) 21 (r_8 + (2 : Int32))) σ_8)
      · skip
        refine V_jn (fun (J72 : Bool → Sto → Rs Int32) => ∀ (b : Bool) (σ : Sto), V M_Model_counts 2 0 0 0 0 tI (J72 b σ) 72 [(0, vR h0), (1, vI x1), (2, vI x2), (3, vI x3), (4, vI x4), (5, vI x5_4)] [] b σ) ?_ (fun J72 hJ72 => ?_)
        · intro b σ
          refine V_iconst 73 rfl (show decode M_Model_counts.2.1 72 = .ok (.iconst 0, 1) by decide +kernel) (v := 0) rfl ?_
          exact V_sub [0, 1, 2, 3, 4, 5] rfl (hJ73 (0 : Int32) b σ)
        · skip
          refine V_icmpne 37 72 rfl (show decode M_Model_counts.2.1 34 = .ok (.if_icmp .ne 38, 3) by decide +kernel) rfl ?_ ?_
          · skip
            refine V_aload_n 38 rfl (show decode M_Model_counts.2.1 37 = .ok (.aload_n 0, 1) by decide +kernel) 1 rfl ?_
            refine V_get (j := 0) (v := vR (SR σ_3 h0 0)) 41 rfl ck_Model (by decide) (by decide) (show decode M_Model_counts.2.1 38 = .ok (.getfield 7, 3) by decide +kernel) wd_1504 rfl ?_
            refine V_iload 43 rfl (show decode M_Model_counts.2.1 41 = .ok (.iload 5, 2) by decide +kernel) 0 rfl ?_
            refine V_iconst 44 rfl (show decode M_Model_counts.2.1 43 = .ok (.iconst 1, 1) by decide +kernel) (v := 1) rfl ?_
            refine V_iadd 45 rfl (show decode M_Model_counts.2.1 44 = .ok (.iadd, 1) by decide +kernel) ?_
            refine V_ald_int 46 rfl (show decode M_Model_counts.2.1 45 = .ok (.iaload, 1) by decide +kernel) ?_
            refine V_iload_n 47 rfl (show decode M_Model_counts.2.1 46 = .ok (.iload_n 1, 1) by decide +kernel) 2 rfl ?_
            refine V_icmpne 50 72 rfl (show decode M_Model_counts.2.1 47 = .ok (.if_icmp .ne 25, 3) by decide +kernel) rfl ?_ ?_
            · skip
              refine V_aload_n 51 rfl (show decode M_Model_counts.2.1 50 = .ok (.aload_n 0, 1) by decide +kernel) 1 rfl ?_
              refine V_get (j := 0) (v := vR (SR σ_3 h0 0)) 54 rfl ck_Model (by decide) (by decide) (show decode M_Model_counts.2.1 51 = .ok (.getfield 7, 3) by decide +kernel) wd_1504 rfl ?_
              refine V_iload 56 rfl (show decode M_Model_counts.2.1 54 = .ok (.iload 5, 2) by decide +kernel) 0 rfl ?_
              refine V_iconst 57 rfl (show decode M_Model_counts.2.1 56 = .ok (.iconst 2, 1) by decide +kernel) (v := 2) rfl ?_
              refine V_iadd 58 rfl (show decode M_Model_counts.2.1 57 = .ok (.iadd, 1) by decide +kernel) ?_
              refine V_ald_int 59 rfl (show decode M_Model_counts.2.1 58 = .ok (.iaload, 1) by decide +kernel) ?_
              refine V_aload_n 60 rfl (show decode M_Model_counts.2.1 59 = .ok (.aload_n 0, 1) by decide +kernel) 1 rfl ?_
              refine V_get (j := 0) (v := vR (SR σ_3 h0 0)) 63 rfl ck_Model (by decide) (by decide) (show decode M_Model_counts.2.1 60 = .ok (.getfield 7, 3) by decide +kernel) wd_1504 rfl ?_
              refine V_iconst 64 rfl (show decode M_Model_counts.2.1 63 = .ok (.iconst 0, 1) by decide +kernel) (v := 0) rfl ?_
              refine V_ald_int 65 rfl (show decode M_Model_counts.2.1 64 = .ok (.iaload, 1) by decide +kernel) ?_
              refine V_icmpgt 68 72 rfl (show decode M_Model_counts.2.1 65 = .ok (.if_icmp .gt 7, 3) by decide +kernel) rfl ?_ ?_
              · skip
                exact V_sub [1, 2, 3, 4, 5, 0] rfl (hJ72 ((((((((b_3 && cK σ_3 h0 13) && cA σ_3 (SR σ_3 h0 0) 21 (x5_4 + (0 : Int32))) && cK σ_3 h0 13) && cA σ_3 (SR σ_3 h0 0) 21 (x5_4 + (1 : Int32))) && cK σ_3 h0 13) && cA σ_3 (SR σ_3 h0 0) 21 (x5_4 + (2 : Int32))) && cK σ_3 h0 13) && cA σ_3 (SR σ_3 h0 0) 21 (0 : Int32)) σ_3)
              · skip
                refine V_iconst 69 rfl (show decode M_Model_counts.2.1 68 = .ok (.iconst 1, 1) by decide +kernel) (v := 1) rfl ?_
                refine V_goto 73 (show decode M_Model_counts.2.1 69 = .ok (.goto 4, 3) by decide +kernel) rfl ?_
                exact V_sub [1, 2, 3, 4, 5, 0] rfl (hJ73 (1 : Int32) ((((((((b_3 && cK σ_3 h0 13) && cA σ_3 (SR σ_3 h0 0) 21 (x5_4 + (0 : Int32))) && cK σ_3 h0 13) && cA σ_3 (SR σ_3 h0 0) 21 (x5_4 + (1 : Int32))) && cK σ_3 h0 13) && cA σ_3 (SR σ_3 h0 0) 21 (x5_4 + (2 : Int32))) && cK σ_3 h0 13) && cA σ_3 (SR σ_3 h0 0) 21 (0 : Int32)) σ_3)
            · skip
              exact V_sub [1, 2, 3, 4, 5, 0] rfl (hJ72 ((((b_3 && cK σ_3 h0 13) && cA σ_3 (SR σ_3 h0 0) 21 (x5_4 + (0 : Int32))) && cK σ_3 h0 13) && cA σ_3 (SR σ_3 h0 0) 21 (x5_4 + (1 : Int32))) σ_3)
          · skip
            exact V_sub [1, 2, 3, 4, 5, 0] rfl (hJ72 ((b_3 && cK σ_3 h0 13) && cA σ_3 (SR σ_3 h0 0) 21 (x5_4 + (0 : Int32))) σ_3)
    · skip
      refine V_iload_n 122 rfl (show decode M_Model_counts.2.1 121 = .ok (.iload_n 3, 1) by decide +kernel) 3 rfl ?_
      exact V_iret rfl (by decide) (by decide) (show decode M_Model_counts.2.1 122 = .ok (.ireturn, 1) by decide +kernel)
theorem cal_Model_counts (d mc ms k n : Nat) (h1 : 2 + 1 ≤ d) (h2 : k + 0 ≤ mc) (h3 : n + 0 ≤ ms) : Cal M_Model_counts 2 0 0 2 d mc ms k n := ⟨wd_1826, wd_181, by decide, h1, by decide, h2, h3⟩
abbrev M_Model_hasBeds : MD := (⟨"LongTrailModel", "hasBeds", "(I)Z"⟩, prog_14_method_20_code, 1, (some FieldType.boolean))
def f_Model_hasBeds (x0 : Int32) (b : Bool) (σ : Sto) : Rs Int32 := (lt_ (fun (b : Bool) (σ : Sto) => ((1 : Int32), b, σ)) (fun J15 => (if x0 = (2 : Int32) then (J15 b σ) else (if x0 = (3 : Int32) then (J15 b σ) else (if x0 = (5 : Int32) then (J15 b σ) else ((0 : Int32), b, σ))))))
set_option maxRecDepth 100000 in
set_option maxHeartbeats 4000000 in
theorem s_Model_hasBeds : ∀ (x0 : Int32) (b : Bool) (σ : Sto), Snd M_Model_hasBeds 1 0 0 [vI x0] b σ (tI (f_Model_hasBeds x0 b σ).1) (f_Model_hasBeds x0 b σ).2.1 (f_Model_hasBeds x0 b σ).2.2 := by
  intro x0 b σ
  refine Snd_of (tv := tI) (by decide) (Nat.le_of_ble_eq_true rfl) ?_
  show V M_Model_hasBeds 1 0 0 0 0 tI (f_Model_hasBeds x0 b σ) 0 [(0, vI x0)] [] b σ
  unfold f_Model_hasBeds
  refine V_iload_n 1 rfl (show decode M_Model_hasBeds.2.1 0 = .ok (.iload_n 0, 1) by decide +kernel) 0 rfl ?_
  refine V_iconst 2 rfl (show decode M_Model_hasBeds.2.1 1 = .ok (.iconst 2, 1) by decide +kernel) (v := 2) rfl ?_
  refine V_jn (fun (J15 : Bool → Sto → Rs Int32) => ∀ (b : Bool) (σ : Sto), V M_Model_hasBeds 1 0 0 0 0 tI (J15 b σ) 15 [] [] b σ) ?_ (fun J15 hJ15 => ?_)
  · intro b σ
    refine V_iconst 16 rfl (show decode M_Model_hasBeds.2.1 15 = .ok (.iconst 1, 1) by decide +kernel) (v := 1) rfl ?_
    refine V_goto 20 (show decode M_Model_hasBeds.2.1 16 = .ok (.goto 4, 3) by decide +kernel) rfl ?_
    exact V_zret rfl (by decide) (by decide) rfl (show decode M_Model_hasBeds.2.1 20 = .ok (.ireturn, 1) by decide +kernel)
  · skip
    refine V_icmpeq 5 15 rfl (show decode M_Model_hasBeds.2.1 2 = .ok (.if_icmp .eq 13, 3) by decide +kernel) rfl ?_ ?_
    · skip
      exact V_sub [] rfl (hJ15 b σ)
    · skip
      refine V_iload_n 6 rfl (show decode M_Model_hasBeds.2.1 5 = .ok (.iload_n 0, 1) by decide +kernel) 0 rfl ?_
      refine V_iconst 7 rfl (show decode M_Model_hasBeds.2.1 6 = .ok (.iconst 3, 1) by decide +kernel) (v := 3) rfl ?_
      refine V_icmpeq 10 15 rfl (show decode M_Model_hasBeds.2.1 7 = .ok (.if_icmp .eq 8, 3) by decide +kernel) rfl ?_ ?_
      · skip
        exact V_sub [] rfl (hJ15 b σ)
      · skip
        refine V_iload_n 11 rfl (show decode M_Model_hasBeds.2.1 10 = .ok (.iload_n 0, 1) by decide +kernel) 0 rfl ?_
        refine V_iconst 12 rfl (show decode M_Model_hasBeds.2.1 11 = .ok (.iconst 5, 1) by decide +kernel) (v := 5) rfl ?_
        refine V_icmpne 15 19 rfl (show decode M_Model_hasBeds.2.1 12 = .ok (.if_icmp .ne 7, 3) by decide +kernel) rfl ?_ ?_
        · skip
          exact V_sub [] rfl (hJ15 b σ)
        · skip
          refine V_iconst 20 rfl (show decode M_Model_hasBeds.2.1 19 = .ok (.iconst 0, 1) by decide +kernel) (v := 0) rfl ?_
          exact V_zret rfl (by decide) (by decide) rfl (show decode M_Model_hasBeds.2.1 20 = .ok (.ireturn, 1) by decide +kernel)
theorem cal_Model_hasBeds (d mc ms k n : Nat) (h1 : 1 + 1 ≤ d) (h2 : k + 0 ≤ mc) (h3 : n + 0 ≤ ms) : Cal M_Model_hasBeds 1 0 0 1 d mc ms k n := ⟨wd_1644, wd_181, by decide, h1, by decide, h2, h3⟩
abbrev M_Model_landOf : MD := (⟨"LongTrailModel", "landOf", "(I)I"⟩, prog_14_method_29_code, 4, (some FieldType.int))
def b_Model_landOf_4 (h0 : Nat) (x1 : Int32) (L4 : Int32 → Int32 → Bool → Sto → Rs Int32) (x2 : Int32) (x3 : Int32) (b : Bool) (σ : Sto) : Rs Int32 := (if x3 < (4 : Int32) then (lt_ (fun (s0_39 : Int32) (b : Bool) (σ : Sto) => (lt_ s0_39 (fun (x2_3 : Int32) => (lt_ (x3 + (1 : Int32)) (fun (x3_4 : Int32) => (L4 x2_3 x3_4 b σ)))))) (fun J39 => (lt_ (fun (b : Bool) (σ : Sto) => (J39 x2 b σ)) (fun J38 => (if (SI σ (SR σ h0 0) (ix ((10 : Int32) + x3))) < 0 then (J38 ((b && cK σ h0 13) && cA σ (SR σ h0 0) 21 ((10 : Int32) + x3)) σ) else (if x1 < (SI σ (SR σ h0 0) (ix ((10 : Int32) + x3))) then (J38 ((((b && cK σ h0 13) && cA σ (SR σ h0 0) 21 ((10 : Int32) + x3)) && cK σ h0 13) && cA σ (SR σ h0 0) 21 ((10 : Int32) + x3)) σ) else (J39 x3 ((((b && cK σ h0 13) && cA σ (SR σ h0 0) 21 ((10 : Int32) + x3)) && cK σ h0 13) && cA σ (SR σ h0 0) 21 ((10 : Int32) + x3)) σ))))))) else (x2, b, σ))
def f_Model_landOf (h0 : Nat) (x1 : Int32) (b : Bool) (σ : Sto) : Rs Int32 := (lt_ (0 : Int32) (fun (x2_1 : Int32) => (lt_ (1 : Int32) (fun (x3_2 : Int32) => (lp_ (b_Model_landOf_4 h0 x1) (fun (x2 : Int32) (x3 : Int32) (b : Bool) (σ : Sto) => (0, false, σ)) fuel_ x2_1 x3_2 b σ)))))
set_option maxRecDepth 100000 in
set_option maxHeartbeats 4000000 in
theorem s_Model_landOf : ∀ (h0 : Nat) (x1 : Int32) (b : Bool) (σ : Sto), Snd M_Model_landOf 1 0 0 [vR h0, vI x1] b σ (tI (f_Model_landOf h0 x1 b σ).1) (f_Model_landOf h0 x1 b σ).2.1 (f_Model_landOf h0 x1 b σ).2.2 := by
  intro h0 x1 b σ
  refine Snd_of (tv := tI) (by decide) (Nat.le_of_ble_eq_true rfl) ?_
  show V M_Model_landOf 1 0 0 0 0 tI (f_Model_landOf h0 x1 b σ) 0 [(0, vR h0), (1, vI x1)] [] b σ
  unfold f_Model_landOf
  refine V_iconst 1 rfl (show decode M_Model_landOf.2.1 0 = .ok (.iconst 0, 1) by decide +kernel) (v := 0) rfl ?_
  refine V_istore_n (fun x2_1 => [(2, vI x2_1), (0, vR h0), (1, vI x1)]) 2 rfl (show decode M_Model_landOf.2.1 1 = .ok (.istore_n 2, 1) by decide +kernel) (by decide) (fun _ => rfl) (fun x2_1 => ?_)
  refine V_iconst 3 rfl (show decode M_Model_landOf.2.1 2 = .ok (.iconst 1, 1) by decide +kernel) (v := 1) rfl ?_
  refine V_istore_n (fun x3_2 => [(3, vI x3_2), (2, vI x2_1), (0, vR h0), (1, vI x1)]) 4 rfl (show decode M_Model_landOf.2.1 3 = .ok (.istore_n 3, 1) by decide +kernel) (by decide) (fun _ => rfl) (fun x3_2 => ?_)
  refine V_sub [2, 3, 1, 0] rfl ?_
  refine lp_P (fun (L4 : Int32 → Int32 → Bool → Sto → Rs Int32) => ∀ (x2 : Int32) (x3 : Int32) (b : Bool) (σ : Sto), V M_Model_landOf 1 0 0 0 0 tI (L4 x2 x3 b σ) 4 [(0, vR h0), (1, vI x1), (2, vI x2), (3, vI x3)] [] b σ) ?_ ?_ fuel_ x2_1 x3_2 b σ
  · intro x2 x3 b σ; exact V_bad
  · intro L4 hL4 x2 x3 b σ
    unfold b_Model_landOf_4
    refine V_iload_n 5 rfl (show decode M_Model_landOf.2.1 4 = .ok (.iload_n 3, 1) by decide +kernel) 3 rfl ?_
    refine V_iconst 6 rfl (show decode M_Model_landOf.2.1 5 = .ok (.iconst 4, 1) by decide +kernel) (v := 4) rfl ?_
    refine V_icmpge 9 46 rfl (show decode M_Model_landOf.2.1 6 = .ok (.if_icmp .ge 40, 3) by decide +kernel) rfl ?_ ?_
    · skip
      refine V_aload_n 10 rfl (show decode M_Model_landOf.2.1 9 = .ok (.aload_n 0, 1) by decide +kernel) 0 rfl ?_
      refine V_get (j := 0) (v := vR (SR σ h0 0)) 13 rfl ck_Model (by decide) (by decide) (show decode M_Model_landOf.2.1 10 = .ok (.getfield 7, 3) by decide +kernel) wd_1504 rfl ?_
      refine V_bipush 15 rfl (show decode M_Model_landOf.2.1 13 = .ok (.bipush 10, 2) by decide +kernel) (v := 10) rfl ?_
      refine V_iload_n 16 rfl (show decode M_Model_landOf.2.1 15 = .ok (.iload_n 3, 1) by decide +kernel) 3 rfl ?_
      refine V_iadd 17 rfl (show decode M_Model_landOf.2.1 16 = .ok (.iadd, 1) by decide +kernel) ?_
      refine V_ald_int 18 rfl (show decode M_Model_landOf.2.1 17 = .ok (.iaload, 1) by decide +kernel) ?_
      refine V_jn (fun (J39 : Int32 → Bool → Sto → Rs Int32) => ∀ (s0_39 : Int32) (b : Bool) (σ : Sto), V M_Model_landOf 1 0 0 0 0 tI (J39 s0_39 b σ) 39 [(0, vR h0), (1, vI x1), (3, vI x3)] [vI s0_39] b σ) ?_ (fun J39 hJ39 => ?_)
      · intro s0_39 b σ
        refine V_istore_n (fun x2_3 => [(2, vI x2_3), (0, vR h0), (1, vI x1), (3, vI x3)]) 40 rfl (show decode M_Model_landOf.2.1 39 = .ok (.istore_n 2, 1) by decide +kernel) (by decide) (fun _ => rfl) (fun x2_3 => ?_)
        refine V_iinc (fun x3_4 => [(3, vI x3_4), (2, vI x2_3), (0, vR h0), (1, vI x1)]) 43 rfl (show decode M_Model_landOf.2.1 40 = .ok (.iinc 3 1, 3) by decide +kernel) 3 rfl (w := 1) rfl (by decide) (fun _ => rfl) (fun x3_4 => ?_)
        refine V_goto 4 (show decode M_Model_landOf.2.1 43 = .ok (.goto (-39), 3) by decide +kernel) rfl ?_
        exact V_sub [2, 3, 1, 0] rfl (hL4 x2_3 x3_4 b σ)
      · skip
        refine V_jn (fun (J38 : Bool → Sto → Rs Int32) => ∀ (b : Bool) (σ : Sto), V M_Model_landOf 1 0 0 0 0 tI (J38 b σ) 38 [(0, vR h0), (1, vI x1), (2, vI x2), (3, vI x3)] [] b σ) ?_ (fun J38 hJ38 => ?_)
        · intro b σ
          refine V_iload_n 39 rfl (show decode M_Model_landOf.2.1 38 = .ok (.iload_n 2, 1) by decide +kernel) 2 rfl ?_
          exact V_sub [0, 1, 3] rfl (hJ39 x2 b σ)
        · skip
          refine V_iflt 21 38 rfl (show decode M_Model_landOf.2.1 18 = .ok (.ifCond .lt 20, 3) by decide +kernel) rfl ?_ ?_
          · skip
            exact V_sub [0, 1, 2, 3] rfl (hJ38 ((b && cK σ h0 13) && cA σ (SR σ h0 0) 21 ((10 : Int32) + x3)) σ)
          · skip
            refine V_aload_n 22 rfl (show decode M_Model_landOf.2.1 21 = .ok (.aload_n 0, 1) by decide +kernel) 0 rfl ?_
            refine V_get (j := 0) (v := vR (SR σ h0 0)) 25 rfl ck_Model (by decide) (by decide) (show decode M_Model_landOf.2.1 22 = .ok (.getfield 7, 3) by decide +kernel) wd_1504 rfl ?_
            refine V_bipush 27 rfl (show decode M_Model_landOf.2.1 25 = .ok (.bipush 10, 2) by decide +kernel) (v := 10) rfl ?_
            refine V_iload_n 28 rfl (show decode M_Model_landOf.2.1 27 = .ok (.iload_n 3, 1) by decide +kernel) 3 rfl ?_
            refine V_iadd 29 rfl (show decode M_Model_landOf.2.1 28 = .ok (.iadd, 1) by decide +kernel) ?_
            refine V_ald_int 30 rfl (show decode M_Model_landOf.2.1 29 = .ok (.iaload, 1) by decide +kernel) ?_
            refine V_iload_n 31 rfl (show decode M_Model_landOf.2.1 30 = .ok (.iload_n 1, 1) by decide +kernel) 1 rfl ?_
            refine V_icmpgt 34 38 rfl (show decode M_Model_landOf.2.1 31 = .ok (.if_icmp .gt 7, 3) by decide +kernel) rfl ?_ ?_
            · skip
              exact V_sub [0, 1, 2, 3] rfl (hJ38 ((((b && cK σ h0 13) && cA σ (SR σ h0 0) 21 ((10 : Int32) + x3)) && cK σ h0 13) && cA σ (SR σ h0 0) 21 ((10 : Int32) + x3)) σ)
            · skip
              refine V_iload_n 35 rfl (show decode M_Model_landOf.2.1 34 = .ok (.iload_n 3, 1) by decide +kernel) 3 rfl ?_
              refine V_goto 39 (show decode M_Model_landOf.2.1 35 = .ok (.goto 4, 3) by decide +kernel) rfl ?_
              exact V_sub [0, 1, 3] rfl (hJ39 x3 ((((b && cK σ h0 13) && cA σ (SR σ h0 0) 21 ((10 : Int32) + x3)) && cK σ h0 13) && cA σ (SR σ h0 0) 21 ((10 : Int32) + x3)) σ)
    · skip
      refine V_iload_n 47 rfl (show decode M_Model_landOf.2.1 46 = .ok (.iload_n 2, 1) by decide +kernel) 2 rfl ?_
      exact V_iret rfl (by decide) (by decide) (show decode M_Model_landOf.2.1 47 = .ok (.ireturn, 1) by decide +kernel)
theorem cal_Model_landOf (d mc ms k n : Nat) (h1 : 1 + 1 ≤ d) (h2 : k + 0 ≤ mc) (h3 : n + 0 ≤ ms) : Cal M_Model_landOf 1 0 0 1 d mc ms k n := ⟨wd_1714, wd_181, by decide, h1, by decide, h2, h3⟩
abbrev M_Model_placeOn : MD := (⟨"LongTrailModel", "placeOn", "(I)I"⟩, prog_14_method_22_code, 4, (some FieldType.int))
def b_Model_placeOn_4 (h0 : Nat) (x1 : Int32) (L4 : Int32 → Int32 → Bool → Sto → Rs Int32) (x2 : Int32) (x3 : Int32) (b : Bool) (σ : Sto) : Rs Int32 := (if x3 < (SI σ (SR σ h0 0) (ix (2 : Int32))) then (bd_ (f_Model_mileOf h0 x3 (((b && cK σ h0 13) && cA σ (SR σ h0 0) 21 (2 : Int32)) && cK σ h0 13) σ) (fun (r_3 : Int32) (b_3 : Bool) (σ_3 : Sto) => (lt_ (fun (s0_28 : Int32) (b : Bool) (σ : Sto) => (lt_ s0_28 (fun (x2_4 : Int32) => (lt_ (x3 + (1 : Int32)) (fun (x3_5 : Int32) => (L4 x2_4 x3_5 b σ)))))) (fun J28 => (if r_3 = x1 then (J28 x3 b_3 σ_3) else (J28 x2 b_3 σ_3)))))) else (x2, ((b && cK σ h0 13) && cA σ (SR σ h0 0) 21 (2 : Int32)), σ))
def f_Model_placeOn (h0 : Nat) (x1 : Int32) (b : Bool) (σ : Sto) : Rs Int32 := (lt_ (-1 : Int32) (fun (x2_1 : Int32) => (lt_ (0 : Int32) (fun (x3_2 : Int32) => (lp_ (b_Model_placeOn_4 h0 x1) (fun (x2 : Int32) (x3 : Int32) (b : Bool) (σ : Sto) => (0, false, σ)) fuel_ x2_1 x3_2 b σ)))))
set_option maxRecDepth 100000 in
set_option maxHeartbeats 4000000 in
theorem s_Model_placeOn : ∀ (h0 : Nat) (x1 : Int32) (b : Bool) (σ : Sto), Snd M_Model_placeOn 3 0 0 [vR h0, vI x1] b σ (tI (f_Model_placeOn h0 x1 b σ).1) (f_Model_placeOn h0 x1 b σ).2.1 (f_Model_placeOn h0 x1 b σ).2.2 := by
  intro h0 x1 b σ
  refine Snd_of (tv := tI) (by decide) (Nat.le_of_ble_eq_true rfl) ?_
  show V M_Model_placeOn 3 0 0 0 0 tI (f_Model_placeOn h0 x1 b σ) 0 [(0, vR h0), (1, vI x1)] [] b σ
  unfold f_Model_placeOn
  refine V_iconst 1 rfl (show decode M_Model_placeOn.2.1 0 = .ok (.iconst (-1), 1) by decide +kernel) (v := -1) rfl ?_
  refine V_istore_n (fun x2_1 => [(2, vI x2_1), (0, vR h0), (1, vI x1)]) 2 rfl (show decode M_Model_placeOn.2.1 1 = .ok (.istore_n 2, 1) by decide +kernel) (by decide) (fun _ => rfl) (fun x2_1 => ?_)
  refine V_iconst 3 rfl (show decode M_Model_placeOn.2.1 2 = .ok (.iconst 0, 1) by decide +kernel) (v := 0) rfl ?_
  refine V_istore_n (fun x3_2 => [(3, vI x3_2), (2, vI x2_1), (0, vR h0), (1, vI x1)]) 4 rfl (show decode M_Model_placeOn.2.1 3 = .ok (.istore_n 3, 1) by decide +kernel) (by decide) (fun _ => rfl) (fun x3_2 => ?_)
  refine V_sub [2, 3, 1, 0] rfl ?_
  refine lp_P (fun (L4 : Int32 → Int32 → Bool → Sto → Rs Int32) => ∀ (x2 : Int32) (x3 : Int32) (b : Bool) (σ : Sto), V M_Model_placeOn 3 0 0 0 0 tI (L4 x2 x3 b σ) 4 [(0, vR h0), (1, vI x1), (2, vI x2), (3, vI x3)] [] b σ) ?_ ?_ fuel_ x2_1 x3_2 b σ
  · intro x2 x3 b σ; exact V_bad
  · intro L4 hL4 x2 x3 b σ
    unfold b_Model_placeOn_4
    refine V_iload_n 5 rfl (show decode M_Model_placeOn.2.1 4 = .ok (.iload_n 3, 1) by decide +kernel) 3 rfl ?_
    refine V_aload_n 6 rfl (show decode M_Model_placeOn.2.1 5 = .ok (.aload_n 0, 1) by decide +kernel) 0 rfl ?_
    refine V_get (j := 0) (v := vR (SR σ h0 0)) 9 rfl ck_Model (by decide) (by decide) (show decode M_Model_placeOn.2.1 6 = .ok (.getfield 7, 3) by decide +kernel) wd_1504 rfl ?_
    refine V_iconst 10 rfl (show decode M_Model_placeOn.2.1 9 = .ok (.iconst 2, 1) by decide +kernel) (v := 2) rfl ?_
    refine V_ald_int 11 rfl (show decode M_Model_placeOn.2.1 10 = .ok (.iaload, 1) by decide +kernel) ?_
    refine V_icmpge 14 35 rfl (show decode M_Model_placeOn.2.1 11 = .ok (.if_icmp .ge 24, 3) by decide +kernel) rfl ?_ ?_
    · skip
      refine V_aload_n 15 rfl (show decode M_Model_placeOn.2.1 14 = .ok (.aload_n 0, 1) by decide +kernel) 0 rfl ?_
      refine V_iload_n 16 rfl (show decode M_Model_placeOn.2.1 15 = .ok (.iload_n 3, 1) by decide +kernel) 3 rfl ?_
      refine V_callV (tb := tI) (as := [vI x3]) (rest := []) (na := 1) 19 rfl ck_Model (by decide) (s_Model_mileOf h0 x3 (((b && cK σ h0 13) && cA σ (SR σ h0 0) 21 (2 : Int32)) && cK σ h0 13) σ) rfl rfl (Nat.le_of_ble_eq_true rfl) (cal_Model_mileOf _ _ _ _ _ (by decide) (by decide) (by decide)) (show decode M_Model_placeOn.2.1 16 = .ok (.invokevirtual 92, 3) by decide +kernel) wd_1621 wd_1623 wd_112 (fun r_3 b_3 σ_3 => ?_)
      show V M_Model_placeOn 3 0 0 0 0 tI _ 19 [(0, vR h0), (1, vI x1), (2, vI x2), (3, vI x3)] [vI r_3] b_3 σ_3
      refine V_iload_n 20 rfl (show decode M_Model_placeOn.2.1 19 = .ok (.iload_n 1, 1) by decide +kernel) 1 rfl ?_
      refine V_jn (fun (J28 : Int32 → Bool → Sto → Rs Int32) => ∀ (s0_28 : Int32) (b : Bool) (σ : Sto), V M_Model_placeOn 3 0 0 0 0 tI (J28 s0_28 b σ) 28 [(0, vR h0), (1, vI x1), (3, vI x3)] [vI s0_28] b σ) ?_ (fun J28 hJ28 => ?_)
      · intro s0_28 b σ
        refine V_istore_n (fun x2_4 => [(2, vI x2_4), (0, vR h0), (1, vI x1), (3, vI x3)]) 29 rfl (show decode M_Model_placeOn.2.1 28 = .ok (.istore_n 2, 1) by decide +kernel) (by decide) (fun _ => rfl) (fun x2_4 => ?_)
        refine V_iinc (fun x3_5 => [(3, vI x3_5), (2, vI x2_4), (0, vR h0), (1, vI x1)]) 32 rfl (show decode M_Model_placeOn.2.1 29 = .ok (.iinc 3 1, 3) by decide +kernel) 3 rfl (w := 1) rfl (by decide) (fun _ => rfl) (fun x3_5 => ?_)
        refine V_goto 4 (show decode M_Model_placeOn.2.1 32 = .ok (.goto (-28), 3) by decide +kernel) rfl ?_
        exact V_sub [2, 3, 1, 0] rfl (hL4 x2_4 x3_5 b σ)
      · skip
        refine V_icmpne 23 27 rfl (show decode M_Model_placeOn.2.1 20 = .ok (.if_icmp .ne 7, 3) by decide +kernel) rfl ?_ ?_
        · skip
          refine V_iload_n 24 rfl (show decode M_Model_placeOn.2.1 23 = .ok (.iload_n 3, 1) by decide +kernel) 3 rfl ?_
          refine V_goto 28 (show decode M_Model_placeOn.2.1 24 = .ok (.goto 4, 3) by decide +kernel) rfl ?_
          exact V_sub [0, 1, 3] rfl (hJ28 x3 b_3 σ_3)
        · skip
          refine V_iload_n 28 rfl (show decode M_Model_placeOn.2.1 27 = .ok (.iload_n 2, 1) by decide +kernel) 2 rfl ?_
          exact V_sub [0, 1, 3] rfl (hJ28 x2 b_3 σ_3)
    · skip
      refine V_iload_n 36 rfl (show decode M_Model_placeOn.2.1 35 = .ok (.iload_n 2, 1) by decide +kernel) 2 rfl ?_
      exact V_iret rfl (by decide) (by decide) (show decode M_Model_placeOn.2.1 36 = .ok (.ireturn, 1) by decide +kernel)
theorem cal_Model_placeOn (d mc ms k n : Nat) (h1 : 3 + 1 ≤ d) (h2 : k + 0 ≤ mc) (h3 : n + 0 ≤ ms) : Cal M_Model_placeOn 3 0 0 1 d mc ms k n := ⟨wd_1655, wd_181, by decide, h1, by decide, h2, h3⟩
abbrev M_Model_walks : MD := (⟨"LongTrailModel", "walks", "(I)Z"⟩, prog_14_method_17_code, 2, (some FieldType.boolean))
def f_Model_walks (h0 : Nat) (x1 : Int32) (b : Bool) (σ : Sto) : Rs Int32 := (bd_ (f_Model_walkerAt h0 x1 ((b && cK σ h0 13) && cK σ h0 13) σ) (fun (r_1 : Int32) (b_1 : Bool) (σ_1 : Sto) => (if (SI σ_1 (SR σ h0 0) (ix r_1)) = (1 : Int32) then ((1 : Int32), (b_1 && cA σ_1 (SR σ h0 0) 21 r_1), σ_1) else ((0 : Int32), (b_1 && cA σ_1 (SR σ h0 0) 21 r_1), σ_1))))
set_option maxRecDepth 100000 in
set_option maxHeartbeats 4000000 in
theorem s_Model_walks : ∀ (h0 : Nat) (x1 : Int32) (b : Bool) (σ : Sto), Snd M_Model_walks 2 0 0 [vR h0, vI x1] b σ (tI (f_Model_walks h0 x1 b σ).1) (f_Model_walks h0 x1 b σ).2.1 (f_Model_walks h0 x1 b σ).2.2 := by
  intro h0 x1 b σ
  refine Snd_of (tv := tI) (by decide) (Nat.le_of_ble_eq_true rfl) ?_
  show V M_Model_walks 2 0 0 0 0 tI (f_Model_walks h0 x1 b σ) 0 [(0, vR h0), (1, vI x1)] [] b σ
  unfold f_Model_walks
  refine V_aload_n 1 rfl (show decode M_Model_walks.2.1 0 = .ok (.aload_n 0, 1) by decide +kernel) 0 rfl ?_
  refine V_get (j := 0) (v := vR (SR σ h0 0)) 4 rfl ck_Model (by decide) (by decide) (show decode M_Model_walks.2.1 1 = .ok (.getfield 7, 3) by decide +kernel) wd_1504 rfl ?_
  refine V_aload_n 5 rfl (show decode M_Model_walks.2.1 4 = .ok (.aload_n 0, 1) by decide +kernel) 0 rfl ?_
  refine V_iload_n 6 rfl (show decode M_Model_walks.2.1 5 = .ok (.iload_n 1, 1) by decide +kernel) 1 rfl ?_
  refine V_callV (tb := tI) (as := [vI x1]) (rest := [vR (SR σ h0 0)]) (na := 1) 9 rfl ck_Model (by decide) (s_Model_walkerAt h0 x1 ((b && cK σ h0 13) && cK σ h0 13) σ) rfl rfl (Nat.le_of_ble_eq_true rfl) (cal_Model_walkerAt _ _ _ _ _ (by decide) (by decide) (by decide)) (show decode M_Model_walks.2.1 6 = .ok (.invokevirtual 84, 3) by decide +kernel) wd_1673 wd_1675 wd_121 (fun r_1 b_1 σ_1 => ?_)
  show V M_Model_walks 2 0 0 0 0 tI _ 9 [(0, vR h0), (1, vI x1)] [vI r_1, vR (SR σ h0 0)] b_1 σ_1
  refine V_ald_int 10 rfl (show decode M_Model_walks.2.1 9 = .ok (.iaload, 1) by decide +kernel) ?_
  refine V_iconst 11 rfl (show decode M_Model_walks.2.1 10 = .ok (.iconst 1, 1) by decide +kernel) (v := 1) rfl ?_
  refine V_icmpne 14 18 rfl (show decode M_Model_walks.2.1 11 = .ok (.if_icmp .ne 7, 3) by decide +kernel) rfl ?_ ?_
  · skip
    refine V_iconst 15 rfl (show decode M_Model_walks.2.1 14 = .ok (.iconst 1, 1) by decide +kernel) (v := 1) rfl ?_
    refine V_goto 19 (show decode M_Model_walks.2.1 15 = .ok (.goto 4, 3) by decide +kernel) rfl ?_
    exact V_zret rfl (by decide) (by decide) rfl (show decode M_Model_walks.2.1 19 = .ok (.ireturn, 1) by decide +kernel)
  · skip
    refine V_iconst 19 rfl (show decode M_Model_walks.2.1 18 = .ok (.iconst 0, 1) by decide +kernel) (v := 0) rfl ?_
    exact V_zret rfl (by decide) (by decide) rfl (show decode M_Model_walks.2.1 19 = .ok (.ireturn, 1) by decide +kernel)
theorem cal_Model_walks (d mc ms k n : Nat) (h1 : 2 + 1 ≤ d) (h2 : k + 0 ≤ mc) (h3 : n + 0 ≤ ms) : Cal M_Model_walks 2 0 0 1 d mc ms k n := ⟨wd_1672, wd_181, by decide, h1, by decide, h2, h3⟩
abbrev M_Model_walkersOn : MD := (⟨"LongTrailModel", "walkersOn", "(I)I"⟩, prog_14_method_24_code, 4, (some FieldType.int))
def b_Model_walkersOn_4 (h0 : Nat) (x1 : Int32) (L4 : Int32 → Int32 → Bool → Sto → Rs Int32) (x2 : Int32) (x3 : Int32) (b : Bool) (σ : Sto) : Rs Int32 := (if x3 < (SI σ (SR σ h0 0) (ix (5 : Int32))) then (bd_ (f_Model_walks h0 x3 (((b && cK σ h0 13) && cA σ (SR σ h0 0) 21 (5 : Int32)) && cK σ h0 13) σ) (fun (r_3 : Int32) (b_3 : Bool) (σ_3 : Sto) => (lt_ (fun (s0_44 : Int32) (s1_44 : Int32) (b : Bool) (σ : Sto) => (lt_ (s1_44 + s0_44) (fun (x2_4 : Int32) => (lt_ (x3 + (1 : Int32)) (fun (x3_5 : Int32) => (L4 x2_4 x3_5 b σ)))))) (fun J44 => (lt_ (fun (s0_43 : Int32) (b : Bool) (σ : Sto) => (J44 (0 : Int32) s0_43 b σ)) (fun J43 => (if r_3 = 0 then (J43 x2 b_3 σ_3) else (bd_ (f_Model_walkerAt h0 x3 ((b_3 && cK σ_3 h0 13) && cK σ_3 h0 13) σ_3) (fun (r_6 : Int32) (b_6 : Bool) (σ_6 : Sto) => (if (SI σ_6 (SR σ_3 h0 0) (ix (r_6 + (1 : Int32)))) = x1 then (J44 (1 : Int32) x2 (b_6 && cA σ_6 (SR σ_3 h0 0) 21 (r_6 + (1 : Int32))) σ_6) else (J43 x2 (b_6 && cA σ_6 (SR σ_3 h0 0) 21 (r_6 + (1 : Int32))) σ_6))))))))))) else (x2, ((b && cK σ h0 13) && cA σ (SR σ h0 0) 21 (5 : Int32)), σ))
def f_Model_walkersOn (h0 : Nat) (x1 : Int32) (b : Bool) (σ : Sto) : Rs Int32 := (lt_ (0 : Int32) (fun (x2_1 : Int32) => (lt_ (0 : Int32) (fun (x3_2 : Int32) => (lp_ (b_Model_walkersOn_4 h0 x1) (fun (x2 : Int32) (x3 : Int32) (b : Bool) (σ : Sto) => (0, false, σ)) fuel_ x2_1 x3_2 b σ)))))
set_option maxRecDepth 100000 in
set_option maxHeartbeats 4000000 in
theorem s_Model_walkersOn : ∀ (h0 : Nat) (x1 : Int32) (b : Bool) (σ : Sto), Snd M_Model_walkersOn 3 0 0 [vR h0, vI x1] b σ (tI (f_Model_walkersOn h0 x1 b σ).1) (f_Model_walkersOn h0 x1 b σ).2.1 (f_Model_walkersOn h0 x1 b σ).2.2 := by
  intro h0 x1 b σ
  refine Snd_of (tv := tI) (by decide) (Nat.le_of_ble_eq_true rfl) ?_
  show V M_Model_walkersOn 3 0 0 0 0 tI (f_Model_walkersOn h0 x1 b σ) 0 [(0, vR h0), (1, vI x1)] [] b σ
  unfold f_Model_walkersOn
  refine V_iconst 1 rfl (show decode M_Model_walkersOn.2.1 0 = .ok (.iconst 0, 1) by decide +kernel) (v := 0) rfl ?_
  refine V_istore_n (fun x2_1 => [(2, vI x2_1), (0, vR h0), (1, vI x1)]) 2 rfl (show decode M_Model_walkersOn.2.1 1 = .ok (.istore_n 2, 1) by decide +kernel) (by decide) (fun _ => rfl) (fun x2_1 => ?_)
  refine V_iconst 3 rfl (show decode M_Model_walkersOn.2.1 2 = .ok (.iconst 0, 1) by decide +kernel) (v := 0) rfl ?_
  refine V_istore_n (fun x3_2 => [(3, vI x3_2), (2, vI x2_1), (0, vR h0), (1, vI x1)]) 4 rfl (show decode M_Model_walkersOn.2.1 3 = .ok (.istore_n 3, 1) by decide +kernel) (by decide) (fun _ => rfl) (fun x3_2 => ?_)
  refine V_sub [2, 3, 1, 0] rfl ?_
  refine lp_P (fun (L4 : Int32 → Int32 → Bool → Sto → Rs Int32) => ∀ (x2 : Int32) (x3 : Int32) (b : Bool) (σ : Sto), V M_Model_walkersOn 3 0 0 0 0 tI (L4 x2 x3 b σ) 4 [(0, vR h0), (1, vI x1), (2, vI x2), (3, vI x3)] [] b σ) ?_ ?_ fuel_ x2_1 x3_2 b σ
  · intro x2 x3 b σ; exact V_bad
  · intro L4 hL4 x2 x3 b σ
    unfold b_Model_walkersOn_4
    refine V_iload_n 5 rfl (show decode M_Model_walkersOn.2.1 4 = .ok (.iload_n 3, 1) by decide +kernel) 3 rfl ?_
    refine V_aload_n 6 rfl (show decode M_Model_walkersOn.2.1 5 = .ok (.aload_n 0, 1) by decide +kernel) 0 rfl ?_
    refine V_get (j := 0) (v := vR (SR σ h0 0)) 9 rfl ck_Model (by decide) (by decide) (show decode M_Model_walkersOn.2.1 6 = .ok (.getfield 7, 3) by decide +kernel) wd_1504 rfl ?_
    refine V_iconst 10 rfl (show decode M_Model_walkersOn.2.1 9 = .ok (.iconst 5, 1) by decide +kernel) (v := 5) rfl ?_
    refine V_ald_int 11 rfl (show decode M_Model_walkersOn.2.1 10 = .ok (.iaload, 1) by decide +kernel) ?_
    refine V_icmpge 14 52 rfl (show decode M_Model_walkersOn.2.1 11 = .ok (.if_icmp .ge 41, 3) by decide +kernel) rfl ?_ ?_
    · skip
      refine V_iload_n 15 rfl (show decode M_Model_walkersOn.2.1 14 = .ok (.iload_n 2, 1) by decide +kernel) 2 rfl ?_
      refine V_aload_n 16 rfl (show decode M_Model_walkersOn.2.1 15 = .ok (.aload_n 0, 1) by decide +kernel) 0 rfl ?_
      refine V_iload_n 17 rfl (show decode M_Model_walkersOn.2.1 16 = .ok (.iload_n 3, 1) by decide +kernel) 3 rfl ?_
      refine V_callV (tb := tI) (as := [vI x3]) (rest := [vI x2]) (na := 1) 20 rfl ck_Model (by decide) (s_Model_walks h0 x3 (((b && cK σ h0 13) && cA σ (SR σ h0 0) 21 (5 : Int32)) && cK σ h0 13) σ) rfl rfl (Nat.le_of_ble_eq_true rfl) (cal_Model_walks _ _ _ _ _ (by decide) (by decide) (by decide)) (show decode M_Model_walkersOn.2.1 17 = .ok (.invokevirtual 120, 3) by decide +kernel) wd_1669 wd_1671 wd_120 (fun r_3 b_3 σ_3 => ?_)
      show V M_Model_walkersOn 3 0 0 0 0 tI _ 20 [(0, vR h0), (1, vI x1), (2, vI x2), (3, vI x3)] [vI r_3, vI x2] b_3 σ_3
      refine V_jn (fun (J44 : Int32 → Int32 → Bool → Sto → Rs Int32) => ∀ (s0_44 : Int32) (s1_44 : Int32) (b : Bool) (σ : Sto), V M_Model_walkersOn 3 0 0 0 0 tI (J44 s0_44 s1_44 b σ) 44 [(0, vR h0), (1, vI x1), (3, vI x3)] [vI s0_44, vI s1_44] b σ) ?_ (fun J44 hJ44 => ?_)
      · intro s0_44 s1_44 b σ
        refine V_iadd 45 rfl (show decode M_Model_walkersOn.2.1 44 = .ok (.iadd, 1) by decide +kernel) ?_
        refine V_istore_n (fun x2_4 => [(2, vI x2_4), (0, vR h0), (1, vI x1), (3, vI x3)]) 46 rfl (show decode M_Model_walkersOn.2.1 45 = .ok (.istore_n 2, 1) by decide +kernel) (by decide) (fun _ => rfl) (fun x2_4 => ?_)
        refine V_iinc (fun x3_5 => [(3, vI x3_5), (2, vI x2_4), (0, vR h0), (1, vI x1)]) 49 rfl (show decode M_Model_walkersOn.2.1 46 = .ok (.iinc 3 1, 3) by decide +kernel) 3 rfl (w := 1) rfl (by decide) (fun _ => rfl) (fun x3_5 => ?_)
        refine V_goto 4 (show decode M_Model_walkersOn.2.1 49 = .ok (.goto (-45), 3) by decide +kernel) rfl ?_
        exact V_sub [2, 3, 1, 0] rfl (hL4 x2_4 x3_5 b σ)
      · skip
        refine V_jn (fun (J43 : Int32 → Bool → Sto → Rs Int32) => ∀ (s0_43 : Int32) (b : Bool) (σ : Sto), V M_Model_walkersOn 3 0 0 0 0 tI (J43 s0_43 b σ) 43 [(0, vR h0), (1, vI x1), (3, vI x3)] [vI s0_43] b σ) ?_ (fun J43 hJ43 => ?_)
        · intro s0_43 b σ
          refine V_iconst 44 rfl (show decode M_Model_walkersOn.2.1 43 = .ok (.iconst 0, 1) by decide +kernel) (v := 0) rfl ?_
          exact V_sub [0, 1, 2] rfl (hJ44 (0 : Int32) s0_43 b σ)
        · skip
          refine V_ifeq 23 43 rfl (show decode M_Model_walkersOn.2.1 20 = .ok (.ifCond .eq 23, 3) by decide +kernel) rfl ?_ ?_
          · skip
            exact V_sub [0, 1, 3] rfl (hJ43 x2 b_3 σ_3)
          · skip
            refine V_aload_n 24 rfl (show decode M_Model_walkersOn.2.1 23 = .ok (.aload_n 0, 1) by decide +kernel) 0 rfl ?_
            refine V_get (j := 0) (v := vR (SR σ_3 h0 0)) 27 rfl ck_Model (by decide) (by decide) (show decode M_Model_walkersOn.2.1 24 = .ok (.getfield 7, 3) by decide +kernel) wd_1504 rfl ?_
            refine V_aload_n 28 rfl (show decode M_Model_walkersOn.2.1 27 = .ok (.aload_n 0, 1) by decide +kernel) 0 rfl ?_
            refine V_iload_n 29 rfl (show decode M_Model_walkersOn.2.1 28 = .ok (.iload_n 3, 1) by decide +kernel) 3 rfl ?_
            refine V_callV (tb := tI) (as := [vI x3]) (rest := [vR (SR σ_3 h0 0), vI x2]) (na := 1) 32 rfl ck_Model (by decide) (s_Model_walkerAt h0 x3 ((b_3 && cK σ_3 h0 13) && cK σ_3 h0 13) σ_3) rfl rfl (Nat.le_of_ble_eq_true rfl) (cal_Model_walkerAt _ _ _ _ _ (by decide) (by decide) (by decide)) (show decode M_Model_walkersOn.2.1 29 = .ok (.invokevirtual 84, 3) by decide +kernel) wd_1673 wd_1675 wd_121 (fun r_6 b_6 σ_6 => ?_)
            show V M_Model_walkersOn 3 0 0 0 0 tI _ 32 [(0, vR h0), (1, vI x1), (2, vI x2), (3, vI x3)] [vI r_6, vR (SR σ_3 h0 0), vI x2] b_6 σ_6
            refine V_iconst 33 rfl (show decode M_Model_walkersOn.2.1 32 = .ok (.iconst 1, 1) by decide +kernel) (v := 1) rfl ?_
            refine V_iadd 34 rfl (show decode M_Model_walkersOn.2.1 33 = .ok (.iadd, 1) by decide +kernel) ?_
            refine V_ald_int 35 rfl (show decode M_Model_walkersOn.2.1 34 = .ok (.iaload, 1) by decide +kernel) ?_
            refine V_iload_n 36 rfl (show decode M_Model_walkersOn.2.1 35 = .ok (.iload_n 1, 1) by decide +kernel) 1 rfl ?_
            refine V_icmpne 39 43 rfl (show decode M_Model_walkersOn.2.1 36 = .ok (.if_icmp .ne 7, 3) by decide +kernel) rfl ?_ ?_
            · skip
              refine V_iconst 40 rfl (show decode M_Model_walkersOn.2.1 39 = .ok (.iconst 1, 1) by decide +kernel) (v := 1) rfl ?_
              refine V_goto 44 (show decode M_Model_walkersOn.2.1 40 = .ok (.goto 4, 3) by decide +kernel) rfl ?_
              exact V_sub [0, 1, 3] rfl (hJ44 (1 : Int32) x2 (b_6 && cA σ_6 (SR σ_3 h0 0) 21 (r_6 + (1 : Int32))) σ_6)
            · skip
              exact V_sub [0, 1, 3] rfl (hJ43 x2 (b_6 && cA σ_6 (SR σ_3 h0 0) 21 (r_6 + (1 : Int32))) σ_6)
    · skip
      refine V_iload_n 53 rfl (show decode M_Model_walkersOn.2.1 52 = .ok (.iload_n 2, 1) by decide +kernel) 2 rfl ?_
      exact V_iret rfl (by decide) (by decide) (show decode M_Model_walkersOn.2.1 53 = .ok (.ireturn, 1) by decide +kernel)
theorem cal_Model_walkersOn (d mc ms k n : Nat) (h1 : 3 + 1 ≤ d) (h2 : k + 0 ≤ mc) (h3 : n + 0 ≤ ms) : Cal M_Model_walkersOn 3 0 0 1 d mc ms k n := ⟨wd_1668, wd_181, by decide, h1, by decide, h2, h3⟩
abbrev M_Model_joined : MD := (⟨"LongTrailModel", "joined", "(III)I"⟩, prog_14_method_56_code, 3, (some FieldType.int))
def f_Model_joined (x0 : Int32) (x1 : Int32) (x2 : Int32) (b : Bool) (σ : Sto) : Rs Int32 := (if x0 = (38 : Int32) then (lt_ (fun (b : Bool) (σ : Sto) => ((0 : Int32), b, σ)) (fun J195 => (if x1 = 0 then (J195 b σ) else (if x2 = 0 then (J195 b σ) else ((1 : Int32), b, σ))))) else (if x0 = (42 : Int32) then ((x1 * x2), b, σ) else (if x0 = (43 : Int32) then ((x1 + x2), b, σ) else (if x0 = (45 : Int32) then ((x1 - x2), b, σ) else (if x0 = (47 : Int32) then (if x2 = 0 then ((0 : Int32), b, σ) else (if x2 = (-1 : Int32) then ((-x1), b, σ) else ((x1 / x2), (b && !decide (x2 = 0)), σ))) else (if x0 = (60 : Int32) then (if x1 < x2 then ((1 : Int32), b, σ) else ((0 : Int32), b, σ)) else (if x0 = (61 : Int32) then (if x1 = x2 then ((1 : Int32), b, σ) else ((0 : Int32), b, σ)) else (if x0 = (62 : Int32) then (if x2 < x1 then ((1 : Int32), b, σ) else ((0 : Int32), b, σ)) else (lt_ (fun (b : Bool) (σ : Sto) => ((1 : Int32), b, σ)) (fun J205 => (if x1 = 0 then (if x2 = 0 then ((0 : Int32), b, σ) else (J205 b σ)) else (J205 b σ))))))))))))
set_option maxRecDepth 100000 in
set_option maxHeartbeats 4000000 in
theorem s_Model_joined : ∀ (x0 : Int32) (x1 : Int32) (x2 : Int32) (b : Bool) (σ : Sto), Snd M_Model_joined 1 0 0 [vI x0, vI x1, vI x2] b σ (tI (f_Model_joined x0 x1 x2 b σ).1) (f_Model_joined x0 x1 x2 b σ).2.1 (f_Model_joined x0 x1 x2 b σ).2.2 := by
  intro x0 x1 x2 b σ
  refine Snd_of (tv := tI) (by decide) (Nat.le_of_ble_eq_true rfl) ?_
  show V M_Model_joined 1 0 0 0 0 tI (f_Model_joined x0 x1 x2 b σ) 0 [(0, vI x0), (1, vI x1), (2, vI x2)] [] b σ
  unfold f_Model_joined
  refine V_iload_n 1 rfl (show decode M_Model_joined.2.1 0 = .ok (.iload_n 0, 1) by decide +kernel) 0 rfl ?_
  refine V_ite (fun hs1_38 => ?_) (fun hs1_38 => ?_)
  · refine V_tswIn (off := 182) 183 (show decode M_Model_joined.2.1 1 = .ok (.tableswitch 196 38 62 #[182, 196, 196, 196, 123, 115, 196, 119, 196, 127, 196, 196, 196, 196, 196, 196, 196, 196, 196, 196, 196, 196, 149, 171, 160], 115) by decide +kernel) (by rw [hs1_38]; decide) (by rw [hs1_38]; decide) (by rw [hs1_38]; decide) rfl ?_
    refine V_iload_n 184 rfl (show decode M_Model_joined.2.1 183 = .ok (.iload_n 1, 1) by decide +kernel) 1 rfl ?_
    refine V_jn (fun (J195 : Bool → Sto → Rs Int32) => ∀ (b : Bool) (σ : Sto), V M_Model_joined 1 0 0 0 0 tI (J195 b σ) 195 [] [] b σ) ?_ (fun J195 hJ195 => ?_)
    · intro b σ
      refine V_iconst 196 rfl (show decode M_Model_joined.2.1 195 = .ok (.iconst 0, 1) by decide +kernel) (v := 0) rfl ?_
      exact V_iret rfl (by decide) (by decide) (show decode M_Model_joined.2.1 196 = .ok (.ireturn, 1) by decide +kernel)
    · skip
      refine V_ifeq 187 195 rfl (show decode M_Model_joined.2.1 184 = .ok (.ifCond .eq 11, 3) by decide +kernel) rfl ?_ ?_
      · skip
        exact V_sub [] rfl (hJ195 b σ)
      · skip
        refine V_iload_n 188 rfl (show decode M_Model_joined.2.1 187 = .ok (.iload_n 2, 1) by decide +kernel) 2 rfl ?_
        refine V_ifeq 191 195 rfl (show decode M_Model_joined.2.1 188 = .ok (.ifCond .eq 7, 3) by decide +kernel) rfl ?_ ?_
        · skip
          exact V_sub [] rfl (hJ195 b σ)
        · skip
          refine V_iconst 192 rfl (show decode M_Model_joined.2.1 191 = .ok (.iconst 1, 1) by decide +kernel) (v := 1) rfl ?_
          refine V_goto 196 (show decode M_Model_joined.2.1 192 = .ok (.goto 4, 3) by decide +kernel) rfl ?_
          exact V_iret rfl (by decide) (by decide) (show decode M_Model_joined.2.1 196 = .ok (.ireturn, 1) by decide +kernel)
  refine V_ite (fun hs1_42 => ?_) (fun hs1_42 => ?_)
  · refine V_tswIn (off := 123) 124 (show decode M_Model_joined.2.1 1 = .ok (.tableswitch 196 38 62 #[182, 196, 196, 196, 123, 115, 196, 119, 196, 127, 196, 196, 196, 196, 196, 196, 196, 196, 196, 196, 196, 196, 149, 171, 160], 115) by decide +kernel) (by rw [hs1_42]; decide) (by rw [hs1_42]; decide) (by rw [hs1_42]; decide) rfl ?_
    refine V_iload_n 125 rfl (show decode M_Model_joined.2.1 124 = .ok (.iload_n 1, 1) by decide +kernel) 1 rfl ?_
    refine V_iload_n 126 rfl (show decode M_Model_joined.2.1 125 = .ok (.iload_n 2, 1) by decide +kernel) 2 rfl ?_
    refine V_imul 127 rfl (show decode M_Model_joined.2.1 126 = .ok (.imul, 1) by decide +kernel) ?_
    exact V_iret rfl (by decide) (by decide) (show decode M_Model_joined.2.1 127 = .ok (.ireturn, 1) by decide +kernel)
  refine V_ite (fun hs1_43 => ?_) (fun hs1_43 => ?_)
  · refine V_tswIn (off := 115) 116 (show decode M_Model_joined.2.1 1 = .ok (.tableswitch 196 38 62 #[182, 196, 196, 196, 123, 115, 196, 119, 196, 127, 196, 196, 196, 196, 196, 196, 196, 196, 196, 196, 196, 196, 149, 171, 160], 115) by decide +kernel) (by rw [hs1_43]; decide) (by rw [hs1_43]; decide) (by rw [hs1_43]; decide) rfl ?_
    refine V_iload_n 117 rfl (show decode M_Model_joined.2.1 116 = .ok (.iload_n 1, 1) by decide +kernel) 1 rfl ?_
    refine V_iload_n 118 rfl (show decode M_Model_joined.2.1 117 = .ok (.iload_n 2, 1) by decide +kernel) 2 rfl ?_
    refine V_iadd 119 rfl (show decode M_Model_joined.2.1 118 = .ok (.iadd, 1) by decide +kernel) ?_
    exact V_iret rfl (by decide) (by decide) (show decode M_Model_joined.2.1 119 = .ok (.ireturn, 1) by decide +kernel)
  refine V_ite (fun hs1_45 => ?_) (fun hs1_45 => ?_)
  · refine V_tswIn (off := 119) 120 (show decode M_Model_joined.2.1 1 = .ok (.tableswitch 196 38 62 #[182, 196, 196, 196, 123, 115, 196, 119, 196, 127, 196, 196, 196, 196, 196, 196, 196, 196, 196, 196, 196, 196, 149, 171, 160], 115) by decide +kernel) (by rw [hs1_45]; decide) (by rw [hs1_45]; decide) (by rw [hs1_45]; decide) rfl ?_
    refine V_iload_n 121 rfl (show decode M_Model_joined.2.1 120 = .ok (.iload_n 1, 1) by decide +kernel) 1 rfl ?_
    refine V_iload_n 122 rfl (show decode M_Model_joined.2.1 121 = .ok (.iload_n 2, 1) by decide +kernel) 2 rfl ?_
    refine V_isub 123 rfl (show decode M_Model_joined.2.1 122 = .ok (.isub, 1) by decide +kernel) ?_
    exact V_iret rfl (by decide) (by decide) (show decode M_Model_joined.2.1 123 = .ok (.ireturn, 1) by decide +kernel)
  refine V_ite (fun hs1_47 => ?_) (fun hs1_47 => ?_)
  · refine V_tswIn (off := 127) 128 (show decode M_Model_joined.2.1 1 = .ok (.tableswitch 196 38 62 #[182, 196, 196, 196, 123, 115, 196, 119, 196, 127, 196, 196, 196, 196, 196, 196, 196, 196, 196, 196, 196, 196, 149, 171, 160], 115) by decide +kernel) (by rw [hs1_47]; decide) (by rw [hs1_47]; decide) (by rw [hs1_47]; decide) rfl ?_
    refine V_iload_n 129 rfl (show decode M_Model_joined.2.1 128 = .ok (.iload_n 2, 1) by decide +kernel) 2 rfl ?_
    refine V_ifne 132 136 rfl (show decode M_Model_joined.2.1 129 = .ok (.ifCond .ne 7, 3) by decide +kernel) rfl ?_ ?_
    · skip
      refine V_iconst 133 rfl (show decode M_Model_joined.2.1 132 = .ok (.iconst 0, 1) by decide +kernel) (v := 0) rfl ?_
      refine V_goto 149 (show decode M_Model_joined.2.1 133 = .ok (.goto 16, 3) by decide +kernel) rfl ?_
      exact V_iret rfl (by decide) (by decide) (show decode M_Model_joined.2.1 149 = .ok (.ireturn, 1) by decide +kernel)
    · skip
      refine V_iload_n 137 rfl (show decode M_Model_joined.2.1 136 = .ok (.iload_n 2, 1) by decide +kernel) 2 rfl ?_
      refine V_iconst 138 rfl (show decode M_Model_joined.2.1 137 = .ok (.iconst (-1), 1) by decide +kernel) (v := -1) rfl ?_
      refine V_icmpne 141 146 rfl (show decode M_Model_joined.2.1 138 = .ok (.if_icmp .ne 8, 3) by decide +kernel) rfl ?_ ?_
      · skip
        refine V_iload_n 142 rfl (show decode M_Model_joined.2.1 141 = .ok (.iload_n 1, 1) by decide +kernel) 1 rfl ?_
        refine V_ineg 143 rfl (show decode M_Model_joined.2.1 142 = .ok (.ineg, 1) by decide +kernel) ?_
        refine V_goto 149 (show decode M_Model_joined.2.1 143 = .ok (.goto 6, 3) by decide +kernel) rfl ?_
        exact V_iret rfl (by decide) (by decide) (show decode M_Model_joined.2.1 149 = .ok (.ireturn, 1) by decide +kernel)
      · skip
        refine V_iload_n 147 rfl (show decode M_Model_joined.2.1 146 = .ok (.iload_n 1, 1) by decide +kernel) 1 rfl ?_
        refine V_iload_n 148 rfl (show decode M_Model_joined.2.1 147 = .ok (.iload_n 2, 1) by decide +kernel) 2 rfl ?_
        refine V_idiv 149 rfl (show decode M_Model_joined.2.1 148 = .ok (.idiv, 1) by decide +kernel) ?_
        exact V_iret rfl (by decide) (by decide) (show decode M_Model_joined.2.1 149 = .ok (.ireturn, 1) by decide +kernel)
  refine V_ite (fun hs1_60 => ?_) (fun hs1_60 => ?_)
  · refine V_tswIn (off := 149) 150 (show decode M_Model_joined.2.1 1 = .ok (.tableswitch 196 38 62 #[182, 196, 196, 196, 123, 115, 196, 119, 196, 127, 196, 196, 196, 196, 196, 196, 196, 196, 196, 196, 196, 196, 149, 171, 160], 115) by decide +kernel) (by rw [hs1_60]; decide) (by rw [hs1_60]; decide) (by rw [hs1_60]; decide) rfl ?_
    refine V_iload_n 151 rfl (show decode M_Model_joined.2.1 150 = .ok (.iload_n 1, 1) by decide +kernel) 1 rfl ?_
    refine V_iload_n 152 rfl (show decode M_Model_joined.2.1 151 = .ok (.iload_n 2, 1) by decide +kernel) 2 rfl ?_
    refine V_icmpge 155 159 rfl (show decode M_Model_joined.2.1 152 = .ok (.if_icmp .ge 7, 3) by decide +kernel) rfl ?_ ?_
    · skip
      refine V_iconst 156 rfl (show decode M_Model_joined.2.1 155 = .ok (.iconst 1, 1) by decide +kernel) (v := 1) rfl ?_
      refine V_goto 160 (show decode M_Model_joined.2.1 156 = .ok (.goto 4, 3) by decide +kernel) rfl ?_
      exact V_iret rfl (by decide) (by decide) (show decode M_Model_joined.2.1 160 = .ok (.ireturn, 1) by decide +kernel)
    · skip
      refine V_iconst 160 rfl (show decode M_Model_joined.2.1 159 = .ok (.iconst 0, 1) by decide +kernel) (v := 0) rfl ?_
      exact V_iret rfl (by decide) (by decide) (show decode M_Model_joined.2.1 160 = .ok (.ireturn, 1) by decide +kernel)
  refine V_ite (fun hs1_61 => ?_) (fun hs1_61 => ?_)
  · refine V_tswIn (off := 171) 172 (show decode M_Model_joined.2.1 1 = .ok (.tableswitch 196 38 62 #[182, 196, 196, 196, 123, 115, 196, 119, 196, 127, 196, 196, 196, 196, 196, 196, 196, 196, 196, 196, 196, 196, 149, 171, 160], 115) by decide +kernel) (by rw [hs1_61]; decide) (by rw [hs1_61]; decide) (by rw [hs1_61]; decide) rfl ?_
    refine V_iload_n 173 rfl (show decode M_Model_joined.2.1 172 = .ok (.iload_n 1, 1) by decide +kernel) 1 rfl ?_
    refine V_iload_n 174 rfl (show decode M_Model_joined.2.1 173 = .ok (.iload_n 2, 1) by decide +kernel) 2 rfl ?_
    refine V_icmpne 177 181 rfl (show decode M_Model_joined.2.1 174 = .ok (.if_icmp .ne 7, 3) by decide +kernel) rfl ?_ ?_
    · skip
      refine V_iconst 178 rfl (show decode M_Model_joined.2.1 177 = .ok (.iconst 1, 1) by decide +kernel) (v := 1) rfl ?_
      refine V_goto 182 (show decode M_Model_joined.2.1 178 = .ok (.goto 4, 3) by decide +kernel) rfl ?_
      exact V_iret rfl (by decide) (by decide) (show decode M_Model_joined.2.1 182 = .ok (.ireturn, 1) by decide +kernel)
    · skip
      refine V_iconst 182 rfl (show decode M_Model_joined.2.1 181 = .ok (.iconst 0, 1) by decide +kernel) (v := 0) rfl ?_
      exact V_iret rfl (by decide) (by decide) (show decode M_Model_joined.2.1 182 = .ok (.ireturn, 1) by decide +kernel)
  refine V_ite (fun hs1_62 => ?_) (fun hs1_62 => ?_)
  · refine V_tswIn (off := 160) 161 (show decode M_Model_joined.2.1 1 = .ok (.tableswitch 196 38 62 #[182, 196, 196, 196, 123, 115, 196, 119, 196, 127, 196, 196, 196, 196, 196, 196, 196, 196, 196, 196, 196, 196, 149, 171, 160], 115) by decide +kernel) (by rw [hs1_62]; decide) (by rw [hs1_62]; decide) (by rw [hs1_62]; decide) rfl ?_
    refine V_iload_n 162 rfl (show decode M_Model_joined.2.1 161 = .ok (.iload_n 1, 1) by decide +kernel) 1 rfl ?_
    refine V_iload_n 163 rfl (show decode M_Model_joined.2.1 162 = .ok (.iload_n 2, 1) by decide +kernel) 2 rfl ?_
    refine V_icmple 166 170 rfl (show decode M_Model_joined.2.1 163 = .ok (.if_icmp .le 7, 3) by decide +kernel) rfl ?_ ?_
    · skip
      refine V_iconst 167 rfl (show decode M_Model_joined.2.1 166 = .ok (.iconst 1, 1) by decide +kernel) (v := 1) rfl ?_
      refine V_goto 171 (show decode M_Model_joined.2.1 167 = .ok (.goto 4, 3) by decide +kernel) rfl ?_
      exact V_iret rfl (by decide) (by decide) (show decode M_Model_joined.2.1 171 = .ok (.ireturn, 1) by decide +kernel)
    · skip
      refine V_iconst 171 rfl (show decode M_Model_joined.2.1 170 = .ok (.iconst 0, 1) by decide +kernel) (v := 0) rfl ?_
      exact V_iret rfl (by decide) (by decide) (show decode M_Model_joined.2.1 171 = .ok (.ireturn, 1) by decide +kernel)
  · refine V_tswD 197 (show decode M_Model_joined.2.1 1 = .ok (.tableswitch 196 38 62 #[182, 196, 196, 196, 123, 115, 196, 119, 196, 127, 196, 196, 196, 196, 196, 196, 196, 196, 196, 196, 196, 196, 149, 171, 160], 115) by decide +kernel) rfl (by decide) ?_ ?_
    · intro z hz hz2
      have hm : z = 0 ∨ z = 1 ∨ z = 2 ∨ z = 3 ∨ z = 4 ∨ z = 5 ∨ z = 6 ∨ z = 7 ∨ z = 8 ∨ z = 9 ∨ z = 10 ∨ z = 11 ∨ z = 12 ∨ z = 13 ∨ z = 14 ∨ z = 15 ∨ z = 16 ∨ z = 17 ∨ z = 18 ∨ z = 19 ∨ z = 20 ∨ z = 21 ∨ z = 22 ∨ z = 23 ∨ z = 24 := by simp at hz2; omega
      rcases hm with rfl | rfl | rfl | rfl | rfl | rfl | rfl | rfl | rfl | rfl | rfl | rfl | rfl | rfl | rfl | rfl | rfl | rfl | rfl | rfl | rfl | rfl | rfl | rfl | rfl
      · exact absurd (Int32.toInt_inj.mp (hz.trans (by decide))) hs1_38
      · rfl
      · rfl
      · rfl
      · exact absurd (Int32.toInt_inj.mp (hz.trans (by decide))) hs1_42
      · exact absurd (Int32.toInt_inj.mp (hz.trans (by decide))) hs1_43
      · rfl
      · exact absurd (Int32.toInt_inj.mp (hz.trans (by decide))) hs1_45
      · rfl
      · exact absurd (Int32.toInt_inj.mp (hz.trans (by decide))) hs1_47
      · rfl
      · rfl
      · rfl
      · rfl
      · rfl
      · rfl
      · rfl
      · rfl
      · rfl
      · rfl
      · rfl
      · rfl
      · exact absurd (Int32.toInt_inj.mp (hz.trans (by decide))) hs1_60
      · exact absurd (Int32.toInt_inj.mp (hz.trans (by decide))) hs1_61
      · exact absurd (Int32.toInt_inj.mp (hz.trans (by decide))) hs1_62
    · skip
      refine V_iload_n 198 rfl (show decode M_Model_joined.2.1 197 = .ok (.iload_n 1, 1) by decide +kernel) 1 rfl ?_
      refine V_jn (fun (J205 : Bool → Sto → Rs Int32) => ∀ (b : Bool) (σ : Sto), V M_Model_joined 1 0 0 0 0 tI (J205 b σ) 205 [] [] b σ) ?_ (fun J205 hJ205 => ?_)
      · intro b σ
        refine V_iconst 206 rfl (show decode M_Model_joined.2.1 205 = .ok (.iconst 1, 1) by decide +kernel) (v := 1) rfl ?_
        refine V_goto 210 (show decode M_Model_joined.2.1 206 = .ok (.goto 4, 3) by decide +kernel) rfl ?_
        exact V_iret rfl (by decide) (by decide) (show decode M_Model_joined.2.1 210 = .ok (.ireturn, 1) by decide +kernel)
      · skip
        refine V_ifne 201 205 rfl (show decode M_Model_joined.2.1 198 = .ok (.ifCond .ne 7, 3) by decide +kernel) rfl ?_ ?_
        · skip
          refine V_iload_n 202 rfl (show decode M_Model_joined.2.1 201 = .ok (.iload_n 2, 1) by decide +kernel) 2 rfl ?_
          refine V_ifeq 205 209 rfl (show decode M_Model_joined.2.1 202 = .ok (.ifCond .eq 7, 3) by decide +kernel) rfl ?_ ?_
          · skip
            refine V_iconst 210 rfl (show decode M_Model_joined.2.1 209 = .ok (.iconst 0, 1) by decide +kernel) (v := 0) rfl ?_
            exact V_iret rfl (by decide) (by decide) (show decode M_Model_joined.2.1 210 = .ok (.ireturn, 1) by decide +kernel)
          · skip
            exact V_sub [] rfl (hJ205 b σ)
        · skip
          exact V_sub [] rfl (hJ205 b σ)
theorem cal_Model_joined (d mc ms k n : Nat) (h1 : 1 + 1 ≤ d) (h2 : k + 0 ≤ mc) (h3 : n + 0 ≤ ms) : Cal M_Model_joined 1 0 0 3 d mc ms k n := ⟨wd_1921, wd_181, by decide, h1, by decide, h2, h3⟩
abbrev M_Model_worked : MD := (⟨"LongTrailModel", "worked", "(I)I"⟩, prog_14_method_57_code, 6, (some FieldType.int))
def b_Model_worked_4 (h0 : Nat) (x1 : Int32) (L4 : Int32 → Int32 → Bool → Sto → Rs Int32) (x2 : Int32) (x3 : Int32) (b : Bool) (σ : Sto) : Rs Int32 := (bd_ (f_Model_textAt h0 x1 ((b && cK σ h0 13) && cK σ h0 13) σ) (fun (r_3 : Int32) (b_3 : Bool) (σ_3 : Sto) => (if x3 < (SI σ_3 (SR σ h0 0) (ix (r_3 + (4 : Int32)))) then (bd_ (f_Model_textAt h0 x1 (((b_3 && cA σ_3 (SR σ h0 0) 21 (r_3 + (4 : Int32))) && cK σ_3 h0 13) && cK σ_3 h0 13) σ_3) (fun (r_4 : Int32) (b_4 : Bool) (σ_4 : Sto) => (lt_ (SI σ_4 (SR σ_3 h0 0) (ix ((r_4 + (5 : Int32)) + ((2 : Int32) * x3)))) (fun (x4_5 : Int32) => (bd_ (f_Model_textAt h0 x1 (((b_4 && cA σ_4 (SR σ_3 h0 0) 21 ((r_4 + (5 : Int32)) + ((2 : Int32) * x3))) && cK σ_4 h0 13) && cK σ_4 h0 13) σ_4) (fun (r_6 : Int32) (b_6 : Bool) (σ_6 : Sto) => (lt_ (SI σ_6 (SR σ_4 h0 0) (ix (((r_6 + (5 : Int32)) + ((2 : Int32) * x3)) + (1 : Int32)))) (fun (x5_7 : Int32) => (lt_ (fun (x2_157 : Int32) (b : Bool) (σ : Sto) => (lt_ (x3 + (1 : Int32)) (fun (x3_8 : Int32) => (L4 x2_157 x3_8 b σ)))) (fun J157 => (if x4_5 = (2 : Int32) then (if x5_7 = (33 : Int32) then (lt_ (fun (s0_123 : Int32) (s1_123 : Int32) (s2_123 : Nat) (b : Bool) (σ : Sto) => (lt_ (pI σ s2_123 (ix s1_123) s0_123) (fun (σ_9 : Sto) => (J157 x2 (b && cA σ s2_123 21 s1_123) σ_9)))) (fun J123 => (if (SI σ_6 (SR σ_6 h0 20) (ix (x2 - (1 : Int32)))) = 0 then (J123 (1 : Int32) (x2 - (1 : Int32)) (SR σ_6 h0 20) ((((b_6 && cA σ_6 (SR σ_4 h0 0) 21 (((r_6 + (5 : Int32)) + ((2 : Int32) * x3)) + (1 : Int32))) && cK σ_6 h0 13) && cK σ_6 h0 13) && cA σ_6 (SR σ_6 h0 20) 21 (x2 - (1 : Int32))) σ_6) else (J123 (0 : Int32) (x2 - (1 : Int32)) (SR σ_6 h0 20) ((((b_6 && cA σ_6 (SR σ_4 h0 0) 21 (((r_6 + (5 : Int32)) + ((2 : Int32) * x3)) + (1 : Int32))) && cK σ_6 h0 13) && cK σ_6 h0 13) && cA σ_6 (SR σ_6 h0 20) 21 (x2 - (1 : Int32))) σ_6)))) else (lt_ (x2 + (-1 : Int32)) (fun (x2_10 : Int32) => (bd_ (f_Model_joined x5_7 (SI σ_6 (SR σ_6 h0 20) (ix (x2_10 - (1 : Int32)))) (SI σ_6 (SR σ_6 h0 20) (ix x2_10)) ((((((b_6 && cA σ_6 (SR σ_4 h0 0) 21 (((r_6 + (5 : Int32)) + ((2 : Int32) * x3)) + (1 : Int32))) && cK σ_6 h0 13) && cK σ_6 h0 13) && cA σ_6 (SR σ_6 h0 20) 21 (x2_10 - (1 : Int32))) && cK σ_6 h0 13) && cA σ_6 (SR σ_6 h0 20) 21 x2_10) σ_6) (fun (r_11 : Int32) (b_11 : Bool) (σ_11 : Sto) => (lt_ (pI σ_11 (SR σ_6 h0 20) (ix (x2_10 - (1 : Int32))) r_11) (fun (σ_12 : Sto) => (J157 x2_10 (b_11 && cA σ_11 (SR σ_6 h0 20) 21 (x2_10 - (1 : Int32))) σ_12)))))))) else (lt_ (fun (s0_86 : Int32) (s1_86 : Int32) (s2_86 : Nat) (b : Bool) (σ : Sto) => (lt_ (pI σ s2_86 (ix s1_86) s0_86) (fun (σ_13 : Sto) => (lt_ (x2 + (1 : Int32)) (fun (x2_14 : Int32) => (J157 x2_14 (b && cA σ s2_86 21 s1_86) σ_13)))))) (fun J86 => (if x4_5 = 0 then (J86 x5_7 x2 (SR σ_6 h0 20) ((b_6 && cA σ_6 (SR σ_4 h0 0) 21 (((r_6 + (5 : Int32)) + ((2 : Int32) * x3)) + (1 : Int32))) && cK σ_6 h0 13) σ_6) else (J86 (SI σ_6 (SR σ_6 h0 19) (ix x5_7)) x2 (SR σ_6 h0 20) ((((b_6 && cA σ_6 (SR σ_4 h0 0) 21 (((r_6 + (5 : Int32)) + ((2 : Int32) * x3)) + (1 : Int32))) && cK σ_6 h0 13) && cK σ_6 h0 13) && cA σ_6 (SR σ_6 h0 19) 21 x5_7) σ_6))))))))))))))) else ((SI σ_3 (SR σ_3 h0 20) (ix (0 : Int32))), (((b_3 && cA σ_3 (SR σ h0 0) 21 (r_3 + (4 : Int32))) && cK σ_3 h0 13) && cA σ_3 (SR σ_3 h0 20) 21 (0 : Int32)), σ_3))))
def f_Model_worked (h0 : Nat) (x1 : Int32) (b : Bool) (σ : Sto) : Rs Int32 := (lt_ (0 : Int32) (fun (x2_1 : Int32) => (lt_ (0 : Int32) (fun (x3_2 : Int32) => (lp_ (b_Model_worked_4 h0 x1) (fun (x2 : Int32) (x3 : Int32) (b : Bool) (σ : Sto) => (0, false, σ)) fuel_ x2_1 x3_2 b σ)))))
set_option maxRecDepth 100000 in
set_option maxHeartbeats 4000000 in
theorem s_Model_worked : ∀ (h0 : Nat) (x1 : Int32) (b : Bool) (σ : Sto), Snd M_Model_worked 2 0 0 [vR h0, vI x1] b σ (tI (f_Model_worked h0 x1 b σ).1) (f_Model_worked h0 x1 b σ).2.1 (f_Model_worked h0 x1 b σ).2.2 := by
  intro h0 x1 b σ
  refine Snd_of (tv := tI) (by decide) (Nat.le_of_ble_eq_true rfl) ?_
  show V M_Model_worked 2 0 0 0 0 tI (f_Model_worked h0 x1 b σ) 0 [(0, vR h0), (1, vI x1)] [] b σ
  unfold f_Model_worked
  refine V_iconst 1 rfl (show decode M_Model_worked.2.1 0 = .ok (.iconst 0, 1) by decide +kernel) (v := 0) rfl ?_
  refine V_istore_n (fun x2_1 => [(2, vI x2_1), (0, vR h0), (1, vI x1)]) 2 rfl (show decode M_Model_worked.2.1 1 = .ok (.istore_n 2, 1) by decide +kernel) (by decide) (fun _ => rfl) (fun x2_1 => ?_)
  refine V_iconst 3 rfl (show decode M_Model_worked.2.1 2 = .ok (.iconst 0, 1) by decide +kernel) (v := 0) rfl ?_
  refine V_istore_n (fun x3_2 => [(3, vI x3_2), (2, vI x2_1), (0, vR h0), (1, vI x1)]) 4 rfl (show decode M_Model_worked.2.1 3 = .ok (.istore_n 3, 1) by decide +kernel) (by decide) (fun _ => rfl) (fun x3_2 => ?_)
  refine V_sub [2, 3, 1, 0] rfl ?_
  refine lp_P (fun (L4 : Int32 → Int32 → Bool → Sto → Rs Int32) => ∀ (x2 : Int32) (x3 : Int32) (b : Bool) (σ : Sto), V M_Model_worked 2 0 0 0 0 tI (L4 x2 x3 b σ) 4 [(0, vR h0), (1, vI x1), (2, vI x2), (3, vI x3)] [] b σ) ?_ ?_ fuel_ x2_1 x3_2 b σ
  · intro x2 x3 b σ; exact V_bad
  · intro L4 hL4 x2 x3 b σ
    unfold b_Model_worked_4
    refine V_iload_n 5 rfl (show decode M_Model_worked.2.1 4 = .ok (.iload_n 3, 1) by decide +kernel) 3 rfl ?_
    refine V_aload_n 6 rfl (show decode M_Model_worked.2.1 5 = .ok (.aload_n 0, 1) by decide +kernel) 0 rfl ?_
    refine V_get (j := 0) (v := vR (SR σ h0 0)) 9 rfl ck_Model (by decide) (by decide) (show decode M_Model_worked.2.1 6 = .ok (.getfield 7, 3) by decide +kernel) wd_1504 rfl ?_
    refine V_aload_n 10 rfl (show decode M_Model_worked.2.1 9 = .ok (.aload_n 0, 1) by decide +kernel) 0 rfl ?_
    refine V_iload_n 11 rfl (show decode M_Model_worked.2.1 10 = .ok (.iload_n 1, 1) by decide +kernel) 1 rfl ?_
    refine V_callV (tb := tI) (as := [vI x1]) (rest := [vR (SR σ h0 0), vI x3]) (na := 1) 14 rfl ck_Model (by decide) (s_Model_textAt h0 x1 ((b && cK σ h0 13) && cK σ h0 13) σ) rfl rfl (Nat.le_of_ble_eq_true rfl) (cal_Model_textAt _ _ _ _ _ (by decide) (by decide) (by decide)) (show decode M_Model_worked.2.1 11 = .ok (.invokevirtual 236, 3) by decide +kernel) wd_1748 wd_1750 wd_127 (fun r_3 b_3 σ_3 => ?_)
    show V M_Model_worked 2 0 0 0 0 tI _ 14 [(0, vR h0), (1, vI x1), (2, vI x2), (3, vI x3)] [vI r_3, vR (SR σ h0 0), vI x3] b_3 σ_3
    refine V_iconst 15 rfl (show decode M_Model_worked.2.1 14 = .ok (.iconst 4, 1) by decide +kernel) (v := 4) rfl ?_
    refine V_iadd 16 rfl (show decode M_Model_worked.2.1 15 = .ok (.iadd, 1) by decide +kernel) ?_
    refine V_ald_int 17 rfl (show decode M_Model_worked.2.1 16 = .ok (.iaload, 1) by decide +kernel) ?_
    refine V_icmpge 20 163 rfl (show decode M_Model_worked.2.1 17 = .ok (.if_icmp .ge 146, 3) by decide +kernel) rfl ?_ ?_
    · skip
      refine V_aload_n 21 rfl (show decode M_Model_worked.2.1 20 = .ok (.aload_n 0, 1) by decide +kernel) 0 rfl ?_
      refine V_get (j := 0) (v := vR (SR σ_3 h0 0)) 24 rfl ck_Model (by decide) (by decide) (show decode M_Model_worked.2.1 21 = .ok (.getfield 7, 3) by decide +kernel) wd_1504 rfl ?_
      refine V_aload_n 25 rfl (show decode M_Model_worked.2.1 24 = .ok (.aload_n 0, 1) by decide +kernel) 0 rfl ?_
      refine V_iload_n 26 rfl (show decode M_Model_worked.2.1 25 = .ok (.iload_n 1, 1) by decide +kernel) 1 rfl ?_
      refine V_callV (tb := tI) (as := [vI x1]) (rest := [vR (SR σ_3 h0 0)]) (na := 1) 29 rfl ck_Model (by decide) (s_Model_textAt h0 x1 (((b_3 && cA σ_3 (SR σ h0 0) 21 (r_3 + (4 : Int32))) && cK σ_3 h0 13) && cK σ_3 h0 13) σ_3) rfl rfl (Nat.le_of_ble_eq_true rfl) (cal_Model_textAt _ _ _ _ _ (by decide) (by decide) (by decide)) (show decode M_Model_worked.2.1 26 = .ok (.invokevirtual 236, 3) by decide +kernel) wd_1748 wd_1750 wd_127 (fun r_4 b_4 σ_4 => ?_)
      show V M_Model_worked 2 0 0 0 0 tI _ 29 [(0, vR h0), (1, vI x1), (2, vI x2), (3, vI x3)] [vI r_4, vR (SR σ_3 h0 0)] b_4 σ_4
      refine V_iconst 30 rfl (show decode M_Model_worked.2.1 29 = .ok (.iconst 5, 1) by decide +kernel) (v := 5) rfl ?_
      refine V_iadd 31 rfl (show decode M_Model_worked.2.1 30 = .ok (.iadd, 1) by decide +kernel) ?_
      refine V_iconst 32 rfl (show decode M_Model_worked.2.1 31 = .ok (.iconst 2, 1) by decide +kernel) (v := 2) rfl ?_
      refine V_iload_n 33 rfl (show decode M_Model_worked.2.1 32 = .ok (.iload_n 3, 1) by decide +kernel) 3 rfl ?_
      refine V_imul 34 rfl (show decode M_Model_worked.2.1 33 = .ok (.imul, 1) by decide +kernel) ?_
      refine V_iadd 35 rfl (show decode M_Model_worked.2.1 34 = .ok (.iadd, 1) by decide +kernel) ?_
      refine V_ald_int 36 rfl (show decode M_Model_worked.2.1 35 = .ok (.iaload, 1) by decide +kernel) ?_
      refine V_istore (fun x4_5 => [(4, vI x4_5), (0, vR h0), (1, vI x1), (2, vI x2), (3, vI x3)]) 38 rfl (show decode M_Model_worked.2.1 36 = .ok (.istore 4, 2) by decide +kernel) (by decide) (fun _ => rfl) (fun x4_5 => ?_)
      refine V_aload_n 39 rfl (show decode M_Model_worked.2.1 38 = .ok (.aload_n 0, 1) by decide +kernel) 1 rfl ?_
      refine V_get (j := 0) (v := vR (SR σ_4 h0 0)) 42 rfl ck_Model (by decide) (by decide) (show decode M_Model_worked.2.1 39 = .ok (.getfield 7, 3) by decide +kernel) wd_1504 rfl ?_
      refine V_aload_n 43 rfl (show decode M_Model_worked.2.1 42 = .ok (.aload_n 0, 1) by decide +kernel) 1 rfl ?_
      refine V_iload_n 44 rfl (show decode M_Model_worked.2.1 43 = .ok (.iload_n 1, 1) by decide +kernel) 2 rfl ?_
      refine V_callV (tb := tI) (as := [vI x1]) (rest := [vR (SR σ_4 h0 0)]) (na := 1) 47 rfl ck_Model (by decide) (s_Model_textAt h0 x1 (((b_4 && cA σ_4 (SR σ_3 h0 0) 21 ((r_4 + (5 : Int32)) + ((2 : Int32) * x3))) && cK σ_4 h0 13) && cK σ_4 h0 13) σ_4) rfl rfl (Nat.le_of_ble_eq_true rfl) (cal_Model_textAt _ _ _ _ _ (by decide) (by decide) (by decide)) (show decode M_Model_worked.2.1 44 = .ok (.invokevirtual 236, 3) by decide +kernel) wd_1748 wd_1750 wd_127 (fun r_6 b_6 σ_6 => ?_)
      show V M_Model_worked 2 0 0 0 0 tI _ 47 [(4, vI x4_5), (0, vR h0), (1, vI x1), (2, vI x2), (3, vI x3)] [vI r_6, vR (SR σ_4 h0 0)] b_6 σ_6
      refine V_iconst 48 rfl (show decode M_Model_worked.2.1 47 = .ok (.iconst 5, 1) by decide +kernel) (v := 5) rfl ?_
      refine V_iadd 49 rfl (show decode M_Model_worked.2.1 48 = .ok (.iadd, 1) by decide +kernel) ?_
      refine V_iconst 50 rfl (show decode M_Model_worked.2.1 49 = .ok (.iconst 2, 1) by decide +kernel) (v := 2) rfl ?_
      refine V_iload_n 51 rfl (show decode M_Model_worked.2.1 50 = .ok (.iload_n 3, 1) by decide +kernel) 4 rfl ?_
      refine V_imul 52 rfl (show decode M_Model_worked.2.1 51 = .ok (.imul, 1) by decide +kernel) ?_
      refine V_iadd 53 rfl (show decode M_Model_worked.2.1 52 = .ok (.iadd, 1) by decide +kernel) ?_
      refine V_iconst 54 rfl (show decode M_Model_worked.2.1 53 = .ok (.iconst 1, 1) by decide +kernel) (v := 1) rfl ?_
      refine V_iadd 55 rfl (show decode M_Model_worked.2.1 54 = .ok (.iadd, 1) by decide +kernel) ?_
      refine V_ald_int 56 rfl (show decode M_Model_worked.2.1 55 = .ok (.iaload, 1) by decide +kernel) ?_
      refine V_istore (fun x5_7 => [(5, vI x5_7), (4, vI x4_5), (0, vR h0), (1, vI x1), (2, vI x2), (3, vI x3)]) 58 rfl (show decode M_Model_worked.2.1 56 = .ok (.istore 5, 2) by decide +kernel) (by decide) (fun _ => rfl) (fun x5_7 => ?_)
      refine V_iload 60 rfl (show decode M_Model_worked.2.1 58 = .ok (.iload 4, 2) by decide +kernel) 1 rfl ?_
      refine V_iconst 61 rfl (show decode M_Model_worked.2.1 60 = .ok (.iconst 2, 1) by decide +kernel) (v := 2) rfl ?_
      refine V_jn (fun (J157 : Int32 → Bool → Sto → Rs Int32) => ∀ (x2_157 : Int32) (b : Bool) (σ : Sto), V M_Model_worked 2 0 0 0 0 tI (J157 x2_157 b σ) 157 [(0, vR h0), (1, vI x1), (2, vI x2_157), (3, vI x3)] [] b σ) ?_ (fun J157 hJ157 => ?_)
      · intro x2_157 b σ
        refine V_iinc (fun x3_8 => [(3, vI x3_8), (0, vR h0), (1, vI x1), (2, vI x2_157)]) 160 rfl (show decode M_Model_worked.2.1 157 = .ok (.iinc 3 1, 3) by decide +kernel) 3 rfl (w := 1) rfl (by decide) (fun _ => rfl) (fun x3_8 => ?_)
        refine V_goto 4 (show decode M_Model_worked.2.1 160 = .ok (.goto (-156), 3) by decide +kernel) rfl ?_
        exact V_sub [1, 2, 3, 0] rfl (hL4 x2_157 x3_8 b σ)
      · skip
        refine V_icmpeq 64 93 rfl (show decode M_Model_worked.2.1 61 = .ok (.if_icmp .eq 32, 3) by decide +kernel) rfl ?_ ?_
        · skip
          refine V_iload 95 rfl (show decode M_Model_worked.2.1 93 = .ok (.iload 5, 2) by decide +kernel) 0 rfl ?_
          refine V_bipush 97 rfl (show decode M_Model_worked.2.1 95 = .ok (.bipush 33, 2) by decide +kernel) (v := 33) rfl ?_
          refine V_icmpne 100 127 rfl (show decode M_Model_worked.2.1 97 = .ok (.if_icmp .ne 30, 3) by decide +kernel) rfl ?_ ?_
          · skip
            refine V_aload_n 101 rfl (show decode M_Model_worked.2.1 100 = .ok (.aload_n 0, 1) by decide +kernel) 2 rfl ?_
            refine V_get (j := 20) (v := vR (SR σ_6 h0 20)) 104 rfl ck_Model (by decide) (by decide) (show decode M_Model_worked.2.1 101 = .ok (.getfield 35, 3) by decide +kernel) wd_1524 rfl ?_
            refine V_iload_n 105 rfl (show decode M_Model_worked.2.1 104 = .ok (.iload_n 2, 1) by decide +kernel) 4 rfl ?_
            refine V_iconst 106 rfl (show decode M_Model_worked.2.1 105 = .ok (.iconst 1, 1) by decide +kernel) (v := 1) rfl ?_
            refine V_isub 107 rfl (show decode M_Model_worked.2.1 106 = .ok (.isub, 1) by decide +kernel) ?_
            refine V_aload_n 108 rfl (show decode M_Model_worked.2.1 107 = .ok (.aload_n 0, 1) by decide +kernel) 2 rfl ?_
            refine V_get (j := 20) (v := vR (SR σ_6 h0 20)) 111 rfl ck_Model (by decide) (by decide) (show decode M_Model_worked.2.1 108 = .ok (.getfield 35, 3) by decide +kernel) wd_1524 rfl ?_
            refine V_iload_n 112 rfl (show decode M_Model_worked.2.1 111 = .ok (.iload_n 2, 1) by decide +kernel) 4 rfl ?_
            refine V_iconst 113 rfl (show decode M_Model_worked.2.1 112 = .ok (.iconst 1, 1) by decide +kernel) (v := 1) rfl ?_
            refine V_isub 114 rfl (show decode M_Model_worked.2.1 113 = .ok (.isub, 1) by decide +kernel) ?_
            refine V_ald_int 115 rfl (show decode M_Model_worked.2.1 114 = .ok (.iaload, 1) by decide +kernel) ?_
            refine V_jn (fun (J123 : Int32 → Int32 → Nat → Bool → Sto → Rs Int32) => ∀ (s0_123 : Int32) (s1_123 : Int32) (s2_123 : Nat) (b : Bool) (σ : Sto), V M_Model_worked 2 0 0 0 0 tI (J123 s0_123 s1_123 s2_123 b σ) 123 [(0, vR h0), (1, vI x1), (2, vI x2), (3, vI x3)] [vI s0_123, vI s1_123, vR s2_123] b σ) ?_ (fun J123 hJ123 => ?_)
            · intro s0_123 s1_123 s2_123 b σ
              refine V_ast_int 124 rfl (show decode M_Model_worked.2.1 123 = .ok (.iastore, 1) by decide +kernel) (fun σ_9 => ?_)
              refine V_goto 157 (show decode M_Model_worked.2.1 124 = .ok (.goto 33, 3) by decide +kernel) rfl ?_
              exact V_sub [0, 1, 2, 3] rfl (hJ157 x2 (b && cA σ s2_123 21 s1_123) σ_9)
            · skip
              refine V_ifne 118 122 rfl (show decode M_Model_worked.2.1 115 = .ok (.ifCond .ne 7, 3) by decide +kernel) rfl ?_ ?_
              · skip
                refine V_iconst 119 rfl (show decode M_Model_worked.2.1 118 = .ok (.iconst 1, 1) by decide +kernel) (v := 1) rfl ?_
                refine V_goto 123 (show decode M_Model_worked.2.1 119 = .ok (.goto 4, 3) by decide +kernel) rfl ?_
                exact V_sub [2, 3, 4, 5] rfl (hJ123 (1 : Int32) (x2 - (1 : Int32)) (SR σ_6 h0 20) ((((b_6 && cA σ_6 (SR σ_4 h0 0) 21 (((r_6 + (5 : Int32)) + ((2 : Int32) * x3)) + (1 : Int32))) && cK σ_6 h0 13) && cK σ_6 h0 13) && cA σ_6 (SR σ_6 h0 20) 21 (x2 - (1 : Int32))) σ_6)
              · skip
                refine V_iconst 123 rfl (show decode M_Model_worked.2.1 122 = .ok (.iconst 0, 1) by decide +kernel) (v := 0) rfl ?_
                exact V_sub [2, 3, 4, 5] rfl (hJ123 (0 : Int32) (x2 - (1 : Int32)) (SR σ_6 h0 20) ((((b_6 && cA σ_6 (SR σ_4 h0 0) 21 (((r_6 + (5 : Int32)) + ((2 : Int32) * x3)) + (1 : Int32))) && cK σ_6 h0 13) && cK σ_6 h0 13) && cA σ_6 (SR σ_6 h0 20) 21 (x2 - (1 : Int32))) σ_6)
          · skip
            refine V_iinc (fun x2_10 => [(2, vI x2_10), (5, vI x5_7), (4, vI x4_5), (0, vR h0), (1, vI x1), (3, vI x3)]) 130 rfl (show decode M_Model_worked.2.1 127 = .ok (.iinc 2 (-1), 3) by decide +kernel) 4 rfl (w := -1) rfl (by decide) (fun _ => rfl) (fun x2_10 => ?_)
            refine V_aload_n 131 rfl (show decode M_Model_worked.2.1 130 = .ok (.aload_n 0, 1) by decide +kernel) 3 rfl ?_
            refine V_get (j := 20) (v := vR (SR σ_6 h0 20)) 134 rfl ck_Model (by decide) (by decide) (show decode M_Model_worked.2.1 131 = .ok (.getfield 35, 3) by decide +kernel) wd_1524 rfl ?_
            refine V_iload_n 135 rfl (show decode M_Model_worked.2.1 134 = .ok (.iload_n 2, 1) by decide +kernel) 0 rfl ?_
            refine V_iconst 136 rfl (show decode M_Model_worked.2.1 135 = .ok (.iconst 1, 1) by decide +kernel) (v := 1) rfl ?_
            refine V_isub 137 rfl (show decode M_Model_worked.2.1 136 = .ok (.isub, 1) by decide +kernel) ?_
            refine V_iload 139 rfl (show decode M_Model_worked.2.1 137 = .ok (.iload 5, 2) by decide +kernel) 1 rfl ?_
            refine V_aload_n 140 rfl (show decode M_Model_worked.2.1 139 = .ok (.aload_n 0, 1) by decide +kernel) 3 rfl ?_
            refine V_get (j := 20) (v := vR (SR σ_6 h0 20)) 143 rfl ck_Model (by decide) (by decide) (show decode M_Model_worked.2.1 140 = .ok (.getfield 35, 3) by decide +kernel) wd_1524 rfl ?_
            refine V_iload_n 144 rfl (show decode M_Model_worked.2.1 143 = .ok (.iload_n 2, 1) by decide +kernel) 0 rfl ?_
            refine V_iconst 145 rfl (show decode M_Model_worked.2.1 144 = .ok (.iconst 1, 1) by decide +kernel) (v := 1) rfl ?_
            refine V_isub 146 rfl (show decode M_Model_worked.2.1 145 = .ok (.isub, 1) by decide +kernel) ?_
            refine V_ald_int 147 rfl (show decode M_Model_worked.2.1 146 = .ok (.iaload, 1) by decide +kernel) ?_
            refine V_aload_n 148 rfl (show decode M_Model_worked.2.1 147 = .ok (.aload_n 0, 1) by decide +kernel) 3 rfl ?_
            refine V_get (j := 20) (v := vR (SR σ_6 h0 20)) 151 rfl ck_Model (by decide) (by decide) (show decode M_Model_worked.2.1 148 = .ok (.getfield 35, 3) by decide +kernel) wd_1524 rfl ?_
            refine V_iload_n 152 rfl (show decode M_Model_worked.2.1 151 = .ok (.iload_n 2, 1) by decide +kernel) 0 rfl ?_
            refine V_ald_int 153 rfl (show decode M_Model_worked.2.1 152 = .ok (.iaload, 1) by decide +kernel) ?_
            refine V_callS (tb := tI) (as := [vI x5_7, vI (SI σ_6 (SR σ_6 h0 20) (ix (x2_10 - (1 : Int32)))), vI (SI σ_6 (SR σ_6 h0 20) (ix x2_10))]) (rest := [vI (x2_10 - (1 : Int32)), vR (SR σ_6 h0 20)]) (na := 3) 156 rfl (s_Model_joined x5_7 (SI σ_6 (SR σ_6 h0 20) (ix (x2_10 - (1 : Int32)))) (SI σ_6 (SR σ_6 h0 20) (ix x2_10)) ((((((b_6 && cA σ_6 (SR σ_4 h0 0) 21 (((r_6 + (5 : Int32)) + ((2 : Int32) * x3)) + (1 : Int32))) && cK σ_6 h0 13) && cK σ_6 h0 13) && cA σ_6 (SR σ_6 h0 20) 21 (x2_10 - (1 : Int32))) && cK σ_6 h0 13) && cA σ_6 (SR σ_6 h0 20) 21 x2_10) σ_6) rfl rfl (Nat.le_of_ble_eq_true rfl) (cal_Model_joined _ _ _ _ _ (by decide) (by decide) (by decide)) (show decode M_Model_worked.2.1 153 = .ok (.invokestatic 254, 3) by decide +kernel) wd_1919 wd_1920 (fun r_11 b_11 σ_11 => ?_)
            show V M_Model_worked 2 0 0 0 0 tI _ 156 [(2, vI x2_10), (5, vI x5_7), (4, vI x4_5), (0, vR h0), (1, vI x1), (3, vI x3)] [vI r_11, vI (x2_10 - (1 : Int32)), vR (SR σ_6 h0 20)] b_11 σ_11
            refine V_ast_int 157 rfl (show decode M_Model_worked.2.1 156 = .ok (.iastore, 1) by decide +kernel) (fun σ_12 => ?_)
            exact V_sub [3, 4, 0, 5] rfl (hJ157 x2_10 (b_11 && cA σ_11 (SR σ_6 h0 20) 21 (x2_10 - (1 : Int32))) σ_12)
        · skip
          refine V_aload_n 65 rfl (show decode M_Model_worked.2.1 64 = .ok (.aload_n 0, 1) by decide +kernel) 2 rfl ?_
          refine V_get (j := 20) (v := vR (SR σ_6 h0 20)) 68 rfl ck_Model (by decide) (by decide) (show decode M_Model_worked.2.1 65 = .ok (.getfield 35, 3) by decide +kernel) wd_1524 rfl ?_
          refine V_iload_n 69 rfl (show decode M_Model_worked.2.1 68 = .ok (.iload_n 2, 1) by decide +kernel) 4 rfl ?_
          refine V_iload 71 rfl (show decode M_Model_worked.2.1 69 = .ok (.iload 4, 2) by decide +kernel) 1 rfl ?_
          refine V_jn (fun (J86 : Int32 → Int32 → Nat → Bool → Sto → Rs Int32) => ∀ (s0_86 : Int32) (s1_86 : Int32) (s2_86 : Nat) (b : Bool) (σ : Sto), V M_Model_worked 2 0 0 0 0 tI (J86 s0_86 s1_86 s2_86 b σ) 86 [(0, vR h0), (1, vI x1), (2, vI x2), (3, vI x3)] [vI s0_86, vI s1_86, vR s2_86] b σ) ?_ (fun J86 hJ86 => ?_)
          · intro s0_86 s1_86 s2_86 b σ
            refine V_ast_int 87 rfl (show decode M_Model_worked.2.1 86 = .ok (.iastore, 1) by decide +kernel) (fun σ_13 => ?_)
            refine V_iinc (fun x2_14 => [(2, vI x2_14), (0, vR h0), (1, vI x1), (3, vI x3)]) 90 rfl (show decode M_Model_worked.2.1 87 = .ok (.iinc 2 1, 3) by decide +kernel) 2 rfl (w := 1) rfl (by decide) (fun _ => rfl) (fun x2_14 => ?_)
            refine V_goto 157 (show decode M_Model_worked.2.1 90 = .ok (.goto 67, 3) by decide +kernel) rfl ?_
            exact V_sub [1, 2, 0, 3] rfl (hJ157 x2_14 (b && cA σ s2_86 21 s1_86) σ_13)
          · skip
            refine V_ifne 74 79 rfl (show decode M_Model_worked.2.1 71 = .ok (.ifCond .ne 8, 3) by decide +kernel) rfl ?_ ?_
            · skip
              refine V_iload 76 rfl (show decode M_Model_worked.2.1 74 = .ok (.iload 5, 2) by decide +kernel) 0 rfl ?_
              refine V_goto 86 (show decode M_Model_worked.2.1 76 = .ok (.goto 10, 3) by decide +kernel) rfl ?_
              exact V_sub [2, 3, 4, 5] rfl (hJ86 x5_7 x2 (SR σ_6 h0 20) ((b_6 && cA σ_6 (SR σ_4 h0 0) 21 (((r_6 + (5 : Int32)) + ((2 : Int32) * x3)) + (1 : Int32))) && cK σ_6 h0 13) σ_6)
            · skip
              refine V_aload_n 80 rfl (show decode M_Model_worked.2.1 79 = .ok (.aload_n 0, 1) by decide +kernel) 2 rfl ?_
              refine V_get (j := 19) (v := vR (SR σ_6 h0 19)) 83 rfl ck_Model (by decide) (by decide) (show decode M_Model_worked.2.1 80 = .ok (.getfield 32, 3) by decide +kernel) wd_1523 rfl ?_
              refine V_iload 85 rfl (show decode M_Model_worked.2.1 83 = .ok (.iload 5, 2) by decide +kernel) 0 rfl ?_
              refine V_ald_int 86 rfl (show decode M_Model_worked.2.1 85 = .ok (.iaload, 1) by decide +kernel) ?_
              exact V_sub [2, 3, 4, 5] rfl (hJ86 (SI σ_6 (SR σ_6 h0 19) (ix x5_7)) x2 (SR σ_6 h0 20) ((((b_6 && cA σ_6 (SR σ_4 h0 0) 21 (((r_6 + (5 : Int32)) + ((2 : Int32) * x3)) + (1 : Int32))) && cK σ_6 h0 13) && cK σ_6 h0 13) && cA σ_6 (SR σ_6 h0 19) 21 x5_7) σ_6)
    · skip
      refine V_aload_n 164 rfl (show decode M_Model_worked.2.1 163 = .ok (.aload_n 0, 1) by decide +kernel) 0 rfl ?_
      refine V_get (j := 20) (v := vR (SR σ_3 h0 20)) 167 rfl ck_Model (by decide) (by decide) (show decode M_Model_worked.2.1 164 = .ok (.getfield 35, 3) by decide +kernel) wd_1524 rfl ?_
      refine V_iconst 168 rfl (show decode M_Model_worked.2.1 167 = .ok (.iconst 0, 1) by decide +kernel) (v := 0) rfl ?_
      refine V_ald_int 169 rfl (show decode M_Model_worked.2.1 168 = .ok (.iaload, 1) by decide +kernel) ?_
      exact V_iret rfl (by decide) (by decide) (show decode M_Model_worked.2.1 169 = .ok (.ireturn, 1) by decide +kernel)
theorem cal_Model_worked (d mc ms k n : Nat) (h1 : 2 + 1 ≤ d) (h2 : k + 0 ≤ mc) (h3 : n + 0 ≤ ms) : Cal M_Model_worked 2 0 0 1 d mc ms k n := ⟨wd_1918, wd_181, by decide, h1, by decide, h2, h3⟩
abbrev M_Model_night : MD := (⟨"LongTrailModel", "night", "()V"⟩, prog_14_method_78_code, 8, (none : Option FieldType))
def b_Model_night_88 (h0 : Nat) (x1 : Int32) (x2_5 : Int32) (x4_8 : Int32) (x5_10 : Int32) (J246 : Bool → Sto → Rs Unit) (L88 : Int32 → Int32 → Bool → Sto → Rs Unit) (x6 : Int32) (x7 : Int32) (b : Bool) (σ : Sto) : Rs Unit := (if x7 < x1 then (bd_ (f_Model_walks h0 x7 (b && cK σ h0 13) σ) (fun (r_13 : Int32) (b_13 : Bool) (σ_13 : Sto) => (lt_ (fun (s0_127 : Int32) (s1_127 : Int32) (b : Bool) (σ : Sto) => (lt_ (s1_127 + s0_127) (fun (x6_14 : Int32) => (lt_ (x7 + (1 : Int32)) (fun (x7_15 : Int32) => (L88 x6_14 x7_15 b σ)))))) (fun J127 => (lt_ (fun (s0_126 : Int32) (b : Bool) (σ : Sto) => (J127 (0 : Int32) s0_126 b σ)) (fun J126 => (if r_13 = 0 then (J126 x6 b_13 σ_13) else (bd_ (f_Model_walkerAt h0 x7 ((b_13 && cK σ_13 h0 13) && cK σ_13 h0 13) σ_13) (fun (r_16 : Int32) (b_16 : Bool) (σ_16 : Sto) => (if (SI σ_16 (SR σ_13 h0 0) (ix (r_16 + (1 : Int32)))) = x2_5 then (J127 (1 : Int32) x6 (b_16 && cA σ_16 (SR σ_13 h0 0) 21 (r_16 + (1 : Int32))) σ_16) else (J126 x6 (b_16 && cA σ_16 (SR σ_13 h0 0) 21 (r_16 + (1 : Int32))) σ_16))))))))))) else (lt_ (fun (s0_155 : Int32) (s1_155 : Nat) (b : Bool) (σ : Sto) => (lt_ (pI σ s1_155 21 s0_155) (fun (σ_17 : Sto) => (if x6 < x4_8 then (J246 (b && cK σ s1_155 13) σ_17) else (bd_ (f_Model_landOf h0 x2_5 ((b && cK σ s1_155 13) && cK σ_17 h0 13) σ_17) (fun (r_18 : Int32) (b_18 : Bool) (σ_18 : Sto) => (bd_ (f_Model_counts h0 r_18 (0 : Int32) (b_18 && cK σ_18 h0 13) σ_18) (fun (r_19 : Int32) (b_19 : Bool) (σ_19 : Sto) => (lt_ r_19 (fun (x7_20 : Int32) => (lt_ (pI σ_19 (SR σ_19 h0 19) (ix (109 : Int32)) x2_5) (fun (σ_21 : Sto) => (lt_ (pI σ_21 (SR σ_21 h0 19) (ix (110 : Int32)) x5_10) (fun (σ_22 : Sto) => (bd_ (f_Model_walkerAt h0 x1 ((((((b_19 && cK σ_19 h0 13) && cA σ_19 (SR σ_19 h0 19) 21 (109 : Int32)) && cK σ_21 h0 13) && cA σ_21 (SR σ_21 h0 19) 21 (110 : Int32)) && cK σ_22 h0 13) && cK σ_22 h0 13) σ_22) (fun (r_23 : Int32) (b_23 : Bool) (σ_23 : Sto) => (lt_ (pI σ_23 (SR σ_22 h0 0) (ix (r_23 + (11 : Int32))) ((SI σ_23 (SR σ_22 h0 0) (ix (r_23 + (11 : Int32)))) + (1 : Int32))) (fun (σ_24 : Sto) => (bd_ (f_Model_walkerAt h0 x1 ((((b_23 && cA σ_23 (SR σ_22 h0 0) 21 (r_23 + (11 : Int32))) && cA σ_23 (SR σ_22 h0 0) 21 (r_23 + (11 : Int32))) && cK σ_24 h0 13) && cK σ_24 h0 13) σ_24) (fun (r_25 : Int32) (b_25 : Bool) (σ_25 : Sto) => (lt_ (fun (s0_244 : Int32) (s1_244 : Int32) (s2_244 : Int32) (s3_244 : Nat) (b : Bool) (σ : Sto) => (lt_ (pI σ s3_244 (ix s2_244) (s1_244 + s0_244)) (fun (σ_26 : Sto) => (J246 (b && cA σ s3_244 21 s2_244) σ_26)))) (fun J244 => (lt_ (fun (s0_243 : Int32) (s1_243 : Int32) (s2_243 : Nat) (b : Bool) (σ : Sto) => (J244 (0 : Int32) s0_243 s1_243 s2_243 b σ)) (fun J243 => (if x7_20 < 0 then (J243 (SI σ_25 (SR σ_24 h0 0) (ix (r_25 + (12 : Int32)))) (r_25 + (12 : Int32)) (SR σ_24 h0 0) (b_25 && cA σ_25 (SR σ_24 h0 0) 21 (r_25 + (12 : Int32))) σ_25) else (bd_ (f_Model_worked h0 x7_20 ((b_25 && cA σ_25 (SR σ_24 h0 0) 21 (r_25 + (12 : Int32))) && cK σ_25 h0 13) σ_25) (fun (r_27 : Int32) (b_27 : Bool) (σ_27 : Sto) => (if r_27 = 0 then (J244 (1 : Int32) (SI σ_25 (SR σ_24 h0 0) (ix (r_25 + (12 : Int32)))) (r_25 + (12 : Int32)) (SR σ_24 h0 0) b_27 σ_27) else (J243 (SI σ_25 (SR σ_24 h0 0) (ix (r_25 + (12 : Int32)))) (r_25 + (12 : Int32)) (SR σ_24 h0 0) b_27 σ_27))))))))))))))))))))))))))))) (fun J155 => (if (SI σ h0 21) < x5_10 then (J155 x5_10 h0 (b && cK σ h0 13) σ) else (J155 (SI σ h0 21) h0 ((b && cK σ h0 13) && cK σ h0 13) σ)))))
def b_Model_night_2 (h0 : Nat) (L2 : Int32 → Bool → Sto → Rs Unit) (x1 : Int32) (b : Bool) (σ : Sto) : Rs Unit := (if x1 < (SI σ (SR σ h0 0) (ix (5 : Int32))) then (bd_ (f_Model_walks h0 x1 (((b && cK σ h0 13) && cA σ (SR σ h0 0) 21 (5 : Int32)) && cK σ h0 13) σ) (fun (r_2 : Int32) (b_2 : Bool) (σ_2 : Sto) => (lt_ (fun (b : Bool) (σ : Sto) => (lt_ (x1 + (1 : Int32)) (fun (x1_3 : Int32) => (L2 x1_3 b σ)))) (fun J246 => (if r_2 = 0 then (J246 b_2 σ_2) else (bd_ (f_Model_walkerAt h0 x1 ((b_2 && cK σ_2 h0 13) && cK σ_2 h0 13) σ_2) (fun (r_4 : Int32) (b_4 : Bool) (σ_4 : Sto) => (lt_ (SI σ_4 (SR σ_2 h0 0) (ix (r_4 + (1 : Int32)))) (fun (x2_5 : Int32) => (bd_ (f_Model_placeOn h0 x2_5 ((b_4 && cA σ_4 (SR σ_2 h0 0) 21 (r_4 + (1 : Int32))) && cK σ_4 h0 13) σ_4) (fun (r_6 : Int32) (b_6 : Bool) (σ_6 : Sto) => (lt_ r_6 (fun (x3_7 : Int32) => (lt_ (fun (s0_73 : Int32) (b : Bool) (σ : Sto) => (lt_ s0_73 (fun (x4_8 : Int32) => (bd_ (f_Model_walkersOn h0 x2_5 (b && cK σ h0 13) σ) (fun (r_9 : Int32) (b_9 : Bool) (σ_9 : Sto) => (lt_ r_9 (fun (x5_10 : Int32) => (lt_ (0 : Int32) (fun (x6_11 : Int32) => (lt_ (0 : Int32) (fun (x7_12 : Int32) => (lp_ (b_Model_night_88 h0 x1 x2_5 x4_8 x5_10 J246) (fun (x6 : Int32) (x7 : Int32) (b : Bool) (σ : Sto) => ((), false, σ)) fuel_ x6_11 x7_12 b_9 σ_9)))))))))))) (fun J73 => (lt_ (fun (b : Bool) (σ : Sto) => (J73 (0 : Int32) b σ)) (fun J72 => (if x3_7 < 0 then (J72 b_6 σ_6) else (bd_ (f_Model_kindOf h0 x3_7 (b_6 && cK σ_6 h0 13) σ_6) (fun (r_28 : Int32) (b_28 : Bool) (σ_28 : Sto) => (bd_ (f_Model_hasBeds r_28 b_28 σ_28) (fun (r_29 : Int32) (b_29 : Bool) (σ_29 : Sto) => (if r_29 = 0 then (J72 b_29 σ_29) else (bd_ (f_Model_placeAt h0 x3_7 ((b_29 && cK σ_29 h0 13) && cK σ_29 h0 13) σ_29) (fun (r_30 : Int32) (b_30 : Bool) (σ_30 : Sto) => (J73 (SI σ_30 (SR σ_29 h0 0) (ix (r_30 + (2 : Int32)))) (b_30 && cA σ_30 (SR σ_29 h0 0) 21 (r_30 + (2 : Int32))) σ_30)))))))))))))))))))))))))) else ((), ((b && cK σ h0 13) && cA σ (SR σ h0 0) 21 (5 : Int32)), σ))
def f_Model_night (h0 : Nat) (b : Bool) (σ : Sto) : Rs Unit := (lt_ (0 : Int32) (fun (x1_1 : Int32) => (lp_ (b_Model_night_2 h0) (fun (x1 : Int32) (b : Bool) (σ : Sto) => ((), false, σ)) fuel_ x1_1 b σ)))
set_option maxRecDepth 100000 in
set_option maxHeartbeats 4000000 in
theorem s_Model_night : ∀ (h0 : Nat) (b : Bool) (σ : Sto), Snd M_Model_night 4 0 0 [vR h0] b σ (tU (f_Model_night h0 b σ).1) (f_Model_night h0 b σ).2.1 (f_Model_night h0 b σ).2.2 := by
  intro h0 b σ
  refine Snd_of (tv := tU) (by decide) (Nat.le_of_ble_eq_true rfl) ?_
  show V M_Model_night 4 0 0 0 0 tU (f_Model_night h0 b σ) 0 [(0, vR h0)] [] b σ
  unfold f_Model_night
  refine V_iconst 1 rfl (show decode M_Model_night.2.1 0 = .ok (.iconst 0, 1) by decide +kernel) (v := 0) rfl ?_
  refine V_istore_n (fun x1_1 => [(1, vI x1_1), (0, vR h0)]) 2 rfl (show decode M_Model_night.2.1 1 = .ok (.istore_n 1, 1) by decide +kernel) (by decide) (fun _ => rfl) (fun x1_1 => ?_)
  refine V_sub [1, 0] rfl ?_
  refine lp_P (fun (L2 : Int32 → Bool → Sto → Rs Unit) => ∀ (x1 : Int32) (b : Bool) (σ : Sto), V M_Model_night 4 0 0 0 0 tU (L2 x1 b σ) 2 [(0, vR h0), (1, vI x1)] [] b σ) ?_ ?_ fuel_ x1_1 b σ
  · intro x1 b σ; exact V_bad
  · intro L2 hL2 x1 b σ
    unfold b_Model_night_2
    refine V_iload_n 3 rfl (show decode M_Model_night.2.1 2 = .ok (.iload_n 1, 1) by decide +kernel) 1 rfl ?_
    refine V_aload_n 4 rfl (show decode M_Model_night.2.1 3 = .ok (.aload_n 0, 1) by decide +kernel) 0 rfl ?_
    refine V_get (j := 0) (v := vR (SR σ h0 0)) 7 rfl ck_Model (by decide) (by decide) (show decode M_Model_night.2.1 4 = .ok (.getfield 7, 3) by decide +kernel) wd_1504 rfl ?_
    refine V_iconst 8 rfl (show decode M_Model_night.2.1 7 = .ok (.iconst 5, 1) by decide +kernel) (v := 5) rfl ?_
    refine V_ald_int 9 rfl (show decode M_Model_night.2.1 8 = .ok (.iaload, 1) by decide +kernel) ?_
    refine V_icmpge 12 252 rfl (show decode M_Model_night.2.1 9 = .ok (.if_icmp .ge 243, 3) by decide +kernel) rfl ?_ ?_
    · skip
      refine V_aload_n 13 rfl (show decode M_Model_night.2.1 12 = .ok (.aload_n 0, 1) by decide +kernel) 0 rfl ?_
      refine V_iload_n 14 rfl (show decode M_Model_night.2.1 13 = .ok (.iload_n 1, 1) by decide +kernel) 1 rfl ?_
      refine V_callV (tb := tI) (as := [vI x1]) (rest := []) (na := 1) 17 rfl ck_Model (by decide) (s_Model_walks h0 x1 (((b && cK σ h0 13) && cA σ (SR σ h0 0) 21 (5 : Int32)) && cK σ h0 13) σ) rfl rfl (Nat.le_of_ble_eq_true rfl) (cal_Model_walks _ _ _ _ _ (by decide) (by decide) (by decide)) (show decode M_Model_night.2.1 14 = .ok (.invokevirtual 120, 3) by decide +kernel) wd_1669 wd_1671 wd_120 (fun r_2 b_2 σ_2 => ?_)
      show V M_Model_night 4 0 0 0 0 tU _ 17 [(0, vR h0), (1, vI x1)] [vI r_2] b_2 σ_2
      refine V_jn (fun (J246 : Bool → Sto → Rs Unit) => ∀ (b : Bool) (σ : Sto), V M_Model_night 4 0 0 0 0 tU (J246 b σ) 246 [(0, vR h0), (1, vI x1)] [] b σ) ?_ (fun J246 hJ246 => ?_)
      · intro b σ
        refine V_iinc (fun x1_3 => [(1, vI x1_3), (0, vR h0)]) 249 rfl (show decode M_Model_night.2.1 246 = .ok (.iinc 1 1, 3) by decide +kernel) 1 rfl (w := 1) rfl (by decide) (fun _ => rfl) (fun x1_3 => ?_)
        refine V_goto 2 (show decode M_Model_night.2.1 249 = .ok (.goto (-247), 3) by decide +kernel) rfl ?_
        exact V_sub [1, 0] rfl (hL2 x1_3 b σ)
      · skip
        refine V_ifne 20 23 rfl (show decode M_Model_night.2.1 17 = .ok (.ifCond .ne 6, 3) by decide +kernel) rfl ?_ ?_
        · skip
          refine V_goto 246 (show decode M_Model_night.2.1 20 = .ok (.goto 226, 3) by decide +kernel) rfl ?_
          exact V_sub [0, 1] rfl (hJ246 b_2 σ_2)
        · skip
          refine V_aload_n 24 rfl (show decode M_Model_night.2.1 23 = .ok (.aload_n 0, 1) by decide +kernel) 0 rfl ?_
          refine V_get (j := 0) (v := vR (SR σ_2 h0 0)) 27 rfl ck_Model (by decide) (by decide) (show decode M_Model_night.2.1 24 = .ok (.getfield 7, 3) by decide +kernel) wd_1504 rfl ?_
          refine V_aload_n 28 rfl (show decode M_Model_night.2.1 27 = .ok (.aload_n 0, 1) by decide +kernel) 0 rfl ?_
          refine V_iload_n 29 rfl (show decode M_Model_night.2.1 28 = .ok (.iload_n 1, 1) by decide +kernel) 1 rfl ?_
          refine V_callV (tb := tI) (as := [vI x1]) (rest := [vR (SR σ_2 h0 0)]) (na := 1) 32 rfl ck_Model (by decide) (s_Model_walkerAt h0 x1 ((b_2 && cK σ_2 h0 13) && cK σ_2 h0 13) σ_2) rfl rfl (Nat.le_of_ble_eq_true rfl) (cal_Model_walkerAt _ _ _ _ _ (by decide) (by decide) (by decide)) (show decode M_Model_night.2.1 29 = .ok (.invokevirtual 84, 3) by decide +kernel) wd_1673 wd_1675 wd_121 (fun r_4 b_4 σ_4 => ?_)
          show V M_Model_night 4 0 0 0 0 tU _ 32 [(0, vR h0), (1, vI x1)] [vI r_4, vR (SR σ_2 h0 0)] b_4 σ_4
          refine V_iconst 33 rfl (show decode M_Model_night.2.1 32 = .ok (.iconst 1, 1) by decide +kernel) (v := 1) rfl ?_
          refine V_iadd 34 rfl (show decode M_Model_night.2.1 33 = .ok (.iadd, 1) by decide +kernel) ?_
          refine V_ald_int 35 rfl (show decode M_Model_night.2.1 34 = .ok (.iaload, 1) by decide +kernel) ?_
          refine V_istore_n (fun x2_5 => [(2, vI x2_5), (0, vR h0), (1, vI x1)]) 36 rfl (show decode M_Model_night.2.1 35 = .ok (.istore_n 2, 1) by decide +kernel) (by decide) (fun _ => rfl) (fun x2_5 => ?_)
          refine V_aload_n 37 rfl (show decode M_Model_night.2.1 36 = .ok (.aload_n 0, 1) by decide +kernel) 1 rfl ?_
          refine V_iload_n 38 rfl (show decode M_Model_night.2.1 37 = .ok (.iload_n 2, 1) by decide +kernel) 0 rfl ?_
          refine V_callV (tb := tI) (as := [vI x2_5]) (rest := []) (na := 1) 41 rfl ck_Model (by decide) (s_Model_placeOn h0 x2_5 ((b_4 && cA σ_4 (SR σ_2 h0 0) 21 (r_4 + (1 : Int32))) && cK σ_4 h0 13) σ_4) rfl rfl (Nat.le_of_ble_eq_true rfl) (cal_Model_placeOn _ _ _ _ _ (by decide) (by decide) (by decide)) (show decode M_Model_night.2.1 38 = .ok (.invokevirtual 116, 3) by decide +kernel) wd_1652 wd_1654 wd_117 (fun r_6 b_6 σ_6 => ?_)
          show V M_Model_night 4 0 0 0 0 tU _ 41 [(2, vI x2_5), (0, vR h0), (1, vI x1)] [vI r_6] b_6 σ_6
          refine V_istore_n (fun x3_7 => [(3, vI x3_7), (2, vI x2_5), (0, vR h0), (1, vI x1)]) 42 rfl (show decode M_Model_night.2.1 41 = .ok (.istore_n 3, 1) by decide +kernel) (by decide) (fun _ => rfl) (fun x3_7 => ?_)
          refine V_iload_n 43 rfl (show decode M_Model_night.2.1 42 = .ok (.iload_n 3, 1) by decide +kernel) 0 rfl ?_
          refine V_jn (fun (J73 : Int32 → Bool → Sto → Rs Unit) => ∀ (s0_73 : Int32) (b : Bool) (σ : Sto), V M_Model_night 4 0 0 0 0 tU (J73 s0_73 b σ) 73 [(0, vR h0), (1, vI x1), (2, vI x2_5)] [vI s0_73] b σ) ?_ (fun J73 hJ73 => ?_)
          · intro s0_73 b σ
            refine V_istore (fun x4_8 => [(4, vI x4_8), (0, vR h0), (1, vI x1), (2, vI x2_5)]) 75 rfl (show decode M_Model_night.2.1 73 = .ok (.istore 4, 2) by decide +kernel) (by decide) (fun _ => rfl) (fun x4_8 => ?_)
            refine V_aload_n 76 rfl (show decode M_Model_night.2.1 75 = .ok (.aload_n 0, 1) by decide +kernel) 1 rfl ?_
            refine V_iload_n 77 rfl (show decode M_Model_night.2.1 76 = .ok (.iload_n 2, 1) by decide +kernel) 3 rfl ?_
            refine V_callV (tb := tI) (as := [vI x2_5]) (rest := []) (na := 1) 80 rfl ck_Model (by decide) (s_Model_walkersOn h0 x2_5 (b && cK σ h0 13) σ) rfl rfl (Nat.le_of_ble_eq_true rfl) (cal_Model_walkersOn _ _ _ _ _ (by decide) (by decide) (by decide)) (show decode M_Model_night.2.1 77 = .ok (.invokevirtual 126, 3) by decide +kernel) wd_1665 wd_1667 wd_119 (fun r_9 b_9 σ_9 => ?_)
            show V M_Model_night 4 0 0 0 0 tU _ 80 [(4, vI x4_8), (0, vR h0), (1, vI x1), (2, vI x2_5)] [vI r_9] b_9 σ_9
            refine V_istore (fun x5_10 => [(5, vI x5_10), (4, vI x4_8), (0, vR h0), (1, vI x1), (2, vI x2_5)]) 82 rfl (show decode M_Model_night.2.1 80 = .ok (.istore 5, 2) by decide +kernel) (by decide) (fun _ => rfl) (fun x5_10 => ?_)
            refine V_iconst 83 rfl (show decode M_Model_night.2.1 82 = .ok (.iconst 0, 1) by decide +kernel) (v := 0) rfl ?_
            refine V_istore (fun x6_11 => [(6, vI x6_11), (5, vI x5_10), (4, vI x4_8), (0, vR h0), (1, vI x1), (2, vI x2_5)]) 85 rfl (show decode M_Model_night.2.1 83 = .ok (.istore 6, 2) by decide +kernel) (by decide) (fun _ => rfl) (fun x6_11 => ?_)
            refine V_iconst 86 rfl (show decode M_Model_night.2.1 85 = .ok (.iconst 0, 1) by decide +kernel) (v := 0) rfl ?_
            refine V_istore (fun x7_12 => [(7, vI x7_12), (6, vI x6_11), (5, vI x5_10), (4, vI x4_8), (0, vR h0), (1, vI x1), (2, vI x2_5)]) 88 rfl (show decode M_Model_night.2.1 86 = .ok (.istore 7, 2) by decide +kernel) (by decide) (fun _ => rfl) (fun x7_12 => ?_)
            refine V_sub [4, 5, 6, 3, 2, 1, 0] rfl ?_
            refine lp_P (fun (L88 : Int32 → Int32 → Bool → Sto → Rs Unit) => ∀ (x6 : Int32) (x7 : Int32) (b : Bool) (σ : Sto), V M_Model_night 4 0 0 0 0 tU (L88 x6 x7 b σ) 88 [(0, vR h0), (1, vI x1), (2, vI x2_5), (4, vI x4_8), (5, vI x5_10), (6, vI x6), (7, vI x7)] [] b σ) ?_ ?_ fuel_ x6_11 x7_12 b_9 σ_9
            · intro x6 x7 b σ; exact V_bad
            · intro L88 hL88 x6 x7 b σ
              unfold b_Model_night_88
              refine V_iload 90 rfl (show decode M_Model_night.2.1 88 = .ok (.iload 7, 2) by decide +kernel) 6 rfl ?_
              refine V_iload_n 91 rfl (show decode M_Model_night.2.1 90 = .ok (.iload_n 1, 1) by decide +kernel) 1 rfl ?_
              refine V_icmpge 94 136 rfl (show decode M_Model_night.2.1 91 = .ok (.if_icmp .ge 45, 3) by decide +kernel) rfl ?_ ?_
              · skip
                refine V_iload 96 rfl (show decode M_Model_night.2.1 94 = .ok (.iload 6, 2) by decide +kernel) 5 rfl ?_
                refine V_aload_n 97 rfl (show decode M_Model_night.2.1 96 = .ok (.aload_n 0, 1) by decide +kernel) 0 rfl ?_
                refine V_iload 99 rfl (show decode M_Model_night.2.1 97 = .ok (.iload 7, 2) by decide +kernel) 6 rfl ?_
                refine V_callV (tb := tI) (as := [vI x7]) (rest := [vI x6]) (na := 1) 102 rfl ck_Model (by decide) (s_Model_walks h0 x7 (b && cK σ h0 13) σ) rfl rfl (Nat.le_of_ble_eq_true rfl) (cal_Model_walks _ _ _ _ _ (by decide) (by decide) (by decide)) (show decode M_Model_night.2.1 99 = .ok (.invokevirtual 120, 3) by decide +kernel) wd_1669 wd_1671 wd_120 (fun r_13 b_13 σ_13 => ?_)
                show V M_Model_night 4 0 0 0 0 tU _ 102 [(0, vR h0), (1, vI x1), (2, vI x2_5), (4, vI x4_8), (5, vI x5_10), (6, vI x6), (7, vI x7)] [vI r_13, vI x6] b_13 σ_13
                refine V_jn (fun (J127 : Int32 → Int32 → Bool → Sto → Rs Unit) => ∀ (s0_127 : Int32) (s1_127 : Int32) (b : Bool) (σ : Sto), V M_Model_night 4 0 0 0 0 tU (J127 s0_127 s1_127 b σ) 127 [(0, vR h0), (1, vI x1), (2, vI x2_5), (4, vI x4_8), (5, vI x5_10), (7, vI x7)] [vI s0_127, vI s1_127] b σ) ?_ (fun J127 hJ127 => ?_)
                · intro s0_127 s1_127 b σ
                  refine V_iadd 128 rfl (show decode M_Model_night.2.1 127 = .ok (.iadd, 1) by decide +kernel) ?_
                  refine V_istore (fun x6_14 => [(6, vI x6_14), (0, vR h0), (1, vI x1), (2, vI x2_5), (4, vI x4_8), (5, vI x5_10), (7, vI x7)]) 130 rfl (show decode M_Model_night.2.1 128 = .ok (.istore 6, 2) by decide +kernel) (by decide) (fun _ => rfl) (fun x6_14 => ?_)
                  refine V_iinc (fun x7_15 => [(7, vI x7_15), (6, vI x6_14), (0, vR h0), (1, vI x1), (2, vI x2_5), (4, vI x4_8), (5, vI x5_10)]) 133 rfl (show decode M_Model_night.2.1 130 = .ok (.iinc 7 1, 3) by decide +kernel) 6 rfl (w := 1) rfl (by decide) (fun _ => rfl) (fun x7_15 => ?_)
                  refine V_goto 88 (show decode M_Model_night.2.1 133 = .ok (.goto (-45), 3) by decide +kernel) rfl ?_
                  exact V_sub [2, 3, 4, 5, 6, 1, 0] rfl (hL88 x6_14 x7_15 b σ)
                · skip
                  refine V_jn (fun (J126 : Int32 → Bool → Sto → Rs Unit) => ∀ (s0_126 : Int32) (b : Bool) (σ : Sto), V M_Model_night 4 0 0 0 0 tU (J126 s0_126 b σ) 126 [(0, vR h0), (1, vI x1), (2, vI x2_5), (4, vI x4_8), (5, vI x5_10), (7, vI x7)] [vI s0_126] b σ) ?_ (fun J126 hJ126 => ?_)
                  · intro s0_126 b σ
                    refine V_iconst 127 rfl (show decode M_Model_night.2.1 126 = .ok (.iconst 0, 1) by decide +kernel) (v := 0) rfl ?_
                    exact V_sub [0, 1, 2, 3, 4, 5] rfl (hJ127 (0 : Int32) s0_126 b σ)
                  · skip
                    refine V_ifeq 105 126 rfl (show decode M_Model_night.2.1 102 = .ok (.ifCond .eq 24, 3) by decide +kernel) rfl ?_ ?_
                    · skip
                      exact V_sub [0, 1, 2, 3, 4, 6] rfl (hJ126 x6 b_13 σ_13)
                    · skip
                      refine V_aload_n 106 rfl (show decode M_Model_night.2.1 105 = .ok (.aload_n 0, 1) by decide +kernel) 0 rfl ?_
                      refine V_get (j := 0) (v := vR (SR σ_13 h0 0)) 109 rfl ck_Model (by decide) (by decide) (show decode M_Model_night.2.1 106 = .ok (.getfield 7, 3) by decide +kernel) wd_1504 rfl ?_
                      refine V_aload_n 110 rfl (show decode M_Model_night.2.1 109 = .ok (.aload_n 0, 1) by decide +kernel) 0 rfl ?_
                      refine V_iload 112 rfl (show decode M_Model_night.2.1 110 = .ok (.iload 7, 2) by decide +kernel) 6 rfl ?_
                      refine V_callV (tb := tI) (as := [vI x7]) (rest := [vR (SR σ_13 h0 0), vI x6]) (na := 1) 115 rfl ck_Model (by decide) (s_Model_walkerAt h0 x7 ((b_13 && cK σ_13 h0 13) && cK σ_13 h0 13) σ_13) rfl rfl (Nat.le_of_ble_eq_true rfl) (cal_Model_walkerAt _ _ _ _ _ (by decide) (by decide) (by decide)) (show decode M_Model_night.2.1 112 = .ok (.invokevirtual 84, 3) by decide +kernel) wd_1673 wd_1675 wd_121 (fun r_16 b_16 σ_16 => ?_)
                      show V M_Model_night 4 0 0 0 0 tU _ 115 [(0, vR h0), (1, vI x1), (2, vI x2_5), (4, vI x4_8), (5, vI x5_10), (6, vI x6), (7, vI x7)] [vI r_16, vR (SR σ_13 h0 0), vI x6] b_16 σ_16
                      refine V_iconst 116 rfl (show decode M_Model_night.2.1 115 = .ok (.iconst 1, 1) by decide +kernel) (v := 1) rfl ?_
                      refine V_iadd 117 rfl (show decode M_Model_night.2.1 116 = .ok (.iadd, 1) by decide +kernel) ?_
                      refine V_ald_int 118 rfl (show decode M_Model_night.2.1 117 = .ok (.iaload, 1) by decide +kernel) ?_
                      refine V_iload_n 119 rfl (show decode M_Model_night.2.1 118 = .ok (.iload_n 2, 1) by decide +kernel) 2 rfl ?_
                      refine V_icmpne 122 126 rfl (show decode M_Model_night.2.1 119 = .ok (.if_icmp .ne 7, 3) by decide +kernel) rfl ?_ ?_
                      · skip
                        refine V_iconst 123 rfl (show decode M_Model_night.2.1 122 = .ok (.iconst 1, 1) by decide +kernel) (v := 1) rfl ?_
                        refine V_goto 127 (show decode M_Model_night.2.1 123 = .ok (.goto 4, 3) by decide +kernel) rfl ?_
                        exact V_sub [0, 1, 2, 3, 4, 6] rfl (hJ127 (1 : Int32) x6 (b_16 && cA σ_16 (SR σ_13 h0 0) 21 (r_16 + (1 : Int32))) σ_16)
                      · skip
                        exact V_sub [0, 1, 2, 3, 4, 6] rfl (hJ126 x6 (b_16 && cA σ_16 (SR σ_13 h0 0) 21 (r_16 + (1 : Int32))) σ_16)
              · skip
                refine V_aload_n 137 rfl (show decode M_Model_night.2.1 136 = .ok (.aload_n 0, 1) by decide +kernel) 0 rfl ?_
                refine V_iload 139 rfl (show decode M_Model_night.2.1 137 = .ok (.iload 5, 2) by decide +kernel) 4 rfl ?_
                refine V_aload_n 140 rfl (show decode M_Model_night.2.1 139 = .ok (.aload_n 0, 1) by decide +kernel) 0 rfl ?_
                refine V_get (j := 21) (v := vI (SI σ h0 21)) 143 rfl ck_Model (by decide) (by decide) (show decode M_Model_night.2.1 140 = .ok (.getfield 313, 3) by decide +kernel) wd_1525 rfl ?_
                refine V_jn (fun (J155 : Int32 → Nat → Bool → Sto → Rs Unit) => ∀ (s0_155 : Int32) (s1_155 : Nat) (b : Bool) (σ : Sto), V M_Model_night 4 0 0 0 0 tU (J155 s0_155 s1_155 b σ) 155 [(0, vR h0), (1, vI x1), (2, vI x2_5), (4, vI x4_8), (5, vI x5_10), (6, vI x6)] [vI s0_155, vR s1_155] b σ) ?_ (fun J155 hJ155 => ?_)
                · intro s0_155 s1_155 b σ
                  refine V_putI (j := 21) 158 rfl ck_Model (by decide) (by decide) (show decode M_Model_night.2.1 155 = .ok (.putfield 313, 3) by decide +kernel) wd_1525 rfl (fun _ => rfl) rfl rfl (fun σ_17 => ?_)
                  refine V_iload 160 rfl (show decode M_Model_night.2.1 158 = .ok (.iload 6, 2) by decide +kernel) 5 rfl ?_
                  refine V_iload 162 rfl (show decode M_Model_night.2.1 160 = .ok (.iload 4, 2) by decide +kernel) 3 rfl ?_
                  refine V_icmplt 165 246 rfl (show decode M_Model_night.2.1 162 = .ok (.if_icmp .lt 84, 3) by decide +kernel) rfl ?_ ?_
                  · skip
                    exact V_sub [0, 1] rfl (hJ246 (b && cK σ s1_155 13) σ_17)
                  · skip
                    refine V_aload_n 166 rfl (show decode M_Model_night.2.1 165 = .ok (.aload_n 0, 1) by decide +kernel) 0 rfl ?_
                    refine V_aload_n 167 rfl (show decode M_Model_night.2.1 166 = .ok (.aload_n 0, 1) by decide +kernel) 0 rfl ?_
                    refine V_iload_n 168 rfl (show decode M_Model_night.2.1 167 = .ok (.iload_n 2, 1) by decide +kernel) 2 rfl ?_
                    refine V_callV (tb := tI) (as := [vI x2_5]) (rest := [vR h0]) (na := 1) 171 rfl ck_Model (by decide) (s_Model_landOf h0 x2_5 ((b && cK σ s1_155 13) && cK σ_17 h0 13) σ_17) rfl rfl (Nat.le_of_ble_eq_true rfl) (cal_Model_landOf _ _ _ _ _ (by decide) (by decide) (by decide)) (show decode M_Model_night.2.1 168 = .ok (.invokevirtual 146, 3) by decide +kernel) wd_1711 wd_1713 wd_124 (fun r_18 b_18 σ_18 => ?_)
                    show V M_Model_night 4 0 0 0 0 tU _ 171 [(0, vR h0), (1, vI x1), (2, vI x2_5), (4, vI x4_8), (5, vI x5_10), (6, vI x6)] [vI r_18, vR h0] b_18 σ_18
                    refine V_iconst 172 rfl (show decode M_Model_night.2.1 171 = .ok (.iconst 0, 1) by decide +kernel) (v := 0) rfl ?_
                    refine V_callV (tb := tI) (as := [vI r_18, vI (0 : Int32)]) (rest := []) (na := 2) 175 rfl ck_Model (by decide) (s_Model_counts h0 r_18 (0 : Int32) (b_18 && cK σ_18 h0 13) σ_18) rfl rfl (Nat.le_of_ble_eq_true rfl) (cal_Model_counts _ _ _ _ _ (by decide) (by decide) (by decide)) (show decode M_Model_night.2.1 172 = .ok (.invokevirtual 251, 3) by decide +kernel) wd_1823 wd_1825 wd_142 (fun r_19 b_19 σ_19 => ?_)
                    show V M_Model_night 4 0 0 0 0 tU _ 175 [(0, vR h0), (1, vI x1), (2, vI x2_5), (4, vI x4_8), (5, vI x5_10), (6, vI x6)] [vI r_19] b_19 σ_19
                    refine V_istore (fun x7_20 => [(7, vI x7_20), (0, vR h0), (1, vI x1), (2, vI x2_5), (4, vI x4_8), (5, vI x5_10), (6, vI x6)]) 177 rfl (show decode M_Model_night.2.1 175 = .ok (.istore 7, 2) by decide +kernel) (by decide) (fun _ => rfl) (fun x7_20 => ?_)
                    refine V_aload_n 178 rfl (show decode M_Model_night.2.1 177 = .ok (.aload_n 0, 1) by decide +kernel) 1 rfl ?_
                    refine V_get (j := 19) (v := vR (SR σ_19 h0 19)) 181 rfl ck_Model (by decide) (by decide) (show decode M_Model_night.2.1 178 = .ok (.getfield 32, 3) by decide +kernel) wd_1523 rfl ?_
                    refine V_bipush 183 rfl (show decode M_Model_night.2.1 181 = .ok (.bipush 109, 2) by decide +kernel) (v := 109) rfl ?_
                    refine V_iload_n 184 rfl (show decode M_Model_night.2.1 183 = .ok (.iload_n 2, 1) by decide +kernel) 3 rfl ?_
                    refine V_ast_int 185 rfl (show decode M_Model_night.2.1 184 = .ok (.iastore, 1) by decide +kernel) (fun σ_21 => ?_)
                    refine V_aload_n 186 rfl (show decode M_Model_night.2.1 185 = .ok (.aload_n 0, 1) by decide +kernel) 1 rfl ?_
                    refine V_get (j := 19) (v := vR (SR σ_21 h0 19)) 189 rfl ck_Model (by decide) (by decide) (show decode M_Model_night.2.1 186 = .ok (.getfield 32, 3) by decide +kernel) wd_1523 rfl ?_
                    refine V_bipush 191 rfl (show decode M_Model_night.2.1 189 = .ok (.bipush 110, 2) by decide +kernel) (v := 110) rfl ?_
                    refine V_iload 193 rfl (show decode M_Model_night.2.1 191 = .ok (.iload 5, 2) by decide +kernel) 5 rfl ?_
                    refine V_ast_int 194 rfl (show decode M_Model_night.2.1 193 = .ok (.iastore, 1) by decide +kernel) (fun σ_22 => ?_)
                    refine V_aload_n 195 rfl (show decode M_Model_night.2.1 194 = .ok (.aload_n 0, 1) by decide +kernel) 1 rfl ?_
                    refine V_get (j := 0) (v := vR (SR σ_22 h0 0)) 198 rfl ck_Model (by decide) (by decide) (show decode M_Model_night.2.1 195 = .ok (.getfield 7, 3) by decide +kernel) wd_1504 rfl ?_
                    refine V_aload_n 199 rfl (show decode M_Model_night.2.1 198 = .ok (.aload_n 0, 1) by decide +kernel) 1 rfl ?_
                    refine V_iload_n 200 rfl (show decode M_Model_night.2.1 199 = .ok (.iload_n 1, 1) by decide +kernel) 2 rfl ?_
                    refine V_callV (tb := tI) (as := [vI x1]) (rest := [vR (SR σ_22 h0 0)]) (na := 1) 203 rfl ck_Model (by decide) (s_Model_walkerAt h0 x1 ((((((b_19 && cK σ_19 h0 13) && cA σ_19 (SR σ_19 h0 19) 21 (109 : Int32)) && cK σ_21 h0 13) && cA σ_21 (SR σ_21 h0 19) 21 (110 : Int32)) && cK σ_22 h0 13) && cK σ_22 h0 13) σ_22) rfl rfl (Nat.le_of_ble_eq_true rfl) (cal_Model_walkerAt _ _ _ _ _ (by decide) (by decide) (by decide)) (show decode M_Model_night.2.1 200 = .ok (.invokevirtual 84, 3) by decide +kernel) wd_1673 wd_1675 wd_121 (fun r_23 b_23 σ_23 => ?_)
                    show V M_Model_night 4 0 0 0 0 tU _ 203 [(7, vI x7_20), (0, vR h0), (1, vI x1), (2, vI x2_5), (4, vI x4_8), (5, vI x5_10), (6, vI x6)] [vI r_23, vR (SR σ_22 h0 0)] b_23 σ_23
                    refine V_bipush 205 rfl (show decode M_Model_night.2.1 203 = .ok (.bipush 11, 2) by decide +kernel) (v := 11) rfl ?_
                    refine V_iadd 206 rfl (show decode M_Model_night.2.1 205 = .ok (.iadd, 1) by decide +kernel) ?_
                    refine V_dup2 207 rfl (show decode M_Model_night.2.1 206 = .ok (.dup2, 1) by decide +kernel) rfl rfl ?_
                    refine V_ald_int 208 rfl (show decode M_Model_night.2.1 207 = .ok (.iaload, 1) by decide +kernel) ?_
                    refine V_iconst 209 rfl (show decode M_Model_night.2.1 208 = .ok (.iconst 1, 1) by decide +kernel) (v := 1) rfl ?_
                    refine V_iadd 210 rfl (show decode M_Model_night.2.1 209 = .ok (.iadd, 1) by decide +kernel) ?_
                    refine V_ast_int 211 rfl (show decode M_Model_night.2.1 210 = .ok (.iastore, 1) by decide +kernel) (fun σ_24 => ?_)
                    refine V_aload_n 212 rfl (show decode M_Model_night.2.1 211 = .ok (.aload_n 0, 1) by decide +kernel) 1 rfl ?_
                    refine V_get (j := 0) (v := vR (SR σ_24 h0 0)) 215 rfl ck_Model (by decide) (by decide) (show decode M_Model_night.2.1 212 = .ok (.getfield 7, 3) by decide +kernel) wd_1504 rfl ?_
                    refine V_aload_n 216 rfl (show decode M_Model_night.2.1 215 = .ok (.aload_n 0, 1) by decide +kernel) 1 rfl ?_
                    refine V_iload_n 217 rfl (show decode M_Model_night.2.1 216 = .ok (.iload_n 1, 1) by decide +kernel) 2 rfl ?_
                    refine V_callV (tb := tI) (as := [vI x1]) (rest := [vR (SR σ_24 h0 0)]) (na := 1) 220 rfl ck_Model (by decide) (s_Model_walkerAt h0 x1 ((((b_23 && cA σ_23 (SR σ_22 h0 0) 21 (r_23 + (11 : Int32))) && cA σ_23 (SR σ_22 h0 0) 21 (r_23 + (11 : Int32))) && cK σ_24 h0 13) && cK σ_24 h0 13) σ_24) rfl rfl (Nat.le_of_ble_eq_true rfl) (cal_Model_walkerAt _ _ _ _ _ (by decide) (by decide) (by decide)) (show decode M_Model_night.2.1 217 = .ok (.invokevirtual 84, 3) by decide +kernel) wd_1673 wd_1675 wd_121 (fun r_25 b_25 σ_25 => ?_)
                    show V M_Model_night 4 0 0 0 0 tU _ 220 [(7, vI x7_20), (0, vR h0), (1, vI x1), (2, vI x2_5), (4, vI x4_8), (5, vI x5_10), (6, vI x6)] [vI r_25, vR (SR σ_24 h0 0)] b_25 σ_25
                    refine V_bipush 222 rfl (show decode M_Model_night.2.1 220 = .ok (.bipush 12, 2) by decide +kernel) (v := 12) rfl ?_
                    refine V_iadd 223 rfl (show decode M_Model_night.2.1 222 = .ok (.iadd, 1) by decide +kernel) ?_
                    refine V_dup2 224 rfl (show decode M_Model_night.2.1 223 = .ok (.dup2, 1) by decide +kernel) rfl rfl ?_
                    refine V_ald_int 225 rfl (show decode M_Model_night.2.1 224 = .ok (.iaload, 1) by decide +kernel) ?_
                    refine V_iload 227 rfl (show decode M_Model_night.2.1 225 = .ok (.iload 7, 2) by decide +kernel) 0 rfl ?_
                    refine V_jn (fun (J244 : Int32 → Int32 → Int32 → Nat → Bool → Sto → Rs Unit) => ∀ (s0_244 : Int32) (s1_244 : Int32) (s2_244 : Int32) (s3_244 : Nat) (b : Bool) (σ : Sto), V M_Model_night 4 0 0 0 0 tU (J244 s0_244 s1_244 s2_244 s3_244 b σ) 244 [(0, vR h0), (1, vI x1)] [vI s0_244, vI s1_244, vI s2_244, vR s3_244] b σ) ?_ (fun J244 hJ244 => ?_)
                    · intro s0_244 s1_244 s2_244 s3_244 b σ
                      refine V_iadd 245 rfl (show decode M_Model_night.2.1 244 = .ok (.iadd, 1) by decide +kernel) ?_
                      refine V_ast_int 246 rfl (show decode M_Model_night.2.1 245 = .ok (.iastore, 1) by decide +kernel) (fun σ_26 => ?_)
                      exact V_sub [0, 1] rfl (hJ246 (b && cA σ s3_244 21 s2_244) σ_26)
                    · skip
                      refine V_jn (fun (J243 : Int32 → Int32 → Nat → Bool → Sto → Rs Unit) => ∀ (s0_243 : Int32) (s1_243 : Int32) (s2_243 : Nat) (b : Bool) (σ : Sto), V M_Model_night 4 0 0 0 0 tU (J243 s0_243 s1_243 s2_243 b σ) 243 [(0, vR h0), (1, vI x1)] [vI s0_243, vI s1_243, vR s2_243] b σ) ?_ (fun J243 hJ243 => ?_)
                      · intro s0_243 s1_243 s2_243 b σ
                        refine V_iconst 244 rfl (show decode M_Model_night.2.1 243 = .ok (.iconst 0, 1) by decide +kernel) (v := 0) rfl ?_
                        exact V_sub [0, 1] rfl (hJ244 (0 : Int32) s0_243 s1_243 s2_243 b σ)
                      · skip
                        refine V_iflt 230 243 rfl (show decode M_Model_night.2.1 227 = .ok (.ifCond .lt 16, 3) by decide +kernel) rfl ?_ ?_
                        · skip
                          exact V_sub [1, 2] rfl (hJ243 (SI σ_25 (SR σ_24 h0 0) (ix (r_25 + (12 : Int32)))) (r_25 + (12 : Int32)) (SR σ_24 h0 0) (b_25 && cA σ_25 (SR σ_24 h0 0) 21 (r_25 + (12 : Int32))) σ_25)
                        · skip
                          refine V_aload_n 231 rfl (show decode M_Model_night.2.1 230 = .ok (.aload_n 0, 1) by decide +kernel) 1 rfl ?_
                          refine V_iload 233 rfl (show decode M_Model_night.2.1 231 = .ok (.iload 7, 2) by decide +kernel) 0 rfl ?_
                          refine V_callV (tb := tI) (as := [vI x7_20]) (rest := [vI (SI σ_25 (SR σ_24 h0 0) (ix (r_25 + (12 : Int32)))), vI (r_25 + (12 : Int32)), vR (SR σ_24 h0 0)]) (na := 1) 236 rfl ck_Model (by decide) (s_Model_worked h0 x7_20 ((b_25 && cA σ_25 (SR σ_24 h0 0) 21 (r_25 + (12 : Int32))) && cK σ_25 h0 13) σ_25) rfl rfl (Nat.le_of_ble_eq_true rfl) (cal_Model_worked _ _ _ _ _ (by decide) (by decide) (by decide)) (show decode M_Model_night.2.1 233 = .ok (.invokevirtual 287, 3) by decide +kernel) wd_1915 wd_1917 wd_154 (fun r_27 b_27 σ_27 => ?_)
                          show V M_Model_night 4 0 0 0 0 tU _ 236 [(7, vI x7_20), (0, vR h0), (1, vI x1), (2, vI x2_5), (4, vI x4_8), (5, vI x5_10), (6, vI x6)] [vI r_27, vI (SI σ_25 (SR σ_24 h0 0) (ix (r_25 + (12 : Int32)))), vI (r_25 + (12 : Int32)), vR (SR σ_24 h0 0)] b_27 σ_27
                          refine V_ifne 239 243 rfl (show decode M_Model_night.2.1 236 = .ok (.ifCond .ne 7, 3) by decide +kernel) rfl ?_ ?_
                          · skip
                            refine V_iconst 240 rfl (show decode M_Model_night.2.1 239 = .ok (.iconst 1, 1) by decide +kernel) (v := 1) rfl ?_
                            refine V_goto 244 (show decode M_Model_night.2.1 240 = .ok (.goto 4, 3) by decide +kernel) rfl ?_
                            exact V_sub [1, 2] rfl (hJ244 (1 : Int32) (SI σ_25 (SR σ_24 h0 0) (ix (r_25 + (12 : Int32)))) (r_25 + (12 : Int32)) (SR σ_24 h0 0) b_27 σ_27)
                          · skip
                            exact V_sub [1, 2] rfl (hJ243 (SI σ_25 (SR σ_24 h0 0) (ix (r_25 + (12 : Int32)))) (r_25 + (12 : Int32)) (SR σ_24 h0 0) b_27 σ_27)
                · skip
                  refine V_icmple 146 151 rfl (show decode M_Model_night.2.1 143 = .ok (.if_icmp .le 8, 3) by decide +kernel) rfl ?_ ?_
                  · skip
                    refine V_iload 148 rfl (show decode M_Model_night.2.1 146 = .ok (.iload 5, 2) by decide +kernel) 4 rfl ?_
                    refine V_goto 155 (show decode M_Model_night.2.1 148 = .ok (.goto 7, 3) by decide +kernel) rfl ?_
                    exact V_sub [0, 1, 2, 3, 4, 5] rfl (hJ155 x5_10 h0 (b && cK σ h0 13) σ)
                  · skip
                    refine V_aload_n 152 rfl (show decode M_Model_night.2.1 151 = .ok (.aload_n 0, 1) by decide +kernel) 0 rfl ?_
                    refine V_get (j := 21) (v := vI (SI σ h0 21)) 155 rfl ck_Model (by decide) (by decide) (show decode M_Model_night.2.1 152 = .ok (.getfield 313, 3) by decide +kernel) wd_1525 rfl ?_
                    exact V_sub [0, 1, 2, 3, 4, 5] rfl (hJ155 (SI σ h0 21) h0 ((b && cK σ h0 13) && cK σ h0 13) σ)
          · skip
            refine V_jn (fun (J72 : Bool → Sto → Rs Unit) => ∀ (b : Bool) (σ : Sto), V M_Model_night 4 0 0 0 0 tU (J72 b σ) 72 [(0, vR h0), (1, vI x1), (2, vI x2_5)] [] b σ) ?_ (fun J72 hJ72 => ?_)
            · intro b σ
              refine V_iconst 73 rfl (show decode M_Model_night.2.1 72 = .ok (.iconst 0, 1) by decide +kernel) (v := 0) rfl ?_
              exact V_sub [0, 1, 2] rfl (hJ73 (0 : Int32) b σ)
            · skip
              refine V_iflt 46 72 rfl (show decode M_Model_night.2.1 43 = .ok (.ifCond .lt 29, 3) by decide +kernel) rfl ?_ ?_
              · skip
                exact V_sub [2, 3, 1] rfl (hJ72 b_6 σ_6)
              · skip
                refine V_aload_n 47 rfl (show decode M_Model_night.2.1 46 = .ok (.aload_n 0, 1) by decide +kernel) 2 rfl ?_
                refine V_iload_n 48 rfl (show decode M_Model_night.2.1 47 = .ok (.iload_n 3, 1) by decide +kernel) 0 rfl ?_
                refine V_callV (tb := tI) (as := [vI x3_7]) (rest := []) (na := 1) 51 rfl ck_Model (by decide) (s_Model_kindOf h0 x3_7 (b_6 && cK σ_6 h0 13) σ_6) rfl rfl (Nat.le_of_ble_eq_true rfl) (cal_Model_kindOf _ _ _ _ _ (by decide) (by decide) (by decide)) (show decode M_Model_night.2.1 48 = .ok (.invokevirtual 132, 3) by decide +kernel) wd_1685 wd_1687 wd_123 (fun r_28 b_28 σ_28 => ?_)
                show V M_Model_night 4 0 0 0 0 tU _ 51 [(3, vI x3_7), (2, vI x2_5), (0, vR h0), (1, vI x1)] [vI r_28] b_28 σ_28
                refine V_callS (tb := tI) (as := [vI r_28]) (rest := []) (na := 1) 54 rfl (s_Model_hasBeds r_28 b_28 σ_28) rfl rfl (Nat.le_of_ble_eq_true rfl) (cal_Model_hasBeds _ _ _ _ _ (by decide) (by decide) (by decide)) (show decode M_Model_night.2.1 51 = .ok (.invokestatic 103, 3) by decide +kernel) wd_1642 wd_1643 (fun r_29 b_29 σ_29 => ?_)
                show V M_Model_night 4 0 0 0 0 tU _ 54 [(3, vI x3_7), (2, vI x2_5), (0, vR h0), (1, vI x1)] [vI r_29] b_29 σ_29
                refine V_ifeq 57 72 rfl (show decode M_Model_night.2.1 54 = .ok (.ifCond .eq 18, 3) by decide +kernel) rfl ?_ ?_
                · skip
                  exact V_sub [2, 3, 1] rfl (hJ72 b_29 σ_29)
                · skip
                  refine V_aload_n 58 rfl (show decode M_Model_night.2.1 57 = .ok (.aload_n 0, 1) by decide +kernel) 2 rfl ?_
                  refine V_get (j := 0) (v := vR (SR σ_29 h0 0)) 61 rfl ck_Model (by decide) (by decide) (show decode M_Model_night.2.1 58 = .ok (.getfield 7, 3) by decide +kernel) wd_1504 rfl ?_
                  refine V_aload_n 62 rfl (show decode M_Model_night.2.1 61 = .ok (.aload_n 0, 1) by decide +kernel) 2 rfl ?_
                  refine V_iload_n 63 rfl (show decode M_Model_night.2.1 62 = .ok (.iload_n 3, 1) by decide +kernel) 0 rfl ?_
                  refine V_callV (tb := tI) (as := [vI x3_7]) (rest := [vR (SR σ_29 h0 0)]) (na := 1) 66 rfl ck_Model (by decide) (s_Model_placeAt h0 x3_7 ((b_29 && cK σ_29 h0 13) && cK σ_29 h0 13) σ_29) rfl rfl (Nat.le_of_ble_eq_true rfl) (cal_Model_placeAt _ _ _ _ _ (by decide) (by decide) (by decide)) (show decode M_Model_night.2.1 63 = .ok (.invokevirtual 80, 3) by decide +kernel) wd_1625 wd_1627 wd_113 (fun r_30 b_30 σ_30 => ?_)
                  show V M_Model_night 4 0 0 0 0 tU _ 66 [(3, vI x3_7), (2, vI x2_5), (0, vR h0), (1, vI x1)] [vI r_30, vR (SR σ_29 h0 0)] b_30 σ_30
                  refine V_iconst 67 rfl (show decode M_Model_night.2.1 66 = .ok (.iconst 2, 1) by decide +kernel) (v := 2) rfl ?_
                  refine V_iadd 68 rfl (show decode M_Model_night.2.1 67 = .ok (.iadd, 1) by decide +kernel) ?_
                  refine V_ald_int 69 rfl (show decode M_Model_night.2.1 68 = .ok (.iaload, 1) by decide +kernel) ?_
                  refine V_goto 73 (show decode M_Model_night.2.1 69 = .ok (.goto 4, 3) by decide +kernel) rfl ?_
                  exact V_sub [2, 3, 1] rfl (hJ73 (SI σ_30 (SR σ_29 h0 0) (ix (r_30 + (2 : Int32)))) (b_30 && cA σ_30 (SR σ_29 h0 0) 21 (r_30 + (2 : Int32))) σ_30)
    · skip
      exact V_vret rfl (by decide) (by decide) (show decode M_Model_night.2.1 252 = .ok (.return_, 1) by decide +kernel)
theorem cal_Model_night (d mc ms k n : Nat) (h1 : 4 + 1 ≤ d) (h2 : k + 0 ≤ mc) (h3 : n + 0 ≤ ms) : Cal M_Model_night 4 0 0 0 d mc ms k n := ⟨wd_1941, wd_181, by decide, h1, by decide, h2, h3⟩
abbrev M_Model_eats : MD := (⟨"LongTrailModel", "eats", "(II)V"⟩, prog_14_method_64_code, 4, (none : Option FieldType))
def f_Model_eats (h0 : Nat) (x1 : Int32) (x2 : Int32) (b : Bool) (σ : Sto) : Rs Unit := (bd_ (f_Model_walkerAt h0 x1 (b && cK σ h0 13) σ) (fun (r_1 : Int32) (b_1 : Bool) (σ_1 : Sto) => (lt_ r_1 (fun (x3_2 : Int32) => (bd_ (f_Model_least (SI σ_1 (SR σ_1 h0 0) (ix (x3_2 + (17 : Int32)))) ((SI σ_1 (SR σ_1 h0 0) (ix (x3_2 + (3 : Int32)))) + x2) (((((b_1 && cK σ_1 h0 13) && cK σ_1 h0 13) && cA σ_1 (SR σ_1 h0 0) 21 (x3_2 + (17 : Int32))) && cK σ_1 h0 13) && cA σ_1 (SR σ_1 h0 0) 21 (x3_2 + (3 : Int32))) σ_1) (fun (r_3 : Int32) (b_3 : Bool) (σ_3 : Sto) => (lt_ (pI σ_3 (SR σ_1 h0 0) (ix (x3_2 + (3 : Int32))) r_3) (fun (σ_4 : Sto) => ((), (b_3 && cA σ_3 (SR σ_1 h0 0) 21 (x3_2 + (3 : Int32))), σ_4)))))))))
set_option maxRecDepth 100000 in
set_option maxHeartbeats 4000000 in
theorem s_Model_eats : ∀ (h0 : Nat) (x1 : Int32) (x2 : Int32) (b : Bool) (σ : Sto), Snd M_Model_eats 2 0 0 [vR h0, vI x1, vI x2] b σ (tU (f_Model_eats h0 x1 x2 b σ).1) (f_Model_eats h0 x1 x2 b σ).2.1 (f_Model_eats h0 x1 x2 b σ).2.2 := by
  intro h0 x1 x2 b σ
  refine Snd_of (tv := tU) (by decide) (Nat.le_of_ble_eq_true rfl) ?_
  show V M_Model_eats 2 0 0 0 0 tU (f_Model_eats h0 x1 x2 b σ) 0 [(0, vR h0), (1, vI x1), (2, vI x2)] [] b σ
  unfold f_Model_eats
  refine V_aload_n 1 rfl (show decode M_Model_eats.2.1 0 = .ok (.aload_n 0, 1) by decide +kernel) 0 rfl ?_
  refine V_iload_n 2 rfl (show decode M_Model_eats.2.1 1 = .ok (.iload_n 1, 1) by decide +kernel) 1 rfl ?_
  refine V_callV (tb := tI) (as := [vI x1]) (rest := []) (na := 1) 5 rfl ck_Model (by decide) (s_Model_walkerAt h0 x1 (b && cK σ h0 13) σ) rfl rfl (Nat.le_of_ble_eq_true rfl) (cal_Model_walkerAt _ _ _ _ _ (by decide) (by decide) (by decide)) (show decode M_Model_eats.2.1 2 = .ok (.invokevirtual 84, 3) by decide +kernel) wd_1673 wd_1675 wd_121 (fun r_1 b_1 σ_1 => ?_)
  show V M_Model_eats 2 0 0 0 0 tU _ 5 [(0, vR h0), (1, vI x1), (2, vI x2)] [vI r_1] b_1 σ_1
  refine V_istore_n (fun x3_2 => [(3, vI x3_2), (0, vR h0), (1, vI x1), (2, vI x2)]) 6 rfl (show decode M_Model_eats.2.1 5 = .ok (.istore_n 3, 1) by decide +kernel) (by decide) (fun _ => rfl) (fun x3_2 => ?_)
  refine V_aload_n 7 rfl (show decode M_Model_eats.2.1 6 = .ok (.aload_n 0, 1) by decide +kernel) 1 rfl ?_
  refine V_get (j := 0) (v := vR (SR σ_1 h0 0)) 10 rfl ck_Model (by decide) (by decide) (show decode M_Model_eats.2.1 7 = .ok (.getfield 7, 3) by decide +kernel) wd_1504 rfl ?_
  refine V_iload_n 11 rfl (show decode M_Model_eats.2.1 10 = .ok (.iload_n 3, 1) by decide +kernel) 0 rfl ?_
  refine V_iconst 12 rfl (show decode M_Model_eats.2.1 11 = .ok (.iconst 3, 1) by decide +kernel) (v := 3) rfl ?_
  refine V_iadd 13 rfl (show decode M_Model_eats.2.1 12 = .ok (.iadd, 1) by decide +kernel) ?_
  refine V_aload_n 14 rfl (show decode M_Model_eats.2.1 13 = .ok (.aload_n 0, 1) by decide +kernel) 1 rfl ?_
  refine V_get (j := 0) (v := vR (SR σ_1 h0 0)) 17 rfl ck_Model (by decide) (by decide) (show decode M_Model_eats.2.1 14 = .ok (.getfield 7, 3) by decide +kernel) wd_1504 rfl ?_
  refine V_iload_n 18 rfl (show decode M_Model_eats.2.1 17 = .ok (.iload_n 3, 1) by decide +kernel) 0 rfl ?_
  refine V_bipush 20 rfl (show decode M_Model_eats.2.1 18 = .ok (.bipush 17, 2) by decide +kernel) (v := 17) rfl ?_
  refine V_iadd 21 rfl (show decode M_Model_eats.2.1 20 = .ok (.iadd, 1) by decide +kernel) ?_
  refine V_ald_int 22 rfl (show decode M_Model_eats.2.1 21 = .ok (.iaload, 1) by decide +kernel) ?_
  refine V_aload_n 23 rfl (show decode M_Model_eats.2.1 22 = .ok (.aload_n 0, 1) by decide +kernel) 1 rfl ?_
  refine V_get (j := 0) (v := vR (SR σ_1 h0 0)) 26 rfl ck_Model (by decide) (by decide) (show decode M_Model_eats.2.1 23 = .ok (.getfield 7, 3) by decide +kernel) wd_1504 rfl ?_
  refine V_iload_n 27 rfl (show decode M_Model_eats.2.1 26 = .ok (.iload_n 3, 1) by decide +kernel) 0 rfl ?_
  refine V_iconst 28 rfl (show decode M_Model_eats.2.1 27 = .ok (.iconst 3, 1) by decide +kernel) (v := 3) rfl ?_
  refine V_iadd 29 rfl (show decode M_Model_eats.2.1 28 = .ok (.iadd, 1) by decide +kernel) ?_
  refine V_ald_int 30 rfl (show decode M_Model_eats.2.1 29 = .ok (.iaload, 1) by decide +kernel) ?_
  refine V_iload_n 31 rfl (show decode M_Model_eats.2.1 30 = .ok (.iload_n 2, 1) by decide +kernel) 3 rfl ?_
  refine V_iadd 32 rfl (show decode M_Model_eats.2.1 31 = .ok (.iadd, 1) by decide +kernel) ?_
  refine V_callS (tb := tI) (as := [vI (SI σ_1 (SR σ_1 h0 0) (ix (x3_2 + (17 : Int32)))), vI ((SI σ_1 (SR σ_1 h0 0) (ix (x3_2 + (3 : Int32)))) + x2)]) (rest := [vI (x3_2 + (3 : Int32)), vR (SR σ_1 h0 0)]) (na := 2) 35 rfl (s_Model_least (SI σ_1 (SR σ_1 h0 0) (ix (x3_2 + (17 : Int32)))) ((SI σ_1 (SR σ_1 h0 0) (ix (x3_2 + (3 : Int32)))) + x2) (((((b_1 && cK σ_1 h0 13) && cK σ_1 h0 13) && cA σ_1 (SR σ_1 h0 0) 21 (x3_2 + (17 : Int32))) && cK σ_1 h0 13) && cA σ_1 (SR σ_1 h0 0) 21 (x3_2 + (3 : Int32))) σ_1) rfl rfl (Nat.le_of_ble_eq_true rfl) (cal_Model_least _ _ _ _ _ (by decide) (by decide) (by decide)) (show decode M_Model_eats.2.1 32 = .ok (.invokestatic 273, 3) by decide +kernel) wd_1866 wd_1867 (fun r_3 b_3 σ_3 => ?_)
  show V M_Model_eats 2 0 0 0 0 tU _ 35 [(3, vI x3_2), (0, vR h0), (1, vI x1), (2, vI x2)] [vI r_3, vI (x3_2 + (3 : Int32)), vR (SR σ_1 h0 0)] b_3 σ_3
  refine V_ast_int 36 rfl (show decode M_Model_eats.2.1 35 = .ok (.iastore, 1) by decide +kernel) (fun σ_4 => ?_)
  exact V_vret rfl (by decide) (by decide) (show decode M_Model_eats.2.1 36 = .ok (.return_, 1) by decide +kernel)
theorem cal_Model_eats (d mc ms k n : Nat) (h1 : 2 + 1 ≤ d) (h2 : k + 0 ≤ mc) (h3 : n + 0 ≤ ms) : Cal M_Model_eats 2 0 0 2 d mc ms k n := ⟨wd_1865, wd_181, by decide, h1, by decide, h2, h3⟩
abbrev M_Model_giveOn : MD := (⟨"LongTrailModel", "giveOn", "(II)V"⟩, prog_14_method_69_code, 4, (none : Option FieldType))
def b_Model_giveOn_2 (h0 : Nat) (x1 : Int32) (x2 : Int32) (L2 : Int32 → Bool → Sto → Rs Unit) (x3 : Int32) (b : Bool) (σ : Sto) : Rs Unit := (if x3 < (SI σ (SR σ h0 0) (ix (6 : Int32))) then (bd_ (f_Model_isOpen h0 x3 x1 (((b && cK σ h0 13) && cA σ (SR σ h0 0) 21 (6 : Int32)) && cK σ h0 13) σ) (fun (r_2 : Int32) (b_2 : Bool) (σ_2 : Sto) => (lt_ (fun (b : Bool) (σ : Sto) => (lt_ (x3 + (1 : Int32)) (fun (x3_3 : Int32) => (L2 x3_3 b σ)))) (fun J59 => (if r_2 = 0 then (J59 b_2 σ_2) else (lt_ (fun (b : Bool) (σ : Sto) => (bd_ (f_Model_boxAt h0 x3 ((b && cK σ h0 13) && cK σ h0 13) σ) (fun (r_4 : Int32) (b_4 : Bool) (σ_4 : Sto) => (lt_ (pI σ_4 (SR σ h0 0) (ix (r_4 + (4 : Int32))) (2 : Int32)) (fun (σ_5 : Sto) => (J59 (b_4 && cA σ_4 (SR σ h0 0) 21 (r_4 + (4 : Int32))) σ_5)))))) (fun J46 => (if x2 < 0 then (J46 b_2 σ_2) else (bd_ (f_Model_boxAt h0 x3 ((b_2 && cK σ_2 h0 13) && cK σ_2 h0 13) σ_2) (fun (r_6 : Int32) (b_6 : Bool) (σ_6 : Sto) => (bd_ (f_Model_mileOf h0 (SI σ_6 (SR σ_2 h0 0) (ix (r_6 + (1 : Int32)))) ((b_6 && cA σ_6 (SR σ_2 h0 0) 21 (r_6 + (1 : Int32))) && cK σ_6 h0 13) σ_6) (fun (r_7 : Int32) (b_7 : Bool) (σ_7 : Sto) => (if r_7 = x2 then (J46 b_7 σ_7) else (J59 b_7 σ_7)))))))))))))) else ((), ((b && cK σ h0 13) && cA σ (SR σ h0 0) 21 (6 : Int32)), σ))
def f_Model_giveOn (h0 : Nat) (x1 : Int32) (x2 : Int32) (b : Bool) (σ : Sto) : Rs Unit := (lt_ (0 : Int32) (fun (x3_1 : Int32) => (lp_ (b_Model_giveOn_2 h0 x1 x2) (fun (x3 : Int32) (b : Bool) (σ : Sto) => ((), false, σ)) fuel_ x3_1 b σ)))
set_option maxRecDepth 100000 in
set_option maxHeartbeats 4000000 in
theorem s_Model_giveOn : ∀ (h0 : Nat) (x1 : Int32) (x2 : Int32) (b : Bool) (σ : Sto), Snd M_Model_giveOn 3 0 0 [vR h0, vI x1, vI x2] b σ (tU (f_Model_giveOn h0 x1 x2 b σ).1) (f_Model_giveOn h0 x1 x2 b σ).2.1 (f_Model_giveOn h0 x1 x2 b σ).2.2 := by
  intro h0 x1 x2 b σ
  refine Snd_of (tv := tU) (by decide) (Nat.le_of_ble_eq_true rfl) ?_
  show V M_Model_giveOn 3 0 0 0 0 tU (f_Model_giveOn h0 x1 x2 b σ) 0 [(0, vR h0), (1, vI x1), (2, vI x2)] [] b σ
  unfold f_Model_giveOn
  refine V_iconst 1 rfl (show decode M_Model_giveOn.2.1 0 = .ok (.iconst 0, 1) by decide +kernel) (v := 0) rfl ?_
  refine V_istore_n (fun x3_1 => [(3, vI x3_1), (0, vR h0), (1, vI x1), (2, vI x2)]) 2 rfl (show decode M_Model_giveOn.2.1 1 = .ok (.istore_n 3, 1) by decide +kernel) (by decide) (fun _ => rfl) (fun x3_1 => ?_)
  refine V_sub [1, 2, 3, 0] rfl ?_
  refine lp_P (fun (L2 : Int32 → Bool → Sto → Rs Unit) => ∀ (x3 : Int32) (b : Bool) (σ : Sto), V M_Model_giveOn 3 0 0 0 0 tU (L2 x3 b σ) 2 [(0, vR h0), (1, vI x1), (2, vI x2), (3, vI x3)] [] b σ) ?_ ?_ fuel_ x3_1 b σ
  · intro x3 b σ; exact V_bad
  · intro L2 hL2 x3 b σ
    unfold b_Model_giveOn_2
    refine V_iload_n 3 rfl (show decode M_Model_giveOn.2.1 2 = .ok (.iload_n 3, 1) by decide +kernel) 3 rfl ?_
    refine V_aload_n 4 rfl (show decode M_Model_giveOn.2.1 3 = .ok (.aload_n 0, 1) by decide +kernel) 0 rfl ?_
    refine V_get (j := 0) (v := vR (SR σ h0 0)) 7 rfl ck_Model (by decide) (by decide) (show decode M_Model_giveOn.2.1 4 = .ok (.getfield 7, 3) by decide +kernel) wd_1504 rfl ?_
    refine V_bipush 9 rfl (show decode M_Model_giveOn.2.1 7 = .ok (.bipush 6, 2) by decide +kernel) (v := 6) rfl ?_
    refine V_ald_int 10 rfl (show decode M_Model_giveOn.2.1 9 = .ok (.iaload, 1) by decide +kernel) ?_
    refine V_icmpge 13 65 rfl (show decode M_Model_giveOn.2.1 10 = .ok (.if_icmp .ge 55, 3) by decide +kernel) rfl ?_ ?_
    · skip
      refine V_aload_n 14 rfl (show decode M_Model_giveOn.2.1 13 = .ok (.aload_n 0, 1) by decide +kernel) 0 rfl ?_
      refine V_iload_n 15 rfl (show decode M_Model_giveOn.2.1 14 = .ok (.iload_n 3, 1) by decide +kernel) 3 rfl ?_
      refine V_iload_n 16 rfl (show decode M_Model_giveOn.2.1 15 = .ok (.iload_n 1, 1) by decide +kernel) 1 rfl ?_
      refine V_callV (tb := tI) (as := [vI x3, vI x1]) (rest := []) (na := 2) 19 rfl ck_Model (by decide) (s_Model_isOpen h0 x3 x1 (((b && cK σ h0 13) && cA σ (SR σ h0 0) 21 (6 : Int32)) && cK σ h0 13) σ) rfl rfl (Nat.le_of_ble_eq_true rfl) (cal_Model_isOpen _ _ _ _ _ (by decide) (by decide) (by decide)) (show decode M_Model_giveOn.2.1 16 = .ok (.invokevirtual 262, 3) by decide +kernel) wd_1846 wd_1848 wd_145 (fun r_2 b_2 σ_2 => ?_)
      show V M_Model_giveOn 3 0 0 0 0 tU _ 19 [(0, vR h0), (1, vI x1), (2, vI x2), (3, vI x3)] [vI r_2] b_2 σ_2
      refine V_jn (fun (J59 : Bool → Sto → Rs Unit) => ∀ (b : Bool) (σ : Sto), V M_Model_giveOn 3 0 0 0 0 tU (J59 b σ) 59 [(0, vR h0), (1, vI x1), (2, vI x2), (3, vI x3)] [] b σ) ?_ (fun J59 hJ59 => ?_)
      · intro b σ
        refine V_iinc (fun x3_3 => [(3, vI x3_3), (0, vR h0), (1, vI x1), (2, vI x2)]) 62 rfl (show decode M_Model_giveOn.2.1 59 = .ok (.iinc 3 1, 3) by decide +kernel) 3 rfl (w := 1) rfl (by decide) (fun _ => rfl) (fun x3_3 => ?_)
        refine V_goto 2 (show decode M_Model_giveOn.2.1 62 = .ok (.goto (-60), 3) by decide +kernel) rfl ?_
        exact V_sub [1, 2, 3, 0] rfl (hL2 x3_3 b σ)
      · skip
        refine V_ifeq 22 59 rfl (show decode M_Model_giveOn.2.1 19 = .ok (.ifCond .eq 40, 3) by decide +kernel) rfl ?_ ?_
        · skip
          exact V_sub [0, 1, 2, 3] rfl (hJ59 b_2 σ_2)
        · skip
          refine V_iload_n 23 rfl (show decode M_Model_giveOn.2.1 22 = .ok (.iload_n 2, 1) by decide +kernel) 2 rfl ?_
          refine V_jn (fun (J46 : Bool → Sto → Rs Unit) => ∀ (b : Bool) (σ : Sto), V M_Model_giveOn 3 0 0 0 0 tU (J46 b σ) 46 [(0, vR h0), (1, vI x1), (2, vI x2), (3, vI x3)] [] b σ) ?_ (fun J46 hJ46 => ?_)
          · intro b σ
            refine V_aload_n 47 rfl (show decode M_Model_giveOn.2.1 46 = .ok (.aload_n 0, 1) by decide +kernel) 0 rfl ?_
            refine V_get (j := 0) (v := vR (SR σ h0 0)) 50 rfl ck_Model (by decide) (by decide) (show decode M_Model_giveOn.2.1 47 = .ok (.getfield 7, 3) by decide +kernel) wd_1504 rfl ?_
            refine V_aload_n 51 rfl (show decode M_Model_giveOn.2.1 50 = .ok (.aload_n 0, 1) by decide +kernel) 0 rfl ?_
            refine V_iload_n 52 rfl (show decode M_Model_giveOn.2.1 51 = .ok (.iload_n 3, 1) by decide +kernel) 3 rfl ?_
            refine V_callV (tb := tI) (as := [vI x3]) (rest := [vR (SR σ h0 0)]) (na := 1) 55 rfl ck_Model (by decide) (s_Model_boxAt h0 x3 ((b && cK σ h0 13) && cK σ h0 13) σ) rfl rfl (Nat.le_of_ble_eq_true rfl) (cal_Model_boxAt _ _ _ _ _ (by decide) (by decide) (by decide)) (show decode M_Model_giveOn.2.1 52 = .ok (.invokevirtual 129, 3) by decide +kernel) wd_1677 wd_1679 wd_122 (fun r_4 b_4 σ_4 => ?_)
            show V M_Model_giveOn 3 0 0 0 0 tU _ 55 [(0, vR h0), (1, vI x1), (2, vI x2), (3, vI x3)] [vI r_4, vR (SR σ h0 0)] b_4 σ_4
            refine V_iconst 56 rfl (show decode M_Model_giveOn.2.1 55 = .ok (.iconst 4, 1) by decide +kernel) (v := 4) rfl ?_
            refine V_iadd 57 rfl (show decode M_Model_giveOn.2.1 56 = .ok (.iadd, 1) by decide +kernel) ?_
            refine V_iconst 58 rfl (show decode M_Model_giveOn.2.1 57 = .ok (.iconst 2, 1) by decide +kernel) (v := 2) rfl ?_
            refine V_ast_int 59 rfl (show decode M_Model_giveOn.2.1 58 = .ok (.iastore, 1) by decide +kernel) (fun σ_5 => ?_)
            exact V_sub [0, 1, 2, 3] rfl (hJ59 (b_4 && cA σ_4 (SR σ h0 0) 21 (r_4 + (4 : Int32))) σ_5)
          · skip
            refine V_iflt 26 46 rfl (show decode M_Model_giveOn.2.1 23 = .ok (.ifCond .lt 23, 3) by decide +kernel) rfl ?_ ?_
            · skip
              exact V_sub [0, 1, 2, 3] rfl (hJ46 b_2 σ_2)
            · skip
              refine V_aload_n 27 rfl (show decode M_Model_giveOn.2.1 26 = .ok (.aload_n 0, 1) by decide +kernel) 0 rfl ?_
              refine V_aload_n 28 rfl (show decode M_Model_giveOn.2.1 27 = .ok (.aload_n 0, 1) by decide +kernel) 0 rfl ?_
              refine V_get (j := 0) (v := vR (SR σ_2 h0 0)) 31 rfl ck_Model (by decide) (by decide) (show decode M_Model_giveOn.2.1 28 = .ok (.getfield 7, 3) by decide +kernel) wd_1504 rfl ?_
              refine V_aload_n 32 rfl (show decode M_Model_giveOn.2.1 31 = .ok (.aload_n 0, 1) by decide +kernel) 0 rfl ?_
              refine V_iload_n 33 rfl (show decode M_Model_giveOn.2.1 32 = .ok (.iload_n 3, 1) by decide +kernel) 3 rfl ?_
              refine V_callV (tb := tI) (as := [vI x3]) (rest := [vR (SR σ_2 h0 0), vR h0]) (na := 1) 36 rfl ck_Model (by decide) (s_Model_boxAt h0 x3 ((b_2 && cK σ_2 h0 13) && cK σ_2 h0 13) σ_2) rfl rfl (Nat.le_of_ble_eq_true rfl) (cal_Model_boxAt _ _ _ _ _ (by decide) (by decide) (by decide)) (show decode M_Model_giveOn.2.1 33 = .ok (.invokevirtual 129, 3) by decide +kernel) wd_1677 wd_1679 wd_122 (fun r_6 b_6 σ_6 => ?_)
              show V M_Model_giveOn 3 0 0 0 0 tU _ 36 [(0, vR h0), (1, vI x1), (2, vI x2), (3, vI x3)] [vI r_6, vR (SR σ_2 h0 0), vR h0] b_6 σ_6
              refine V_iconst 37 rfl (show decode M_Model_giveOn.2.1 36 = .ok (.iconst 1, 1) by decide +kernel) (v := 1) rfl ?_
              refine V_iadd 38 rfl (show decode M_Model_giveOn.2.1 37 = .ok (.iadd, 1) by decide +kernel) ?_
              refine V_ald_int 39 rfl (show decode M_Model_giveOn.2.1 38 = .ok (.iaload, 1) by decide +kernel) ?_
              refine V_callV (tb := tI) (as := [vI (SI σ_6 (SR σ_2 h0 0) (ix (r_6 + (1 : Int32))))]) (rest := []) (na := 1) 42 rfl ck_Model (by decide) (s_Model_mileOf h0 (SI σ_6 (SR σ_2 h0 0) (ix (r_6 + (1 : Int32)))) ((b_6 && cA σ_6 (SR σ_2 h0 0) 21 (r_6 + (1 : Int32))) && cK σ_6 h0 13) σ_6) rfl rfl (Nat.le_of_ble_eq_true rfl) (cal_Model_mileOf _ _ _ _ _ (by decide) (by decide) (by decide)) (show decode M_Model_giveOn.2.1 39 = .ok (.invokevirtual 92, 3) by decide +kernel) wd_1621 wd_1623 wd_112 (fun r_7 b_7 σ_7 => ?_)
              show V M_Model_giveOn 3 0 0 0 0 tU _ 42 [(0, vR h0), (1, vI x1), (2, vI x2), (3, vI x3)] [vI r_7] b_7 σ_7
              refine V_iload_n 43 rfl (show decode M_Model_giveOn.2.1 42 = .ok (.iload_n 2, 1) by decide +kernel) 2 rfl ?_
              refine V_icmpne 46 59 rfl (show decode M_Model_giveOn.2.1 43 = .ok (.if_icmp .ne 16, 3) by decide +kernel) rfl ?_ ?_
              · skip
                exact V_sub [0, 1, 2, 3] rfl (hJ46 b_7 σ_7)
              · skip
                exact V_sub [0, 1, 2, 3] rfl (hJ59 b_7 σ_7)
    · skip
      exact V_vret rfl (by decide) (by decide) (show decode M_Model_giveOn.2.1 65 = .ok (.return_, 1) by decide +kernel)
theorem cal_Model_giveOn (d mc ms k n : Nat) (h1 : 3 + 1 ≤ d) (h2 : k + 0 ≤ mc) (h3 : n + 0 ≤ ms) : Cal M_Model_giveOn 3 0 0 2 d mc ms k n := ⟨wd_1902, wd_181, by decide, h1, by decide, h2, h3⟩
abbrev M_Model_isHeld : MD := (⟨"LongTrailModel", "isHeld", "(I)Z"⟩, prog_14_method_70_code, 8, (some FieldType.boolean))
def b_Model_isHeld_70 (h0 : Nat) (x1 : Int32) (x2_2 : Int32) (x3_3 : Int32) (x4_7 : Int32) (L70 : Int32 → Int32 → Bool → Sto → Rs Int32) (x5 : Int32) (x6 : Int32) (b : Bool) (σ : Sto) : Rs Int32 := (if x6 < (SI σ (SR σ h0 0) (ix (6 : Int32))) then (bd_ (f_Model_boxAt h0 x6 (((b && cK σ h0 13) && cA σ (SR σ h0 0) 21 (6 : Int32)) && cK σ h0 13) σ) (fun (r_10 : Int32) (b_10 : Bool) (σ_10 : Sto) => (lt_ r_10 (fun (x7_11 : Int32) => (lt_ (fun (x5_167 : Int32) (b : Bool) (σ : Sto) => (lt_ (x6 + (1 : Int32)) (fun (x6_12 : Int32) => (L70 x5_167 x6_12 b σ)))) (fun J167 => (if x4_7 = 0 then (J167 x5 b_10 σ_10) else (bd_ (f_Model_isOpen h0 x6 x1 (b_10 && cK σ_10 h0 13) σ_10) (fun (r_13 : Int32) (b_13 : Bool) (σ_13 : Sto) => (if r_13 = 0 then (J167 x5 b_13 σ_13) else (bd_ (f_Model_mileOf h0 (SI σ_13 (SR σ_13 h0 0) (ix (x7_11 + (1 : Int32)))) (((b_13 && cK σ_13 h0 13) && cA σ_13 (SR σ_13 h0 0) 21 (x7_11 + (1 : Int32))) && cK σ_13 h0 13) σ_13) (fun (r_14 : Int32) (b_14 : Bool) (σ_14 : Sto) => (if r_14 = x3_3 then (if (SI σ_14 (SR σ_14 h0 0) (ix (0 : Int32))) < (SI σ_14 (SR σ_14 h0 0) (ix (x7_11 + (3 : Int32)))) then (J167 x5 ((((b_14 && cK σ_14 h0 13) && cA σ_14 (SR σ_14 h0 0) 21 (x7_11 + (3 : Int32))) && cK σ_14 h0 13) && cA σ_14 (SR σ_14 h0 0) 21 (0 : Int32)) σ_14) else (lt_ (pI σ_14 (SR σ_14 h0 0) (ix (x7_11 + (4 : Int32))) (1 : Int32)) (fun (σ_15 : Sto) => (bd_ (f_Model_eats h0 x1 (SI σ_15 (SR σ_15 h0 0) (ix (x7_11 + (2 : Int32)))) (((((((((b_14 && cK σ_14 h0 13) && cA σ_14 (SR σ_14 h0 0) 21 (x7_11 + (3 : Int32))) && cK σ_14 h0 13) && cA σ_14 (SR σ_14 h0 0) 21 (0 : Int32)) && cK σ_14 h0 13) && cA σ_14 (SR σ_14 h0 0) 21 (x7_11 + (4 : Int32))) && cK σ_15 h0 13) && cA σ_15 (SR σ_15 h0 0) 21 (x7_11 + (2 : Int32))) && cK σ_15 h0 13) σ_15) (fun (r_16 : Unit) (b_16 : Bool) (σ_16 : Sto) => (lt_ (x5 + (1 : Int32)) (fun (x5_17 : Int32) => (J167 x5_17 b_16 σ_16)))))))) else (J167 x5 b_14 σ_14)))))))))))))) else (if 0 < x5 then ((0 : Int32), ((b && cK σ h0 13) && cA σ (SR σ h0 0) 21 (6 : Int32)), σ) else (lt_ (pI σ (SR σ h0 0) (ix (x2_2 + (10 : Int32))) ((SI σ (SR σ h0 0) (ix (x2_2 + (10 : Int32)))) + (1 : Int32))) (fun (σ_18 : Sto) => (if (3 : Int32) < (SI σ_18 (SR σ_18 h0 0) (ix (x2_2 + (10 : Int32)))) then (bd_ (f_Model_giveOn h0 x1 x3_3 ((((((((b && cK σ h0 13) && cA σ (SR σ h0 0) 21 (6 : Int32)) && cK σ h0 13) && cA σ (SR σ h0 0) 21 (x2_2 + (10 : Int32))) && cA σ (SR σ h0 0) 21 (x2_2 + (10 : Int32))) && cK σ_18 h0 13) && cA σ_18 (SR σ_18 h0 0) 21 (x2_2 + (10 : Int32))) && cK σ_18 h0 13) σ_18) (fun (r_19 : Unit) (b_19 : Bool) (σ_19 : Sto) => ((0 : Int32), b_19, σ_19))) else ((1 : Int32), (((((((b && cK σ h0 13) && cA σ (SR σ h0 0) 21 (6 : Int32)) && cK σ h0 13) && cA σ (SR σ h0 0) 21 (x2_2 + (10 : Int32))) && cA σ (SR σ h0 0) 21 (x2_2 + (10 : Int32))) && cK σ_18 h0 13) && cA σ_18 (SR σ_18 h0 0) 21 (x2_2 + (10 : Int32))), σ_18))))))
def f_Model_isHeld (h0 : Nat) (x1 : Int32) (b : Bool) (σ : Sto) : Rs Int32 := (bd_ (f_Model_walkerAt h0 x1 (b && cK σ h0 13) σ) (fun (r_1 : Int32) (b_1 : Bool) (σ_1 : Sto) => (lt_ r_1 (fun (x2_2 : Int32) => (lt_ (SI σ_1 (SR σ_1 h0 0) (ix (x2_2 + (1 : Int32)))) (fun (x3_3 : Int32) => (bd_ (f_Model_boxesAt h0 x1 x3_3 (((b_1 && cK σ_1 h0 13) && cA σ_1 (SR σ_1 h0 0) 21 (x2_2 + (1 : Int32))) && cK σ_1 h0 13) σ_1) (fun (r_4 : Int32) (b_4 : Bool) (σ_4 : Sto) => (if r_4 = 0 then ((0 : Int32), b_4, σ_4) else (bd_ (f_Model_placeOn h0 x3_3 ((b_4 && cK σ_4 h0 13) && cK σ_4 h0 13) σ_4) (fun (r_5 : Int32) (b_5 : Bool) (σ_5 : Sto) => (bd_ (f_Model_placeAt h0 r_5 (b_5 && cK σ_5 h0 13) σ_5) (fun (r_6 : Int32) (b_6 : Bool) (σ_6 : Sto) => (lt_ (fun (s0_62 : Int32) (b : Bool) (σ : Sto) => (lt_ s0_62 (fun (x4_7 : Int32) => (lt_ (0 : Int32) (fun (x5_8 : Int32) => (lt_ (0 : Int32) (fun (x6_9 : Int32) => (lp_ (b_Model_isHeld_70 h0 x1 x2_2 x3_3 x4_7) (fun (x5 : Int32) (x6 : Int32) (b : Bool) (σ : Sto) => (0, false, σ)) fuel_ x5_8 x6_9 b σ)))))))) (fun J62 => (if (((SI σ_6 (SR σ_4 h0 0) (ix (r_6 + (3 : Int32)))) >>> (((SI σ_6 (SR σ_6 h0 0) (ix (0 : Int32))) - (SI σ_6 (SR σ_6 h0 0) (ix (0 : Int32))) / (7 : Int32) * (7 : Int32)) &&& 31)) &&& (1 : Int32)) = 0 then (J62 (1 : Int32) ((((b_6 && cA σ_6 (SR σ_4 h0 0) 21 (r_6 + (3 : Int32))) && cK σ_6 h0 13) && cA σ_6 (SR σ_6 h0 0) 21 (0 : Int32)) && !decide ((7 : Int32) = 0)) σ_6) else (J62 (0 : Int32) ((((b_6 && cA σ_6 (SR σ_4 h0 0) 21 (r_6 + (3 : Int32))) && cK σ_6 h0 13) && cA σ_6 (SR σ_6 h0 0) 21 (0 : Int32)) && !decide ((7 : Int32) = 0)) σ_6)))))))))))))))))
set_option maxRecDepth 100000 in
set_option maxHeartbeats 4000000 in
theorem s_Model_isHeld : ∀ (h0 : Nat) (x1 : Int32) (b : Bool) (σ : Sto), Snd M_Model_isHeld 4 0 0 [vR h0, vI x1] b σ (tI (f_Model_isHeld h0 x1 b σ).1) (f_Model_isHeld h0 x1 b σ).2.1 (f_Model_isHeld h0 x1 b σ).2.2 := by
  intro h0 x1 b σ
  refine Snd_of (tv := tI) (by decide) (Nat.le_of_ble_eq_true rfl) ?_
  show V M_Model_isHeld 4 0 0 0 0 tI (f_Model_isHeld h0 x1 b σ) 0 [(0, vR h0), (1, vI x1)] [] b σ
  unfold f_Model_isHeld
  refine V_aload_n 1 rfl (show decode M_Model_isHeld.2.1 0 = .ok (.aload_n 0, 1) by decide +kernel) 0 rfl ?_
  refine V_iload_n 2 rfl (show decode M_Model_isHeld.2.1 1 = .ok (.iload_n 1, 1) by decide +kernel) 1 rfl ?_
  refine V_callV (tb := tI) (as := [vI x1]) (rest := []) (na := 1) 5 rfl ck_Model (by decide) (s_Model_walkerAt h0 x1 (b && cK σ h0 13) σ) rfl rfl (Nat.le_of_ble_eq_true rfl) (cal_Model_walkerAt _ _ _ _ _ (by decide) (by decide) (by decide)) (show decode M_Model_isHeld.2.1 2 = .ok (.invokevirtual 84, 3) by decide +kernel) wd_1673 wd_1675 wd_121 (fun r_1 b_1 σ_1 => ?_)
  show V M_Model_isHeld 4 0 0 0 0 tI _ 5 [(0, vR h0), (1, vI x1)] [vI r_1] b_1 σ_1
  refine V_istore_n (fun x2_2 => [(2, vI x2_2), (0, vR h0), (1, vI x1)]) 6 rfl (show decode M_Model_isHeld.2.1 5 = .ok (.istore_n 2, 1) by decide +kernel) (by decide) (fun _ => rfl) (fun x2_2 => ?_)
  refine V_aload_n 7 rfl (show decode M_Model_isHeld.2.1 6 = .ok (.aload_n 0, 1) by decide +kernel) 1 rfl ?_
  refine V_get (j := 0) (v := vR (SR σ_1 h0 0)) 10 rfl ck_Model (by decide) (by decide) (show decode M_Model_isHeld.2.1 7 = .ok (.getfield 7, 3) by decide +kernel) wd_1504 rfl ?_
  refine V_iload_n 11 rfl (show decode M_Model_isHeld.2.1 10 = .ok (.iload_n 2, 1) by decide +kernel) 0 rfl ?_
  refine V_iconst 12 rfl (show decode M_Model_isHeld.2.1 11 = .ok (.iconst 1, 1) by decide +kernel) (v := 1) rfl ?_
  refine V_iadd 13 rfl (show decode M_Model_isHeld.2.1 12 = .ok (.iadd, 1) by decide +kernel) ?_
  refine V_ald_int 14 rfl (show decode M_Model_isHeld.2.1 13 = .ok (.iaload, 1) by decide +kernel) ?_
  refine V_istore_n (fun x3_3 => [(3, vI x3_3), (2, vI x2_2), (0, vR h0), (1, vI x1)]) 15 rfl (show decode M_Model_isHeld.2.1 14 = .ok (.istore_n 3, 1) by decide +kernel) (by decide) (fun _ => rfl) (fun x3_3 => ?_)
  refine V_aload_n 16 rfl (show decode M_Model_isHeld.2.1 15 = .ok (.aload_n 0, 1) by decide +kernel) 2 rfl ?_
  refine V_iload_n 17 rfl (show decode M_Model_isHeld.2.1 16 = .ok (.iload_n 1, 1) by decide +kernel) 3 rfl ?_
  refine V_iload_n 18 rfl (show decode M_Model_isHeld.2.1 17 = .ok (.iload_n 3, 1) by decide +kernel) 0 rfl ?_
  refine V_callV (tb := tI) (as := [vI x1, vI x3_3]) (rest := []) (na := 2) 21 rfl ck_Model (by decide) (s_Model_boxesAt h0 x1 x3_3 (((b_1 && cK σ_1 h0 13) && cA σ_1 (SR σ_1 h0 0) 21 (x2_2 + (1 : Int32))) && cK σ_1 h0 13) σ_1) rfl rfl (Nat.le_of_ble_eq_true rfl) (cal_Model_boxesAt _ _ _ _ _ (by decide) (by decide) (by decide)) (show decode M_Model_isHeld.2.1 18 = .ok (.invokevirtual 270, 3) by decide +kernel) wd_1842 wd_1844 wd_144 (fun r_4 b_4 σ_4 => ?_)
  show V M_Model_isHeld 4 0 0 0 0 tI _ 21 [(3, vI x3_3), (2, vI x2_2), (0, vR h0), (1, vI x1)] [vI r_4] b_4 σ_4
  refine V_ifne 24 26 rfl (show decode M_Model_isHeld.2.1 21 = .ok (.ifCond .ne 5, 3) by decide +kernel) rfl ?_ ?_
  · skip
    refine V_iconst 25 rfl (show decode M_Model_isHeld.2.1 24 = .ok (.iconst 0, 1) by decide +kernel) (v := 0) rfl ?_
    exact V_zret rfl (by decide) (by decide) rfl (show decode M_Model_isHeld.2.1 25 = .ok (.ireturn, 1) by decide +kernel)
  · skip
    refine V_aload_n 27 rfl (show decode M_Model_isHeld.2.1 26 = .ok (.aload_n 0, 1) by decide +kernel) 2 rfl ?_
    refine V_get (j := 0) (v := vR (SR σ_4 h0 0)) 30 rfl ck_Model (by decide) (by decide) (show decode M_Model_isHeld.2.1 27 = .ok (.getfield 7, 3) by decide +kernel) wd_1504 rfl ?_
    refine V_aload_n 31 rfl (show decode M_Model_isHeld.2.1 30 = .ok (.aload_n 0, 1) by decide +kernel) 2 rfl ?_
    refine V_aload_n 32 rfl (show decode M_Model_isHeld.2.1 31 = .ok (.aload_n 0, 1) by decide +kernel) 2 rfl ?_
    refine V_iload_n 33 rfl (show decode M_Model_isHeld.2.1 32 = .ok (.iload_n 3, 1) by decide +kernel) 0 rfl ?_
    refine V_callV (tb := tI) (as := [vI x3_3]) (rest := [vR h0, vR (SR σ_4 h0 0)]) (na := 1) 36 rfl ck_Model (by decide) (s_Model_placeOn h0 x3_3 ((b_4 && cK σ_4 h0 13) && cK σ_4 h0 13) σ_4) rfl rfl (Nat.le_of_ble_eq_true rfl) (cal_Model_placeOn _ _ _ _ _ (by decide) (by decide) (by decide)) (show decode M_Model_isHeld.2.1 33 = .ok (.invokevirtual 116, 3) by decide +kernel) wd_1652 wd_1654 wd_117 (fun r_5 b_5 σ_5 => ?_)
    show V M_Model_isHeld 4 0 0 0 0 tI _ 36 [(3, vI x3_3), (2, vI x2_2), (0, vR h0), (1, vI x1)] [vI r_5, vR h0, vR (SR σ_4 h0 0)] b_5 σ_5
    refine V_callV (tb := tI) (as := [vI r_5]) (rest := [vR (SR σ_4 h0 0)]) (na := 1) 39 rfl ck_Model (by decide) (s_Model_placeAt h0 r_5 (b_5 && cK σ_5 h0 13) σ_5) rfl rfl (Nat.le_of_ble_eq_true rfl) (cal_Model_placeAt _ _ _ _ _ (by decide) (by decide) (by decide)) (show decode M_Model_isHeld.2.1 36 = .ok (.invokevirtual 80, 3) by decide +kernel) wd_1625 wd_1627 wd_113 (fun r_6 b_6 σ_6 => ?_)
    show V M_Model_isHeld 4 0 0 0 0 tI _ 39 [(3, vI x3_3), (2, vI x2_2), (0, vR h0), (1, vI x1)] [vI r_6, vR (SR σ_4 h0 0)] b_6 σ_6
    refine V_iconst 40 rfl (show decode M_Model_isHeld.2.1 39 = .ok (.iconst 3, 1) by decide +kernel) (v := 3) rfl ?_
    refine V_iadd 41 rfl (show decode M_Model_isHeld.2.1 40 = .ok (.iadd, 1) by decide +kernel) ?_
    refine V_ald_int 42 rfl (show decode M_Model_isHeld.2.1 41 = .ok (.iaload, 1) by decide +kernel) ?_
    refine V_aload_n 43 rfl (show decode M_Model_isHeld.2.1 42 = .ok (.aload_n 0, 1) by decide +kernel) 2 rfl ?_
    refine V_get (j := 0) (v := vR (SR σ_6 h0 0)) 46 rfl ck_Model (by decide) (by decide) (show decode M_Model_isHeld.2.1 43 = .ok (.getfield 7, 3) by decide +kernel) wd_1504 rfl ?_
    refine V_iconst 47 rfl (show decode M_Model_isHeld.2.1 46 = .ok (.iconst 0, 1) by decide +kernel) (v := 0) rfl ?_
    refine V_ald_int 48 rfl (show decode M_Model_isHeld.2.1 47 = .ok (.iaload, 1) by decide +kernel) ?_
    refine V_bipush 50 rfl (show decode M_Model_isHeld.2.1 48 = .ok (.bipush 7, 2) by decide +kernel) (v := 7) rfl ?_
    refine V_irem 51 rfl (show decode M_Model_isHeld.2.1 50 = .ok (.irem, 1) by decide +kernel) ?_
    refine V_ishr 52 rfl (show decode M_Model_isHeld.2.1 51 = .ok (.ishr, 1) by decide +kernel) ?_
    refine V_iconst 53 rfl (show decode M_Model_isHeld.2.1 52 = .ok (.iconst 1, 1) by decide +kernel) (v := 1) rfl ?_
    refine V_iand 54 rfl (show decode M_Model_isHeld.2.1 53 = .ok (.iand, 1) by decide +kernel) ?_
    refine V_jn (fun (J62 : Int32 → Bool → Sto → Rs Int32) => ∀ (s0_62 : Int32) (b : Bool) (σ : Sto), V M_Model_isHeld 4 0 0 0 0 tI (J62 s0_62 b σ) 62 [(0, vR h0), (1, vI x1), (2, vI x2_2), (3, vI x3_3)] [vI s0_62] b σ) ?_ (fun J62 hJ62 => ?_)
    · intro s0_62 b σ
      refine V_istore (fun x4_7 => [(4, vI x4_7), (0, vR h0), (1, vI x1), (2, vI x2_2), (3, vI x3_3)]) 64 rfl (show decode M_Model_isHeld.2.1 62 = .ok (.istore 4, 2) by decide +kernel) (by decide) (fun _ => rfl) (fun x4_7 => ?_)
      refine V_iconst 65 rfl (show decode M_Model_isHeld.2.1 64 = .ok (.iconst 0, 1) by decide +kernel) (v := 0) rfl ?_
      refine V_istore (fun x5_8 => [(5, vI x5_8), (4, vI x4_7), (0, vR h0), (1, vI x1), (2, vI x2_2), (3, vI x3_3)]) 67 rfl (show decode M_Model_isHeld.2.1 65 = .ok (.istore 5, 2) by decide +kernel) (by decide) (fun _ => rfl) (fun x5_8 => ?_)
      refine V_iconst 68 rfl (show decode M_Model_isHeld.2.1 67 = .ok (.iconst 0, 1) by decide +kernel) (v := 0) rfl ?_
      refine V_istore (fun x6_9 => [(6, vI x6_9), (5, vI x5_8), (4, vI x4_7), (0, vR h0), (1, vI x1), (2, vI x2_2), (3, vI x3_3)]) 70 rfl (show decode M_Model_isHeld.2.1 68 = .ok (.istore 6, 2) by decide +kernel) (by decide) (fun _ => rfl) (fun x6_9 => ?_)
      refine V_sub [3, 4, 5, 6, 2, 1, 0] rfl ?_
      refine lp_P (fun (L70 : Int32 → Int32 → Bool → Sto → Rs Int32) => ∀ (x5 : Int32) (x6 : Int32) (b : Bool) (σ : Sto), V M_Model_isHeld 4 0 0 0 0 tI (L70 x5 x6 b σ) 70 [(0, vR h0), (1, vI x1), (2, vI x2_2), (3, vI x3_3), (4, vI x4_7), (5, vI x5), (6, vI x6)] [] b σ) ?_ ?_ fuel_ x5_8 x6_9 b σ
      · intro x5 x6 b σ; exact V_bad
      · intro L70 hL70 x5 x6 b σ
        unfold b_Model_isHeld_70
        refine V_iload 72 rfl (show decode M_Model_isHeld.2.1 70 = .ok (.iload 6, 2) by decide +kernel) 6 rfl ?_
        refine V_aload_n 73 rfl (show decode M_Model_isHeld.2.1 72 = .ok (.aload_n 0, 1) by decide +kernel) 0 rfl ?_
        refine V_get (j := 0) (v := vR (SR σ h0 0)) 76 rfl ck_Model (by decide) (by decide) (show decode M_Model_isHeld.2.1 73 = .ok (.getfield 7, 3) by decide +kernel) wd_1504 rfl ?_
        refine V_bipush 78 rfl (show decode M_Model_isHeld.2.1 76 = .ok (.bipush 6, 2) by decide +kernel) (v := 6) rfl ?_
        refine V_ald_int 79 rfl (show decode M_Model_isHeld.2.1 78 = .ok (.iaload, 1) by decide +kernel) ?_
        refine V_icmpge 82 173 rfl (show decode M_Model_isHeld.2.1 79 = .ok (.if_icmp .ge 94, 3) by decide +kernel) rfl ?_ ?_
        · skip
          refine V_aload_n 83 rfl (show decode M_Model_isHeld.2.1 82 = .ok (.aload_n 0, 1) by decide +kernel) 0 rfl ?_
          refine V_iload 85 rfl (show decode M_Model_isHeld.2.1 83 = .ok (.iload 6, 2) by decide +kernel) 6 rfl ?_
          refine V_callV (tb := tI) (as := [vI x6]) (rest := []) (na := 1) 88 rfl ck_Model (by decide) (s_Model_boxAt h0 x6 (((b && cK σ h0 13) && cA σ (SR σ h0 0) 21 (6 : Int32)) && cK σ h0 13) σ) rfl rfl (Nat.le_of_ble_eq_true rfl) (cal_Model_boxAt _ _ _ _ _ (by decide) (by decide) (by decide)) (show decode M_Model_isHeld.2.1 85 = .ok (.invokevirtual 129, 3) by decide +kernel) wd_1677 wd_1679 wd_122 (fun r_10 b_10 σ_10 => ?_)
          show V M_Model_isHeld 4 0 0 0 0 tI _ 88 [(0, vR h0), (1, vI x1), (2, vI x2_2), (3, vI x3_3), (4, vI x4_7), (5, vI x5), (6, vI x6)] [vI r_10] b_10 σ_10
          refine V_istore (fun x7_11 => [(7, vI x7_11), (0, vR h0), (1, vI x1), (2, vI x2_2), (3, vI x3_3), (4, vI x4_7), (5, vI x5), (6, vI x6)]) 90 rfl (show decode M_Model_isHeld.2.1 88 = .ok (.istore 7, 2) by decide +kernel) (by decide) (fun _ => rfl) (fun x7_11 => ?_)
          refine V_iload 92 rfl (show decode M_Model_isHeld.2.1 90 = .ok (.iload 4, 2) by decide +kernel) 5 rfl ?_
          refine V_jn (fun (J167 : Int32 → Bool → Sto → Rs Int32) => ∀ (x5_167 : Int32) (b : Bool) (σ : Sto), V M_Model_isHeld 4 0 0 0 0 tI (J167 x5_167 b σ) 167 [(0, vR h0), (1, vI x1), (2, vI x2_2), (3, vI x3_3), (4, vI x4_7), (5, vI x5_167), (6, vI x6)] [] b σ) ?_ (fun J167 hJ167 => ?_)
          · intro x5_167 b σ
            refine V_iinc (fun x6_12 => [(6, vI x6_12), (0, vR h0), (1, vI x1), (2, vI x2_2), (3, vI x3_3), (4, vI x4_7), (5, vI x5_167)]) 170 rfl (show decode M_Model_isHeld.2.1 167 = .ok (.iinc 6 1, 3) by decide +kernel) 6 rfl (w := 1) rfl (by decide) (fun _ => rfl) (fun x6_12 => ?_)
            refine V_goto 70 (show decode M_Model_isHeld.2.1 170 = .ok (.goto (-100), 3) by decide +kernel) rfl ?_
            exact V_sub [1, 2, 3, 4, 5, 6, 0] rfl (hL70 x5_167 x6_12 b σ)
          · skip
            refine V_ifeq 95 167 rfl (show decode M_Model_isHeld.2.1 92 = .ok (.ifCond .eq 75, 3) by decide +kernel) rfl ?_ ?_
            · skip
              exact V_sub [1, 2, 3, 4, 5, 6, 7] rfl (hJ167 x5 b_10 σ_10)
            · skip
              refine V_aload_n 96 rfl (show decode M_Model_isHeld.2.1 95 = .ok (.aload_n 0, 1) by decide +kernel) 1 rfl ?_
              refine V_iload 98 rfl (show decode M_Model_isHeld.2.1 96 = .ok (.iload 6, 2) by decide +kernel) 7 rfl ?_
              refine V_iload_n 99 rfl (show decode M_Model_isHeld.2.1 98 = .ok (.iload_n 1, 1) by decide +kernel) 2 rfl ?_
              refine V_callV (tb := tI) (as := [vI x6, vI x1]) (rest := []) (na := 2) 102 rfl ck_Model (by decide) (s_Model_isOpen h0 x6 x1 (b_10 && cK σ_10 h0 13) σ_10) rfl rfl (Nat.le_of_ble_eq_true rfl) (cal_Model_isOpen _ _ _ _ _ (by decide) (by decide) (by decide)) (show decode M_Model_isHeld.2.1 99 = .ok (.invokevirtual 262, 3) by decide +kernel) wd_1846 wd_1848 wd_145 (fun r_13 b_13 σ_13 => ?_)
              show V M_Model_isHeld 4 0 0 0 0 tI _ 102 [(7, vI x7_11), (0, vR h0), (1, vI x1), (2, vI x2_2), (3, vI x3_3), (4, vI x4_7), (5, vI x5), (6, vI x6)] [vI r_13] b_13 σ_13
              refine V_ifeq 105 167 rfl (show decode M_Model_isHeld.2.1 102 = .ok (.ifCond .eq 65, 3) by decide +kernel) rfl ?_ ?_
              · skip
                exact V_sub [1, 2, 3, 4, 5, 6, 7] rfl (hJ167 x5 b_13 σ_13)
              · skip
                refine V_aload_n 106 rfl (show decode M_Model_isHeld.2.1 105 = .ok (.aload_n 0, 1) by decide +kernel) 1 rfl ?_
                refine V_aload_n 107 rfl (show decode M_Model_isHeld.2.1 106 = .ok (.aload_n 0, 1) by decide +kernel) 1 rfl ?_
                refine V_get (j := 0) (v := vR (SR σ_13 h0 0)) 110 rfl ck_Model (by decide) (by decide) (show decode M_Model_isHeld.2.1 107 = .ok (.getfield 7, 3) by decide +kernel) wd_1504 rfl ?_
                refine V_iload 112 rfl (show decode M_Model_isHeld.2.1 110 = .ok (.iload 7, 2) by decide +kernel) 0 rfl ?_
                refine V_iconst 113 rfl (show decode M_Model_isHeld.2.1 112 = .ok (.iconst 1, 1) by decide +kernel) (v := 1) rfl ?_
                refine V_iadd 114 rfl (show decode M_Model_isHeld.2.1 113 = .ok (.iadd, 1) by decide +kernel) ?_
                refine V_ald_int 115 rfl (show decode M_Model_isHeld.2.1 114 = .ok (.iaload, 1) by decide +kernel) ?_
                refine V_callV (tb := tI) (as := [vI (SI σ_13 (SR σ_13 h0 0) (ix (x7_11 + (1 : Int32))))]) (rest := []) (na := 1) 118 rfl ck_Model (by decide) (s_Model_mileOf h0 (SI σ_13 (SR σ_13 h0 0) (ix (x7_11 + (1 : Int32)))) (((b_13 && cK σ_13 h0 13) && cA σ_13 (SR σ_13 h0 0) 21 (x7_11 + (1 : Int32))) && cK σ_13 h0 13) σ_13) rfl rfl (Nat.le_of_ble_eq_true rfl) (cal_Model_mileOf _ _ _ _ _ (by decide) (by decide) (by decide)) (show decode M_Model_isHeld.2.1 115 = .ok (.invokevirtual 92, 3) by decide +kernel) wd_1621 wd_1623 wd_112 (fun r_14 b_14 σ_14 => ?_)
                show V M_Model_isHeld 4 0 0 0 0 tI _ 118 [(7, vI x7_11), (0, vR h0), (1, vI x1), (2, vI x2_2), (3, vI x3_3), (4, vI x4_7), (5, vI x5), (6, vI x6)] [vI r_14] b_14 σ_14
                refine V_iload_n 119 rfl (show decode M_Model_isHeld.2.1 118 = .ok (.iload_n 3, 1) by decide +kernel) 4 rfl ?_
                refine V_icmpne 122 167 rfl (show decode M_Model_isHeld.2.1 119 = .ok (.if_icmp .ne 48, 3) by decide +kernel) rfl ?_ ?_
                · skip
                  refine V_aload_n 123 rfl (show decode M_Model_isHeld.2.1 122 = .ok (.aload_n 0, 1) by decide +kernel) 1 rfl ?_
                  refine V_get (j := 0) (v := vR (SR σ_14 h0 0)) 126 rfl ck_Model (by decide) (by decide) (show decode M_Model_isHeld.2.1 123 = .ok (.getfield 7, 3) by decide +kernel) wd_1504 rfl ?_
                  refine V_iload 128 rfl (show decode M_Model_isHeld.2.1 126 = .ok (.iload 7, 2) by decide +kernel) 0 rfl ?_
                  refine V_iconst 129 rfl (show decode M_Model_isHeld.2.1 128 = .ok (.iconst 3, 1) by decide +kernel) (v := 3) rfl ?_
                  refine V_iadd 130 rfl (show decode M_Model_isHeld.2.1 129 = .ok (.iadd, 1) by decide +kernel) ?_
                  refine V_ald_int 131 rfl (show decode M_Model_isHeld.2.1 130 = .ok (.iaload, 1) by decide +kernel) ?_
                  refine V_aload_n 132 rfl (show decode M_Model_isHeld.2.1 131 = .ok (.aload_n 0, 1) by decide +kernel) 1 rfl ?_
                  refine V_get (j := 0) (v := vR (SR σ_14 h0 0)) 135 rfl ck_Model (by decide) (by decide) (show decode M_Model_isHeld.2.1 132 = .ok (.getfield 7, 3) by decide +kernel) wd_1504 rfl ?_
                  refine V_iconst 136 rfl (show decode M_Model_isHeld.2.1 135 = .ok (.iconst 0, 1) by decide +kernel) (v := 0) rfl ?_
                  refine V_ald_int 137 rfl (show decode M_Model_isHeld.2.1 136 = .ok (.iaload, 1) by decide +kernel) ?_
                  refine V_icmpgt 140 167 rfl (show decode M_Model_isHeld.2.1 137 = .ok (.if_icmp .gt 30, 3) by decide +kernel) rfl ?_ ?_
                  · skip
                    exact V_sub [1, 2, 3, 4, 5, 6, 7] rfl (hJ167 x5 ((((b_14 && cK σ_14 h0 13) && cA σ_14 (SR σ_14 h0 0) 21 (x7_11 + (3 : Int32))) && cK σ_14 h0 13) && cA σ_14 (SR σ_14 h0 0) 21 (0 : Int32)) σ_14)
                  · skip
                    refine V_aload_n 141 rfl (show decode M_Model_isHeld.2.1 140 = .ok (.aload_n 0, 1) by decide +kernel) 1 rfl ?_
                    refine V_get (j := 0) (v := vR (SR σ_14 h0 0)) 144 rfl ck_Model (by decide) (by decide) (show decode M_Model_isHeld.2.1 141 = .ok (.getfield 7, 3) by decide +kernel) wd_1504 rfl ?_
                    refine V_iload 146 rfl (show decode M_Model_isHeld.2.1 144 = .ok (.iload 7, 2) by decide +kernel) 0 rfl ?_
                    refine V_iconst 147 rfl (show decode M_Model_isHeld.2.1 146 = .ok (.iconst 4, 1) by decide +kernel) (v := 4) rfl ?_
                    refine V_iadd 148 rfl (show decode M_Model_isHeld.2.1 147 = .ok (.iadd, 1) by decide +kernel) ?_
                    refine V_iconst 149 rfl (show decode M_Model_isHeld.2.1 148 = .ok (.iconst 1, 1) by decide +kernel) (v := 1) rfl ?_
                    refine V_ast_int 150 rfl (show decode M_Model_isHeld.2.1 149 = .ok (.iastore, 1) by decide +kernel) (fun σ_15 => ?_)
                    refine V_aload_n 151 rfl (show decode M_Model_isHeld.2.1 150 = .ok (.aload_n 0, 1) by decide +kernel) 1 rfl ?_
                    refine V_iload_n 152 rfl (show decode M_Model_isHeld.2.1 151 = .ok (.iload_n 1, 1) by decide +kernel) 2 rfl ?_
                    refine V_aload_n 153 rfl (show decode M_Model_isHeld.2.1 152 = .ok (.aload_n 0, 1) by decide +kernel) 1 rfl ?_
                    refine V_get (j := 0) (v := vR (SR σ_15 h0 0)) 156 rfl ck_Model (by decide) (by decide) (show decode M_Model_isHeld.2.1 153 = .ok (.getfield 7, 3) by decide +kernel) wd_1504 rfl ?_
                    refine V_iload 158 rfl (show decode M_Model_isHeld.2.1 156 = .ok (.iload 7, 2) by decide +kernel) 0 rfl ?_
                    refine V_iconst 159 rfl (show decode M_Model_isHeld.2.1 158 = .ok (.iconst 2, 1) by decide +kernel) (v := 2) rfl ?_
                    refine V_iadd 160 rfl (show decode M_Model_isHeld.2.1 159 = .ok (.iadd, 1) by decide +kernel) ?_
                    refine V_ald_int 161 rfl (show decode M_Model_isHeld.2.1 160 = .ok (.iaload, 1) by decide +kernel) ?_
                    refine V_callV (tb := tU) (as := [vI x1, vI (SI σ_15 (SR σ_15 h0 0) (ix (x7_11 + (2 : Int32))))]) (rest := []) (na := 2) 164 rfl ck_Model (by decide) (s_Model_eats h0 x1 (SI σ_15 (SR σ_15 h0 0) (ix (x7_11 + (2 : Int32)))) (((((((((b_14 && cK σ_14 h0 13) && cA σ_14 (SR σ_14 h0 0) 21 (x7_11 + (3 : Int32))) && cK σ_14 h0 13) && cA σ_14 (SR σ_14 h0 0) 21 (0 : Int32)) && cK σ_14 h0 13) && cA σ_14 (SR σ_14 h0 0) 21 (x7_11 + (4 : Int32))) && cK σ_15 h0 13) && cA σ_15 (SR σ_15 h0 0) 21 (x7_11 + (2 : Int32))) && cK σ_15 h0 13) σ_15) rfl rfl (Nat.le_of_ble_eq_true rfl) (cal_Model_eats _ _ _ _ _ (by decide) (by decide) (by decide)) (show decode M_Model_isHeld.2.1 161 = .ok (.invokevirtual 276, 3) by decide +kernel) wd_1862 wd_1864 wd_146 (fun r_16 b_16 σ_16 => ?_)
                    show V M_Model_isHeld 4 0 0 0 0 tI _ 164 [(7, vI x7_11), (0, vR h0), (1, vI x1), (2, vI x2_2), (3, vI x3_3), (4, vI x4_7), (5, vI x5), (6, vI x6)] [] b_16 σ_16
                    refine V_iinc (fun x5_17 => [(5, vI x5_17), (7, vI x7_11), (0, vR h0), (1, vI x1), (2, vI x2_2), (3, vI x3_3), (4, vI x4_7), (6, vI x6)]) 167 rfl (show decode M_Model_isHeld.2.1 164 = .ok (.iinc 5 1, 3) by decide +kernel) 6 rfl (w := 1) rfl (by decide) (fun _ => rfl) (fun x5_17 => ?_)
                    exact V_sub [2, 3, 4, 5, 6, 0, 7] rfl (hJ167 x5_17 b_16 σ_16)
                · skip
                  exact V_sub [1, 2, 3, 4, 5, 6, 7] rfl (hJ167 x5 b_14 σ_14)
        · skip
          refine V_iload 175 rfl (show decode M_Model_isHeld.2.1 173 = .ok (.iload 5, 2) by decide +kernel) 5 rfl ?_
          refine V_ifle 178 180 rfl (show decode M_Model_isHeld.2.1 175 = .ok (.ifCond .le 5, 3) by decide +kernel) rfl ?_ ?_
          · skip
            refine V_iconst 179 rfl (show decode M_Model_isHeld.2.1 178 = .ok (.iconst 0, 1) by decide +kernel) (v := 0) rfl ?_
            exact V_zret rfl (by decide) (by decide) rfl (show decode M_Model_isHeld.2.1 179 = .ok (.ireturn, 1) by decide +kernel)
          · skip
            refine V_aload_n 181 rfl (show decode M_Model_isHeld.2.1 180 = .ok (.aload_n 0, 1) by decide +kernel) 0 rfl ?_
            refine V_get (j := 0) (v := vR (SR σ h0 0)) 184 rfl ck_Model (by decide) (by decide) (show decode M_Model_isHeld.2.1 181 = .ok (.getfield 7, 3) by decide +kernel) wd_1504 rfl ?_
            refine V_iload_n 185 rfl (show decode M_Model_isHeld.2.1 184 = .ok (.iload_n 2, 1) by decide +kernel) 2 rfl ?_
            refine V_bipush 187 rfl (show decode M_Model_isHeld.2.1 185 = .ok (.bipush 10, 2) by decide +kernel) (v := 10) rfl ?_
            refine V_iadd 188 rfl (show decode M_Model_isHeld.2.1 187 = .ok (.iadd, 1) by decide +kernel) ?_
            refine V_dup2 189 rfl (show decode M_Model_isHeld.2.1 188 = .ok (.dup2, 1) by decide +kernel) rfl rfl ?_
            refine V_ald_int 190 rfl (show decode M_Model_isHeld.2.1 189 = .ok (.iaload, 1) by decide +kernel) ?_
            refine V_iconst 191 rfl (show decode M_Model_isHeld.2.1 190 = .ok (.iconst 1, 1) by decide +kernel) (v := 1) rfl ?_
            refine V_iadd 192 rfl (show decode M_Model_isHeld.2.1 191 = .ok (.iadd, 1) by decide +kernel) ?_
            refine V_ast_int 193 rfl (show decode M_Model_isHeld.2.1 192 = .ok (.iastore, 1) by decide +kernel) (fun σ_18 => ?_)
            refine V_aload_n 194 rfl (show decode M_Model_isHeld.2.1 193 = .ok (.aload_n 0, 1) by decide +kernel) 0 rfl ?_
            refine V_get (j := 0) (v := vR (SR σ_18 h0 0)) 197 rfl ck_Model (by decide) (by decide) (show decode M_Model_isHeld.2.1 194 = .ok (.getfield 7, 3) by decide +kernel) wd_1504 rfl ?_
            refine V_iload_n 198 rfl (show decode M_Model_isHeld.2.1 197 = .ok (.iload_n 2, 1) by decide +kernel) 2 rfl ?_
            refine V_bipush 200 rfl (show decode M_Model_isHeld.2.1 198 = .ok (.bipush 10, 2) by decide +kernel) (v := 10) rfl ?_
            refine V_iadd 201 rfl (show decode M_Model_isHeld.2.1 200 = .ok (.iadd, 1) by decide +kernel) ?_
            refine V_ald_int 202 rfl (show decode M_Model_isHeld.2.1 201 = .ok (.iaload, 1) by decide +kernel) ?_
            refine V_iconst 203 rfl (show decode M_Model_isHeld.2.1 202 = .ok (.iconst 3, 1) by decide +kernel) (v := 3) rfl ?_
            refine V_icmpgt 206 208 rfl (show decode M_Model_isHeld.2.1 203 = .ok (.if_icmp .gt 5, 3) by decide +kernel) rfl ?_ ?_
            · skip
              refine V_aload_n 209 rfl (show decode M_Model_isHeld.2.1 208 = .ok (.aload_n 0, 1) by decide +kernel) 0 rfl ?_
              refine V_iload_n 210 rfl (show decode M_Model_isHeld.2.1 209 = .ok (.iload_n 1, 1) by decide +kernel) 1 rfl ?_
              refine V_iload_n 211 rfl (show decode M_Model_isHeld.2.1 210 = .ok (.iload_n 3, 1) by decide +kernel) 3 rfl ?_
              refine V_callV (tb := tU) (as := [vI x1, vI x3_3]) (rest := []) (na := 2) 214 rfl ck_Model (by decide) (s_Model_giveOn h0 x1 x3_3 ((((((((b && cK σ h0 13) && cA σ (SR σ h0 0) 21 (6 : Int32)) && cK σ h0 13) && cA σ (SR σ h0 0) 21 (x2_2 + (10 : Int32))) && cA σ (SR σ h0 0) 21 (x2_2 + (10 : Int32))) && cK σ_18 h0 13) && cA σ_18 (SR σ_18 h0 0) 21 (x2_2 + (10 : Int32))) && cK σ_18 h0 13) σ_18) rfl rfl (Nat.le_of_ble_eq_true rfl) (cal_Model_giveOn _ _ _ _ _ (by decide) (by decide) (by decide)) (show decode M_Model_isHeld.2.1 211 = .ok (.invokevirtual 281, 3) by decide +kernel) wd_1899 wd_1901 wd_150 (fun r_19 b_19 σ_19 => ?_)
              show V M_Model_isHeld 4 0 0 0 0 tI _ 214 [(0, vR h0), (1, vI x1), (2, vI x2_2), (3, vI x3_3), (4, vI x4_7), (5, vI x5), (6, vI x6)] [] b_19 σ_19
              refine V_iconst 215 rfl (show decode M_Model_isHeld.2.1 214 = .ok (.iconst 0, 1) by decide +kernel) (v := 0) rfl ?_
              exact V_zret rfl (by decide) (by decide) rfl (show decode M_Model_isHeld.2.1 215 = .ok (.ireturn, 1) by decide +kernel)
            · skip
              refine V_iconst 207 rfl (show decode M_Model_isHeld.2.1 206 = .ok (.iconst 1, 1) by decide +kernel) (v := 1) rfl ?_
              exact V_zret rfl (by decide) (by decide) rfl (show decode M_Model_isHeld.2.1 207 = .ok (.ireturn, 1) by decide +kernel)
    · skip
      refine V_ifne 57 61 rfl (show decode M_Model_isHeld.2.1 54 = .ok (.ifCond .ne 7, 3) by decide +kernel) rfl ?_ ?_
      · skip
        refine V_iconst 58 rfl (show decode M_Model_isHeld.2.1 57 = .ok (.iconst 1, 1) by decide +kernel) (v := 1) rfl ?_
        refine V_goto 62 (show decode M_Model_isHeld.2.1 58 = .ok (.goto 4, 3) by decide +kernel) rfl ?_
        exact V_sub [2, 3, 1, 0] rfl (hJ62 (1 : Int32) ((((b_6 && cA σ_6 (SR σ_4 h0 0) 21 (r_6 + (3 : Int32))) && cK σ_6 h0 13) && cA σ_6 (SR σ_6 h0 0) 21 (0 : Int32)) && !decide ((7 : Int32) = 0)) σ_6)
      · skip
        refine V_iconst 62 rfl (show decode M_Model_isHeld.2.1 61 = .ok (.iconst 0, 1) by decide +kernel) (v := 0) rfl ?_
        exact V_sub [2, 3, 1, 0] rfl (hJ62 (0 : Int32) ((((b_6 && cA σ_6 (SR σ_4 h0 0) 21 (r_6 + (3 : Int32))) && cK σ_6 h0 13) && cA σ_6 (SR σ_6 h0 0) 21 (0 : Int32)) && !decide ((7 : Int32) = 0)) σ_6)
theorem cal_Model_isHeld (d mc ms k n : Nat) (h1 : 4 + 1 ≤ d) (h2 : k + 0 ≤ mc) (h3 : n + 0 ≤ ms) : Cal M_Model_isHeld 4 0 0 1 d mc ms k n := ⟨wd_1898, wd_181, by decide, h1, by decide, h2, h3⟩
abbrev M_Model_fireAhead : MD := (⟨"LongTrailModel", "fireAhead", "(I)I"⟩, prog_14_method_72_code, 5, (some FieldType.int))
def b_Model_fireAhead_4 (h0 : Nat) (x1 : Int32) (L4 : Int32 → Int32 → Bool → Sto → Rs Int32) (x2 : Int32) (x3 : Int32) (b : Bool) (σ : Sto) : Rs Int32 := (if x3 < (SI σ (SR σ h0 0) (ix (3 : Int32))) then (bd_ (f_Model_fireAt h0 x3 ((((b && cK σ h0 13) && cA σ (SR σ h0 0) 21 (3 : Int32)) && cK σ h0 13) && cK σ h0 13) σ) (fun (r_3 : Int32) (b_3 : Bool) (σ_3 : Sto) => (bd_ (f_Model_fireAt h0 x3 (((b_3 && cA σ_3 (SR σ h0 0) 21 (r_3 + (1 : Int32))) && cK σ_3 h0 13) && cK σ_3 h0 13) σ_3) (fun (r_4 : Int32) (b_4 : Bool) (σ_4 : Sto) => (lt_ ((SI σ_3 (SR σ h0 0) (ix (r_3 + (1 : Int32)))) - (SI σ_4 (SR σ_3 h0 0) (ix (r_4 + (0 : Int32))))) (fun (x4_5 : Int32) => (bd_ (f_Model_isOn h0 x3 ((b_4 && cA σ_4 (SR σ_3 h0 0) 21 (r_4 + (0 : Int32))) && cK σ_4 h0 13) σ_4) (fun (r_6 : Int32) (b_6 : Bool) (σ_6 : Sto) => (lt_ (fun (s0_77 : Int32) (b : Bool) (σ : Sto) => (lt_ s0_77 (fun (x2_7 : Int32) => (lt_ (x3 + (1 : Int32)) (fun (x3_8 : Int32) => (L4 x2_7 x3_8 b σ)))))) (fun J77 => (lt_ (fun (b : Bool) (σ : Sto) => (J77 x2 b σ)) (fun J76 => (if r_6 = 0 then (J76 b_6 σ_6) else (bd_ (f_Model_fireAt h0 x3 ((b_6 && cK σ_6 h0 13) && cK σ_6 h0 13) σ_6) (fun (r_9 : Int32) (b_9 : Bool) (σ_9 : Sto) => (if (SI σ_9 (SR σ_6 h0 0) (ix (r_9 + (0 : Int32)))) = x1 then (if x2 < x4_5 then (J77 x4_5 (b_9 && cA σ_9 (SR σ_6 h0 0) 21 (r_9 + (0 : Int32))) σ_9) else (J76 (b_9 && cA σ_9 (SR σ_6 h0 0) 21 (r_9 + (0 : Int32))) σ_9)) else (J76 (b_9 && cA σ_9 (SR σ_6 h0 0) 21 (r_9 + (0 : Int32))) σ_9))))))))))))))))) else (x2, ((b && cK σ h0 13) && cA σ (SR σ h0 0) 21 (3 : Int32)), σ))
def f_Model_fireAhead (h0 : Nat) (x1 : Int32) (b : Bool) (σ : Sto) : Rs Int32 := (lt_ (0 : Int32) (fun (x2_1 : Int32) => (lt_ (0 : Int32) (fun (x3_2 : Int32) => (lp_ (b_Model_fireAhead_4 h0 x1) (fun (x2 : Int32) (x3 : Int32) (b : Bool) (σ : Sto) => (0, false, σ)) fuel_ x2_1 x3_2 b σ)))))
set_option maxRecDepth 100000 in
set_option maxHeartbeats 4000000 in
theorem s_Model_fireAhead : ∀ (h0 : Nat) (x1 : Int32) (b : Bool) (σ : Sto), Snd M_Model_fireAhead 3 0 0 [vR h0, vI x1] b σ (tI (f_Model_fireAhead h0 x1 b σ).1) (f_Model_fireAhead h0 x1 b σ).2.1 (f_Model_fireAhead h0 x1 b σ).2.2 := by
  intro h0 x1 b σ
  refine Snd_of (tv := tI) (by decide) (Nat.le_of_ble_eq_true rfl) ?_
  show V M_Model_fireAhead 3 0 0 0 0 tI (f_Model_fireAhead h0 x1 b σ) 0 [(0, vR h0), (1, vI x1)] [] b σ
  unfold f_Model_fireAhead
  refine V_iconst 1 rfl (show decode M_Model_fireAhead.2.1 0 = .ok (.iconst 0, 1) by decide +kernel) (v := 0) rfl ?_
  refine V_istore_n (fun x2_1 => [(2, vI x2_1), (0, vR h0), (1, vI x1)]) 2 rfl (show decode M_Model_fireAhead.2.1 1 = .ok (.istore_n 2, 1) by decide +kernel) (by decide) (fun _ => rfl) (fun x2_1 => ?_)
  refine V_iconst 3 rfl (show decode M_Model_fireAhead.2.1 2 = .ok (.iconst 0, 1) by decide +kernel) (v := 0) rfl ?_
  refine V_istore_n (fun x3_2 => [(3, vI x3_2), (2, vI x2_1), (0, vR h0), (1, vI x1)]) 4 rfl (show decode M_Model_fireAhead.2.1 3 = .ok (.istore_n 3, 1) by decide +kernel) (by decide) (fun _ => rfl) (fun x3_2 => ?_)
  refine V_sub [2, 3, 1, 0] rfl ?_
  refine lp_P (fun (L4 : Int32 → Int32 → Bool → Sto → Rs Int32) => ∀ (x2 : Int32) (x3 : Int32) (b : Bool) (σ : Sto), V M_Model_fireAhead 3 0 0 0 0 tI (L4 x2 x3 b σ) 4 [(0, vR h0), (1, vI x1), (2, vI x2), (3, vI x3)] [] b σ) ?_ ?_ fuel_ x2_1 x3_2 b σ
  · intro x2 x3 b σ; exact V_bad
  · intro L4 hL4 x2 x3 b σ
    unfold b_Model_fireAhead_4
    refine V_iload_n 5 rfl (show decode M_Model_fireAhead.2.1 4 = .ok (.iload_n 3, 1) by decide +kernel) 3 rfl ?_
    refine V_aload_n 6 rfl (show decode M_Model_fireAhead.2.1 5 = .ok (.aload_n 0, 1) by decide +kernel) 0 rfl ?_
    refine V_get (j := 0) (v := vR (SR σ h0 0)) 9 rfl ck_Model (by decide) (by decide) (show decode M_Model_fireAhead.2.1 6 = .ok (.getfield 7, 3) by decide +kernel) wd_1504 rfl ?_
    refine V_iconst 10 rfl (show decode M_Model_fireAhead.2.1 9 = .ok (.iconst 3, 1) by decide +kernel) (v := 3) rfl ?_
    refine V_ald_int 11 rfl (show decode M_Model_fireAhead.2.1 10 = .ok (.iaload, 1) by decide +kernel) ?_
    refine V_icmpge 14 84 rfl (show decode M_Model_fireAhead.2.1 11 = .ok (.if_icmp .ge 73, 3) by decide +kernel) rfl ?_ ?_
    · skip
      refine V_aload_n 15 rfl (show decode M_Model_fireAhead.2.1 14 = .ok (.aload_n 0, 1) by decide +kernel) 0 rfl ?_
      refine V_get (j := 0) (v := vR (SR σ h0 0)) 18 rfl ck_Model (by decide) (by decide) (show decode M_Model_fireAhead.2.1 15 = .ok (.getfield 7, 3) by decide +kernel) wd_1504 rfl ?_
      refine V_aload_n 19 rfl (show decode M_Model_fireAhead.2.1 18 = .ok (.aload_n 0, 1) by decide +kernel) 0 rfl ?_
      refine V_iload_n 20 rfl (show decode M_Model_fireAhead.2.1 19 = .ok (.iload_n 3, 1) by decide +kernel) 3 rfl ?_
      refine V_callV (tb := tI) (as := [vI x3]) (rest := [vR (SR σ h0 0)]) (na := 1) 23 rfl ck_Model (by decide) (s_Model_fireAt h0 x3 ((((b && cK σ h0 13) && cA σ (SR σ h0 0) 21 (3 : Int32)) && cK σ h0 13) && cK σ h0 13) σ) rfl rfl (Nat.le_of_ble_eq_true rfl) (cal_Model_fireAt _ _ _ _ _ (by decide) (by decide) (by decide)) (show decode M_Model_fireAhead.2.1 20 = .ok (.invokevirtual 95, 3) by decide +kernel) wd_1629 wd_1631 wd_114 (fun r_3 b_3 σ_3 => ?_)
      show V M_Model_fireAhead 3 0 0 0 0 tI _ 23 [(0, vR h0), (1, vI x1), (2, vI x2), (3, vI x3)] [vI r_3, vR (SR σ h0 0)] b_3 σ_3
      refine V_iconst 24 rfl (show decode M_Model_fireAhead.2.1 23 = .ok (.iconst 1, 1) by decide +kernel) (v := 1) rfl ?_
      refine V_iadd 25 rfl (show decode M_Model_fireAhead.2.1 24 = .ok (.iadd, 1) by decide +kernel) ?_
      refine V_ald_int 26 rfl (show decode M_Model_fireAhead.2.1 25 = .ok (.iaload, 1) by decide +kernel) ?_
      refine V_aload_n 27 rfl (show decode M_Model_fireAhead.2.1 26 = .ok (.aload_n 0, 1) by decide +kernel) 0 rfl ?_
      refine V_get (j := 0) (v := vR (SR σ_3 h0 0)) 30 rfl ck_Model (by decide) (by decide) (show decode M_Model_fireAhead.2.1 27 = .ok (.getfield 7, 3) by decide +kernel) wd_1504 rfl ?_
      refine V_aload_n 31 rfl (show decode M_Model_fireAhead.2.1 30 = .ok (.aload_n 0, 1) by decide +kernel) 0 rfl ?_
      refine V_iload_n 32 rfl (show decode M_Model_fireAhead.2.1 31 = .ok (.iload_n 3, 1) by decide +kernel) 3 rfl ?_
      refine V_callV (tb := tI) (as := [vI x3]) (rest := [vR (SR σ_3 h0 0), vI (SI σ_3 (SR σ h0 0) (ix (r_3 + (1 : Int32))))]) (na := 1) 35 rfl ck_Model (by decide) (s_Model_fireAt h0 x3 (((b_3 && cA σ_3 (SR σ h0 0) 21 (r_3 + (1 : Int32))) && cK σ_3 h0 13) && cK σ_3 h0 13) σ_3) rfl rfl (Nat.le_of_ble_eq_true rfl) (cal_Model_fireAt _ _ _ _ _ (by decide) (by decide) (by decide)) (show decode M_Model_fireAhead.2.1 32 = .ok (.invokevirtual 95, 3) by decide +kernel) wd_1629 wd_1631 wd_114 (fun r_4 b_4 σ_4 => ?_)
      show V M_Model_fireAhead 3 0 0 0 0 tI _ 35 [(0, vR h0), (1, vI x1), (2, vI x2), (3, vI x3)] [vI r_4, vR (SR σ_3 h0 0), vI (SI σ_3 (SR σ h0 0) (ix (r_3 + (1 : Int32))))] b_4 σ_4
      refine V_iconst 36 rfl (show decode M_Model_fireAhead.2.1 35 = .ok (.iconst 0, 1) by decide +kernel) (v := 0) rfl ?_
      refine V_iadd 37 rfl (show decode M_Model_fireAhead.2.1 36 = .ok (.iadd, 1) by decide +kernel) ?_
      refine V_ald_int 38 rfl (show decode M_Model_fireAhead.2.1 37 = .ok (.iaload, 1) by decide +kernel) ?_
      refine V_isub 39 rfl (show decode M_Model_fireAhead.2.1 38 = .ok (.isub, 1) by decide +kernel) ?_
      refine V_istore (fun x4_5 => [(4, vI x4_5), (0, vR h0), (1, vI x1), (2, vI x2), (3, vI x3)]) 41 rfl (show decode M_Model_fireAhead.2.1 39 = .ok (.istore 4, 2) by decide +kernel) (by decide) (fun _ => rfl) (fun x4_5 => ?_)
      refine V_aload_n 42 rfl (show decode M_Model_fireAhead.2.1 41 = .ok (.aload_n 0, 1) by decide +kernel) 1 rfl ?_
      refine V_iload_n 43 rfl (show decode M_Model_fireAhead.2.1 42 = .ok (.iload_n 3, 1) by decide +kernel) 4 rfl ?_
      refine V_callV (tb := tI) (as := [vI x3]) (rest := []) (na := 1) 46 rfl ck_Model (by decide) (s_Model_isOn h0 x3 ((b_4 && cA σ_4 (SR σ_3 h0 0) 21 (r_4 + (0 : Int32))) && cK σ_4 h0 13) σ_4) rfl rfl (Nat.le_of_ble_eq_true rfl) (cal_Model_isOn _ _ _ _ _ (by decide) (by decide) (by decide)) (show decode M_Model_fireAhead.2.1 43 = .ok (.invokevirtual 149, 3) by decide +kernel) wd_1723 wd_1725 wd_125 (fun r_6 b_6 σ_6 => ?_)
      show V M_Model_fireAhead 3 0 0 0 0 tI _ 46 [(4, vI x4_5), (0, vR h0), (1, vI x1), (2, vI x2), (3, vI x3)] [vI r_6] b_6 σ_6
      refine V_jn (fun (J77 : Int32 → Bool → Sto → Rs Int32) => ∀ (s0_77 : Int32) (b : Bool) (σ : Sto), V M_Model_fireAhead 3 0 0 0 0 tI (J77 s0_77 b σ) 77 [(0, vR h0), (1, vI x1), (3, vI x3)] [vI s0_77] b σ) ?_ (fun J77 hJ77 => ?_)
      · intro s0_77 b σ
        refine V_istore_n (fun x2_7 => [(2, vI x2_7), (0, vR h0), (1, vI x1), (3, vI x3)]) 78 rfl (show decode M_Model_fireAhead.2.1 77 = .ok (.istore_n 2, 1) by decide +kernel) (by decide) (fun _ => rfl) (fun x2_7 => ?_)
        refine V_iinc (fun x3_8 => [(3, vI x3_8), (2, vI x2_7), (0, vR h0), (1, vI x1)]) 81 rfl (show decode M_Model_fireAhead.2.1 78 = .ok (.iinc 3 1, 3) by decide +kernel) 3 rfl (w := 1) rfl (by decide) (fun _ => rfl) (fun x3_8 => ?_)
        refine V_goto 4 (show decode M_Model_fireAhead.2.1 81 = .ok (.goto (-77), 3) by decide +kernel) rfl ?_
        exact V_sub [2, 3, 1, 0] rfl (hL4 x2_7 x3_8 b σ)
      · skip
        refine V_jn (fun (J76 : Bool → Sto → Rs Int32) => ∀ (b : Bool) (σ : Sto), V M_Model_fireAhead 3 0 0 0 0 tI (J76 b σ) 76 [(0, vR h0), (1, vI x1), (2, vI x2), (3, vI x3)] [] b σ) ?_ (fun J76 hJ76 => ?_)
        · intro b σ
          refine V_iload_n 77 rfl (show decode M_Model_fireAhead.2.1 76 = .ok (.iload_n 2, 1) by decide +kernel) 2 rfl ?_
          exact V_sub [0, 1, 3] rfl (hJ77 x2 b σ)
        · skip
          refine V_ifeq 49 76 rfl (show decode M_Model_fireAhead.2.1 46 = .ok (.ifCond .eq 30, 3) by decide +kernel) rfl ?_ ?_
          · skip
            exact V_sub [1, 2, 3, 4] rfl (hJ76 b_6 σ_6)
          · skip
            refine V_aload_n 50 rfl (show decode M_Model_fireAhead.2.1 49 = .ok (.aload_n 0, 1) by decide +kernel) 1 rfl ?_
            refine V_get (j := 0) (v := vR (SR σ_6 h0 0)) 53 rfl ck_Model (by decide) (by decide) (show decode M_Model_fireAhead.2.1 50 = .ok (.getfield 7, 3) by decide +kernel) wd_1504 rfl ?_
            refine V_aload_n 54 rfl (show decode M_Model_fireAhead.2.1 53 = .ok (.aload_n 0, 1) by decide +kernel) 1 rfl ?_
            refine V_iload_n 55 rfl (show decode M_Model_fireAhead.2.1 54 = .ok (.iload_n 3, 1) by decide +kernel) 4 rfl ?_
            refine V_callV (tb := tI) (as := [vI x3]) (rest := [vR (SR σ_6 h0 0)]) (na := 1) 58 rfl ck_Model (by decide) (s_Model_fireAt h0 x3 ((b_6 && cK σ_6 h0 13) && cK σ_6 h0 13) σ_6) rfl rfl (Nat.le_of_ble_eq_true rfl) (cal_Model_fireAt _ _ _ _ _ (by decide) (by decide) (by decide)) (show decode M_Model_fireAhead.2.1 55 = .ok (.invokevirtual 95, 3) by decide +kernel) wd_1629 wd_1631 wd_114 (fun r_9 b_9 σ_9 => ?_)
            show V M_Model_fireAhead 3 0 0 0 0 tI _ 58 [(4, vI x4_5), (0, vR h0), (1, vI x1), (2, vI x2), (3, vI x3)] [vI r_9, vR (SR σ_6 h0 0)] b_9 σ_9
            refine V_iconst 59 rfl (show decode M_Model_fireAhead.2.1 58 = .ok (.iconst 0, 1) by decide +kernel) (v := 0) rfl ?_
            refine V_iadd 60 rfl (show decode M_Model_fireAhead.2.1 59 = .ok (.iadd, 1) by decide +kernel) ?_
            refine V_ald_int 61 rfl (show decode M_Model_fireAhead.2.1 60 = .ok (.iaload, 1) by decide +kernel) ?_
            refine V_iload_n 62 rfl (show decode M_Model_fireAhead.2.1 61 = .ok (.iload_n 1, 1) by decide +kernel) 2 rfl ?_
            refine V_icmpne 65 76 rfl (show decode M_Model_fireAhead.2.1 62 = .ok (.if_icmp .ne 14, 3) by decide +kernel) rfl ?_ ?_
            · skip
              refine V_iload 67 rfl (show decode M_Model_fireAhead.2.1 65 = .ok (.iload 4, 2) by decide +kernel) 0 rfl ?_
              refine V_iload_n 68 rfl (show decode M_Model_fireAhead.2.1 67 = .ok (.iload_n 2, 1) by decide +kernel) 3 rfl ?_
              refine V_icmple 71 76 rfl (show decode M_Model_fireAhead.2.1 68 = .ok (.if_icmp .le 8, 3) by decide +kernel) rfl ?_ ?_
              · skip
                refine V_iload 73 rfl (show decode M_Model_fireAhead.2.1 71 = .ok (.iload 4, 2) by decide +kernel) 0 rfl ?_
                refine V_goto 77 (show decode M_Model_fireAhead.2.1 73 = .ok (.goto 4, 3) by decide +kernel) rfl ?_
                exact V_sub [1, 2, 4] rfl (hJ77 x4_5 (b_9 && cA σ_9 (SR σ_6 h0 0) 21 (r_9 + (0 : Int32))) σ_9)
              · skip
                exact V_sub [1, 2, 3, 4] rfl (hJ76 (b_9 && cA σ_9 (SR σ_6 h0 0) 21 (r_9 + (0 : Int32))) σ_9)
            · skip
              exact V_sub [1, 2, 3, 4] rfl (hJ76 (b_9 && cA σ_9 (SR σ_6 h0 0) 21 (r_9 + (0 : Int32))) σ_9)
    · skip
      refine V_iload_n 85 rfl (show decode M_Model_fireAhead.2.1 84 = .ok (.iload_n 2, 1) by decide +kernel) 2 rfl ?_
      exact V_iret rfl (by decide) (by decide) (show decode M_Model_fireAhead.2.1 85 = .ok (.ireturn, 1) by decide +kernel)
theorem cal_Model_fireAhead (d mc ms k n : Nat) (h1 : 3 + 1 ≤ d) (h2 : k + 0 ≤ mc) (h3 : n + 0 ≤ ms) : Cal M_Model_fireAhead 3 0 0 1 d mc ms k n := ⟨wd_1910, wd_181, by decide, h1, by decide, h2, h3⟩
abbrev M_Model_goes : MD := (⟨"LongTrailModel", "goes", "(II)V"⟩, prog_14_method_75_code, 8, (none : Option FieldType))
def b_Model_goes_22 (h0 : Nat) (x2 : Int32) (x3_2 : Int32) (x4_3 : Int32) (L22 : Int32 → Int32 → Bool → Sto → Rs Unit) (x5 : Int32) (x6 : Int32) (b : Bool) (σ : Sto) : Rs Unit := (if x6 < (SI σ (SR σ h0 0) (ix (2 : Int32))) then (bd_ (f_Model_mileOf h0 x6 (((b && cK σ h0 13) && cA σ (SR σ h0 0) 21 (2 : Int32)) && cK σ h0 13) σ) (fun (r_6 : Int32) (b_6 : Bool) (σ_6 : Sto) => (lt_ r_6 (fun (x7_7 : Int32) => (bd_ (f_Model_kindOf h0 x6 (b_6 && cK σ_6 h0 13) σ_6) (fun (r_8 : Int32) (b_8 : Bool) (σ_8 : Sto) => (bd_ (f_Model_isWater r_8 b_8 σ_8) (fun (r_9 : Int32) (b_9 : Bool) (σ_9 : Sto) => (lt_ (fun (s0_80 : Int32) (b : Bool) (σ : Sto) => (lt_ s0_80 (fun (x5_10 : Int32) => (lt_ (x6 + (1 : Int32)) (fun (x6_11 : Int32) => (L22 x5_10 x6_11 b σ)))))) (fun J80 => (lt_ (fun (b : Bool) (σ : Sto) => (J80 x5 b σ)) (fun J78 => (if r_9 = 0 then (J78 b_9 σ_9) else (if x4_3 < x7_7 then (if x2 < x7_7 then (J78 b_9 σ_9) else (if x5 < x7_7 then (J80 x7_7 b_9 σ_9) else (J78 b_9 σ_9))) else (J78 b_9 σ_9))))))))))))))) else (lt_ (pI σ (SR σ h0 0) (ix (x3_2 + (1 : Int32))) x2) (fun (σ_12 : Sto) => (lt_ (pI σ_12 (SR σ_12 h0 0) (ix (x3_2 + (8 : Int32))) ((SI σ_12 (SR σ_12 h0 0) (ix (x3_2 + (8 : Int32)))) + (x2 - x4_3))) (fun (σ_13 : Sto) => (lt_ (fun (s0_147 : Int32) (s1_147 : Int32) (s2_147 : Nat) (b : Bool) (σ : Sto) => (lt_ (pI σ s2_147 (ix s1_147) s0_147) (fun (σ_14 : Sto) => ((), (b && cA σ s2_147 21 s1_147), σ_14)))) (fun J147 => (if x5 < 0 then (J147 (((SI σ_13 (SR σ_13 h0 0) (ix (x3_2 + (6 : Int32)))) + x2) - x4_3) (x3_2 + (6 : Int32)) (SR σ_13 h0 0) ((((((((((b && cK σ h0 13) && cA σ (SR σ h0 0) 21 (2 : Int32)) && cK σ h0 13) && cA σ (SR σ h0 0) 21 (x3_2 + (1 : Int32))) && cK σ_12 h0 13) && cA σ_12 (SR σ_12 h0 0) 21 (x3_2 + (8 : Int32))) && cA σ_12 (SR σ_12 h0 0) 21 (x3_2 + (8 : Int32))) && cK σ_13 h0 13) && cK σ_13 h0 13) && cA σ_13 (SR σ_13 h0 0) 21 (x3_2 + (6 : Int32))) σ_13) else (J147 (x2 - x5) (x3_2 + (6 : Int32)) (SR σ_13 h0 0) ((((((((b && cK σ h0 13) && cA σ (SR σ h0 0) 21 (2 : Int32)) && cK σ h0 13) && cA σ (SR σ h0 0) 21 (x3_2 + (1 : Int32))) && cK σ_12 h0 13) && cA σ_12 (SR σ_12 h0 0) 21 (x3_2 + (8 : Int32))) && cA σ_12 (SR σ_12 h0 0) 21 (x3_2 + (8 : Int32))) && cK σ_13 h0 13) σ_13)))))))))
def f_Model_goes (h0 : Nat) (x1 : Int32) (x2 : Int32) (b : Bool) (σ : Sto) : Rs Unit := (bd_ (f_Model_walkerAt h0 x1 (b && cK σ h0 13) σ) (fun (r_1 : Int32) (b_1 : Bool) (σ_1 : Sto) => (lt_ r_1 (fun (x3_2 : Int32) => (lt_ (SI σ_1 (SR σ_1 h0 0) (ix (x3_2 + (1 : Int32)))) (fun (x4_3 : Int32) => (lt_ (-1 : Int32) (fun (x5_4 : Int32) => (lt_ (0 : Int32) (fun (x6_5 : Int32) => (lp_ (b_Model_goes_22 h0 x2 x3_2 x4_3) (fun (x5 : Int32) (x6 : Int32) (b : Bool) (σ : Sto) => ((), false, σ)) fuel_ x5_4 x6_5 ((b_1 && cK σ_1 h0 13) && cA σ_1 (SR σ_1 h0 0) 21 (x3_2 + (1 : Int32))) σ_1)))))))))))
set_option maxRecDepth 100000 in
set_option maxHeartbeats 4000000 in
theorem s_Model_goes : ∀ (h0 : Nat) (x1 : Int32) (x2 : Int32) (b : Bool) (σ : Sto), Snd M_Model_goes 3 0 0 [vR h0, vI x1, vI x2] b σ (tU (f_Model_goes h0 x1 x2 b σ).1) (f_Model_goes h0 x1 x2 b σ).2.1 (f_Model_goes h0 x1 x2 b σ).2.2 := by
  intro h0 x1 x2 b σ
  refine Snd_of (tv := tU) (by decide) (Nat.le_of_ble_eq_true rfl) ?_
  show V M_Model_goes 3 0 0 0 0 tU (f_Model_goes h0 x1 x2 b σ) 0 [(0, vR h0), (1, vI x1), (2, vI x2)] [] b σ
  unfold f_Model_goes
  refine V_aload_n 1 rfl (show decode M_Model_goes.2.1 0 = .ok (.aload_n 0, 1) by decide +kernel) 0 rfl ?_
  refine V_iload_n 2 rfl (show decode M_Model_goes.2.1 1 = .ok (.iload_n 1, 1) by decide +kernel) 1 rfl ?_
  refine V_callV (tb := tI) (as := [vI x1]) (rest := []) (na := 1) 5 rfl ck_Model (by decide) (s_Model_walkerAt h0 x1 (b && cK σ h0 13) σ) rfl rfl (Nat.le_of_ble_eq_true rfl) (cal_Model_walkerAt _ _ _ _ _ (by decide) (by decide) (by decide)) (show decode M_Model_goes.2.1 2 = .ok (.invokevirtual 84, 3) by decide +kernel) wd_1673 wd_1675 wd_121 (fun r_1 b_1 σ_1 => ?_)
  show V M_Model_goes 3 0 0 0 0 tU _ 5 [(0, vR h0), (1, vI x1), (2, vI x2)] [vI r_1] b_1 σ_1
  refine V_istore_n (fun x3_2 => [(3, vI x3_2), (0, vR h0), (1, vI x1), (2, vI x2)]) 6 rfl (show decode M_Model_goes.2.1 5 = .ok (.istore_n 3, 1) by decide +kernel) (by decide) (fun _ => rfl) (fun x3_2 => ?_)
  refine V_aload_n 7 rfl (show decode M_Model_goes.2.1 6 = .ok (.aload_n 0, 1) by decide +kernel) 1 rfl ?_
  refine V_get (j := 0) (v := vR (SR σ_1 h0 0)) 10 rfl ck_Model (by decide) (by decide) (show decode M_Model_goes.2.1 7 = .ok (.getfield 7, 3) by decide +kernel) wd_1504 rfl ?_
  refine V_iload_n 11 rfl (show decode M_Model_goes.2.1 10 = .ok (.iload_n 3, 1) by decide +kernel) 0 rfl ?_
  refine V_iconst 12 rfl (show decode M_Model_goes.2.1 11 = .ok (.iconst 1, 1) by decide +kernel) (v := 1) rfl ?_
  refine V_iadd 13 rfl (show decode M_Model_goes.2.1 12 = .ok (.iadd, 1) by decide +kernel) ?_
  refine V_ald_int 14 rfl (show decode M_Model_goes.2.1 13 = .ok (.iaload, 1) by decide +kernel) ?_
  refine V_istore (fun x4_3 => [(4, vI x4_3), (3, vI x3_2), (0, vR h0), (1, vI x1), (2, vI x2)]) 16 rfl (show decode M_Model_goes.2.1 14 = .ok (.istore 4, 2) by decide +kernel) (by decide) (fun _ => rfl) (fun x4_3 => ?_)
  refine V_iconst 17 rfl (show decode M_Model_goes.2.1 16 = .ok (.iconst (-1), 1) by decide +kernel) (v := -1) rfl ?_
  refine V_istore (fun x5_4 => [(5, vI x5_4), (4, vI x4_3), (3, vI x3_2), (0, vR h0), (1, vI x1), (2, vI x2)]) 19 rfl (show decode M_Model_goes.2.1 17 = .ok (.istore 5, 2) by decide +kernel) (by decide) (fun _ => rfl) (fun x5_4 => ?_)
  refine V_iconst 20 rfl (show decode M_Model_goes.2.1 19 = .ok (.iconst 0, 1) by decide +kernel) (v := 0) rfl ?_
  refine V_istore (fun x6_5 => [(6, vI x6_5), (5, vI x5_4), (4, vI x4_3), (3, vI x3_2), (0, vR h0), (1, vI x1), (2, vI x2)]) 22 rfl (show decode M_Model_goes.2.1 20 = .ok (.istore 6, 2) by decide +kernel) (by decide) (fun _ => rfl) (fun x6_5 => ?_)
  refine V_sub [4, 6, 3, 2, 1, 0] rfl ?_
  refine lp_P (fun (L22 : Int32 → Int32 → Bool → Sto → Rs Unit) => ∀ (x5 : Int32) (x6 : Int32) (b : Bool) (σ : Sto), V M_Model_goes 3 0 0 0 0 tU (L22 x5 x6 b σ) 22 [(0, vR h0), (2, vI x2), (3, vI x3_2), (4, vI x4_3), (5, vI x5), (6, vI x6)] [] b σ) ?_ ?_ fuel_ x5_4 x6_5 ((b_1 && cK σ_1 h0 13) && cA σ_1 (SR σ_1 h0 0) 21 (x3_2 + (1 : Int32))) σ_1
  · intro x5 x6 b σ; exact V_bad
  · intro L22 hL22 x5 x6 b σ
    unfold b_Model_goes_22
    refine V_iload 24 rfl (show decode M_Model_goes.2.1 22 = .ok (.iload 6, 2) by decide +kernel) 5 rfl ?_
    refine V_aload_n 25 rfl (show decode M_Model_goes.2.1 24 = .ok (.aload_n 0, 1) by decide +kernel) 0 rfl ?_
    refine V_get (j := 0) (v := vR (SR σ h0 0)) 28 rfl ck_Model (by decide) (by decide) (show decode M_Model_goes.2.1 25 = .ok (.getfield 7, 3) by decide +kernel) wd_1504 rfl ?_
    refine V_iconst 29 rfl (show decode M_Model_goes.2.1 28 = .ok (.iconst 2, 1) by decide +kernel) (v := 2) rfl ?_
    refine V_ald_int 30 rfl (show decode M_Model_goes.2.1 29 = .ok (.iaload, 1) by decide +kernel) ?_
    refine V_icmpge 33 88 rfl (show decode M_Model_goes.2.1 30 = .ok (.if_icmp .ge 58, 3) by decide +kernel) rfl ?_ ?_
    · skip
      refine V_aload_n 34 rfl (show decode M_Model_goes.2.1 33 = .ok (.aload_n 0, 1) by decide +kernel) 0 rfl ?_
      refine V_iload 36 rfl (show decode M_Model_goes.2.1 34 = .ok (.iload 6, 2) by decide +kernel) 5 rfl ?_
      refine V_callV (tb := tI) (as := [vI x6]) (rest := []) (na := 1) 39 rfl ck_Model (by decide) (s_Model_mileOf h0 x6 (((b && cK σ h0 13) && cA σ (SR σ h0 0) 21 (2 : Int32)) && cK σ h0 13) σ) rfl rfl (Nat.le_of_ble_eq_true rfl) (cal_Model_mileOf _ _ _ _ _ (by decide) (by decide) (by decide)) (show decode M_Model_goes.2.1 36 = .ok (.invokevirtual 92, 3) by decide +kernel) wd_1621 wd_1623 wd_112 (fun r_6 b_6 σ_6 => ?_)
      show V M_Model_goes 3 0 0 0 0 tU _ 39 [(0, vR h0), (2, vI x2), (3, vI x3_2), (4, vI x4_3), (5, vI x5), (6, vI x6)] [vI r_6] b_6 σ_6
      refine V_istore (fun x7_7 => [(7, vI x7_7), (0, vR h0), (2, vI x2), (3, vI x3_2), (4, vI x4_3), (5, vI x5), (6, vI x6)]) 41 rfl (show decode M_Model_goes.2.1 39 = .ok (.istore 7, 2) by decide +kernel) (by decide) (fun _ => rfl) (fun x7_7 => ?_)
      refine V_aload_n 42 rfl (show decode M_Model_goes.2.1 41 = .ok (.aload_n 0, 1) by decide +kernel) 1 rfl ?_
      refine V_iload 44 rfl (show decode M_Model_goes.2.1 42 = .ok (.iload 6, 2) by decide +kernel) 6 rfl ?_
      refine V_callV (tb := tI) (as := [vI x6]) (rest := []) (na := 1) 47 rfl ck_Model (by decide) (s_Model_kindOf h0 x6 (b_6 && cK σ_6 h0 13) σ_6) rfl rfl (Nat.le_of_ble_eq_true rfl) (cal_Model_kindOf _ _ _ _ _ (by decide) (by decide) (by decide)) (show decode M_Model_goes.2.1 44 = .ok (.invokevirtual 132, 3) by decide +kernel) wd_1685 wd_1687 wd_123 (fun r_8 b_8 σ_8 => ?_)
      show V M_Model_goes 3 0 0 0 0 tU _ 47 [(7, vI x7_7), (0, vR h0), (2, vI x2), (3, vI x3_2), (4, vI x4_3), (5, vI x5), (6, vI x6)] [vI r_8] b_8 σ_8
      refine V_callS (tb := tI) (as := [vI r_8]) (rest := []) (na := 1) 50 rfl (s_Model_isWater r_8 b_8 σ_8) rfl rfl (Nat.le_of_ble_eq_true rfl) (cal_Model_isWater _ _ _ _ _ (by decide) (by decide) (by decide)) (show decode M_Model_goes.2.1 47 = .ok (.invokestatic 135, 3) by decide +kernel) wd_1689 wd_1690 (fun r_9 b_9 σ_9 => ?_)
      show V M_Model_goes 3 0 0 0 0 tU _ 50 [(7, vI x7_7), (0, vR h0), (2, vI x2), (3, vI x3_2), (4, vI x4_3), (5, vI x5), (6, vI x6)] [vI r_9] b_9 σ_9
      refine V_jn (fun (J80 : Int32 → Bool → Sto → Rs Unit) => ∀ (s0_80 : Int32) (b : Bool) (σ : Sto), V M_Model_goes 3 0 0 0 0 tU (J80 s0_80 b σ) 80 [(0, vR h0), (2, vI x2), (3, vI x3_2), (4, vI x4_3), (6, vI x6)] [vI s0_80] b σ) ?_ (fun J80 hJ80 => ?_)
      · intro s0_80 b σ
        refine V_istore (fun x5_10 => [(5, vI x5_10), (0, vR h0), (2, vI x2), (3, vI x3_2), (4, vI x4_3), (6, vI x6)]) 82 rfl (show decode M_Model_goes.2.1 80 = .ok (.istore 5, 2) by decide +kernel) (by decide) (fun _ => rfl) (fun x5_10 => ?_)
        refine V_iinc (fun x6_11 => [(6, vI x6_11), (5, vI x5_10), (0, vR h0), (2, vI x2), (3, vI x3_2), (4, vI x4_3)]) 85 rfl (show decode M_Model_goes.2.1 82 = .ok (.iinc 6 1, 3) by decide +kernel) 5 rfl (w := 1) rfl (by decide) (fun _ => rfl) (fun x6_11 => ?_)
        refine V_goto 22 (show decode M_Model_goes.2.1 85 = .ok (.goto (-63), 3) by decide +kernel) rfl ?_
        exact V_sub [2, 3, 4, 5, 1, 0] rfl (hL22 x5_10 x6_11 b σ)
      · skip
        refine V_jn (fun (J78 : Bool → Sto → Rs Unit) => ∀ (b : Bool) (σ : Sto), V M_Model_goes 3 0 0 0 0 tU (J78 b σ) 78 [(0, vR h0), (2, vI x2), (3, vI x3_2), (4, vI x4_3), (5, vI x5), (6, vI x6)] [] b σ) ?_ (fun J78 hJ78 => ?_)
        · intro b σ
          refine V_iload 80 rfl (show decode M_Model_goes.2.1 78 = .ok (.iload 5, 2) by decide +kernel) 4 rfl ?_
          exact V_sub [0, 1, 2, 3, 5] rfl (hJ80 x5 b σ)
        · skip
          refine V_ifeq 53 78 rfl (show decode M_Model_goes.2.1 50 = .ok (.ifCond .eq 28, 3) by decide +kernel) rfl ?_ ?_
          · skip
            exact V_sub [1, 2, 3, 4, 5, 6] rfl (hJ78 b_9 σ_9)
          · skip
            refine V_iload 55 rfl (show decode M_Model_goes.2.1 53 = .ok (.iload 7, 2) by decide +kernel) 0 rfl ?_
            refine V_iload 57 rfl (show decode M_Model_goes.2.1 55 = .ok (.iload 4, 2) by decide +kernel) 4 rfl ?_
            refine V_icmple 60 78 rfl (show decode M_Model_goes.2.1 57 = .ok (.if_icmp .le 21, 3) by decide +kernel) rfl ?_ ?_
            · skip
              refine V_iload 62 rfl (show decode M_Model_goes.2.1 60 = .ok (.iload 7, 2) by decide +kernel) 0 rfl ?_
              refine V_iload_n 63 rfl (show decode M_Model_goes.2.1 62 = .ok (.iload_n 2, 1) by decide +kernel) 2 rfl ?_
              refine V_icmpgt 66 78 rfl (show decode M_Model_goes.2.1 63 = .ok (.if_icmp .gt 15, 3) by decide +kernel) rfl ?_ ?_
              · skip
                exact V_sub [1, 2, 3, 4, 5, 6] rfl (hJ78 b_9 σ_9)
              · skip
                refine V_iload 68 rfl (show decode M_Model_goes.2.1 66 = .ok (.iload 7, 2) by decide +kernel) 0 rfl ?_
                refine V_iload 70 rfl (show decode M_Model_goes.2.1 68 = .ok (.iload 5, 2) by decide +kernel) 5 rfl ?_
                refine V_icmple 73 78 rfl (show decode M_Model_goes.2.1 70 = .ok (.if_icmp .le 8, 3) by decide +kernel) rfl ?_ ?_
                · skip
                  refine V_iload 75 rfl (show decode M_Model_goes.2.1 73 = .ok (.iload 7, 2) by decide +kernel) 0 rfl ?_
                  refine V_goto 80 (show decode M_Model_goes.2.1 75 = .ok (.goto 5, 3) by decide +kernel) rfl ?_
                  exact V_sub [1, 2, 3, 4, 6] rfl (hJ80 x7_7 b_9 σ_9)
                · skip
                  exact V_sub [1, 2, 3, 4, 5, 6] rfl (hJ78 b_9 σ_9)
            · skip
              exact V_sub [1, 2, 3, 4, 5, 6] rfl (hJ78 b_9 σ_9)
    · skip
      refine V_aload_n 89 rfl (show decode M_Model_goes.2.1 88 = .ok (.aload_n 0, 1) by decide +kernel) 0 rfl ?_
      refine V_get (j := 0) (v := vR (SR σ h0 0)) 92 rfl ck_Model (by decide) (by decide) (show decode M_Model_goes.2.1 89 = .ok (.getfield 7, 3) by decide +kernel) wd_1504 rfl ?_
      refine V_iload_n 93 rfl (show decode M_Model_goes.2.1 92 = .ok (.iload_n 3, 1) by decide +kernel) 2 rfl ?_
      refine V_iconst 94 rfl (show decode M_Model_goes.2.1 93 = .ok (.iconst 1, 1) by decide +kernel) (v := 1) rfl ?_
      refine V_iadd 95 rfl (show decode M_Model_goes.2.1 94 = .ok (.iadd, 1) by decide +kernel) ?_
      refine V_iload_n 96 rfl (show decode M_Model_goes.2.1 95 = .ok (.iload_n 2, 1) by decide +kernel) 1 rfl ?_
      refine V_ast_int 97 rfl (show decode M_Model_goes.2.1 96 = .ok (.iastore, 1) by decide +kernel) (fun σ_12 => ?_)
      refine V_aload_n 98 rfl (show decode M_Model_goes.2.1 97 = .ok (.aload_n 0, 1) by decide +kernel) 0 rfl ?_
      refine V_get (j := 0) (v := vR (SR σ_12 h0 0)) 101 rfl ck_Model (by decide) (by decide) (show decode M_Model_goes.2.1 98 = .ok (.getfield 7, 3) by decide +kernel) wd_1504 rfl ?_
      refine V_iload_n 102 rfl (show decode M_Model_goes.2.1 101 = .ok (.iload_n 3, 1) by decide +kernel) 2 rfl ?_
      refine V_bipush 104 rfl (show decode M_Model_goes.2.1 102 = .ok (.bipush 8, 2) by decide +kernel) (v := 8) rfl ?_
      refine V_iadd 105 rfl (show decode M_Model_goes.2.1 104 = .ok (.iadd, 1) by decide +kernel) ?_
      refine V_dup2 106 rfl (show decode M_Model_goes.2.1 105 = .ok (.dup2, 1) by decide +kernel) rfl rfl ?_
      refine V_ald_int 107 rfl (show decode M_Model_goes.2.1 106 = .ok (.iaload, 1) by decide +kernel) ?_
      refine V_iload_n 108 rfl (show decode M_Model_goes.2.1 107 = .ok (.iload_n 2, 1) by decide +kernel) 1 rfl ?_
      refine V_iload 110 rfl (show decode M_Model_goes.2.1 108 = .ok (.iload 4, 2) by decide +kernel) 3 rfl ?_
      refine V_isub 111 rfl (show decode M_Model_goes.2.1 110 = .ok (.isub, 1) by decide +kernel) ?_
      refine V_iadd 112 rfl (show decode M_Model_goes.2.1 111 = .ok (.iadd, 1) by decide +kernel) ?_
      refine V_ast_int 113 rfl (show decode M_Model_goes.2.1 112 = .ok (.iastore, 1) by decide +kernel) (fun σ_13 => ?_)
      refine V_aload_n 114 rfl (show decode M_Model_goes.2.1 113 = .ok (.aload_n 0, 1) by decide +kernel) 0 rfl ?_
      refine V_get (j := 0) (v := vR (SR σ_13 h0 0)) 117 rfl ck_Model (by decide) (by decide) (show decode M_Model_goes.2.1 114 = .ok (.getfield 7, 3) by decide +kernel) wd_1504 rfl ?_
      refine V_iload_n 118 rfl (show decode M_Model_goes.2.1 117 = .ok (.iload_n 3, 1) by decide +kernel) 2 rfl ?_
      refine V_bipush 120 rfl (show decode M_Model_goes.2.1 118 = .ok (.bipush 6, 2) by decide +kernel) (v := 6) rfl ?_
      refine V_iadd 121 rfl (show decode M_Model_goes.2.1 120 = .ok (.iadd, 1) by decide +kernel) ?_
      refine V_iload 123 rfl (show decode M_Model_goes.2.1 121 = .ok (.iload 5, 2) by decide +kernel) 4 rfl ?_
      refine V_jn (fun (J147 : Int32 → Int32 → Nat → Bool → Sto → Rs Unit) => ∀ (s0_147 : Int32) (s1_147 : Int32) (s2_147 : Nat) (b : Bool) (σ : Sto), V M_Model_goes 3 0 0 0 0 tU (J147 s0_147 s1_147 s2_147 b σ) 147 [] [vI s0_147, vI s1_147, vR s2_147] b σ) ?_ (fun J147 hJ147 => ?_)
      · intro s0_147 s1_147 s2_147 b σ
        refine V_ast_int 148 rfl (show decode M_Model_goes.2.1 147 = .ok (.iastore, 1) by decide +kernel) (fun σ_14 => ?_)
        exact V_vret rfl (by decide) (by decide) (show decode M_Model_goes.2.1 148 = .ok (.return_, 1) by decide +kernel)
      · skip
        refine V_ifge 126 143 rfl (show decode M_Model_goes.2.1 123 = .ok (.ifCond .ge 20, 3) by decide +kernel) rfl ?_ ?_
        · skip
          refine V_aload_n 127 rfl (show decode M_Model_goes.2.1 126 = .ok (.aload_n 0, 1) by decide +kernel) 0 rfl ?_
          refine V_get (j := 0) (v := vR (SR σ_13 h0 0)) 130 rfl ck_Model (by decide) (by decide) (show decode M_Model_goes.2.1 127 = .ok (.getfield 7, 3) by decide +kernel) wd_1504 rfl ?_
          refine V_iload_n 131 rfl (show decode M_Model_goes.2.1 130 = .ok (.iload_n 3, 1) by decide +kernel) 2 rfl ?_
          refine V_bipush 133 rfl (show decode M_Model_goes.2.1 131 = .ok (.bipush 6, 2) by decide +kernel) (v := 6) rfl ?_
          refine V_iadd 134 rfl (show decode M_Model_goes.2.1 133 = .ok (.iadd, 1) by decide +kernel) ?_
          refine V_ald_int 135 rfl (show decode M_Model_goes.2.1 134 = .ok (.iaload, 1) by decide +kernel) ?_
          refine V_iload_n 136 rfl (show decode M_Model_goes.2.1 135 = .ok (.iload_n 2, 1) by decide +kernel) 1 rfl ?_
          refine V_iadd 137 rfl (show decode M_Model_goes.2.1 136 = .ok (.iadd, 1) by decide +kernel) ?_
          refine V_iload 139 rfl (show decode M_Model_goes.2.1 137 = .ok (.iload 4, 2) by decide +kernel) 3 rfl ?_
          refine V_isub 140 rfl (show decode M_Model_goes.2.1 139 = .ok (.isub, 1) by decide +kernel) ?_
          refine V_goto 147 (show decode M_Model_goes.2.1 140 = .ok (.goto 7, 3) by decide +kernel) rfl ?_
          exact V_sub [] rfl (hJ147 (((SI σ_13 (SR σ_13 h0 0) (ix (x3_2 + (6 : Int32)))) + x2) - x4_3) (x3_2 + (6 : Int32)) (SR σ_13 h0 0) ((((((((((b && cK σ h0 13) && cA σ (SR σ h0 0) 21 (2 : Int32)) && cK σ h0 13) && cA σ (SR σ h0 0) 21 (x3_2 + (1 : Int32))) && cK σ_12 h0 13) && cA σ_12 (SR σ_12 h0 0) 21 (x3_2 + (8 : Int32))) && cA σ_12 (SR σ_12 h0 0) 21 (x3_2 + (8 : Int32))) && cK σ_13 h0 13) && cK σ_13 h0 13) && cA σ_13 (SR σ_13 h0 0) 21 (x3_2 + (6 : Int32))) σ_13)
        · skip
          refine V_iload_n 144 rfl (show decode M_Model_goes.2.1 143 = .ok (.iload_n 2, 1) by decide +kernel) 1 rfl ?_
          refine V_iload 146 rfl (show decode M_Model_goes.2.1 144 = .ok (.iload 5, 2) by decide +kernel) 4 rfl ?_
          refine V_isub 147 rfl (show decode M_Model_goes.2.1 146 = .ok (.isub, 1) by decide +kernel) ?_
          exact V_sub [] rfl (hJ147 (x2 - x5) (x3_2 + (6 : Int32)) (SR σ_13 h0 0) ((((((((b && cK σ h0 13) && cA σ (SR σ h0 0) 21 (2 : Int32)) && cK σ h0 13) && cA σ (SR σ h0 0) 21 (x3_2 + (1 : Int32))) && cK σ_12 h0 13) && cA σ_12 (SR σ_12 h0 0) 21 (x3_2 + (8 : Int32))) && cA σ_12 (SR σ_12 h0 0) 21 (x3_2 + (8 : Int32))) && cK σ_13 h0 13) σ_13)
theorem cal_Model_goes (d mc ms k n : Nat) (h1 : 3 + 1 ≤ d) (h2 : k + 0 ≤ mc) (h3 : n + 0 ≤ ms) : Cal M_Model_goes 3 0 0 2 d mc ms k n := ⟨wd_1933, wd_181, by decide, h1, by decide, h2, h3⟩
abbrev M_Model_quits : MD := (⟨"LongTrailModel", "quits", "(I)Z"⟩, prog_14_method_74_code, 4, (some FieldType.boolean))
def f_Model_quits (h0 : Nat) (x1 : Int32) (b : Bool) (σ : Sto) : Rs Int32 := (bd_ (f_Model_walkerAt h0 x1 (b && cK σ h0 13) σ) (fun (r_1 : Int32) (b_1 : Bool) (σ_1 : Sto) => (lt_ r_1 (fun (x2_2 : Int32) => (bd_ (f_Model_landOf h0 (SI σ_1 (SR σ_1 h0 0) (ix (x2_2 + (1 : Int32)))) (((b_1 && cK σ_1 h0 13) && cA σ_1 (SR σ_1 h0 0) 21 (x2_2 + (1 : Int32))) && cK σ_1 h0 13) σ_1) (fun (r_3 : Int32) (b_3 : Bool) (σ_3 : Sto) => (bd_ (f_Model_counts h0 r_3 (2 : Int32) (b_3 && cK σ_3 h0 13) σ_3) (fun (r_4 : Int32) (b_4 : Bool) (σ_4 : Sto) => (lt_ r_4 (fun (x3_5 : Int32) => (lt_ (pI σ_4 (SR σ_4 h0 19) (ix (104 : Int32)) (SI σ_4 (SR σ_4 h0 0) (ix (x2_2 + (4 : Int32))))) (fun (σ_6 : Sto) => (lt_ (pI σ_6 (SR σ_6 h0 19) (ix (116 : Int32)) (SI σ_6 (SR σ_6 h0 0) (ix (x2_2 + (5 : Int32))))) (fun (σ_7 : Sto) => (lt_ (pI σ_7 (SR σ_7 h0 19) (ix (115 : Int32)) (SI σ_7 (SR σ_7 h0 0) (ix (x2_2 + (8 : Int32))))) (fun (σ_8 : Sto) => (lt_ (pI σ_8 (SR σ_8 h0 19) (ix (119 : Int32)) (SI σ_8 (SR σ_8 h0 0) (ix (x2_2 + (7 : Int32))))) (fun (σ_9 : Sto) => (if x3_5 < 0 then (if (2 : Int32) < (SI σ_9 (SR σ_9 h0 0) (ix (x2_2 + (4 : Int32)))) then ((1 : Int32), ((((((((((((((((((b_4 && cK σ_4 h0 13) && cK σ_4 h0 13) && cA σ_4 (SR σ_4 h0 0) 21 (x2_2 + (4 : Int32))) && cA σ_4 (SR σ_4 h0 19) 21 (104 : Int32)) && cK σ_6 h0 13) && cK σ_6 h0 13) && cA σ_6 (SR σ_6 h0 0) 21 (x2_2 + (5 : Int32))) && cA σ_6 (SR σ_6 h0 19) 21 (116 : Int32)) && cK σ_7 h0 13) && cK σ_7 h0 13) && cA σ_7 (SR σ_7 h0 0) 21 (x2_2 + (8 : Int32))) && cA σ_7 (SR σ_7 h0 19) 21 (115 : Int32)) && cK σ_8 h0 13) && cK σ_8 h0 13) && cA σ_8 (SR σ_8 h0 0) 21 (x2_2 + (7 : Int32))) && cA σ_8 (SR σ_8 h0 19) 21 (119 : Int32)) && cK σ_9 h0 13) && cA σ_9 (SR σ_9 h0 0) 21 (x2_2 + (4 : Int32))), σ_9) else ((0 : Int32), ((((((((((((((((((b_4 && cK σ_4 h0 13) && cK σ_4 h0 13) && cA σ_4 (SR σ_4 h0 0) 21 (x2_2 + (4 : Int32))) && cA σ_4 (SR σ_4 h0 19) 21 (104 : Int32)) && cK σ_6 h0 13) && cK σ_6 h0 13) && cA σ_6 (SR σ_6 h0 0) 21 (x2_2 + (5 : Int32))) && cA σ_6 (SR σ_6 h0 19) 21 (116 : Int32)) && cK σ_7 h0 13) && cK σ_7 h0 13) && cA σ_7 (SR σ_7 h0 0) 21 (x2_2 + (8 : Int32))) && cA σ_7 (SR σ_7 h0 19) 21 (115 : Int32)) && cK σ_8 h0 13) && cK σ_8 h0 13) && cA σ_8 (SR σ_8 h0 0) 21 (x2_2 + (7 : Int32))) && cA σ_8 (SR σ_8 h0 19) 21 (119 : Int32)) && cK σ_9 h0 13) && cA σ_9 (SR σ_9 h0 0) 21 (x2_2 + (4 : Int32))), σ_9)) else (bd_ (f_Model_worked h0 x3_5 (((((((((((((((((b_4 && cK σ_4 h0 13) && cK σ_4 h0 13) && cA σ_4 (SR σ_4 h0 0) 21 (x2_2 + (4 : Int32))) && cA σ_4 (SR σ_4 h0 19) 21 (104 : Int32)) && cK σ_6 h0 13) && cK σ_6 h0 13) && cA σ_6 (SR σ_6 h0 0) 21 (x2_2 + (5 : Int32))) && cA σ_6 (SR σ_6 h0 19) 21 (116 : Int32)) && cK σ_7 h0 13) && cK σ_7 h0 13) && cA σ_7 (SR σ_7 h0 0) 21 (x2_2 + (8 : Int32))) && cA σ_7 (SR σ_7 h0 19) 21 (115 : Int32)) && cK σ_8 h0 13) && cK σ_8 h0 13) && cA σ_8 (SR σ_8 h0 0) 21 (x2_2 + (7 : Int32))) && cA σ_8 (SR σ_8 h0 19) 21 (119 : Int32)) && cK σ_9 h0 13) σ_9) (fun (r_10 : Int32) (b_10 : Bool) (σ_10 : Sto) => (if r_10 = 0 then ((0 : Int32), b_10, σ_10) else ((1 : Int32), b_10, σ_10)))))))))))))))))))))))
set_option maxRecDepth 100000 in
set_option maxHeartbeats 4000000 in
theorem s_Model_quits : ∀ (h0 : Nat) (x1 : Int32) (b : Bool) (σ : Sto), Snd M_Model_quits 3 0 0 [vR h0, vI x1] b σ (tI (f_Model_quits h0 x1 b σ).1) (f_Model_quits h0 x1 b σ).2.1 (f_Model_quits h0 x1 b σ).2.2 := by
  intro h0 x1 b σ
  refine Snd_of (tv := tI) (by decide) (Nat.le_of_ble_eq_true rfl) ?_
  show V M_Model_quits 3 0 0 0 0 tI (f_Model_quits h0 x1 b σ) 0 [(0, vR h0), (1, vI x1)] [] b σ
  unfold f_Model_quits
  refine V_aload_n 1 rfl (show decode M_Model_quits.2.1 0 = .ok (.aload_n 0, 1) by decide +kernel) 0 rfl ?_
  refine V_iload_n 2 rfl (show decode M_Model_quits.2.1 1 = .ok (.iload_n 1, 1) by decide +kernel) 1 rfl ?_
  refine V_callV (tb := tI) (as := [vI x1]) (rest := []) (na := 1) 5 rfl ck_Model (by decide) (s_Model_walkerAt h0 x1 (b && cK σ h0 13) σ) rfl rfl (Nat.le_of_ble_eq_true rfl) (cal_Model_walkerAt _ _ _ _ _ (by decide) (by decide) (by decide)) (show decode M_Model_quits.2.1 2 = .ok (.invokevirtual 84, 3) by decide +kernel) wd_1673 wd_1675 wd_121 (fun r_1 b_1 σ_1 => ?_)
  show V M_Model_quits 3 0 0 0 0 tI _ 5 [(0, vR h0), (1, vI x1)] [vI r_1] b_1 σ_1
  refine V_istore_n (fun x2_2 => [(2, vI x2_2), (0, vR h0), (1, vI x1)]) 6 rfl (show decode M_Model_quits.2.1 5 = .ok (.istore_n 2, 1) by decide +kernel) (by decide) (fun _ => rfl) (fun x2_2 => ?_)
  refine V_aload_n 7 rfl (show decode M_Model_quits.2.1 6 = .ok (.aload_n 0, 1) by decide +kernel) 1 rfl ?_
  refine V_aload_n 8 rfl (show decode M_Model_quits.2.1 7 = .ok (.aload_n 0, 1) by decide +kernel) 1 rfl ?_
  refine V_aload_n 9 rfl (show decode M_Model_quits.2.1 8 = .ok (.aload_n 0, 1) by decide +kernel) 1 rfl ?_
  refine V_get (j := 0) (v := vR (SR σ_1 h0 0)) 12 rfl ck_Model (by decide) (by decide) (show decode M_Model_quits.2.1 9 = .ok (.getfield 7, 3) by decide +kernel) wd_1504 rfl ?_
  refine V_iload_n 13 rfl (show decode M_Model_quits.2.1 12 = .ok (.iload_n 2, 1) by decide +kernel) 0 rfl ?_
  refine V_iconst 14 rfl (show decode M_Model_quits.2.1 13 = .ok (.iconst 1, 1) by decide +kernel) (v := 1) rfl ?_
  refine V_iadd 15 rfl (show decode M_Model_quits.2.1 14 = .ok (.iadd, 1) by decide +kernel) ?_
  refine V_ald_int 16 rfl (show decode M_Model_quits.2.1 15 = .ok (.iaload, 1) by decide +kernel) ?_
  refine V_callV (tb := tI) (as := [vI (SI σ_1 (SR σ_1 h0 0) (ix (x2_2 + (1 : Int32))))]) (rest := [vR h0]) (na := 1) 19 rfl ck_Model (by decide) (s_Model_landOf h0 (SI σ_1 (SR σ_1 h0 0) (ix (x2_2 + (1 : Int32)))) (((b_1 && cK σ_1 h0 13) && cA σ_1 (SR σ_1 h0 0) 21 (x2_2 + (1 : Int32))) && cK σ_1 h0 13) σ_1) rfl rfl (Nat.le_of_ble_eq_true rfl) (cal_Model_landOf _ _ _ _ _ (by decide) (by decide) (by decide)) (show decode M_Model_quits.2.1 16 = .ok (.invokevirtual 146, 3) by decide +kernel) wd_1711 wd_1713 wd_124 (fun r_3 b_3 σ_3 => ?_)
  show V M_Model_quits 3 0 0 0 0 tI _ 19 [(2, vI x2_2), (0, vR h0), (1, vI x1)] [vI r_3, vR h0] b_3 σ_3
  refine V_iconst 20 rfl (show decode M_Model_quits.2.1 19 = .ok (.iconst 2, 1) by decide +kernel) (v := 2) rfl ?_
  refine V_callV (tb := tI) (as := [vI r_3, vI (2 : Int32)]) (rest := []) (na := 2) 23 rfl ck_Model (by decide) (s_Model_counts h0 r_3 (2 : Int32) (b_3 && cK σ_3 h0 13) σ_3) rfl rfl (Nat.le_of_ble_eq_true rfl) (cal_Model_counts _ _ _ _ _ (by decide) (by decide) (by decide)) (show decode M_Model_quits.2.1 20 = .ok (.invokevirtual 251, 3) by decide +kernel) wd_1823 wd_1825 wd_142 (fun r_4 b_4 σ_4 => ?_)
  show V M_Model_quits 3 0 0 0 0 tI _ 23 [(2, vI x2_2), (0, vR h0), (1, vI x1)] [vI r_4] b_4 σ_4
  refine V_istore_n (fun x3_5 => [(3, vI x3_5), (2, vI x2_2), (0, vR h0), (1, vI x1)]) 24 rfl (show decode M_Model_quits.2.1 23 = .ok (.istore_n 3, 1) by decide +kernel) (by decide) (fun _ => rfl) (fun x3_5 => ?_)
  refine V_aload_n 25 rfl (show decode M_Model_quits.2.1 24 = .ok (.aload_n 0, 1) by decide +kernel) 2 rfl ?_
  refine V_get (j := 19) (v := vR (SR σ_4 h0 19)) 28 rfl ck_Model (by decide) (by decide) (show decode M_Model_quits.2.1 25 = .ok (.getfield 32, 3) by decide +kernel) wd_1523 rfl ?_
  refine V_bipush 30 rfl (show decode M_Model_quits.2.1 28 = .ok (.bipush 104, 2) by decide +kernel) (v := 104) rfl ?_
  refine V_aload_n 31 rfl (show decode M_Model_quits.2.1 30 = .ok (.aload_n 0, 1) by decide +kernel) 2 rfl ?_
  refine V_get (j := 0) (v := vR (SR σ_4 h0 0)) 34 rfl ck_Model (by decide) (by decide) (show decode M_Model_quits.2.1 31 = .ok (.getfield 7, 3) by decide +kernel) wd_1504 rfl ?_
  refine V_iload_n 35 rfl (show decode M_Model_quits.2.1 34 = .ok (.iload_n 2, 1) by decide +kernel) 1 rfl ?_
  refine V_iconst 36 rfl (show decode M_Model_quits.2.1 35 = .ok (.iconst 4, 1) by decide +kernel) (v := 4) rfl ?_
  refine V_iadd 37 rfl (show decode M_Model_quits.2.1 36 = .ok (.iadd, 1) by decide +kernel) ?_
  refine V_ald_int 38 rfl (show decode M_Model_quits.2.1 37 = .ok (.iaload, 1) by decide +kernel) ?_
  refine V_ast_int 39 rfl (show decode M_Model_quits.2.1 38 = .ok (.iastore, 1) by decide +kernel) (fun σ_6 => ?_)
  refine V_aload_n 40 rfl (show decode M_Model_quits.2.1 39 = .ok (.aload_n 0, 1) by decide +kernel) 2 rfl ?_
  refine V_get (j := 19) (v := vR (SR σ_6 h0 19)) 43 rfl ck_Model (by decide) (by decide) (show decode M_Model_quits.2.1 40 = .ok (.getfield 32, 3) by decide +kernel) wd_1523 rfl ?_
  refine V_bipush 45 rfl (show decode M_Model_quits.2.1 43 = .ok (.bipush 116, 2) by decide +kernel) (v := 116) rfl ?_
  refine V_aload_n 46 rfl (show decode M_Model_quits.2.1 45 = .ok (.aload_n 0, 1) by decide +kernel) 2 rfl ?_
  refine V_get (j := 0) (v := vR (SR σ_6 h0 0)) 49 rfl ck_Model (by decide) (by decide) (show decode M_Model_quits.2.1 46 = .ok (.getfield 7, 3) by decide +kernel) wd_1504 rfl ?_
  refine V_iload_n 50 rfl (show decode M_Model_quits.2.1 49 = .ok (.iload_n 2, 1) by decide +kernel) 1 rfl ?_
  refine V_iconst 51 rfl (show decode M_Model_quits.2.1 50 = .ok (.iconst 5, 1) by decide +kernel) (v := 5) rfl ?_
  refine V_iadd 52 rfl (show decode M_Model_quits.2.1 51 = .ok (.iadd, 1) by decide +kernel) ?_
  refine V_ald_int 53 rfl (show decode M_Model_quits.2.1 52 = .ok (.iaload, 1) by decide +kernel) ?_
  refine V_ast_int 54 rfl (show decode M_Model_quits.2.1 53 = .ok (.iastore, 1) by decide +kernel) (fun σ_7 => ?_)
  refine V_aload_n 55 rfl (show decode M_Model_quits.2.1 54 = .ok (.aload_n 0, 1) by decide +kernel) 2 rfl ?_
  refine V_get (j := 19) (v := vR (SR σ_7 h0 19)) 58 rfl ck_Model (by decide) (by decide) (show decode M_Model_quits.2.1 55 = .ok (.getfield 32, 3) by decide +kernel) wd_1523 rfl ?_
  refine V_bipush 60 rfl (show decode M_Model_quits.2.1 58 = .ok (.bipush 115, 2) by decide +kernel) (v := 115) rfl ?_
  refine V_aload_n 61 rfl (show decode M_Model_quits.2.1 60 = .ok (.aload_n 0, 1) by decide +kernel) 2 rfl ?_
  refine V_get (j := 0) (v := vR (SR σ_7 h0 0)) 64 rfl ck_Model (by decide) (by decide) (show decode M_Model_quits.2.1 61 = .ok (.getfield 7, 3) by decide +kernel) wd_1504 rfl ?_
  refine V_iload_n 65 rfl (show decode M_Model_quits.2.1 64 = .ok (.iload_n 2, 1) by decide +kernel) 1 rfl ?_
  refine V_bipush 67 rfl (show decode M_Model_quits.2.1 65 = .ok (.bipush 8, 2) by decide +kernel) (v := 8) rfl ?_
  refine V_iadd 68 rfl (show decode M_Model_quits.2.1 67 = .ok (.iadd, 1) by decide +kernel) ?_
  refine V_ald_int 69 rfl (show decode M_Model_quits.2.1 68 = .ok (.iaload, 1) by decide +kernel) ?_
  refine V_ast_int 70 rfl (show decode M_Model_quits.2.1 69 = .ok (.iastore, 1) by decide +kernel) (fun σ_8 => ?_)
  refine V_aload_n 71 rfl (show decode M_Model_quits.2.1 70 = .ok (.aload_n 0, 1) by decide +kernel) 2 rfl ?_
  refine V_get (j := 19) (v := vR (SR σ_8 h0 19)) 74 rfl ck_Model (by decide) (by decide) (show decode M_Model_quits.2.1 71 = .ok (.getfield 32, 3) by decide +kernel) wd_1523 rfl ?_
  refine V_bipush 76 rfl (show decode M_Model_quits.2.1 74 = .ok (.bipush 119, 2) by decide +kernel) (v := 119) rfl ?_
  refine V_aload_n 77 rfl (show decode M_Model_quits.2.1 76 = .ok (.aload_n 0, 1) by decide +kernel) 2 rfl ?_
  refine V_get (j := 0) (v := vR (SR σ_8 h0 0)) 80 rfl ck_Model (by decide) (by decide) (show decode M_Model_quits.2.1 77 = .ok (.getfield 7, 3) by decide +kernel) wd_1504 rfl ?_
  refine V_iload_n 81 rfl (show decode M_Model_quits.2.1 80 = .ok (.iload_n 2, 1) by decide +kernel) 1 rfl ?_
  refine V_bipush 83 rfl (show decode M_Model_quits.2.1 81 = .ok (.bipush 7, 2) by decide +kernel) (v := 7) rfl ?_
  refine V_iadd 84 rfl (show decode M_Model_quits.2.1 83 = .ok (.iadd, 1) by decide +kernel) ?_
  refine V_ald_int 85 rfl (show decode M_Model_quits.2.1 84 = .ok (.iaload, 1) by decide +kernel) ?_
  refine V_ast_int 86 rfl (show decode M_Model_quits.2.1 85 = .ok (.iastore, 1) by decide +kernel) (fun σ_9 => ?_)
  refine V_iload_n 87 rfl (show decode M_Model_quits.2.1 86 = .ok (.iload_n 3, 1) by decide +kernel) 0 rfl ?_
  refine V_ifge 90 110 rfl (show decode M_Model_quits.2.1 87 = .ok (.ifCond .ge 23, 3) by decide +kernel) rfl ?_ ?_
  · skip
    refine V_aload_n 91 rfl (show decode M_Model_quits.2.1 90 = .ok (.aload_n 0, 1) by decide +kernel) 2 rfl ?_
    refine V_get (j := 0) (v := vR (SR σ_9 h0 0)) 94 rfl ck_Model (by decide) (by decide) (show decode M_Model_quits.2.1 91 = .ok (.getfield 7, 3) by decide +kernel) wd_1504 rfl ?_
    refine V_iload_n 95 rfl (show decode M_Model_quits.2.1 94 = .ok (.iload_n 2, 1) by decide +kernel) 1 rfl ?_
    refine V_iconst 96 rfl (show decode M_Model_quits.2.1 95 = .ok (.iconst 4, 1) by decide +kernel) (v := 4) rfl ?_
    refine V_iadd 97 rfl (show decode M_Model_quits.2.1 96 = .ok (.iadd, 1) by decide +kernel) ?_
    refine V_ald_int 98 rfl (show decode M_Model_quits.2.1 97 = .ok (.iaload, 1) by decide +kernel) ?_
    refine V_iconst 99 rfl (show decode M_Model_quits.2.1 98 = .ok (.iconst 2, 1) by decide +kernel) (v := 2) rfl ?_
    refine V_icmple 102 106 rfl (show decode M_Model_quits.2.1 99 = .ok (.if_icmp .le 7, 3) by decide +kernel) rfl ?_ ?_
    · skip
      refine V_iconst 103 rfl (show decode M_Model_quits.2.1 102 = .ok (.iconst 1, 1) by decide +kernel) (v := 1) rfl ?_
      refine V_goto 123 (show decode M_Model_quits.2.1 103 = .ok (.goto 20, 3) by decide +kernel) rfl ?_
      exact V_zret rfl (by decide) (by decide) rfl (show decode M_Model_quits.2.1 123 = .ok (.ireturn, 1) by decide +kernel)
    · skip
      refine V_iconst 107 rfl (show decode M_Model_quits.2.1 106 = .ok (.iconst 0, 1) by decide +kernel) (v := 0) rfl ?_
      refine V_goto 123 (show decode M_Model_quits.2.1 107 = .ok (.goto 16, 3) by decide +kernel) rfl ?_
      exact V_zret rfl (by decide) (by decide) rfl (show decode M_Model_quits.2.1 123 = .ok (.ireturn, 1) by decide +kernel)
  · skip
    refine V_aload_n 111 rfl (show decode M_Model_quits.2.1 110 = .ok (.aload_n 0, 1) by decide +kernel) 2 rfl ?_
    refine V_iload_n 112 rfl (show decode M_Model_quits.2.1 111 = .ok (.iload_n 3, 1) by decide +kernel) 0 rfl ?_
    refine V_callV (tb := tI) (as := [vI x3_5]) (rest := []) (na := 1) 115 rfl ck_Model (by decide) (s_Model_worked h0 x3_5 (((((((((((((((((b_4 && cK σ_4 h0 13) && cK σ_4 h0 13) && cA σ_4 (SR σ_4 h0 0) 21 (x2_2 + (4 : Int32))) && cA σ_4 (SR σ_4 h0 19) 21 (104 : Int32)) && cK σ_6 h0 13) && cK σ_6 h0 13) && cA σ_6 (SR σ_6 h0 0) 21 (x2_2 + (5 : Int32))) && cA σ_6 (SR σ_6 h0 19) 21 (116 : Int32)) && cK σ_7 h0 13) && cK σ_7 h0 13) && cA σ_7 (SR σ_7 h0 0) 21 (x2_2 + (8 : Int32))) && cA σ_7 (SR σ_7 h0 19) 21 (115 : Int32)) && cK σ_8 h0 13) && cK σ_8 h0 13) && cA σ_8 (SR σ_8 h0 0) 21 (x2_2 + (7 : Int32))) && cA σ_8 (SR σ_8 h0 19) 21 (119 : Int32)) && cK σ_9 h0 13) σ_9) rfl rfl (Nat.le_of_ble_eq_true rfl) (cal_Model_worked _ _ _ _ _ (by decide) (by decide) (by decide)) (show decode M_Model_quits.2.1 112 = .ok (.invokevirtual 287, 3) by decide +kernel) wd_1915 wd_1917 wd_154 (fun r_10 b_10 σ_10 => ?_)
    show V M_Model_quits 3 0 0 0 0 tI _ 115 [(3, vI x3_5), (2, vI x2_2), (0, vR h0), (1, vI x1)] [vI r_10] b_10 σ_10
    refine V_ifeq 118 122 rfl (show decode M_Model_quits.2.1 115 = .ok (.ifCond .eq 7, 3) by decide +kernel) rfl ?_ ?_
    · skip
      refine V_iconst 123 rfl (show decode M_Model_quits.2.1 122 = .ok (.iconst 0, 1) by decide +kernel) (v := 0) rfl ?_
      exact V_zret rfl (by decide) (by decide) rfl (show decode M_Model_quits.2.1 123 = .ok (.ireturn, 1) by decide +kernel)
    · skip
      refine V_iconst 119 rfl (show decode M_Model_quits.2.1 118 = .ok (.iconst 1, 1) by decide +kernel) (v := 1) rfl ?_
      refine V_goto 123 (show decode M_Model_quits.2.1 119 = .ok (.goto 4, 3) by decide +kernel) rfl ?_
      exact V_zret rfl (by decide) (by decide) rfl (show decode M_Model_quits.2.1 123 = .ok (.ireturn, 1) by decide +kernel)
theorem cal_Model_quits (d mc ms k n : Nat) (h1 : 3 + 1 ≤ d) (h2 : k + 0 ≤ mc) (h3 : n + 0 ≤ ms) : Cal M_Model_quits 3 0 0 1 d mc ms k n := ⟨wd_1937, wd_181, by decide, h1, by decide, h2, h3⟩
abbrev M_Model_skips : MD := (⟨"LongTrailModel", "skips", "(III)Z"⟩, prog_14_method_73_code, 5, (some FieldType.boolean))
def f_Model_skips (h0 : Nat) (x1 : Int32) (x2 : Int32) (x3 : Int32) (b : Bool) (σ : Sto) : Rs Int32 := (bd_ (f_Model_landOf h0 x1 (b && cK σ h0 13) σ) (fun (r_1 : Int32) (b_1 : Bool) (σ_1 : Sto) => (bd_ (f_Model_counts h0 r_1 (1 : Int32) (b_1 && cK σ_1 h0 13) σ_1) (fun (r_2 : Int32) (b_2 : Bool) (σ_2 : Sto) => (lt_ r_2 (fun (x4_3 : Int32) => (lt_ (pI σ_2 (SR σ_2 h0 19) (ix (108 : Int32)) x2) (fun (σ_4 : Sto) => (lt_ (pI σ_4 (SR σ_4 h0 19) (ix (102 : Int32)) x3) (fun (σ_5 : Sto) => (lt_ (fun (b : Bool) (σ : Sto) => ((0 : Int32), b, σ)) (fun J46 => (if x4_3 < 0 then (J46 ((((b_2 && cK σ_2 h0 13) && cA σ_2 (SR σ_2 h0 19) 21 (108 : Int32)) && cK σ_4 h0 13) && cA σ_4 (SR σ_4 h0 19) 21 (102 : Int32)) σ_5) else (bd_ (f_Model_worked h0 x4_3 (((((b_2 && cK σ_2 h0 13) && cA σ_2 (SR σ_2 h0 19) 21 (108 : Int32)) && cK σ_4 h0 13) && cA σ_4 (SR σ_4 h0 19) 21 (102 : Int32)) && cK σ_5 h0 13) σ_5) (fun (r_6 : Int32) (b_6 : Bool) (σ_6 : Sto) => (if r_6 = 0 then (J46 b_6 σ_6) else ((1 : Int32), b_6, σ_6)))))))))))))))))
set_option maxRecDepth 100000 in
set_option maxHeartbeats 4000000 in
theorem s_Model_skips : ∀ (h0 : Nat) (x1 : Int32) (x2 : Int32) (x3 : Int32) (b : Bool) (σ : Sto), Snd M_Model_skips 3 0 0 [vR h0, vI x1, vI x2, vI x3] b σ (tI (f_Model_skips h0 x1 x2 x3 b σ).1) (f_Model_skips h0 x1 x2 x3 b σ).2.1 (f_Model_skips h0 x1 x2 x3 b σ).2.2 := by
  intro h0 x1 x2 x3 b σ
  refine Snd_of (tv := tI) (by decide) (Nat.le_of_ble_eq_true rfl) ?_
  show V M_Model_skips 3 0 0 0 0 tI (f_Model_skips h0 x1 x2 x3 b σ) 0 [(0, vR h0), (1, vI x1), (2, vI x2), (3, vI x3)] [] b σ
  unfold f_Model_skips
  refine V_aload_n 1 rfl (show decode M_Model_skips.2.1 0 = .ok (.aload_n 0, 1) by decide +kernel) 0 rfl ?_
  refine V_aload_n 2 rfl (show decode M_Model_skips.2.1 1 = .ok (.aload_n 0, 1) by decide +kernel) 0 rfl ?_
  refine V_iload_n 3 rfl (show decode M_Model_skips.2.1 2 = .ok (.iload_n 1, 1) by decide +kernel) 1 rfl ?_
  refine V_callV (tb := tI) (as := [vI x1]) (rest := [vR h0]) (na := 1) 6 rfl ck_Model (by decide) (s_Model_landOf h0 x1 (b && cK σ h0 13) σ) rfl rfl (Nat.le_of_ble_eq_true rfl) (cal_Model_landOf _ _ _ _ _ (by decide) (by decide) (by decide)) (show decode M_Model_skips.2.1 3 = .ok (.invokevirtual 146, 3) by decide +kernel) wd_1711 wd_1713 wd_124 (fun r_1 b_1 σ_1 => ?_)
  show V M_Model_skips 3 0 0 0 0 tI _ 6 [(0, vR h0), (1, vI x1), (2, vI x2), (3, vI x3)] [vI r_1, vR h0] b_1 σ_1
  refine V_iconst 7 rfl (show decode M_Model_skips.2.1 6 = .ok (.iconst 1, 1) by decide +kernel) (v := 1) rfl ?_
  refine V_callV (tb := tI) (as := [vI r_1, vI (1 : Int32)]) (rest := []) (na := 2) 10 rfl ck_Model (by decide) (s_Model_counts h0 r_1 (1 : Int32) (b_1 && cK σ_1 h0 13) σ_1) rfl rfl (Nat.le_of_ble_eq_true rfl) (cal_Model_counts _ _ _ _ _ (by decide) (by decide) (by decide)) (show decode M_Model_skips.2.1 7 = .ok (.invokevirtual 251, 3) by decide +kernel) wd_1823 wd_1825 wd_142 (fun r_2 b_2 σ_2 => ?_)
  show V M_Model_skips 3 0 0 0 0 tI _ 10 [(0, vR h0), (1, vI x1), (2, vI x2), (3, vI x3)] [vI r_2] b_2 σ_2
  refine V_istore (fun x4_3 => [(4, vI x4_3), (0, vR h0), (1, vI x1), (2, vI x2), (3, vI x3)]) 12 rfl (show decode M_Model_skips.2.1 10 = .ok (.istore 4, 2) by decide +kernel) (by decide) (fun _ => rfl) (fun x4_3 => ?_)
  refine V_aload_n 13 rfl (show decode M_Model_skips.2.1 12 = .ok (.aload_n 0, 1) by decide +kernel) 1 rfl ?_
  refine V_get (j := 19) (v := vR (SR σ_2 h0 19)) 16 rfl ck_Model (by decide) (by decide) (show decode M_Model_skips.2.1 13 = .ok (.getfield 32, 3) by decide +kernel) wd_1523 rfl ?_
  refine V_bipush 18 rfl (show decode M_Model_skips.2.1 16 = .ok (.bipush 108, 2) by decide +kernel) (v := 108) rfl ?_
  refine V_iload_n 19 rfl (show decode M_Model_skips.2.1 18 = .ok (.iload_n 2, 1) by decide +kernel) 3 rfl ?_
  refine V_ast_int 20 rfl (show decode M_Model_skips.2.1 19 = .ok (.iastore, 1) by decide +kernel) (fun σ_4 => ?_)
  refine V_aload_n 21 rfl (show decode M_Model_skips.2.1 20 = .ok (.aload_n 0, 1) by decide +kernel) 1 rfl ?_
  refine V_get (j := 19) (v := vR (SR σ_4 h0 19)) 24 rfl ck_Model (by decide) (by decide) (show decode M_Model_skips.2.1 21 = .ok (.getfield 32, 3) by decide +kernel) wd_1523 rfl ?_
  refine V_bipush 26 rfl (show decode M_Model_skips.2.1 24 = .ok (.bipush 102, 2) by decide +kernel) (v := 102) rfl ?_
  refine V_iload_n 27 rfl (show decode M_Model_skips.2.1 26 = .ok (.iload_n 3, 1) by decide +kernel) 4 rfl ?_
  refine V_ast_int 28 rfl (show decode M_Model_skips.2.1 27 = .ok (.iastore, 1) by decide +kernel) (fun σ_5 => ?_)
  refine V_iload 30 rfl (show decode M_Model_skips.2.1 28 = .ok (.iload 4, 2) by decide +kernel) 0 rfl ?_
  refine V_jn (fun (J46 : Bool → Sto → Rs Int32) => ∀ (b : Bool) (σ : Sto), V M_Model_skips 3 0 0 0 0 tI (J46 b σ) 46 [] [] b σ) ?_ (fun J46 hJ46 => ?_)
  · intro b σ
    refine V_iconst 47 rfl (show decode M_Model_skips.2.1 46 = .ok (.iconst 0, 1) by decide +kernel) (v := 0) rfl ?_
    exact V_zret rfl (by decide) (by decide) rfl (show decode M_Model_skips.2.1 47 = .ok (.ireturn, 1) by decide +kernel)
  · skip
    refine V_iflt 33 46 rfl (show decode M_Model_skips.2.1 30 = .ok (.ifCond .lt 16, 3) by decide +kernel) rfl ?_ ?_
    · skip
      exact V_sub [] rfl (hJ46 ((((b_2 && cK σ_2 h0 13) && cA σ_2 (SR σ_2 h0 19) 21 (108 : Int32)) && cK σ_4 h0 13) && cA σ_4 (SR σ_4 h0 19) 21 (102 : Int32)) σ_5)
    · skip
      refine V_aload_n 34 rfl (show decode M_Model_skips.2.1 33 = .ok (.aload_n 0, 1) by decide +kernel) 1 rfl ?_
      refine V_iload 36 rfl (show decode M_Model_skips.2.1 34 = .ok (.iload 4, 2) by decide +kernel) 0 rfl ?_
      refine V_callV (tb := tI) (as := [vI x4_3]) (rest := []) (na := 1) 39 rfl ck_Model (by decide) (s_Model_worked h0 x4_3 (((((b_2 && cK σ_2 h0 13) && cA σ_2 (SR σ_2 h0 19) 21 (108 : Int32)) && cK σ_4 h0 13) && cA σ_4 (SR σ_4 h0 19) 21 (102 : Int32)) && cK σ_5 h0 13) σ_5) rfl rfl (Nat.le_of_ble_eq_true rfl) (cal_Model_worked _ _ _ _ _ (by decide) (by decide) (by decide)) (show decode M_Model_skips.2.1 36 = .ok (.invokevirtual 287, 3) by decide +kernel) wd_1915 wd_1917 wd_154 (fun r_6 b_6 σ_6 => ?_)
      show V M_Model_skips 3 0 0 0 0 tI _ 39 [(4, vI x4_3), (0, vR h0), (1, vI x1), (2, vI x2), (3, vI x3)] [vI r_6] b_6 σ_6
      refine V_ifeq 42 46 rfl (show decode M_Model_skips.2.1 39 = .ok (.ifCond .eq 7, 3) by decide +kernel) rfl ?_ ?_
      · skip
        exact V_sub [] rfl (hJ46 b_6 σ_6)
      · skip
        refine V_iconst 43 rfl (show decode M_Model_skips.2.1 42 = .ok (.iconst 1, 1) by decide +kernel) (v := 1) rfl ?_
        refine V_goto 47 (show decode M_Model_skips.2.1 43 = .ok (.goto 4, 3) by decide +kernel) rfl ?_
        exact V_zret rfl (by decide) (by decide) rfl (show decode M_Model_skips.2.1 47 = .ok (.ireturn, 1) by decide +kernel)
theorem cal_Model_skips (d mc ms k n : Nat) (h1 : 3 + 1 ≤ d) (h2 : k + 0 ≤ mc) (h3 : n + 0 ≤ ms) : Cal M_Model_skips 3 0 0 3 d mc ms k n := ⟨wd_1914, wd_181, by decide, h1, by decide, h2, h3⟩
abbrev M_Model_walk : MD := (⟨"LongTrailModel", "walk", "(I)V"⟩, prog_14_method_76_code, 6, (none : Option FieldType))
def f_Model_walk (h0 : Nat) (x1 : Int32) (b : Bool) (σ : Sto) : Rs Unit := (bd_ (f_Model_walkerAt h0 x1 (b && cK σ h0 13) σ) (fun (r_1 : Int32) (b_1 : Bool) (σ_1 : Sto) => (lt_ r_1 (fun (x2_2 : Int32) => (lt_ (SI σ_1 (SR σ_1 h0 0) (ix (x2_2 + (1 : Int32)))) (fun (x3_3 : Int32) => (bd_ (f_Model_fireAhead h0 x3_3 (((b_1 && cK σ_1 h0 13) && cA σ_1 (SR σ_1 h0 0) 21 (x2_2 + (1 : Int32))) && cK σ_1 h0 13) σ_1) (fun (r_4 : Int32) (b_4 : Bool) (σ_4 : Sto) => (lt_ r_4 (fun (x4_5 : Int32) => (lt_ (fun (b : Bool) (σ : Sto) => (lt_ (fun (s0_166 : Int32) (s1_166 : Int32) (s2_166 : Nat) (b : Bool) (σ : Sto) => (lt_ (pI σ s2_166 (ix s1_166) s0_166) (fun (σ_6 : Sto) => (lt_ (fun (s0_192 : Int32) (s1_192 : Int32) (s2_192 : Int32) (s3_192 : Nat) (b : Bool) (σ : Sto) => (lt_ (pI σ s3_192 (ix s2_192) (s1_192 - s0_192)) (fun (σ_7 : Sto) => (lt_ (pI σ_7 (SR σ_7 h0 0) (ix (x2_2 + (7 : Int32))) ((SI σ_7 (SR σ_7 h0 0) (ix (x2_2 + (7 : Int32)))) + (1 : Int32))) (fun (σ_8 : Sto) => (lt_ (fun (s0_263 : Int32) (s1_263 : Int32) (s2_263 : Nat) (b : Bool) (σ : Sto) => (lt_ (pI σ s2_263 (ix s1_263) s0_263) (fun (σ_9 : Sto) => (lt_ (fun (s0_299 : Int32) (s1_299 : Int32) (s2_299 : Int32) (s3_299 : Nat) (b : Bool) (σ : Sto) => (lt_ (pI σ s3_299 (ix s2_299) (s1_299 + s0_299)) (fun (σ_10 : Sto) => (bd_ (f_Model_quits h0 x1 ((b && cA σ s3_299 21 s2_299) && cK σ_10 h0 13) σ_10) (fun (r_11 : Int32) (b_11 : Bool) (σ_11 : Sto) => (lt_ r_11 (fun (x5_12 : Int32) => (lt_ (fun (b : Bool) (σ : Sto) => (lt_ (fun (s0_345 : Int32) (s1_345 : Int32) (s2_345 : Nat) (b : Bool) (σ : Sto) => (lt_ (pI σ s2_345 (ix s1_345) s0_345) (fun (σ_13 : Sto) => (bd_ (f_Model_giveOn h0 x1 (-1 : Int32) ((b && cA σ s2_345 21 s1_345) && cK σ_13 h0 13) σ_13) (fun (r_14 : Unit) (b_14 : Bool) (σ_14 : Sto) => ((), b_14, σ_14)))))) (fun J345 => (if x5_12 = 0 then (J345 (3 : Int32) x2_2 (SR σ h0 0) (b && cK σ h0 13) σ) else (J345 (2 : Int32) x2_2 (SR σ h0 0) (b && cK σ h0 13) σ))))) (fun J330 => (if x5_12 = 0 then (if (SI σ_11 (SR σ_11 h0 0) (ix (x2_2 + (1 : Int32)))) = (SI σ_11 (SR σ_11 h0 0) (ix (1 : Int32))) then (J330 ((((b_11 && cK σ_11 h0 13) && cA σ_11 (SR σ_11 h0 0) 21 (x2_2 + (1 : Int32))) && cK σ_11 h0 13) && cA σ_11 (SR σ_11 h0 0) 21 (1 : Int32)) σ_11) else ((), ((((b_11 && cK σ_11 h0 13) && cA σ_11 (SR σ_11 h0 0) 21 (x2_2 + (1 : Int32))) && cK σ_11 h0 13) && cA σ_11 (SR σ_11 h0 0) 21 (1 : Int32)), σ_11)) else (J330 b_11 σ_11))))))))))) (fun J299 => (if (SI σ_9 (SR σ_9 h0 0) (ix (x2_2 + (18 : Int32)))) < (SI σ_9 (SR σ_9 h0 0) (ix (x2_2 + (6 : Int32)))) then (J299 (1 : Int32) (SI σ_9 (SR σ_9 h0 0) (ix (x2_2 + (5 : Int32)))) (x2_2 + (5 : Int32)) (SR σ_9 h0 0) (((((((b && cA σ s2_263 21 s1_263) && cK σ_9 h0 13) && cA σ_9 (SR σ_9 h0 0) 21 (x2_2 + (5 : Int32))) && cK σ_9 h0 13) && cA σ_9 (SR σ_9 h0 0) 21 (x2_2 + (6 : Int32))) && cK σ_9 h0 13) && cA σ_9 (SR σ_9 h0 0) 21 (x2_2 + (18 : Int32))) σ_9) else (J299 (0 : Int32) (SI σ_9 (SR σ_9 h0 0) (ix (x2_2 + (5 : Int32)))) (x2_2 + (5 : Int32)) (SR σ_9 h0 0) (((((((b && cA σ s2_263 21 s1_263) && cK σ_9 h0 13) && cA σ_9 (SR σ_9 h0 0) 21 (x2_2 + (5 : Int32))) && cK σ_9 h0 13) && cA σ_9 (SR σ_9 h0 0) 21 (x2_2 + (6 : Int32))) && cK σ_9 h0 13) && cA σ_9 (SR σ_9 h0 0) 21 (x2_2 + (18 : Int32))) σ_9))))))) (fun J263 => (if ((SI σ_8 (SR σ_8 h0 0) (ix (x2_2 + (7 : Int32)))) - (SI σ_8 (SR σ_8 h0 0) (ix (x2_2 + (7 : Int32)))) / (7 : Int32) * (7 : Int32)) = 0 then (bd_ (f_Model_least (40 : Int32) ((SI σ_8 (SR σ_8 h0 0) (ix (x2_2 + (2 : Int32)))) + (SI σ_8 (SR σ_8 h0 0) (ix (x2_2 + (16 : Int32))))) ((((((((((((b && cA σ s3_192 21 s2_192) && cK σ_7 h0 13) && cA σ_7 (SR σ_7 h0 0) 21 (x2_2 + (7 : Int32))) && cA σ_7 (SR σ_7 h0 0) 21 (x2_2 + (7 : Int32))) && cK σ_8 h0 13) && cK σ_8 h0 13) && cA σ_8 (SR σ_8 h0 0) 21 (x2_2 + (7 : Int32))) && !decide ((7 : Int32) = 0)) && cK σ_8 h0 13) && cA σ_8 (SR σ_8 h0 0) 21 (x2_2 + (2 : Int32))) && cK σ_8 h0 13) && cA σ_8 (SR σ_8 h0 0) 21 (x2_2 + (16 : Int32))) σ_8) (fun (r_15 : Int32) (b_15 : Bool) (σ_15 : Sto) => (J263 r_15 (x2_2 + (2 : Int32)) (SR σ_8 h0 0) b_15 σ_15))) else (J263 (SI σ_8 (SR σ_8 h0 0) (ix (x2_2 + (2 : Int32)))) (x2_2 + (2 : Int32)) (SR σ_8 h0 0) ((((((((((b && cA σ s3_192 21 s2_192) && cK σ_7 h0 13) && cA σ_7 (SR σ_7 h0 0) 21 (x2_2 + (7 : Int32))) && cA σ_7 (SR σ_7 h0 0) 21 (x2_2 + (7 : Int32))) && cK σ_8 h0 13) && cK σ_8 h0 13) && cA σ_8 (SR σ_8 h0 0) 21 (x2_2 + (7 : Int32))) && !decide ((7 : Int32) = 0)) && cK σ_8 h0 13) && cA σ_8 (SR σ_8 h0 0) 21 (x2_2 + (2 : Int32))) σ_8))))))))) (fun J192 => (if 0 < (SI σ_6 (SR σ_6 h0 0) (ix (x2_2 + (3 : Int32)))) then (J192 (1 : Int32) (SI σ_6 (SR σ_6 h0 0) (ix (x2_2 + (3 : Int32)))) (x2_2 + (3 : Int32)) (SR σ_6 h0 0) (((((b && cA σ s2_166 21 s1_166) && cK σ_6 h0 13) && cA σ_6 (SR σ_6 h0 0) 21 (x2_2 + (3 : Int32))) && cK σ_6 h0 13) && cA σ_6 (SR σ_6 h0 0) 21 (x2_2 + (3 : Int32))) σ_6) else (J192 (0 : Int32) (SI σ_6 (SR σ_6 h0 0) (ix (x2_2 + (3 : Int32)))) (x2_2 + (3 : Int32)) (SR σ_6 h0 0) (((((b && cA σ s2_166 21 s1_166) && cK σ_6 h0 13) && cA σ_6 (SR σ_6 h0 0) 21 (x2_2 + (3 : Int32))) && cK σ_6 h0 13) && cA σ_6 (SR σ_6 h0 0) 21 (x2_2 + (3 : Int32))) σ_6))))))) (fun J166 => (if (SI σ (SR σ h0 0) (ix (x2_2 + (3 : Int32)))) = 0 then (J166 ((SI σ (SR σ h0 0) (ix (x2_2 + (4 : Int32)))) + (1 : Int32)) (x2_2 + (4 : Int32)) (SR σ h0 0) (((((b && cK σ h0 13) && cK σ h0 13) && cA σ (SR σ h0 0) 21 (x2_2 + (3 : Int32))) && cK σ h0 13) && cA σ (SR σ h0 0) 21 (x2_2 + (4 : Int32))) σ) else (J166 (0 : Int32) (x2_2 + (4 : Int32)) (SR σ h0 0) (((b && cK σ h0 13) && cK σ h0 13) && cA σ (SR σ h0 0) 21 (x2_2 + (3 : Int32))) σ))))) (fun J134 => (lt_ (fun (b : Bool) (σ : Sto) => (bd_ (f_Model_bound h0 x1 (b && cK σ h0 13) σ) (fun (r_16 : Int32) (b_16 : Bool) (σ_16 : Sto) => (lt_ (fun (s0_121 : Int32) (s1_121 : Int32) (s2_121 : Int32) (b : Bool) (σ : Sto) => (bd_ (f_Model_least s2_121 (s1_121 + s0_121) b σ) (fun (r_17 : Int32) (b_17 : Bool) (σ_17 : Sto) => (lt_ r_17 (fun (x5_18 : Int32) => (bd_ (f_Model_goes h0 x1 x5_18 (b_17 && cK σ_17 h0 13) σ_17) (fun (r_19 : Unit) (b_19 : Bool) (σ_19 : Sto) => (J134 b_19 σ_19)))))))) (fun J121 => (if (SI σ_16 (SR σ_16 h0 0) (ix (x2_2 + (3 : Int32)))) = 0 then (J121 ((SI σ_16 (SR σ_16 h0 0) (ix (x2_2 + (2 : Int32)))) / (2 : Int32)) x3_3 r_16 (((((b_16 && cK σ_16 h0 13) && cA σ_16 (SR σ_16 h0 0) 21 (x2_2 + (3 : Int32))) && cK σ_16 h0 13) && cA σ_16 (SR σ_16 h0 0) 21 (x2_2 + (2 : Int32))) && !decide ((2 : Int32) = 0)) σ_16) else (J121 (SI σ_16 (SR σ_16 h0 0) (ix (x2_2 + (2 : Int32)))) x3_3 r_16 ((((b_16 && cK σ_16 h0 13) && cA σ_16 (SR σ_16 h0 0) 21 (x2_2 + (3 : Int32))) && cK σ_16 h0 13) && cA σ_16 (SR σ_16 h0 0) 21 (x2_2 + (2 : Int32))) σ_16))))))) (fun J83 => (if 0 < x4_5 then (bd_ (f_Model_skips h0 x3_3 x4_5 (SI σ_4 (SR σ_4 h0 0) (ix (x2_2 + (3 : Int32)))) (((b_4 && cK σ_4 h0 13) && cA σ_4 (SR σ_4 h0 0) 21 (x2_2 + (3 : Int32))) && cK σ_4 h0 13) σ_4) (fun (r_20 : Int32) (b_20 : Bool) (σ_20 : Sto) => (if r_20 = 0 then (J83 b_20 σ_20) else (lt_ (pI σ_20 (SR σ_20 h0 0) (ix (x2_2 + (13 : Int32))) ((SI σ_20 (SR σ_20 h0 0) (ix (x2_2 + (13 : Int32)))) + x4_5)) (fun (σ_21 : Sto) => (bd_ (f_Model_least (SI σ_21 (SR σ_21 h0 0) (ix (1 : Int32))) (x3_3 + x4_5) ((((((b_20 && cK σ_20 h0 13) && cA σ_20 (SR σ_20 h0 0) 21 (x2_2 + (13 : Int32))) && cA σ_20 (SR σ_20 h0 0) 21 (x2_2 + (13 : Int32))) && cK σ_21 h0 13) && cK σ_21 h0 13) && cA σ_21 (SR σ_21 h0 0) 21 (1 : Int32)) σ_21) (fun (r_22 : Int32) (b_22 : Bool) (σ_22 : Sto) => (lt_ (pI σ_22 (SR σ_21 h0 0) (ix (x2_2 + (1 : Int32))) r_22) (fun (σ_23 : Sto) => (J134 (b_22 && cA σ_22 (SR σ_21 h0 0) 21 (x2_2 + (1 : Int32))) σ_23)))))))))) else (J83 b_4 σ_4))))))))))))))))
set_option maxRecDepth 100000 in
set_option maxHeartbeats 4000000 in
theorem s_Model_walk : ∀ (h0 : Nat) (x1 : Int32) (b : Bool) (σ : Sto), Snd M_Model_walk 5 0 0 [vR h0, vI x1] b σ (tU (f_Model_walk h0 x1 b σ).1) (f_Model_walk h0 x1 b σ).2.1 (f_Model_walk h0 x1 b σ).2.2 := by
  intro h0 x1 b σ
  refine Snd_of (tv := tU) (by decide) (Nat.le_of_ble_eq_true rfl) ?_
  show V M_Model_walk 5 0 0 0 0 tU (f_Model_walk h0 x1 b σ) 0 [(0, vR h0), (1, vI x1)] [] b σ
  unfold f_Model_walk
  refine V_aload_n 1 rfl (show decode M_Model_walk.2.1 0 = .ok (.aload_n 0, 1) by decide +kernel) 0 rfl ?_
  refine V_iload_n 2 rfl (show decode M_Model_walk.2.1 1 = .ok (.iload_n 1, 1) by decide +kernel) 1 rfl ?_
  refine V_callV (tb := tI) (as := [vI x1]) (rest := []) (na := 1) 5 rfl ck_Model (by decide) (s_Model_walkerAt h0 x1 (b && cK σ h0 13) σ) rfl rfl (Nat.le_of_ble_eq_true rfl) (cal_Model_walkerAt _ _ _ _ _ (by decide) (by decide) (by decide)) (show decode M_Model_walk.2.1 2 = .ok (.invokevirtual 84, 3) by decide +kernel) wd_1673 wd_1675 wd_121 (fun r_1 b_1 σ_1 => ?_)
  show V M_Model_walk 5 0 0 0 0 tU _ 5 [(0, vR h0), (1, vI x1)] [vI r_1] b_1 σ_1
  refine V_istore_n (fun x2_2 => [(2, vI x2_2), (0, vR h0), (1, vI x1)]) 6 rfl (show decode M_Model_walk.2.1 5 = .ok (.istore_n 2, 1) by decide +kernel) (by decide) (fun _ => rfl) (fun x2_2 => ?_)
  refine V_aload_n 7 rfl (show decode M_Model_walk.2.1 6 = .ok (.aload_n 0, 1) by decide +kernel) 1 rfl ?_
  refine V_get (j := 0) (v := vR (SR σ_1 h0 0)) 10 rfl ck_Model (by decide) (by decide) (show decode M_Model_walk.2.1 7 = .ok (.getfield 7, 3) by decide +kernel) wd_1504 rfl ?_
  refine V_iload_n 11 rfl (show decode M_Model_walk.2.1 10 = .ok (.iload_n 2, 1) by decide +kernel) 0 rfl ?_
  refine V_iconst 12 rfl (show decode M_Model_walk.2.1 11 = .ok (.iconst 1, 1) by decide +kernel) (v := 1) rfl ?_
  refine V_iadd 13 rfl (show decode M_Model_walk.2.1 12 = .ok (.iadd, 1) by decide +kernel) ?_
  refine V_ald_int 14 rfl (show decode M_Model_walk.2.1 13 = .ok (.iaload, 1) by decide +kernel) ?_
  refine V_istore_n (fun x3_3 => [(3, vI x3_3), (2, vI x2_2), (0, vR h0), (1, vI x1)]) 15 rfl (show decode M_Model_walk.2.1 14 = .ok (.istore_n 3, 1) by decide +kernel) (by decide) (fun _ => rfl) (fun x3_3 => ?_)
  refine V_aload_n 16 rfl (show decode M_Model_walk.2.1 15 = .ok (.aload_n 0, 1) by decide +kernel) 2 rfl ?_
  refine V_iload_n 17 rfl (show decode M_Model_walk.2.1 16 = .ok (.iload_n 3, 1) by decide +kernel) 0 rfl ?_
  refine V_callV (tb := tI) (as := [vI x3_3]) (rest := []) (na := 1) 20 rfl ck_Model (by decide) (s_Model_fireAhead h0 x3_3 (((b_1 && cK σ_1 h0 13) && cA σ_1 (SR σ_1 h0 0) 21 (x2_2 + (1 : Int32))) && cK σ_1 h0 13) σ_1) rfl rfl (Nat.le_of_ble_eq_true rfl) (cal_Model_fireAhead _ _ _ _ _ (by decide) (by decide) (by decide)) (show decode M_Model_walk.2.1 17 = .ok (.invokevirtual 290, 3) by decide +kernel) wd_1907 wd_1909 wd_152 (fun r_4 b_4 σ_4 => ?_)
  show V M_Model_walk 5 0 0 0 0 tU _ 20 [(3, vI x3_3), (2, vI x2_2), (0, vR h0), (1, vI x1)] [vI r_4] b_4 σ_4
  refine V_istore (fun x4_5 => [(4, vI x4_5), (3, vI x3_3), (2, vI x2_2), (0, vR h0), (1, vI x1)]) 22 rfl (show decode M_Model_walk.2.1 20 = .ok (.istore 4, 2) by decide +kernel) (by decide) (fun _ => rfl) (fun x4_5 => ?_)
  refine V_iload 24 rfl (show decode M_Model_walk.2.1 22 = .ok (.iload 4, 2) by decide +kernel) 0 rfl ?_
  refine V_jn (fun (J134 : Bool → Sto → Rs Unit) => ∀ (b : Bool) (σ : Sto), V M_Model_walk 5 0 0 0 0 tU (J134 b σ) 134 [(0, vR h0), (1, vI x1), (2, vI x2_2)] [] b σ) ?_ (fun J134 hJ134 => ?_)
  · intro b σ
    refine V_aload_n 135 rfl (show decode M_Model_walk.2.1 134 = .ok (.aload_n 0, 1) by decide +kernel) 0 rfl ?_
    refine V_get (j := 0) (v := vR (SR σ h0 0)) 138 rfl ck_Model (by decide) (by decide) (show decode M_Model_walk.2.1 135 = .ok (.getfield 7, 3) by decide +kernel) wd_1504 rfl ?_
    refine V_iload_n 139 rfl (show decode M_Model_walk.2.1 138 = .ok (.iload_n 2, 1) by decide +kernel) 2 rfl ?_
    refine V_iconst 140 rfl (show decode M_Model_walk.2.1 139 = .ok (.iconst 4, 1) by decide +kernel) (v := 4) rfl ?_
    refine V_iadd 141 rfl (show decode M_Model_walk.2.1 140 = .ok (.iadd, 1) by decide +kernel) ?_
    refine V_aload_n 142 rfl (show decode M_Model_walk.2.1 141 = .ok (.aload_n 0, 1) by decide +kernel) 0 rfl ?_
    refine V_get (j := 0) (v := vR (SR σ h0 0)) 145 rfl ck_Model (by decide) (by decide) (show decode M_Model_walk.2.1 142 = .ok (.getfield 7, 3) by decide +kernel) wd_1504 rfl ?_
    refine V_iload_n 146 rfl (show decode M_Model_walk.2.1 145 = .ok (.iload_n 2, 1) by decide +kernel) 2 rfl ?_
    refine V_iconst 147 rfl (show decode M_Model_walk.2.1 146 = .ok (.iconst 3, 1) by decide +kernel) (v := 3) rfl ?_
    refine V_iadd 148 rfl (show decode M_Model_walk.2.1 147 = .ok (.iadd, 1) by decide +kernel) ?_
    refine V_ald_int 149 rfl (show decode M_Model_walk.2.1 148 = .ok (.iaload, 1) by decide +kernel) ?_
    refine V_jn (fun (J166 : Int32 → Int32 → Nat → Bool → Sto → Rs Unit) => ∀ (s0_166 : Int32) (s1_166 : Int32) (s2_166 : Nat) (b : Bool) (σ : Sto), V M_Model_walk 5 0 0 0 0 tU (J166 s0_166 s1_166 s2_166 b σ) 166 [(0, vR h0), (1, vI x1), (2, vI x2_2)] [vI s0_166, vI s1_166, vR s2_166] b σ) ?_ (fun J166 hJ166 => ?_)
    · intro s0_166 s1_166 s2_166 b σ
      refine V_ast_int 167 rfl (show decode M_Model_walk.2.1 166 = .ok (.iastore, 1) by decide +kernel) (fun σ_6 => ?_)
      refine V_aload_n 168 rfl (show decode M_Model_walk.2.1 167 = .ok (.aload_n 0, 1) by decide +kernel) 0 rfl ?_
      refine V_get (j := 0) (v := vR (SR σ_6 h0 0)) 171 rfl ck_Model (by decide) (by decide) (show decode M_Model_walk.2.1 168 = .ok (.getfield 7, 3) by decide +kernel) wd_1504 rfl ?_
      refine V_iload_n 172 rfl (show decode M_Model_walk.2.1 171 = .ok (.iload_n 2, 1) by decide +kernel) 2 rfl ?_
      refine V_iconst 173 rfl (show decode M_Model_walk.2.1 172 = .ok (.iconst 3, 1) by decide +kernel) (v := 3) rfl ?_
      refine V_iadd 174 rfl (show decode M_Model_walk.2.1 173 = .ok (.iadd, 1) by decide +kernel) ?_
      refine V_dup2 175 rfl (show decode M_Model_walk.2.1 174 = .ok (.dup2, 1) by decide +kernel) rfl rfl ?_
      refine V_ald_int 176 rfl (show decode M_Model_walk.2.1 175 = .ok (.iaload, 1) by decide +kernel) ?_
      refine V_aload_n 177 rfl (show decode M_Model_walk.2.1 176 = .ok (.aload_n 0, 1) by decide +kernel) 0 rfl ?_
      refine V_get (j := 0) (v := vR (SR σ_6 h0 0)) 180 rfl ck_Model (by decide) (by decide) (show decode M_Model_walk.2.1 177 = .ok (.getfield 7, 3) by decide +kernel) wd_1504 rfl ?_
      refine V_iload_n 181 rfl (show decode M_Model_walk.2.1 180 = .ok (.iload_n 2, 1) by decide +kernel) 2 rfl ?_
      refine V_iconst 182 rfl (show decode M_Model_walk.2.1 181 = .ok (.iconst 3, 1) by decide +kernel) (v := 3) rfl ?_
      refine V_iadd 183 rfl (show decode M_Model_walk.2.1 182 = .ok (.iadd, 1) by decide +kernel) ?_
      refine V_ald_int 184 rfl (show decode M_Model_walk.2.1 183 = .ok (.iaload, 1) by decide +kernel) ?_
      refine V_jn (fun (J192 : Int32 → Int32 → Int32 → Nat → Bool → Sto → Rs Unit) => ∀ (s0_192 : Int32) (s1_192 : Int32) (s2_192 : Int32) (s3_192 : Nat) (b : Bool) (σ : Sto), V M_Model_walk 5 0 0 0 0 tU (J192 s0_192 s1_192 s2_192 s3_192 b σ) 192 [(0, vR h0), (1, vI x1), (2, vI x2_2)] [vI s0_192, vI s1_192, vI s2_192, vR s3_192] b σ) ?_ (fun J192 hJ192 => ?_)
      · intro s0_192 s1_192 s2_192 s3_192 b σ
        refine V_isub 193 rfl (show decode M_Model_walk.2.1 192 = .ok (.isub, 1) by decide +kernel) ?_
        refine V_ast_int 194 rfl (show decode M_Model_walk.2.1 193 = .ok (.iastore, 1) by decide +kernel) (fun σ_7 => ?_)
        refine V_aload_n 195 rfl (show decode M_Model_walk.2.1 194 = .ok (.aload_n 0, 1) by decide +kernel) 0 rfl ?_
        refine V_get (j := 0) (v := vR (SR σ_7 h0 0)) 198 rfl ck_Model (by decide) (by decide) (show decode M_Model_walk.2.1 195 = .ok (.getfield 7, 3) by decide +kernel) wd_1504 rfl ?_
        refine V_iload_n 199 rfl (show decode M_Model_walk.2.1 198 = .ok (.iload_n 2, 1) by decide +kernel) 2 rfl ?_
        refine V_bipush 201 rfl (show decode M_Model_walk.2.1 199 = .ok (.bipush 7, 2) by decide +kernel) (v := 7) rfl ?_
        refine V_iadd 202 rfl (show decode M_Model_walk.2.1 201 = .ok (.iadd, 1) by decide +kernel) ?_
        refine V_dup2 203 rfl (show decode M_Model_walk.2.1 202 = .ok (.dup2, 1) by decide +kernel) rfl rfl ?_
        refine V_ald_int 204 rfl (show decode M_Model_walk.2.1 203 = .ok (.iaload, 1) by decide +kernel) ?_
        refine V_iconst 205 rfl (show decode M_Model_walk.2.1 204 = .ok (.iconst 1, 1) by decide +kernel) (v := 1) rfl ?_
        refine V_iadd 206 rfl (show decode M_Model_walk.2.1 205 = .ok (.iadd, 1) by decide +kernel) ?_
        refine V_ast_int 207 rfl (show decode M_Model_walk.2.1 206 = .ok (.iastore, 1) by decide +kernel) (fun σ_8 => ?_)
        refine V_aload_n 208 rfl (show decode M_Model_walk.2.1 207 = .ok (.aload_n 0, 1) by decide +kernel) 0 rfl ?_
        refine V_get (j := 0) (v := vR (SR σ_8 h0 0)) 211 rfl ck_Model (by decide) (by decide) (show decode M_Model_walk.2.1 208 = .ok (.getfield 7, 3) by decide +kernel) wd_1504 rfl ?_
        refine V_iload_n 212 rfl (show decode M_Model_walk.2.1 211 = .ok (.iload_n 2, 1) by decide +kernel) 2 rfl ?_
        refine V_iconst 213 rfl (show decode M_Model_walk.2.1 212 = .ok (.iconst 2, 1) by decide +kernel) (v := 2) rfl ?_
        refine V_iadd 214 rfl (show decode M_Model_walk.2.1 213 = .ok (.iadd, 1) by decide +kernel) ?_
        refine V_aload_n 215 rfl (show decode M_Model_walk.2.1 214 = .ok (.aload_n 0, 1) by decide +kernel) 0 rfl ?_
        refine V_get (j := 0) (v := vR (SR σ_8 h0 0)) 218 rfl ck_Model (by decide) (by decide) (show decode M_Model_walk.2.1 215 = .ok (.getfield 7, 3) by decide +kernel) wd_1504 rfl ?_
        refine V_iload_n 219 rfl (show decode M_Model_walk.2.1 218 = .ok (.iload_n 2, 1) by decide +kernel) 2 rfl ?_
        refine V_bipush 221 rfl (show decode M_Model_walk.2.1 219 = .ok (.bipush 7, 2) by decide +kernel) (v := 7) rfl ?_
        refine V_iadd 222 rfl (show decode M_Model_walk.2.1 221 = .ok (.iadd, 1) by decide +kernel) ?_
        refine V_ald_int 223 rfl (show decode M_Model_walk.2.1 222 = .ok (.iaload, 1) by decide +kernel) ?_
        refine V_bipush 225 rfl (show decode M_Model_walk.2.1 223 = .ok (.bipush 7, 2) by decide +kernel) (v := 7) rfl ?_
        refine V_irem 226 rfl (show decode M_Model_walk.2.1 225 = .ok (.irem, 1) by decide +kernel) ?_
        refine V_jn (fun (J263 : Int32 → Int32 → Nat → Bool → Sto → Rs Unit) => ∀ (s0_263 : Int32) (s1_263 : Int32) (s2_263 : Nat) (b : Bool) (σ : Sto), V M_Model_walk 5 0 0 0 0 tU (J263 s0_263 s1_263 s2_263 b σ) 263 [(0, vR h0), (1, vI x1), (2, vI x2_2)] [vI s0_263, vI s1_263, vR s2_263] b σ) ?_ (fun J263 hJ263 => ?_)
        · intro s0_263 s1_263 s2_263 b σ
          refine V_ast_int 264 rfl (show decode M_Model_walk.2.1 263 = .ok (.iastore, 1) by decide +kernel) (fun σ_9 => ?_)
          refine V_aload_n 265 rfl (show decode M_Model_walk.2.1 264 = .ok (.aload_n 0, 1) by decide +kernel) 0 rfl ?_
          refine V_get (j := 0) (v := vR (SR σ_9 h0 0)) 268 rfl ck_Model (by decide) (by decide) (show decode M_Model_walk.2.1 265 = .ok (.getfield 7, 3) by decide +kernel) wd_1504 rfl ?_
          refine V_iload_n 269 rfl (show decode M_Model_walk.2.1 268 = .ok (.iload_n 2, 1) by decide +kernel) 2 rfl ?_
          refine V_iconst 270 rfl (show decode M_Model_walk.2.1 269 = .ok (.iconst 5, 1) by decide +kernel) (v := 5) rfl ?_
          refine V_iadd 271 rfl (show decode M_Model_walk.2.1 270 = .ok (.iadd, 1) by decide +kernel) ?_
          refine V_dup2 272 rfl (show decode M_Model_walk.2.1 271 = .ok (.dup2, 1) by decide +kernel) rfl rfl ?_
          refine V_ald_int 273 rfl (show decode M_Model_walk.2.1 272 = .ok (.iaload, 1) by decide +kernel) ?_
          refine V_aload_n 274 rfl (show decode M_Model_walk.2.1 273 = .ok (.aload_n 0, 1) by decide +kernel) 0 rfl ?_
          refine V_get (j := 0) (v := vR (SR σ_9 h0 0)) 277 rfl ck_Model (by decide) (by decide) (show decode M_Model_walk.2.1 274 = .ok (.getfield 7, 3) by decide +kernel) wd_1504 rfl ?_
          refine V_iload_n 278 rfl (show decode M_Model_walk.2.1 277 = .ok (.iload_n 2, 1) by decide +kernel) 2 rfl ?_
          refine V_bipush 280 rfl (show decode M_Model_walk.2.1 278 = .ok (.bipush 6, 2) by decide +kernel) (v := 6) rfl ?_
          refine V_iadd 281 rfl (show decode M_Model_walk.2.1 280 = .ok (.iadd, 1) by decide +kernel) ?_
          refine V_ald_int 282 rfl (show decode M_Model_walk.2.1 281 = .ok (.iaload, 1) by decide +kernel) ?_
          refine V_aload_n 283 rfl (show decode M_Model_walk.2.1 282 = .ok (.aload_n 0, 1) by decide +kernel) 0 rfl ?_
          refine V_get (j := 0) (v := vR (SR σ_9 h0 0)) 286 rfl ck_Model (by decide) (by decide) (show decode M_Model_walk.2.1 283 = .ok (.getfield 7, 3) by decide +kernel) wd_1504 rfl ?_
          refine V_iload_n 287 rfl (show decode M_Model_walk.2.1 286 = .ok (.iload_n 2, 1) by decide +kernel) 2 rfl ?_
          refine V_bipush 289 rfl (show decode M_Model_walk.2.1 287 = .ok (.bipush 18, 2) by decide +kernel) (v := 18) rfl ?_
          refine V_iadd 290 rfl (show decode M_Model_walk.2.1 289 = .ok (.iadd, 1) by decide +kernel) ?_
          refine V_ald_int 291 rfl (show decode M_Model_walk.2.1 290 = .ok (.iaload, 1) by decide +kernel) ?_
          refine V_jn (fun (J299 : Int32 → Int32 → Int32 → Nat → Bool → Sto → Rs Unit) => ∀ (s0_299 : Int32) (s1_299 : Int32) (s2_299 : Int32) (s3_299 : Nat) (b : Bool) (σ : Sto), V M_Model_walk 5 0 0 0 0 tU (J299 s0_299 s1_299 s2_299 s3_299 b σ) 299 [(0, vR h0), (1, vI x1), (2, vI x2_2)] [vI s0_299, vI s1_299, vI s2_299, vR s3_299] b σ) ?_ (fun J299 hJ299 => ?_)
          · intro s0_299 s1_299 s2_299 s3_299 b σ
            refine V_iadd 300 rfl (show decode M_Model_walk.2.1 299 = .ok (.iadd, 1) by decide +kernel) ?_
            refine V_ast_int 301 rfl (show decode M_Model_walk.2.1 300 = .ok (.iastore, 1) by decide +kernel) (fun σ_10 => ?_)
            refine V_aload_n 302 rfl (show decode M_Model_walk.2.1 301 = .ok (.aload_n 0, 1) by decide +kernel) 0 rfl ?_
            refine V_iload_n 303 rfl (show decode M_Model_walk.2.1 302 = .ok (.iload_n 1, 1) by decide +kernel) 1 rfl ?_
            refine V_callV (tb := tI) (as := [vI x1]) (rest := []) (na := 1) 306 rfl ck_Model (by decide) (s_Model_quits h0 x1 ((b && cA σ s3_299 21 s2_299) && cK σ_10 h0 13) σ_10) rfl rfl (Nat.le_of_ble_eq_true rfl) (cal_Model_quits _ _ _ _ _ (by decide) (by decide) (by decide)) (show decode M_Model_walk.2.1 303 = .ok (.invokevirtual 303, 3) by decide +kernel) wd_1934 wd_1936 wd_158 (fun r_11 b_11 σ_11 => ?_)
            show V M_Model_walk 5 0 0 0 0 tU _ 306 [(0, vR h0), (1, vI x1), (2, vI x2_2)] [vI r_11] b_11 σ_11
            refine V_istore (fun x5_12 => [(5, vI x5_12), (0, vR h0), (1, vI x1), (2, vI x2_2)]) 308 rfl (show decode M_Model_walk.2.1 306 = .ok (.istore 5, 2) by decide +kernel) (by decide) (fun _ => rfl) (fun x5_12 => ?_)
            refine V_iload 310 rfl (show decode M_Model_walk.2.1 308 = .ok (.iload 5, 2) by decide +kernel) 0 rfl ?_
            refine V_jn (fun (J330 : Bool → Sto → Rs Unit) => ∀ (b : Bool) (σ : Sto), V M_Model_walk 5 0 0 0 0 tU (J330 b σ) 330 [(0, vR h0), (1, vI x1), (2, vI x2_2), (5, vI x5_12)] [] b σ) ?_ (fun J330 hJ330 => ?_)
            · intro b σ
              refine V_aload_n 331 rfl (show decode M_Model_walk.2.1 330 = .ok (.aload_n 0, 1) by decide +kernel) 0 rfl ?_
              refine V_get (j := 0) (v := vR (SR σ h0 0)) 334 rfl ck_Model (by decide) (by decide) (show decode M_Model_walk.2.1 331 = .ok (.getfield 7, 3) by decide +kernel) wd_1504 rfl ?_
              refine V_iload_n 335 rfl (show decode M_Model_walk.2.1 334 = .ok (.iload_n 2, 1) by decide +kernel) 2 rfl ?_
              refine V_iload 337 rfl (show decode M_Model_walk.2.1 335 = .ok (.iload 5, 2) by decide +kernel) 3 rfl ?_
              refine V_jn (fun (J345 : Int32 → Int32 → Nat → Bool → Sto → Rs Unit) => ∀ (s0_345 : Int32) (s1_345 : Int32) (s2_345 : Nat) (b : Bool) (σ : Sto), V M_Model_walk 5 0 0 0 0 tU (J345 s0_345 s1_345 s2_345 b σ) 345 [(0, vR h0), (1, vI x1)] [vI s0_345, vI s1_345, vR s2_345] b σ) ?_ (fun J345 hJ345 => ?_)
              · intro s0_345 s1_345 s2_345 b σ
                refine V_ast_int 346 rfl (show decode M_Model_walk.2.1 345 = .ok (.iastore, 1) by decide +kernel) (fun σ_13 => ?_)
                refine V_aload_n 347 rfl (show decode M_Model_walk.2.1 346 = .ok (.aload_n 0, 1) by decide +kernel) 0 rfl ?_
                refine V_iload_n 348 rfl (show decode M_Model_walk.2.1 347 = .ok (.iload_n 1, 1) by decide +kernel) 1 rfl ?_
                refine V_iconst 349 rfl (show decode M_Model_walk.2.1 348 = .ok (.iconst (-1), 1) by decide +kernel) (v := -1) rfl ?_
                refine V_callV (tb := tU) (as := [vI x1, vI (-1 : Int32)]) (rest := []) (na := 2) 352 rfl ck_Model (by decide) (s_Model_giveOn h0 x1 (-1 : Int32) ((b && cA σ s2_345 21 s1_345) && cK σ_13 h0 13) σ_13) rfl rfl (Nat.le_of_ble_eq_true rfl) (cal_Model_giveOn _ _ _ _ _ (by decide) (by decide) (by decide)) (show decode M_Model_walk.2.1 349 = .ok (.invokevirtual 281, 3) by decide +kernel) wd_1899 wd_1901 wd_150 (fun r_14 b_14 σ_14 => ?_)
                show V M_Model_walk 5 0 0 0 0 tU _ 352 [(0, vR h0), (1, vI x1)] [] b_14 σ_14
                exact V_vret rfl (by decide) (by decide) (show decode M_Model_walk.2.1 352 = .ok (.return_, 1) by decide +kernel)
              · skip
                refine V_ifeq 340 344 rfl (show decode M_Model_walk.2.1 337 = .ok (.ifCond .eq 7, 3) by decide +kernel) rfl ?_ ?_
                · skip
                  refine V_iconst 345 rfl (show decode M_Model_walk.2.1 344 = .ok (.iconst 3, 1) by decide +kernel) (v := 3) rfl ?_
                  exact V_sub [0, 1] rfl (hJ345 (3 : Int32) x2_2 (SR σ h0 0) (b && cK σ h0 13) σ)
                · skip
                  refine V_iconst 341 rfl (show decode M_Model_walk.2.1 340 = .ok (.iconst 2, 1) by decide +kernel) (v := 2) rfl ?_
                  refine V_goto 345 (show decode M_Model_walk.2.1 341 = .ok (.goto 4, 3) by decide +kernel) rfl ?_
                  exact V_sub [0, 1] rfl (hJ345 (2 : Int32) x2_2 (SR σ h0 0) (b && cK σ h0 13) σ)
            · skip
              refine V_ifne 313 330 rfl (show decode M_Model_walk.2.1 310 = .ok (.ifCond .ne 20, 3) by decide +kernel) rfl ?_ ?_
              · skip
                refine V_aload_n 314 rfl (show decode M_Model_walk.2.1 313 = .ok (.aload_n 0, 1) by decide +kernel) 1 rfl ?_
                refine V_get (j := 0) (v := vR (SR σ_11 h0 0)) 317 rfl ck_Model (by decide) (by decide) (show decode M_Model_walk.2.1 314 = .ok (.getfield 7, 3) by decide +kernel) wd_1504 rfl ?_
                refine V_iload_n 318 rfl (show decode M_Model_walk.2.1 317 = .ok (.iload_n 2, 1) by decide +kernel) 3 rfl ?_
                refine V_iconst 319 rfl (show decode M_Model_walk.2.1 318 = .ok (.iconst 1, 1) by decide +kernel) (v := 1) rfl ?_
                refine V_iadd 320 rfl (show decode M_Model_walk.2.1 319 = .ok (.iadd, 1) by decide +kernel) ?_
                refine V_ald_int 321 rfl (show decode M_Model_walk.2.1 320 = .ok (.iaload, 1) by decide +kernel) ?_
                refine V_aload_n 322 rfl (show decode M_Model_walk.2.1 321 = .ok (.aload_n 0, 1) by decide +kernel) 1 rfl ?_
                refine V_get (j := 0) (v := vR (SR σ_11 h0 0)) 325 rfl ck_Model (by decide) (by decide) (show decode M_Model_walk.2.1 322 = .ok (.getfield 7, 3) by decide +kernel) wd_1504 rfl ?_
                refine V_iconst 326 rfl (show decode M_Model_walk.2.1 325 = .ok (.iconst 1, 1) by decide +kernel) (v := 1) rfl ?_
                refine V_ald_int 327 rfl (show decode M_Model_walk.2.1 326 = .ok (.iaload, 1) by decide +kernel) ?_
                refine V_icmpne 330 352 rfl (show decode M_Model_walk.2.1 327 = .ok (.if_icmp .ne 25, 3) by decide +kernel) rfl ?_ ?_
                · skip
                  exact V_sub [1, 2, 3, 0] rfl (hJ330 ((((b_11 && cK σ_11 h0 13) && cA σ_11 (SR σ_11 h0 0) 21 (x2_2 + (1 : Int32))) && cK σ_11 h0 13) && cA σ_11 (SR σ_11 h0 0) 21 (1 : Int32)) σ_11)
                · skip
                  exact V_vret rfl (by decide) (by decide) (show decode M_Model_walk.2.1 352 = .ok (.return_, 1) by decide +kernel)
              · skip
                exact V_sub [1, 2, 3, 0] rfl (hJ330 b_11 σ_11)
          · skip
            refine V_icmple 294 298 rfl (show decode M_Model_walk.2.1 291 = .ok (.if_icmp .le 7, 3) by decide +kernel) rfl ?_ ?_
            · skip
              refine V_iconst 295 rfl (show decode M_Model_walk.2.1 294 = .ok (.iconst 1, 1) by decide +kernel) (v := 1) rfl ?_
              refine V_goto 299 (show decode M_Model_walk.2.1 295 = .ok (.goto 4, 3) by decide +kernel) rfl ?_
              exact V_sub [0, 1, 2] rfl (hJ299 (1 : Int32) (SI σ_9 (SR σ_9 h0 0) (ix (x2_2 + (5 : Int32)))) (x2_2 + (5 : Int32)) (SR σ_9 h0 0) (((((((b && cA σ s2_263 21 s1_263) && cK σ_9 h0 13) && cA σ_9 (SR σ_9 h0 0) 21 (x2_2 + (5 : Int32))) && cK σ_9 h0 13) && cA σ_9 (SR σ_9 h0 0) 21 (x2_2 + (6 : Int32))) && cK σ_9 h0 13) && cA σ_9 (SR σ_9 h0 0) 21 (x2_2 + (18 : Int32))) σ_9)
            · skip
              refine V_iconst 299 rfl (show decode M_Model_walk.2.1 298 = .ok (.iconst 0, 1) by decide +kernel) (v := 0) rfl ?_
              exact V_sub [0, 1, 2] rfl (hJ299 (0 : Int32) (SI σ_9 (SR σ_9 h0 0) (ix (x2_2 + (5 : Int32)))) (x2_2 + (5 : Int32)) (SR σ_9 h0 0) (((((((b && cA σ s2_263 21 s1_263) && cK σ_9 h0 13) && cA σ_9 (SR σ_9 h0 0) 21 (x2_2 + (5 : Int32))) && cK σ_9 h0 13) && cA σ_9 (SR σ_9 h0 0) 21 (x2_2 + (6 : Int32))) && cK σ_9 h0 13) && cA σ_9 (SR σ_9 h0 0) 21 (x2_2 + (18 : Int32))) σ_9)
        · skip
          refine V_ifne 229 255 rfl (show decode M_Model_walk.2.1 226 = .ok (.ifCond .ne 29, 3) by decide +kernel) rfl ?_ ?_
          · skip
            refine V_bipush 231 rfl (show decode M_Model_walk.2.1 229 = .ok (.bipush 40, 2) by decide +kernel) (v := 40) rfl ?_
            refine V_aload_n 232 rfl (show decode M_Model_walk.2.1 231 = .ok (.aload_n 0, 1) by decide +kernel) 0 rfl ?_
            refine V_get (j := 0) (v := vR (SR σ_8 h0 0)) 235 rfl ck_Model (by decide) (by decide) (show decode M_Model_walk.2.1 232 = .ok (.getfield 7, 3) by decide +kernel) wd_1504 rfl ?_
            refine V_iload_n 236 rfl (show decode M_Model_walk.2.1 235 = .ok (.iload_n 2, 1) by decide +kernel) 2 rfl ?_
            refine V_iconst 237 rfl (show decode M_Model_walk.2.1 236 = .ok (.iconst 2, 1) by decide +kernel) (v := 2) rfl ?_
            refine V_iadd 238 rfl (show decode M_Model_walk.2.1 237 = .ok (.iadd, 1) by decide +kernel) ?_
            refine V_ald_int 239 rfl (show decode M_Model_walk.2.1 238 = .ok (.iaload, 1) by decide +kernel) ?_
            refine V_aload_n 240 rfl (show decode M_Model_walk.2.1 239 = .ok (.aload_n 0, 1) by decide +kernel) 0 rfl ?_
            refine V_get (j := 0) (v := vR (SR σ_8 h0 0)) 243 rfl ck_Model (by decide) (by decide) (show decode M_Model_walk.2.1 240 = .ok (.getfield 7, 3) by decide +kernel) wd_1504 rfl ?_
            refine V_iload_n 244 rfl (show decode M_Model_walk.2.1 243 = .ok (.iload_n 2, 1) by decide +kernel) 2 rfl ?_
            refine V_bipush 246 rfl (show decode M_Model_walk.2.1 244 = .ok (.bipush 16, 2) by decide +kernel) (v := 16) rfl ?_
            refine V_iadd 247 rfl (show decode M_Model_walk.2.1 246 = .ok (.iadd, 1) by decide +kernel) ?_
            refine V_ald_int 248 rfl (show decode M_Model_walk.2.1 247 = .ok (.iaload, 1) by decide +kernel) ?_
            refine V_iadd 249 rfl (show decode M_Model_walk.2.1 248 = .ok (.iadd, 1) by decide +kernel) ?_
            refine V_callS (tb := tI) (as := [vI (40 : Int32), vI ((SI σ_8 (SR σ_8 h0 0) (ix (x2_2 + (2 : Int32)))) + (SI σ_8 (SR σ_8 h0 0) (ix (x2_2 + (16 : Int32)))))]) (rest := [vI (x2_2 + (2 : Int32)), vR (SR σ_8 h0 0)]) (na := 2) 252 rfl (s_Model_least (40 : Int32) ((SI σ_8 (SR σ_8 h0 0) (ix (x2_2 + (2 : Int32)))) + (SI σ_8 (SR σ_8 h0 0) (ix (x2_2 + (16 : Int32))))) ((((((((((((b && cA σ s3_192 21 s2_192) && cK σ_7 h0 13) && cA σ_7 (SR σ_7 h0 0) 21 (x2_2 + (7 : Int32))) && cA σ_7 (SR σ_7 h0 0) 21 (x2_2 + (7 : Int32))) && cK σ_8 h0 13) && cK σ_8 h0 13) && cA σ_8 (SR σ_8 h0 0) 21 (x2_2 + (7 : Int32))) && !decide ((7 : Int32) = 0)) && cK σ_8 h0 13) && cA σ_8 (SR σ_8 h0 0) 21 (x2_2 + (2 : Int32))) && cK σ_8 h0 13) && cA σ_8 (SR σ_8 h0 0) 21 (x2_2 + (16 : Int32))) σ_8) rfl rfl (Nat.le_of_ble_eq_true rfl) (cal_Model_least _ _ _ _ _ (by decide) (by decide) (by decide)) (show decode M_Model_walk.2.1 249 = .ok (.invokestatic 273, 3) by decide +kernel) wd_1866 wd_1867 (fun r_15 b_15 σ_15 => ?_)
            show V M_Model_walk 5 0 0 0 0 tU _ 252 [(0, vR h0), (1, vI x1), (2, vI x2_2)] [vI r_15, vI (x2_2 + (2 : Int32)), vR (SR σ_8 h0 0)] b_15 σ_15
            refine V_goto 263 (show decode M_Model_walk.2.1 252 = .ok (.goto 11, 3) by decide +kernel) rfl ?_
            exact V_sub [0, 1, 2] rfl (hJ263 r_15 (x2_2 + (2 : Int32)) (SR σ_8 h0 0) b_15 σ_15)
          · skip
            refine V_aload_n 256 rfl (show decode M_Model_walk.2.1 255 = .ok (.aload_n 0, 1) by decide +kernel) 0 rfl ?_
            refine V_get (j := 0) (v := vR (SR σ_8 h0 0)) 259 rfl ck_Model (by decide) (by decide) (show decode M_Model_walk.2.1 256 = .ok (.getfield 7, 3) by decide +kernel) wd_1504 rfl ?_
            refine V_iload_n 260 rfl (show decode M_Model_walk.2.1 259 = .ok (.iload_n 2, 1) by decide +kernel) 2 rfl ?_
            refine V_iconst 261 rfl (show decode M_Model_walk.2.1 260 = .ok (.iconst 2, 1) by decide +kernel) (v := 2) rfl ?_
            refine V_iadd 262 rfl (show decode M_Model_walk.2.1 261 = .ok (.iadd, 1) by decide +kernel) ?_
            refine V_ald_int 263 rfl (show decode M_Model_walk.2.1 262 = .ok (.iaload, 1) by decide +kernel) ?_
            exact V_sub [0, 1, 2] rfl (hJ263 (SI σ_8 (SR σ_8 h0 0) (ix (x2_2 + (2 : Int32)))) (x2_2 + (2 : Int32)) (SR σ_8 h0 0) ((((((((((b && cA σ s3_192 21 s2_192) && cK σ_7 h0 13) && cA σ_7 (SR σ_7 h0 0) 21 (x2_2 + (7 : Int32))) && cA σ_7 (SR σ_7 h0 0) 21 (x2_2 + (7 : Int32))) && cK σ_8 h0 13) && cK σ_8 h0 13) && cA σ_8 (SR σ_8 h0 0) 21 (x2_2 + (7 : Int32))) && !decide ((7 : Int32) = 0)) && cK σ_8 h0 13) && cA σ_8 (SR σ_8 h0 0) 21 (x2_2 + (2 : Int32))) σ_8)
      · skip
        refine V_ifle 187 191 rfl (show decode M_Model_walk.2.1 184 = .ok (.ifCond .le 7, 3) by decide +kernel) rfl ?_ ?_
        · skip
          refine V_iconst 188 rfl (show decode M_Model_walk.2.1 187 = .ok (.iconst 1, 1) by decide +kernel) (v := 1) rfl ?_
          refine V_goto 192 (show decode M_Model_walk.2.1 188 = .ok (.goto 4, 3) by decide +kernel) rfl ?_
          exact V_sub [0, 1, 2] rfl (hJ192 (1 : Int32) (SI σ_6 (SR σ_6 h0 0) (ix (x2_2 + (3 : Int32)))) (x2_2 + (3 : Int32)) (SR σ_6 h0 0) (((((b && cA σ s2_166 21 s1_166) && cK σ_6 h0 13) && cA σ_6 (SR σ_6 h0 0) 21 (x2_2 + (3 : Int32))) && cK σ_6 h0 13) && cA σ_6 (SR σ_6 h0 0) 21 (x2_2 + (3 : Int32))) σ_6)
        · skip
          refine V_iconst 192 rfl (show decode M_Model_walk.2.1 191 = .ok (.iconst 0, 1) by decide +kernel) (v := 0) rfl ?_
          exact V_sub [0, 1, 2] rfl (hJ192 (0 : Int32) (SI σ_6 (SR σ_6 h0 0) (ix (x2_2 + (3 : Int32)))) (x2_2 + (3 : Int32)) (SR σ_6 h0 0) (((((b && cA σ s2_166 21 s1_166) && cK σ_6 h0 13) && cA σ_6 (SR σ_6 h0 0) 21 (x2_2 + (3 : Int32))) && cK σ_6 h0 13) && cA σ_6 (SR σ_6 h0 0) 21 (x2_2 + (3 : Int32))) σ_6)
    · skip
      refine V_ifne 152 165 rfl (show decode M_Model_walk.2.1 149 = .ok (.ifCond .ne 16, 3) by decide +kernel) rfl ?_ ?_
      · skip
        refine V_aload_n 153 rfl (show decode M_Model_walk.2.1 152 = .ok (.aload_n 0, 1) by decide +kernel) 0 rfl ?_
        refine V_get (j := 0) (v := vR (SR σ h0 0)) 156 rfl ck_Model (by decide) (by decide) (show decode M_Model_walk.2.1 153 = .ok (.getfield 7, 3) by decide +kernel) wd_1504 rfl ?_
        refine V_iload_n 157 rfl (show decode M_Model_walk.2.1 156 = .ok (.iload_n 2, 1) by decide +kernel) 2 rfl ?_
        refine V_iconst 158 rfl (show decode M_Model_walk.2.1 157 = .ok (.iconst 4, 1) by decide +kernel) (v := 4) rfl ?_
        refine V_iadd 159 rfl (show decode M_Model_walk.2.1 158 = .ok (.iadd, 1) by decide +kernel) ?_
        refine V_ald_int 160 rfl (show decode M_Model_walk.2.1 159 = .ok (.iaload, 1) by decide +kernel) ?_
        refine V_iconst 161 rfl (show decode M_Model_walk.2.1 160 = .ok (.iconst 1, 1) by decide +kernel) (v := 1) rfl ?_
        refine V_iadd 162 rfl (show decode M_Model_walk.2.1 161 = .ok (.iadd, 1) by decide +kernel) ?_
        refine V_goto 166 (show decode M_Model_walk.2.1 162 = .ok (.goto 4, 3) by decide +kernel) rfl ?_
        exact V_sub [0, 1, 2] rfl (hJ166 ((SI σ (SR σ h0 0) (ix (x2_2 + (4 : Int32)))) + (1 : Int32)) (x2_2 + (4 : Int32)) (SR σ h0 0) (((((b && cK σ h0 13) && cK σ h0 13) && cA σ (SR σ h0 0) 21 (x2_2 + (3 : Int32))) && cK σ h0 13) && cA σ (SR σ h0 0) 21 (x2_2 + (4 : Int32))) σ)
      · skip
        refine V_iconst 166 rfl (show decode M_Model_walk.2.1 165 = .ok (.iconst 0, 1) by decide +kernel) (v := 0) rfl ?_
        exact V_sub [0, 1, 2] rfl (hJ166 (0 : Int32) (x2_2 + (4 : Int32)) (SR σ h0 0) (((b && cK σ h0 13) && cK σ h0 13) && cA σ (SR σ h0 0) 21 (x2_2 + (3 : Int32))) σ)
  · skip
    refine V_jn (fun (J83 : Bool → Sto → Rs Unit) => ∀ (b : Bool) (σ : Sto), V M_Model_walk 5 0 0 0 0 tU (J83 b σ) 83 [(0, vR h0), (1, vI x1), (2, vI x2_2), (3, vI x3_3)] [] b σ) ?_ (fun J83 hJ83 => ?_)
    · intro b σ
      refine V_aload_n 84 rfl (show decode M_Model_walk.2.1 83 = .ok (.aload_n 0, 1) by decide +kernel) 0 rfl ?_
      refine V_iload_n 85 rfl (show decode M_Model_walk.2.1 84 = .ok (.iload_n 1, 1) by decide +kernel) 1 rfl ?_
      refine V_callV (tb := tI) (as := [vI x1]) (rest := []) (na := 1) 88 rfl ck_Model (by decide) (s_Model_bound h0 x1 (b && cK σ h0 13) σ) rfl rfl (Nat.le_of_ble_eq_true rfl) (cal_Model_bound _ _ _ _ _ (by decide) (by decide) (by decide)) (show decode M_Model_walk.2.1 85 = .ok (.invokevirtual 297, 3) by decide +kernel) wd_1922 wd_1924 wd_155 (fun r_16 b_16 σ_16 => ?_)
      show V M_Model_walk 5 0 0 0 0 tU _ 88 [(0, vR h0), (1, vI x1), (2, vI x2_2), (3, vI x3_3)] [vI r_16] b_16 σ_16
      refine V_iload_n 89 rfl (show decode M_Model_walk.2.1 88 = .ok (.iload_n 3, 1) by decide +kernel) 3 rfl ?_
      refine V_aload_n 90 rfl (show decode M_Model_walk.2.1 89 = .ok (.aload_n 0, 1) by decide +kernel) 0 rfl ?_
      refine V_get (j := 0) (v := vR (SR σ_16 h0 0)) 93 rfl ck_Model (by decide) (by decide) (show decode M_Model_walk.2.1 90 = .ok (.getfield 7, 3) by decide +kernel) wd_1504 rfl ?_
      refine V_iload_n 94 rfl (show decode M_Model_walk.2.1 93 = .ok (.iload_n 2, 1) by decide +kernel) 2 rfl ?_
      refine V_iconst 95 rfl (show decode M_Model_walk.2.1 94 = .ok (.iconst 3, 1) by decide +kernel) (v := 3) rfl ?_
      refine V_iadd 96 rfl (show decode M_Model_walk.2.1 95 = .ok (.iadd, 1) by decide +kernel) ?_
      refine V_ald_int 97 rfl (show decode M_Model_walk.2.1 96 = .ok (.iaload, 1) by decide +kernel) ?_
      refine V_jn (fun (J121 : Int32 → Int32 → Int32 → Bool → Sto → Rs Unit) => ∀ (s0_121 : Int32) (s1_121 : Int32) (s2_121 : Int32) (b : Bool) (σ : Sto), V M_Model_walk 5 0 0 0 0 tU (J121 s0_121 s1_121 s2_121 b σ) 121 [(0, vR h0), (1, vI x1), (2, vI x2_2)] [vI s0_121, vI s1_121, vI s2_121] b σ) ?_ (fun J121 hJ121 => ?_)
      · intro s0_121 s1_121 s2_121 b σ
        refine V_iadd 122 rfl (show decode M_Model_walk.2.1 121 = .ok (.iadd, 1) by decide +kernel) ?_
        refine V_callS (tb := tI) (as := [vI s2_121, vI (s1_121 + s0_121)]) (rest := []) (na := 2) 125 rfl (s_Model_least s2_121 (s1_121 + s0_121) b σ) rfl rfl (Nat.le_of_ble_eq_true rfl) (cal_Model_least _ _ _ _ _ (by decide) (by decide) (by decide)) (show decode M_Model_walk.2.1 122 = .ok (.invokestatic 273, 3) by decide +kernel) wd_1866 wd_1867 (fun r_17 b_17 σ_17 => ?_)
        show V M_Model_walk 5 0 0 0 0 tU _ 125 [(0, vR h0), (1, vI x1), (2, vI x2_2)] [vI r_17] b_17 σ_17
        refine V_istore (fun x5_18 => [(5, vI x5_18), (0, vR h0), (1, vI x1), (2, vI x2_2)]) 127 rfl (show decode M_Model_walk.2.1 125 = .ok (.istore 5, 2) by decide +kernel) (by decide) (fun _ => rfl) (fun x5_18 => ?_)
        refine V_aload_n 128 rfl (show decode M_Model_walk.2.1 127 = .ok (.aload_n 0, 1) by decide +kernel) 1 rfl ?_
        refine V_iload_n 129 rfl (show decode M_Model_walk.2.1 128 = .ok (.iload_n 1, 1) by decide +kernel) 2 rfl ?_
        refine V_iload 131 rfl (show decode M_Model_walk.2.1 129 = .ok (.iload 5, 2) by decide +kernel) 0 rfl ?_
        refine V_callV (tb := tU) (as := [vI x1, vI x5_18]) (rest := []) (na := 2) 134 rfl ck_Model (by decide) (s_Model_goes h0 x1 x5_18 (b_17 && cK σ_17 h0 13) σ_17) rfl rfl (Nat.le_of_ble_eq_true rfl) (cal_Model_goes _ _ _ _ _ (by decide) (by decide) (by decide)) (show decode M_Model_walk.2.1 131 = .ok (.invokevirtual 300, 3) by decide +kernel) wd_1930 wd_1932 wd_157 (fun r_19 b_19 σ_19 => ?_)
        show V M_Model_walk 5 0 0 0 0 tU _ 134 [(5, vI x5_18), (0, vR h0), (1, vI x1), (2, vI x2_2)] [] b_19 σ_19
        exact V_sub [1, 2, 3] rfl (hJ134 b_19 σ_19)
      · skip
        refine V_ifne 100 113 rfl (show decode M_Model_walk.2.1 97 = .ok (.ifCond .ne 16, 3) by decide +kernel) rfl ?_ ?_
        · skip
          refine V_aload_n 101 rfl (show decode M_Model_walk.2.1 100 = .ok (.aload_n 0, 1) by decide +kernel) 0 rfl ?_
          refine V_get (j := 0) (v := vR (SR σ_16 h0 0)) 104 rfl ck_Model (by decide) (by decide) (show decode M_Model_walk.2.1 101 = .ok (.getfield 7, 3) by decide +kernel) wd_1504 rfl ?_
          refine V_iload_n 105 rfl (show decode M_Model_walk.2.1 104 = .ok (.iload_n 2, 1) by decide +kernel) 2 rfl ?_
          refine V_iconst 106 rfl (show decode M_Model_walk.2.1 105 = .ok (.iconst 2, 1) by decide +kernel) (v := 2) rfl ?_
          refine V_iadd 107 rfl (show decode M_Model_walk.2.1 106 = .ok (.iadd, 1) by decide +kernel) ?_
          refine V_ald_int 108 rfl (show decode M_Model_walk.2.1 107 = .ok (.iaload, 1) by decide +kernel) ?_
          refine V_iconst 109 rfl (show decode M_Model_walk.2.1 108 = .ok (.iconst 2, 1) by decide +kernel) (v := 2) rfl ?_
          refine V_idiv 110 rfl (show decode M_Model_walk.2.1 109 = .ok (.idiv, 1) by decide +kernel) ?_
          refine V_goto 121 (show decode M_Model_walk.2.1 110 = .ok (.goto 11, 3) by decide +kernel) rfl ?_
          exact V_sub [0, 1, 2] rfl (hJ121 ((SI σ_16 (SR σ_16 h0 0) (ix (x2_2 + (2 : Int32)))) / (2 : Int32)) x3_3 r_16 (((((b_16 && cK σ_16 h0 13) && cA σ_16 (SR σ_16 h0 0) 21 (x2_2 + (3 : Int32))) && cK σ_16 h0 13) && cA σ_16 (SR σ_16 h0 0) 21 (x2_2 + (2 : Int32))) && !decide ((2 : Int32) = 0)) σ_16)
        · skip
          refine V_aload_n 114 rfl (show decode M_Model_walk.2.1 113 = .ok (.aload_n 0, 1) by decide +kernel) 0 rfl ?_
          refine V_get (j := 0) (v := vR (SR σ_16 h0 0)) 117 rfl ck_Model (by decide) (by decide) (show decode M_Model_walk.2.1 114 = .ok (.getfield 7, 3) by decide +kernel) wd_1504 rfl ?_
          refine V_iload_n 118 rfl (show decode M_Model_walk.2.1 117 = .ok (.iload_n 2, 1) by decide +kernel) 2 rfl ?_
          refine V_iconst 119 rfl (show decode M_Model_walk.2.1 118 = .ok (.iconst 2, 1) by decide +kernel) (v := 2) rfl ?_
          refine V_iadd 120 rfl (show decode M_Model_walk.2.1 119 = .ok (.iadd, 1) by decide +kernel) ?_
          refine V_ald_int 121 rfl (show decode M_Model_walk.2.1 120 = .ok (.iaload, 1) by decide +kernel) ?_
          exact V_sub [0, 1, 2] rfl (hJ121 (SI σ_16 (SR σ_16 h0 0) (ix (x2_2 + (2 : Int32)))) x3_3 r_16 ((((b_16 && cK σ_16 h0 13) && cA σ_16 (SR σ_16 h0 0) 21 (x2_2 + (3 : Int32))) && cK σ_16 h0 13) && cA σ_16 (SR σ_16 h0 0) 21 (x2_2 + (2 : Int32))) σ_16)
    · skip
      refine V_ifle 27 83 rfl (show decode M_Model_walk.2.1 24 = .ok (.ifCond .le 59, 3) by decide +kernel) rfl ?_ ?_
      · skip
        refine V_aload_n 28 rfl (show decode M_Model_walk.2.1 27 = .ok (.aload_n 0, 1) by decide +kernel) 3 rfl ?_
        refine V_iload_n 29 rfl (show decode M_Model_walk.2.1 28 = .ok (.iload_n 3, 1) by decide +kernel) 1 rfl ?_
        refine V_iload 31 rfl (show decode M_Model_walk.2.1 29 = .ok (.iload 4, 2) by decide +kernel) 0 rfl ?_
        refine V_aload_n 32 rfl (show decode M_Model_walk.2.1 31 = .ok (.aload_n 0, 1) by decide +kernel) 3 rfl ?_
        refine V_get (j := 0) (v := vR (SR σ_4 h0 0)) 35 rfl ck_Model (by decide) (by decide) (show decode M_Model_walk.2.1 32 = .ok (.getfield 7, 3) by decide +kernel) wd_1504 rfl ?_
        refine V_iload_n 36 rfl (show decode M_Model_walk.2.1 35 = .ok (.iload_n 2, 1) by decide +kernel) 2 rfl ?_
        refine V_iconst 37 rfl (show decode M_Model_walk.2.1 36 = .ok (.iconst 3, 1) by decide +kernel) (v := 3) rfl ?_
        refine V_iadd 38 rfl (show decode M_Model_walk.2.1 37 = .ok (.iadd, 1) by decide +kernel) ?_
        refine V_ald_int 39 rfl (show decode M_Model_walk.2.1 38 = .ok (.iaload, 1) by decide +kernel) ?_
        refine V_callV (tb := tI) (as := [vI x3_3, vI x4_5, vI (SI σ_4 (SR σ_4 h0 0) (ix (x2_2 + (3 : Int32))))]) (rest := []) (na := 3) 42 rfl ck_Model (by decide) (s_Model_skips h0 x3_3 x4_5 (SI σ_4 (SR σ_4 h0 0) (ix (x2_2 + (3 : Int32)))) (((b_4 && cK σ_4 h0 13) && cA σ_4 (SR σ_4 h0 0) 21 (x2_2 + (3 : Int32))) && cK σ_4 h0 13) σ_4) rfl rfl (Nat.le_of_ble_eq_true rfl) (cal_Model_skips _ _ _ _ _ (by decide) (by decide) (by decide)) (show decode M_Model_walk.2.1 39 = .ok (.invokevirtual 293, 3) by decide +kernel) wd_1911 wd_1913 wd_153 (fun r_20 b_20 σ_20 => ?_)
        show V M_Model_walk 5 0 0 0 0 tU _ 42 [(4, vI x4_5), (3, vI x3_3), (2, vI x2_2), (0, vR h0), (1, vI x1)] [vI r_20] b_20 σ_20
        refine V_ifeq 45 83 rfl (show decode M_Model_walk.2.1 42 = .ok (.ifCond .eq 41, 3) by decide +kernel) rfl ?_ ?_
        · skip
          exact V_sub [3, 4, 2, 1] rfl (hJ83 b_20 σ_20)
        · skip
          refine V_aload_n 46 rfl (show decode M_Model_walk.2.1 45 = .ok (.aload_n 0, 1) by decide +kernel) 3 rfl ?_
          refine V_get (j := 0) (v := vR (SR σ_20 h0 0)) 49 rfl ck_Model (by decide) (by decide) (show decode M_Model_walk.2.1 46 = .ok (.getfield 7, 3) by decide +kernel) wd_1504 rfl ?_
          refine V_iload_n 50 rfl (show decode M_Model_walk.2.1 49 = .ok (.iload_n 2, 1) by decide +kernel) 2 rfl ?_
          refine V_bipush 52 rfl (show decode M_Model_walk.2.1 50 = .ok (.bipush 13, 2) by decide +kernel) (v := 13) rfl ?_
          refine V_iadd 53 rfl (show decode M_Model_walk.2.1 52 = .ok (.iadd, 1) by decide +kernel) ?_
          refine V_dup2 54 rfl (show decode M_Model_walk.2.1 53 = .ok (.dup2, 1) by decide +kernel) rfl rfl ?_
          refine V_ald_int 55 rfl (show decode M_Model_walk.2.1 54 = .ok (.iaload, 1) by decide +kernel) ?_
          refine V_iload 57 rfl (show decode M_Model_walk.2.1 55 = .ok (.iload 4, 2) by decide +kernel) 0 rfl ?_
          refine V_iadd 58 rfl (show decode M_Model_walk.2.1 57 = .ok (.iadd, 1) by decide +kernel) ?_
          refine V_ast_int 59 rfl (show decode M_Model_walk.2.1 58 = .ok (.iastore, 1) by decide +kernel) (fun σ_21 => ?_)
          refine V_aload_n 60 rfl (show decode M_Model_walk.2.1 59 = .ok (.aload_n 0, 1) by decide +kernel) 3 rfl ?_
          refine V_get (j := 0) (v := vR (SR σ_21 h0 0)) 63 rfl ck_Model (by decide) (by decide) (show decode M_Model_walk.2.1 60 = .ok (.getfield 7, 3) by decide +kernel) wd_1504 rfl ?_
          refine V_iload_n 64 rfl (show decode M_Model_walk.2.1 63 = .ok (.iload_n 2, 1) by decide +kernel) 2 rfl ?_
          refine V_iconst 65 rfl (show decode M_Model_walk.2.1 64 = .ok (.iconst 1, 1) by decide +kernel) (v := 1) rfl ?_
          refine V_iadd 66 rfl (show decode M_Model_walk.2.1 65 = .ok (.iadd, 1) by decide +kernel) ?_
          refine V_aload_n 67 rfl (show decode M_Model_walk.2.1 66 = .ok (.aload_n 0, 1) by decide +kernel) 3 rfl ?_
          refine V_get (j := 0) (v := vR (SR σ_21 h0 0)) 70 rfl ck_Model (by decide) (by decide) (show decode M_Model_walk.2.1 67 = .ok (.getfield 7, 3) by decide +kernel) wd_1504 rfl ?_
          refine V_iconst 71 rfl (show decode M_Model_walk.2.1 70 = .ok (.iconst 1, 1) by decide +kernel) (v := 1) rfl ?_
          refine V_ald_int 72 rfl (show decode M_Model_walk.2.1 71 = .ok (.iaload, 1) by decide +kernel) ?_
          refine V_iload_n 73 rfl (show decode M_Model_walk.2.1 72 = .ok (.iload_n 3, 1) by decide +kernel) 1 rfl ?_
          refine V_iload 75 rfl (show decode M_Model_walk.2.1 73 = .ok (.iload 4, 2) by decide +kernel) 0 rfl ?_
          refine V_iadd 76 rfl (show decode M_Model_walk.2.1 75 = .ok (.iadd, 1) by decide +kernel) ?_
          refine V_callS (tb := tI) (as := [vI (SI σ_21 (SR σ_21 h0 0) (ix (1 : Int32))), vI (x3_3 + x4_5)]) (rest := [vI (x2_2 + (1 : Int32)), vR (SR σ_21 h0 0)]) (na := 2) 79 rfl (s_Model_least (SI σ_21 (SR σ_21 h0 0) (ix (1 : Int32))) (x3_3 + x4_5) ((((((b_20 && cK σ_20 h0 13) && cA σ_20 (SR σ_20 h0 0) 21 (x2_2 + (13 : Int32))) && cA σ_20 (SR σ_20 h0 0) 21 (x2_2 + (13 : Int32))) && cK σ_21 h0 13) && cK σ_21 h0 13) && cA σ_21 (SR σ_21 h0 0) 21 (1 : Int32)) σ_21) rfl rfl (Nat.le_of_ble_eq_true rfl) (cal_Model_least _ _ _ _ _ (by decide) (by decide) (by decide)) (show decode M_Model_walk.2.1 76 = .ok (.invokestatic 273, 3) by decide +kernel) wd_1866 wd_1867 (fun r_22 b_22 σ_22 => ?_)
          show V M_Model_walk 5 0 0 0 0 tU _ 79 [(4, vI x4_5), (3, vI x3_3), (2, vI x2_2), (0, vR h0), (1, vI x1)] [vI r_22, vI (x2_2 + (1 : Int32)), vR (SR σ_21 h0 0)] b_22 σ_22
          refine V_ast_int 80 rfl (show decode M_Model_walk.2.1 79 = .ok (.iastore, 1) by decide +kernel) (fun σ_23 => ?_)
          refine V_goto 134 (show decode M_Model_walk.2.1 80 = .ok (.goto 54, 3) by decide +kernel) rfl ?_
          exact V_sub [3, 4, 2] rfl (hJ134 (b_22 && cA σ_22 (SR σ_21 h0 0) 21 (x2_2 + (1 : Int32))) σ_23)
      · skip
        exact V_sub [3, 4, 2, 1] rfl (hJ83 b_4 σ_4)
theorem cal_Model_walk (d mc ms k n : Nat) (h1 : 5 + 1 ≤ d) (h2 : k + 0 ≤ mc) (h3 : n + 0 ≤ ms) : Cal M_Model_walk 5 0 0 1 d mc ms k n := ⟨wd_1906, wd_181, by decide, h1, by decide, h2, h3⟩
abbrev M_Model_walkerDay : MD := (⟨"LongTrailModel", "walkerDay", "(I)V"⟩, prog_14_method_77_code, 3, (none : Option FieldType))
def f_Model_walkerDay (h0 : Nat) (x1 : Int32) (b : Bool) (σ : Sto) : Rs Unit := (bd_ (f_Model_walkerAt h0 x1 (b && cK σ h0 13) σ) (fun (r_1 : Int32) (b_1 : Bool) (σ_1 : Sto) => (lt_ r_1 (fun (x2_2 : Int32) => (if 0 < (SI σ_1 (SR σ_1 h0 0) (ix (x2_2 + (9 : Int32)))) then (lt_ (pI σ_1 (SR σ_1 h0 0) (ix (x2_2 + (9 : Int32))) ((SI σ_1 (SR σ_1 h0 0) (ix (x2_2 + (9 : Int32)))) - (1 : Int32))) (fun (σ_3 : Sto) => ((), (((((b_1 && cK σ_1 h0 13) && cA σ_1 (SR σ_1 h0 0) 21 (x2_2 + (9 : Int32))) && cK σ_1 h0 13) && cA σ_1 (SR σ_1 h0 0) 21 (x2_2 + (9 : Int32))) && cA σ_1 (SR σ_1 h0 0) 21 (x2_2 + (9 : Int32))), σ_3))) else (bd_ (f_Model_isHeld h0 x1 (((b_1 && cK σ_1 h0 13) && cA σ_1 (SR σ_1 h0 0) 21 (x2_2 + (9 : Int32))) && cK σ_1 h0 13) σ_1) (fun (r_4 : Int32) (b_4 : Bool) (σ_4 : Sto) => (if r_4 = 0 then (lt_ (pI σ_4 (SR σ_4 h0 0) (ix (x2_2 + (10 : Int32))) (0 : Int32)) (fun (σ_5 : Sto) => (bd_ (f_Model_walk h0 x1 (((b_4 && cK σ_4 h0 13) && cA σ_4 (SR σ_4 h0 0) 21 (x2_2 + (10 : Int32))) && cK σ_5 h0 13) σ_5) (fun (r_6 : Unit) (b_6 : Bool) (σ_6 : Sto) => ((), b_6, σ_6))))) else ((), b_4, σ_4)))))))))
set_option maxRecDepth 100000 in
set_option maxHeartbeats 4000000 in
theorem s_Model_walkerDay : ∀ (h0 : Nat) (x1 : Int32) (b : Bool) (σ : Sto), Snd M_Model_walkerDay 6 0 0 [vR h0, vI x1] b σ (tU (f_Model_walkerDay h0 x1 b σ).1) (f_Model_walkerDay h0 x1 b σ).2.1 (f_Model_walkerDay h0 x1 b σ).2.2 := by
  intro h0 x1 b σ
  refine Snd_of (tv := tU) (by decide) (Nat.le_of_ble_eq_true rfl) ?_
  show V M_Model_walkerDay 6 0 0 0 0 tU (f_Model_walkerDay h0 x1 b σ) 0 [(0, vR h0), (1, vI x1)] [] b σ
  unfold f_Model_walkerDay
  refine V_aload_n 1 rfl (show decode M_Model_walkerDay.2.1 0 = .ok (.aload_n 0, 1) by decide +kernel) 0 rfl ?_
  refine V_iload_n 2 rfl (show decode M_Model_walkerDay.2.1 1 = .ok (.iload_n 1, 1) by decide +kernel) 1 rfl ?_
  refine V_callV (tb := tI) (as := [vI x1]) (rest := []) (na := 1) 5 rfl ck_Model (by decide) (s_Model_walkerAt h0 x1 (b && cK σ h0 13) σ) rfl rfl (Nat.le_of_ble_eq_true rfl) (cal_Model_walkerAt _ _ _ _ _ (by decide) (by decide) (by decide)) (show decode M_Model_walkerDay.2.1 2 = .ok (.invokevirtual 84, 3) by decide +kernel) wd_1673 wd_1675 wd_121 (fun r_1 b_1 σ_1 => ?_)
  show V M_Model_walkerDay 6 0 0 0 0 tU _ 5 [(0, vR h0), (1, vI x1)] [vI r_1] b_1 σ_1
  refine V_istore_n (fun x2_2 => [(2, vI x2_2), (0, vR h0), (1, vI x1)]) 6 rfl (show decode M_Model_walkerDay.2.1 5 = .ok (.istore_n 2, 1) by decide +kernel) (by decide) (fun _ => rfl) (fun x2_2 => ?_)
  refine V_aload_n 7 rfl (show decode M_Model_walkerDay.2.1 6 = .ok (.aload_n 0, 1) by decide +kernel) 1 rfl ?_
  refine V_get (j := 0) (v := vR (SR σ_1 h0 0)) 10 rfl ck_Model (by decide) (by decide) (show decode M_Model_walkerDay.2.1 7 = .ok (.getfield 7, 3) by decide +kernel) wd_1504 rfl ?_
  refine V_iload_n 11 rfl (show decode M_Model_walkerDay.2.1 10 = .ok (.iload_n 2, 1) by decide +kernel) 0 rfl ?_
  refine V_bipush 13 rfl (show decode M_Model_walkerDay.2.1 11 = .ok (.bipush 9, 2) by decide +kernel) (v := 9) rfl ?_
  refine V_iadd 14 rfl (show decode M_Model_walkerDay.2.1 13 = .ok (.iadd, 1) by decide +kernel) ?_
  refine V_ald_int 15 rfl (show decode M_Model_walkerDay.2.1 14 = .ok (.iaload, 1) by decide +kernel) ?_
  refine V_ifle 18 32 rfl (show decode M_Model_walkerDay.2.1 15 = .ok (.ifCond .le 17, 3) by decide +kernel) rfl ?_ ?_
  · skip
    refine V_aload_n 19 rfl (show decode M_Model_walkerDay.2.1 18 = .ok (.aload_n 0, 1) by decide +kernel) 1 rfl ?_
    refine V_get (j := 0) (v := vR (SR σ_1 h0 0)) 22 rfl ck_Model (by decide) (by decide) (show decode M_Model_walkerDay.2.1 19 = .ok (.getfield 7, 3) by decide +kernel) wd_1504 rfl ?_
    refine V_iload_n 23 rfl (show decode M_Model_walkerDay.2.1 22 = .ok (.iload_n 2, 1) by decide +kernel) 0 rfl ?_
    refine V_bipush 25 rfl (show decode M_Model_walkerDay.2.1 23 = .ok (.bipush 9, 2) by decide +kernel) (v := 9) rfl ?_
    refine V_iadd 26 rfl (show decode M_Model_walkerDay.2.1 25 = .ok (.iadd, 1) by decide +kernel) ?_
    refine V_dup2 27 rfl (show decode M_Model_walkerDay.2.1 26 = .ok (.dup2, 1) by decide +kernel) rfl rfl ?_
    refine V_ald_int 28 rfl (show decode M_Model_walkerDay.2.1 27 = .ok (.iaload, 1) by decide +kernel) ?_
    refine V_iconst 29 rfl (show decode M_Model_walkerDay.2.1 28 = .ok (.iconst 1, 1) by decide +kernel) (v := 1) rfl ?_
    refine V_isub 30 rfl (show decode M_Model_walkerDay.2.1 29 = .ok (.isub, 1) by decide +kernel) ?_
    refine V_ast_int 31 rfl (show decode M_Model_walkerDay.2.1 30 = .ok (.iastore, 1) by decide +kernel) (fun σ_3 => ?_)
    exact V_vret rfl (by decide) (by decide) (show decode M_Model_walkerDay.2.1 31 = .ok (.return_, 1) by decide +kernel)
  · skip
    refine V_aload_n 33 rfl (show decode M_Model_walkerDay.2.1 32 = .ok (.aload_n 0, 1) by decide +kernel) 1 rfl ?_
    refine V_iload_n 34 rfl (show decode M_Model_walkerDay.2.1 33 = .ok (.iload_n 1, 1) by decide +kernel) 2 rfl ?_
    refine V_callV (tb := tI) (as := [vI x1]) (rest := []) (na := 1) 37 rfl ck_Model (by decide) (s_Model_isHeld h0 x1 (((b_1 && cK σ_1 h0 13) && cA σ_1 (SR σ_1 h0 0) 21 (x2_2 + (9 : Int32))) && cK σ_1 h0 13) σ_1) rfl rfl (Nat.le_of_ble_eq_true rfl) (cal_Model_isHeld _ _ _ _ _ (by decide) (by decide) (by decide)) (show decode M_Model_walkerDay.2.1 34 = .ok (.invokevirtual 306, 3) by decide +kernel) wd_1895 wd_1897 wd_149 (fun r_4 b_4 σ_4 => ?_)
    show V M_Model_walkerDay 6 0 0 0 0 tU _ 37 [(2, vI x2_2), (0, vR h0), (1, vI x1)] [vI r_4] b_4 σ_4
    refine V_ifne 40 55 rfl (show decode M_Model_walkerDay.2.1 37 = .ok (.ifCond .ne 18, 3) by decide +kernel) rfl ?_ ?_
    · skip
      refine V_aload_n 41 rfl (show decode M_Model_walkerDay.2.1 40 = .ok (.aload_n 0, 1) by decide +kernel) 1 rfl ?_
      refine V_get (j := 0) (v := vR (SR σ_4 h0 0)) 44 rfl ck_Model (by decide) (by decide) (show decode M_Model_walkerDay.2.1 41 = .ok (.getfield 7, 3) by decide +kernel) wd_1504 rfl ?_
      refine V_iload_n 45 rfl (show decode M_Model_walkerDay.2.1 44 = .ok (.iload_n 2, 1) by decide +kernel) 0 rfl ?_
      refine V_bipush 47 rfl (show decode M_Model_walkerDay.2.1 45 = .ok (.bipush 10, 2) by decide +kernel) (v := 10) rfl ?_
      refine V_iadd 48 rfl (show decode M_Model_walkerDay.2.1 47 = .ok (.iadd, 1) by decide +kernel) ?_
      refine V_iconst 49 rfl (show decode M_Model_walkerDay.2.1 48 = .ok (.iconst 0, 1) by decide +kernel) (v := 0) rfl ?_
      refine V_ast_int 50 rfl (show decode M_Model_walkerDay.2.1 49 = .ok (.iastore, 1) by decide +kernel) (fun σ_5 => ?_)
      refine V_aload_n 51 rfl (show decode M_Model_walkerDay.2.1 50 = .ok (.aload_n 0, 1) by decide +kernel) 1 rfl ?_
      refine V_iload_n 52 rfl (show decode M_Model_walkerDay.2.1 51 = .ok (.iload_n 1, 1) by decide +kernel) 2 rfl ?_
      refine V_callV (tb := tU) (as := [vI x1]) (rest := []) (na := 1) 55 rfl ck_Model (by decide) (s_Model_walk h0 x1 (((b_4 && cK σ_4 h0 13) && cA σ_4 (SR σ_4 h0 0) 21 (x2_2 + (10 : Int32))) && cK σ_5 h0 13) σ_5) rfl rfl (Nat.le_of_ble_eq_true rfl) (cal_Model_walk _ _ _ _ _ (by decide) (by decide) (by decide)) (show decode M_Model_walkerDay.2.1 52 = .ok (.invokevirtual 309, 3) by decide +kernel) wd_1903 wd_1905 wd_151 (fun r_6 b_6 σ_6 => ?_)
      show V M_Model_walkerDay 6 0 0 0 0 tU _ 55 [(2, vI x2_2), (0, vR h0), (1, vI x1)] [] b_6 σ_6
      exact V_vret rfl (by decide) (by decide) (show decode M_Model_walkerDay.2.1 55 = .ok (.return_, 1) by decide +kernel)
    · skip
      exact V_vret rfl (by decide) (by decide) (show decode M_Model_walkerDay.2.1 55 = .ok (.return_, 1) by decide +kernel)
theorem cal_Model_walkerDay (d mc ms k n : Nat) (h1 : 6 + 1 ≤ d) (h2 : k + 0 ≤ mc) (h3 : n + 0 ≤ ms) : Cal M_Model_walkerDay 6 0 0 1 d mc ms k n := ⟨wd_1894, wd_181, by decide, h1, by decide, h2, h3⟩
abbrev M_Model_oneDay : MD := (⟨"LongTrailModel", "oneDay", "()V"⟩, prog_14_method_79_code, 3, (none : Option FieldType))
def b_Model_oneDay_77 (h0 : Nat) (L77 : Int32 → Bool → Sto → Rs Unit) (x1 : Int32) (b : Bool) (σ : Sto) : Rs Unit := (if x1 < (SI σ (SR σ h0 0) (ix (5 : Int32))) then (bd_ (f_Model_walks h0 x1 (((b && cK σ h0 13) && cA σ (SR σ h0 0) 21 (5 : Int32)) && cK σ h0 13) σ) (fun (r_8 : Int32) (b_8 : Bool) (σ_8 : Sto) => (lt_ (fun (b : Bool) (σ : Sto) => (lt_ (x1 + (1 : Int32)) (fun (x1_9 : Int32) => (L77 x1_9 b σ)))) (fun J100 => (if r_8 = 0 then (J100 b_8 σ_8) else (bd_ (f_Model_walkerDay h0 x1 (b_8 && cK σ_8 h0 13) σ_8) (fun (r_10 : Unit) (b_10 : Bool) (σ_10 : Sto) => (J100 b_10 σ_10)))))))) else (bd_ (f_Model_night h0 (((b && cK σ h0 13) && cA σ (SR σ h0 0) 21 (5 : Int32)) && cK σ h0 13) σ) (fun (r_11 : Unit) (b_11 : Bool) (σ_11 : Sto) => (lt_ (pI σ_11 (SR σ_11 h0 0) (ix (0 : Int32)) ((SI σ_11 (SR σ_11 h0 0) (ix (0 : Int32))) + (1 : Int32))) (fun (σ_12 : Sto) => ((), (((b_11 && cK σ_11 h0 13) && cA σ_11 (SR σ_11 h0 0) 21 (0 : Int32)) && cA σ_11 (SR σ_11 h0 0) 21 (0 : Int32)), σ_12))))))
def b_Model_oneDay_2 (h0 : Nat) (L2 : Int32 → Bool → Sto → Rs Unit) (x1 : Int32) (b : Bool) (σ : Sto) : Rs Unit := (if x1 < (SI σ (SR σ h0 0) (ix (5 : Int32))) then (bd_ (f_Model_walkerAt h0 x1 (((b && cK σ h0 13) && cA σ (SR σ h0 0) 21 (5 : Int32)) && cK σ h0 13) σ) (fun (r_2 : Int32) (b_2 : Bool) (σ_2 : Sto) => (lt_ r_2 (fun (x2_3 : Int32) => (lt_ (fun (b : Bool) (σ : Sto) => (lt_ (x1 + (1 : Int32)) (fun (x1_4 : Int32) => (L2 x1_4 b σ)))) (fun J69 => (if (SI σ_2 (SR σ_2 h0 0) (ix x2_3)) = 0 then (if (SI σ_2 (SR σ_2 h0 0) (ix (0 : Int32))) < (SI σ_2 (SR σ_2 h0 0) (ix (x2_3 + (15 : Int32)))) then (J69 ((((((b_2 && cK σ_2 h0 13) && cA σ_2 (SR σ_2 h0 0) 21 x2_3) && cK σ_2 h0 13) && cA σ_2 (SR σ_2 h0 0) 21 (x2_3 + (15 : Int32))) && cK σ_2 h0 13) && cA σ_2 (SR σ_2 h0 0) 21 (0 : Int32)) σ_2) else (lt_ (pI σ_2 (SR σ_2 h0 0) (ix x2_3) (1 : Int32)) (fun (σ_5 : Sto) => (lt_ (pI σ_5 (SR σ_5 h0 0) (ix (x2_3 + (3 : Int32))) (SI σ_5 (SR σ_5 h0 0) (ix (x2_3 + (17 : Int32))))) (fun (σ_6 : Sto) => (J69 ((((((((((((b_2 && cK σ_2 h0 13) && cA σ_2 (SR σ_2 h0 0) 21 x2_3) && cK σ_2 h0 13) && cA σ_2 (SR σ_2 h0 0) 21 (x2_3 + (15 : Int32))) && cK σ_2 h0 13) && cA σ_2 (SR σ_2 h0 0) 21 (0 : Int32)) && cK σ_2 h0 13) && cA σ_2 (SR σ_2 h0 0) 21 x2_3) && cK σ_5 h0 13) && cK σ_5 h0 13) && cA σ_5 (SR σ_5 h0 0) 21 (x2_3 + (17 : Int32))) && cA σ_5 (SR σ_5 h0 0) 21 (x2_3 + (3 : Int32))) σ_6)))))) else (J69 ((b_2 && cK σ_2 h0 13) && cA σ_2 (SR σ_2 h0 0) 21 x2_3) σ_2)))))))) else (lt_ (0 : Int32) (fun (x1_7 : Int32) => (lp_ (b_Model_oneDay_77 h0) (fun (x1 : Int32) (b : Bool) (σ : Sto) => ((), false, σ)) fuel_ x1_7 ((b && cK σ h0 13) && cA σ (SR σ h0 0) 21 (5 : Int32)) σ))))
def f_Model_oneDay (h0 : Nat) (b : Bool) (σ : Sto) : Rs Unit := (lt_ (0 : Int32) (fun (x1_1 : Int32) => (lp_ (b_Model_oneDay_2 h0) (fun (x1 : Int32) (b : Bool) (σ : Sto) => ((), false, σ)) fuel_ x1_1 b σ)))
set_option maxRecDepth 100000 in
set_option maxHeartbeats 4000000 in
theorem s_Model_oneDay : ∀ (h0 : Nat) (b : Bool) (σ : Sto), Snd M_Model_oneDay 7 0 0 [vR h0] b σ (tU (f_Model_oneDay h0 b σ).1) (f_Model_oneDay h0 b σ).2.1 (f_Model_oneDay h0 b σ).2.2 := by
  intro h0 b σ
  refine Snd_of (tv := tU) (by decide) (Nat.le_of_ble_eq_true rfl) ?_
  show V M_Model_oneDay 7 0 0 0 0 tU (f_Model_oneDay h0 b σ) 0 [(0, vR h0)] [] b σ
  unfold f_Model_oneDay
  refine V_iconst 1 rfl (show decode M_Model_oneDay.2.1 0 = .ok (.iconst 0, 1) by decide +kernel) (v := 0) rfl ?_
  refine V_istore_n (fun x1_1 => [(1, vI x1_1), (0, vR h0)]) 2 rfl (show decode M_Model_oneDay.2.1 1 = .ok (.istore_n 1, 1) by decide +kernel) (by decide) (fun _ => rfl) (fun x1_1 => ?_)
  refine V_sub [1, 0] rfl ?_
  refine lp_P (fun (L2 : Int32 → Bool → Sto → Rs Unit) => ∀ (x1 : Int32) (b : Bool) (σ : Sto), V M_Model_oneDay 7 0 0 0 0 tU (L2 x1 b σ) 2 [(0, vR h0), (1, vI x1)] [] b σ) ?_ ?_ fuel_ x1_1 b σ
  · intro x1 b σ; exact V_bad
  · intro L2 hL2 x1 b σ
    unfold b_Model_oneDay_2
    refine V_iload_n 3 rfl (show decode M_Model_oneDay.2.1 2 = .ok (.iload_n 1, 1) by decide +kernel) 1 rfl ?_
    refine V_aload_n 4 rfl (show decode M_Model_oneDay.2.1 3 = .ok (.aload_n 0, 1) by decide +kernel) 0 rfl ?_
    refine V_get (j := 0) (v := vR (SR σ h0 0)) 7 rfl ck_Model (by decide) (by decide) (show decode M_Model_oneDay.2.1 4 = .ok (.getfield 7, 3) by decide +kernel) wd_1504 rfl ?_
    refine V_iconst 8 rfl (show decode M_Model_oneDay.2.1 7 = .ok (.iconst 5, 1) by decide +kernel) (v := 5) rfl ?_
    refine V_ald_int 9 rfl (show decode M_Model_oneDay.2.1 8 = .ok (.iaload, 1) by decide +kernel) ?_
    refine V_icmpge 12 75 rfl (show decode M_Model_oneDay.2.1 9 = .ok (.if_icmp .ge 66, 3) by decide +kernel) rfl ?_ ?_
    · skip
      refine V_aload_n 13 rfl (show decode M_Model_oneDay.2.1 12 = .ok (.aload_n 0, 1) by decide +kernel) 0 rfl ?_
      refine V_iload_n 14 rfl (show decode M_Model_oneDay.2.1 13 = .ok (.iload_n 1, 1) by decide +kernel) 1 rfl ?_
      refine V_callV (tb := tI) (as := [vI x1]) (rest := []) (na := 1) 17 rfl ck_Model (by decide) (s_Model_walkerAt h0 x1 (((b && cK σ h0 13) && cA σ (SR σ h0 0) 21 (5 : Int32)) && cK σ h0 13) σ) rfl rfl (Nat.le_of_ble_eq_true rfl) (cal_Model_walkerAt _ _ _ _ _ (by decide) (by decide) (by decide)) (show decode M_Model_oneDay.2.1 14 = .ok (.invokevirtual 84, 3) by decide +kernel) wd_1673 wd_1675 wd_121 (fun r_2 b_2 σ_2 => ?_)
      show V M_Model_oneDay 7 0 0 0 0 tU _ 17 [(0, vR h0), (1, vI x1)] [vI r_2] b_2 σ_2
      refine V_istore_n (fun x2_3 => [(2, vI x2_3), (0, vR h0), (1, vI x1)]) 18 rfl (show decode M_Model_oneDay.2.1 17 = .ok (.istore_n 2, 1) by decide +kernel) (by decide) (fun _ => rfl) (fun x2_3 => ?_)
      refine V_aload_n 19 rfl (show decode M_Model_oneDay.2.1 18 = .ok (.aload_n 0, 1) by decide +kernel) 1 rfl ?_
      refine V_get (j := 0) (v := vR (SR σ_2 h0 0)) 22 rfl ck_Model (by decide) (by decide) (show decode M_Model_oneDay.2.1 19 = .ok (.getfield 7, 3) by decide +kernel) wd_1504 rfl ?_
      refine V_iload_n 23 rfl (show decode M_Model_oneDay.2.1 22 = .ok (.iload_n 2, 1) by decide +kernel) 0 rfl ?_
      refine V_ald_int 24 rfl (show decode M_Model_oneDay.2.1 23 = .ok (.iaload, 1) by decide +kernel) ?_
      refine V_jn (fun (J69 : Bool → Sto → Rs Unit) => ∀ (b : Bool) (σ : Sto), V M_Model_oneDay 7 0 0 0 0 tU (J69 b σ) 69 [(0, vR h0), (1, vI x1)] [] b σ) ?_ (fun J69 hJ69 => ?_)
      · intro b σ
        refine V_iinc (fun x1_4 => [(1, vI x1_4), (0, vR h0)]) 72 rfl (show decode M_Model_oneDay.2.1 69 = .ok (.iinc 1 1, 3) by decide +kernel) 1 rfl (w := 1) rfl (by decide) (fun _ => rfl) (fun x1_4 => ?_)
        refine V_goto 2 (show decode M_Model_oneDay.2.1 72 = .ok (.goto (-70), 3) by decide +kernel) rfl ?_
        exact V_sub [1, 0] rfl (hL2 x1_4 b σ)
      · skip
        refine V_ifne 27 69 rfl (show decode M_Model_oneDay.2.1 24 = .ok (.ifCond .ne 45, 3) by decide +kernel) rfl ?_ ?_
        · skip
          refine V_aload_n 28 rfl (show decode M_Model_oneDay.2.1 27 = .ok (.aload_n 0, 1) by decide +kernel) 1 rfl ?_
          refine V_get (j := 0) (v := vR (SR σ_2 h0 0)) 31 rfl ck_Model (by decide) (by decide) (show decode M_Model_oneDay.2.1 28 = .ok (.getfield 7, 3) by decide +kernel) wd_1504 rfl ?_
          refine V_iload_n 32 rfl (show decode M_Model_oneDay.2.1 31 = .ok (.iload_n 2, 1) by decide +kernel) 0 rfl ?_
          refine V_bipush 34 rfl (show decode M_Model_oneDay.2.1 32 = .ok (.bipush 15, 2) by decide +kernel) (v := 15) rfl ?_
          refine V_iadd 35 rfl (show decode M_Model_oneDay.2.1 34 = .ok (.iadd, 1) by decide +kernel) ?_
          refine V_ald_int 36 rfl (show decode M_Model_oneDay.2.1 35 = .ok (.iaload, 1) by decide +kernel) ?_
          refine V_aload_n 37 rfl (show decode M_Model_oneDay.2.1 36 = .ok (.aload_n 0, 1) by decide +kernel) 1 rfl ?_
          refine V_get (j := 0) (v := vR (SR σ_2 h0 0)) 40 rfl ck_Model (by decide) (by decide) (show decode M_Model_oneDay.2.1 37 = .ok (.getfield 7, 3) by decide +kernel) wd_1504 rfl ?_
          refine V_iconst 41 rfl (show decode M_Model_oneDay.2.1 40 = .ok (.iconst 0, 1) by decide +kernel) (v := 0) rfl ?_
          refine V_ald_int 42 rfl (show decode M_Model_oneDay.2.1 41 = .ok (.iaload, 1) by decide +kernel) ?_
          refine V_icmpgt 45 69 rfl (show decode M_Model_oneDay.2.1 42 = .ok (.if_icmp .gt 27, 3) by decide +kernel) rfl ?_ ?_
          · skip
            exact V_sub [1, 2] rfl (hJ69 ((((((b_2 && cK σ_2 h0 13) && cA σ_2 (SR σ_2 h0 0) 21 x2_3) && cK σ_2 h0 13) && cA σ_2 (SR σ_2 h0 0) 21 (x2_3 + (15 : Int32))) && cK σ_2 h0 13) && cA σ_2 (SR σ_2 h0 0) 21 (0 : Int32)) σ_2)
          · skip
            refine V_aload_n 46 rfl (show decode M_Model_oneDay.2.1 45 = .ok (.aload_n 0, 1) by decide +kernel) 1 rfl ?_
            refine V_get (j := 0) (v := vR (SR σ_2 h0 0)) 49 rfl ck_Model (by decide) (by decide) (show decode M_Model_oneDay.2.1 46 = .ok (.getfield 7, 3) by decide +kernel) wd_1504 rfl ?_
            refine V_iload_n 50 rfl (show decode M_Model_oneDay.2.1 49 = .ok (.iload_n 2, 1) by decide +kernel) 0 rfl ?_
            refine V_iconst 51 rfl (show decode M_Model_oneDay.2.1 50 = .ok (.iconst 1, 1) by decide +kernel) (v := 1) rfl ?_
            refine V_ast_int 52 rfl (show decode M_Model_oneDay.2.1 51 = .ok (.iastore, 1) by decide +kernel) (fun σ_5 => ?_)
            refine V_aload_n 53 rfl (show decode M_Model_oneDay.2.1 52 = .ok (.aload_n 0, 1) by decide +kernel) 1 rfl ?_
            refine V_get (j := 0) (v := vR (SR σ_5 h0 0)) 56 rfl ck_Model (by decide) (by decide) (show decode M_Model_oneDay.2.1 53 = .ok (.getfield 7, 3) by decide +kernel) wd_1504 rfl ?_
            refine V_iload_n 57 rfl (show decode M_Model_oneDay.2.1 56 = .ok (.iload_n 2, 1) by decide +kernel) 0 rfl ?_
            refine V_iconst 58 rfl (show decode M_Model_oneDay.2.1 57 = .ok (.iconst 3, 1) by decide +kernel) (v := 3) rfl ?_
            refine V_iadd 59 rfl (show decode M_Model_oneDay.2.1 58 = .ok (.iadd, 1) by decide +kernel) ?_
            refine V_aload_n 60 rfl (show decode M_Model_oneDay.2.1 59 = .ok (.aload_n 0, 1) by decide +kernel) 1 rfl ?_
            refine V_get (j := 0) (v := vR (SR σ_5 h0 0)) 63 rfl ck_Model (by decide) (by decide) (show decode M_Model_oneDay.2.1 60 = .ok (.getfield 7, 3) by decide +kernel) wd_1504 rfl ?_
            refine V_iload_n 64 rfl (show decode M_Model_oneDay.2.1 63 = .ok (.iload_n 2, 1) by decide +kernel) 0 rfl ?_
            refine V_bipush 66 rfl (show decode M_Model_oneDay.2.1 64 = .ok (.bipush 17, 2) by decide +kernel) (v := 17) rfl ?_
            refine V_iadd 67 rfl (show decode M_Model_oneDay.2.1 66 = .ok (.iadd, 1) by decide +kernel) ?_
            refine V_ald_int 68 rfl (show decode M_Model_oneDay.2.1 67 = .ok (.iaload, 1) by decide +kernel) ?_
            refine V_ast_int 69 rfl (show decode M_Model_oneDay.2.1 68 = .ok (.iastore, 1) by decide +kernel) (fun σ_6 => ?_)
            exact V_sub [1, 2] rfl (hJ69 ((((((((((((b_2 && cK σ_2 h0 13) && cA σ_2 (SR σ_2 h0 0) 21 x2_3) && cK σ_2 h0 13) && cA σ_2 (SR σ_2 h0 0) 21 (x2_3 + (15 : Int32))) && cK σ_2 h0 13) && cA σ_2 (SR σ_2 h0 0) 21 (0 : Int32)) && cK σ_2 h0 13) && cA σ_2 (SR σ_2 h0 0) 21 x2_3) && cK σ_5 h0 13) && cK σ_5 h0 13) && cA σ_5 (SR σ_5 h0 0) 21 (x2_3 + (17 : Int32))) && cA σ_5 (SR σ_5 h0 0) 21 (x2_3 + (3 : Int32))) σ_6)
        · skip
          exact V_sub [1, 2] rfl (hJ69 ((b_2 && cK σ_2 h0 13) && cA σ_2 (SR σ_2 h0 0) 21 x2_3) σ_2)
    · skip
      refine V_iconst 76 rfl (show decode M_Model_oneDay.2.1 75 = .ok (.iconst 0, 1) by decide +kernel) (v := 0) rfl ?_
      refine V_istore_n (fun x1_7 => [(1, vI x1_7), (0, vR h0)]) 77 rfl (show decode M_Model_oneDay.2.1 76 = .ok (.istore_n 1, 1) by decide +kernel) (by decide) (fun _ => rfl) (fun x1_7 => ?_)
      refine V_sub [1, 0] rfl ?_
      refine lp_P (fun (L77 : Int32 → Bool → Sto → Rs Unit) => ∀ (x1 : Int32) (b : Bool) (σ : Sto), V M_Model_oneDay 7 0 0 0 0 tU (L77 x1 b σ) 77 [(0, vR h0), (1, vI x1)] [] b σ) ?_ ?_ fuel_ x1_7 ((b && cK σ h0 13) && cA σ (SR σ h0 0) 21 (5 : Int32)) σ
      · intro x1 b σ; exact V_bad
      · intro L77 hL77 x1 b σ
        unfold b_Model_oneDay_77
        refine V_iload_n 78 rfl (show decode M_Model_oneDay.2.1 77 = .ok (.iload_n 1, 1) by decide +kernel) 1 rfl ?_
        refine V_aload_n 79 rfl (show decode M_Model_oneDay.2.1 78 = .ok (.aload_n 0, 1) by decide +kernel) 0 rfl ?_
        refine V_get (j := 0) (v := vR (SR σ h0 0)) 82 rfl ck_Model (by decide) (by decide) (show decode M_Model_oneDay.2.1 79 = .ok (.getfield 7, 3) by decide +kernel) wd_1504 rfl ?_
        refine V_iconst 83 rfl (show decode M_Model_oneDay.2.1 82 = .ok (.iconst 5, 1) by decide +kernel) (v := 5) rfl ?_
        refine V_ald_int 84 rfl (show decode M_Model_oneDay.2.1 83 = .ok (.iaload, 1) by decide +kernel) ?_
        refine V_icmpge 87 106 rfl (show decode M_Model_oneDay.2.1 84 = .ok (.if_icmp .ge 22, 3) by decide +kernel) rfl ?_ ?_
        · skip
          refine V_aload_n 88 rfl (show decode M_Model_oneDay.2.1 87 = .ok (.aload_n 0, 1) by decide +kernel) 0 rfl ?_
          refine V_iload_n 89 rfl (show decode M_Model_oneDay.2.1 88 = .ok (.iload_n 1, 1) by decide +kernel) 1 rfl ?_
          refine V_callV (tb := tI) (as := [vI x1]) (rest := []) (na := 1) 92 rfl ck_Model (by decide) (s_Model_walks h0 x1 (((b && cK σ h0 13) && cA σ (SR σ h0 0) 21 (5 : Int32)) && cK σ h0 13) σ) rfl rfl (Nat.le_of_ble_eq_true rfl) (cal_Model_walks _ _ _ _ _ (by decide) (by decide) (by decide)) (show decode M_Model_oneDay.2.1 89 = .ok (.invokevirtual 120, 3) by decide +kernel) wd_1669 wd_1671 wd_120 (fun r_8 b_8 σ_8 => ?_)
          show V M_Model_oneDay 7 0 0 0 0 tU _ 92 [(0, vR h0), (1, vI x1)] [vI r_8] b_8 σ_8
          refine V_jn (fun (J100 : Bool → Sto → Rs Unit) => ∀ (b : Bool) (σ : Sto), V M_Model_oneDay 7 0 0 0 0 tU (J100 b σ) 100 [(0, vR h0), (1, vI x1)] [] b σ) ?_ (fun J100 hJ100 => ?_)
          · intro b σ
            refine V_iinc (fun x1_9 => [(1, vI x1_9), (0, vR h0)]) 103 rfl (show decode M_Model_oneDay.2.1 100 = .ok (.iinc 1 1, 3) by decide +kernel) 1 rfl (w := 1) rfl (by decide) (fun _ => rfl) (fun x1_9 => ?_)
            refine V_goto 77 (show decode M_Model_oneDay.2.1 103 = .ok (.goto (-26), 3) by decide +kernel) rfl ?_
            exact V_sub [1, 0] rfl (hL77 x1_9 b σ)
          · skip
            refine V_ifeq 95 100 rfl (show decode M_Model_oneDay.2.1 92 = .ok (.ifCond .eq 8, 3) by decide +kernel) rfl ?_ ?_
            · skip
              exact V_sub [0, 1] rfl (hJ100 b_8 σ_8)
            · skip
              refine V_aload_n 96 rfl (show decode M_Model_oneDay.2.1 95 = .ok (.aload_n 0, 1) by decide +kernel) 0 rfl ?_
              refine V_iload_n 97 rfl (show decode M_Model_oneDay.2.1 96 = .ok (.iload_n 1, 1) by decide +kernel) 1 rfl ?_
              refine V_callV (tb := tU) (as := [vI x1]) (rest := []) (na := 1) 100 rfl ck_Model (by decide) (s_Model_walkerDay h0 x1 (b_8 && cK σ_8 h0 13) σ_8) rfl rfl (Nat.le_of_ble_eq_true rfl) (cal_Model_walkerDay _ _ _ _ _ (by decide) (by decide) (by decide)) (show decode M_Model_oneDay.2.1 97 = .ok (.invokevirtual 316, 3) by decide +kernel) wd_1891 wd_1893 wd_148 (fun r_10 b_10 σ_10 => ?_)
              show V M_Model_oneDay 7 0 0 0 0 tU _ 100 [(0, vR h0), (1, vI x1)] [] b_10 σ_10
              exact V_sub [0, 1] rfl (hJ100 b_10 σ_10)
        · skip
          refine V_aload_n 107 rfl (show decode M_Model_oneDay.2.1 106 = .ok (.aload_n 0, 1) by decide +kernel) 0 rfl ?_
          refine V_callV (tb := tU) (as := []) (rest := []) (na := 0) 110 rfl ck_Model (by decide) (s_Model_night h0 (((b && cK σ h0 13) && cA σ (SR σ h0 0) 21 (5 : Int32)) && cK σ h0 13) σ) rfl rfl (Nat.le_of_ble_eq_true rfl) (cal_Model_night _ _ _ _ _ (by decide) (by decide) (by decide)) (show decode M_Model_oneDay.2.1 107 = .ok (.invokevirtual 319, 3) by decide +kernel) wd_1938 wd_1940 wd_159 (fun r_11 b_11 σ_11 => ?_)
          show V M_Model_oneDay 7 0 0 0 0 tU _ 110 [(0, vR h0), (1, vI x1)] [] b_11 σ_11
          refine V_aload_n 111 rfl (show decode M_Model_oneDay.2.1 110 = .ok (.aload_n 0, 1) by decide +kernel) 0 rfl ?_
          refine V_get (j := 0) (v := vR (SR σ_11 h0 0)) 114 rfl ck_Model (by decide) (by decide) (show decode M_Model_oneDay.2.1 111 = .ok (.getfield 7, 3) by decide +kernel) wd_1504 rfl ?_
          refine V_iconst 115 rfl (show decode M_Model_oneDay.2.1 114 = .ok (.iconst 0, 1) by decide +kernel) (v := 0) rfl ?_
          refine V_dup2 116 rfl (show decode M_Model_oneDay.2.1 115 = .ok (.dup2, 1) by decide +kernel) rfl rfl ?_
          refine V_ald_int 117 rfl (show decode M_Model_oneDay.2.1 116 = .ok (.iaload, 1) by decide +kernel) ?_
          refine V_iconst 118 rfl (show decode M_Model_oneDay.2.1 117 = .ok (.iconst 1, 1) by decide +kernel) (v := 1) rfl ?_
          refine V_iadd 119 rfl (show decode M_Model_oneDay.2.1 118 = .ok (.iadd, 1) by decide +kernel) ?_
          refine V_ast_int 120 rfl (show decode M_Model_oneDay.2.1 119 = .ok (.iastore, 1) by decide +kernel) (fun σ_12 => ?_)
          exact V_vret rfl (by decide) (by decide) (show decode M_Model_oneDay.2.1 120 = .ok (.return_, 1) by decide +kernel)
theorem cal_Model_oneDay (d mc ms k n : Nat) (h1 : 7 + 1 ≤ d) (h2 : k + 0 ≤ mc) (h3 : n + 0 ≤ ms) : Cal M_Model_oneDay 7 0 0 0 d mc ms k n := ⟨wd_1890, wd_181, by decide, h1, by decide, h2, h3⟩
abbrev M_Model_check : MD := (⟨"LongTrailModel", "check", "(I)I"⟩, prog_14_method_110_code, 5, (some FieldType.int))
def b_Model_check_93 (h0 : Nat) (x1 : Int32) (x2_1 : Int32) (x3 : Int32) (L61 : Int32 → Bool → Sto → Rs Int32) (L93 : Int32 → Bool → Sto → Rs Int32) (x4 : Int32) (b : Bool) (σ : Sto) : Rs Int32 := (if x4 < (SI σ (SR σ h0 0) (ix (5 : Int32))) then (bd_ (f_Model_walkerAt h0 x4 ((((((b && cK σ h0 13) && cA σ (SR σ h0 0) 21 (5 : Int32)) && cK σ h0 13) && cA σ (SR σ h0 34) 21 ((2 : Int32) * x3)) && cK σ h0 13) && cK σ h0 13) σ) (fun (r_11 : Int32) (b_11 : Bool) (σ_11 : Sto) => (lt_ (pI σ_11 (SR σ h0 34) (ix ((2 : Int32) * x3)) ((SI σ (SR σ h0 34) (ix ((2 : Int32) * x3))) + (SI σ_11 (SR σ h0 0) (ix (r_11 + (1 : Int32)))))) (fun (σ_12 : Sto) => (bd_ (f_Model_walkerAt h0 x4 ((((((b_11 && cA σ_11 (SR σ h0 0) 21 (r_11 + (1 : Int32))) && cA σ_11 (SR σ h0 34) 21 ((2 : Int32) * x3)) && cK σ_12 h0 13) && cA σ_12 (SR σ_12 h0 34) 21 (((2 : Int32) * x3) + (1 : Int32))) && cK σ_12 h0 13) && cK σ_12 h0 13) σ_12) (fun (r_13 : Int32) (b_13 : Bool) (σ_13 : Sto) => (lt_ (pI σ_13 (SR σ_12 h0 34) (ix (((2 : Int32) * x3) + (1 : Int32))) ((SI σ_12 (SR σ_12 h0 34) (ix (((2 : Int32) * x3) + (1 : Int32)))) + (SI σ_13 (SR σ_12 h0 0) (ix (r_13 + (3 : Int32)))))) (fun (σ_14 : Sto) => (lt_ (x4 + (1 : Int32)) (fun (x4_15 : Int32) => (L93 x4_15 ((b_13 && cA σ_13 (SR σ_12 h0 0) 21 (r_13 + (3 : Int32))) && cA σ_13 (SR σ_12 h0 34) 21 (((2 : Int32) * x3) + (1 : Int32))) σ_14))))))))))) else (lt_ (x3 + (1 : Int32)) (fun (x3_16 : Int32) => (L61 x3_16 ((b && cK σ h0 13) && cA σ (SR σ h0 0) 21 (5 : Int32)) σ))))
def b_Model_check_180 (h0 : Nat) (x1 : Int32) (x2_1 : Int32) (L180 : Int32 → Bool → Sto → Rs Int32) (x3 : Int32) (b : Bool) (σ : Sto) : Rs Int32 := (lt_ (fun (b : Bool) (σ : Sto) => (lt_ (fun (b : Bool) (σ : Sto) => (((1 : Int32) + x3), b, σ)) (fun J229 => (if x3 = x2_1 then (if x3 = ((2 : Int32) * x1) then ((0 : Int32), b, σ) else (J229 b σ)) else (J229 b σ))))) (fun J213 => (if x3 < x2_1 then (if x3 < ((2 : Int32) * x1) then (if (SI σ (SR σ h0 32) (ix x3)) = (SI σ (SR σ h0 34) (ix x3)) then (lt_ (x3 + (1 : Int32)) (fun (x3_19 : Int32) => (L180 x3_19 ((((b && cK σ h0 13) && cA σ (SR σ h0 32) 21 x3) && cK σ h0 13) && cA σ (SR σ h0 34) 21 x3) σ))) else (J213 ((((b && cK σ h0 13) && cA σ (SR σ h0 32) 21 x3) && cK σ h0 13) && cA σ (SR σ h0 34) 21 x3) σ)) else (J213 b σ)) else (J213 b σ))))
def b_Model_check_61 (h0 : Nat) (x1 : Int32) (x2_1 : Int32) (L61 : Int32 → Bool → Sto → Rs Int32) (x3 : Int32) (b : Bool) (σ : Sto) : Rs Int32 := (if x3 < x1 then (bd_ (f_Model_oneDay h0 (b && cK σ h0 13) σ) (fun (r_7 : Unit) (b_7 : Bool) (σ_7 : Sto) => (lt_ (pI σ_7 (SR σ_7 h0 34) (ix ((2 : Int32) * x3)) (0 : Int32)) (fun (σ_8 : Sto) => (lt_ (pI σ_8 (SR σ_8 h0 34) (ix (((2 : Int32) * x3) + (1 : Int32))) (0 : Int32)) (fun (σ_9 : Sto) => (lt_ (0 : Int32) (fun (x4_10 : Int32) => (lp_ (b_Model_check_93 h0 x1 x2_1 x3 L61) (fun (x4 : Int32) (b : Bool) (σ : Sto) => (0, false, σ)) fuel_ x4_10 ((((b_7 && cK σ_7 h0 13) && cA σ_7 (SR σ_7 h0 34) 21 ((2 : Int32) * x3)) && cK σ_8 h0 13) && cA σ_8 (SR σ_8 h0 34) 21 (((2 : Int32) * x3) + (1 : Int32))) σ_9))))))))) else (bd_ (f_Model_setAside h0 (SR σ h0 2) (SR σ h0 0) (((b && cK σ h0 13) && cK σ h0 13) && cK σ h0 13) σ) (fun (r_17 : Unit) (b_17 : Bool) (σ_17 : Sto) => (lt_ (0 : Int32) (fun (x3_18 : Int32) => (lp_ (b_Model_check_180 h0 x1 x2_1) (fun (x3 : Int32) (b : Bool) (σ : Sto) => (0, false, σ)) fuel_ x3_18 b_17 σ_17))))))
def f_Model_check (h0 : Nat) (x1 : Int32) (b : Bool) (σ : Sto) : Rs Int32 := (lt_ (SI σ h0 33) (fun (x2_1 : Int32) => (lt_ (pI σ h0 33 (0 : Int32)) (fun (σ_2 : Sto) => (bd_ (f_Model_isIn ((x1).toInt64) (1 : Int64) (30 : Int64) ((b && cK σ h0 13) && cK σ h0 13) σ_2) (fun (r_3 : Int32) (b_3 : Bool) (σ_3 : Sto) => (if r_3 = 0 then ((-1000000001 : Int32), b_3, σ_3) else (if (SI σ_3 h0 3) = 0 then ((-1000000002 : Int32), (b_3 && cK σ_3 h0 13), σ_3) else (bd_ (f_Model_setAside h0 (SR σ_3 h0 0) (SR σ_3 h0 2) ((((b_3 && cK σ_3 h0 13) && cK σ_3 h0 13) && cK σ_3 h0 13) && cK σ_3 h0 13) σ_3) (fun (r_4 : Unit) (b_4 : Bool) (σ_4 : Sto) => (bd_ (f_Model_setAside h0 (SR σ_4 h0 1) (SR σ_4 h0 0) (((b_4 && cK σ_4 h0 13) && cK σ_4 h0 13) && cK σ_4 h0 13) σ_4) (fun (r_5 : Unit) (b_5 : Bool) (σ_5 : Sto) => (lt_ (0 : Int32) (fun (x3_6 : Int32) => (lp_ (b_Model_check_61 h0 x1 x2_1) (fun (x3 : Int32) (b : Bool) (σ : Sto) => (0, false, σ)) fuel_ x3_6 b_5 σ_5)))))))))))))))
set_option maxRecDepth 100000 in
set_option maxHeartbeats 4000000 in
theorem s_Model_check : ∀ (h0 : Nat) (x1 : Int32) (b : Bool) (σ : Sto), Snd M_Model_check 8 0 0 [vR h0, vI x1] b σ (tI (f_Model_check h0 x1 b σ).1) (f_Model_check h0 x1 b σ).2.1 (f_Model_check h0 x1 b σ).2.2 := by
  intro h0 x1 b σ
  refine Snd_of (tv := tI) (by decide) (Nat.le_of_ble_eq_true rfl) ?_
  show V M_Model_check 8 0 0 0 0 tI (f_Model_check h0 x1 b σ) 0 [(0, vR h0), (1, vI x1)] [] b σ
  unfold f_Model_check
  refine V_aload_n 1 rfl (show decode M_Model_check.2.1 0 = .ok (.aload_n 0, 1) by decide +kernel) 0 rfl ?_
  refine V_get (j := 33) (v := vI (SI σ h0 33)) 4 rfl ck_Model (by decide) (by decide) (show decode M_Model_check.2.1 1 = .ok (.getfield 375, 3) by decide +kernel) wd_1537 rfl ?_
  refine V_istore_n (fun x2_1 => [(2, vI x2_1), (0, vR h0), (1, vI x1)]) 5 rfl (show decode M_Model_check.2.1 4 = .ok (.istore_n 2, 1) by decide +kernel) (by decide) (fun _ => rfl) (fun x2_1 => ?_)
  refine V_aload_n 6 rfl (show decode M_Model_check.2.1 5 = .ok (.aload_n 0, 1) by decide +kernel) 1 rfl ?_
  refine V_iconst 7 rfl (show decode M_Model_check.2.1 6 = .ok (.iconst 0, 1) by decide +kernel) (v := 0) rfl ?_
  refine V_putI (j := 33) 10 rfl ck_Model (by decide) (by decide) (show decode M_Model_check.2.1 7 = .ok (.putfield 375, 3) by decide +kernel) wd_1537 rfl (fun _ => rfl) rfl rfl (fun σ_2 => ?_)
  refine V_iload_n 11 rfl (show decode M_Model_check.2.1 10 = .ok (.iload_n 1, 1) by decide +kernel) 2 rfl ?_
  refine V_i2l 12 rfl (show decode M_Model_check.2.1 11 = .ok (.i2l, 1) by decide +kernel) ?_
  refine V_lconst 13 rfl (show decode M_Model_check.2.1 12 = .ok (.lconst 1, 1) by decide +kernel) (v := 1) rfl ?_
  refine V_ldc2 16 rfl (show decode M_Model_check.2.1 13 = .ok (.ldc2_w 378, 3) by decide +kernel) wd_2066 ?_
  refine V_callS (tb := tI) (as := [vL ((x1).toInt64), vL (1 : Int64), vL (30 : Int64)]) (rest := []) (na := 3) 19 rfl (s_Model_isIn ((x1).toInt64) (1 : Int64) (30 : Int64) ((b && cK σ h0 13) && cK σ h0 13) σ_2) rfl rfl (Nat.le_of_ble_eq_true rfl) (cal_Model_isIn _ _ _ _ _ (by decide) (by decide) (by decide)) (show decode M_Model_check.2.1 16 = .ok (.invokestatic 76, 3) by decide +kernel) wd_1617 wd_1618 (fun r_3 b_3 σ_3 => ?_)
  show V M_Model_check 8 0 0 0 0 tI _ 19 [(2, vI x2_1), (0, vR h0), (1, vI x1)] [vI r_3] b_3 σ_3
  refine V_ifne 22 25 rfl (show decode M_Model_check.2.1 19 = .ok (.ifCond .ne 6, 3) by decide +kernel) rfl ?_ ?_
  · skip
    refine V_ldc 24 rfl (show decode M_Model_check.2.1 22 = .ok (.ldc 91, 2) by decide +kernel) wd_1620 ?_
    exact V_iret rfl (by decide) (by decide) (show decode M_Model_check.2.1 24 = .ok (.ireturn, 1) by decide +kernel)
  · skip
    refine V_aload_n 26 rfl (show decode M_Model_check.2.1 25 = .ok (.aload_n 0, 1) by decide +kernel) 1 rfl ?_
    refine V_get (j := 3) (v := vI (SI σ_3 h0 3)) 29 rfl ck_Model (by decide) (by decide) (show decode M_Model_check.2.1 26 = .ok (.getfield 380, 3) by decide +kernel) wd_1507 rfl ?_
    refine V_ifne 32 35 rfl (show decode M_Model_check.2.1 29 = .ok (.ifCond .ne 6, 3) by decide +kernel) rfl ?_ ?_
    · skip
      refine V_ldc 34 rfl (show decode M_Model_check.2.1 32 = .ok (.ldc 98, 2) by decide +kernel) wd_1633 ?_
      exact V_iret rfl (by decide) (by decide) (show decode M_Model_check.2.1 34 = .ok (.ireturn, 1) by decide +kernel)
    · skip
      refine V_aload_n 36 rfl (show decode M_Model_check.2.1 35 = .ok (.aload_n 0, 1) by decide +kernel) 1 rfl ?_
      refine V_aload_n 37 rfl (show decode M_Model_check.2.1 36 = .ok (.aload_n 0, 1) by decide +kernel) 1 rfl ?_
      refine V_get (j := 0) (v := vR (SR σ_3 h0 0)) 40 rfl ck_Model (by decide) (by decide) (show decode M_Model_check.2.1 37 = .ok (.getfield 7, 3) by decide +kernel) wd_1504 rfl ?_
      refine V_aload_n 41 rfl (show decode M_Model_check.2.1 40 = .ok (.aload_n 0, 1) by decide +kernel) 1 rfl ?_
      refine V_get (j := 2) (v := vR (SR σ_3 h0 2)) 44 rfl ck_Model (by decide) (by decide) (show decode M_Model_check.2.1 41 = .ok (.getfield 16, 3) by decide +kernel) wd_1506 rfl ?_
      refine V_callV (tb := tU) (as := [vR (SR σ_3 h0 0), vR (SR σ_3 h0 2)]) (rest := []) (na := 2) 47 rfl ck_Model (by decide) (s_Model_setAside h0 (SR σ_3 h0 0) (SR σ_3 h0 2) ((((b_3 && cK σ_3 h0 13) && cK σ_3 h0 13) && cK σ_3 h0 13) && cK σ_3 h0 13) σ_3) rfl rfl (Nat.le_of_ble_eq_true rfl) (cal_Model_setAside _ _ _ _ _ (by decide) (by decide) (by decide)) (show decode M_Model_check.2.1 44 = .ok (.invokevirtual 327, 3) by decide +kernel) wd_1946 wd_1948 wd_160 (fun r_4 b_4 σ_4 => ?_)
      show V M_Model_check 8 0 0 0 0 tI _ 47 [(2, vI x2_1), (0, vR h0), (1, vI x1)] [] b_4 σ_4
      refine V_aload_n 48 rfl (show decode M_Model_check.2.1 47 = .ok (.aload_n 0, 1) by decide +kernel) 1 rfl ?_
      refine V_aload_n 49 rfl (show decode M_Model_check.2.1 48 = .ok (.aload_n 0, 1) by decide +kernel) 1 rfl ?_
      refine V_get (j := 1) (v := vR (SR σ_4 h0 1)) 52 rfl ck_Model (by decide) (by decide) (show decode M_Model_check.2.1 49 = .ok (.getfield 13, 3) by decide +kernel) wd_1505 rfl ?_
      refine V_aload_n 53 rfl (show decode M_Model_check.2.1 52 = .ok (.aload_n 0, 1) by decide +kernel) 1 rfl ?_
      refine V_get (j := 0) (v := vR (SR σ_4 h0 0)) 56 rfl ck_Model (by decide) (by decide) (show decode M_Model_check.2.1 53 = .ok (.getfield 7, 3) by decide +kernel) wd_1504 rfl ?_
      refine V_callV (tb := tU) (as := [vR (SR σ_4 h0 1), vR (SR σ_4 h0 0)]) (rest := []) (na := 2) 59 rfl ck_Model (by decide) (s_Model_setAside h0 (SR σ_4 h0 1) (SR σ_4 h0 0) (((b_4 && cK σ_4 h0 13) && cK σ_4 h0 13) && cK σ_4 h0 13) σ_4) rfl rfl (Nat.le_of_ble_eq_true rfl) (cal_Model_setAside _ _ _ _ _ (by decide) (by decide) (by decide)) (show decode M_Model_check.2.1 56 = .ok (.invokevirtual 327, 3) by decide +kernel) wd_1946 wd_1948 wd_160 (fun r_5 b_5 σ_5 => ?_)
      show V M_Model_check 8 0 0 0 0 tI _ 59 [(2, vI x2_1), (0, vR h0), (1, vI x1)] [] b_5 σ_5
      refine V_iconst 60 rfl (show decode M_Model_check.2.1 59 = .ok (.iconst 0, 1) by decide +kernel) (v := 0) rfl ?_
      refine V_istore_n (fun x3_6 => [(3, vI x3_6), (2, vI x2_1), (0, vR h0), (1, vI x1)]) 61 rfl (show decode M_Model_check.2.1 60 = .ok (.istore_n 3, 1) by decide +kernel) (by decide) (fun _ => rfl) (fun x3_6 => ?_)
      refine V_sub [2, 3, 1, 0] rfl ?_
      refine lp_P (fun (L61 : Int32 → Bool → Sto → Rs Int32) => ∀ (x3 : Int32) (b : Bool) (σ : Sto), V M_Model_check 8 0 0 0 0 tI (L61 x3 b σ) 61 [(0, vR h0), (1, vI x1), (2, vI x2_1), (3, vI x3)] [] b σ) ?_ ?_ fuel_ x3_6 b_5 σ_5
      · intro x3 b σ; exact V_bad
      · intro L61 hL61 x3 b σ
        unfold b_Model_check_61
        refine V_iload_n 62 rfl (show decode M_Model_check.2.1 61 = .ok (.iload_n 3, 1) by decide +kernel) 3 rfl ?_
        refine V_iload_n 63 rfl (show decode M_Model_check.2.1 62 = .ok (.iload_n 1, 1) by decide +kernel) 1 rfl ?_
        refine V_icmpge 66 166 rfl (show decode M_Model_check.2.1 63 = .ok (.if_icmp .ge 103, 3) by decide +kernel) rfl ?_ ?_
        · skip
          refine V_aload_n 67 rfl (show decode M_Model_check.2.1 66 = .ok (.aload_n 0, 1) by decide +kernel) 0 rfl ?_
          refine V_callV (tb := tU) (as := []) (rest := []) (na := 0) 70 rfl ck_Model (by decide) (s_Model_oneDay h0 (b && cK σ h0 13) σ) rfl rfl (Nat.le_of_ble_eq_true rfl) (cal_Model_oneDay _ _ _ _ _ (by decide) (by decide) (by decide)) (show decode M_Model_check.2.1 67 = .ok (.invokevirtual 324, 3) by decide +kernel) wd_1887 wd_1889 wd_147 (fun r_7 b_7 σ_7 => ?_)
          show V M_Model_check 8 0 0 0 0 tI _ 70 [(0, vR h0), (1, vI x1), (2, vI x2_1), (3, vI x3)] [] b_7 σ_7
          refine V_aload_n 71 rfl (show decode M_Model_check.2.1 70 = .ok (.aload_n 0, 1) by decide +kernel) 0 rfl ?_
          refine V_get (j := 34) (v := vR (SR σ_7 h0 34)) 74 rfl ck_Model (by decide) (by decide) (show decode M_Model_check.2.1 71 = .ok (.getfield 72, 3) by decide +kernel) wd_1538 rfl ?_
          refine V_iconst 75 rfl (show decode M_Model_check.2.1 74 = .ok (.iconst 2, 1) by decide +kernel) (v := 2) rfl ?_
          refine V_iload_n 76 rfl (show decode M_Model_check.2.1 75 = .ok (.iload_n 3, 1) by decide +kernel) 3 rfl ?_
          refine V_imul 77 rfl (show decode M_Model_check.2.1 76 = .ok (.imul, 1) by decide +kernel) ?_
          refine V_iconst 78 rfl (show decode M_Model_check.2.1 77 = .ok (.iconst 0, 1) by decide +kernel) (v := 0) rfl ?_
          refine V_ast_int 79 rfl (show decode M_Model_check.2.1 78 = .ok (.iastore, 1) by decide +kernel) (fun σ_8 => ?_)
          refine V_aload_n 80 rfl (show decode M_Model_check.2.1 79 = .ok (.aload_n 0, 1) by decide +kernel) 0 rfl ?_
          refine V_get (j := 34) (v := vR (SR σ_8 h0 34)) 83 rfl ck_Model (by decide) (by decide) (show decode M_Model_check.2.1 80 = .ok (.getfield 72, 3) by decide +kernel) wd_1538 rfl ?_
          refine V_iconst 84 rfl (show decode M_Model_check.2.1 83 = .ok (.iconst 2, 1) by decide +kernel) (v := 2) rfl ?_
          refine V_iload_n 85 rfl (show decode M_Model_check.2.1 84 = .ok (.iload_n 3, 1) by decide +kernel) 3 rfl ?_
          refine V_imul 86 rfl (show decode M_Model_check.2.1 85 = .ok (.imul, 1) by decide +kernel) ?_
          refine V_iconst 87 rfl (show decode M_Model_check.2.1 86 = .ok (.iconst 1, 1) by decide +kernel) (v := 1) rfl ?_
          refine V_iadd 88 rfl (show decode M_Model_check.2.1 87 = .ok (.iadd, 1) by decide +kernel) ?_
          refine V_iconst 89 rfl (show decode M_Model_check.2.1 88 = .ok (.iconst 0, 1) by decide +kernel) (v := 0) rfl ?_
          refine V_ast_int 90 rfl (show decode M_Model_check.2.1 89 = .ok (.iastore, 1) by decide +kernel) (fun σ_9 => ?_)
          refine V_iconst 91 rfl (show decode M_Model_check.2.1 90 = .ok (.iconst 0, 1) by decide +kernel) (v := 0) rfl ?_
          refine V_istore (fun x4_10 => [(4, vI x4_10), (0, vR h0), (1, vI x1), (2, vI x2_1), (3, vI x3)]) 93 rfl (show decode M_Model_check.2.1 91 = .ok (.istore 4, 2) by decide +kernel) (by decide) (fun _ => rfl) (fun x4_10 => ?_)
          refine V_sub [1, 2, 3, 4, 0] rfl ?_
          refine lp_P (fun (L93 : Int32 → Bool → Sto → Rs Int32) => ∀ (x4 : Int32) (b : Bool) (σ : Sto), V M_Model_check 8 0 0 0 0 tI (L93 x4 b σ) 93 [(0, vR h0), (1, vI x1), (2, vI x2_1), (3, vI x3), (4, vI x4)] [] b σ) ?_ ?_ fuel_ x4_10 ((((b_7 && cK σ_7 h0 13) && cA σ_7 (SR σ_7 h0 34) 21 ((2 : Int32) * x3)) && cK σ_8 h0 13) && cA σ_8 (SR σ_8 h0 34) 21 (((2 : Int32) * x3) + (1 : Int32))) σ_9
          · intro x4 b σ; exact V_bad
          · intro L93 hL93 x4 b σ
            unfold b_Model_check_93
            refine V_iload 95 rfl (show decode M_Model_check.2.1 93 = .ok (.iload 4, 2) by decide +kernel) 4 rfl ?_
            refine V_aload_n 96 rfl (show decode M_Model_check.2.1 95 = .ok (.aload_n 0, 1) by decide +kernel) 0 rfl ?_
            refine V_get (j := 0) (v := vR (SR σ h0 0)) 99 rfl ck_Model (by decide) (by decide) (show decode M_Model_check.2.1 96 = .ok (.getfield 7, 3) by decide +kernel) wd_1504 rfl ?_
            refine V_iconst 100 rfl (show decode M_Model_check.2.1 99 = .ok (.iconst 5, 1) by decide +kernel) (v := 5) rfl ?_
            refine V_ald_int 101 rfl (show decode M_Model_check.2.1 100 = .ok (.iaload, 1) by decide +kernel) ?_
            refine V_icmpge 104 160 rfl (show decode M_Model_check.2.1 101 = .ok (.if_icmp .ge 59, 3) by decide +kernel) rfl ?_ ?_
            · skip
              refine V_aload_n 105 rfl (show decode M_Model_check.2.1 104 = .ok (.aload_n 0, 1) by decide +kernel) 0 rfl ?_
              refine V_get (j := 34) (v := vR (SR σ h0 34)) 108 rfl ck_Model (by decide) (by decide) (show decode M_Model_check.2.1 105 = .ok (.getfield 72, 3) by decide +kernel) wd_1538 rfl ?_
              refine V_iconst 109 rfl (show decode M_Model_check.2.1 108 = .ok (.iconst 2, 1) by decide +kernel) (v := 2) rfl ?_
              refine V_iload_n 110 rfl (show decode M_Model_check.2.1 109 = .ok (.iload_n 3, 1) by decide +kernel) 3 rfl ?_
              refine V_imul 111 rfl (show decode M_Model_check.2.1 110 = .ok (.imul, 1) by decide +kernel) ?_
              refine V_dup2 112 rfl (show decode M_Model_check.2.1 111 = .ok (.dup2, 1) by decide +kernel) rfl rfl ?_
              refine V_ald_int 113 rfl (show decode M_Model_check.2.1 112 = .ok (.iaload, 1) by decide +kernel) ?_
              refine V_aload_n 114 rfl (show decode M_Model_check.2.1 113 = .ok (.aload_n 0, 1) by decide +kernel) 0 rfl ?_
              refine V_get (j := 0) (v := vR (SR σ h0 0)) 117 rfl ck_Model (by decide) (by decide) (show decode M_Model_check.2.1 114 = .ok (.getfield 7, 3) by decide +kernel) wd_1504 rfl ?_
              refine V_aload_n 118 rfl (show decode M_Model_check.2.1 117 = .ok (.aload_n 0, 1) by decide +kernel) 0 rfl ?_
              refine V_iload 120 rfl (show decode M_Model_check.2.1 118 = .ok (.iload 4, 2) by decide +kernel) 4 rfl ?_
              refine V_callV (tb := tI) (as := [vI x4]) (rest := [vR (SR σ h0 0), vI (SI σ (SR σ h0 34) (ix ((2 : Int32) * x3))), vI ((2 : Int32) * x3), vR (SR σ h0 34)]) (na := 1) 123 rfl ck_Model (by decide) (s_Model_walkerAt h0 x4 ((((((b && cK σ h0 13) && cA σ (SR σ h0 0) 21 (5 : Int32)) && cK σ h0 13) && cA σ (SR σ h0 34) 21 ((2 : Int32) * x3)) && cK σ h0 13) && cK σ h0 13) σ) rfl rfl (Nat.le_of_ble_eq_true rfl) (cal_Model_walkerAt _ _ _ _ _ (by decide) (by decide) (by decide)) (show decode M_Model_check.2.1 120 = .ok (.invokevirtual 84, 3) by decide +kernel) wd_1673 wd_1675 wd_121 (fun r_11 b_11 σ_11 => ?_)
              show V M_Model_check 8 0 0 0 0 tI _ 123 [(0, vR h0), (1, vI x1), (2, vI x2_1), (3, vI x3), (4, vI x4)] [vI r_11, vR (SR σ h0 0), vI (SI σ (SR σ h0 34) (ix ((2 : Int32) * x3))), vI ((2 : Int32) * x3), vR (SR σ h0 34)] b_11 σ_11
              refine V_iconst 124 rfl (show decode M_Model_check.2.1 123 = .ok (.iconst 1, 1) by decide +kernel) (v := 1) rfl ?_
              refine V_iadd 125 rfl (show decode M_Model_check.2.1 124 = .ok (.iadd, 1) by decide +kernel) ?_
              refine V_ald_int 126 rfl (show decode M_Model_check.2.1 125 = .ok (.iaload, 1) by decide +kernel) ?_
              refine V_iadd 127 rfl (show decode M_Model_check.2.1 126 = .ok (.iadd, 1) by decide +kernel) ?_
              refine V_ast_int 128 rfl (show decode M_Model_check.2.1 127 = .ok (.iastore, 1) by decide +kernel) (fun σ_12 => ?_)
              refine V_aload_n 129 rfl (show decode M_Model_check.2.1 128 = .ok (.aload_n 0, 1) by decide +kernel) 0 rfl ?_
              refine V_get (j := 34) (v := vR (SR σ_12 h0 34)) 132 rfl ck_Model (by decide) (by decide) (show decode M_Model_check.2.1 129 = .ok (.getfield 72, 3) by decide +kernel) wd_1538 rfl ?_
              refine V_iconst 133 rfl (show decode M_Model_check.2.1 132 = .ok (.iconst 2, 1) by decide +kernel) (v := 2) rfl ?_
              refine V_iload_n 134 rfl (show decode M_Model_check.2.1 133 = .ok (.iload_n 3, 1) by decide +kernel) 3 rfl ?_
              refine V_imul 135 rfl (show decode M_Model_check.2.1 134 = .ok (.imul, 1) by decide +kernel) ?_
              refine V_iconst 136 rfl (show decode M_Model_check.2.1 135 = .ok (.iconst 1, 1) by decide +kernel) (v := 1) rfl ?_
              refine V_iadd 137 rfl (show decode M_Model_check.2.1 136 = .ok (.iadd, 1) by decide +kernel) ?_
              refine V_dup2 138 rfl (show decode M_Model_check.2.1 137 = .ok (.dup2, 1) by decide +kernel) rfl rfl ?_
              refine V_ald_int 139 rfl (show decode M_Model_check.2.1 138 = .ok (.iaload, 1) by decide +kernel) ?_
              refine V_aload_n 140 rfl (show decode M_Model_check.2.1 139 = .ok (.aload_n 0, 1) by decide +kernel) 0 rfl ?_
              refine V_get (j := 0) (v := vR (SR σ_12 h0 0)) 143 rfl ck_Model (by decide) (by decide) (show decode M_Model_check.2.1 140 = .ok (.getfield 7, 3) by decide +kernel) wd_1504 rfl ?_
              refine V_aload_n 144 rfl (show decode M_Model_check.2.1 143 = .ok (.aload_n 0, 1) by decide +kernel) 0 rfl ?_
              refine V_iload 146 rfl (show decode M_Model_check.2.1 144 = .ok (.iload 4, 2) by decide +kernel) 4 rfl ?_
              refine V_callV (tb := tI) (as := [vI x4]) (rest := [vR (SR σ_12 h0 0), vI (SI σ_12 (SR σ_12 h0 34) (ix (((2 : Int32) * x3) + (1 : Int32)))), vI (((2 : Int32) * x3) + (1 : Int32)), vR (SR σ_12 h0 34)]) (na := 1) 149 rfl ck_Model (by decide) (s_Model_walkerAt h0 x4 ((((((b_11 && cA σ_11 (SR σ h0 0) 21 (r_11 + (1 : Int32))) && cA σ_11 (SR σ h0 34) 21 ((2 : Int32) * x3)) && cK σ_12 h0 13) && cA σ_12 (SR σ_12 h0 34) 21 (((2 : Int32) * x3) + (1 : Int32))) && cK σ_12 h0 13) && cK σ_12 h0 13) σ_12) rfl rfl (Nat.le_of_ble_eq_true rfl) (cal_Model_walkerAt _ _ _ _ _ (by decide) (by decide) (by decide)) (show decode M_Model_check.2.1 146 = .ok (.invokevirtual 84, 3) by decide +kernel) wd_1673 wd_1675 wd_121 (fun r_13 b_13 σ_13 => ?_)
              show V M_Model_check 8 0 0 0 0 tI _ 149 [(0, vR h0), (1, vI x1), (2, vI x2_1), (3, vI x3), (4, vI x4)] [vI r_13, vR (SR σ_12 h0 0), vI (SI σ_12 (SR σ_12 h0 34) (ix (((2 : Int32) * x3) + (1 : Int32)))), vI (((2 : Int32) * x3) + (1 : Int32)), vR (SR σ_12 h0 34)] b_13 σ_13
              refine V_iconst 150 rfl (show decode M_Model_check.2.1 149 = .ok (.iconst 3, 1) by decide +kernel) (v := 3) rfl ?_
              refine V_iadd 151 rfl (show decode M_Model_check.2.1 150 = .ok (.iadd, 1) by decide +kernel) ?_
              refine V_ald_int 152 rfl (show decode M_Model_check.2.1 151 = .ok (.iaload, 1) by decide +kernel) ?_
              refine V_iadd 153 rfl (show decode M_Model_check.2.1 152 = .ok (.iadd, 1) by decide +kernel) ?_
              refine V_ast_int 154 rfl (show decode M_Model_check.2.1 153 = .ok (.iastore, 1) by decide +kernel) (fun σ_14 => ?_)
              refine V_iinc (fun x4_15 => [(4, vI x4_15), (0, vR h0), (1, vI x1), (2, vI x2_1), (3, vI x3)]) 157 rfl (show decode M_Model_check.2.1 154 = .ok (.iinc 4 1, 3) by decide +kernel) 4 rfl (w := 1) rfl (by decide) (fun _ => rfl) (fun x4_15 => ?_)
              refine V_goto 93 (show decode M_Model_check.2.1 157 = .ok (.goto (-64), 3) by decide +kernel) rfl ?_
              exact V_sub [1, 2, 3, 4, 0] rfl (hL93 x4_15 ((b_13 && cA σ_13 (SR σ_12 h0 0) 21 (r_13 + (3 : Int32))) && cA σ_13 (SR σ_12 h0 34) 21 (((2 : Int32) * x3) + (1 : Int32))) σ_14)
            · skip
              refine V_iinc (fun x3_16 => [(3, vI x3_16), (0, vR h0), (1, vI x1), (2, vI x2_1), (4, vI x4)]) 163 rfl (show decode M_Model_check.2.1 160 = .ok (.iinc 3 1, 3) by decide +kernel) 3 rfl (w := 1) rfl (by decide) (fun _ => rfl) (fun x3_16 => ?_)
              refine V_goto 61 (show decode M_Model_check.2.1 163 = .ok (.goto (-102), 3) by decide +kernel) rfl ?_
              exact V_sub [1, 2, 3, 0] rfl (hL61 x3_16 ((b && cK σ h0 13) && cA σ (SR σ h0 0) 21 (5 : Int32)) σ)
        · skip
          refine V_aload_n 167 rfl (show decode M_Model_check.2.1 166 = .ok (.aload_n 0, 1) by decide +kernel) 0 rfl ?_
          refine V_aload_n 168 rfl (show decode M_Model_check.2.1 167 = .ok (.aload_n 0, 1) by decide +kernel) 0 rfl ?_
          refine V_get (j := 2) (v := vR (SR σ h0 2)) 171 rfl ck_Model (by decide) (by decide) (show decode M_Model_check.2.1 168 = .ok (.getfield 16, 3) by decide +kernel) wd_1506 rfl ?_
          refine V_aload_n 172 rfl (show decode M_Model_check.2.1 171 = .ok (.aload_n 0, 1) by decide +kernel) 0 rfl ?_
          refine V_get (j := 0) (v := vR (SR σ h0 0)) 175 rfl ck_Model (by decide) (by decide) (show decode M_Model_check.2.1 172 = .ok (.getfield 7, 3) by decide +kernel) wd_1504 rfl ?_
          refine V_callV (tb := tU) (as := [vR (SR σ h0 2), vR (SR σ h0 0)]) (rest := []) (na := 2) 178 rfl ck_Model (by decide) (s_Model_setAside h0 (SR σ h0 2) (SR σ h0 0) (((b && cK σ h0 13) && cK σ h0 13) && cK σ h0 13) σ) rfl rfl (Nat.le_of_ble_eq_true rfl) (cal_Model_setAside _ _ _ _ _ (by decide) (by decide) (by decide)) (show decode M_Model_check.2.1 175 = .ok (.invokevirtual 327, 3) by decide +kernel) wd_1946 wd_1948 wd_160 (fun r_17 b_17 σ_17 => ?_)
          show V M_Model_check 8 0 0 0 0 tI _ 178 [(0, vR h0), (1, vI x1), (2, vI x2_1), (3, vI x3)] [] b_17 σ_17
          refine V_iconst 179 rfl (show decode M_Model_check.2.1 178 = .ok (.iconst 0, 1) by decide +kernel) (v := 0) rfl ?_
          refine V_istore_n (fun x3_18 => [(3, vI x3_18), (0, vR h0), (1, vI x1), (2, vI x2_1)]) 180 rfl (show decode M_Model_check.2.1 179 = .ok (.istore_n 3, 1) by decide +kernel) (by decide) (fun _ => rfl) (fun x3_18 => ?_)
          refine V_sub [1, 2, 3, 0] rfl ?_
          refine lp_P (fun (L180 : Int32 → Bool → Sto → Rs Int32) => ∀ (x3 : Int32) (b : Bool) (σ : Sto), V M_Model_check 8 0 0 0 0 tI (L180 x3 b σ) 180 [(0, vR h0), (1, vI x1), (2, vI x2_1), (3, vI x3)] [] b σ) ?_ ?_ fuel_ x3_18 b_17 σ_17
          · intro x3 b σ; exact V_bad
          · intro L180 hL180 x3 b σ
            unfold b_Model_check_180
            refine V_iload_n 181 rfl (show decode M_Model_check.2.1 180 = .ok (.iload_n 3, 1) by decide +kernel) 3 rfl ?_
            refine V_iload_n 182 rfl (show decode M_Model_check.2.1 181 = .ok (.iload_n 2, 1) by decide +kernel) 2 rfl ?_
            refine V_jn (fun (J213 : Bool → Sto → Rs Int32) => ∀ (b : Bool) (σ : Sto), V M_Model_check 8 0 0 0 0 tI (J213 b σ) 213 [(1, vI x1), (2, vI x2_1), (3, vI x3)] [] b σ) ?_ (fun J213 hJ213 => ?_)
            · intro b σ
              refine V_iload_n 214 rfl (show decode M_Model_check.2.1 213 = .ok (.iload_n 3, 1) by decide +kernel) 2 rfl ?_
              refine V_iload_n 215 rfl (show decode M_Model_check.2.1 214 = .ok (.iload_n 2, 1) by decide +kernel) 1 rfl ?_
              refine V_jn (fun (J229 : Bool → Sto → Rs Int32) => ∀ (b : Bool) (σ : Sto), V M_Model_check 8 0 0 0 0 tI (J229 b σ) 229 [(3, vI x3)] [] b σ) ?_ (fun J229 hJ229 => ?_)
              · intro b σ
                refine V_iconst 230 rfl (show decode M_Model_check.2.1 229 = .ok (.iconst 1, 1) by decide +kernel) (v := 1) rfl ?_
                refine V_iload_n 231 rfl (show decode M_Model_check.2.1 230 = .ok (.iload_n 3, 1) by decide +kernel) 0 rfl ?_
                refine V_iadd 232 rfl (show decode M_Model_check.2.1 231 = .ok (.iadd, 1) by decide +kernel) ?_
                exact V_iret rfl (by decide) (by decide) (show decode M_Model_check.2.1 232 = .ok (.ireturn, 1) by decide +kernel)
              · skip
                refine V_icmpne 218 229 rfl (show decode M_Model_check.2.1 215 = .ok (.if_icmp .ne 14, 3) by decide +kernel) rfl ?_ ?_
                · skip
                  refine V_iload_n 219 rfl (show decode M_Model_check.2.1 218 = .ok (.iload_n 3, 1) by decide +kernel) 2 rfl ?_
                  refine V_iconst 220 rfl (show decode M_Model_check.2.1 219 = .ok (.iconst 2, 1) by decide +kernel) (v := 2) rfl ?_
                  refine V_iload_n 221 rfl (show decode M_Model_check.2.1 220 = .ok (.iload_n 1, 1) by decide +kernel) 0 rfl ?_
                  refine V_imul 222 rfl (show decode M_Model_check.2.1 221 = .ok (.imul, 1) by decide +kernel) ?_
                  refine V_icmpne 225 229 rfl (show decode M_Model_check.2.1 222 = .ok (.if_icmp .ne 7, 3) by decide +kernel) rfl ?_ ?_
                  · skip
                    refine V_iconst 226 rfl (show decode M_Model_check.2.1 225 = .ok (.iconst 0, 1) by decide +kernel) (v := 0) rfl ?_
                    refine V_goto 232 (show decode M_Model_check.2.1 226 = .ok (.goto 6, 3) by decide +kernel) rfl ?_
                    exact V_iret rfl (by decide) (by decide) (show decode M_Model_check.2.1 232 = .ok (.ireturn, 1) by decide +kernel)
                  · skip
                    exact V_sub [2] rfl (hJ229 b σ)
                · skip
                  exact V_sub [2] rfl (hJ229 b σ)
            · skip
              refine V_icmpge 185 213 rfl (show decode M_Model_check.2.1 182 = .ok (.if_icmp .ge 31, 3) by decide +kernel) rfl ?_ ?_
              · skip
                refine V_iload_n 186 rfl (show decode M_Model_check.2.1 185 = .ok (.iload_n 3, 1) by decide +kernel) 3 rfl ?_
                refine V_iconst 187 rfl (show decode M_Model_check.2.1 186 = .ok (.iconst 2, 1) by decide +kernel) (v := 2) rfl ?_
                refine V_iload_n 188 rfl (show decode M_Model_check.2.1 187 = .ok (.iload_n 1, 1) by decide +kernel) 1 rfl ?_
                refine V_imul 189 rfl (show decode M_Model_check.2.1 188 = .ok (.imul, 1) by decide +kernel) ?_
                refine V_icmpge 192 213 rfl (show decode M_Model_check.2.1 189 = .ok (.if_icmp .ge 24, 3) by decide +kernel) rfl ?_ ?_
                · skip
                  refine V_aload_n 193 rfl (show decode M_Model_check.2.1 192 = .ok (.aload_n 0, 1) by decide +kernel) 0 rfl ?_
                  refine V_get (j := 32) (v := vR (SR σ h0 32)) 196 rfl ck_Model (by decide) (by decide) (show decode M_Model_check.2.1 193 = .ok (.getfield 69, 3) by decide +kernel) wd_1536 rfl ?_
                  refine V_iload_n 197 rfl (show decode M_Model_check.2.1 196 = .ok (.iload_n 3, 1) by decide +kernel) 3 rfl ?_
                  refine V_ald_int 198 rfl (show decode M_Model_check.2.1 197 = .ok (.iaload, 1) by decide +kernel) ?_
                  refine V_aload_n 199 rfl (show decode M_Model_check.2.1 198 = .ok (.aload_n 0, 1) by decide +kernel) 0 rfl ?_
                  refine V_get (j := 34) (v := vR (SR σ h0 34)) 202 rfl ck_Model (by decide) (by decide) (show decode M_Model_check.2.1 199 = .ok (.getfield 72, 3) by decide +kernel) wd_1538 rfl ?_
                  refine V_iload_n 203 rfl (show decode M_Model_check.2.1 202 = .ok (.iload_n 3, 1) by decide +kernel) 3 rfl ?_
                  refine V_ald_int 204 rfl (show decode M_Model_check.2.1 203 = .ok (.iaload, 1) by decide +kernel) ?_
                  refine V_icmpne 207 213 rfl (show decode M_Model_check.2.1 204 = .ok (.if_icmp .ne 9, 3) by decide +kernel) rfl ?_ ?_
                  · skip
                    refine V_iinc (fun x3_19 => [(3, vI x3_19), (0, vR h0), (1, vI x1), (2, vI x2_1)]) 210 rfl (show decode M_Model_check.2.1 207 = .ok (.iinc 3 1, 3) by decide +kernel) 3 rfl (w := 1) rfl (by decide) (fun _ => rfl) (fun x3_19 => ?_)
                    refine V_goto 180 (show decode M_Model_check.2.1 210 = .ok (.goto (-30), 3) by decide +kernel) rfl ?_
                    exact V_sub [1, 2, 3, 0] rfl (hL180 x3_19 ((((b && cK σ h0 13) && cA σ (SR σ h0 32) 21 x3) && cK σ h0 13) && cA σ (SR σ h0 34) 21 x3) σ)
                  · skip
                    exact V_sub [1, 2, 3] rfl (hJ213 ((((b && cK σ h0 13) && cA σ (SR σ h0 32) 21 x3) && cK σ h0 13) && cA σ (SR σ h0 34) 21 x3) σ)
                · skip
                  exact V_sub [1, 2, 3] rfl (hJ213 b σ)
              · skip
                exact V_sub [1, 2, 3] rfl (hJ213 b σ)
theorem cal_Model_check (d mc ms k n : Nat) (h1 : 8 + 1 ≤ d) (h2 : k + 0 ≤ mc) (h3 : n + 0 ≤ ms) : Cal M_Model_check 8 0 0 1 d mc ms k n := ⟨wd_2065, wd_181, by decide, h1, by decide, h2, h3⟩
