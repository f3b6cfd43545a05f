/-! methods -/
abbrev M_World_walkingAtBelow : MD := (⟨"LongTrail$World", "walkingAtBelow", "(II)I"⟩, prog_12_method_6_code, 5, (some FieldType.int))
def b_World_walkingAtBelow_5 (h0 : Nat) (x1 : Int32) (x2 : Int32) (L5 : Int32 → Int32 → Bool → Sto → Rs Int32) (x3 : Int32) (x4 : Int32) (b : Bool) (σ : Sto) : Rs Int32 := (if x4 < x2 then (lt_ (fun (x3_42 : Int32) (b : Bool) (σ : Sto) => (lt_ (x4 + (1 : Int32)) (fun (x4_3 : Int32) => (L5 x3_42 x4_3 b σ)))) (fun J42 => (if (SI σ (SR σ (SR σ h0 6) (ix x4)) 5) = (1 : Int32) then (if (SI σ (SR σ (SR σ h0 6) (ix x4)) 6) = x1 then (lt_ (x3 + (1 : Int32)) (fun (x3_4 : Int32) => (J42 x3_4 ((((((b && cK σ h0 11) && cA σ (SR σ h0 6) 26 x4) && cK σ (SR σ (SR σ h0 6) (ix x4)) 10) && cK σ h0 11) && cA σ (SR σ h0 6) 26 x4) && cK σ (SR σ (SR σ h0 6) (ix x4)) 10) σ))) else (J42 x3 ((((((b && cK σ h0 11) && cA σ (SR σ h0 6) 26 x4) && cK σ (SR σ (SR σ h0 6) (ix x4)) 10) && cK σ h0 11) && cA σ (SR σ h0 6) 26 x4) && cK σ (SR σ (SR σ h0 6) (ix x4)) 10) σ)) else (J42 x3 (((b && cK σ h0 11) && cA σ (SR σ h0 6) 26 x4) && cK σ (SR σ (SR σ h0 6) (ix x4)) 10) σ)))) else (x3, b, σ))
def f_World_walkingAtBelow (h0 : Nat) (x1 : Int32) (x2 : Int32) (b : Bool) (σ : Sto) : Rs Int32 := (lt_ (0 : Int32) (fun (x3_1 : Int32) => (lt_ (0 : Int32) (fun (x4_2 : Int32) => (lp_ (b_World_walkingAtBelow_5 h0 x1 x2) (fun (x3 : Int32) (x4 : Int32) (b : Bool) (σ : Sto) => (0, false, σ)) fuel_ x3_1 x4_2 b σ)))))
set_option maxRecDepth 100000 in
set_option maxHeartbeats 4000000 in
theorem s_World_walkingAtBelow : ∀ (h0 : Nat) (x1 : Int32) (x2 : Int32) (b : Bool) (σ : Sto), Snd M_World_walkingAtBelow 1 0 0 [vR h0, vI x1, vI x2] b σ (tI (f_World_walkingAtBelow h0 x1 x2 b σ).1) (f_World_walkingAtBelow h0 x1 x2 b σ).2.1 (f_World_walkingAtBelow h0 x1 x2 b σ).2.2 := by
  intro h0 x1 x2 b σ
  refine Snd_of (tv := tI) (by decide) (Nat.le_of_ble_eq_true rfl) ?_
  show V M_World_walkingAtBelow 1 0 0 0 0 tI (f_World_walkingAtBelow h0 x1 x2 b σ) 0 [(0, vR h0), (1, vI x1), (2, vI x2)] [] b σ
  unfold f_World_walkingAtBelow
  refine V_iconst 1 rfl (show decode M_World_walkingAtBelow.2.1 0 = .ok (.iconst 0, 1) by decide +kernel) (v := 0) rfl ?_
  refine V_istore_n (fun x3_1 => [(3, vI x3_1), (0, vR h0), (1, vI x1), (2, vI x2)]) 2 rfl (show decode M_World_walkingAtBelow.2.1 1 = .ok (.istore_n 3, 1) by decide +kernel) (by decide) (fun _ => rfl) (fun x3_1 => ?_)
  refine V_iconst 3 rfl (show decode M_World_walkingAtBelow.2.1 2 = .ok (.iconst 0, 1) by decide +kernel) (v := 0) rfl ?_
  refine V_istore (fun x4_2 => [(4, vI x4_2), (3, vI x3_1), (0, vR h0), (1, vI x1), (2, vI x2)]) 5 rfl (show decode M_World_walkingAtBelow.2.1 3 = .ok (.istore 4, 2) by decide +kernel) (by decide) (fun _ => rfl) (fun x4_2 => ?_)
  refine V_sub [2, 3, 4, 1, 0] rfl ?_
  refine lp_P (fun (L5 : Int32 → Int32 → Bool → Sto → Rs Int32) => ∀ (x3 : Int32) (x4 : Int32) (b : Bool) (σ : Sto), V M_World_walkingAtBelow 1 0 0 0 0 tI (L5 x3 x4 b σ) 5 [(0, vR h0), (1, vI x1), (2, vI x2), (3, vI x3), (4, vI x4)] [] b σ) ?_ ?_ fuel_ x3_1 x4_2 b σ
  · intro x3 x4 b σ; exact V_bad
  · intro L5 hL5 x3 x4 b σ
    unfold b_World_walkingAtBelow_5
    refine V_iload 7 rfl (show decode M_World_walkingAtBelow.2.1 5 = .ok (.iload 4, 2) by decide +kernel) 4 rfl ?_
    refine V_iload_n 8 rfl (show decode M_World_walkingAtBelow.2.1 7 = .ok (.iload_n 2, 1) by decide +kernel) 2 rfl ?_
    refine V_icmpge 11 48 rfl (show decode M_World_walkingAtBelow.2.1 8 = .ok (.if_icmp .ge 40, 3) by decide +kernel) rfl ?_ ?_
    · skip
      refine V_aload_n 12 rfl (show decode M_World_walkingAtBelow.2.1 11 = .ok (.aload_n 0, 1) by decide +kernel) 0 rfl ?_
      refine V_get (j := 6) (v := vR (SR σ h0 6)) 15 rfl ck_World (by decide) (by decide) (show decode M_World_walkingAtBelow.2.1 12 = .ok (.getfield 53, 3) by decide +kernel) wd_509 rfl ?_
      refine V_iload 17 rfl (show decode M_World_walkingAtBelow.2.1 15 = .ok (.iload 4, 2) by decide +kernel) 4 rfl ?_
      refine V_ald_r26 18 rfl (show decode M_World_walkingAtBelow.2.1 17 = .ok (.aaload, 1) by decide +kernel) ?_
      refine V_getN (j := 5) (v := vI (SI σ (SR σ (SR σ h0 6) (ix x4)) 5)) 21 rfl ck_Walker (by decide) (by decide) (show decode M_World_walkingAtBelow.2.1 18 = .ok (.getfield 93, 3) by decide +kernel) wd_431 rfl ?_
      refine V_iconst 22 rfl (show decode M_World_walkingAtBelow.2.1 21 = .ok (.iconst 1, 1) by decide +kernel) (v := 1) rfl ?_
      refine V_jn (fun (J42 : Int32 → Bool → Sto → Rs Int32) => ∀ (x3_42 : Int32) (b : Bool) (σ : Sto), V M_World_walkingAtBelow 1 0 0 0 0 tI (J42 x3_42 b σ) 42 [(0, vR h0), (1, vI x1), (2, vI x2), (3, vI x3_42), (4, vI x4)] [] b σ) ?_ (fun J42 hJ42 => ?_)
      · intro x3_42 b σ
        refine V_iinc (fun x4_3 => [(4, vI x4_3), (0, vR h0), (1, vI x1), (2, vI x2), (3, vI x3_42)]) 45 rfl (show decode M_World_walkingAtBelow.2.1 42 = .ok (.iinc 4 1, 3) by decide +kernel) 4 rfl (w := 1) rfl (by decide) (fun _ => rfl) (fun x4_3 => ?_)
        refine V_goto 5 (show decode M_World_walkingAtBelow.2.1 45 = .ok (.goto (-40), 3) by decide +kernel) rfl ?_
        exact V_sub [1, 2, 3, 4, 0] rfl (hL5 x3_42 x4_3 b σ)
      · skip
        refine V_icmpne 25 42 rfl (show decode M_World_walkingAtBelow.2.1 22 = .ok (.if_icmp .ne 20, 3) by decide +kernel) rfl ?_ ?_
        · skip
          refine V_aload_n 26 rfl (show decode M_World_walkingAtBelow.2.1 25 = .ok (.aload_n 0, 1) by decide +kernel) 0 rfl ?_
          refine V_get (j := 6) (v := vR (SR σ h0 6)) 29 rfl ck_World (by decide) (by decide) (show decode M_World_walkingAtBelow.2.1 26 = .ok (.getfield 53, 3) by decide +kernel) wd_509 rfl ?_
          refine V_iload 31 rfl (show decode M_World_walkingAtBelow.2.1 29 = .ok (.iload 4, 2) by decide +kernel) 4 rfl ?_
          refine V_ald_r26 32 rfl (show decode M_World_walkingAtBelow.2.1 31 = .ok (.aaload, 1) by decide +kernel) ?_
          refine V_getN (j := 6) (v := vI (SI σ (SR σ (SR σ h0 6) (ix x4)) 6)) 35 rfl ck_Walker (by decide) (by decide) (show decode M_World_walkingAtBelow.2.1 32 = .ok (.getfield 100, 3) by decide +kernel) wd_434 rfl ?_
          refine V_iload_n 36 rfl (show decode M_World_walkingAtBelow.2.1 35 = .ok (.iload_n 1, 1) by decide +kernel) 1 rfl ?_
          refine V_icmpne 39 42 rfl (show decode M_World_walkingAtBelow.2.1 36 = .ok (.if_icmp .ne 6, 3) by decide +kernel) rfl ?_ ?_
          · skip
            refine V_iinc (fun x3_4 => [(3, vI x3_4), (0, vR h0), (1, vI x1), (2, vI x2), (4, vI x4)]) 42 rfl (show decode M_World_walkingAtBelow.2.1 39 = .ok (.iinc 3 1, 3) by decide +kernel) 3 rfl (w := 1) rfl (by decide) (fun _ => rfl) (fun x3_4 => ?_)
            exact V_sub [1, 2, 3, 0, 4] rfl (hJ42 x3_4 ((((((b && cK σ h0 11) && cA σ (SR σ h0 6) 26 x4) && cK σ (SR σ (SR σ h0 6) (ix x4)) 10) && cK σ h0 11) && cA σ (SR σ h0 6) 26 x4) && cK σ (SR σ (SR σ h0 6) (ix x4)) 10) σ)
          · skip
            exact V_sub [0, 1, 2, 3, 4] rfl (hJ42 x3 ((((((b && cK σ h0 11) && cA σ (SR σ h0 6) 26 x4) && cK σ (SR σ (SR σ h0 6) (ix x4)) 10) && cK σ h0 11) && cA σ (SR σ h0 6) 26 x4) && cK σ (SR σ (SR σ h0 6) (ix x4)) 10) σ)
        · skip
          exact V_sub [0, 1, 2, 3, 4] rfl (hJ42 x3 (((b && cK σ h0 11) && cA σ (SR σ h0 6) 26 x4) && cK σ (SR σ (SR σ h0 6) (ix x4)) 10) σ)
    · skip
      refine V_iload_n 49 rfl (show decode M_World_walkingAtBelow.2.1 48 = .ok (.iload_n 3, 1) by decide +kernel) 3 rfl ?_
      exact V_iret rfl (by decide) (by decide) (show decode M_World_walkingAtBelow.2.1 49 = .ok (.ireturn, 1) by decide +kernel)
theorem cal_World_walkingAtBelow (d mc ms k n : Nat) (h1 : 1 + 1 ≤ d) (h2 : k + 0 ≤ mc) (h3 : n + 0 ≤ ms) : Cal M_World_walkingAtBelow 1 0 0 2 d mc ms k n := ⟨wd_677, wd_171, by decide, h1, by decide, h2, h3⟩
abbrev M_World_walkingAt : MD := (⟨"LongTrail$World", "walkingAt", "(I)I"⟩, prog_12_method_5_code, 2, (some FieldType.int))
def f_World_walkingAt (h0 : Nat) (x1 : Int32) (b : Bool) (σ : Sto) : Rs Int32 := (bd_ (f_World_walkingAtBelow h0 x1 (SI σ h0 7) ((b && cK σ h0 11) && cK σ h0 11) σ) (fun (r_1 : Int32) (b_1 : Bool) (σ_1 : Sto) => (r_1, b_1, σ_1)))
set_option maxRecDepth 100000 in
set_option maxHeartbeats 4000000 in
theorem s_World_walkingAt : ∀ (h0 : Nat) (x1 : Int32) (b : Bool) (σ : Sto), Snd M_World_walkingAt 2 0 0 [vR h0, vI x1] b σ (tI (f_World_walkingAt h0 x1 b σ).1) (f_World_walkingAt h0 x1 b σ).2.1 (f_World_walkingAt h0 x1 b σ).2.2 := by
  intro h0 x1 b σ
  refine Snd_of (tv := tI) (by decide) (Nat.le_of_ble_eq_true rfl) ?_
  show V M_World_walkingAt 2 0 0 0 0 tI (f_World_walkingAt h0 x1 b σ) 0 [(0, vR h0), (1, vI x1)] [] b σ
  unfold f_World_walkingAt
  refine V_aload_n 1 rfl (show decode M_World_walkingAt.2.1 0 = .ok (.aload_n 0, 1) by decide +kernel) 0 rfl ?_
  refine V_iload_n 2 rfl (show decode M_World_walkingAt.2.1 1 = .ok (.iload_n 1, 1) by decide +kernel) 1 rfl ?_
  refine V_aload_n 3 rfl (show decode M_World_walkingAt.2.1 2 = .ok (.aload_n 0, 1) by decide +kernel) 0 rfl ?_
  refine V_get (j := 7) (v := vI (SI σ h0 7)) 6 rfl ck_World (by decide) (by decide) (show decode M_World_walkingAt.2.1 3 = .ok (.getfield 77, 3) by decide +kernel) wd_512 rfl ?_
  refine V_callV (tb := tI) (as := [vI x1, vI (SI σ h0 7)]) (rest := []) (na := 2) 9 rfl ck_World (by decide) (s_World_walkingAtBelow h0 x1 (SI σ h0 7) ((b && cK σ h0 11) && cK σ h0 11) σ) rfl rfl (Nat.le_of_ble_eq_true rfl) (cal_World_walkingAtBelow _ _ _ _ _ (by decide) (by decide) (by decide)) (show decode M_World_walkingAt.2.1 6 = .ok (.invokevirtual 96, 3) by decide +kernel) wd_674 wd_676 wd_7 (fun r_1 b_1 σ_1 => ?_)
  show V M_World_walkingAt 2 0 0 0 0 tI _ 9 [(0, vR h0), (1, vI x1)] [vI r_1] b_1 σ_1
  exact V_iret rfl (by decide) (by decide) (show decode M_World_walkingAt.2.1 9 = .ok (.ireturn, 1) by decide +kernel)
theorem cal_World_walkingAt (d mc ms k n : Nat) (h1 : 2 + 1 ≤ d) (h2 : k + 0 ≤ mc) (h3 : n + 0 ≤ ms) : Cal M_World_walkingAt 2 0 0 1 d mc ms k n := ⟨wd_673, wd_171, by decide, h1, by decide, h2, h3⟩
abbrev M_World_sleepAll : MD := (⟨"LongTrail$World", "sleepAll", "()I"⟩, prog_12_method_15_code, 5, (some FieldType.int))
def b_World_sleepAll_4 (h0 : Nat) (L4 : Int32 → Int32 → Bool → Sto → Rs Int32) (x1 : Int32) (x2 : Int32) (b : Bool) (σ : Sto) : Rs Int32 := (if x2 < (SI σ h0 7) then (lt_ (SR σ (SR σ h0 6) (ix x2)) (fun (h3_3 : Nat) => (lt_ (fun (x1_77 : Int32) (b : Bool) (σ : Sto) => (lt_ (x2 + (1 : Int32)) (fun (x2_4 : Int32) => (L4 x1_77 x2_4 b σ)))) (fun J77 => (if (SI σ h3_3 5) = (1 : Int32) then (bd_ (f_World_walkingAt h0 (SI σ h3_3 6) ((((((b && cK σ h0 11) && cK σ h0 11) && cA σ (SR σ h0 6) 26 x2) && cK σ h3_3 10) && cK σ h3_3 10) && cK σ h0 11) σ) (fun (r_5 : Int32) (b_5 : Bool) (σ_5 : Sto) => (lt_ r_5 (fun (x4_6 : Int32) => (lt_ (mxI x1 x4_6) (fun (x1_7 : Int32) => (bd_ (f_World_walkingAtBelow h0 (SI σ_5 h3_3 6) x2 ((b_5 && cK σ_5 h3_3 10) && cK σ_5 h0 11) σ_5) (fun (r_8 : Int32) (b_8 : Bool) (σ_8 : Sto) => (bd_ (f_Ground_bedsAt (SR σ_8 h0 0) (SI σ_8 h3_3 6) (((b_8 && cK σ_8 h0 11) && cK σ_8 h3_3 10) && cK σ_8 (SR σ_8 h0 0) 2) σ_8) (fun (r_9 : Int32) (b_9 : Bool) (σ_9 : Sto) => (if r_8 < r_9 then (J77 x1_7 b_9 σ_9) else (bd_ (f_World_sleepOut h0 h3_3 x4_6 (b_9 && cK σ_9 h0 11) σ_9) (fun (r_10 : Unit) (b_10 : Bool) (σ_10 : Sto) => (J77 x1_7 b_10 σ_10)))))))))))))) else (J77 x1 ((((b && cK σ h0 11) && cK σ h0 11) && cA σ (SR σ h0 6) 26 x2) && cK σ h3_3 10) σ)))))) else (x1, (b && cK σ h0 11), σ))
def f_World_sleepAll (h0 : Nat) (b : Bool) (σ : Sto) : Rs Int32 := (lt_ (0 : Int32) (fun (x1_1 : Int32) => (lt_ (0 : Int32) (fun (x2_2 : Int32) => (lp_ (b_World_sleepAll_4 h0) (fun (x1 : Int32) (x2 : Int32) (b : Bool) (σ : Sto) => (0, false, σ)) fuel_ x1_1 x2_2 b σ)))))
set_option maxRecDepth 100000 in
set_option maxHeartbeats 4000000 in
theorem s_World_sleepAll : ∀ (h0 : Nat) (b : Bool) (σ : Sto), Snd M_World_sleepAll 5 0 0 [vR h0] b σ (tI (f_World_sleepAll h0 b σ).1) (f_World_sleepAll h0 b σ).2.1 (f_World_sleepAll h0 b σ).2.2 := by
  intro h0 b σ
  refine Snd_of (tv := tI) (by decide) (Nat.le_of_ble_eq_true rfl) ?_
  show V M_World_sleepAll 5 0 0 0 0 tI (f_World_sleepAll h0 b σ) 0 [(0, vR h0)] [] b σ
  unfold f_World_sleepAll
  refine V_iconst 1 rfl (show decode M_World_sleepAll.2.1 0 = .ok (.iconst 0, 1) by decide +kernel) (v := 0) rfl ?_
  refine V_istore_n (fun x1_1 => [(1, vI x1_1), (0, vR h0)]) 2 rfl (show decode M_World_sleepAll.2.1 1 = .ok (.istore_n 1, 1) by decide +kernel) (by decide) (fun _ => rfl) (fun x1_1 => ?_)
  refine V_iconst 3 rfl (show decode M_World_sleepAll.2.1 2 = .ok (.iconst 0, 1) by decide +kernel) (v := 0) rfl ?_
  refine V_istore_n (fun x2_2 => [(2, vI x2_2), (1, vI x1_1), (0, vR h0)]) 4 rfl (show decode M_World_sleepAll.2.1 3 = .ok (.istore_n 2, 1) by decide +kernel) (by decide) (fun _ => rfl) (fun x2_2 => ?_)
  refine V_sub [2, 1, 0] rfl ?_
  refine lp_P (fun (L4 : Int32 → Int32 → Bool → Sto → Rs Int32) => ∀ (x1 : Int32) (x2 : Int32) (b : Bool) (σ : Sto), V M_World_sleepAll 5 0 0 0 0 tI (L4 x1 x2 b σ) 4 [(0, vR h0), (1, vI x1), (2, vI x2)] [] b σ) ?_ ?_ fuel_ x1_1 x2_2 b σ
  · intro x1 x2 b σ; exact V_bad
  · intro L4 hL4 x1 x2 b σ
    unfold b_World_sleepAll_4
    refine V_iload_n 5 rfl (show decode M_World_sleepAll.2.1 4 = .ok (.iload_n 2, 1) by decide +kernel) 2 rfl ?_
    refine V_aload_n 6 rfl (show decode M_World_sleepAll.2.1 5 = .ok (.aload_n 0, 1) by decide +kernel) 0 rfl ?_
    refine V_get (j := 7) (v := vI (SI σ h0 7)) 9 rfl ck_World (by decide) (by decide) (show decode M_World_sleepAll.2.1 6 = .ok (.getfield 77, 3) by decide +kernel) wd_512 rfl ?_
    refine V_icmpge 12 83 rfl (show decode M_World_sleepAll.2.1 9 = .ok (.if_icmp .ge 74, 3) by decide +kernel) rfl ?_ ?_
    · skip
      refine V_aload_n 13 rfl (show decode M_World_sleepAll.2.1 12 = .ok (.aload_n 0, 1) by decide +kernel) 0 rfl ?_
      refine V_get (j := 6) (v := vR (SR σ h0 6)) 16 rfl ck_World (by decide) (by decide) (show decode M_World_sleepAll.2.1 13 = .ok (.getfield 53, 3) by decide +kernel) wd_509 rfl ?_
      refine V_iload_n 17 rfl (show decode M_World_sleepAll.2.1 16 = .ok (.iload_n 2, 1) by decide +kernel) 2 rfl ?_
      refine V_ald_r26 18 rfl (show decode M_World_sleepAll.2.1 17 = .ok (.aaload, 1) by decide +kernel) ?_
      refine V_astore_n (fun h3_3 => [(3, vR h3_3), (0, vR h0), (1, vI x1), (2, vI x2)]) 19 rfl (show decode M_World_sleepAll.2.1 18 = .ok (.astore_n 3, 1) by decide +kernel) (by decide) (fun _ => rfl) (fun h3_3 => ?_)
      refine V_aload_n 20 rfl (show decode M_World_sleepAll.2.1 19 = .ok (.aload_n 3, 1) by decide +kernel) 0 rfl ?_
      refine V_getN (j := 5) (v := vI (SI σ h3_3 5)) 23 rfl ck_Walker (by decide) (by decide) (show decode M_World_sleepAll.2.1 20 = .ok (.getfield 93, 3) by decide +kernel) wd_431 rfl ?_
      refine V_iconst 24 rfl (show decode M_World_sleepAll.2.1 23 = .ok (.iconst 1, 1) by decide +kernel) (v := 1) rfl ?_
      refine V_jn (fun (J77 : Int32 → Bool → Sto → Rs Int32) => ∀ (x1_77 : Int32) (b : Bool) (σ : Sto), V M_World_sleepAll 5 0 0 0 0 tI (J77 x1_77 b σ) 77 [(0, vR h0), (1, vI x1_77), (2, vI x2)] [] b σ) ?_ (fun J77 hJ77 => ?_)
      · intro x1_77 b σ
        refine V_iinc (fun x2_4 => [(2, vI x2_4), (0, vR h0), (1, vI x1_77)]) 80 rfl (show decode M_World_sleepAll.2.1 77 = .ok (.iinc 2 1, 3) by decide +kernel) 2 rfl (w := 1) rfl (by decide) (fun _ => rfl) (fun x2_4 => ?_)
        refine V_goto 4 (show decode M_World_sleepAll.2.1 80 = .ok (.goto (-76), 3) by decide +kernel) rfl ?_
        exact V_sub [1, 2, 0] rfl (hL4 x1_77 x2_4 b σ)
      · skip
        refine V_icmpeq 27 30 rfl (show decode M_World_sleepAll.2.1 24 = .ok (.if_icmp .eq 6, 3) by decide +kernel) rfl ?_ ?_
        · skip
          refine V_aload_n 31 rfl (show decode M_World_sleepAll.2.1 30 = .ok (.aload_n 0, 1) by decide +kernel) 1 rfl ?_
          refine V_aload_n 32 rfl (show decode M_World_sleepAll.2.1 31 = .ok (.aload_n 3, 1) by decide +kernel) 0 rfl ?_
          refine V_getN (j := 6) (v := vI (SI σ h3_3 6)) 35 rfl ck_Walker (by decide) (by decide) (show decode M_World_sleepAll.2.1 32 = .ok (.getfield 100, 3) by decide +kernel) wd_434 rfl ?_
          refine V_callV (tb := tI) (as := [vI (SI σ h3_3 6)]) (rest := []) (na := 1) 38 rfl ck_World (by decide) (s_World_walkingAt h0 (SI σ h3_3 6) ((((((b && cK σ h0 11) && cK σ h0 11) && cA σ (SR σ h0 6) 26 x2) && cK σ h3_3 10) && cK σ h3_3 10) && cK σ h0 11) σ) rfl rfl (Nat.le_of_ble_eq_true rfl) (cal_World_walkingAt _ _ _ _ _ (by decide) (by decide) (by decide)) (show decode M_World_sleepAll.2.1 35 = .ok (.invokevirtual 228, 3) by decide +kernel) wd_1202 wd_672 wd_6 (fun r_5 b_5 σ_5 => ?_)
          show V M_World_sleepAll 5 0 0 0 0 tI _ 38 [(3, vR h3_3), (0, vR h0), (1, vI x1), (2, vI x2)] [vI r_5] b_5 σ_5
          refine V_istore (fun x4_6 => [(4, vI x4_6), (3, vR h3_3), (0, vR h0), (1, vI x1), (2, vI x2)]) 40 rfl (show decode M_World_sleepAll.2.1 38 = .ok (.istore 4, 2) by decide +kernel) (by decide) (fun _ => rfl) (fun x4_6 => ?_)
          refine V_iload_n 41 rfl (show decode M_World_sleepAll.2.1 40 = .ok (.iload_n 1, 1) by decide +kernel) 3 rfl ?_
          refine V_iload 43 rfl (show decode M_World_sleepAll.2.1 41 = .ok (.iload 4, 2) by decide +kernel) 0 rfl ?_
          refine V_max 46 rfl (show decode M_World_sleepAll.2.1 43 = .ok (.invokestatic 231, 3) by decide +kernel) wd_1203 wd_877 wd_186 wd_maxc (by decide) (Nat.le_of_ble_eq_true rfl) (by decide) (by decide) ?_
          refine V_istore_n (fun x1_7 => [(1, vI x1_7), (4, vI x4_6), (3, vR h3_3), (0, vR h0), (2, vI x2)]) 47 rfl (show decode M_World_sleepAll.2.1 46 = .ok (.istore_n 1, 1) by decide +kernel) (by decide) (fun _ => rfl) (fun x1_7 => ?_)
          refine V_aload_n 48 rfl (show decode M_World_sleepAll.2.1 47 = .ok (.aload_n 0, 1) by decide +kernel) 3 rfl ?_
          refine V_aload_n 49 rfl (show decode M_World_sleepAll.2.1 48 = .ok (.aload_n 3, 1) by decide +kernel) 2 rfl ?_
          refine V_getN (j := 6) (v := vI (SI σ_5 h3_3 6)) 52 rfl ck_Walker (by decide) (by decide) (show decode M_World_sleepAll.2.1 49 = .ok (.getfield 100, 3) by decide +kernel) wd_434 rfl ?_
          refine V_iload_n 53 rfl (show decode M_World_sleepAll.2.1 52 = .ok (.iload_n 2, 1) by decide +kernel) 4 rfl ?_
          refine V_callV (tb := tI) (as := [vI (SI σ_5 h3_3 6), vI x2]) (rest := []) (na := 2) 56 rfl ck_World (by decide) (s_World_walkingAtBelow h0 (SI σ_5 h3_3 6) x2 ((b_5 && cK σ_5 h3_3 10) && cK σ_5 h0 11) σ_5) rfl rfl (Nat.le_of_ble_eq_true rfl) (cal_World_walkingAtBelow _ _ _ _ _ (by decide) (by decide) (by decide)) (show decode M_World_sleepAll.2.1 53 = .ok (.invokevirtual 96, 3) by decide +kernel) wd_674 wd_676 wd_7 (fun r_8 b_8 σ_8 => ?_)
          show V M_World_sleepAll 5 0 0 0 0 tI _ 56 [(1, vI x1_7), (4, vI x4_6), (3, vR h3_3), (0, vR h0), (2, vI x2)] [vI r_8] b_8 σ_8
          refine V_aload_n 57 rfl (show decode M_World_sleepAll.2.1 56 = .ok (.aload_n 0, 1) by decide +kernel) 3 rfl ?_
          refine V_get (j := 0) (v := vR (SR σ_8 h0 0)) 60 rfl ck_World (by decide) (by decide) (show decode M_World_sleepAll.2.1 57 = .ok (.getfield 10, 3) by decide +kernel) wd_497 rfl ?_
          refine V_aload_n 61 rfl (show decode M_World_sleepAll.2.1 60 = .ok (.aload_n 3, 1) by decide +kernel) 2 rfl ?_
          refine V_getN (j := 6) (v := vI (SI σ_8 h3_3 6)) 64 rfl ck_Walker (by decide) (by decide) (show decode M_World_sleepAll.2.1 61 = .ok (.getfield 100, 3) by decide +kernel) wd_434 rfl ?_
          refine V_callVN (tb := tI) (as := [vI (SI σ_8 h3_3 6)]) (rest := [vI r_8]) (na := 1) 67 rfl ck_Ground (by decide) (s_Ground_bedsAt (SR σ_8 h0 0) (SI σ_8 h3_3 6) (((b_8 && cK σ_8 h0 11) && cK σ_8 h3_3 10) && cK σ_8 (SR σ_8 h0 0) 2) σ_8) rfl rfl (Nat.le_of_ble_eq_true rfl) (cal_Ground_bedsAt _ _ _ _ _ (by decide) (by decide) (by decide)) (show decode M_World_sleepAll.2.1 64 = .ok (.invokevirtual 234, 3) by decide +kernel) wd_1204 wd_1206 wd_70 (fun r_9 b_9 σ_9 => ?_)
          show V M_World_sleepAll 5 0 0 0 0 tI _ 67 [(1, vI x1_7), (4, vI x4_6), (3, vR h3_3), (0, vR h0), (2, vI x2)] [vI r_9, vI r_8] b_9 σ_9
          refine V_icmplt 70 77 rfl (show decode M_World_sleepAll.2.1 67 = .ok (.if_icmp .lt 10, 3) by decide +kernel) rfl ?_ ?_
          · skip
            exact V_sub [3, 0, 4] rfl (hJ77 x1_7 b_9 σ_9)
          · skip
            refine V_aload_n 71 rfl (show decode M_World_sleepAll.2.1 70 = .ok (.aload_n 0, 1) by decide +kernel) 3 rfl ?_
            refine V_aload_n 72 rfl (show decode M_World_sleepAll.2.1 71 = .ok (.aload_n 3, 1) by decide +kernel) 2 rfl ?_
            refine V_iload 74 rfl (show decode M_World_sleepAll.2.1 72 = .ok (.iload 4, 2) by decide +kernel) 1 rfl ?_
            refine V_callV (tb := tU) (as := [vR h3_3, vI x4_6]) (rest := []) (na := 2) 77 rfl ck_World (by decide) (s_World_sleepOut h0 h3_3 x4_6 (b_9 && cK σ_9 h0 11) σ_9) rfl rfl (Nat.le_of_ble_eq_true rfl) (cal_World_sleepOut _ _ _ _ _ (by decide) (by decide) (by decide)) (show decode M_World_sleepAll.2.1 74 = .ok (.invokevirtual 237, 3) by decide +kernel) wd_1209 wd_1211 wd_71 (fun r_10 b_10 σ_10 => ?_)
            show V M_World_sleepAll 5 0 0 0 0 tI _ 77 [(1, vI x1_7), (4, vI x4_6), (3, vR h3_3), (0, vR h0), (2, vI x2)] [] b_10 σ_10
            exact V_sub [3, 0, 4] rfl (hJ77 x1_7 b_10 σ_10)
        · skip
          refine V_goto 77 (show decode M_World_sleepAll.2.1 27 = .ok (.goto 50, 3) by decide +kernel) rfl ?_
          exact V_sub [1, 2, 3] rfl (hJ77 x1 ((((b && cK σ h0 11) && cK σ h0 11) && cA σ (SR σ h0 6) 26 x2) && cK σ h3_3 10) σ)
    · skip
      refine V_iload_n 84 rfl (show decode M_World_sleepAll.2.1 83 = .ok (.iload_n 1, 1) by decide +kernel) 1 rfl ?_
      exact V_iret rfl (by decide) (by decide) (show decode M_World_sleepAll.2.1 84 = .ok (.ireturn, 1) by decide +kernel)
theorem cal_World_sleepAll (d mc ms k n : Nat) (h1 : 5 + 1 ≤ d) (h2 : k + 0 ≤ mc) (h3 : n + 0 ≤ ms) : Cal M_World_sleepAll 5 0 0 0 d mc ms k n := ⟨wd_1201, wd_171, by decide, h1, by decide, h2, h3⟩
abbrev M_Walker_endWalk : MD := (⟨"LongTrail$Walker", "endWalk", "()V"⟩, prog_11_method_9_code, 1, (none : Option FieldType))
def f_Walker_endWalk (h0 : Nat) (b : Bool) (σ : Sto) : Rs Unit := (lt_ (fun (s0_18 : Int32) (s1_18 : Nat) (b : Bool) (σ : Sto) => (lt_ (pI σ s1_18 8 s0_18) (fun (σ_1 : Sto) => (lt_ (pI σ_1 h0 7 (mxI (0 : Int32) ((SI σ_1 h0 7) - (1 : Int32)))) (fun (σ_2 : Sto) => (lt_ (pI σ_2 h0 11 ((SI σ_2 h0 11) + (1 : Int32))) (fun (σ_3 : Sto) => (lt_ (fun (b : Bool) (σ : Sto) => (if (SI σ h0 4) < (SI σ h0 10) then (lt_ (pI σ h0 9 ((SI σ h0 9) + (1 : Int32))) (fun (σ_4 : Sto) => ((), ((((b && cK σ h0 10) && cK σ h0 10) && cK σ h0 10) && cK σ h0 10), σ_4))) else ((), ((b && cK σ h0 10) && cK σ h0 10), σ))) (fun J73 => (if ((SI σ_3 h0 11) - (SI σ_3 h0 11) / (7 : Int32) * (7 : Int32)) = 0 then (lt_ (pI σ_3 h0 1 (mnI (40 : Int32) ((SI σ_3 h0 1) + (SI σ_3 h0 2)))) (fun (σ_5 : Sto) => (J73 ((((((((((b && cK σ s1_18 10) && cK σ_1 h0 10) && cK σ_1 h0 10) && cK σ_2 h0 10) && cK σ_2 h0 10) && cK σ_3 h0 10) && !decide ((7 : Int32) = 0)) && cK σ_3 h0 10) && cK σ_3 h0 10) && cK σ_3 h0 10) σ_5))) else (J73 (((((((b && cK σ s1_18 10) && cK σ_1 h0 10) && cK σ_1 h0 10) && cK σ_2 h0 10) && cK σ_2 h0 10) && cK σ_3 h0 10) && !decide ((7 : Int32) = 0)) σ_3))))))))))) (fun J18 => (if 0 < (SI σ h0 7) then (J18 (0 : Int32) h0 (b && cK σ h0 10) σ) else (J18 ((SI σ h0 8) + (1 : Int32)) h0 ((b && cK σ h0 10) && cK σ h0 10) σ))))
set_option maxRecDepth 100000 in
set_option maxHeartbeats 4000000 in
theorem s_Walker_endWalk : ∀ (h0 : Nat) (b : Bool) (σ : Sto), Snd M_Walker_endWalk 1 0 0 [vR h0] b σ (tU (f_Walker_endWalk h0 b σ).1) (f_Walker_endWalk h0 b σ).2.1 (f_Walker_endWalk h0 b σ).2.2 := by
  intro h0 b σ
  refine Snd_of (tv := tU) (by decide) (Nat.le_of_ble_eq_true rfl) ?_
  show V M_Walker_endWalk 1 0 0 0 0 tU (f_Walker_endWalk h0 b σ) 0 [(0, vR h0)] [] b σ
  unfold f_Walker_endWalk
  refine V_aload_n 1 rfl (show decode M_Walker_endWalk.2.1 0 = .ok (.aload_n 0, 1) by decide +kernel) 0 rfl ?_
  refine V_aload_n 2 rfl (show decode M_Walker_endWalk.2.1 1 = .ok (.aload_n 0, 1) by decide +kernel) 0 rfl ?_
  refine V_get (j := 7) (v := vI (SI σ h0 7)) 5 rfl ck_Walker (by decide) (by decide) (show decode M_Walker_endWalk.2.1 2 = .ok (.getfield 31, 3) by decide +kernel) wd_436 rfl ?_
  refine V_jn (fun (J18 : Int32 → Nat → Bool → Sto → Rs Unit) => ∀ (s0_18 : Int32) (s1_18 : Nat) (b : Bool) (σ : Sto), V M_Walker_endWalk 1 0 0 0 0 tU (J18 s0_18 s1_18 b σ) 18 [(0, vR h0)] [vI s0_18, vR s1_18] b σ) ?_ (fun J18 hJ18 => ?_)
  · intro s0_18 s1_18 b σ
    refine V_putI (j := 8) 21 rfl ck_Walker (by decide) (by decide) (show decode M_Walker_endWalk.2.1 18 = .ok (.putfield 34, 3) by decide +kernel) wd_439 rfl (fun _ => rfl) rfl rfl (fun σ_1 => ?_)
    refine V_aload_n 22 rfl (show decode M_Walker_endWalk.2.1 21 = .ok (.aload_n 0, 1) by decide +kernel) 0 rfl ?_
    refine V_iconst 23 rfl (show decode M_Walker_endWalk.2.1 22 = .ok (.iconst 0, 1) by decide +kernel) (v := 0) rfl ?_
    refine V_aload_n 24 rfl (show decode M_Walker_endWalk.2.1 23 = .ok (.aload_n 0, 1) by decide +kernel) 0 rfl ?_
    refine V_get (j := 7) (v := vI (SI σ_1 h0 7)) 27 rfl ck_Walker (by decide) (by decide) (show decode M_Walker_endWalk.2.1 24 = .ok (.getfield 31, 3) by decide +kernel) wd_436 rfl ?_
    refine V_iconst 28 rfl (show decode M_Walker_endWalk.2.1 27 = .ok (.iconst 1, 1) by decide +kernel) (v := 1) rfl ?_
    refine V_isub 29 rfl (show decode M_Walker_endWalk.2.1 28 = .ok (.isub, 1) by decide +kernel) ?_
    refine V_max 32 rfl (show decode M_Walker_endWalk.2.1 29 = .ok (.invokestatic 70, 3) by decide +kernel) wd_1183 wd_877 wd_186 wd_maxc (by decide) (Nat.le_of_ble_eq_true rfl) (by decide) (by decide) ?_
    refine V_putI (j := 7) 35 rfl ck_Walker (by decide) (by decide) (show decode M_Walker_endWalk.2.1 32 = .ok (.putfield 31, 3) by decide +kernel) wd_436 rfl (fun _ => rfl) rfl rfl (fun σ_2 => ?_)
    refine V_aload_n 36 rfl (show decode M_Walker_endWalk.2.1 35 = .ok (.aload_n 0, 1) by decide +kernel) 0 rfl ?_
    refine V_dup 37 rfl (show decode M_Walker_endWalk.2.1 36 = .ok (.dup, 1) by decide +kernel) rfl ?_
    refine V_get (j := 11) (v := vI (SI σ_2 h0 11)) 40 rfl ck_Walker (by decide) (by decide) (show decode M_Walker_endWalk.2.1 37 = .ok (.getfield 43, 3) by decide +kernel) wd_444 rfl ?_
    refine V_iconst 41 rfl (show decode M_Walker_endWalk.2.1 40 = .ok (.iconst 1, 1) by decide +kernel) (v := 1) rfl ?_
    refine V_iadd 42 rfl (show decode M_Walker_endWalk.2.1 41 = .ok (.iadd, 1) by decide +kernel) ?_
    refine V_putI (j := 11) 45 rfl ck_Walker (by decide) (by decide) (show decode M_Walker_endWalk.2.1 42 = .ok (.putfield 43, 3) by decide +kernel) wd_444 rfl (fun _ => rfl) rfl rfl (fun σ_3 => ?_)
    refine V_aload_n 46 rfl (show decode M_Walker_endWalk.2.1 45 = .ok (.aload_n 0, 1) by decide +kernel) 0 rfl ?_
    refine V_get (j := 11) (v := vI (SI σ_3 h0 11)) 49 rfl ck_Walker (by decide) (by decide) (show decode M_Walker_endWalk.2.1 46 = .ok (.getfield 43, 3) by decide +kernel) wd_444 rfl ?_
    refine V_bipush 51 rfl (show decode M_Walker_endWalk.2.1 49 = .ok (.bipush 7, 2) by decide +kernel) (v := 7) rfl ?_
    refine V_irem 52 rfl (show decode M_Walker_endWalk.2.1 51 = .ok (.irem, 1) by decide +kernel) ?_
    refine V_jn (fun (J73 : Bool → Sto → Rs Unit) => ∀ (b : Bool) (σ : Sto), V M_Walker_endWalk 1 0 0 0 0 tU (J73 b σ) 73 [(0, vR h0)] [] b σ) ?_ (fun J73 hJ73 => ?_)
    · intro b σ
      refine V_aload_n 74 rfl (show decode M_Walker_endWalk.2.1 73 = .ok (.aload_n 0, 1) by decide +kernel) 0 rfl ?_
      refine V_get (j := 10) (v := vI (SI σ h0 10)) 77 rfl ck_Walker (by decide) (by decide) (show decode M_Walker_endWalk.2.1 74 = .ok (.getfield 40, 3) by decide +kernel) wd_443 rfl ?_
      refine V_aload_n 78 rfl (show decode M_Walker_endWalk.2.1 77 = .ok (.aload_n 0, 1) by decide +kernel) 0 rfl ?_
      refine V_get (j := 4) (v := vI (SI σ h0 4)) 81 rfl ck_Walker (by decide) (by decide) (show decode M_Walker_endWalk.2.1 78 = .ok (.getfield 22, 3) by decide +kernel) wd_429 rfl ?_
      refine V_icmple 84 94 rfl (show decode M_Walker_endWalk.2.1 81 = .ok (.if_icmp .le 13, 3) by decide +kernel) rfl ?_ ?_
      · skip
        refine V_aload_n 85 rfl (show decode M_Walker_endWalk.2.1 84 = .ok (.aload_n 0, 1) by decide +kernel) 0 rfl ?_
        refine V_dup 86 rfl (show decode M_Walker_endWalk.2.1 85 = .ok (.dup, 1) by decide +kernel) rfl ?_
        refine V_get (j := 9) (v := vI (SI σ h0 9)) 89 rfl ck_Walker (by decide) (by decide) (show decode M_Walker_endWalk.2.1 86 = .ok (.getfield 37, 3) by decide +kernel) wd_441 rfl ?_
        refine V_iconst 90 rfl (show decode M_Walker_endWalk.2.1 89 = .ok (.iconst 1, 1) by decide +kernel) (v := 1) rfl ?_
        refine V_iadd 91 rfl (show decode M_Walker_endWalk.2.1 90 = .ok (.iadd, 1) by decide +kernel) ?_
        refine V_putI (j := 9) 94 rfl ck_Walker (by decide) (by decide) (show decode M_Walker_endWalk.2.1 91 = .ok (.putfield 37, 3) by decide +kernel) wd_441 rfl (fun _ => rfl) rfl rfl (fun σ_4 => ?_)
        exact V_vret rfl (by decide) (by decide) (show decode M_Walker_endWalk.2.1 94 = .ok (.return_, 1) by decide +kernel)
      · skip
        exact V_vret rfl (by decide) (by decide) (show decode M_Walker_endWalk.2.1 94 = .ok (.return_, 1) by decide +kernel)
    · skip
      refine V_ifne 55 73 rfl (show decode M_Walker_endWalk.2.1 52 = .ok (.ifCond .ne 21, 3) by decide +kernel) rfl ?_ ?_
      · skip
        refine V_aload_n 56 rfl (show decode M_Walker_endWalk.2.1 55 = .ok (.aload_n 0, 1) by decide +kernel) 0 rfl ?_
        refine V_bipush 58 rfl (show decode M_Walker_endWalk.2.1 56 = .ok (.bipush 40, 2) by decide +kernel) (v := 40) rfl ?_
        refine V_aload_n 59 rfl (show decode M_Walker_endWalk.2.1 58 = .ok (.aload_n 0, 1) by decide +kernel) 0 rfl ?_
        refine V_get (j := 1) (v := vI (SI σ_3 h0 1)) 62 rfl ck_Walker (by decide) (by decide) (show decode M_Walker_endWalk.2.1 59 = .ok (.getfield 13, 3) by decide +kernel) wd_425 rfl ?_
        refine V_aload_n 63 rfl (show decode M_Walker_endWalk.2.1 62 = .ok (.aload_n 0, 1) by decide +kernel) 0 rfl ?_
        refine V_get (j := 2) (v := vI (SI σ_3 h0 2)) 66 rfl ck_Walker (by decide) (by decide) (show decode M_Walker_endWalk.2.1 63 = .ok (.getfield 16, 3) by decide +kernel) wd_427 rfl ?_
        refine V_iadd 67 rfl (show decode M_Walker_endWalk.2.1 66 = .ok (.iadd, 1) by decide +kernel) ?_
        refine V_min 70 rfl (show decode M_Walker_endWalk.2.1 67 = .ok (.invokestatic 64, 3) by decide +kernel) wd_1049 wd_880 wd_186 wd_minc (by decide) (Nat.le_of_ble_eq_true rfl) (by decide) (by decide) ?_
        refine V_putI (j := 1) 73 rfl ck_Walker (by decide) (by decide) (show decode M_Walker_endWalk.2.1 70 = .ok (.putfield 13, 3) by decide +kernel) wd_425 rfl (fun _ => rfl) rfl rfl (fun σ_5 => ?_)
        exact V_sub [0] rfl (hJ73 ((((((((((b && cK σ s1_18 10) && cK σ_1 h0 10) && cK σ_1 h0 10) && cK σ_2 h0 10) && cK σ_2 h0 10) && cK σ_3 h0 10) && !decide ((7 : Int32) = 0)) && cK σ_3 h0 10) && cK σ_3 h0 10) && cK σ_3 h0 10) σ_5)
      · skip
        exact V_sub [0] rfl (hJ73 (((((((b && cK σ s1_18 10) && cK σ_1 h0 10) && cK σ_1 h0 10) && cK σ_2 h0 10) && cK σ_2 h0 10) && cK σ_3 h0 10) && !decide ((7 : Int32) = 0)) σ_3)
  · skip
    refine V_ifle 8 12 rfl (show decode M_Walker_endWalk.2.1 5 = .ok (.ifCond .le 7, 3) by decide +kernel) rfl ?_ ?_
    · skip
      refine V_iconst 9 rfl (show decode M_Walker_endWalk.2.1 8 = .ok (.iconst 0, 1) by decide +kernel) (v := 0) rfl ?_
      refine V_goto 18 (show decode M_Walker_endWalk.2.1 9 = .ok (.goto 9, 3) by decide +kernel) rfl ?_
      exact V_sub [0] rfl (hJ18 (0 : Int32) h0 (b && cK σ h0 10) σ)
    · skip
      refine V_aload_n 13 rfl (show decode M_Walker_endWalk.2.1 12 = .ok (.aload_n 0, 1) by decide +kernel) 0 rfl ?_
      refine V_get (j := 8) (v := vI (SI σ h0 8)) 16 rfl ck_Walker (by decide) (by decide) (show decode M_Walker_endWalk.2.1 13 = .ok (.getfield 34, 3) by decide +kernel) wd_439 rfl ?_
      refine V_iconst 17 rfl (show decode M_Walker_endWalk.2.1 16 = .ok (.iconst 1, 1) by decide +kernel) (v := 1) rfl ?_
      refine V_iadd 18 rfl (show decode M_Walker_endWalk.2.1 17 = .ok (.iadd, 1) by decide +kernel) ?_
      exact V_sub [0] rfl (hJ18 ((SI σ h0 8) + (1 : Int32)) h0 ((b && cK σ h0 10) && cK σ h0 10) σ)
theorem cal_Walker_endWalk (d mc ms k n : Nat) (h1 : 1 + 1 ≤ d) (h2 : k + 0 ≤ mc) (h3 : n + 0 ≤ ms) : Cal M_Walker_endWalk 1 0 0 0 d mc ms k n := ⟨wd_1182, wd_178, by decide, h1, by decide, h2, h3⟩
abbrev M_Laws_nameFour : MD := (⟨"LongTrail$Laws", "nameFour", "(IIII)V"⟩, prog_4_method_7_code, 5, (none : Option FieldType))
def f_Laws_nameFour (h0 : Nat) (x1 : Int32) (x2 : Int32) (x3 : Int32) (x4 : Int32) (b : Bool) (σ : Sto) : Rs Unit := (bd_ (f_Laws_nameTwo h0 x1 x2 (b && cK σ h0 3) σ) (fun (r_1 : Unit) (b_1 : Bool) (σ_1 : Sto) => (lt_ (pI σ_1 (SR σ_1 h0 2) (ix (2 : Int32)) x3) (fun (σ_2 : Sto) => (lt_ (pI σ_2 (SR σ_2 h0 2) (ix (3 : Int32)) x4) (fun (σ_3 : Sto) => ((), ((((b_1 && cK σ_1 h0 3) && cA σ_1 (SR σ_1 h0 2) 21 (2 : Int32)) && cK σ_2 h0 3) && cA σ_2 (SR σ_2 h0 2) 21 (3 : Int32)), σ_3)))))))
set_option maxRecDepth 100000 in
set_option maxHeartbeats 4000000 in
theorem s_Laws_nameFour : ∀ (h0 : Nat) (x1 : Int32) (x2 : Int32) (x3 : Int32) (x4 : Int32) (b : Bool) (σ : Sto), Snd M_Laws_nameFour 2 0 0 [vR h0, vI x1, vI x2, vI x3, vI x4] b σ (tU (f_Laws_nameFour h0 x1 x2 x3 x4 b σ).1) (f_Laws_nameFour h0 x1 x2 x3 x4 b σ).2.1 (f_Laws_nameFour h0 x1 x2 x3 x4 b σ).2.2 := by
  intro h0 x1 x2 x3 x4 b σ
  refine Snd_of (tv := tU) (by decide) (Nat.le_of_ble_eq_true rfl) ?_
  show V M_Laws_nameFour 2 0 0 0 0 tU (f_Laws_nameFour h0 x1 x2 x3 x4 b σ) 0 [(0, vR h0), (1, vI x1), (2, vI x2), (3, vI x3), (4, vI x4)] [] b σ
  unfold f_Laws_nameFour
  refine V_aload_n 1 rfl (show decode M_Laws_nameFour.2.1 0 = .ok (.aload_n 0, 1) by decide +kernel) 0 rfl ?_
  refine V_iload_n 2 rfl (show decode M_Laws_nameFour.2.1 1 = .ok (.iload_n 1, 1) by decide +kernel) 1 rfl ?_
  refine V_iload_n 3 rfl (show decode M_Laws_nameFour.2.1 2 = .ok (.iload_n 2, 1) by decide +kernel) 2 rfl ?_
  refine V_callV (tb := tU) (as := [vI x1, vI x2]) (rest := []) (na := 2) 6 rfl ck_Laws (by decide) (s_Laws_nameTwo h0 x1 x2 (b && cK σ h0 3) σ) rfl rfl (Nat.le_of_ble_eq_true rfl) (cal_Laws_nameTwo _ _ _ _ _ (by decide) (by decide) (by decide)) (show decode M_Laws_nameFour.2.1 3 = .ok (.invokevirtual 43, 3) by decide +kernel) wd_1192 wd_1128 wd_54 (fun r_1 b_1 σ_1 => ?_)
  show V M_Laws_nameFour 2 0 0 0 0 tU _ 6 [(0, vR h0), (1, vI x1), (2, vI x2), (3, vI x3), (4, vI x4)] [] b_1 σ_1
  refine V_aload_n 7 rfl (show decode M_Laws_nameFour.2.1 6 = .ok (.aload_n 0, 1) by decide +kernel) 0 rfl ?_
  refine V_get (j := 2) (v := vR (SR σ_1 h0 2)) 10 rfl ck_Laws (by decide) (by decide) (show decode M_Laws_nameFour.2.1 7 = .ok (.getfield 15, 3) by decide +kernel) wd_277 rfl ?_
  refine V_iconst 11 rfl (show decode M_Laws_nameFour.2.1 10 = .ok (.iconst 2, 1) by decide +kernel) (v := 2) rfl ?_
  refine V_iload_n 12 rfl (show decode M_Laws_nameFour.2.1 11 = .ok (.iload_n 3, 1) by decide +kernel) 3 rfl ?_
  refine V_ast_int 13 rfl (show decode M_Laws_nameFour.2.1 12 = .ok (.iastore, 1) by decide +kernel) (fun σ_2 => ?_)
  refine V_aload_n 14 rfl (show decode M_Laws_nameFour.2.1 13 = .ok (.aload_n 0, 1) by decide +kernel) 0 rfl ?_
  refine V_get (j := 2) (v := vR (SR σ_2 h0 2)) 17 rfl ck_Laws (by decide) (by decide) (show decode M_Laws_nameFour.2.1 14 = .ok (.getfield 15, 3) by decide +kernel) wd_277 rfl ?_
  refine V_iconst 18 rfl (show decode M_Laws_nameFour.2.1 17 = .ok (.iconst 3, 1) by decide +kernel) (v := 3) rfl ?_
  refine V_iload 20 rfl (show decode M_Laws_nameFour.2.1 18 = .ok (.iload 4, 2) by decide +kernel) 4 rfl ?_
  refine V_ast_int 21 rfl (show decode M_Laws_nameFour.2.1 20 = .ok (.iastore, 1) by decide +kernel) (fun σ_3 => ?_)
  exact V_vret rfl (by decide) (by decide) (show decode M_Laws_nameFour.2.1 21 = .ok (.return_, 1) by decide +kernel)
theorem cal_Laws_nameFour (d mc ms k n : Nat) (h1 : 2 + 1 ≤ d) (h2 : k + 0 ≤ mc) (h3 : n + 0 ≤ ms) : Cal M_Laws_nameFour 2 0 0 4 d mc ms k n := ⟨wd_1191, wd_173, by decide, h1, by decide, h2, h3⟩
abbrev M_Post_isOpenFor : MD := (⟨"LongTrail$Post", "isOpenFor", "(II)Z"⟩, prog_6_method_5_code, 3, (some FieldType.boolean))
def f_Post_isOpenFor (h0 : Nat) (x1 : Int32) (x2 : Int32) (b : Bool) (σ : Sto) : Rs Int32 := (lt_ (fun (b : Bool) (σ : Sto) => ((0 : Int32), b, σ)) (fun J23 => (if (SI σ (SR σ h0 4) (ix x1)) = 0 then (if (SI σ (SR σ h0 0) (ix x1)) = x2 then ((1 : Int32), ((((b && cK σ h0 5) && cA σ (SR σ h0 4) 21 x1) && cK σ h0 5) && cA σ (SR σ h0 0) 21 x1), σ) else (J23 ((((b && cK σ h0 5) && cA σ (SR σ h0 4) 21 x1) && cK σ h0 5) && cA σ (SR σ h0 0) 21 x1) σ)) else (J23 ((b && cK σ h0 5) && cA σ (SR σ h0 4) 21 x1) σ))))
set_option maxRecDepth 100000 in
set_option maxHeartbeats 4000000 in
theorem s_Post_isOpenFor : ∀ (h0 : Nat) (x1 : Int32) (x2 : Int32) (b : Bool) (σ : Sto), Snd M_Post_isOpenFor 1 0 0 [vR h0, vI x1, vI x2] b σ (tI (f_Post_isOpenFor h0 x1 x2 b σ).1) (f_Post_isOpenFor h0 x1 x2 b σ).2.1 (f_Post_isOpenFor h0 x1 x2 b σ).2.2 := by
  intro h0 x1 x2 b σ
  refine Snd_of (tv := tI) (by decide) (Nat.le_of_ble_eq_true rfl) ?_
  show V M_Post_isOpenFor 1 0 0 0 0 tI (f_Post_isOpenFor h0 x1 x2 b σ) 0 [(0, vR h0), (1, vI x1), (2, vI x2)] [] b σ
  unfold f_Post_isOpenFor
  refine V_aload_n 1 rfl (show decode M_Post_isOpenFor.2.1 0 = .ok (.aload_n 0, 1) by decide +kernel) 0 rfl ?_
  refine V_get (j := 4) (v := vR (SR σ h0 4)) 4 rfl ck_Post (by decide) (by decide) (show decode M_Post_isOpenFor.2.1 1 = .ok (.getfield 22, 3) by decide +kernel) wd_305 rfl ?_
  refine V_iload_n 5 rfl (show decode M_Post_isOpenFor.2.1 4 = .ok (.iload_n 1, 1) by decide +kernel) 1 rfl ?_
  refine V_ald_int 6 rfl (show decode M_Post_isOpenFor.2.1 5 = .ok (.iaload, 1) by decide +kernel) ?_
  refine V_jn (fun (J23 : Bool → Sto → Rs Int32) => ∀ (b : Bool) (σ : Sto), V M_Post_isOpenFor 1 0 0 0 0 tI (J23 b σ) 23 [] [] b σ) ?_ (fun J23 hJ23 => ?_)
  · intro b σ
    refine V_iconst 24 rfl (show decode M_Post_isOpenFor.2.1 23 = .ok (.iconst 0, 1) by decide +kernel) (v := 0) rfl ?_
    exact V_zret rfl (by decide) (by decide) rfl (show decode M_Post_isOpenFor.2.1 24 = .ok (.ireturn, 1) by decide +kernel)
  · skip
    refine V_ifne 9 23 rfl (show decode M_Post_isOpenFor.2.1 6 = .ok (.ifCond .ne 17, 3) by decide +kernel) rfl ?_ ?_
    · skip
      refine V_aload_n 10 rfl (show decode M_Post_isOpenFor.2.1 9 = .ok (.aload_n 0, 1) by decide +kernel) 0 rfl ?_
      refine V_get (j := 0) (v := vR (SR σ h0 0)) 13 rfl ck_Post (by decide) (by decide) (show decode M_Post_isOpenFor.2.1 10 = .ok (.getfield 9, 3) by decide +kernel) wd_297 rfl ?_
      refine V_iload_n 14 rfl (show decode M_Post_isOpenFor.2.1 13 = .ok (.iload_n 1, 1) by decide +kernel) 1 rfl ?_
      refine V_ald_int 15 rfl (show decode M_Post_isOpenFor.2.1 14 = .ok (.iaload, 1) by decide +kernel) ?_
      refine V_iload_n 16 rfl (show decode M_Post_isOpenFor.2.1 15 = .ok (.iload_n 2, 1) by decide +kernel) 2 rfl ?_
      refine V_icmpne 19 23 rfl (show decode M_Post_isOpenFor.2.1 16 = .ok (.if_icmp .ne 7, 3) by decide +kernel) rfl ?_ ?_
      · skip
        refine V_iconst 20 rfl (show decode M_Post_isOpenFor.2.1 19 = .ok (.iconst 1, 1) by decide +kernel) (v := 1) rfl ?_
        refine V_goto 24 (show decode M_Post_isOpenFor.2.1 20 = .ok (.goto 4, 3) by decide +kernel) rfl ?_
        exact V_zret rfl (by decide) (by decide) rfl (show decode M_Post_isOpenFor.2.1 24 = .ok (.ireturn, 1) by decide +kernel)
      · skip
        exact V_sub [] rfl (hJ23 ((((b && cK σ h0 5) && cA σ (SR σ h0 4) 21 x1) && cK σ h0 5) && cA σ (SR σ h0 0) 21 x1) σ)
    · skip
      exact V_sub [] rfl (hJ23 ((b && cK σ h0 5) && cA σ (SR σ h0 4) 21 x1) σ)
theorem cal_Post_isOpenFor (d mc ms k n : Nat) (h1 : 1 + 1 ≤ d) (h2 : k + 0 ≤ mc) (h3 : n + 0 ≤ ms) : Cal M_Post_isOpenFor 1 0 0 2 d mc ms k n := ⟨wd_1028, wd_174, by decide, h1, by decide, h2, h3⟩
abbrev M_Post_giveOnAll : MD := (⟨"LongTrail$Post", "giveOnAll", "(I)V"⟩, prog_6_method_13_code, 3, (none : Option FieldType))
def b_Post_giveOnAll_2 (h0 : Nat) (x1 : Int32) (L2 : Int32 → Bool → Sto → Rs Unit) (x2 : Int32) (b : Bool) (σ : Sto) : Rs Unit := (if x2 < (SI σ h0 5) then (bd_ (f_Post_isOpenFor h0 x2 x1 ((b && cK σ h0 5) && cK σ h0 5) σ) (fun (r_2 : Int32) (b_2 : Bool) (σ_2 : Sto) => (lt_ (fun (b : Bool) (σ : Sto) => (lt_ (x2 + (1 : Int32)) (fun (x2_3 : Int32) => (L2 x2_3 b σ)))) (fun J26 => (if r_2 = 0 then (J26 b_2 σ_2) else (lt_ (pI σ_2 (SR σ_2 h0 4) (ix x2) (2 : Int32)) (fun (σ_4 : Sto) => (J26 ((b_2 && cK σ_2 h0 5) && cA σ_2 (SR σ_2 h0 4) 21 x2) σ_4)))))))) else ((), (b && cK σ h0 5), σ))
def f_Post_giveOnAll (h0 : Nat) (x1 : Int32) (b : Bool) (σ : Sto) : Rs Unit := (lt_ (0 : Int32) (fun (x2_1 : Int32) => (lp_ (b_Post_giveOnAll_2 h0 x1) (fun (x2 : Int32) (b : Bool) (σ : Sto) => ((), false, σ)) fuel_ x2_1 b σ)))
set_option maxRecDepth 100000 in
set_option maxHeartbeats 4000000 in
theorem s_Post_giveOnAll : ∀ (h0 : Nat) (x1 : Int32) (b : Bool) (σ : Sto), Snd M_Post_giveOnAll 2 0 0 [vR h0, vI x1] b σ (tU (f_Post_giveOnAll h0 x1 b σ).1) (f_Post_giveOnAll h0 x1 b σ).2.1 (f_Post_giveOnAll h0 x1 b σ).2.2 := by
  intro h0 x1 b σ
  refine Snd_of (tv := tU) (by decide) (Nat.le_of_ble_eq_true rfl) ?_
  show V M_Post_giveOnAll 2 0 0 0 0 tU (f_Post_giveOnAll h0 x1 b σ) 0 [(0, vR h0), (1, vI x1)] [] b σ
  unfold f_Post_giveOnAll
  refine V_iconst 1 rfl (show decode M_Post_giveOnAll.2.1 0 = .ok (.iconst 0, 1) by decide +kernel) (v := 0) rfl ?_
  refine V_istore_n (fun x2_1 => [(2, vI x2_1), (0, vR h0), (1, vI x1)]) 2 rfl (show decode M_Post_giveOnAll.2.1 1 = .ok (.istore_n 2, 1) by decide +kernel) (by decide) (fun _ => rfl) (fun x2_1 => ?_)
  refine V_sub [1, 2, 0] rfl ?_
  refine lp_P (fun (L2 : Int32 → Bool → Sto → Rs Unit) => ∀ (x2 : Int32) (b : Bool) (σ : Sto), V M_Post_giveOnAll 2 0 0 0 0 tU (L2 x2 b σ) 2 [(0, vR h0), (1, vI x1), (2, vI x2)] [] b σ) ?_ ?_ fuel_ x2_1 b σ
  · intro x2 b σ; exact V_bad
  · intro L2 hL2 x2 b σ
    unfold b_Post_giveOnAll_2
    refine V_iload_n 3 rfl (show decode M_Post_giveOnAll.2.1 2 = .ok (.iload_n 2, 1) by decide +kernel) 2 rfl ?_
    refine V_aload_n 4 rfl (show decode M_Post_giveOnAll.2.1 3 = .ok (.aload_n 0, 1) by decide +kernel) 0 rfl ?_
    refine V_get (j := 5) (v := vI (SI σ h0 5)) 7 rfl ck_Post (by decide) (by decide) (show decode M_Post_giveOnAll.2.1 4 = .ok (.getfield 31, 3) by decide +kernel) wd_307 rfl ?_
    refine V_icmpge 10 32 rfl (show decode M_Post_giveOnAll.2.1 7 = .ok (.if_icmp .ge 25, 3) by decide +kernel) rfl ?_ ?_
    · skip
      refine V_aload_n 11 rfl (show decode M_Post_giveOnAll.2.1 10 = .ok (.aload_n 0, 1) by decide +kernel) 0 rfl ?_
      refine V_iload_n 12 rfl (show decode M_Post_giveOnAll.2.1 11 = .ok (.iload_n 2, 1) by decide +kernel) 2 rfl ?_
      refine V_iload_n 13 rfl (show decode M_Post_giveOnAll.2.1 12 = .ok (.iload_n 1, 1) by decide +kernel) 1 rfl ?_
      refine V_callV (tb := tI) (as := [vI x2, vI x1]) (rest := []) (na := 2) 16 rfl ck_Post (by decide) (s_Post_isOpenFor h0 x2 x1 ((b && cK σ h0 5) && cK σ h0 5) σ) rfl rfl (Nat.le_of_ble_eq_true rfl) (cal_Post_isOpenFor _ _ _ _ _ (by decide) (by decide) (by decide)) (show decode M_Post_giveOnAll.2.1 13 = .ok (.invokevirtual 41, 3) by decide +kernel) wd_1025 wd_1027 wd_37 (fun r_2 b_2 σ_2 => ?_)
      show V M_Post_giveOnAll 2 0 0 0 0 tU _ 16 [(0, vR h0), (1, vI x1), (2, vI x2)] [vI r_2] b_2 σ_2
      refine V_jn (fun (J26 : Bool → Sto → Rs Unit) => ∀ (b : Bool) (σ : Sto), V M_Post_giveOnAll 2 0 0 0 0 tU (J26 b σ) 26 [(0, vR h0), (1, vI x1), (2, vI x2)] [] b σ) ?_ (fun J26 hJ26 => ?_)
      · intro b σ
        refine V_iinc (fun x2_3 => [(2, vI x2_3), (0, vR h0), (1, vI x1)]) 29 rfl (show decode M_Post_giveOnAll.2.1 26 = .ok (.iinc 2 1, 3) by decide +kernel) 2 rfl (w := 1) rfl (by decide) (fun _ => rfl) (fun x2_3 => ?_)
        refine V_goto 2 (show decode M_Post_giveOnAll.2.1 29 = .ok (.goto (-27), 3) by decide +kernel) rfl ?_
        exact V_sub [1, 2, 0] rfl (hL2 x2_3 b σ)
      · skip
        refine V_ifeq 19 26 rfl (show decode M_Post_giveOnAll.2.1 16 = .ok (.ifCond .eq 10, 3) by decide +kernel) rfl ?_ ?_
        · skip
          exact V_sub [0, 1, 2] rfl (hJ26 b_2 σ_2)
        · skip
          refine V_aload_n 20 rfl (show decode M_Post_giveOnAll.2.1 19 = .ok (.aload_n 0, 1) by decide +kernel) 0 rfl ?_
          refine V_get (j := 4) (v := vR (SR σ_2 h0 4)) 23 rfl ck_Post (by decide) (by decide) (show decode M_Post_giveOnAll.2.1 20 = .ok (.getfield 22, 3) by decide +kernel) wd_305 rfl ?_
          refine V_iload_n 24 rfl (show decode M_Post_giveOnAll.2.1 23 = .ok (.iload_n 2, 1) by decide +kernel) 2 rfl ?_
          refine V_iconst 25 rfl (show decode M_Post_giveOnAll.2.1 24 = .ok (.iconst 2, 1) by decide +kernel) (v := 2) rfl ?_
          refine V_ast_int 26 rfl (show decode M_Post_giveOnAll.2.1 25 = .ok (.iastore, 1) by decide +kernel) (fun σ_4 => ?_)
          exact V_sub [0, 1, 2] rfl (hJ26 ((b_2 && cK σ_2 h0 5) && cA σ_2 (SR σ_2 h0 4) 21 x2) σ_4)
    · skip
      exact V_vret rfl (by decide) (by decide) (show decode M_Post_giveOnAll.2.1 32 = .ok (.return_, 1) by decide +kernel)
theorem cal_Post_giveOnAll (d mc ms k n : Nat) (h1 : 2 + 1 ≤ d) (h2 : k + 0 ≤ mc) (h3 : n + 0 ≤ ms) : Cal M_Post_giveOnAll 2 0 0 1 d mc ms k n := ⟨wd_1197, wd_174, by decide, h1, by decide, h2, h3⟩
abbrev M_World_endIfDue : MD := (⟨"LongTrail$World", "endIfDue", "(I)V"⟩, prog_12_method_14_code, 4, (none : Option FieldType))
def f_World_endIfDue (h0 : Nat) (x1 : Int32) (b : Bool) (σ : Sto) : Rs Unit := (lt_ (SR σ (SR σ h0 6) (ix x1)) (fun (h2_1 : Nat) => (bd_ (f_Laws_nameFour (SR σ h0 1) (SI σ h2_1 8) (SI σ h2_1 9) (SI σ h2_1 12) (SI σ h2_1 11) ((((((((b && cK σ h0 11) && cA σ (SR σ h0 6) 26 x1) && cK σ h0 11) && cK σ h2_1 10) && cK σ h2_1 10) && cK σ h2_1 10) && cK σ h2_1 10) && cK σ (SR σ h0 1) 3) σ) (fun (r_2 : Unit) (b_2 : Bool) (σ_2 : Sto) => (lt_ (fun (s0_43 : Int32) (b : Bool) (σ : Sto) => (lt_ s0_43 (fun (x3_3 : Int32) => (bd_ (f_Ground_landOf (SR σ h0 0) (SI σ h2_1 6) ((((b && cK σ h0 11) && cK σ h0 11) && cK σ h2_1 10) && cK σ (SR σ h0 0) 2) σ) (fun (r_4 : Int32) (b_4 : Bool) (σ_4 : Sto) => (bd_ (f_Laws_answerOf (SR σ h0 1) r_4 (2 : Int32) (SI σ_4 h0 8) x3_3 ((b_4 && cK σ_4 h0 11) && cK σ_4 (SR σ h0 1) 3) σ_4) (fun (r_5 : Int32) (b_5 : Bool) (σ_5 : Sto) => (lt_ (fun (b : Bool) (σ : Sto) => (bd_ (f_Walker_hasEnded h2_1 (b && cK σ h2_1 10) σ) (fun (r_6 : Int32) (b_6 : Bool) (σ_6 : Sto) => (if r_6 = 0 then ((), b_6, σ_6) else (bd_ (f_Post_giveOnAll (SR σ_6 h0 2) x1 ((b_6 && cK σ_6 h0 11) && cK σ_6 (SR σ_6 h0 2) 5) σ_6) (fun (r_7 : Unit) (b_7 : Bool) (σ_7 : Sto) => ((), b_7, σ_7))))))) (fun J98 => (if r_5 = 0 then (if (SI σ_5 h2_1 6) < (SI σ_5 (SR σ_5 h0 0) 9) then (J98 (((b_5 && cK σ_5 h2_1 10) && cK σ_5 h0 11) && cK σ_5 (SR σ_5 h0 0) 2) σ_5) else (lt_ (pI σ_5 h2_1 5 (3 : Int32)) (fun (σ_8 : Sto) => (J98 ((((b_5 && cK σ_5 h2_1 10) && cK σ_5 h0 11) && cK σ_5 (SR σ_5 h0 0) 2) && cK σ_5 h2_1 10) σ_8)))) else (lt_ (pI σ_5 h2_1 5 (2 : Int32)) (fun (σ_9 : Sto) => (J98 (b_5 && cK σ_5 h2_1 10) σ_9))))))))))))) (fun J43 => (if (2 : Int32) < (SI σ_2 h2_1 8) then (J43 (1 : Int32) (b_2 && cK σ_2 h2_1 10) σ_2) else (J43 (0 : Int32) (b_2 && cK σ_2 h2_1 10) σ_2))))))))
set_option maxRecDepth 100000 in
set_option maxHeartbeats 4000000 in
theorem s_World_endIfDue : ∀ (h0 : Nat) (x1 : Int32) (b : Bool) (σ : Sto), Snd M_World_endIfDue 4 0 0 [vR h0, vI x1] b σ (tU (f_World_endIfDue h0 x1 b σ).1) (f_World_endIfDue h0 x1 b σ).2.1 (f_World_endIfDue h0 x1 b σ).2.2 := by
  intro h0 x1 b σ
  refine Snd_of (tv := tU) (by decide) (Nat.le_of_ble_eq_true rfl) ?_
  show V M_World_endIfDue 4 0 0 0 0 tU (f_World_endIfDue h0 x1 b σ) 0 [(0, vR h0), (1, vI x1)] [] b σ
  unfold f_World_endIfDue
  refine V_aload_n 1 rfl (show decode M_World_endIfDue.2.1 0 = .ok (.aload_n 0, 1) by decide +kernel) 0 rfl ?_
  refine V_get (j := 6) (v := vR (SR σ h0 6)) 4 rfl ck_World (by decide) (by decide) (show decode M_World_endIfDue.2.1 1 = .ok (.getfield 53, 3) by decide +kernel) wd_509 rfl ?_
  refine V_iload_n 5 rfl (show decode M_World_endIfDue.2.1 4 = .ok (.iload_n 1, 1) by decide +kernel) 1 rfl ?_
  refine V_ald_r26 6 rfl (show decode M_World_endIfDue.2.1 5 = .ok (.aaload, 1) by decide +kernel) ?_
  refine V_astore_n (fun h2_1 => [(2, vR h2_1), (0, vR h0), (1, vI x1)]) 7 rfl (show decode M_World_endIfDue.2.1 6 = .ok (.astore_n 2, 1) by decide +kernel) (by decide) (fun _ => rfl) (fun h2_1 => ?_)
  refine V_aload_n 8 rfl (show decode M_World_endIfDue.2.1 7 = .ok (.aload_n 0, 1) by decide +kernel) 1 rfl ?_
  refine V_get (j := 1) (v := vR (SR σ h0 1)) 11 rfl ck_World (by decide) (by decide) (show decode M_World_endIfDue.2.1 8 = .ok (.getfield 19, 3) by decide +kernel) wd_499 rfl ?_
  refine V_aload_n 12 rfl (show decode M_World_endIfDue.2.1 11 = .ok (.aload_n 2, 1) by decide +kernel) 0 rfl ?_
  refine V_getN (j := 8) (v := vI (SI σ h2_1 8)) 15 rfl ck_Walker (by decide) (by decide) (show decode M_World_endIfDue.2.1 12 = .ok (.getfield 205, 3) by decide +kernel) wd_440 rfl ?_
  refine V_aload_n 16 rfl (show decode M_World_endIfDue.2.1 15 = .ok (.aload_n 2, 1) by decide +kernel) 0 rfl ?_
  refine V_getN (j := 9) (v := vI (SI σ h2_1 9)) 19 rfl ck_Walker (by decide) (by decide) (show decode M_World_endIfDue.2.1 16 = .ok (.getfield 208, 3) by decide +kernel) wd_442 rfl ?_
  refine V_aload_n 20 rfl (show decode M_World_endIfDue.2.1 19 = .ok (.aload_n 2, 1) by decide +kernel) 0 rfl ?_
  refine V_getN (j := 12) (v := vI (SI σ h2_1 12)) 23 rfl ck_Walker (by decide) (by decide) (show decode M_World_endIfDue.2.1 20 = .ok (.getfield 211, 3) by decide +kernel) wd_447 rfl ?_
  refine V_aload_n 24 rfl (show decode M_World_endIfDue.2.1 23 = .ok (.aload_n 2, 1) by decide +kernel) 0 rfl ?_
  refine V_getN (j := 11) (v := vI (SI σ h2_1 11)) 27 rfl ck_Walker (by decide) (by decide) (show decode M_World_endIfDue.2.1 24 = .ok (.getfield 214, 3) by decide +kernel) wd_445 rfl ?_
  refine V_callVN (tb := tU) (as := [vI (SI σ h2_1 8), vI (SI σ h2_1 9), vI (SI σ h2_1 12), vI (SI σ h2_1 11)]) (rest := []) (na := 4) 30 rfl ck_Laws (by decide) (s_Laws_nameFour (SR σ h0 1) (SI σ h2_1 8) (SI σ h2_1 9) (SI σ h2_1 12) (SI σ h2_1 11) ((((((((b && cK σ h0 11) && cA σ (SR σ h0 6) 26 x1) && cK σ h0 11) && cK σ h2_1 10) && cK σ h2_1 10) && cK σ h2_1 10) && cK σ h2_1 10) && cK σ (SR σ h0 1) 3) σ) rfl rfl (Nat.le_of_ble_eq_true rfl) (cal_Laws_nameFour _ _ _ _ _ (by decide) (by decide) (by decide)) (show decode M_World_endIfDue.2.1 27 = .ok (.invokevirtual 217, 3) by decide +kernel) wd_1188 wd_1190 wd_67 (fun r_2 b_2 σ_2 => ?_)
  show V M_World_endIfDue 4 0 0 0 0 tU _ 30 [(2, vR h2_1), (0, vR h0), (1, vI x1)] [] b_2 σ_2
  refine V_aload_n 31 rfl (show decode M_World_endIfDue.2.1 30 = .ok (.aload_n 2, 1) by decide +kernel) 0 rfl ?_
  refine V_getN (j := 8) (v := vI (SI σ_2 h2_1 8)) 34 rfl ck_Walker (by decide) (by decide) (show decode M_World_endIfDue.2.1 31 = .ok (.getfield 205, 3) by decide +kernel) wd_440 rfl ?_
  refine V_iconst 35 rfl (show decode M_World_endIfDue.2.1 34 = .ok (.iconst 2, 1) by decide +kernel) (v := 2) rfl ?_
  refine V_jn (fun (J43 : Int32 → Bool → Sto → Rs Unit) => ∀ (s0_43 : Int32) (b : Bool) (σ : Sto), V M_World_endIfDue 4 0 0 0 0 tU (J43 s0_43 b σ) 43 [(0, vR h0), (1, vI x1), (2, vR h2_1)] [vI s0_43] b σ) ?_ (fun J43 hJ43 => ?_)
  · intro s0_43 b σ
    refine V_istore_n (fun x3_3 => [(3, vI x3_3), (0, vR h0), (1, vI x1), (2, vR h2_1)]) 44 rfl (show decode M_World_endIfDue.2.1 43 = .ok (.istore_n 3, 1) by decide +kernel) (by decide) (fun _ => rfl) (fun x3_3 => ?_)
    refine V_aload_n 45 rfl (show decode M_World_endIfDue.2.1 44 = .ok (.aload_n 0, 1) by decide +kernel) 1 rfl ?_
    refine V_get (j := 1) (v := vR (SR σ h0 1)) 48 rfl ck_World (by decide) (by decide) (show decode M_World_endIfDue.2.1 45 = .ok (.getfield 19, 3) by decide +kernel) wd_499 rfl ?_
    refine V_aload_n 49 rfl (show decode M_World_endIfDue.2.1 48 = .ok (.aload_n 0, 1) by decide +kernel) 1 rfl ?_
    refine V_get (j := 0) (v := vR (SR σ h0 0)) 52 rfl ck_World (by decide) (by decide) (show decode M_World_endIfDue.2.1 49 = .ok (.getfield 10, 3) by decide +kernel) wd_497 rfl ?_
    refine V_aload_n 53 rfl (show decode M_World_endIfDue.2.1 52 = .ok (.aload_n 2, 1) by decide +kernel) 3 rfl ?_
    refine V_getN (j := 6) (v := vI (SI σ h2_1 6)) 56 rfl ck_Walker (by decide) (by decide) (show decode M_World_endIfDue.2.1 53 = .ok (.getfield 100, 3) by decide +kernel) wd_434 rfl ?_
    refine V_callVN (tb := tI) (as := [vI (SI σ h2_1 6)]) (rest := [vR (SR σ h0 1)]) (na := 1) 59 rfl ck_Ground (by decide) (s_Ground_landOf (SR σ h0 0) (SI σ h2_1 6) ((((b && cK σ h0 11) && cK σ h0 11) && cK σ h2_1 10) && cK σ (SR σ h0 0) 2) σ) rfl rfl (Nat.le_of_ble_eq_true rfl) (cal_Ground_landOf _ _ _ _ _ (by decide) (by decide) (by decide)) (show decode M_World_endIfDue.2.1 56 = .ok (.invokevirtual 168, 3) by decide +kernel) wd_1130 wd_713 wd_11 (fun r_4 b_4 σ_4 => ?_)
    show V M_World_endIfDue 4 0 0 0 0 tU _ 59 [(3, vI x3_3), (0, vR h0), (1, vI x1), (2, vR h2_1)] [vI r_4, vR (SR σ h0 1)] b_4 σ_4
    refine V_iconst 60 rfl (show decode M_World_endIfDue.2.1 59 = .ok (.iconst 2, 1) by decide +kernel) (v := 2) rfl ?_
    refine V_aload_n 61 rfl (show decode M_World_endIfDue.2.1 60 = .ok (.aload_n 0, 1) by decide +kernel) 1 rfl ?_
    refine V_get (j := 8) (v := vI (SI σ_4 h0 8)) 64 rfl ck_World (by decide) (by decide) (show decode M_World_endIfDue.2.1 61 = .ok (.getfield 84, 3) by decide +kernel) wd_513 rfl ?_
    refine V_iload_n 65 rfl (show decode M_World_endIfDue.2.1 64 = .ok (.iload_n 3, 1) by decide +kernel) 0 rfl ?_
    refine V_callVN (tb := tI) (as := [vI r_4, vI (2 : Int32), vI (SI σ_4 h0 8), vI x3_3]) (rest := []) (na := 4) 68 rfl ck_Laws (by decide) (s_Laws_answerOf (SR σ h0 1) r_4 (2 : Int32) (SI σ_4 h0 8) x3_3 ((b_4 && cK σ_4 h0 11) && cK σ_4 (SR σ h0 1) 3) σ_4) rfl rfl (Nat.le_of_ble_eq_true rfl) (cal_Laws_answerOf _ _ _ _ _ (by decide) (by decide) (by decide)) (show decode M_World_endIfDue.2.1 65 = .ok (.invokevirtual 171, 3) by decide +kernel) wd_1131 wd_1133 wd_55 (fun r_5 b_5 σ_5 => ?_)
    show V M_World_endIfDue 4 0 0 0 0 tU _ 68 [(3, vI x3_3), (0, vR h0), (1, vI x1), (2, vR h2_1)] [vI r_5] b_5 σ_5
    refine V_jn (fun (J98 : Bool → Sto → Rs Unit) => ∀ (b : Bool) (σ : Sto), V M_World_endIfDue 4 0 0 0 0 tU (J98 b σ) 98 [(0, vR h0), (1, vI x1), (2, vR h2_1)] [] b σ) ?_ (fun J98 hJ98 => ?_)
    · intro b σ
      refine V_aload_n 99 rfl (show decode M_World_endIfDue.2.1 98 = .ok (.aload_n 2, 1) by decide +kernel) 2 rfl ?_
      refine V_callVN (tb := tI) (as := []) (rest := []) (na := 0) 102 rfl ck_Walker (by decide) (s_Walker_hasEnded h2_1 (b && cK σ h2_1 10) σ) rfl rfl (Nat.le_of_ble_eq_true rfl) (cal_Walker_hasEnded _ _ _ _ _ (by decide) (by decide) (by decide)) (show decode M_World_endIfDue.2.1 99 = .ok (.invokevirtual 221, 3) by decide +kernel) wd_1193 wd_1056 wd_40 (fun r_6 b_6 σ_6 => ?_)
      show V M_World_endIfDue 4 0 0 0 0 tU _ 102 [(0, vR h0), (1, vI x1), (2, vR h2_1)] [vI r_6] b_6 σ_6
      refine V_ifeq 105 113 rfl (show decode M_World_endIfDue.2.1 102 = .ok (.ifCond .eq 11, 3) by decide +kernel) rfl ?_ ?_
      · skip
        exact V_vret rfl (by decide) (by decide) (show decode M_World_endIfDue.2.1 113 = .ok (.return_, 1) by decide +kernel)
      · skip
        refine V_aload_n 106 rfl (show decode M_World_endIfDue.2.1 105 = .ok (.aload_n 0, 1) by decide +kernel) 0 rfl ?_
        refine V_get (j := 2) (v := vR (SR σ_6 h0 2)) 109 rfl ck_World (by decide) (by decide) (show decode M_World_endIfDue.2.1 106 = .ok (.getfield 26, 3) by decide +kernel) wd_501 rfl ?_
        refine V_iload_n 110 rfl (show decode M_World_endIfDue.2.1 109 = .ok (.iload_n 1, 1) by decide +kernel) 1 rfl ?_
        refine V_callVN (tb := tU) (as := [vI x1]) (rest := []) (na := 1) 113 rfl ck_Post (by decide) (s_Post_giveOnAll (SR σ_6 h0 2) x1 ((b_6 && cK σ_6 h0 11) && cK σ_6 (SR σ_6 h0 2) 5) σ_6) rfl rfl (Nat.le_of_ble_eq_true rfl) (cal_Post_giveOnAll _ _ _ _ _ (by decide) (by decide) (by decide)) (show decode M_World_endIfDue.2.1 110 = .ok (.invokevirtual 225, 3) by decide +kernel) wd_1194 wd_1196 wd_68 (fun r_7 b_7 σ_7 => ?_)
        show V M_World_endIfDue 4 0 0 0 0 tU _ 113 [(0, vR h0), (1, vI x1), (2, vR h2_1)] [] b_7 σ_7
        exact V_vret rfl (by decide) (by decide) (show decode M_World_endIfDue.2.1 113 = .ok (.return_, 1) by decide +kernel)
    · skip
      refine V_ifeq 71 79 rfl (show decode M_World_endIfDue.2.1 68 = .ok (.ifCond .eq 11, 3) by decide +kernel) rfl ?_ ?_
      · skip
        refine V_aload_n 80 rfl (show decode M_World_endIfDue.2.1 79 = .ok (.aload_n 2, 1) by decide +kernel) 3 rfl ?_
        refine V_getN (j := 6) (v := vI (SI σ_5 h2_1 6)) 83 rfl ck_Walker (by decide) (by decide) (show decode M_World_endIfDue.2.1 80 = .ok (.getfield 100, 3) by decide +kernel) wd_434 rfl ?_
        refine V_aload_n 84 rfl (show decode M_World_endIfDue.2.1 83 = .ok (.aload_n 0, 1) by decide +kernel) 1 rfl ?_
        refine V_get (j := 0) (v := vR (SR σ_5 h0 0)) 87 rfl ck_World (by decide) (by decide) (show decode M_World_endIfDue.2.1 84 = .ok (.getfield 10, 3) by decide +kernel) wd_497 rfl ?_
        refine V_getN (j := 9) (v := vI (SI σ_5 (SR σ_5 h0 0) 9)) 90 rfl ck_Ground (by decide) (by decide) (show decode M_World_endIfDue.2.1 87 = .ok (.getfield 181, 3) by decide +kernel) wd_234 rfl ?_
        refine V_icmplt 93 98 rfl (show decode M_World_endIfDue.2.1 90 = .ok (.if_icmp .lt 8, 3) by decide +kernel) rfl ?_ ?_
        · skip
          exact V_sub [1, 2, 3] rfl (hJ98 (((b_5 && cK σ_5 h2_1 10) && cK σ_5 h0 11) && cK σ_5 (SR σ_5 h0 0) 2) σ_5)
        · skip
          refine V_aload_n 94 rfl (show decode M_World_endIfDue.2.1 93 = .ok (.aload_n 2, 1) by decide +kernel) 3 rfl ?_
          refine V_iconst 95 rfl (show decode M_World_endIfDue.2.1 94 = .ok (.iconst 3, 1) by decide +kernel) (v := 3) rfl ?_
          refine V_putIN (j := 5) 98 rfl ck_Walker (by decide) (by decide) (show decode M_World_endIfDue.2.1 95 = .ok (.putfield 93, 3) by decide +kernel) wd_431 rfl (fun _ => rfl) rfl rfl (fun σ_8 => ?_)
          exact V_sub [1, 2, 3] rfl (hJ98 ((((b_5 && cK σ_5 h2_1 10) && cK σ_5 h0 11) && cK σ_5 (SR σ_5 h0 0) 2) && cK σ_5 h2_1 10) σ_8)
      · skip
        refine V_aload_n 72 rfl (show decode M_World_endIfDue.2.1 71 = .ok (.aload_n 2, 1) by decide +kernel) 3 rfl ?_
        refine V_iconst 73 rfl (show decode M_World_endIfDue.2.1 72 = .ok (.iconst 2, 1) by decide +kernel) (v := 2) rfl ?_
        refine V_putIN (j := 5) 76 rfl ck_Walker (by decide) (by decide) (show decode M_World_endIfDue.2.1 73 = .ok (.putfield 93, 3) by decide +kernel) wd_431 rfl (fun _ => rfl) rfl rfl (fun σ_9 => ?_)
        refine V_goto 98 (show decode M_World_endIfDue.2.1 76 = .ok (.goto 22, 3) by decide +kernel) rfl ?_
        exact V_sub [1, 2, 3] rfl (hJ98 (b_5 && cK σ_5 h2_1 10) σ_9)
  · skip
    refine V_icmple 38 42 rfl (show decode M_World_endIfDue.2.1 35 = .ok (.if_icmp .le 7, 3) by decide +kernel) rfl ?_ ?_
    · skip
      refine V_iconst 39 rfl (show decode M_World_endIfDue.2.1 38 = .ok (.iconst 1, 1) by decide +kernel) (v := 1) rfl ?_
      refine V_goto 43 (show decode M_World_endIfDue.2.1 39 = .ok (.goto 4, 3) by decide +kernel) rfl ?_
      exact V_sub [1, 2, 0] rfl (hJ43 (1 : Int32) (b_2 && cK σ_2 h2_1 10) σ_2)
    · skip
      refine V_iconst 43 rfl (show decode M_World_endIfDue.2.1 42 = .ok (.iconst 0, 1) by decide +kernel) (v := 0) rfl ?_
      exact V_sub [1, 2, 0] rfl (hJ43 (0 : Int32) (b_2 && cK σ_2 h2_1 10) σ_2)
theorem cal_World_endIfDue (d mc ms k n : Nat) (h1 : 4 + 1 ≤ d) (h2 : k + 0 ≤ mc) (h3 : n + 0 ≤ ms) : Cal M_World_endIfDue 4 0 0 1 d mc ms k n := ⟨wd_1187, wd_171, by decide, h1, by decide, h2, h3⟩
abbrev M_Ground_farEndOfFire : MD := (⟨"LongTrail$Ground", "farEndOfFire", "(II)I"⟩, prog_3_method_23_code, 5, (some FieldType.int))
def b_Ground_farEndOfFire_5 (h0 : Nat) (x1 : Int32) (x2 : Int32) (L5 : Int32 → Int32 → Bool → Sto → Rs Int32) (x3 : Int32) (x4 : Int32) (b : Bool) (σ : Sto) : Rs Int32 := (if x4 < (SI σ h0 11) then (bd_ (f_Ground_isOn h0 x4 x2 ((b && cK σ h0 2) && cK σ h0 2) σ) (fun (r_3 : Int32) (b_3 : Bool) (σ_3 : Sto) => (lt_ (fun (x3_47 : Int32) (b : Bool) (σ : Sto) => (lt_ (x4 + (1 : Int32)) (fun (x4_4 : Int32) => (L5 x3_47 x4_4 b σ)))) (fun J47 => (if r_3 = 0 then (J47 x3 b_3 σ_3) else (if (SI σ_3 (SR σ_3 h0 5) (ix x4)) = x1 then (lt_ (mxI x3 (SI σ_3 (SR σ_3 h0 6) (ix x4))) (fun (x3_5 : Int32) => (J47 x3_5 ((((b_3 && cK σ_3 h0 2) && cA σ_3 (SR σ_3 h0 5) 21 x4) && cK σ_3 h0 2) && cA σ_3 (SR σ_3 h0 6) 21 x4) σ_3))) else (J47 x3 ((b_3 && cK σ_3 h0 2) && cA σ_3 (SR σ_3 h0 5) 21 x4) σ_3))))))) else (x3, (b && cK σ h0 2), σ))
def f_Ground_farEndOfFire (h0 : Nat) (x1 : Int32) (x2 : Int32) (b : Bool) (σ : Sto) : Rs Int32 := (lt_ (-1 : Int32) (fun (x3_1 : Int32) => (lt_ (0 : Int32) (fun (x4_2 : Int32) => (lp_ (b_Ground_farEndOfFire_5 h0 x1 x2) (fun (x3 : Int32) (x4 : Int32) (b : Bool) (σ : Sto) => (0, false, σ)) fuel_ x3_1 x4_2 b σ)))))
set_option maxRecDepth 100000 in
set_option maxHeartbeats 4000000 in
theorem s_Ground_farEndOfFire : ∀ (h0 : Nat) (x1 : Int32) (x2 : Int32) (b : Bool) (σ : Sto), Snd M_Ground_farEndOfFire 3 0 0 [vR h0, vI x1, vI x2] b σ (tI (f_Ground_farEndOfFire h0 x1 x2 b σ).1) (f_Ground_farEndOfFire h0 x1 x2 b σ).2.1 (f_Ground_farEndOfFire h0 x1 x2 b σ).2.2 := by
  intro h0 x1 x2 b σ
  refine Snd_of (tv := tI) (by decide) (Nat.le_of_ble_eq_true rfl) ?_
  show V M_Ground_farEndOfFire 3 0 0 0 0 tI (f_Ground_farEndOfFire h0 x1 x2 b σ) 0 [(0, vR h0), (1, vI x1), (2, vI x2)] [] b σ
  unfold f_Ground_farEndOfFire
  refine V_iconst 1 rfl (show decode M_Ground_farEndOfFire.2.1 0 = .ok (.iconst (-1), 1) by decide +kernel) (v := -1) rfl ?_
  refine V_istore_n (fun x3_1 => [(3, vI x3_1), (0, vR h0), (1, vI x1), (2, vI x2)]) 2 rfl (show decode M_Ground_farEndOfFire.2.1 1 = .ok (.istore_n 3, 1) by decide +kernel) (by decide) (fun _ => rfl) (fun x3_1 => ?_)
  refine V_iconst 3 rfl (show decode M_Ground_farEndOfFire.2.1 2 = .ok (.iconst 0, 1) by decide +kernel) (v := 0) rfl ?_
  refine V_istore (fun x4_2 => [(4, vI x4_2), (3, vI x3_1), (0, vR h0), (1, vI x1), (2, vI x2)]) 5 rfl (show decode M_Ground_farEndOfFire.2.1 3 = .ok (.istore 4, 2) by decide +kernel) (by decide) (fun _ => rfl) (fun x4_2 => ?_)
  refine V_sub [2, 3, 4, 1, 0] rfl ?_
  refine lp_P (fun (L5 : Int32 → Int32 → Bool → Sto → Rs Int32) => ∀ (x3 : Int32) (x4 : Int32) (b : Bool) (σ : Sto), V M_Ground_farEndOfFire 3 0 0 0 0 tI (L5 x3 x4 b σ) 5 [(0, vR h0), (1, vI x1), (2, vI x2), (3, vI x3), (4, vI x4)] [] b σ) ?_ ?_ fuel_ x3_1 x4_2 b σ
  · intro x3 x4 b σ; exact V_bad
  · intro L5 hL5 x3 x4 b σ
    unfold b_Ground_farEndOfFire_5
    refine V_iload 7 rfl (show decode M_Ground_farEndOfFire.2.1 5 = .ok (.iload 4, 2) by decide +kernel) 4 rfl ?_
    refine V_aload_n 8 rfl (show decode M_Ground_farEndOfFire.2.1 7 = .ok (.aload_n 0, 1) by decide +kernel) 0 rfl ?_
    refine V_get (j := 11) (v := vI (SI σ h0 11)) 11 rfl ck_Ground (by decide) (by decide) (show decode M_Ground_farEndOfFire.2.1 8 = .ok (.getfield 53, 3) by decide +kernel) wd_238 rfl ?_
    refine V_icmpge 14 53 rfl (show decode M_Ground_farEndOfFire.2.1 11 = .ok (.if_icmp .ge 42, 3) by decide +kernel) rfl ?_ ?_
    · skip
      refine V_aload_n 15 rfl (show decode M_Ground_farEndOfFire.2.1 14 = .ok (.aload_n 0, 1) by decide +kernel) 0 rfl ?_
      refine V_iload 17 rfl (show decode M_Ground_farEndOfFire.2.1 15 = .ok (.iload 4, 2) by decide +kernel) 4 rfl ?_
      refine V_iload_n 18 rfl (show decode M_Ground_farEndOfFire.2.1 17 = .ok (.iload_n 2, 1) by decide +kernel) 2 rfl ?_
      refine V_callV (tb := tI) (as := [vI x4, vI x2]) (rest := []) (na := 2) 21 rfl ck_Ground (by decide) (s_Ground_isOn h0 x4 x2 ((b && cK σ h0 2) && cK σ h0 2) σ) rfl rfl (Nat.le_of_ble_eq_true rfl) (cal_Ground_isOn _ _ _ _ _ (by decide) (by decide) (by decide)) (show decode M_Ground_farEndOfFire.2.1 18 = .ok (.invokevirtual 80, 3) by decide +kernel) wd_732 wd_734 wd_14 (fun r_3 b_3 σ_3 => ?_)
      show V M_Ground_farEndOfFire 3 0 0 0 0 tI _ 21 [(0, vR h0), (1, vI x1), (2, vI x2), (3, vI x3), (4, vI x4)] [vI r_3] b_3 σ_3
      refine V_jn (fun (J47 : Int32 → Bool → Sto → Rs Int32) => ∀ (x3_47 : Int32) (b : Bool) (σ : Sto), V M_Ground_farEndOfFire 3 0 0 0 0 tI (J47 x3_47 b σ) 47 [(0, vR h0), (1, vI x1), (2, vI x2), (3, vI x3_47), (4, vI x4)] [] b σ) ?_ (fun J47 hJ47 => ?_)
      · intro x3_47 b σ
        refine V_iinc (fun x4_4 => [(4, vI x4_4), (0, vR h0), (1, vI x1), (2, vI x2), (3, vI x3_47)]) 50 rfl (show decode M_Ground_farEndOfFire.2.1 47 = .ok (.iinc 4 1, 3) by decide +kernel) 4 rfl (w := 1) rfl (by decide) (fun _ => rfl) (fun x4_4 => ?_)
        refine V_goto 5 (show decode M_Ground_farEndOfFire.2.1 50 = .ok (.goto (-45), 3) by decide +kernel) rfl ?_
        exact V_sub [1, 2, 3, 4, 0] rfl (hL5 x3_47 x4_4 b σ)
      · skip
        refine V_ifeq 24 47 rfl (show decode M_Ground_farEndOfFire.2.1 21 = .ok (.ifCond .eq 26, 3) by decide +kernel) rfl ?_ ?_
        · skip
          exact V_sub [0, 1, 2, 3, 4] rfl (hJ47 x3 b_3 σ_3)
        · skip
          refine V_aload_n 25 rfl (show decode M_Ground_farEndOfFire.2.1 24 = .ok (.aload_n 0, 1) by decide +kernel) 0 rfl ?_
          refine V_get (j := 5) (v := vR (SR σ_3 h0 5)) 28 rfl ck_Ground (by decide) (by decide) (show decode M_Ground_farEndOfFire.2.1 25 = .ok (.getfield 28, 3) by decide +kernel) wd_224 rfl ?_
          refine V_iload 30 rfl (show decode M_Ground_farEndOfFire.2.1 28 = .ok (.iload 4, 2) by decide +kernel) 4 rfl ?_
          refine V_ald_int 31 rfl (show decode M_Ground_farEndOfFire.2.1 30 = .ok (.iaload, 1) by decide +kernel) ?_
          refine V_iload_n 32 rfl (show decode M_Ground_farEndOfFire.2.1 31 = .ok (.iload_n 1, 1) by decide +kernel) 1 rfl ?_
          refine V_icmpne 35 47 rfl (show decode M_Ground_farEndOfFire.2.1 32 = .ok (.if_icmp .ne 15, 3) by decide +kernel) rfl ?_ ?_
          · skip
            refine V_iload_n 36 rfl (show decode M_Ground_farEndOfFire.2.1 35 = .ok (.iload_n 3, 1) by decide +kernel) 3 rfl ?_
            refine V_aload_n 37 rfl (show decode M_Ground_farEndOfFire.2.1 36 = .ok (.aload_n 0, 1) by decide +kernel) 0 rfl ?_
            refine V_get (j := 6) (v := vR (SR σ_3 h0 6)) 40 rfl ck_Ground (by decide) (by decide) (show decode M_Ground_farEndOfFire.2.1 37 = .ok (.getfield 31, 3) by decide +kernel) wd_226 rfl ?_
            refine V_iload 42 rfl (show decode M_Ground_farEndOfFire.2.1 40 = .ok (.iload 4, 2) by decide +kernel) 4 rfl ?_
            refine V_ald_int 43 rfl (show decode M_Ground_farEndOfFire.2.1 42 = .ok (.iaload, 1) by decide +kernel) ?_
            refine V_max 46 rfl (show decode M_Ground_farEndOfFire.2.1 43 = .ok (.invokestatic 71, 3) by decide +kernel) wd_1125 wd_877 wd_186 wd_maxc (by decide) (Nat.le_of_ble_eq_true rfl) (by decide) (by decide) ?_
            refine V_istore_n (fun x3_5 => [(3, vI x3_5), (0, vR h0), (1, vI x1), (2, vI x2), (4, vI x4)]) 47 rfl (show decode M_Ground_farEndOfFire.2.1 46 = .ok (.istore_n 3, 1) by decide +kernel) (by decide) (fun _ => rfl) (fun x3_5 => ?_)
            exact V_sub [1, 2, 3, 0, 4] rfl (hJ47 x3_5 ((((b_3 && cK σ_3 h0 2) && cA σ_3 (SR σ_3 h0 5) 21 x4) && cK σ_3 h0 2) && cA σ_3 (SR σ_3 h0 6) 21 x4) σ_3)
          · skip
            exact V_sub [0, 1, 2, 3, 4] rfl (hJ47 x3 ((b_3 && cK σ_3 h0 2) && cA σ_3 (SR σ_3 h0 5) 21 x4) σ_3)
    · skip
      refine V_iload_n 54 rfl (show decode M_Ground_farEndOfFire.2.1 53 = .ok (.iload_n 3, 1) by decide +kernel) 3 rfl ?_
      exact V_iret rfl (by decide) (by decide) (show decode M_Ground_farEndOfFire.2.1 54 = .ok (.ireturn, 1) by decide +kernel)
theorem cal_Ground_farEndOfFire (d mc ms k n : Nat) (h1 : 3 + 1 ≤ d) (h2 : k + 0 ≤ mc) (h3 : n + 0 ≤ ms) : Cal M_Ground_farEndOfFire 3 0 0 2 d mc ms k n := ⟨wd_1124, wd_172, by decide, h1, by decide, h2, h3⟩
abbrev M_World_skipsFire : MD := (⟨"LongTrail$World", "skipsFire", "(LLongTrail$Walker;)Z"⟩, prog_12_method_12_code, 4, (some FieldType.boolean))
def f_World_skipsFire (h0 : Nat) (h1 : Nat) (b : Bool) (σ : Sto) : Rs Int32 := (bd_ (f_Ground_farEndOfFire (SR σ h0 0) (SI σ h1 6) (SI σ h0 8) ((((b && cK σ h0 11) && cK σ h1 10) && cK σ h0 11) && cK σ (SR σ h0 0) 2) σ) (fun (r_1 : Int32) (b_1 : Bool) (σ_1 : Sto) => (lt_ r_1 (fun (x2_2 : Int32) => (if x2_2 < 0 then ((0 : Int32), b_1, σ_1) else (lt_ (x2_2 - (SI σ_1 h1 6)) (fun (x3_3 : Int32) => (bd_ (f_Laws_nameTwo (SR σ_1 h0 1) x3_3 (SI σ_1 h1 7) ((((b_1 && cK σ_1 h1 10) && cK σ_1 h0 11) && cK σ_1 h1 10) && cK σ_1 (SR σ_1 h0 1) 3) σ_1) (fun (r_4 : Unit) (b_4 : Bool) (σ_4 : Sto) => (bd_ (f_Ground_landOf (SR σ_4 h0 0) (SI σ_4 h1 6) ((((b_4 && cK σ_4 h0 11) && cK σ_4 h0 11) && cK σ_4 h1 10) && cK σ_4 (SR σ_4 h0 0) 2) σ_4) (fun (r_5 : Int32) (b_5 : Bool) (σ_5 : Sto) => (bd_ (f_Laws_answerOf (SR σ_4 h0 1) r_5 (1 : Int32) (SI σ_5 h0 8) (0 : Int32) ((b_5 && cK σ_5 h0 11) && cK σ_5 (SR σ_4 h0 1) 3) σ_5) (fun (r_6 : Int32) (b_6 : Bool) (σ_6 : Sto) => (if r_6 = 0 then ((0 : Int32), b_6, σ_6) else (lt_ (pI σ_6 h1 17 ((SI σ_6 h1 17) + x3_3)) (fun (σ_7 : Sto) => (lt_ (pI σ_7 h1 6 x2_2) (fun (σ_8 : Sto) => ((1 : Int32), (((b_6 && cK σ_6 h1 10) && cK σ_6 h1 10) && cK σ_7 h1 10), σ_8)))))))))))))))))))
set_option maxRecDepth 100000 in
set_option maxHeartbeats 4000000 in
theorem s_World_skipsFire : ∀ (h0 : Nat) (h1 : Nat) (b : Bool) (σ : Sto), Snd M_World_skipsFire 4 0 0 [vR h0, vR h1] b σ (tI (f_World_skipsFire h0 h1 b σ).1) (f_World_skipsFire h0 h1 b σ).2.1 (f_World_skipsFire h0 h1 b σ).2.2 := by
  intro h0 h1 b σ
  refine Snd_of (tv := tI) (by decide) (Nat.le_of_ble_eq_true rfl) ?_
  show V M_World_skipsFire 4 0 0 0 0 tI (f_World_skipsFire h0 h1 b σ) 0 [(0, vR h0), (1, vR h1)] [] b σ
  unfold f_World_skipsFire
  refine V_aload_n 1 rfl (show decode M_World_skipsFire.2.1 0 = .ok (.aload_n 0, 1) by decide +kernel) 0 rfl ?_
  refine V_get (j := 0) (v := vR (SR σ h0 0)) 4 rfl ck_World (by decide) (by decide) (show decode M_World_skipsFire.2.1 1 = .ok (.getfield 10, 3) by decide +kernel) wd_497 rfl ?_
  refine V_aload_n 5 rfl (show decode M_World_skipsFire.2.1 4 = .ok (.aload_n 1, 1) by decide +kernel) 1 rfl ?_
  refine V_getN (j := 6) (v := vI (SI σ h1 6)) 8 rfl ck_Walker (by decide) (by decide) (show decode M_World_skipsFire.2.1 5 = .ok (.getfield 100, 3) by decide +kernel) wd_434 rfl ?_
  refine V_aload_n 9 rfl (show decode M_World_skipsFire.2.1 8 = .ok (.aload_n 0, 1) by decide +kernel) 0 rfl ?_
  refine V_get (j := 8) (v := vI (SI σ h0 8)) 12 rfl ck_World (by decide) (by decide) (show decode M_World_skipsFire.2.1 9 = .ok (.getfield 84, 3) by decide +kernel) wd_513 rfl ?_
  refine V_callVN (tb := tI) (as := [vI (SI σ h1 6), vI (SI σ h0 8)]) (rest := []) (na := 2) 15 rfl ck_Ground (by decide) (s_Ground_farEndOfFire (SR σ h0 0) (SI σ h1 6) (SI σ h0 8) ((((b && cK σ h0 11) && cK σ h1 10) && cK σ h0 11) && cK σ (SR σ h0 0) 2) σ) rfl rfl (Nat.le_of_ble_eq_true rfl) (cal_Ground_farEndOfFire _ _ _ _ _ (by decide) (by decide) (by decide)) (show decode M_World_skipsFire.2.1 12 = .ok (.invokevirtual 162, 3) by decide +kernel) wd_1121 wd_1123 wd_53 (fun r_1 b_1 σ_1 => ?_)
  show V M_World_skipsFire 4 0 0 0 0 tI _ 15 [(0, vR h0), (1, vR h1)] [vI r_1] b_1 σ_1
  refine V_istore_n (fun x2_2 => [(2, vI x2_2), (0, vR h0), (1, vR h1)]) 16 rfl (show decode M_World_skipsFire.2.1 15 = .ok (.istore_n 2, 1) by decide +kernel) (by decide) (fun _ => rfl) (fun x2_2 => ?_)
  refine V_iload_n 17 rfl (show decode M_World_skipsFire.2.1 16 = .ok (.iload_n 2, 1) by decide +kernel) 0 rfl ?_
  refine V_ifge 20 22 rfl (show decode M_World_skipsFire.2.1 17 = .ok (.ifCond .ge 5, 3) by decide +kernel) rfl ?_ ?_
  · skip
    refine V_iconst 21 rfl (show decode M_World_skipsFire.2.1 20 = .ok (.iconst 0, 1) by decide +kernel) (v := 0) rfl ?_
    exact V_zret rfl (by decide) (by decide) rfl (show decode M_World_skipsFire.2.1 21 = .ok (.ireturn, 1) by decide +kernel)
  · skip
    refine V_iload_n 23 rfl (show decode M_World_skipsFire.2.1 22 = .ok (.iload_n 2, 1) by decide +kernel) 0 rfl ?_
    refine V_aload_n 24 rfl (show decode M_World_skipsFire.2.1 23 = .ok (.aload_n 1, 1) by decide +kernel) 2 rfl ?_
    refine V_getN (j := 6) (v := vI (SI σ_1 h1 6)) 27 rfl ck_Walker (by decide) (by decide) (show decode M_World_skipsFire.2.1 24 = .ok (.getfield 100, 3) by decide +kernel) wd_434 rfl ?_
    refine V_isub 28 rfl (show decode M_World_skipsFire.2.1 27 = .ok (.isub, 1) by decide +kernel) ?_
    refine V_istore_n (fun x3_3 => [(3, vI x3_3), (2, vI x2_2), (0, vR h0), (1, vR h1)]) 29 rfl (show decode M_World_skipsFire.2.1 28 = .ok (.istore_n 3, 1) by decide +kernel) (by decide) (fun _ => rfl) (fun x3_3 => ?_)
    refine V_aload_n 30 rfl (show decode M_World_skipsFire.2.1 29 = .ok (.aload_n 0, 1) by decide +kernel) 2 rfl ?_
    refine V_get (j := 1) (v := vR (SR σ_1 h0 1)) 33 rfl ck_World (by decide) (by decide) (show decode M_World_skipsFire.2.1 30 = .ok (.getfield 19, 3) by decide +kernel) wd_499 rfl ?_
    refine V_iload_n 34 rfl (show decode M_World_skipsFire.2.1 33 = .ok (.iload_n 3, 1) by decide +kernel) 0 rfl ?_
    refine V_aload_n 35 rfl (show decode M_World_skipsFire.2.1 34 = .ok (.aload_n 1, 1) by decide +kernel) 3 rfl ?_
    refine V_getN (j := 7) (v := vI (SI σ_1 h1 7)) 38 rfl ck_Walker (by decide) (by decide) (show decode M_World_skipsFire.2.1 35 = .ok (.getfield 103, 3) by decide +kernel) wd_437 rfl ?_
    refine V_callVN (tb := tU) (as := [vI x3_3, vI (SI σ_1 h1 7)]) (rest := []) (na := 2) 41 rfl ck_Laws (by decide) (s_Laws_nameTwo (SR σ_1 h0 1) x3_3 (SI σ_1 h1 7) ((((b_1 && cK σ_1 h1 10) && cK σ_1 h0 11) && cK σ_1 h1 10) && cK σ_1 (SR σ_1 h0 1) 3) σ_1) rfl rfl (Nat.le_of_ble_eq_true rfl) (cal_Laws_nameTwo _ _ _ _ _ (by decide) (by decide) (by decide)) (show decode M_World_skipsFire.2.1 38 = .ok (.invokevirtual 165, 3) by decide +kernel) wd_1126 wd_1128 wd_54 (fun r_4 b_4 σ_4 => ?_)
    show V M_World_skipsFire 4 0 0 0 0 tI _ 41 [(3, vI x3_3), (2, vI x2_2), (0, vR h0), (1, vR h1)] [] b_4 σ_4
    refine V_aload_n 42 rfl (show decode M_World_skipsFire.2.1 41 = .ok (.aload_n 0, 1) by decide +kernel) 2 rfl ?_
    refine V_get (j := 1) (v := vR (SR σ_4 h0 1)) 45 rfl ck_World (by decide) (by decide) (show decode M_World_skipsFire.2.1 42 = .ok (.getfield 19, 3) by decide +kernel) wd_499 rfl ?_
    refine V_aload_n 46 rfl (show decode M_World_skipsFire.2.1 45 = .ok (.aload_n 0, 1) by decide +kernel) 2 rfl ?_
    refine V_get (j := 0) (v := vR (SR σ_4 h0 0)) 49 rfl ck_World (by decide) (by decide) (show decode M_World_skipsFire.2.1 46 = .ok (.getfield 10, 3) by decide +kernel) wd_497 rfl ?_
    refine V_aload_n 50 rfl (show decode M_World_skipsFire.2.1 49 = .ok (.aload_n 1, 1) by decide +kernel) 3 rfl ?_
    refine V_getN (j := 6) (v := vI (SI σ_4 h1 6)) 53 rfl ck_Walker (by decide) (by decide) (show decode M_World_skipsFire.2.1 50 = .ok (.getfield 100, 3) by decide +kernel) wd_434 rfl ?_
    refine V_callVN (tb := tI) (as := [vI (SI σ_4 h1 6)]) (rest := [vR (SR σ_4 h0 1)]) (na := 1) 56 rfl ck_Ground (by decide) (s_Ground_landOf (SR σ_4 h0 0) (SI σ_4 h1 6) ((((b_4 && cK σ_4 h0 11) && cK σ_4 h0 11) && cK σ_4 h1 10) && cK σ_4 (SR σ_4 h0 0) 2) σ_4) rfl rfl (Nat.le_of_ble_eq_true rfl) (cal_Ground_landOf _ _ _ _ _ (by decide) (by decide) (by decide)) (show decode M_World_skipsFire.2.1 53 = .ok (.invokevirtual 168, 3) by decide +kernel) wd_1130 wd_713 wd_11 (fun r_5 b_5 σ_5 => ?_)
    show V M_World_skipsFire 4 0 0 0 0 tI _ 56 [(3, vI x3_3), (2, vI x2_2), (0, vR h0), (1, vR h1)] [vI r_5, vR (SR σ_4 h0 1)] b_5 σ_5
    refine V_iconst 57 rfl (show decode M_World_skipsFire.2.1 56 = .ok (.iconst 1, 1) by decide +kernel) (v := 1) rfl ?_
    refine V_aload_n 58 rfl (show decode M_World_skipsFire.2.1 57 = .ok (.aload_n 0, 1) by decide +kernel) 2 rfl ?_
    refine V_get (j := 8) (v := vI (SI σ_5 h0 8)) 61 rfl ck_World (by decide) (by decide) (show decode M_World_skipsFire.2.1 58 = .ok (.getfield 84, 3) by decide +kernel) wd_513 rfl ?_
    refine V_iconst 62 rfl (show decode M_World_skipsFire.2.1 61 = .ok (.iconst 0, 1) by decide +kernel) (v := 0) rfl ?_
    refine V_callVN (tb := tI) (as := [vI r_5, vI (1 : Int32), vI (SI σ_5 h0 8), vI (0 : Int32)]) (rest := []) (na := 4) 65 rfl ck_Laws (by decide) (s_Laws_answerOf (SR σ_4 h0 1) r_5 (1 : Int32) (SI σ_5 h0 8) (0 : Int32) ((b_5 && cK σ_5 h0 11) && cK σ_5 (SR σ_4 h0 1) 3) σ_5) rfl rfl (Nat.le_of_ble_eq_true rfl) (cal_Laws_answerOf _ _ _ _ _ (by decide) (by decide) (by decide)) (show decode M_World_skipsFire.2.1 62 = .ok (.invokevirtual 171, 3) by decide +kernel) wd_1131 wd_1133 wd_55 (fun r_6 b_6 σ_6 => ?_)
    show V M_World_skipsFire 4 0 0 0 0 tI _ 65 [(3, vI x3_3), (2, vI x2_2), (0, vR h0), (1, vR h1)] [vI r_6] b_6 σ_6
    refine V_ifne 68 70 rfl (show decode M_World_skipsFire.2.1 65 = .ok (.ifCond .ne 5, 3) by decide +kernel) rfl ?_ ?_
    · skip
      refine V_iconst 69 rfl (show decode M_World_skipsFire.2.1 68 = .ok (.iconst 0, 1) by decide +kernel) (v := 0) rfl ?_
      exact V_zret rfl (by decide) (by decide) rfl (show decode M_World_skipsFire.2.1 69 = .ok (.ireturn, 1) by decide +kernel)
    · skip
      refine V_aload_n 71 rfl (show decode M_World_skipsFire.2.1 70 = .ok (.aload_n 1, 1) by decide +kernel) 3 rfl ?_
      refine V_dup 72 rfl (show decode M_World_skipsFire.2.1 71 = .ok (.dup, 1) by decide +kernel) rfl ?_
      refine V_getN (j := 17) (v := vI (SI σ_6 h1 17)) 75 rfl ck_Walker (by decide) (by decide) (show decode M_World_skipsFire.2.1 72 = .ok (.getfield 175, 3) by decide +kernel) wd_459 rfl ?_
      refine V_iload_n 76 rfl (show decode M_World_skipsFire.2.1 75 = .ok (.iload_n 3, 1) by decide +kernel) 0 rfl ?_
      refine V_iadd 77 rfl (show decode M_World_skipsFire.2.1 76 = .ok (.iadd, 1) by decide +kernel) ?_
      refine V_putIN (j := 17) 80 rfl ck_Walker (by decide) (by decide) (show decode M_World_skipsFire.2.1 77 = .ok (.putfield 175, 3) by decide +kernel) wd_459 rfl (fun _ => rfl) rfl rfl (fun σ_7 => ?_)
      refine V_aload_n 81 rfl (show decode M_World_skipsFire.2.1 80 = .ok (.aload_n 1, 1) by decide +kernel) 3 rfl ?_
      refine V_iload_n 82 rfl (show decode M_World_skipsFire.2.1 81 = .ok (.iload_n 2, 1) by decide +kernel) 1 rfl ?_
      refine V_putIN (j := 6) 85 rfl ck_Walker (by decide) (by decide) (show decode M_World_skipsFire.2.1 82 = .ok (.putfield 100, 3) by decide +kernel) wd_434 rfl (fun _ => rfl) rfl rfl (fun σ_8 => ?_)
      refine V_iconst 86 rfl (show decode M_World_skipsFire.2.1 85 = .ok (.iconst 1, 1) by decide +kernel) (v := 1) rfl ?_
      exact V_zret rfl (by decide) (by decide) rfl (show decode M_World_skipsFire.2.1 86 = .ok (.ireturn, 1) by decide +kernel)
theorem cal_World_skipsFire (d mc ms k n : Nat) (h1 : 4 + 1 ≤ d) (h2 : k + 0 ≤ mc) (h3 : n + 0 ≤ ms) : Cal M_World_skipsFire 4 0 0 1 d mc ms k n := ⟨wd_1120, wd_171, by decide, h1, by decide, h2, h3⟩
abbrev M_Ground_isShutOn : MD := (⟨"LongTrail$Ground", "isShutOn", "(II)Z"⟩, prog_3_method_13_code, 3, (some FieldType.boolean))
def f_Ground_isShutOn (h0 : Nat) (x1 : Int32) (x2 : Int32) (b : Bool) (σ : Sto) : Rs Int32 := (if (((SI σ (SR σ h0 3) (ix x1)) >>> ((x2 - x2 / (7 : Int32) * (7 : Int32)) &&& 31)) &&& (1 : Int32)) = (1 : Int32) then ((1 : Int32), (((b && cK σ h0 2) && cA σ (SR σ h0 3) 21 x1) && !decide ((7 : Int32) = 0)), σ) else ((0 : Int32), (((b && cK σ h0 2) && cA σ (SR σ h0 3) 21 x1) && !decide ((7 : Int32) = 0)), σ))
set_option maxRecDepth 100000 in
set_option maxHeartbeats 4000000 in
theorem s_Ground_isShutOn : ∀ (h0 : Nat) (x1 : Int32) (x2 : Int32) (b : Bool) (σ : Sto), Snd M_Ground_isShutOn 1 0 0 [vR h0, vI x1, vI x2] b σ (tI (f_Ground_isShutOn h0 x1 x2 b σ).1) (f_Ground_isShutOn h0 x1 x2 b σ).2.1 (f_Ground_isShutOn h0 x1 x2 b σ).2.2 := by
  intro h0 x1 x2 b σ
  refine Snd_of (tv := tI) (by decide) (Nat.le_of_ble_eq_true rfl) ?_
  show V M_Ground_isShutOn 1 0 0 0 0 tI (f_Ground_isShutOn h0 x1 x2 b σ) 0 [(0, vR h0), (1, vI x1), (2, vI x2)] [] b σ
  unfold f_Ground_isShutOn
  refine V_aload_n 1 rfl (show decode M_Ground_isShutOn.2.1 0 = .ok (.aload_n 0, 1) by decide +kernel) 0 rfl ?_
  refine V_get (j := 3) (v := vR (SR σ h0 3)) 4 rfl ck_Ground (by decide) (by decide) (show decode M_Ground_isShutOn.2.1 1 = .ok (.getfield 21, 3) by decide +kernel) wd_220 rfl ?_
  refine V_iload_n 5 rfl (show decode M_Ground_isShutOn.2.1 4 = .ok (.iload_n 1, 1) by decide +kernel) 1 rfl ?_
  refine V_ald_int 6 rfl (show decode M_Ground_isShutOn.2.1 5 = .ok (.iaload, 1) by decide +kernel) ?_
  refine V_iload_n 7 rfl (show decode M_Ground_isShutOn.2.1 6 = .ok (.iload_n 2, 1) by decide +kernel) 2 rfl ?_
  refine V_bipush 9 rfl (show decode M_Ground_isShutOn.2.1 7 = .ok (.bipush 7, 2) by decide +kernel) (v := 7) rfl ?_
  refine V_irem 10 rfl (show decode M_Ground_isShutOn.2.1 9 = .ok (.irem, 1) by decide +kernel) ?_
  refine V_ishr 11 rfl (show decode M_Ground_isShutOn.2.1 10 = .ok (.ishr, 1) by decide +kernel) ?_
  refine V_iconst 12 rfl (show decode M_Ground_isShutOn.2.1 11 = .ok (.iconst 1, 1) by decide +kernel) (v := 1) rfl ?_
  refine V_iand 13 rfl (show decode M_Ground_isShutOn.2.1 12 = .ok (.iand, 1) by decide +kernel) ?_
  refine V_iconst 14 rfl (show decode M_Ground_isShutOn.2.1 13 = .ok (.iconst 1, 1) by decide +kernel) (v := 1) rfl ?_
  refine V_icmpne 17 21 rfl (show decode M_Ground_isShutOn.2.1 14 = .ok (.if_icmp .ne 7, 3) by decide +kernel) rfl ?_ ?_
  · skip
    refine V_iconst 18 rfl (show decode M_Ground_isShutOn.2.1 17 = .ok (.iconst 1, 1) by decide +kernel) (v := 1) rfl ?_
    refine V_goto 22 (show decode M_Ground_isShutOn.2.1 18 = .ok (.goto 4, 3) by decide +kernel) rfl ?_
    exact V_zret rfl (by decide) (by decide) rfl (show decode M_Ground_isShutOn.2.1 22 = .ok (.ireturn, 1) by decide +kernel)
  · skip
    refine V_iconst 22 rfl (show decode M_Ground_isShutOn.2.1 21 = .ok (.iconst 0, 1) by decide +kernel) (v := 0) rfl ?_
    exact V_zret rfl (by decide) (by decide) rfl (show decode M_Ground_isShutOn.2.1 22 = .ok (.ireturn, 1) by decide +kernel)
theorem cal_Ground_isShutOn (d mc ms k n : Nat) (h1 : 1 + 1 ≤ d) (h2 : k + 0 ≤ mc) (h3 : n + 0 ≤ ms) : Cal M_Ground_isShutOn 1 0 0 2 d mc ms k n := ⟨wd_1107, wd_172, by decide, h1, by decide, h2, h3⟩
abbrev M_Post_giveOnAt : MD := (⟨"LongTrail$Post", "giveOnAt", "(II)V"⟩, prog_6_method_12_code, 4, (none : Option FieldType))
def b_Post_giveOnAt_2 (h0 : Nat) (x1 : Int32) (x2 : Int32) (L2 : Int32 → Bool → Sto → Rs Unit) (x3 : Int32) (b : Bool) (σ : Sto) : Rs Unit := (if x3 < (SI σ h0 5) then (bd_ (f_Post_isOpenFor h0 x3 x1 ((b && cK σ h0 5) && cK σ h0 5) σ) (fun (r_2 : Int32) (b_2 : Bool) (σ_2 : Sto) => (lt_ (fun (b : Bool) (σ : Sto) => (lt_ (x3 + (1 : Int32)) (fun (x3_3 : Int32) => (L2 x3_3 b σ)))) (fun J36 => (if r_2 = 0 then (J36 b_2 σ_2) else (if (SI σ_2 (SR σ_2 h0 1) (ix x3)) = x2 then (lt_ (pI σ_2 (SR σ_2 h0 4) (ix x3) (2 : Int32)) (fun (σ_4 : Sto) => (J36 ((((b_2 && cK σ_2 h0 5) && cA σ_2 (SR σ_2 h0 1) 21 x3) && cK σ_2 h0 5) && cA σ_2 (SR σ_2 h0 4) 21 x3) σ_4))) else (J36 ((b_2 && cK σ_2 h0 5) && cA σ_2 (SR σ_2 h0 1) 21 x3) σ_2))))))) else ((), (b && cK σ h0 5), σ))
def f_Post_giveOnAt (h0 : Nat) (x1 : Int32) (x2 : Int32) (b : Bool) (σ : Sto) : Rs Unit := (lt_ (0 : Int32) (fun (x3_1 : Int32) => (lp_ (b_Post_giveOnAt_2 h0 x1 x2) (fun (x3 : Int32) (b : Bool) (σ : Sto) => ((), false, σ)) fuel_ x3_1 b σ)))
set_option maxRecDepth 100000 in
set_option maxHeartbeats 4000000 in
theorem s_Post_giveOnAt : ∀ (h0 : Nat) (x1 : Int32) (x2 : Int32) (b : Bool) (σ : Sto), Snd M_Post_giveOnAt 2 0 0 [vR h0, vI x1, vI x2] b σ (tU (f_Post_giveOnAt h0 x1 x2 b σ).1) (f_Post_giveOnAt h0 x1 x2 b σ).2.1 (f_Post_giveOnAt h0 x1 x2 b σ).2.2 := by
  intro h0 x1 x2 b σ
  refine Snd_of (tv := tU) (by decide) (Nat.le_of_ble_eq_true rfl) ?_
  show V M_Post_giveOnAt 2 0 0 0 0 tU (f_Post_giveOnAt h0 x1 x2 b σ) 0 [(0, vR h0), (1, vI x1), (2, vI x2)] [] b σ
  unfold f_Post_giveOnAt
  refine V_iconst 1 rfl (show decode M_Post_giveOnAt.2.1 0 = .ok (.iconst 0, 1) by decide +kernel) (v := 0) rfl ?_
  refine V_istore_n (fun x3_1 => [(3, vI x3_1), (0, vR h0), (1, vI x1), (2, vI x2)]) 2 rfl (show decode M_Post_giveOnAt.2.1 1 = .ok (.istore_n 3, 1) by decide +kernel) (by decide) (fun _ => rfl) (fun x3_1 => ?_)
  refine V_sub [1, 2, 3, 0] rfl ?_
  refine lp_P (fun (L2 : Int32 → Bool → Sto → Rs Unit) => ∀ (x3 : Int32) (b : Bool) (σ : Sto), V M_Post_giveOnAt 2 0 0 0 0 tU (L2 x3 b σ) 2 [(0, vR h0), (1, vI x1), (2, vI x2), (3, vI x3)] [] b σ) ?_ ?_ fuel_ x3_1 b σ
  · intro x3 b σ; exact V_bad
  · intro L2 hL2 x3 b σ
    unfold b_Post_giveOnAt_2
    refine V_iload_n 3 rfl (show decode M_Post_giveOnAt.2.1 2 = .ok (.iload_n 3, 1) by decide +kernel) 3 rfl ?_
    refine V_aload_n 4 rfl (show decode M_Post_giveOnAt.2.1 3 = .ok (.aload_n 0, 1) by decide +kernel) 0 rfl ?_
    refine V_get (j := 5) (v := vI (SI σ h0 5)) 7 rfl ck_Post (by decide) (by decide) (show decode M_Post_giveOnAt.2.1 4 = .ok (.getfield 31, 3) by decide +kernel) wd_307 rfl ?_
    refine V_icmpge 10 42 rfl (show decode M_Post_giveOnAt.2.1 7 = .ok (.if_icmp .ge 35, 3) by decide +kernel) rfl ?_ ?_
    · skip
      refine V_aload_n 11 rfl (show decode M_Post_giveOnAt.2.1 10 = .ok (.aload_n 0, 1) by decide +kernel) 0 rfl ?_
      refine V_iload_n 12 rfl (show decode M_Post_giveOnAt.2.1 11 = .ok (.iload_n 3, 1) by decide +kernel) 3 rfl ?_
      refine V_iload_n 13 rfl (show decode M_Post_giveOnAt.2.1 12 = .ok (.iload_n 1, 1) by decide +kernel) 1 rfl ?_
      refine V_callV (tb := tI) (as := [vI x3, vI x1]) (rest := []) (na := 2) 16 rfl ck_Post (by decide) (s_Post_isOpenFor h0 x3 x1 ((b && cK σ h0 5) && cK σ h0 5) σ) rfl rfl (Nat.le_of_ble_eq_true rfl) (cal_Post_isOpenFor _ _ _ _ _ (by decide) (by decide) (by decide)) (show decode M_Post_giveOnAt.2.1 13 = .ok (.invokevirtual 41, 3) by decide +kernel) wd_1025 wd_1027 wd_37 (fun r_2 b_2 σ_2 => ?_)
      show V M_Post_giveOnAt 2 0 0 0 0 tU _ 16 [(0, vR h0), (1, vI x1), (2, vI x2), (3, vI x3)] [vI r_2] b_2 σ_2
      refine V_jn (fun (J36 : Bool → Sto → Rs Unit) => ∀ (b : Bool) (σ : Sto), V M_Post_giveOnAt 2 0 0 0 0 tU (J36 b σ) 36 [(0, vR h0), (1, vI x1), (2, vI x2), (3, vI x3)] [] b σ) ?_ (fun J36 hJ36 => ?_)
      · intro b σ
        refine V_iinc (fun x3_3 => [(3, vI x3_3), (0, vR h0), (1, vI x1), (2, vI x2)]) 39 rfl (show decode M_Post_giveOnAt.2.1 36 = .ok (.iinc 3 1, 3) by decide +kernel) 3 rfl (w := 1) rfl (by decide) (fun _ => rfl) (fun x3_3 => ?_)
        refine V_goto 2 (show decode M_Post_giveOnAt.2.1 39 = .ok (.goto (-37), 3) by decide +kernel) rfl ?_
        exact V_sub [1, 2, 3, 0] rfl (hL2 x3_3 b σ)
      · skip
        refine V_ifeq 19 36 rfl (show decode M_Post_giveOnAt.2.1 16 = .ok (.ifCond .eq 20, 3) by decide +kernel) rfl ?_ ?_
        · skip
          exact V_sub [0, 1, 2, 3] rfl (hJ36 b_2 σ_2)
        · skip
          refine V_aload_n 20 rfl (show decode M_Post_giveOnAt.2.1 19 = .ok (.aload_n 0, 1) by decide +kernel) 0 rfl ?_
          refine V_get (j := 1) (v := vR (SR σ_2 h0 1)) 23 rfl ck_Post (by decide) (by decide) (show decode M_Post_giveOnAt.2.1 20 = .ok (.getfield 13, 3) by decide +kernel) wd_299 rfl ?_
          refine V_iload_n 24 rfl (show decode M_Post_giveOnAt.2.1 23 = .ok (.iload_n 3, 1) by decide +kernel) 3 rfl ?_
          refine V_ald_int 25 rfl (show decode M_Post_giveOnAt.2.1 24 = .ok (.iaload, 1) by decide +kernel) ?_
          refine V_iload_n 26 rfl (show decode M_Post_giveOnAt.2.1 25 = .ok (.iload_n 2, 1) by decide +kernel) 2 rfl ?_
          refine V_icmpne 29 36 rfl (show decode M_Post_giveOnAt.2.1 26 = .ok (.if_icmp .ne 10, 3) by decide +kernel) rfl ?_ ?_
          · skip
            refine V_aload_n 30 rfl (show decode M_Post_giveOnAt.2.1 29 = .ok (.aload_n 0, 1) by decide +kernel) 0 rfl ?_
            refine V_get (j := 4) (v := vR (SR σ_2 h0 4)) 33 rfl ck_Post (by decide) (by decide) (show decode M_Post_giveOnAt.2.1 30 = .ok (.getfield 22, 3) by decide +kernel) wd_305 rfl ?_
            refine V_iload_n 34 rfl (show decode M_Post_giveOnAt.2.1 33 = .ok (.iload_n 3, 1) by decide +kernel) 3 rfl ?_
            refine V_iconst 35 rfl (show decode M_Post_giveOnAt.2.1 34 = .ok (.iconst 2, 1) by decide +kernel) (v := 2) rfl ?_
            refine V_ast_int 36 rfl (show decode M_Post_giveOnAt.2.1 35 = .ok (.iastore, 1) by decide +kernel) (fun σ_4 => ?_)
            exact V_sub [0, 1, 2, 3] rfl (hJ36 ((((b_2 && cK σ_2 h0 5) && cA σ_2 (SR σ_2 h0 1) 21 x3) && cK σ_2 h0 5) && cA σ_2 (SR σ_2 h0 4) 21 x3) σ_4)
          · skip
            exact V_sub [0, 1, 2, 3] rfl (hJ36 ((b_2 && cK σ_2 h0 5) && cA σ_2 (SR σ_2 h0 1) 21 x3) σ_2)
    · skip
      exact V_vret rfl (by decide) (by decide) (show decode M_Post_giveOnAt.2.1 42 = .ok (.return_, 1) by decide +kernel)
theorem cal_Post_giveOnAt (d mc ms k n : Nat) (h1 : 2 + 1 ≤ d) (h2 : k + 0 ≤ mc) (h3 : n + 0 ≤ ms) : Cal M_Post_giveOnAt 2 0 0 2 d mc ms k n := ⟨wd_1116, wd_174, by decide, h1, by decide, h2, h3⟩
abbrev M_Post_openAt : MD := (⟨"LongTrail$Post", "openAt", "(II)I"⟩, prog_6_method_9_code, 5, (some FieldType.int))
def b_Post_openAt_5 (h0 : Nat) (x1 : Int32) (x2 : Int32) (L5 : Int32 → Int32 → Bool → Sto → Rs Int32) (x3 : Int32) (x4 : Int32) (b : Bool) (σ : Sto) : Rs Int32 := (if x4 < (SI σ h0 5) then (bd_ (f_Post_isOpenFor h0 x4 x1 ((b && cK σ h0 5) && cK σ h0 5) σ) (fun (r_3 : Int32) (b_3 : Bool) (σ_3 : Sto) => (lt_ (fun (s0_41 : Int32) (s1_41 : Int32) (b : Bool) (σ : Sto) => (lt_ (s1_41 + s0_41) (fun (x3_4 : Int32) => (lt_ (x4 + (1 : Int32)) (fun (x4_5 : Int32) => (L5 x3_4 x4_5 b σ)))))) (fun J41 => (lt_ (fun (s0_40 : Int32) (b : Bool) (σ : Sto) => (J41 (0 : Int32) s0_40 b σ)) (fun J40 => (if r_3 = 0 then (J40 x3 b_3 σ_3) else (if (SI σ_3 (SR σ_3 h0 1) (ix x4)) = x2 then (J41 (1 : Int32) x3 ((b_3 && cK σ_3 h0 5) && cA σ_3 (SR σ_3 h0 1) 21 x4) σ_3) else (J40 x3 ((b_3 && cK σ_3 h0 5) && cA σ_3 (SR σ_3 h0 1) 21 x4) σ_3))))))))) else (x3, (b && cK σ h0 5), σ))
def f_Post_openAt (h0 : Nat) (x1 : Int32) (x2 : Int32) (b : Bool) (σ : Sto) : Rs Int32 := (lt_ (0 : Int32) (fun (x3_1 : Int32) => (lt_ (0 : Int32) (fun (x4_2 : Int32) => (lp_ (b_Post_openAt_5 h0 x1 x2) (fun (x3 : Int32) (x4 : Int32) (b : Bool) (σ : Sto) => (0, false, σ)) fuel_ x3_1 x4_2 b σ)))))
set_option maxRecDepth 100000 in
set_option maxHeartbeats 4000000 in
theorem s_Post_openAt : ∀ (h0 : Nat) (x1 : Int32) (x2 : Int32) (b : Bool) (σ : Sto), Snd M_Post_openAt 2 0 0 [vR h0, vI x1, vI x2] b σ (tI (f_Post_openAt h0 x1 x2 b σ).1) (f_Post_openAt h0 x1 x2 b σ).2.1 (f_Post_openAt h0 x1 x2 b σ).2.2 := by
  intro h0 x1 x2 b σ
  refine Snd_of (tv := tI) (by decide) (Nat.le_of_ble_eq_true rfl) ?_
  show V M_Post_openAt 2 0 0 0 0 tI (f_Post_openAt h0 x1 x2 b σ) 0 [(0, vR h0), (1, vI x1), (2, vI x2)] [] b σ
  unfold f_Post_openAt
  refine V_iconst 1 rfl (show decode M_Post_openAt.2.1 0 = .ok (.iconst 0, 1) by decide +kernel) (v := 0) rfl ?_
  refine V_istore_n (fun x3_1 => [(3, vI x3_1), (0, vR h0), (1, vI x1), (2, vI x2)]) 2 rfl (show decode M_Post_openAt.2.1 1 = .ok (.istore_n 3, 1) by decide +kernel) (by decide) (fun _ => rfl) (fun x3_1 => ?_)
  refine V_iconst 3 rfl (show decode M_Post_openAt.2.1 2 = .ok (.iconst 0, 1) by decide +kernel) (v := 0) rfl ?_
  refine V_istore (fun x4_2 => [(4, vI x4_2), (3, vI x3_1), (0, vR h0), (1, vI x1), (2, vI x2)]) 5 rfl (show decode M_Post_openAt.2.1 3 = .ok (.istore 4, 2) by decide +kernel) (by decide) (fun _ => rfl) (fun x4_2 => ?_)
  refine V_sub [2, 3, 4, 1, 0] rfl ?_
  refine lp_P (fun (L5 : Int32 → Int32 → Bool → Sto → Rs Int32) => ∀ (x3 : Int32) (x4 : Int32) (b : Bool) (σ : Sto), V M_Post_openAt 2 0 0 0 0 tI (L5 x3 x4 b σ) 5 [(0, vR h0), (1, vI x1), (2, vI x2), (3, vI x3), (4, vI x4)] [] b σ) ?_ ?_ fuel_ x3_1 x4_2 b σ
  · intro x3 x4 b σ; exact V_bad
  · intro L5 hL5 x3 x4 b σ
    unfold b_Post_openAt_5
    refine V_iload 7 rfl (show decode M_Post_openAt.2.1 5 = .ok (.iload 4, 2) by decide +kernel) 4 rfl ?_
    refine V_aload_n 8 rfl (show decode M_Post_openAt.2.1 7 = .ok (.aload_n 0, 1) by decide +kernel) 0 rfl ?_
    refine V_get (j := 5) (v := vI (SI σ h0 5)) 11 rfl ck_Post (by decide) (by decide) (show decode M_Post_openAt.2.1 8 = .ok (.getfield 31, 3) by decide +kernel) wd_307 rfl ?_
    refine V_icmpge 14 49 rfl (show decode M_Post_openAt.2.1 11 = .ok (.if_icmp .ge 38, 3) by decide +kernel) rfl ?_ ?_
    · skip
      refine V_iload_n 15 rfl (show decode M_Post_openAt.2.1 14 = .ok (.iload_n 3, 1) by decide +kernel) 3 rfl ?_
      refine V_aload_n 16 rfl (show decode M_Post_openAt.2.1 15 = .ok (.aload_n 0, 1) by decide +kernel) 0 rfl ?_
      refine V_iload 18 rfl (show decode M_Post_openAt.2.1 16 = .ok (.iload 4, 2) by decide +kernel) 4 rfl ?_
      refine V_iload_n 19 rfl (show decode M_Post_openAt.2.1 18 = .ok (.iload_n 1, 1) by decide +kernel) 1 rfl ?_
      refine V_callV (tb := tI) (as := [vI x4, vI x1]) (rest := [vI x3]) (na := 2) 22 rfl ck_Post (by decide) (s_Post_isOpenFor h0 x4 x1 ((b && cK σ h0 5) && cK σ h0 5) σ) rfl rfl (Nat.le_of_ble_eq_true rfl) (cal_Post_isOpenFor _ _ _ _ _ (by decide) (by decide) (by decide)) (show decode M_Post_openAt.2.1 19 = .ok (.invokevirtual 41, 3) by decide +kernel) wd_1025 wd_1027 wd_37 (fun r_3 b_3 σ_3 => ?_)
      show V M_Post_openAt 2 0 0 0 0 tI _ 22 [(0, vR h0), (1, vI x1), (2, vI x2), (3, vI x3), (4, vI x4)] [vI r_3, vI x3] b_3 σ_3
      refine V_jn (fun (J41 : Int32 → Int32 → Bool → Sto → Rs Int32) => ∀ (s0_41 : Int32) (s1_41 : Int32) (b : Bool) (σ : Sto), V M_Post_openAt 2 0 0 0 0 tI (J41 s0_41 s1_41 b σ) 41 [(0, vR h0), (1, vI x1), (2, vI x2), (4, vI x4)] [vI s0_41, vI s1_41] b σ) ?_ (fun J41 hJ41 => ?_)
      · intro s0_41 s1_41 b σ
        refine V_iadd 42 rfl (show decode M_Post_openAt.2.1 41 = .ok (.iadd, 1) by decide +kernel) ?_
        refine V_istore_n (fun x3_4 => [(3, vI x3_4), (0, vR h0), (1, vI x1), (2, vI x2), (4, vI x4)]) 43 rfl (show decode M_Post_openAt.2.1 42 = .ok (.istore_n 3, 1) by decide +kernel) (by decide) (fun _ => rfl) (fun x3_4 => ?_)
        refine V_iinc (fun x4_5 => [(4, vI x4_5), (3, vI x3_4), (0, vR h0), (1, vI x1), (2, vI x2)]) 46 rfl (show decode M_Post_openAt.2.1 43 = .ok (.iinc 4 1, 3) by decide +kernel) 4 rfl (w := 1) rfl (by decide) (fun _ => rfl) (fun x4_5 => ?_)
        refine V_goto 5 (show decode M_Post_openAt.2.1 46 = .ok (.goto (-41), 3) by decide +kernel) rfl ?_
        exact V_sub [2, 3, 4, 1, 0] rfl (hL5 x3_4 x4_5 b σ)
      · skip
        refine V_jn (fun (J40 : Int32 → Bool → Sto → Rs Int32) => ∀ (s0_40 : Int32) (b : Bool) (σ : Sto), V M_Post_openAt 2 0 0 0 0 tI (J40 s0_40 b σ) 40 [(0, vR h0), (1, vI x1), (2, vI x2), (4, vI x4)] [vI s0_40] b σ) ?_ (fun J40 hJ40 => ?_)
        · intro s0_40 b σ
          refine V_iconst 41 rfl (show decode M_Post_openAt.2.1 40 = .ok (.iconst 0, 1) by decide +kernel) (v := 0) rfl ?_
          exact V_sub [0, 1, 2, 3] rfl (hJ41 (0 : Int32) s0_40 b σ)
        · skip
          refine V_ifeq 25 40 rfl (show decode M_Post_openAt.2.1 22 = .ok (.ifCond .eq 18, 3) by decide +kernel) rfl ?_ ?_
          · skip
            exact V_sub [0, 1, 2, 4] rfl (hJ40 x3 b_3 σ_3)
          · skip
            refine V_aload_n 26 rfl (show decode M_Post_openAt.2.1 25 = .ok (.aload_n 0, 1) by decide +kernel) 0 rfl ?_
            refine V_get (j := 1) (v := vR (SR σ_3 h0 1)) 29 rfl ck_Post (by decide) (by decide) (show decode M_Post_openAt.2.1 26 = .ok (.getfield 13, 3) by decide +kernel) wd_299 rfl ?_
            refine V_iload 31 rfl (show decode M_Post_openAt.2.1 29 = .ok (.iload 4, 2) by decide +kernel) 4 rfl ?_
            refine V_ald_int 32 rfl (show decode M_Post_openAt.2.1 31 = .ok (.iaload, 1) by decide +kernel) ?_
            refine V_iload_n 33 rfl (show decode M_Post_openAt.2.1 32 = .ok (.iload_n 2, 1) by decide +kernel) 2 rfl ?_
            refine V_icmpne 36 40 rfl (show decode M_Post_openAt.2.1 33 = .ok (.if_icmp .ne 7, 3) by decide +kernel) rfl ?_ ?_
            · skip
              refine V_iconst 37 rfl (show decode M_Post_openAt.2.1 36 = .ok (.iconst 1, 1) by decide +kernel) (v := 1) rfl ?_
              refine V_goto 41 (show decode M_Post_openAt.2.1 37 = .ok (.goto 4, 3) by decide +kernel) rfl ?_
              exact V_sub [0, 1, 2, 4] rfl (hJ41 (1 : Int32) x3 ((b_3 && cK σ_3 h0 5) && cA σ_3 (SR σ_3 h0 1) 21 x4) σ_3)
            · skip
              exact V_sub [0, 1, 2, 4] rfl (hJ40 x3 ((b_3 && cK σ_3 h0 5) && cA σ_3 (SR σ_3 h0 1) 21 x4) σ_3)
    · skip
      refine V_iload_n 50 rfl (show decode M_Post_openAt.2.1 49 = .ok (.iload_n 3, 1) by decide +kernel) 3 rfl ?_
      exact V_iret rfl (by decide) (by decide) (show decode M_Post_openAt.2.1 50 = .ok (.ireturn, 1) by decide +kernel)
theorem cal_Post_openAt (d mc ms k n : Nat) (h1 : 2 + 1 ≤ d) (h2 : k + 0 ≤ mc) (h3 : n + 0 ≤ ms) : Cal M_Post_openAt 2 0 0 2 d mc ms k n := ⟨wd_1103, wd_174, by decide, h1, by decide, h2, h3⟩
abbrev M_Post_takeBoxes : MD := (⟨"LongTrail$Post", "takeBoxes", "(III)I"⟩, prog_6_method_11_code, 6, (some FieldType.int))
def b_Post_takeBoxes_6 (h0 : Nat) (x1 : Int32) (x2 : Int32) (x3 : Int32) (L6 : Int32 → Int32 → Bool → Sto → Rs Int32) (x4 : Int32) (x5 : Int32) (b : Bool) (σ : Sto) : Rs Int32 := (if x5 < (SI σ h0 5) then (bd_ (f_Post_isOpenFor h0 x5 x1 ((b && cK σ h0 5) && cK σ h0 5) σ) (fun (r_3 : Int32) (b_3 : Bool) (σ_3 : Sto) => (lt_ (fun (x4_67 : Int32) (b : Bool) (σ : Sto) => (lt_ (x5 + (1 : Int32)) (fun (x5_4 : Int32) => (L6 x4_67 x5_4 b σ)))) (fun J67 => (if r_3 = 0 then (J67 x4 b_3 σ_3) else (if (SI σ_3 (SR σ_3 h0 1) (ix x5)) = x2 then (if x3 < (SI σ_3 (SR σ_3 h0 3) (ix x5)) then (J67 x4 ((((b_3 && cK σ_3 h0 5) && cA σ_3 (SR σ_3 h0 1) 21 x5) && cK σ_3 h0 5) && cA σ_3 (SR σ_3 h0 3) 21 x5) σ_3) else (lt_ (pI σ_3 (SR σ_3 h0 4) (ix x5) (1 : Int32)) (fun (σ_5 : Sto) => (lt_ (x4 + (SI σ_5 (SR σ_5 h0 2) (ix x5))) (fun (x4_6 : Int32) => (J67 x4_6 ((((((((b_3 && cK σ_3 h0 5) && cA σ_3 (SR σ_3 h0 1) 21 x5) && cK σ_3 h0 5) && cA σ_3 (SR σ_3 h0 3) 21 x5) && cK σ_3 h0 5) && cA σ_3 (SR σ_3 h0 4) 21 x5) && cK σ_5 h0 5) && cA σ_5 (SR σ_5 h0 2) 21 x5) σ_5)))))) else (J67 x4 ((b_3 && cK σ_3 h0 5) && cA σ_3 (SR σ_3 h0 1) 21 x5) σ_3))))))) else (x4, (b && cK σ h0 5), σ))
def f_Post_takeBoxes (h0 : Nat) (x1 : Int32) (x2 : Int32) (x3 : Int32) (b : Bool) (σ : Sto) : Rs Int32 := (lt_ (0 : Int32) (fun (x4_1 : Int32) => (lt_ (0 : Int32) (fun (x5_2 : Int32) => (lp_ (b_Post_takeBoxes_6 h0 x1 x2 x3) (fun (x4 : Int32) (x5 : Int32) (b : Bool) (σ : Sto) => (0, false, σ)) fuel_ x4_1 x5_2 b σ)))))
set_option maxRecDepth 100000 in
set_option maxHeartbeats 4000000 in
theorem s_Post_takeBoxes : ∀ (h0 : Nat) (x1 : Int32) (x2 : Int32) (x3 : Int32) (b : Bool) (σ : Sto), Snd M_Post_takeBoxes 2 0 0 [vR h0, vI x1, vI x2, vI x3] b σ (tI (f_Post_takeBoxes h0 x1 x2 x3 b σ).1) (f_Post_takeBoxes h0 x1 x2 x3 b σ).2.1 (f_Post_takeBoxes h0 x1 x2 x3 b σ).2.2 := by
  intro h0 x1 x2 x3 b σ
  refine Snd_of (tv := tI) (by decide) (Nat.le_of_ble_eq_true rfl) ?_
  show V M_Post_takeBoxes 2 0 0 0 0 tI (f_Post_takeBoxes h0 x1 x2 x3 b σ) 0 [(0, vR h0), (1, vI x1), (2, vI x2), (3, vI x3)] [] b σ
  unfold f_Post_takeBoxes
  refine V_iconst 1 rfl (show decode M_Post_takeBoxes.2.1 0 = .ok (.iconst 0, 1) by decide +kernel) (v := 0) rfl ?_
  refine V_istore (fun x4_1 => [(4, vI x4_1), (0, vR h0), (1, vI x1), (2, vI x2), (3, vI x3)]) 3 rfl (show decode M_Post_takeBoxes.2.1 1 = .ok (.istore 4, 2) by decide +kernel) (by decide) (fun _ => rfl) (fun x4_1 => ?_)
  refine V_iconst 4 rfl (show decode M_Post_takeBoxes.2.1 3 = .ok (.iconst 0, 1) by decide +kernel) (v := 0) rfl ?_
  refine V_istore (fun x5_2 => [(5, vI x5_2), (4, vI x4_1), (0, vR h0), (1, vI x1), (2, vI x2), (3, vI x3)]) 6 rfl (show decode M_Post_takeBoxes.2.1 4 = .ok (.istore 5, 2) by decide +kernel) (by decide) (fun _ => rfl) (fun x5_2 => ?_)
  refine V_sub [2, 3, 4, 5, 1, 0] rfl ?_
  refine lp_P (fun (L6 : Int32 → Int32 → Bool → Sto → Rs Int32) => ∀ (x4 : Int32) (x5 : Int32) (b : Bool) (σ : Sto), V M_Post_takeBoxes 2 0 0 0 0 tI (L6 x4 x5 b σ) 6 [(0, vR h0), (1, vI x1), (2, vI x2), (3, vI x3), (4, vI x4), (5, vI x5)] [] b σ) ?_ ?_ fuel_ x4_1 x5_2 b σ
  · intro x4 x5 b σ; exact V_bad
  · intro L6 hL6 x4 x5 b σ
    unfold b_Post_takeBoxes_6
    refine V_iload 8 rfl (show decode M_Post_takeBoxes.2.1 6 = .ok (.iload 5, 2) by decide +kernel) 5 rfl ?_
    refine V_aload_n 9 rfl (show decode M_Post_takeBoxes.2.1 8 = .ok (.aload_n 0, 1) by decide +kernel) 0 rfl ?_
    refine V_get (j := 5) (v := vI (SI σ h0 5)) 12 rfl ck_Post (by decide) (by decide) (show decode M_Post_takeBoxes.2.1 9 = .ok (.getfield 31, 3) by decide +kernel) wd_307 rfl ?_
    refine V_icmpge 15 73 rfl (show decode M_Post_takeBoxes.2.1 12 = .ok (.if_icmp .ge 61, 3) by decide +kernel) rfl ?_ ?_
    · skip
      refine V_aload_n 16 rfl (show decode M_Post_takeBoxes.2.1 15 = .ok (.aload_n 0, 1) by decide +kernel) 0 rfl ?_
      refine V_iload 18 rfl (show decode M_Post_takeBoxes.2.1 16 = .ok (.iload 5, 2) by decide +kernel) 5 rfl ?_
      refine V_iload_n 19 rfl (show decode M_Post_takeBoxes.2.1 18 = .ok (.iload_n 1, 1) by decide +kernel) 1 rfl ?_
      refine V_callV (tb := tI) (as := [vI x5, vI x1]) (rest := []) (na := 2) 22 rfl ck_Post (by decide) (s_Post_isOpenFor h0 x5 x1 ((b && cK σ h0 5) && cK σ h0 5) σ) rfl rfl (Nat.le_of_ble_eq_true rfl) (cal_Post_isOpenFor _ _ _ _ _ (by decide) (by decide) (by decide)) (show decode M_Post_takeBoxes.2.1 19 = .ok (.invokevirtual 41, 3) by decide +kernel) wd_1025 wd_1027 wd_37 (fun r_3 b_3 σ_3 => ?_)
      show V M_Post_takeBoxes 2 0 0 0 0 tI _ 22 [(0, vR h0), (1, vI x1), (2, vI x2), (3, vI x3), (4, vI x4), (5, vI x5)] [vI r_3] b_3 σ_3
      refine V_jn (fun (J67 : Int32 → Bool → Sto → Rs Int32) => ∀ (x4_67 : Int32) (b : Bool) (σ : Sto), V M_Post_takeBoxes 2 0 0 0 0 tI (J67 x4_67 b σ) 67 [(0, vR h0), (1, vI x1), (2, vI x2), (3, vI x3), (4, vI x4_67), (5, vI x5)] [] b σ) ?_ (fun J67 hJ67 => ?_)
      · intro x4_67 b σ
        refine V_iinc (fun x5_4 => [(5, vI x5_4), (0, vR h0), (1, vI x1), (2, vI x2), (3, vI x3), (4, vI x4_67)]) 70 rfl (show decode M_Post_takeBoxes.2.1 67 = .ok (.iinc 5 1, 3) by decide +kernel) 5 rfl (w := 1) rfl (by decide) (fun _ => rfl) (fun x5_4 => ?_)
        refine V_goto 6 (show decode M_Post_takeBoxes.2.1 70 = .ok (.goto (-64), 3) by decide +kernel) rfl ?_
        exact V_sub [1, 2, 3, 4, 5, 0] rfl (hL6 x4_67 x5_4 b σ)
      · skip
        refine V_ifeq 25 67 rfl (show decode M_Post_takeBoxes.2.1 22 = .ok (.ifCond .eq 45, 3) by decide +kernel) rfl ?_ ?_
        · skip
          exact V_sub [0, 1, 2, 3, 4, 5] rfl (hJ67 x4 b_3 σ_3)
        · skip
          refine V_aload_n 26 rfl (show decode M_Post_takeBoxes.2.1 25 = .ok (.aload_n 0, 1) by decide +kernel) 0 rfl ?_
          refine V_get (j := 1) (v := vR (SR σ_3 h0 1)) 29 rfl ck_Post (by decide) (by decide) (show decode M_Post_takeBoxes.2.1 26 = .ok (.getfield 13, 3) by decide +kernel) wd_299 rfl ?_
          refine V_iload 31 rfl (show decode M_Post_takeBoxes.2.1 29 = .ok (.iload 5, 2) by decide +kernel) 5 rfl ?_
          refine V_ald_int 32 rfl (show decode M_Post_takeBoxes.2.1 31 = .ok (.iaload, 1) by decide +kernel) ?_
          refine V_iload_n 33 rfl (show decode M_Post_takeBoxes.2.1 32 = .ok (.iload_n 2, 1) by decide +kernel) 2 rfl ?_
          refine V_icmpne 36 67 rfl (show decode M_Post_takeBoxes.2.1 33 = .ok (.if_icmp .ne 34, 3) by decide +kernel) rfl ?_ ?_
          · skip
            refine V_aload_n 37 rfl (show decode M_Post_takeBoxes.2.1 36 = .ok (.aload_n 0, 1) by decide +kernel) 0 rfl ?_
            refine V_get (j := 3) (v := vR (SR σ_3 h0 3)) 40 rfl ck_Post (by decide) (by decide) (show decode M_Post_takeBoxes.2.1 37 = .ok (.getfield 19, 3) by decide +kernel) wd_303 rfl ?_
            refine V_iload 42 rfl (show decode M_Post_takeBoxes.2.1 40 = .ok (.iload 5, 2) by decide +kernel) 5 rfl ?_
            refine V_ald_int 43 rfl (show decode M_Post_takeBoxes.2.1 42 = .ok (.iaload, 1) by decide +kernel) ?_
            refine V_iload_n 44 rfl (show decode M_Post_takeBoxes.2.1 43 = .ok (.iload_n 3, 1) by decide +kernel) 3 rfl ?_
            refine V_icmpgt 47 67 rfl (show decode M_Post_takeBoxes.2.1 44 = .ok (.if_icmp .gt 23, 3) by decide +kernel) rfl ?_ ?_
            · skip
              exact V_sub [0, 1, 2, 3, 4, 5] rfl (hJ67 x4 ((((b_3 && cK σ_3 h0 5) && cA σ_3 (SR σ_3 h0 1) 21 x5) && cK σ_3 h0 5) && cA σ_3 (SR σ_3 h0 3) 21 x5) σ_3)
            · skip
              refine V_aload_n 48 rfl (show decode M_Post_takeBoxes.2.1 47 = .ok (.aload_n 0, 1) by decide +kernel) 0 rfl ?_
              refine V_get (j := 4) (v := vR (SR σ_3 h0 4)) 51 rfl ck_Post (by decide) (by decide) (show decode M_Post_takeBoxes.2.1 48 = .ok (.getfield 22, 3) by decide +kernel) wd_305 rfl ?_
              refine V_iload 53 rfl (show decode M_Post_takeBoxes.2.1 51 = .ok (.iload 5, 2) by decide +kernel) 5 rfl ?_
              refine V_iconst 54 rfl (show decode M_Post_takeBoxes.2.1 53 = .ok (.iconst 1, 1) by decide +kernel) (v := 1) rfl ?_
              refine V_ast_int 55 rfl (show decode M_Post_takeBoxes.2.1 54 = .ok (.iastore, 1) by decide +kernel) (fun σ_5 => ?_)
              refine V_iload 57 rfl (show decode M_Post_takeBoxes.2.1 55 = .ok (.iload 4, 2) by decide +kernel) 4 rfl ?_
              refine V_aload_n 58 rfl (show decode M_Post_takeBoxes.2.1 57 = .ok (.aload_n 0, 1) by decide +kernel) 0 rfl ?_
              refine V_get (j := 2) (v := vR (SR σ_5 h0 2)) 61 rfl ck_Post (by decide) (by decide) (show decode M_Post_takeBoxes.2.1 58 = .ok (.getfield 16, 3) by decide +kernel) wd_301 rfl ?_
              refine V_iload 63 rfl (show decode M_Post_takeBoxes.2.1 61 = .ok (.iload 5, 2) by decide +kernel) 5 rfl ?_
              refine V_ald_int 64 rfl (show decode M_Post_takeBoxes.2.1 63 = .ok (.iaload, 1) by decide +kernel) ?_
              refine V_iadd 65 rfl (show decode M_Post_takeBoxes.2.1 64 = .ok (.iadd, 1) by decide +kernel) ?_
              refine V_istore (fun x4_6 => [(4, vI x4_6), (0, vR h0), (1, vI x1), (2, vI x2), (3, vI x3), (5, vI x5)]) 67 rfl (show decode M_Post_takeBoxes.2.1 65 = .ok (.istore 4, 2) by decide +kernel) (by decide) (fun _ => rfl) (fun x4_6 => ?_)
              exact V_sub [1, 2, 3, 4, 0, 5] rfl (hJ67 x4_6 ((((((((b_3 && cK σ_3 h0 5) && cA σ_3 (SR σ_3 h0 1) 21 x5) && cK σ_3 h0 5) && cA σ_3 (SR σ_3 h0 3) 21 x5) && cK σ_3 h0 5) && cA σ_3 (SR σ_3 h0 4) 21 x5) && cK σ_5 h0 5) && cA σ_5 (SR σ_5 h0 2) 21 x5) σ_5)
          · skip
            exact V_sub [0, 1, 2, 3, 4, 5] rfl (hJ67 x4 ((b_3 && cK σ_3 h0 5) && cA σ_3 (SR σ_3 h0 1) 21 x5) σ_3)
    · skip
      refine V_iload 75 rfl (show decode M_Post_takeBoxes.2.1 73 = .ok (.iload 4, 2) by decide +kernel) 4 rfl ?_
      exact V_iret rfl (by decide) (by decide) (show decode M_Post_takeBoxes.2.1 75 = .ok (.ireturn, 1) by decide +kernel)
theorem cal_Post_takeBoxes (d mc ms k n : Nat) (h1 : 2 + 1 ≤ d) (h2 : k + 0 ≤ mc) (h3 : n + 0 ≤ ms) : Cal M_Post_takeBoxes 2 0 0 3 d mc ms k n := ⟨wd_1111, wd_174, by decide, h1, by decide, h2, h3⟩
abbrev M_Walker_packFood : MD := (⟨"LongTrail$Walker", "packFood", "(I)V"⟩, prog_11_method_7_code, 2, (none : Option FieldType))
def f_Walker_packFood (h0 : Nat) (x1 : Int32) (b : Bool) (σ : Sto) : Rs Unit := (lt_ (pI σ h0 7 (mnI (SI σ h0 3) ((SI σ h0 7) + x1))) (fun (σ_1 : Sto) => ((), (((b && cK σ h0 10) && cK σ h0 10) && cK σ h0 10), σ_1)))
set_option maxRecDepth 100000 in
set_option maxHeartbeats 4000000 in
theorem s_Walker_packFood : ∀ (h0 : Nat) (x1 : Int32) (b : Bool) (σ : Sto), Snd M_Walker_packFood 1 0 0 [vR h0, vI x1] b σ (tU (f_Walker_packFood h0 x1 b σ).1) (f_Walker_packFood h0 x1 b σ).2.1 (f_Walker_packFood h0 x1 b σ).2.2 := by
  intro h0 x1 b σ
  refine Snd_of (tv := tU) (by decide) (Nat.le_of_ble_eq_true rfl) ?_
  show V M_Walker_packFood 1 0 0 0 0 tU (f_Walker_packFood h0 x1 b σ) 0 [(0, vR h0), (1, vI x1)] [] b σ
  unfold f_Walker_packFood
  refine V_aload_n 1 rfl (show decode M_Walker_packFood.2.1 0 = .ok (.aload_n 0, 1) by decide +kernel) 0 rfl ?_
  refine V_aload_n 2 rfl (show decode M_Walker_packFood.2.1 1 = .ok (.aload_n 0, 1) by decide +kernel) 0 rfl ?_
  refine V_get (j := 3) (v := vI (SI σ h0 3)) 5 rfl ck_Walker (by decide) (by decide) (show decode M_Walker_packFood.2.1 2 = .ok (.getfield 19, 3) by decide +kernel) wd_428 rfl ?_
  refine V_aload_n 6 rfl (show decode M_Walker_packFood.2.1 5 = .ok (.aload_n 0, 1) by decide +kernel) 0 rfl ?_
  refine V_get (j := 7) (v := vI (SI σ h0 7)) 9 rfl ck_Walker (by decide) (by decide) (show decode M_Walker_packFood.2.1 6 = .ok (.getfield 31, 3) by decide +kernel) wd_436 rfl ?_
  refine V_iload_n 10 rfl (show decode M_Walker_packFood.2.1 9 = .ok (.iload_n 1, 1) by decide +kernel) 1 rfl ?_
  refine V_iadd 11 rfl (show decode M_Walker_packFood.2.1 10 = .ok (.iadd, 1) by decide +kernel) ?_
  refine V_min 14 rfl (show decode M_Walker_packFood.2.1 11 = .ok (.invokestatic 64, 3) by decide +kernel) wd_1049 wd_880 wd_186 wd_minc (by decide) (Nat.le_of_ble_eq_true rfl) (by decide) (by decide) ?_
  refine V_putI (j := 7) 17 rfl ck_Walker (by decide) (by decide) (show decode M_Walker_packFood.2.1 14 = .ok (.putfield 31, 3) by decide +kernel) wd_436 rfl (fun _ => rfl) rfl rfl (fun σ_1 => ?_)
  exact V_vret rfl (by decide) (by decide) (show decode M_Walker_packFood.2.1 17 = .ok (.return_, 1) by decide +kernel)
theorem cal_Walker_packFood (d mc ms k n : Nat) (h1 : 1 + 1 ≤ d) (h2 : k + 0 ≤ mc) (h3 : n + 0 ≤ ms) : Cal M_Walker_packFood 1 0 0 1 d mc ms k n := ⟨wd_1048, wd_178, by decide, h1, by decide, h2, h3⟩
abbrev M_World_staysForBoxes : MD := (⟨"LongTrail$World", "staysForBoxes", "(I)Z"⟩, prog_12_method_11_code, 5, (some FieldType.boolean))
def f_World_staysForBoxes (h0 : Nat) (x1 : Int32) (b : Bool) (σ : Sto) : Rs Int32 := (lt_ (SR σ (SR σ h0 6) (ix x1)) (fun (h2_1 : Nat) => (bd_ (f_Ground_placeAt (SR σ h0 0) (SI σ h2_1 6) (((((b && cK σ h0 11) && cA σ (SR σ h0 6) 26 x1) && cK σ h0 11) && cK σ h2_1 10) && cK σ (SR σ h0 0) 2) σ) (fun (r_2 : Int32) (b_2 : Bool) (σ_2 : Sto) => (lt_ r_2 (fun (x3_3 : Int32) => (lt_ (fun (b : Bool) (σ : Sto) => ((0 : Int32), b, σ)) (fun J35 => (if x3_3 < 0 then (J35 b_2 σ_2) else (bd_ (f_Post_openAt (SR σ_2 h0 2) x1 x3_3 ((b_2 && cK σ_2 h0 11) && cK σ_2 (SR σ_2 h0 2) 5) σ_2) (fun (r_4 : Int32) (b_4 : Bool) (σ_4 : Sto) => (if r_4 = 0 then (J35 b_4 σ_4) else (bd_ (f_Ground_isShutOn (SR σ_4 h0 0) x3_3 (SI σ_4 h0 8) (((b_4 && cK σ_4 h0 11) && cK σ_4 h0 11) && cK σ_4 (SR σ_4 h0 0) 2) σ_4) (fun (r_5 : Int32) (b_5 : Bool) (σ_5 : Sto) => (lt_ (fun (s0_69 : Int32) (b : Bool) (σ : Sto) => (lt_ s0_69 (fun (x4_6 : Int32) => (if 0 < x4_6 then (bd_ (f_Walker_packFood h2_1 x4_6 (b && cK σ h2_1 10) σ) (fun (r_7 : Unit) (b_7 : Bool) (σ_7 : Sto) => ((0 : Int32), b_7, σ_7))) else (lt_ (pI σ h2_1 14 ((SI σ h2_1 14) + (1 : Int32))) (fun (σ_8 : Sto) => (if (3 : Int32) < (SI σ_8 h2_1 14) then (bd_ (f_Post_giveOnAt (SR σ_8 h0 2) x1 x3_3 (((((b && cK σ h2_1 10) && cK σ h2_1 10) && cK σ_8 h2_1 10) && cK σ_8 h0 11) && cK σ_8 (SR σ_8 h0 2) 5) σ_8) (fun (r_9 : Unit) (b_9 : Bool) (σ_9 : Sto) => ((0 : Int32), b_9, σ_9))) else ((1 : Int32), (((b && cK σ h2_1 10) && cK σ h2_1 10) && cK σ_8 h2_1 10), σ_8)))))))) (fun J69 => (if r_5 = 0 then (bd_ (f_Post_takeBoxes (SR σ_5 h0 2) x1 x3_3 (SI σ_5 h0 8) (((b_5 && cK σ_5 h0 11) && cK σ_5 h0 11) && cK σ_5 (SR σ_5 h0 2) 5) σ_5) (fun (r_10 : Int32) (b_10 : Bool) (σ_10 : Sto) => (J69 r_10 b_10 σ_10))) else (J69 (0 : Int32) b_5 σ_5))))))))))))))))))
set_option maxRecDepth 100000 in
set_option maxHeartbeats 4000000 in
theorem s_World_staysForBoxes : ∀ (h0 : Nat) (x1 : Int32) (b : Bool) (σ : Sto), Snd M_World_staysForBoxes 3 0 0 [vR h0, vI x1] b σ (tI (f_World_staysForBoxes h0 x1 b σ).1) (f_World_staysForBoxes h0 x1 b σ).2.1 (f_World_staysForBoxes h0 x1 b σ).2.2 := by
  intro h0 x1 b σ
  refine Snd_of (tv := tI) (by decide) (Nat.le_of_ble_eq_true rfl) ?_
  show V M_World_staysForBoxes 3 0 0 0 0 tI (f_World_staysForBoxes h0 x1 b σ) 0 [(0, vR h0), (1, vI x1)] [] b σ
  unfold f_World_staysForBoxes
  refine V_aload_n 1 rfl (show decode M_World_staysForBoxes.2.1 0 = .ok (.aload_n 0, 1) by decide +kernel) 0 rfl ?_
  refine V_get (j := 6) (v := vR (SR σ h0 6)) 4 rfl ck_World (by decide) (by decide) (show decode M_World_staysForBoxes.2.1 1 = .ok (.getfield 53, 3) by decide +kernel) wd_509 rfl ?_
  refine V_iload_n 5 rfl (show decode M_World_staysForBoxes.2.1 4 = .ok (.iload_n 1, 1) by decide +kernel) 1 rfl ?_
  refine V_ald_r26 6 rfl (show decode M_World_staysForBoxes.2.1 5 = .ok (.aaload, 1) by decide +kernel) ?_
  refine V_astore_n (fun h2_1 => [(2, vR h2_1), (0, vR h0), (1, vI x1)]) 7 rfl (show decode M_World_staysForBoxes.2.1 6 = .ok (.astore_n 2, 1) by decide +kernel) (by decide) (fun _ => rfl) (fun h2_1 => ?_)
  refine V_aload_n 8 rfl (show decode M_World_staysForBoxes.2.1 7 = .ok (.aload_n 0, 1) by decide +kernel) 1 rfl ?_
  refine V_get (j := 0) (v := vR (SR σ h0 0)) 11 rfl ck_World (by decide) (by decide) (show decode M_World_staysForBoxes.2.1 8 = .ok (.getfield 10, 3) by decide +kernel) wd_497 rfl ?_
  refine V_aload_n 12 rfl (show decode M_World_staysForBoxes.2.1 11 = .ok (.aload_n 2, 1) by decide +kernel) 0 rfl ?_
  refine V_getN (j := 6) (v := vI (SI σ h2_1 6)) 15 rfl ck_Walker (by decide) (by decide) (show decode M_World_staysForBoxes.2.1 12 = .ok (.getfield 100, 3) by decide +kernel) wd_434 rfl ?_
  refine V_callVN (tb := tI) (as := [vI (SI σ h2_1 6)]) (rest := []) (na := 1) 18 rfl ck_Ground (by decide) (s_Ground_placeAt (SR σ h0 0) (SI σ h2_1 6) (((((b && cK σ h0 11) && cA σ (SR σ h0 6) 26 x1) && cK σ h0 11) && cK σ h2_1 10) && cK σ (SR σ h0 0) 2) σ) rfl rfl (Nat.le_of_ble_eq_true rfl) (cal_Ground_placeAt _ _ _ _ _ (by decide) (by decide) (by decide)) (show decode M_World_staysForBoxes.2.1 15 = .ok (.invokevirtual 140, 3) by decide +kernel) wd_1099 wd_655 wd_3 (fun r_2 b_2 σ_2 => ?_)
  show V M_World_staysForBoxes 3 0 0 0 0 tI _ 18 [(2, vR h2_1), (0, vR h0), (1, vI x1)] [vI r_2] b_2 σ_2
  refine V_istore_n (fun x3_3 => [(3, vI x3_3), (2, vR h2_1), (0, vR h0), (1, vI x1)]) 19 rfl (show decode M_World_staysForBoxes.2.1 18 = .ok (.istore_n 3, 1) by decide +kernel) (by decide) (fun _ => rfl) (fun x3_3 => ?_)
  refine V_iload_n 20 rfl (show decode M_World_staysForBoxes.2.1 19 = .ok (.iload_n 3, 1) by decide +kernel) 0 rfl ?_
  refine V_jn (fun (J35 : Bool → Sto → Rs Int32) => ∀ (b : Bool) (σ : Sto), V M_World_staysForBoxes 3 0 0 0 0 tI (J35 b σ) 35 [] [] b σ) ?_ (fun J35 hJ35 => ?_)
  · intro b σ
    refine V_iconst 36 rfl (show decode M_World_staysForBoxes.2.1 35 = .ok (.iconst 0, 1) by decide +kernel) (v := 0) rfl ?_
    exact V_zret rfl (by decide) (by decide) rfl (show decode M_World_staysForBoxes.2.1 36 = .ok (.ireturn, 1) by decide +kernel)
  · skip
    refine V_iflt 23 35 rfl (show decode M_World_staysForBoxes.2.1 20 = .ok (.ifCond .lt 15, 3) by decide +kernel) rfl ?_ ?_
    · skip
      exact V_sub [] rfl (hJ35 b_2 σ_2)
    · skip
      refine V_aload_n 24 rfl (show decode M_World_staysForBoxes.2.1 23 = .ok (.aload_n 0, 1) by decide +kernel) 2 rfl ?_
      refine V_get (j := 2) (v := vR (SR σ_2 h0 2)) 27 rfl ck_World (by decide) (by decide) (show decode M_World_staysForBoxes.2.1 24 = .ok (.getfield 26, 3) by decide +kernel) wd_501 rfl ?_
      refine V_iload_n 28 rfl (show decode M_World_staysForBoxes.2.1 27 = .ok (.iload_n 1, 1) by decide +kernel) 3 rfl ?_
      refine V_iload_n 29 rfl (show decode M_World_staysForBoxes.2.1 28 = .ok (.iload_n 3, 1) by decide +kernel) 0 rfl ?_
      refine V_callVN (tb := tI) (as := [vI x1, vI x3_3]) (rest := []) (na := 2) 32 rfl ck_Post (by decide) (s_Post_openAt (SR σ_2 h0 2) x1 x3_3 ((b_2 && cK σ_2 h0 11) && cK σ_2 (SR σ_2 h0 2) 5) σ_2) rfl rfl (Nat.le_of_ble_eq_true rfl) (cal_Post_openAt _ _ _ _ _ (by decide) (by decide) (by decide)) (show decode M_World_staysForBoxes.2.1 29 = .ok (.invokevirtual 144, 3) by decide +kernel) wd_1100 wd_1102 wd_48 (fun r_4 b_4 σ_4 => ?_)
      show V M_World_staysForBoxes 3 0 0 0 0 tI _ 32 [(3, vI x3_3), (2, vR h2_1), (0, vR h0), (1, vI x1)] [vI r_4] b_4 σ_4
      refine V_ifne 35 37 rfl (show decode M_World_staysForBoxes.2.1 32 = .ok (.ifCond .ne 5, 3) by decide +kernel) rfl ?_ ?_
      · skip
        exact V_sub [] rfl (hJ35 b_4 σ_4)
      · skip
        refine V_aload_n 38 rfl (show decode M_World_staysForBoxes.2.1 37 = .ok (.aload_n 0, 1) by decide +kernel) 2 rfl ?_
        refine V_get (j := 0) (v := vR (SR σ_4 h0 0)) 41 rfl ck_World (by decide) (by decide) (show decode M_World_staysForBoxes.2.1 38 = .ok (.getfield 10, 3) by decide +kernel) wd_497 rfl ?_
        refine V_iload_n 42 rfl (show decode M_World_staysForBoxes.2.1 41 = .ok (.iload_n 3, 1) by decide +kernel) 0 rfl ?_
        refine V_aload_n 43 rfl (show decode M_World_staysForBoxes.2.1 42 = .ok (.aload_n 0, 1) by decide +kernel) 2 rfl ?_
        refine V_get (j := 8) (v := vI (SI σ_4 h0 8)) 46 rfl ck_World (by decide) (by decide) (show decode M_World_staysForBoxes.2.1 43 = .ok (.getfield 84, 3) by decide +kernel) wd_513 rfl ?_
        refine V_callVN (tb := tI) (as := [vI x3_3, vI (SI σ_4 h0 8)]) (rest := []) (na := 2) 49 rfl ck_Ground (by decide) (s_Ground_isShutOn (SR σ_4 h0 0) x3_3 (SI σ_4 h0 8) (((b_4 && cK σ_4 h0 11) && cK σ_4 h0 11) && cK σ_4 (SR σ_4 h0 0) 2) σ_4) rfl rfl (Nat.le_of_ble_eq_true rfl) (cal_Ground_isShutOn _ _ _ _ _ (by decide) (by decide) (by decide)) (show decode M_World_staysForBoxes.2.1 46 = .ok (.invokevirtual 147, 3) by decide +kernel) wd_1104 wd_1106 wd_49 (fun r_5 b_5 σ_5 => ?_)
        show V M_World_staysForBoxes 3 0 0 0 0 tI _ 49 [(3, vI x3_3), (2, vR h2_1), (0, vR h0), (1, vI x1)] [vI r_5] b_5 σ_5
        refine V_jn (fun (J69 : Int32 → Bool → Sto → Rs Int32) => ∀ (s0_69 : Int32) (b : Bool) (σ : Sto), V M_World_staysForBoxes 3 0 0 0 0 tI (J69 s0_69 b σ) 69 [(0, vR h0), (1, vI x1), (2, vR h2_1), (3, vI x3_3)] [vI s0_69] b σ) ?_ (fun J69 hJ69 => ?_)
        · intro s0_69 b σ
          refine V_istore (fun x4_6 => [(4, vI x4_6), (0, vR h0), (1, vI x1), (2, vR h2_1), (3, vI x3_3)]) 71 rfl (show decode M_World_staysForBoxes.2.1 69 = .ok (.istore 4, 2) by decide +kernel) (by decide) (fun _ => rfl) (fun x4_6 => ?_)
          refine V_iload 73 rfl (show decode M_World_staysForBoxes.2.1 71 = .ok (.iload 4, 2) by decide +kernel) 0 rfl ?_
          refine V_ifle 76 84 rfl (show decode M_World_staysForBoxes.2.1 73 = .ok (.ifCond .le 11, 3) by decide +kernel) rfl ?_ ?_
          · skip
            refine V_aload_n 77 rfl (show decode M_World_staysForBoxes.2.1 76 = .ok (.aload_n 2, 1) by decide +kernel) 3 rfl ?_
            refine V_iload 79 rfl (show decode M_World_staysForBoxes.2.1 77 = .ok (.iload 4, 2) by decide +kernel) 0 rfl ?_
            refine V_callVN (tb := tU) (as := [vI x4_6]) (rest := []) (na := 1) 82 rfl ck_Walker (by decide) (s_Walker_packFood h2_1 x4_6 (b && cK σ h2_1 10) σ) rfl rfl (Nat.le_of_ble_eq_true rfl) (cal_Walker_packFood _ _ _ _ _ (by decide) (by decide) (by decide)) (show decode M_World_staysForBoxes.2.1 79 = .ok (.invokevirtual 155, 3) by decide +kernel) wd_1112 wd_1047 wd_39 (fun r_7 b_7 σ_7 => ?_)
            show V M_World_staysForBoxes 3 0 0 0 0 tI _ 82 [(4, vI x4_6), (0, vR h0), (1, vI x1), (2, vR h2_1), (3, vI x3_3)] [] b_7 σ_7
            refine V_iconst 83 rfl (show decode M_World_staysForBoxes.2.1 82 = .ok (.iconst 0, 1) by decide +kernel) (v := 0) rfl ?_
            exact V_zret rfl (by decide) (by decide) rfl (show decode M_World_staysForBoxes.2.1 83 = .ok (.ireturn, 1) by decide +kernel)
          · skip
            refine V_aload_n 85 rfl (show decode M_World_staysForBoxes.2.1 84 = .ok (.aload_n 2, 1) by decide +kernel) 3 rfl ?_
            refine V_dup 86 rfl (show decode M_World_staysForBoxes.2.1 85 = .ok (.dup, 1) by decide +kernel) rfl ?_
            refine V_getN (j := 14) (v := vI (SI σ h2_1 14)) 89 rfl ck_Walker (by decide) (by decide) (show decode M_World_staysForBoxes.2.1 86 = .ok (.getfield 124, 3) by decide +kernel) wd_453 rfl ?_
            refine V_iconst 90 rfl (show decode M_World_staysForBoxes.2.1 89 = .ok (.iconst 1, 1) by decide +kernel) (v := 1) rfl ?_
            refine V_iadd 91 rfl (show decode M_World_staysForBoxes.2.1 90 = .ok (.iadd, 1) by decide +kernel) ?_
            refine V_putIN (j := 14) 94 rfl ck_Walker (by decide) (by decide) (show decode M_World_staysForBoxes.2.1 91 = .ok (.putfield 124, 3) by decide +kernel) wd_453 rfl (fun _ => rfl) rfl rfl (fun σ_8 => ?_)
            refine V_aload_n 95 rfl (show decode M_World_staysForBoxes.2.1 94 = .ok (.aload_n 2, 1) by decide +kernel) 3 rfl ?_
            refine V_getN (j := 14) (v := vI (SI σ_8 h2_1 14)) 98 rfl ck_Walker (by decide) (by decide) (show decode M_World_staysForBoxes.2.1 95 = .ok (.getfield 124, 3) by decide +kernel) wd_453 rfl ?_
            refine V_iconst 99 rfl (show decode M_World_staysForBoxes.2.1 98 = .ok (.iconst 3, 1) by decide +kernel) (v := 3) rfl ?_
            refine V_icmpgt 102 104 rfl (show decode M_World_staysForBoxes.2.1 99 = .ok (.if_icmp .gt 5, 3) by decide +kernel) rfl ?_ ?_
            · skip
              refine V_aload_n 105 rfl (show decode M_World_staysForBoxes.2.1 104 = .ok (.aload_n 0, 1) by decide +kernel) 1 rfl ?_
              refine V_get (j := 2) (v := vR (SR σ_8 h0 2)) 108 rfl ck_World (by decide) (by decide) (show decode M_World_staysForBoxes.2.1 105 = .ok (.getfield 26, 3) by decide +kernel) wd_501 rfl ?_
              refine V_iload_n 109 rfl (show decode M_World_staysForBoxes.2.1 108 = .ok (.iload_n 1, 1) by decide +kernel) 2 rfl ?_
              refine V_iload_n 110 rfl (show decode M_World_staysForBoxes.2.1 109 = .ok (.iload_n 3, 1) by decide +kernel) 4 rfl ?_
              refine V_callVN (tb := tU) (as := [vI x1, vI x3_3]) (rest := []) (na := 2) 113 rfl ck_Post (by decide) (s_Post_giveOnAt (SR σ_8 h0 2) x1 x3_3 (((((b && cK σ h2_1 10) && cK σ h2_1 10) && cK σ_8 h2_1 10) && cK σ_8 h0 11) && cK σ_8 (SR σ_8 h0 2) 5) σ_8) rfl rfl (Nat.le_of_ble_eq_true rfl) (cal_Post_giveOnAt _ _ _ _ _ (by decide) (by decide) (by decide)) (show decode M_World_staysForBoxes.2.1 110 = .ok (.invokevirtual 158, 3) by decide +kernel) wd_1113 wd_1115 wd_51 (fun r_9 b_9 σ_9 => ?_)
              show V M_World_staysForBoxes 3 0 0 0 0 tI _ 113 [(4, vI x4_6), (0, vR h0), (1, vI x1), (2, vR h2_1), (3, vI x3_3)] [] b_9 σ_9
              refine V_iconst 114 rfl (show decode M_World_staysForBoxes.2.1 113 = .ok (.iconst 0, 1) by decide +kernel) (v := 0) rfl ?_
              exact V_zret rfl (by decide) (by decide) rfl (show decode M_World_staysForBoxes.2.1 114 = .ok (.ireturn, 1) by decide +kernel)
            · skip
              refine V_iconst 103 rfl (show decode M_World_staysForBoxes.2.1 102 = .ok (.iconst 1, 1) by decide +kernel) (v := 1) rfl ?_
              exact V_zret rfl (by decide) (by decide) rfl (show decode M_World_staysForBoxes.2.1 103 = .ok (.ireturn, 1) by decide +kernel)
        · skip
          refine V_ifeq 52 56 rfl (show decode M_World_staysForBoxes.2.1 49 = .ok (.ifCond .eq 7, 3) by decide +kernel) rfl ?_ ?_
          · skip
            refine V_aload_n 57 rfl (show decode M_World_staysForBoxes.2.1 56 = .ok (.aload_n 0, 1) by decide +kernel) 2 rfl ?_
            refine V_get (j := 2) (v := vR (SR σ_5 h0 2)) 60 rfl ck_World (by decide) (by decide) (show decode M_World_staysForBoxes.2.1 57 = .ok (.getfield 26, 3) by decide +kernel) wd_501 rfl ?_
            refine V_iload_n 61 rfl (show decode M_World_staysForBoxes.2.1 60 = .ok (.iload_n 1, 1) by decide +kernel) 3 rfl ?_
            refine V_iload_n 62 rfl (show decode M_World_staysForBoxes.2.1 61 = .ok (.iload_n 3, 1) by decide +kernel) 0 rfl ?_
            refine V_aload_n 63 rfl (show decode M_World_staysForBoxes.2.1 62 = .ok (.aload_n 0, 1) by decide +kernel) 2 rfl ?_
            refine V_get (j := 8) (v := vI (SI σ_5 h0 8)) 66 rfl ck_World (by decide) (by decide) (show decode M_World_staysForBoxes.2.1 63 = .ok (.getfield 84, 3) by decide +kernel) wd_513 rfl ?_
            refine V_callVN (tb := tI) (as := [vI x1, vI x3_3, vI (SI σ_5 h0 8)]) (rest := []) (na := 3) 69 rfl ck_Post (by decide) (s_Post_takeBoxes (SR σ_5 h0 2) x1 x3_3 (SI σ_5 h0 8) (((b_5 && cK σ_5 h0 11) && cK σ_5 h0 11) && cK σ_5 (SR σ_5 h0 2) 5) σ_5) rfl rfl (Nat.le_of_ble_eq_true rfl) (cal_Post_takeBoxes _ _ _ _ _ (by decide) (by decide) (by decide)) (show decode M_World_staysForBoxes.2.1 66 = .ok (.invokevirtual 151, 3) by decide +kernel) wd_1108 wd_1110 wd_50 (fun r_10 b_10 σ_10 => ?_)
            show V M_World_staysForBoxes 3 0 0 0 0 tI _ 69 [(3, vI x3_3), (2, vR h2_1), (0, vR h0), (1, vI x1)] [vI r_10] b_10 σ_10
            exact V_sub [2, 3, 1, 0] rfl (hJ69 r_10 b_10 σ_10)
          · skip
            refine V_iconst 53 rfl (show decode M_World_staysForBoxes.2.1 52 = .ok (.iconst 0, 1) by decide +kernel) (v := 0) rfl ?_
            refine V_goto 69 (show decode M_World_staysForBoxes.2.1 53 = .ok (.goto 16, 3) by decide +kernel) rfl ?_
            exact V_sub [2, 3, 1, 0] rfl (hJ69 (0 : Int32) b_5 σ_5)
theorem cal_World_staysForBoxes (d mc ms k n : Nat) (h1 : 3 + 1 ≤ d) (h2 : k + 0 ≤ mc) (h3 : n + 0 ≤ ms) : Cal M_World_staysForBoxes 3 0 0 1 d mc ms k n := ⟨wd_1098, wd_171, by decide, h1, by decide, h2, h3⟩
abbrev M_Ground_firstFireFrom : MD := (⟨"LongTrail$Ground", "firstFireFrom", "(II)I"⟩, prog_3_method_22_code, 5, (some FieldType.int))
def b_Ground_firstFireFrom_8 (h0 : Nat) (x1 : Int32) (x2 : Int32) (L8 : Int32 → Int32 → Bool → Sto → Rs Int32) (x3 : Int32) (x4 : Int32) (b : Bool) (σ : Sto) : Rs Int32 := (if x4 < (SI σ h0 11) then (bd_ (f_Ground_isOn h0 x4 x2 ((b && cK σ h0 2) && cK σ h0 2) σ) (fun (r_3 : Int32) (b_3 : Bool) (σ_3 : Sto) => (lt_ (fun (x3_50 : Int32) (b : Bool) (σ : Sto) => (lt_ (x4 + (1 : Int32)) (fun (x4_4 : Int32) => (L8 x3_50 x4_4 b σ)))) (fun J50 => (if r_3 = 0 then (J50 x3 b_3 σ_3) else (if (SI σ_3 (SR σ_3 h0 5) (ix x4)) < x1 then (J50 x3 ((b_3 && cK σ_3 h0 2) && cA σ_3 (SR σ_3 h0 5) 21 x4) σ_3) else (lt_ (mnI x3 (SI σ_3 (SR σ_3 h0 5) (ix x4))) (fun (x3_5 : Int32) => (J50 x3_5 ((((b_3 && cK σ_3 h0 2) && cA σ_3 (SR σ_3 h0 5) 21 x4) && cK σ_3 h0 2) && cA σ_3 (SR σ_3 h0 5) 21 x4) σ_3))))))))) else (x3, (b && cK σ h0 2), σ))
def f_Ground_firstFireFrom (h0 : Nat) (x1 : Int32) (x2 : Int32) (b : Bool) (σ : Sto) : Rs Int32 := (lt_ (SI σ h0 9) (fun (x3_1 : Int32) => (lt_ (0 : Int32) (fun (x4_2 : Int32) => (lp_ (b_Ground_firstFireFrom_8 h0 x1 x2) (fun (x3 : Int32) (x4 : Int32) (b : Bool) (σ : Sto) => (0, false, σ)) fuel_ x3_1 x4_2 (b && cK σ h0 2) σ)))))
set_option maxRecDepth 100000 in
set_option maxHeartbeats 4000000 in
theorem s_Ground_firstFireFrom : ∀ (h0 : Nat) (x1 : Int32) (x2 : Int32) (b : Bool) (σ : Sto), Snd M_Ground_firstFireFrom 3 0 0 [vR h0, vI x1, vI x2] b σ (tI (f_Ground_firstFireFrom h0 x1 x2 b σ).1) (f_Ground_firstFireFrom h0 x1 x2 b σ).2.1 (f_Ground_firstFireFrom h0 x1 x2 b σ).2.2 := by
  intro h0 x1 x2 b σ
  refine Snd_of (tv := tI) (by decide) (Nat.le_of_ble_eq_true rfl) ?_
  show V M_Ground_firstFireFrom 3 0 0 0 0 tI (f_Ground_firstFireFrom h0 x1 x2 b σ) 0 [(0, vR h0), (1, vI x1), (2, vI x2)] [] b σ
  unfold f_Ground_firstFireFrom
  refine V_aload_n 1 rfl (show decode M_Ground_firstFireFrom.2.1 0 = .ok (.aload_n 0, 1) by decide +kernel) 0 rfl ?_
  refine V_get (j := 9) (v := vI (SI σ h0 9)) 4 rfl ck_Ground (by decide) (by decide) (show decode M_Ground_firstFireFrom.2.1 1 = .ok (.getfield 40, 3) by decide +kernel) wd_230 rfl ?_
  refine V_istore_n (fun x3_1 => [(3, vI x3_1), (0, vR h0), (1, vI x1), (2, vI x2)]) 5 rfl (show decode M_Ground_firstFireFrom.2.1 4 = .ok (.istore_n 3, 1) by decide +kernel) (by decide) (fun _ => rfl) (fun x3_1 => ?_)
  refine V_iconst 6 rfl (show decode M_Ground_firstFireFrom.2.1 5 = .ok (.iconst 0, 1) by decide +kernel) (v := 0) rfl ?_
  refine V_istore (fun x4_2 => [(4, vI x4_2), (3, vI x3_1), (0, vR h0), (1, vI x1), (2, vI x2)]) 8 rfl (show decode M_Ground_firstFireFrom.2.1 6 = .ok (.istore 4, 2) by decide +kernel) (by decide) (fun _ => rfl) (fun x4_2 => ?_)
  refine V_sub [2, 3, 4, 1, 0] rfl ?_
  refine lp_P (fun (L8 : Int32 → Int32 → Bool → Sto → Rs Int32) => ∀ (x3 : Int32) (x4 : Int32) (b : Bool) (σ : Sto), V M_Ground_firstFireFrom 3 0 0 0 0 tI (L8 x3 x4 b σ) 8 [(0, vR h0), (1, vI x1), (2, vI x2), (3, vI x3), (4, vI x4)] [] b σ) ?_ ?_ fuel_ x3_1 x4_2 (b && cK σ h0 2) σ
  · intro x3 x4 b σ; exact V_bad
  · intro L8 hL8 x3 x4 b σ
    unfold b_Ground_firstFireFrom_8
    refine V_iload 10 rfl (show decode M_Ground_firstFireFrom.2.1 8 = .ok (.iload 4, 2) by decide +kernel) 4 rfl ?_
    refine V_aload_n 11 rfl (show decode M_Ground_firstFireFrom.2.1 10 = .ok (.aload_n 0, 1) by decide +kernel) 0 rfl ?_
    refine V_get (j := 11) (v := vI (SI σ h0 11)) 14 rfl ck_Ground (by decide) (by decide) (show decode M_Ground_firstFireFrom.2.1 11 = .ok (.getfield 53, 3) by decide +kernel) wd_238 rfl ?_
    refine V_icmpge 17 56 rfl (show decode M_Ground_firstFireFrom.2.1 14 = .ok (.if_icmp .ge 42, 3) by decide +kernel) rfl ?_ ?_
    · skip
      refine V_aload_n 18 rfl (show decode M_Ground_firstFireFrom.2.1 17 = .ok (.aload_n 0, 1) by decide +kernel) 0 rfl ?_
      refine V_iload 20 rfl (show decode M_Ground_firstFireFrom.2.1 18 = .ok (.iload 4, 2) by decide +kernel) 4 rfl ?_
      refine V_iload_n 21 rfl (show decode M_Ground_firstFireFrom.2.1 20 = .ok (.iload_n 2, 1) by decide +kernel) 2 rfl ?_
      refine V_callV (tb := tI) (as := [vI x4, vI x2]) (rest := []) (na := 2) 24 rfl ck_Ground (by decide) (s_Ground_isOn h0 x4 x2 ((b && cK σ h0 2) && cK σ h0 2) σ) rfl rfl (Nat.le_of_ble_eq_true rfl) (cal_Ground_isOn _ _ _ _ _ (by decide) (by decide) (by decide)) (show decode M_Ground_firstFireFrom.2.1 21 = .ok (.invokevirtual 80, 3) by decide +kernel) wd_732 wd_734 wd_14 (fun r_3 b_3 σ_3 => ?_)
      show V M_Ground_firstFireFrom 3 0 0 0 0 tI _ 24 [(0, vR h0), (1, vI x1), (2, vI x2), (3, vI x3), (4, vI x4)] [vI r_3] b_3 σ_3
      refine V_jn (fun (J50 : Int32 → Bool → Sto → Rs Int32) => ∀ (x3_50 : Int32) (b : Bool) (σ : Sto), V M_Ground_firstFireFrom 3 0 0 0 0 tI (J50 x3_50 b σ) 50 [(0, vR h0), (1, vI x1), (2, vI x2), (3, vI x3_50), (4, vI x4)] [] b σ) ?_ (fun J50 hJ50 => ?_)
      · intro x3_50 b σ
        refine V_iinc (fun x4_4 => [(4, vI x4_4), (0, vR h0), (1, vI x1), (2, vI x2), (3, vI x3_50)]) 53 rfl (show decode M_Ground_firstFireFrom.2.1 50 = .ok (.iinc 4 1, 3) by decide +kernel) 4 rfl (w := 1) rfl (by decide) (fun _ => rfl) (fun x4_4 => ?_)
        refine V_goto 8 (show decode M_Ground_firstFireFrom.2.1 53 = .ok (.goto (-45), 3) by decide +kernel) rfl ?_
        exact V_sub [1, 2, 3, 4, 0] rfl (hL8 x3_50 x4_4 b σ)
      · skip
        refine V_ifeq 27 50 rfl (show decode M_Ground_firstFireFrom.2.1 24 = .ok (.ifCond .eq 26, 3) by decide +kernel) rfl ?_ ?_
        · skip
          exact V_sub [0, 1, 2, 3, 4] rfl (hJ50 x3 b_3 σ_3)
        · skip
          refine V_aload_n 28 rfl (show decode M_Ground_firstFireFrom.2.1 27 = .ok (.aload_n 0, 1) by decide +kernel) 0 rfl ?_
          refine V_get (j := 5) (v := vR (SR σ_3 h0 5)) 31 rfl ck_Ground (by decide) (by decide) (show decode M_Ground_firstFireFrom.2.1 28 = .ok (.getfield 28, 3) by decide +kernel) wd_224 rfl ?_
          refine V_iload 33 rfl (show decode M_Ground_firstFireFrom.2.1 31 = .ok (.iload 4, 2) by decide +kernel) 4 rfl ?_
          refine V_ald_int 34 rfl (show decode M_Ground_firstFireFrom.2.1 33 = .ok (.iaload, 1) by decide +kernel) ?_
          refine V_iload_n 35 rfl (show decode M_Ground_firstFireFrom.2.1 34 = .ok (.iload_n 1, 1) by decide +kernel) 1 rfl ?_
          refine V_icmplt 38 50 rfl (show decode M_Ground_firstFireFrom.2.1 35 = .ok (.if_icmp .lt 15, 3) by decide +kernel) rfl ?_ ?_
          · skip
            exact V_sub [0, 1, 2, 3, 4] rfl (hJ50 x3 ((b_3 && cK σ_3 h0 2) && cA σ_3 (SR σ_3 h0 5) 21 x4) σ_3)
          · skip
            refine V_iload_n 39 rfl (show decode M_Ground_firstFireFrom.2.1 38 = .ok (.iload_n 3, 1) by decide +kernel) 3 rfl ?_
            refine V_aload_n 40 rfl (show decode M_Ground_firstFireFrom.2.1 39 = .ok (.aload_n 0, 1) by decide +kernel) 0 rfl ?_
            refine V_get (j := 5) (v := vR (SR σ_3 h0 5)) 43 rfl ck_Ground (by decide) (by decide) (show decode M_Ground_firstFireFrom.2.1 40 = .ok (.getfield 28, 3) by decide +kernel) wd_224 rfl ?_
            refine V_iload 45 rfl (show decode M_Ground_firstFireFrom.2.1 43 = .ok (.iload 4, 2) by decide +kernel) 4 rfl ?_
            refine V_ald_int 46 rfl (show decode M_Ground_firstFireFrom.2.1 45 = .ok (.iaload, 1) by decide +kernel) ?_
            refine V_min 49 rfl (show decode M_Ground_firstFireFrom.2.1 46 = .ok (.invokestatic 77, 3) by decide +kernel) wd_1161 wd_880 wd_186 wd_minc (by decide) (Nat.le_of_ble_eq_true rfl) (by decide) (by decide) ?_
            refine V_istore_n (fun x3_5 => [(3, vI x3_5), (0, vR h0), (1, vI x1), (2, vI x2), (4, vI x4)]) 50 rfl (show decode M_Ground_firstFireFrom.2.1 49 = .ok (.istore_n 3, 1) by decide +kernel) (by decide) (fun _ => rfl) (fun x3_5 => ?_)
            exact V_sub [1, 2, 3, 0, 4] rfl (hJ50 x3_5 ((((b_3 && cK σ_3 h0 2) && cA σ_3 (SR σ_3 h0 5) 21 x4) && cK σ_3 h0 2) && cA σ_3 (SR σ_3 h0 5) 21 x4) σ_3)
    · skip
      refine V_iload_n 57 rfl (show decode M_Ground_firstFireFrom.2.1 56 = .ok (.iload_n 3, 1) by decide +kernel) 3 rfl ?_
      exact V_iret rfl (by decide) (by decide) (show decode M_Ground_firstFireFrom.2.1 57 = .ok (.ireturn, 1) by decide +kernel)
theorem cal_Ground_firstFireFrom (d mc ms k n : Nat) (h1 : 3 + 1 ≤ d) (h2 : k + 0 ≤ mc) (h3 : n + 0 ≤ ms) : Cal M_Ground_firstFireFrom 3 0 0 2 d mc ms k n := ⟨wd_1165, wd_172, by decide, h1, by decide, h2, h3⟩
abbrev M_Ground_firstSnowFrom : MD := (⟨"LongTrail$Ground", "firstSnowFrom", "(II)I"⟩, prog_3_method_18_code, 5, (some FieldType.int))
def b_Ground_firstSnowFrom_8 (h0 : Nat) (x1 : Int32) (x2 : Int32) (L8 : Int32 → Int32 → Bool → Sto → Rs Int32) (x3 : Int32) (x4 : Int32) (b : Bool) (σ : Sto) : Rs Int32 := (if x4 < (SI σ h0 10) then (lt_ (fun (x3_64 : Int32) (b : Bool) (σ : Sto) => (lt_ (x4 + (1 : Int32)) (fun (x4_3 : Int32) => (L8 x3_64 x4_3 b σ)))) (fun J64 => (if (SI σ (SR σ h0 1) (ix x4)) < x1 then (J64 x3 (((b && cK σ h0 2) && cK σ h0 2) && cA σ (SR σ h0 1) 21 x4) σ) else (bd_ (f_Ground_isOf h0 x4 (4 : Int32) ((((b && cK σ h0 2) && cK σ h0 2) && cA σ (SR σ h0 1) 21 x4) && cK σ h0 2) σ) (fun (r_4 : Int32) (b_4 : Bool) (σ_4 : Sto) => (if r_4 = 0 then (J64 x3 b_4 σ_4) else (if (SI σ_4 (SR σ_4 h0 2) (ix x4)) < (x2 / (7 : Int32)) then (J64 x3 (((b_4 && !decide ((7 : Int32) = 0)) && cK σ_4 h0 2) && cA σ_4 (SR σ_4 h0 2) 21 x4) σ_4) else (lt_ (mnI x3 (SI σ_4 (SR σ_4 h0 1) (ix x4))) (fun (x3_5 : Int32) => (J64 x3_5 (((((b_4 && !decide ((7 : Int32) = 0)) && cK σ_4 h0 2) && cA σ_4 (SR σ_4 h0 2) 21 x4) && cK σ_4 h0 2) && cA σ_4 (SR σ_4 h0 1) 21 x4) σ_4)))))))))) else (x3, (b && cK σ h0 2), σ))
def f_Ground_firstSnowFrom (h0 : Nat) (x1 : Int32) (x2 : Int32) (b : Bool) (σ : Sto) : Rs Int32 := (lt_ (SI σ h0 9) (fun (x3_1 : Int32) => (lt_ (0 : Int32) (fun (x4_2 : Int32) => (lp_ (b_Ground_firstSnowFrom_8 h0 x1 x2) (fun (x3 : Int32) (x4 : Int32) (b : Bool) (σ : Sto) => (0, false, σ)) fuel_ x3_1 x4_2 (b && cK σ h0 2) σ)))))
set_option maxRecDepth 100000 in
set_option maxHeartbeats 4000000 in
theorem s_Ground_firstSnowFrom : ∀ (h0 : Nat) (x1 : Int32) (x2 : Int32) (b : Bool) (σ : Sto), Snd M_Ground_firstSnowFrom 2 0 0 [vR h0, vI x1, vI x2] b σ (tI (f_Ground_firstSnowFrom h0 x1 x2 b σ).1) (f_Ground_firstSnowFrom h0 x1 x2 b σ).2.1 (f_Ground_firstSnowFrom h0 x1 x2 b σ).2.2 := by
  intro h0 x1 x2 b σ
  refine Snd_of (tv := tI) (by decide) (Nat.le_of_ble_eq_true rfl) ?_
  show V M_Ground_firstSnowFrom 2 0 0 0 0 tI (f_Ground_firstSnowFrom h0 x1 x2 b σ) 0 [(0, vR h0), (1, vI x1), (2, vI x2)] [] b σ
  unfold f_Ground_firstSnowFrom
  refine V_aload_n 1 rfl (show decode M_Ground_firstSnowFrom.2.1 0 = .ok (.aload_n 0, 1) by decide +kernel) 0 rfl ?_
  refine V_get (j := 9) (v := vI (SI σ h0 9)) 4 rfl ck_Ground (by decide) (by decide) (show decode M_Ground_firstSnowFrom.2.1 1 = .ok (.getfield 40, 3) by decide +kernel) wd_230 rfl ?_
  refine V_istore_n (fun x3_1 => [(3, vI x3_1), (0, vR h0), (1, vI x1), (2, vI x2)]) 5 rfl (show decode M_Ground_firstSnowFrom.2.1 4 = .ok (.istore_n 3, 1) by decide +kernel) (by decide) (fun _ => rfl) (fun x3_1 => ?_)
  refine V_iconst 6 rfl (show decode M_Ground_firstSnowFrom.2.1 5 = .ok (.iconst 0, 1) by decide +kernel) (v := 0) rfl ?_
  refine V_istore (fun x4_2 => [(4, vI x4_2), (3, vI x3_1), (0, vR h0), (1, vI x1), (2, vI x2)]) 8 rfl (show decode M_Ground_firstSnowFrom.2.1 6 = .ok (.istore 4, 2) by decide +kernel) (by decide) (fun _ => rfl) (fun x4_2 => ?_)
  refine V_sub [2, 3, 4, 1, 0] rfl ?_
  refine lp_P (fun (L8 : Int32 → Int32 → Bool → Sto → Rs Int32) => ∀ (x3 : Int32) (x4 : Int32) (b : Bool) (σ : Sto), V M_Ground_firstSnowFrom 2 0 0 0 0 tI (L8 x3 x4 b σ) 8 [(0, vR h0), (1, vI x1), (2, vI x2), (3, vI x3), (4, vI x4)] [] b σ) ?_ ?_ fuel_ x3_1 x4_2 (b && cK σ h0 2) σ
  · intro x3 x4 b σ; exact V_bad
  · intro L8 hL8 x3 x4 b σ
    unfold b_Ground_firstSnowFrom_8
    refine V_iload 10 rfl (show decode M_Ground_firstSnowFrom.2.1 8 = .ok (.iload 4, 2) by decide +kernel) 4 rfl ?_
    refine V_aload_n 11 rfl (show decode M_Ground_firstSnowFrom.2.1 10 = .ok (.aload_n 0, 1) by decide +kernel) 0 rfl ?_
    refine V_get (j := 10) (v := vI (SI σ h0 10)) 14 rfl ck_Ground (by decide) (by decide) (show decode M_Ground_firstSnowFrom.2.1 11 = .ok (.getfield 50, 3) by decide +kernel) wd_235 rfl ?_
    refine V_icmpge 17 70 rfl (show decode M_Ground_firstSnowFrom.2.1 14 = .ok (.if_icmp .ge 56, 3) by decide +kernel) rfl ?_ ?_
    · skip
      refine V_aload_n 18 rfl (show decode M_Ground_firstSnowFrom.2.1 17 = .ok (.aload_n 0, 1) by decide +kernel) 0 rfl ?_
      refine V_get (j := 1) (v := vR (SR σ h0 1)) 21 rfl ck_Ground (by decide) (by decide) (show decode M_Ground_firstSnowFrom.2.1 18 = .ok (.getfield 15, 3) by decide +kernel) wd_214 rfl ?_
      refine V_iload 23 rfl (show decode M_Ground_firstSnowFrom.2.1 21 = .ok (.iload 4, 2) by decide +kernel) 4 rfl ?_
      refine V_ald_int 24 rfl (show decode M_Ground_firstSnowFrom.2.1 23 = .ok (.iaload, 1) by decide +kernel) ?_
      refine V_iload_n 25 rfl (show decode M_Ground_firstSnowFrom.2.1 24 = .ok (.iload_n 1, 1) by decide +kernel) 1 rfl ?_
      refine V_jn (fun (J64 : Int32 → Bool → Sto → Rs Int32) => ∀ (x3_64 : Int32) (b : Bool) (σ : Sto), V M_Ground_firstSnowFrom 2 0 0 0 0 tI (J64 x3_64 b σ) 64 [(0, vR h0), (1, vI x1), (2, vI x2), (3, vI x3_64), (4, vI x4)] [] b σ) ?_ (fun J64 hJ64 => ?_)
      · intro x3_64 b σ
        refine V_iinc (fun x4_3 => [(4, vI x4_3), (0, vR h0), (1, vI x1), (2, vI x2), (3, vI x3_64)]) 67 rfl (show decode M_Ground_firstSnowFrom.2.1 64 = .ok (.iinc 4 1, 3) by decide +kernel) 4 rfl (w := 1) rfl (by decide) (fun _ => rfl) (fun x4_3 => ?_)
        refine V_goto 8 (show decode M_Ground_firstSnowFrom.2.1 67 = .ok (.goto (-59), 3) by decide +kernel) rfl ?_
        exact V_sub [1, 2, 3, 4, 0] rfl (hL8 x3_64 x4_3 b σ)
      · skip
        refine V_icmplt 28 64 rfl (show decode M_Ground_firstSnowFrom.2.1 25 = .ok (.if_icmp .lt 39, 3) by decide +kernel) rfl ?_ ?_
        · skip
          exact V_sub [0, 1, 2, 3, 4] rfl (hJ64 x3 (((b && cK σ h0 2) && cK σ h0 2) && cA σ (SR σ h0 1) 21 x4) σ)
        · skip
          refine V_aload_n 29 rfl (show decode M_Ground_firstSnowFrom.2.1 28 = .ok (.aload_n 0, 1) by decide +kernel) 0 rfl ?_
          refine V_iload 31 rfl (show decode M_Ground_firstSnowFrom.2.1 29 = .ok (.iload 4, 2) by decide +kernel) 4 rfl ?_
          refine V_iconst 32 rfl (show decode M_Ground_firstSnowFrom.2.1 31 = .ok (.iconst 4, 1) by decide +kernel) (v := 4) rfl ?_
          refine V_callV (tb := tI) (as := [vI x4, vI (4 : Int32)]) (rest := []) (na := 2) 35 rfl ck_Ground (by decide) (s_Ground_isOf h0 x4 (4 : Int32) ((((b && cK σ h0 2) && cK σ h0 2) && cA σ (SR σ h0 1) 21 x4) && cK σ h0 2) σ) rfl rfl (Nat.le_of_ble_eq_true rfl) (cal_Ground_isOf _ _ _ _ _ (by decide) (by decide) (by decide)) (show decode M_Ground_firstSnowFrom.2.1 32 = .ok (.invokevirtual 63, 3) by decide +kernel) wd_701 wd_688 wd_9 (fun r_4 b_4 σ_4 => ?_)
          show V M_Ground_firstSnowFrom 2 0 0 0 0 tI _ 35 [(0, vR h0), (1, vI x1), (2, vI x2), (3, vI x3), (4, vI x4)] [vI r_4] b_4 σ_4
          refine V_ifeq 38 64 rfl (show decode M_Ground_firstSnowFrom.2.1 35 = .ok (.ifCond .eq 29, 3) by decide +kernel) rfl ?_ ?_
          · skip
            exact V_sub [0, 1, 2, 3, 4] rfl (hJ64 x3 b_4 σ_4)
          · skip
            refine V_iload_n 39 rfl (show decode M_Ground_firstSnowFrom.2.1 38 = .ok (.iload_n 2, 1) by decide +kernel) 2 rfl ?_
            refine V_bipush 41 rfl (show decode M_Ground_firstSnowFrom.2.1 39 = .ok (.bipush 7, 2) by decide +kernel) (v := 7) rfl ?_
            refine V_idiv 42 rfl (show decode M_Ground_firstSnowFrom.2.1 41 = .ok (.idiv, 1) by decide +kernel) ?_
            refine V_aload_n 43 rfl (show decode M_Ground_firstSnowFrom.2.1 42 = .ok (.aload_n 0, 1) by decide +kernel) 0 rfl ?_
            refine V_get (j := 2) (v := vR (SR σ_4 h0 2)) 46 rfl ck_Ground (by decide) (by decide) (show decode M_Ground_firstSnowFrom.2.1 43 = .ok (.getfield 18, 3) by decide +kernel) wd_218 rfl ?_
            refine V_iload 48 rfl (show decode M_Ground_firstSnowFrom.2.1 46 = .ok (.iload 4, 2) by decide +kernel) 4 rfl ?_
            refine V_ald_int 49 rfl (show decode M_Ground_firstSnowFrom.2.1 48 = .ok (.iaload, 1) by decide +kernel) ?_
            refine V_icmpgt 52 64 rfl (show decode M_Ground_firstSnowFrom.2.1 49 = .ok (.if_icmp .gt 15, 3) by decide +kernel) rfl ?_ ?_
            · skip
              exact V_sub [0, 1, 2, 3, 4] rfl (hJ64 x3 (((b_4 && !decide ((7 : Int32) = 0)) && cK σ_4 h0 2) && cA σ_4 (SR σ_4 h0 2) 21 x4) σ_4)
            · skip
              refine V_iload_n 53 rfl (show decode M_Ground_firstSnowFrom.2.1 52 = .ok (.iload_n 3, 1) by decide +kernel) 3 rfl ?_
              refine V_aload_n 54 rfl (show decode M_Ground_firstSnowFrom.2.1 53 = .ok (.aload_n 0, 1) by decide +kernel) 0 rfl ?_
              refine V_get (j := 1) (v := vR (SR σ_4 h0 1)) 57 rfl ck_Ground (by decide) (by decide) (show decode M_Ground_firstSnowFrom.2.1 54 = .ok (.getfield 15, 3) by decide +kernel) wd_214 rfl ?_
              refine V_iload 59 rfl (show decode M_Ground_firstSnowFrom.2.1 57 = .ok (.iload 4, 2) by decide +kernel) 4 rfl ?_
              refine V_ald_int 60 rfl (show decode M_Ground_firstSnowFrom.2.1 59 = .ok (.iaload, 1) by decide +kernel) ?_
              refine V_min 63 rfl (show decode M_Ground_firstSnowFrom.2.1 60 = .ok (.invokestatic 77, 3) by decide +kernel) wd_1161 wd_880 wd_186 wd_minc (by decide) (Nat.le_of_ble_eq_true rfl) (by decide) (by decide) ?_
              refine V_istore_n (fun x3_5 => [(3, vI x3_5), (0, vR h0), (1, vI x1), (2, vI x2), (4, vI x4)]) 64 rfl (show decode M_Ground_firstSnowFrom.2.1 63 = .ok (.istore_n 3, 1) by decide +kernel) (by decide) (fun _ => rfl) (fun x3_5 => ?_)
              exact V_sub [1, 2, 3, 0, 4] rfl (hJ64 x3_5 (((((b_4 && !decide ((7 : Int32) = 0)) && cK σ_4 h0 2) && cA σ_4 (SR σ_4 h0 2) 21 x4) && cK σ_4 h0 2) && cA σ_4 (SR σ_4 h0 1) 21 x4) σ_4)
    · skip
      refine V_iload_n 71 rfl (show decode M_Ground_firstSnowFrom.2.1 70 = .ok (.iload_n 3, 1) by decide +kernel) 3 rfl ?_
      exact V_iret rfl (by decide) (by decide) (show decode M_Ground_firstSnowFrom.2.1 71 = .ok (.ireturn, 1) by decide +kernel)
theorem cal_Ground_firstSnowFrom (d mc ms k n : Nat) (h1 : 2 + 1 ≤ d) (h2 : k + 0 ≤ mc) (h3 : n + 0 ≤ ms) : Cal M_Ground_firstSnowFrom 2 0 0 2 d mc ms k n := ⟨wd_1160, wd_172, by decide, h1, by decide, h2, h3⟩
abbrev M_Ground_lastWater : MD := (⟨"LongTrail$Ground", "lastWater", "(II)I"⟩, prog_3_method_17_code, 5, (some FieldType.int))
def b_Ground_lastWater_5 (h0 : Nat) (x1 : Int32) (x2 : Int32) (L5 : Int32 → Int32 → Bool → Sto → Rs Int32) (x3 : Int32) (x4 : Int32) (b : Bool) (σ : Sto) : Rs Int32 := (if x4 < (SI σ h0 10) then (lt_ (fun (x3_58 : Int32) (b : Bool) (σ : Sto) => (lt_ (x4 + (1 : Int32)) (fun (x4_3 : Int32) => (L5 x3_58 x4_3 b σ)))) (fun J58 => (if x1 < (SI σ (SR σ h0 1) (ix x4)) then (if x2 < (SI σ (SR σ h0 1) (ix x4)) then (J58 x3 (((((b && cK σ h0 2) && cK σ h0 2) && cA σ (SR σ h0 1) 21 x4) && cK σ h0 2) && cA σ (SR σ h0 1) 21 x4) σ) else (bd_ (f_Ground_isOf h0 x4 (1 : Int32) ((((((b && cK σ h0 2) && cK σ h0 2) && cA σ (SR σ h0 1) 21 x4) && cK σ h0 2) && cA σ (SR σ h0 1) 21 x4) && cK σ h0 2) σ) (fun (r_4 : Int32) (b_4 : Bool) (σ_4 : Sto) => (if r_4 = 0 then (J58 x3 b_4 σ_4) else (lt_ (mxI x3 (SI σ_4 (SR σ_4 h0 1) (ix x4))) (fun (x3_5 : Int32) => (J58 x3_5 ((b_4 && cK σ_4 h0 2) && cA σ_4 (SR σ_4 h0 1) 21 x4) σ_4))))))) else (J58 x3 (((b && cK σ h0 2) && cK σ h0 2) && cA σ (SR σ h0 1) 21 x4) σ)))) else (x3, (b && cK σ h0 2), σ))
def f_Ground_lastWater (h0 : Nat) (x1 : Int32) (x2 : Int32) (b : Bool) (σ : Sto) : Rs Int32 := (lt_ (-1 : Int32) (fun (x3_1 : Int32) => (lt_ (0 : Int32) (fun (x4_2 : Int32) => (lp_ (b_Ground_lastWater_5 h0 x1 x2) (fun (x3 : Int32) (x4 : Int32) (b : Bool) (σ : Sto) => (0, false, σ)) fuel_ x3_1 x4_2 b σ)))))
set_option maxRecDepth 100000 in
set_option maxHeartbeats 4000000 in
theorem s_Ground_lastWater : ∀ (h0 : Nat) (x1 : Int32) (x2 : Int32) (b : Bool) (σ : Sto), Snd M_Ground_lastWater 2 0 0 [vR h0, vI x1, vI x2] b σ (tI (f_Ground_lastWater h0 x1 x2 b σ).1) (f_Ground_lastWater h0 x1 x2 b σ).2.1 (f_Ground_lastWater h0 x1 x2 b σ).2.2 := by
  intro h0 x1 x2 b σ
  refine Snd_of (tv := tI) (by decide) (Nat.le_of_ble_eq_true rfl) ?_
  show V M_Ground_lastWater 2 0 0 0 0 tI (f_Ground_lastWater h0 x1 x2 b σ) 0 [(0, vR h0), (1, vI x1), (2, vI x2)] [] b σ
  unfold f_Ground_lastWater
  refine V_iconst 1 rfl (show decode M_Ground_lastWater.2.1 0 = .ok (.iconst (-1), 1) by decide +kernel) (v := -1) rfl ?_
  refine V_istore_n (fun x3_1 => [(3, vI x3_1), (0, vR h0), (1, vI x1), (2, vI x2)]) 2 rfl (show decode M_Ground_lastWater.2.1 1 = .ok (.istore_n 3, 1) by decide +kernel) (by decide) (fun _ => rfl) (fun x3_1 => ?_)
  refine V_iconst 3 rfl (show decode M_Ground_lastWater.2.1 2 = .ok (.iconst 0, 1) by decide +kernel) (v := 0) rfl ?_
  refine V_istore (fun x4_2 => [(4, vI x4_2), (3, vI x3_1), (0, vR h0), (1, vI x1), (2, vI x2)]) 5 rfl (show decode M_Ground_lastWater.2.1 3 = .ok (.istore 4, 2) by decide +kernel) (by decide) (fun _ => rfl) (fun x4_2 => ?_)
  refine V_sub [2, 3, 4, 1, 0] rfl ?_
  refine lp_P (fun (L5 : Int32 → Int32 → Bool → Sto → Rs Int32) => ∀ (x3 : Int32) (x4 : Int32) (b : Bool) (σ : Sto), V M_Ground_lastWater 2 0 0 0 0 tI (L5 x3 x4 b σ) 5 [(0, vR h0), (1, vI x1), (2, vI x2), (3, vI x3), (4, vI x4)] [] b σ) ?_ ?_ fuel_ x3_1 x4_2 b σ
  · intro x3 x4 b σ; exact V_bad
  · intro L5 hL5 x3 x4 b σ
    unfold b_Ground_lastWater_5
    refine V_iload 7 rfl (show decode M_Ground_lastWater.2.1 5 = .ok (.iload 4, 2) by decide +kernel) 4 rfl ?_
    refine V_aload_n 8 rfl (show decode M_Ground_lastWater.2.1 7 = .ok (.aload_n 0, 1) by decide +kernel) 0 rfl ?_
    refine V_get (j := 10) (v := vI (SI σ h0 10)) 11 rfl ck_Ground (by decide) (by decide) (show decode M_Ground_lastWater.2.1 8 = .ok (.getfield 50, 3) by decide +kernel) wd_235 rfl ?_
    refine V_icmpge 14 64 rfl (show decode M_Ground_lastWater.2.1 11 = .ok (.if_icmp .ge 53, 3) by decide +kernel) rfl ?_ ?_
    · skip
      refine V_aload_n 15 rfl (show decode M_Ground_lastWater.2.1 14 = .ok (.aload_n 0, 1) by decide +kernel) 0 rfl ?_
      refine V_get (j := 1) (v := vR (SR σ h0 1)) 18 rfl ck_Ground (by decide) (by decide) (show decode M_Ground_lastWater.2.1 15 = .ok (.getfield 15, 3) by decide +kernel) wd_214 rfl ?_
      refine V_iload 20 rfl (show decode M_Ground_lastWater.2.1 18 = .ok (.iload 4, 2) by decide +kernel) 4 rfl ?_
      refine V_ald_int 21 rfl (show decode M_Ground_lastWater.2.1 20 = .ok (.iaload, 1) by decide +kernel) ?_
      refine V_iload_n 22 rfl (show decode M_Ground_lastWater.2.1 21 = .ok (.iload_n 1, 1) by decide +kernel) 1 rfl ?_
      refine V_jn (fun (J58 : Int32 → Bool → Sto → Rs Int32) => ∀ (x3_58 : Int32) (b : Bool) (σ : Sto), V M_Ground_lastWater 2 0 0 0 0 tI (J58 x3_58 b σ) 58 [(0, vR h0), (1, vI x1), (2, vI x2), (3, vI x3_58), (4, vI x4)] [] b σ) ?_ (fun J58 hJ58 => ?_)
      · intro x3_58 b σ
        refine V_iinc (fun x4_3 => [(4, vI x4_3), (0, vR h0), (1, vI x1), (2, vI x2), (3, vI x3_58)]) 61 rfl (show decode M_Ground_lastWater.2.1 58 = .ok (.iinc 4 1, 3) by decide +kernel) 4 rfl (w := 1) rfl (by decide) (fun _ => rfl) (fun x4_3 => ?_)
        refine V_goto 5 (show decode M_Ground_lastWater.2.1 61 = .ok (.goto (-56), 3) by decide +kernel) rfl ?_
        exact V_sub [1, 2, 3, 4, 0] rfl (hL5 x3_58 x4_3 b σ)
      · skip
        refine V_icmple 25 58 rfl (show decode M_Ground_lastWater.2.1 22 = .ok (.if_icmp .le 36, 3) by decide +kernel) rfl ?_ ?_
        · skip
          refine V_aload_n 26 rfl (show decode M_Ground_lastWater.2.1 25 = .ok (.aload_n 0, 1) by decide +kernel) 0 rfl ?_
          refine V_get (j := 1) (v := vR (SR σ h0 1)) 29 rfl ck_Ground (by decide) (by decide) (show decode M_Ground_lastWater.2.1 26 = .ok (.getfield 15, 3) by decide +kernel) wd_214 rfl ?_
          refine V_iload 31 rfl (show decode M_Ground_lastWater.2.1 29 = .ok (.iload 4, 2) by decide +kernel) 4 rfl ?_
          refine V_ald_int 32 rfl (show decode M_Ground_lastWater.2.1 31 = .ok (.iaload, 1) by decide +kernel) ?_
          refine V_iload_n 33 rfl (show decode M_Ground_lastWater.2.1 32 = .ok (.iload_n 2, 1) by decide +kernel) 2 rfl ?_
          refine V_icmpgt 36 58 rfl (show decode M_Ground_lastWater.2.1 33 = .ok (.if_icmp .gt 25, 3) by decide +kernel) rfl ?_ ?_
          · skip
            exact V_sub [0, 1, 2, 3, 4] rfl (hJ58 x3 (((((b && cK σ h0 2) && cK σ h0 2) && cA σ (SR σ h0 1) 21 x4) && cK σ h0 2) && cA σ (SR σ h0 1) 21 x4) σ)
          · skip
            refine V_aload_n 37 rfl (show decode M_Ground_lastWater.2.1 36 = .ok (.aload_n 0, 1) by decide +kernel) 0 rfl ?_
            refine V_iload 39 rfl (show decode M_Ground_lastWater.2.1 37 = .ok (.iload 4, 2) by decide +kernel) 4 rfl ?_
            refine V_iconst 40 rfl (show decode M_Ground_lastWater.2.1 39 = .ok (.iconst 1, 1) by decide +kernel) (v := 1) rfl ?_
            refine V_callV (tb := tI) (as := [vI x4, vI (1 : Int32)]) (rest := []) (na := 2) 43 rfl ck_Ground (by decide) (s_Ground_isOf h0 x4 (1 : Int32) ((((((b && cK σ h0 2) && cK σ h0 2) && cA σ (SR σ h0 1) 21 x4) && cK σ h0 2) && cA σ (SR σ h0 1) 21 x4) && cK σ h0 2) σ) rfl rfl (Nat.le_of_ble_eq_true rfl) (cal_Ground_isOf _ _ _ _ _ (by decide) (by decide) (by decide)) (show decode M_Ground_lastWater.2.1 40 = .ok (.invokevirtual 63, 3) by decide +kernel) wd_701 wd_688 wd_9 (fun r_4 b_4 σ_4 => ?_)
            show V M_Ground_lastWater 2 0 0 0 0 tI _ 43 [(0, vR h0), (1, vI x1), (2, vI x2), (3, vI x3), (4, vI x4)] [vI r_4] b_4 σ_4
            refine V_ifeq 46 58 rfl (show decode M_Ground_lastWater.2.1 43 = .ok (.ifCond .eq 15, 3) by decide +kernel) rfl ?_ ?_
            · skip
              exact V_sub [0, 1, 2, 3, 4] rfl (hJ58 x3 b_4 σ_4)
            · skip
              refine V_iload_n 47 rfl (show decode M_Ground_lastWater.2.1 46 = .ok (.iload_n 3, 1) by decide +kernel) 3 rfl ?_
              refine V_aload_n 48 rfl (show decode M_Ground_lastWater.2.1 47 = .ok (.aload_n 0, 1) by decide +kernel) 0 rfl ?_
              refine V_get (j := 1) (v := vR (SR σ_4 h0 1)) 51 rfl ck_Ground (by decide) (by decide) (show decode M_Ground_lastWater.2.1 48 = .ok (.getfield 15, 3) by decide +kernel) wd_214 rfl ?_
              refine V_iload 53 rfl (show decode M_Ground_lastWater.2.1 51 = .ok (.iload 4, 2) by decide +kernel) 4 rfl ?_
              refine V_ald_int 54 rfl (show decode M_Ground_lastWater.2.1 53 = .ok (.iaload, 1) by decide +kernel) ?_
              refine V_max 57 rfl (show decode M_Ground_lastWater.2.1 54 = .ok (.invokestatic 71, 3) by decide +kernel) wd_1125 wd_877 wd_186 wd_maxc (by decide) (Nat.le_of_ble_eq_true rfl) (by decide) (by decide) ?_
              refine V_istore_n (fun x3_5 => [(3, vI x3_5), (0, vR h0), (1, vI x1), (2, vI x2), (4, vI x4)]) 58 rfl (show decode M_Ground_lastWater.2.1 57 = .ok (.istore_n 3, 1) by decide +kernel) (by decide) (fun _ => rfl) (fun x3_5 => ?_)
              exact V_sub [1, 2, 3, 0, 4] rfl (hJ58 x3_5 ((b_4 && cK σ_4 h0 2) && cA σ_4 (SR σ_4 h0 1) 21 x4) σ_4)
        · skip
          exact V_sub [0, 1, 2, 3, 4] rfl (hJ58 x3 (((b && cK σ h0 2) && cK σ h0 2) && cA σ (SR σ h0 1) 21 x4) σ)
    · skip
      refine V_iload_n 65 rfl (show decode M_Ground_lastWater.2.1 64 = .ok (.iload_n 3, 1) by decide +kernel) 3 rfl ?_
      exact V_iret rfl (by decide) (by decide) (show decode M_Ground_lastWater.2.1 65 = .ok (.ireturn, 1) by decide +kernel)
theorem cal_Ground_lastWater (d mc ms k n : Nat) (h1 : 2 + 1 ≤ d) (h2 : k + 0 ≤ mc) (h3 : n + 0 ≤ ms) : Cal M_Ground_lastWater 2 0 0 2 d mc ms k n := ⟨wd_1174, wd_172, by decide, h1, by decide, h2, h3⟩
abbrev M_Post_firstTownBeyond : MD := (⟨"LongTrail$Post", "firstTownBeyond", "(IILLongTrail$Ground;)I"⟩, prog_6_method_10_code, 7, (some FieldType.int))
def b_Post_firstTownBeyond_9 (h0 : Nat) (x1 : Int32) (x2 : Int32) (h3 : Nat) (L9 : Int32 → Int32 → Bool → Sto → Rs Int32) (x4 : Int32) (x5 : Int32) (b : Bool) (σ : Sto) : Rs Int32 := (if x5 < (SI σ h0 5) then (lt_ (SI σ (SR σ h3 1) (ix (SI σ (SR σ h0 1) (ix x5)))) (fun (x6_3 : Int32) => (bd_ (f_Post_isOpenFor h0 x5 x1 ((((((b && cK σ h0 5) && cK σ h3 2) && cK σ h0 5) && cA σ (SR σ h0 1) 21 x5) && cA σ (SR σ h3 1) 21 (SI σ (SR σ h0 1) (ix x5))) && cK σ h0 5) σ) (fun (r_4 : Int32) (b_4 : Bool) (σ_4 : Sto) => (lt_ (fun (x4_57 : Int32) (b : Bool) (σ : Sto) => (lt_ (x5 + (1 : Int32)) (fun (x5_5 : Int32) => (L9 x4_57 x5_5 b σ)))) (fun J57 => (if r_4 = 0 then (J57 x4 b_4 σ_4) else (if x2 < x6_3 then (lt_ (mnI x4 x6_3) (fun (x4_6 : Int32) => (J57 x4_6 b_4 σ_4))) else (J57 x4 b_4 σ_4))))))))) else (x4, (b && cK σ h0 5), σ))
def f_Post_firstTownBeyond (h0 : Nat) (x1 : Int32) (x2 : Int32) (h3 : Nat) (b : Bool) (σ : Sto) : Rs Int32 := (lt_ (SI σ h3 9) (fun (x4_1 : Int32) => (lt_ (0 : Int32) (fun (x5_2 : Int32) => (lp_ (b_Post_firstTownBeyond_9 h0 x1 x2 h3) (fun (x4 : Int32) (x5 : Int32) (b : Bool) (σ : Sto) => (0, false, σ)) fuel_ x4_1 x5_2 (b && cK σ h3 2) σ)))))
set_option maxRecDepth 100000 in
set_option maxHeartbeats 4000000 in
theorem s_Post_firstTownBeyond : ∀ (h0 : Nat) (x1 : Int32) (x2 : Int32) (h3 : Nat) (b : Bool) (σ : Sto), Snd M_Post_firstTownBeyond 2 0 0 [vR h0, vI x1, vI x2, vR h3] b σ (tI (f_Post_firstTownBeyond h0 x1 x2 h3 b σ).1) (f_Post_firstTownBeyond h0 x1 x2 h3 b σ).2.1 (f_Post_firstTownBeyond h0 x1 x2 h3 b σ).2.2 := by
  intro h0 x1 x2 h3 b σ
  refine Snd_of (tv := tI) (by decide) (Nat.le_of_ble_eq_true rfl) ?_
  show V M_Post_firstTownBeyond 2 0 0 0 0 tI (f_Post_firstTownBeyond h0 x1 x2 h3 b σ) 0 [(0, vR h0), (1, vI x1), (2, vI x2), (3, vR h3)] [] b σ
  unfold f_Post_firstTownBeyond
  refine V_aload_n 1 rfl (show decode M_Post_firstTownBeyond.2.1 0 = .ok (.aload_n 3, 1) by decide +kernel) 3 rfl ?_
  refine V_getN (j := 9) (v := vI (SI σ h3 9)) 4 rfl ck_Ground (by decide) (by decide) (show decode M_Post_firstTownBeyond.2.1 1 = .ok (.getfield 45, 3) by decide +kernel) wd_233 rfl ?_
  refine V_istore (fun x4_1 => [(4, vI x4_1), (0, vR h0), (1, vI x1), (2, vI x2), (3, vR h3)]) 6 rfl (show decode M_Post_firstTownBeyond.2.1 4 = .ok (.istore 4, 2) by decide +kernel) (by decide) (fun _ => rfl) (fun x4_1 => ?_)
  refine V_iconst 7 rfl (show decode M_Post_firstTownBeyond.2.1 6 = .ok (.iconst 0, 1) by decide +kernel) (v := 0) rfl ?_
  refine V_istore (fun x5_2 => [(5, vI x5_2), (4, vI x4_1), (0, vR h0), (1, vI x1), (2, vI x2), (3, vR h3)]) 9 rfl (show decode M_Post_firstTownBeyond.2.1 7 = .ok (.istore 5, 2) by decide +kernel) (by decide) (fun _ => rfl) (fun x5_2 => ?_)
  refine V_sub [2, 3, 4, 5, 1, 0] rfl ?_
  refine lp_P (fun (L9 : Int32 → Int32 → Bool → Sto → Rs Int32) => ∀ (x4 : Int32) (x5 : Int32) (b : Bool) (σ : Sto), V M_Post_firstTownBeyond 2 0 0 0 0 tI (L9 x4 x5 b σ) 9 [(0, vR h0), (1, vI x1), (2, vI x2), (3, vR h3), (4, vI x4), (5, vI x5)] [] b σ) ?_ ?_ fuel_ x4_1 x5_2 (b && cK σ h3 2) σ
  · intro x4 x5 b σ; exact V_bad
  · intro L9 hL9 x4 x5 b σ
    unfold b_Post_firstTownBeyond_9
    refine V_iload 11 rfl (show decode M_Post_firstTownBeyond.2.1 9 = .ok (.iload 5, 2) by decide +kernel) 5 rfl ?_
    refine V_aload_n 12 rfl (show decode M_Post_firstTownBeyond.2.1 11 = .ok (.aload_n 0, 1) by decide +kernel) 0 rfl ?_
    refine V_get (j := 5) (v := vI (SI σ h0 5)) 15 rfl ck_Post (by decide) (by decide) (show decode M_Post_firstTownBeyond.2.1 12 = .ok (.getfield 31, 3) by decide +kernel) wd_307 rfl ?_
    refine V_icmpge 18 63 rfl (show decode M_Post_firstTownBeyond.2.1 15 = .ok (.if_icmp .ge 48, 3) by decide +kernel) rfl ?_ ?_
    · skip
      refine V_aload_n 19 rfl (show decode M_Post_firstTownBeyond.2.1 18 = .ok (.aload_n 3, 1) by decide +kernel) 3 rfl ?_
      refine V_getN (j := 1) (v := vR (SR σ h3 1)) 22 rfl ck_Ground (by decide) (by decide) (show decode M_Post_firstTownBeyond.2.1 19 = .ok (.getfield 50, 3) by decide +kernel) wd_216 rfl ?_
      refine V_aload_n 23 rfl (show decode M_Post_firstTownBeyond.2.1 22 = .ok (.aload_n 0, 1) by decide +kernel) 0 rfl ?_
      refine V_get (j := 1) (v := vR (SR σ h0 1)) 26 rfl ck_Post (by decide) (by decide) (show decode M_Post_firstTownBeyond.2.1 23 = .ok (.getfield 13, 3) by decide +kernel) wd_299 rfl ?_
      refine V_iload 28 rfl (show decode M_Post_firstTownBeyond.2.1 26 = .ok (.iload 5, 2) by decide +kernel) 5 rfl ?_
      refine V_ald_int 29 rfl (show decode M_Post_firstTownBeyond.2.1 28 = .ok (.iaload, 1) by decide +kernel) ?_
      refine V_ald_int 30 rfl (show decode M_Post_firstTownBeyond.2.1 29 = .ok (.iaload, 1) by decide +kernel) ?_
      refine V_istore (fun x6_3 => [(6, vI x6_3), (0, vR h0), (1, vI x1), (2, vI x2), (3, vR h3), (4, vI x4), (5, vI x5)]) 32 rfl (show decode M_Post_firstTownBeyond.2.1 30 = .ok (.istore 6, 2) by decide +kernel) (by decide) (fun _ => rfl) (fun x6_3 => ?_)
      refine V_aload_n 33 rfl (show decode M_Post_firstTownBeyond.2.1 32 = .ok (.aload_n 0, 1) by decide +kernel) 1 rfl ?_
      refine V_iload 35 rfl (show decode M_Post_firstTownBeyond.2.1 33 = .ok (.iload 5, 2) by decide +kernel) 6 rfl ?_
      refine V_iload_n 36 rfl (show decode M_Post_firstTownBeyond.2.1 35 = .ok (.iload_n 1, 1) by decide +kernel) 2 rfl ?_
      refine V_callV (tb := tI) (as := [vI x5, vI x1]) (rest := []) (na := 2) 39 rfl ck_Post (by decide) (s_Post_isOpenFor h0 x5 x1 ((((((b && cK σ h0 5) && cK σ h3 2) && cK σ h0 5) && cA σ (SR σ h0 1) 21 x5) && cA σ (SR σ h3 1) 21 (SI σ (SR σ h0 1) (ix x5))) && cK σ h0 5) σ) rfl rfl (Nat.le_of_ble_eq_true rfl) (cal_Post_isOpenFor _ _ _ _ _ (by decide) (by decide) (by decide)) (show decode M_Post_firstTownBeyond.2.1 36 = .ok (.invokevirtual 41, 3) by decide +kernel) wd_1025 wd_1027 wd_37 (fun r_4 b_4 σ_4 => ?_)
      show V M_Post_firstTownBeyond 2 0 0 0 0 tI _ 39 [(6, vI x6_3), (0, vR h0), (1, vI x1), (2, vI x2), (3, vR h3), (4, vI x4), (5, vI x5)] [vI r_4] b_4 σ_4
      refine V_jn (fun (J57 : Int32 → Bool → Sto → Rs Int32) => ∀ (x4_57 : Int32) (b : Bool) (σ : Sto), V M_Post_firstTownBeyond 2 0 0 0 0 tI (J57 x4_57 b σ) 57 [(0, vR h0), (1, vI x1), (2, vI x2), (3, vR h3), (4, vI x4_57), (5, vI x5)] [] b σ) ?_ (fun J57 hJ57 => ?_)
      · intro x4_57 b σ
        refine V_iinc (fun x5_5 => [(5, vI x5_5), (0, vR h0), (1, vI x1), (2, vI x2), (3, vR h3), (4, vI x4_57)]) 60 rfl (show decode M_Post_firstTownBeyond.2.1 57 = .ok (.iinc 5 1, 3) by decide +kernel) 5 rfl (w := 1) rfl (by decide) (fun _ => rfl) (fun x5_5 => ?_)
        refine V_goto 9 (show decode M_Post_firstTownBeyond.2.1 60 = .ok (.goto (-51), 3) by decide +kernel) rfl ?_
        exact V_sub [1, 2, 3, 4, 5, 0] rfl (hL9 x4_57 x5_5 b σ)
      · skip
        refine V_ifeq 42 57 rfl (show decode M_Post_firstTownBeyond.2.1 39 = .ok (.ifCond .eq 18, 3) by decide +kernel) rfl ?_ ?_
        · skip
          exact V_sub [1, 2, 3, 4, 5, 6] rfl (hJ57 x4 b_4 σ_4)
        · skip
          refine V_iload 44 rfl (show decode M_Post_firstTownBeyond.2.1 42 = .ok (.iload 6, 2) by decide +kernel) 0 rfl ?_
          refine V_iload_n 45 rfl (show decode M_Post_firstTownBeyond.2.1 44 = .ok (.iload_n 2, 1) by decide +kernel) 3 rfl ?_
          refine V_icmple 48 57 rfl (show decode M_Post_firstTownBeyond.2.1 45 = .ok (.if_icmp .le 12, 3) by decide +kernel) rfl ?_ ?_
          · skip
            refine V_iload 50 rfl (show decode M_Post_firstTownBeyond.2.1 48 = .ok (.iload 4, 2) by decide +kernel) 5 rfl ?_
            refine V_iload 52 rfl (show decode M_Post_firstTownBeyond.2.1 50 = .ok (.iload 6, 2) by decide +kernel) 0 rfl ?_
            refine V_min 55 rfl (show decode M_Post_firstTownBeyond.2.1 52 = .ok (.invokestatic 53, 3) by decide +kernel) wd_1170 wd_880 wd_186 wd_minc (by decide) (Nat.le_of_ble_eq_true rfl) (by decide) (by decide) ?_
            refine V_istore (fun x4_6 => [(4, vI x4_6), (6, vI x6_3), (0, vR h0), (1, vI x1), (2, vI x2), (3, vR h3), (5, vI x5)]) 57 rfl (show decode M_Post_firstTownBeyond.2.1 55 = .ok (.istore 4, 2) by decide +kernel) (by decide) (fun _ => rfl) (fun x4_6 => ?_)
            exact V_sub [2, 3, 4, 5, 0, 6] rfl (hJ57 x4_6 b_4 σ_4)
          · skip
            exact V_sub [1, 2, 3, 4, 5, 6] rfl (hJ57 x4 b_4 σ_4)
    · skip
      refine V_iload 65 rfl (show decode M_Post_firstTownBeyond.2.1 63 = .ok (.iload 4, 2) by decide +kernel) 4 rfl ?_
      exact V_iret rfl (by decide) (by decide) (show decode M_Post_firstTownBeyond.2.1 65 = .ok (.ireturn, 1) by decide +kernel)
theorem cal_Post_firstTownBeyond (d mc ms k n : Nat) (h1 : 2 + 1 ≤ d) (h2 : k + 0 ≤ mc) (h3 : n + 0 ≤ ms) : Cal M_Post_firstTownBeyond 2 0 0 3 d mc ms k n := ⟨wd_1169, wd_174, by decide, h1, by decide, h2, h3⟩
abbrev M_Walker_walkTo : MD := (⟨"LongTrail$Walker", "walkTo", "(II)V"⟩, prog_11_method_8_code, 4, (none : Option FieldType))
def f_Walker_walkTo (h0 : Nat) (x1 : Int32) (x2 : Int32) (b : Bool) (σ : Sto) : Rs Unit := (lt_ (x1 - (SI σ h0 6)) (fun (x3_1 : Int32) => (lt_ (pI σ h0 12 ((SI σ h0 12) + x3_1)) (fun (σ_2 : Sto) => (lt_ (fun (s0_34 : Int32) (s1_34 : Nat) (b : Bool) (σ : Sto) => (lt_ (pI σ s1_34 10 s0_34) (fun (σ_3 : Sto) => (lt_ (pI σ_3 h0 6 x1) (fun (σ_4 : Sto) => ((), ((b && cK σ s1_34 10) && cK σ_3 h0 10), σ_4)))))) (fun J34 => (if x2 < 0 then (J34 ((SI σ_2 h0 10) + x3_1) h0 ((((b && cK σ h0 10) && cK σ h0 10) && cK σ h0 10) && cK σ_2 h0 10) σ_2) else (J34 (x1 - x2) h0 (((b && cK σ h0 10) && cK σ h0 10) && cK σ h0 10) σ_2))))))))
set_option maxRecDepth 100000 in
set_option maxHeartbeats 4000000 in
theorem s_Walker_walkTo : ∀ (h0 : Nat) (x1 : Int32) (x2 : Int32) (b : Bool) (σ : Sto), Snd M_Walker_walkTo 1 0 0 [vR h0, vI x1, vI x2] b σ (tU (f_Walker_walkTo h0 x1 x2 b σ).1) (f_Walker_walkTo h0 x1 x2 b σ).2.1 (f_Walker_walkTo h0 x1 x2 b σ).2.2 := by
  intro h0 x1 x2 b σ
  refine Snd_of (tv := tU) (by decide) (Nat.le_of_ble_eq_true rfl) ?_
  show V M_Walker_walkTo 1 0 0 0 0 tU (f_Walker_walkTo h0 x1 x2 b σ) 0 [(0, vR h0), (1, vI x1), (2, vI x2)] [] b σ
  unfold f_Walker_walkTo
  refine V_iload_n 1 rfl (show decode M_Walker_walkTo.2.1 0 = .ok (.iload_n 1, 1) by decide +kernel) 1 rfl ?_
  refine V_aload_n 2 rfl (show decode M_Walker_walkTo.2.1 1 = .ok (.aload_n 0, 1) by decide +kernel) 0 rfl ?_
  refine V_get (j := 6) (v := vI (SI σ h0 6)) 5 rfl ck_Walker (by decide) (by decide) (show decode M_Walker_walkTo.2.1 2 = .ok (.getfield 28, 3) by decide +kernel) wd_433 rfl ?_
  refine V_isub 6 rfl (show decode M_Walker_walkTo.2.1 5 = .ok (.isub, 1) by decide +kernel) ?_
  refine V_istore_n (fun x3_1 => [(3, vI x3_1), (0, vR h0), (1, vI x1), (2, vI x2)]) 7 rfl (show decode M_Walker_walkTo.2.1 6 = .ok (.istore_n 3, 1) by decide +kernel) (by decide) (fun _ => rfl) (fun x3_1 => ?_)
  refine V_aload_n 8 rfl (show decode M_Walker_walkTo.2.1 7 = .ok (.aload_n 0, 1) by decide +kernel) 1 rfl ?_
  refine V_dup 9 rfl (show decode M_Walker_walkTo.2.1 8 = .ok (.dup, 1) by decide +kernel) rfl ?_
  refine V_get (j := 12) (v := vI (SI σ h0 12)) 12 rfl ck_Walker (by decide) (by decide) (show decode M_Walker_walkTo.2.1 9 = .ok (.getfield 46, 3) by decide +kernel) wd_446 rfl ?_
  refine V_iload_n 13 rfl (show decode M_Walker_walkTo.2.1 12 = .ok (.iload_n 3, 1) by decide +kernel) 0 rfl ?_
  refine V_iadd 14 rfl (show decode M_Walker_walkTo.2.1 13 = .ok (.iadd, 1) by decide +kernel) ?_
  refine V_putI (j := 12) 17 rfl ck_Walker (by decide) (by decide) (show decode M_Walker_walkTo.2.1 14 = .ok (.putfield 46, 3) by decide +kernel) wd_446 rfl (fun _ => rfl) rfl rfl (fun σ_2 => ?_)
  refine V_aload_n 18 rfl (show decode M_Walker_walkTo.2.1 17 = .ok (.aload_n 0, 1) by decide +kernel) 1 rfl ?_
  refine V_iload_n 19 rfl (show decode M_Walker_walkTo.2.1 18 = .ok (.iload_n 2, 1) by decide +kernel) 3 rfl ?_
  refine V_jn (fun (J34 : Int32 → Nat → Bool → Sto → Rs Unit) => ∀ (s0_34 : Int32) (s1_34 : Nat) (b : Bool) (σ : Sto), V M_Walker_walkTo 1 0 0 0 0 tU (J34 s0_34 s1_34 b σ) 34 [(0, vR h0), (1, vI x1)] [vI s0_34, vR s1_34] b σ) ?_ (fun J34 hJ34 => ?_)
  · intro s0_34 s1_34 b σ
    refine V_putI (j := 10) 37 rfl ck_Walker (by decide) (by decide) (show decode M_Walker_walkTo.2.1 34 = .ok (.putfield 40, 3) by decide +kernel) wd_443 rfl (fun _ => rfl) rfl rfl (fun σ_3 => ?_)
    refine V_aload_n 38 rfl (show decode M_Walker_walkTo.2.1 37 = .ok (.aload_n 0, 1) by decide +kernel) 0 rfl ?_
    refine V_iload_n 39 rfl (show decode M_Walker_walkTo.2.1 38 = .ok (.iload_n 1, 1) by decide +kernel) 1 rfl ?_
    refine V_putI (j := 6) 42 rfl ck_Walker (by decide) (by decide) (show decode M_Walker_walkTo.2.1 39 = .ok (.putfield 28, 3) by decide +kernel) wd_433 rfl (fun _ => rfl) rfl rfl (fun σ_4 => ?_)
    exact V_vret rfl (by decide) (by decide) (show decode M_Walker_walkTo.2.1 42 = .ok (.return_, 1) by decide +kernel)
  · skip
    refine V_ifge 22 31 rfl (show decode M_Walker_walkTo.2.1 19 = .ok (.ifCond .ge 12, 3) by decide +kernel) rfl ?_ ?_
    · skip
      refine V_aload_n 23 rfl (show decode M_Walker_walkTo.2.1 22 = .ok (.aload_n 0, 1) by decide +kernel) 1 rfl ?_
      refine V_get (j := 10) (v := vI (SI σ_2 h0 10)) 26 rfl ck_Walker (by decide) (by decide) (show decode M_Walker_walkTo.2.1 23 = .ok (.getfield 40, 3) by decide +kernel) wd_443 rfl ?_
      refine V_iload_n 27 rfl (show decode M_Walker_walkTo.2.1 26 = .ok (.iload_n 3, 1) by decide +kernel) 0 rfl ?_
      refine V_iadd 28 rfl (show decode M_Walker_walkTo.2.1 27 = .ok (.iadd, 1) by decide +kernel) ?_
      refine V_goto 34 (show decode M_Walker_walkTo.2.1 28 = .ok (.goto 6, 3) by decide +kernel) rfl ?_
      exact V_sub [1, 2] rfl (hJ34 ((SI σ_2 h0 10) + x3_1) h0 ((((b && cK σ h0 10) && cK σ h0 10) && cK σ h0 10) && cK σ_2 h0 10) σ_2)
    · skip
      refine V_iload_n 32 rfl (show decode M_Walker_walkTo.2.1 31 = .ok (.iload_n 1, 1) by decide +kernel) 2 rfl ?_
      refine V_iload_n 33 rfl (show decode M_Walker_walkTo.2.1 32 = .ok (.iload_n 2, 1) by decide +kernel) 3 rfl ?_
      refine V_isub 34 rfl (show decode M_Walker_walkTo.2.1 33 = .ok (.isub, 1) by decide +kernel) ?_
      exact V_sub [1, 2] rfl (hJ34 (x1 - x2) h0 (((b && cK σ h0 10) && cK σ h0 10) && cK σ h0 10) σ_2)
theorem cal_Walker_walkTo (d mc ms k n : Nat) (h1 : 1 + 1 ≤ d) (h2 : k + 0 ≤ mc) (h3 : n + 0 ≤ ms) : Cal M_Walker_walkTo 1 0 0 2 d mc ms k n := ⟨wd_1178, wd_178, by decide, h1, by decide, h2, h3⟩
abbrev M_World_walkOn : MD := (⟨"LongTrail$World", "walkOn", "(I)V"⟩, prog_12_method_13_code, 5, (none : Option FieldType))
def f_World_walkOn (h0 : Nat) (x1 : Int32) (b : Bool) (σ : Sto) : Rs Unit := (lt_ (SR σ (SR σ h0 6) (ix x1)) (fun (h2_1 : Nat) => (lt_ (SI σ h2_1 6) (fun (x3_2 : Int32) => (lt_ (fun (s0_33 : Int32) (s1_33 : Int32) (b : Bool) (σ : Sto) => (lt_ (s1_33 + s0_33) (fun (x4_3 : Int32) => (lt_ (mnI x4_3 (SI σ (SR σ h0 0) 9)) (fun (x4_4 : Int32) => (bd_ (f_Ground_firstSnowFrom (SR σ h0 0) x3_2 (SI σ h0 8) (((((b && cK σ h0 11) && cK σ (SR σ h0 0) 2) && cK σ h0 11) && cK σ h0 11) && cK σ (SR σ h0 0) 2) σ) (fun (r_5 : Int32) (b_5 : Bool) (σ_5 : Sto) => (lt_ (mnI x4_4 r_5) (fun (x4_6 : Int32) => (bd_ (f_Ground_firstFireFrom (SR σ_5 h0 0) x3_2 (SI σ_5 h0 8) (((b_5 && cK σ_5 h0 11) && cK σ_5 h0 11) && cK σ_5 (SR σ_5 h0 0) 2) σ_5) (fun (r_7 : Int32) (b_7 : Bool) (σ_7 : Sto) => (lt_ (mnI x4_6 r_7) (fun (x4_8 : Int32) => (bd_ (f_Post_firstTownBeyond (SR σ_7 h0 2) x1 x3_2 (SR σ_7 h0 0) (((b_7 && cK σ_7 h0 11) && cK σ_7 h0 11) && cK σ_7 (SR σ_7 h0 2) 5) σ_7) (fun (r_9 : Int32) (b_9 : Bool) (σ_9 : Sto) => (lt_ (mnI x4_8 r_9) (fun (x4_10 : Int32) => (bd_ (f_Ground_lastWater (SR σ_9 h0 0) x3_2 x4_10 ((b_9 && cK σ_9 h0 11) && cK σ_9 (SR σ_9 h0 0) 2) σ_9) (fun (r_11 : Int32) (b_11 : Bool) (σ_11 : Sto) => (bd_ (f_Walker_walkTo h2_1 x4_10 r_11 (b_11 && cK σ_11 h2_1 10) σ_11) (fun (r_12 : Unit) (b_12 : Bool) (σ_12 : Sto) => ((), b_12, σ_12)))))))))))))))))))))) (fun J33 => (if 0 < (SI σ h2_1 7) then (J33 (SI σ h2_1 1) x3_2 (((((b && cK σ h0 11) && cA σ (SR σ h0 6) 26 x1) && cK σ h2_1 10) && cK σ h2_1 10) && cK σ h2_1 10) σ) else (J33 ((SI σ h2_1 1) / (2 : Int32)) x3_2 ((((((b && cK σ h0 11) && cA σ (SR σ h0 6) 26 x1) && cK σ h2_1 10) && cK σ h2_1 10) && cK σ h2_1 10) && !decide ((2 : Int32) = 0)) σ))))))))
set_option maxRecDepth 100000 in
set_option maxHeartbeats 4000000 in
theorem s_World_walkOn : ∀ (h0 : Nat) (x1 : Int32) (b : Bool) (σ : Sto), Snd M_World_walkOn 4 0 0 [vR h0, vI x1] b σ (tU (f_World_walkOn h0 x1 b σ).1) (f_World_walkOn h0 x1 b σ).2.1 (f_World_walkOn h0 x1 b σ).2.2 := by
  intro h0 x1 b σ
  refine Snd_of (tv := tU) (by decide) (Nat.le_of_ble_eq_true rfl) ?_
  show V M_World_walkOn 4 0 0 0 0 tU (f_World_walkOn h0 x1 b σ) 0 [(0, vR h0), (1, vI x1)] [] b σ
  unfold f_World_walkOn
  refine V_aload_n 1 rfl (show decode M_World_walkOn.2.1 0 = .ok (.aload_n 0, 1) by decide +kernel) 0 rfl ?_
  refine V_get (j := 6) (v := vR (SR σ h0 6)) 4 rfl ck_World (by decide) (by decide) (show decode M_World_walkOn.2.1 1 = .ok (.getfield 53, 3) by decide +kernel) wd_509 rfl ?_
  refine V_iload_n 5 rfl (show decode M_World_walkOn.2.1 4 = .ok (.iload_n 1, 1) by decide +kernel) 1 rfl ?_
  refine V_ald_r26 6 rfl (show decode M_World_walkOn.2.1 5 = .ok (.aaload, 1) by decide +kernel) ?_
  refine V_astore_n (fun h2_1 => [(2, vR h2_1), (0, vR h0), (1, vI x1)]) 7 rfl (show decode M_World_walkOn.2.1 6 = .ok (.astore_n 2, 1) by decide +kernel) (by decide) (fun _ => rfl) (fun h2_1 => ?_)
  refine V_aload_n 8 rfl (show decode M_World_walkOn.2.1 7 = .ok (.aload_n 2, 1) by decide +kernel) 0 rfl ?_
  refine V_getN (j := 6) (v := vI (SI σ h2_1 6)) 11 rfl ck_Walker (by decide) (by decide) (show decode M_World_walkOn.2.1 8 = .ok (.getfield 100, 3) by decide +kernel) wd_434 rfl ?_
  refine V_istore_n (fun x3_2 => [(3, vI x3_2), (2, vR h2_1), (0, vR h0), (1, vI x1)]) 12 rfl (show decode M_World_walkOn.2.1 11 = .ok (.istore_n 3, 1) by decide +kernel) (by decide) (fun _ => rfl) (fun x3_2 => ?_)
  refine V_iload_n 13 rfl (show decode M_World_walkOn.2.1 12 = .ok (.iload_n 3, 1) by decide +kernel) 0 rfl ?_
  refine V_aload_n 14 rfl (show decode M_World_walkOn.2.1 13 = .ok (.aload_n 2, 1) by decide +kernel) 1 rfl ?_
  refine V_getN (j := 7) (v := vI (SI σ h2_1 7)) 17 rfl ck_Walker (by decide) (by decide) (show decode M_World_walkOn.2.1 14 = .ok (.getfield 103, 3) by decide +kernel) wd_437 rfl ?_
  refine V_jn (fun (J33 : Int32 → Int32 → Bool → Sto → Rs Unit) => ∀ (s0_33 : Int32) (s1_33 : Int32) (b : Bool) (σ : Sto), V M_World_walkOn 4 0 0 0 0 tU (J33 s0_33 s1_33 b σ) 33 [(0, vR h0), (1, vI x1), (2, vR h2_1), (3, vI x3_2)] [vI s0_33, vI s1_33] b σ) ?_ (fun J33 hJ33 => ?_)
  · intro s0_33 s1_33 b σ
    refine V_iadd 34 rfl (show decode M_World_walkOn.2.1 33 = .ok (.iadd, 1) by decide +kernel) ?_
    refine V_istore (fun x4_3 => [(4, vI x4_3), (0, vR h0), (1, vI x1), (2, vR h2_1), (3, vI x3_2)]) 36 rfl (show decode M_World_walkOn.2.1 34 = .ok (.istore 4, 2) by decide +kernel) (by decide) (fun _ => rfl) (fun x4_3 => ?_)
    refine V_iload 38 rfl (show decode M_World_walkOn.2.1 36 = .ok (.iload 4, 2) by decide +kernel) 0 rfl ?_
    refine V_aload_n 39 rfl (show decode M_World_walkOn.2.1 38 = .ok (.aload_n 0, 1) by decide +kernel) 1 rfl ?_
    refine V_get (j := 0) (v := vR (SR σ h0 0)) 42 rfl ck_World (by decide) (by decide) (show decode M_World_walkOn.2.1 39 = .ok (.getfield 10, 3) by decide +kernel) wd_497 rfl ?_
    refine V_getN (j := 9) (v := vI (SI σ (SR σ h0 0) 9)) 45 rfl ck_Ground (by decide) (by decide) (show decode M_World_walkOn.2.1 42 = .ok (.getfield 181, 3) by decide +kernel) wd_234 rfl ?_
    refine V_min 48 rfl (show decode M_World_walkOn.2.1 45 = .ok (.invokestatic 184, 3) by decide +kernel) wd_1156 wd_880 wd_186 wd_minc (by decide) (Nat.le_of_ble_eq_true rfl) (by decide) (by decide) ?_
    refine V_istore (fun x4_4 => [(4, vI x4_4), (0, vR h0), (1, vI x1), (2, vR h2_1), (3, vI x3_2)]) 50 rfl (show decode M_World_walkOn.2.1 48 = .ok (.istore 4, 2) by decide +kernel) (by decide) (fun _ => rfl) (fun x4_4 => ?_)
    refine V_iload 52 rfl (show decode M_World_walkOn.2.1 50 = .ok (.iload 4, 2) by decide +kernel) 0 rfl ?_
    refine V_aload_n 53 rfl (show decode M_World_walkOn.2.1 52 = .ok (.aload_n 0, 1) by decide +kernel) 1 rfl ?_
    refine V_get (j := 0) (v := vR (SR σ h0 0)) 56 rfl ck_World (by decide) (by decide) (show decode M_World_walkOn.2.1 53 = .ok (.getfield 10, 3) by decide +kernel) wd_497 rfl ?_
    refine V_iload_n 57 rfl (show decode M_World_walkOn.2.1 56 = .ok (.iload_n 3, 1) by decide +kernel) 4 rfl ?_
    refine V_aload_n 58 rfl (show decode M_World_walkOn.2.1 57 = .ok (.aload_n 0, 1) by decide +kernel) 1 rfl ?_
    refine V_get (j := 8) (v := vI (SI σ h0 8)) 61 rfl ck_World (by decide) (by decide) (show decode M_World_walkOn.2.1 58 = .ok (.getfield 84, 3) by decide +kernel) wd_513 rfl ?_
    refine V_callVN (tb := tI) (as := [vI x3_2, vI (SI σ h0 8)]) (rest := [vI x4_4]) (na := 2) 64 rfl ck_Ground (by decide) (s_Ground_firstSnowFrom (SR σ h0 0) x3_2 (SI σ h0 8) (((((b && cK σ h0 11) && cK σ (SR σ h0 0) 2) && cK σ h0 11) && cK σ h0 11) && cK σ (SR σ h0 0) 2) σ) rfl rfl (Nat.le_of_ble_eq_true rfl) (cal_Ground_firstSnowFrom _ _ _ _ _ (by decide) (by decide) (by decide)) (show decode M_World_walkOn.2.1 61 = .ok (.invokevirtual 189, 3) by decide +kernel) wd_1157 wd_1159 wd_60 (fun r_5 b_5 σ_5 => ?_)
    show V M_World_walkOn 4 0 0 0 0 tU _ 64 [(4, vI x4_4), (0, vR h0), (1, vI x1), (2, vR h2_1), (3, vI x3_2)] [vI r_5, vI x4_4] b_5 σ_5
    refine V_min 67 rfl (show decode M_World_walkOn.2.1 64 = .ok (.invokestatic 184, 3) by decide +kernel) wd_1156 wd_880 wd_186 wd_minc (by decide) (Nat.le_of_ble_eq_true rfl) (by decide) (by decide) ?_
    refine V_istore (fun x4_6 => [(4, vI x4_6), (0, vR h0), (1, vI x1), (2, vR h2_1), (3, vI x3_2)]) 69 rfl (show decode M_World_walkOn.2.1 67 = .ok (.istore 4, 2) by decide +kernel) (by decide) (fun _ => rfl) (fun x4_6 => ?_)
    refine V_iload 71 rfl (show decode M_World_walkOn.2.1 69 = .ok (.iload 4, 2) by decide +kernel) 0 rfl ?_
    refine V_aload_n 72 rfl (show decode M_World_walkOn.2.1 71 = .ok (.aload_n 0, 1) by decide +kernel) 1 rfl ?_
    refine V_get (j := 0) (v := vR (SR σ_5 h0 0)) 75 rfl ck_World (by decide) (by decide) (show decode M_World_walkOn.2.1 72 = .ok (.getfield 10, 3) by decide +kernel) wd_497 rfl ?_
    refine V_iload_n 76 rfl (show decode M_World_walkOn.2.1 75 = .ok (.iload_n 3, 1) by decide +kernel) 4 rfl ?_
    refine V_aload_n 77 rfl (show decode M_World_walkOn.2.1 76 = .ok (.aload_n 0, 1) by decide +kernel) 1 rfl ?_
    refine V_get (j := 8) (v := vI (SI σ_5 h0 8)) 80 rfl ck_World (by decide) (by decide) (show decode M_World_walkOn.2.1 77 = .ok (.getfield 84, 3) by decide +kernel) wd_513 rfl ?_
    refine V_callVN (tb := tI) (as := [vI x3_2, vI (SI σ_5 h0 8)]) (rest := [vI x4_6]) (na := 2) 83 rfl ck_Ground (by decide) (s_Ground_firstFireFrom (SR σ_5 h0 0) x3_2 (SI σ_5 h0 8) (((b_5 && cK σ_5 h0 11) && cK σ_5 h0 11) && cK σ_5 (SR σ_5 h0 0) 2) σ_5) rfl rfl (Nat.le_of_ble_eq_true rfl) (cal_Ground_firstFireFrom _ _ _ _ _ (by decide) (by decide) (by decide)) (show decode M_World_walkOn.2.1 80 = .ok (.invokevirtual 192, 3) by decide +kernel) wd_1162 wd_1164 wd_61 (fun r_7 b_7 σ_7 => ?_)
    show V M_World_walkOn 4 0 0 0 0 tU _ 83 [(4, vI x4_6), (0, vR h0), (1, vI x1), (2, vR h2_1), (3, vI x3_2)] [vI r_7, vI x4_6] b_7 σ_7
    refine V_min 86 rfl (show decode M_World_walkOn.2.1 83 = .ok (.invokestatic 184, 3) by decide +kernel) wd_1156 wd_880 wd_186 wd_minc (by decide) (Nat.le_of_ble_eq_true rfl) (by decide) (by decide) ?_
    refine V_istore (fun x4_8 => [(4, vI x4_8), (0, vR h0), (1, vI x1), (2, vR h2_1), (3, vI x3_2)]) 88 rfl (show decode M_World_walkOn.2.1 86 = .ok (.istore 4, 2) by decide +kernel) (by decide) (fun _ => rfl) (fun x4_8 => ?_)
    refine V_iload 90 rfl (show decode M_World_walkOn.2.1 88 = .ok (.iload 4, 2) by decide +kernel) 0 rfl ?_
    refine V_aload_n 91 rfl (show decode M_World_walkOn.2.1 90 = .ok (.aload_n 0, 1) by decide +kernel) 1 rfl ?_
    refine V_get (j := 2) (v := vR (SR σ_7 h0 2)) 94 rfl ck_World (by decide) (by decide) (show decode M_World_walkOn.2.1 91 = .ok (.getfield 26, 3) by decide +kernel) wd_501 rfl ?_
    refine V_iload_n 95 rfl (show decode M_World_walkOn.2.1 94 = .ok (.iload_n 1, 1) by decide +kernel) 2 rfl ?_
    refine V_iload_n 96 rfl (show decode M_World_walkOn.2.1 95 = .ok (.iload_n 3, 1) by decide +kernel) 4 rfl ?_
    refine V_aload_n 97 rfl (show decode M_World_walkOn.2.1 96 = .ok (.aload_n 0, 1) by decide +kernel) 1 rfl ?_
    refine V_get (j := 0) (v := vR (SR σ_7 h0 0)) 100 rfl ck_World (by decide) (by decide) (show decode M_World_walkOn.2.1 97 = .ok (.getfield 10, 3) by decide +kernel) wd_497 rfl ?_
    refine V_callVN (tb := tI) (as := [vI x1, vI x3_2, vR (SR σ_7 h0 0)]) (rest := [vI x4_8]) (na := 3) 103 rfl ck_Post (by decide) (s_Post_firstTownBeyond (SR σ_7 h0 2) x1 x3_2 (SR σ_7 h0 0) (((b_7 && cK σ_7 h0 11) && cK σ_7 h0 11) && cK σ_7 (SR σ_7 h0 2) 5) σ_7) rfl rfl (Nat.le_of_ble_eq_true rfl) (cal_Post_firstTownBeyond _ _ _ _ _ (by decide) (by decide) (by decide)) (show decode M_World_walkOn.2.1 100 = .ok (.invokevirtual 195, 3) by decide +kernel) wd_1166 wd_1168 wd_62 (fun r_9 b_9 σ_9 => ?_)
    show V M_World_walkOn 4 0 0 0 0 tU _ 103 [(4, vI x4_8), (0, vR h0), (1, vI x1), (2, vR h2_1), (3, vI x3_2)] [vI r_9, vI x4_8] b_9 σ_9
    refine V_min 106 rfl (show decode M_World_walkOn.2.1 103 = .ok (.invokestatic 184, 3) by decide +kernel) wd_1156 wd_880 wd_186 wd_minc (by decide) (Nat.le_of_ble_eq_true rfl) (by decide) (by decide) ?_
    refine V_istore (fun x4_10 => [(4, vI x4_10), (0, vR h0), (1, vI x1), (2, vR h2_1), (3, vI x3_2)]) 108 rfl (show decode M_World_walkOn.2.1 106 = .ok (.istore 4, 2) by decide +kernel) (by decide) (fun _ => rfl) (fun x4_10 => ?_)
    refine V_aload_n 109 rfl (show decode M_World_walkOn.2.1 108 = .ok (.aload_n 2, 1) by decide +kernel) 3 rfl ?_
    refine V_iload 111 rfl (show decode M_World_walkOn.2.1 109 = .ok (.iload 4, 2) by decide +kernel) 0 rfl ?_
    refine V_aload_n 112 rfl (show decode M_World_walkOn.2.1 111 = .ok (.aload_n 0, 1) by decide +kernel) 1 rfl ?_
    refine V_get (j := 0) (v := vR (SR σ_9 h0 0)) 115 rfl ck_World (by decide) (by decide) (show decode M_World_walkOn.2.1 112 = .ok (.getfield 10, 3) by decide +kernel) wd_497 rfl ?_
    refine V_iload_n 116 rfl (show decode M_World_walkOn.2.1 115 = .ok (.iload_n 3, 1) by decide +kernel) 4 rfl ?_
    refine V_iload 118 rfl (show decode M_World_walkOn.2.1 116 = .ok (.iload 4, 2) by decide +kernel) 0 rfl ?_
    refine V_callVN (tb := tI) (as := [vI x3_2, vI x4_10]) (rest := [vI x4_10, vR h2_1]) (na := 2) 121 rfl ck_Ground (by decide) (s_Ground_lastWater (SR σ_9 h0 0) x3_2 x4_10 ((b_9 && cK σ_9 h0 11) && cK σ_9 (SR σ_9 h0 0) 2) σ_9) rfl rfl (Nat.le_of_ble_eq_true rfl) (cal_Ground_lastWater _ _ _ _ _ (by decide) (by decide) (by decide)) (show decode M_World_walkOn.2.1 118 = .ok (.invokevirtual 199, 3) by decide +kernel) wd_1171 wd_1173 wd_63 (fun r_11 b_11 σ_11 => ?_)
    show V M_World_walkOn 4 0 0 0 0 tU _ 121 [(4, vI x4_10), (0, vR h0), (1, vI x1), (2, vR h2_1), (3, vI x3_2)] [vI r_11, vI x4_10, vR h2_1] b_11 σ_11
    refine V_callVN (tb := tU) (as := [vI x4_10, vI r_11]) (rest := []) (na := 2) 124 rfl ck_Walker (by decide) (s_Walker_walkTo h2_1 x4_10 r_11 (b_11 && cK σ_11 h2_1 10) σ_11) rfl rfl (Nat.le_of_ble_eq_true rfl) (cal_Walker_walkTo _ _ _ _ _ (by decide) (by decide) (by decide)) (show decode M_World_walkOn.2.1 121 = .ok (.invokevirtual 202, 3) by decide +kernel) wd_1175 wd_1177 wd_64 (fun r_12 b_12 σ_12 => ?_)
    show V M_World_walkOn 4 0 0 0 0 tU _ 124 [(4, vI x4_10), (0, vR h0), (1, vI x1), (2, vR h2_1), (3, vI x3_2)] [] b_12 σ_12
    exact V_vret rfl (by decide) (by decide) (show decode M_World_walkOn.2.1 124 = .ok (.return_, 1) by decide +kernel)
  · skip
    refine V_ifle 20 27 rfl (show decode M_World_walkOn.2.1 17 = .ok (.ifCond .le 10, 3) by decide +kernel) rfl ?_ ?_
    · skip
      refine V_aload_n 21 rfl (show decode M_World_walkOn.2.1 20 = .ok (.aload_n 2, 1) by decide +kernel) 1 rfl ?_
      refine V_getN (j := 1) (v := vI (SI σ h2_1 1)) 24 rfl ck_Walker (by decide) (by decide) (show decode M_World_walkOn.2.1 21 = .ok (.getfield 178, 3) by decide +kernel) wd_426 rfl ?_
      refine V_goto 33 (show decode M_World_walkOn.2.1 24 = .ok (.goto 9, 3) by decide +kernel) rfl ?_
      exact V_sub [2, 3, 1, 0] rfl (hJ33 (SI σ h2_1 1) x3_2 (((((b && cK σ h0 11) && cA σ (SR σ h0 6) 26 x1) && cK σ h2_1 10) && cK σ h2_1 10) && cK σ h2_1 10) σ)
    · skip
      refine V_aload_n 28 rfl (show decode M_World_walkOn.2.1 27 = .ok (.aload_n 2, 1) by decide +kernel) 1 rfl ?_
      refine V_getN (j := 1) (v := vI (SI σ h2_1 1)) 31 rfl ck_Walker (by decide) (by decide) (show decode M_World_walkOn.2.1 28 = .ok (.getfield 178, 3) by decide +kernel) wd_426 rfl ?_
      refine V_iconst 32 rfl (show decode M_World_walkOn.2.1 31 = .ok (.iconst 2, 1) by decide +kernel) (v := 2) rfl ?_
      refine V_idiv 33 rfl (show decode M_World_walkOn.2.1 32 = .ok (.idiv, 1) by decide +kernel) ?_
      exact V_sub [2, 3, 1, 0] rfl (hJ33 ((SI σ h2_1 1) / (2 : Int32)) x3_2 ((((((b && cK σ h0 11) && cA σ (SR σ h0 6) 26 x1) && cK σ h2_1 10) && cK σ h2_1 10) && cK σ h2_1 10) && !decide ((2 : Int32) = 0)) σ)
theorem cal_World_walkOn (d mc ms k n : Nat) (h1 : 4 + 1 ≤ d) (h2 : k + 0 ≤ mc) (h3 : n + 0 ≤ ms) : Cal M_World_walkOn 4 0 0 1 d mc ms k n := ⟨wd_1155, wd_171, by decide, h1, by decide, h2, h3⟩
abbrev M_World_spendDay : MD := (⟨"LongTrail$World", "spendDay", "(I)V"⟩, prog_12_method_10_code, 3, (none : Option FieldType))
def f_World_spendDay (h0 : Nat) (x1 : Int32) (b : Bool) (σ : Sto) : Rs Unit := (lt_ (SR σ (SR σ h0 6) (ix x1)) (fun (h2_1 : Nat) => (if 0 < (SI σ h2_1 13) then (lt_ (pI σ h2_1 13 ((SI σ h2_1 13) - (1 : Int32))) (fun (σ_2 : Sto) => ((), (((((b && cK σ h0 11) && cA σ (SR σ h0 6) 26 x1) && cK σ h2_1 10) && cK σ h2_1 10) && cK σ h2_1 10), σ_2))) else (bd_ (f_World_staysForBoxes h0 x1 ((((b && cK σ h0 11) && cA σ (SR σ h0 6) 26 x1) && cK σ h2_1 10) && cK σ h0 11) σ) (fun (r_3 : Int32) (b_3 : Bool) (σ_3 : Sto) => (if r_3 = 0 then (lt_ (pI σ_3 h2_1 14 (0 : Int32)) (fun (σ_4 : Sto) => (bd_ (f_World_skipsFire h0 h2_1 ((b_3 && cK σ_3 h2_1 10) && cK σ_4 h0 11) σ_4) (fun (r_5 : Int32) (b_5 : Bool) (σ_5 : Sto) => (lt_ (fun (b : Bool) (σ : Sto) => (bd_ (f_Walker_endWalk h2_1 (b && cK σ h2_1 10) σ) (fun (r_6 : Unit) (b_6 : Bool) (σ_6 : Sto) => (bd_ (f_World_endIfDue h0 x1 (b_6 && cK σ_6 h0 11) σ_6) (fun (r_7 : Unit) (b_7 : Bool) (σ_7 : Sto) => ((), b_7, σ_7)))))) (fun J52 => (if r_5 = 0 then (bd_ (f_World_walkOn h0 x1 (b_5 && cK σ_5 h0 11) σ_5) (fun (r_8 : Unit) (b_8 : Bool) (σ_8 : Sto) => (J52 b_8 σ_8))) else (J52 b_5 σ_5)))))))) else ((), b_3, σ_3)))))))
set_option maxRecDepth 100000 in
set_option maxHeartbeats 4000000 in
theorem s_World_spendDay : ∀ (h0 : Nat) (x1 : Int32) (b : Bool) (σ : Sto), Snd M_World_spendDay 5 0 0 [vR h0, vI x1] b σ (tU (f_World_spendDay h0 x1 b σ).1) (f_World_spendDay h0 x1 b σ).2.1 (f_World_spendDay h0 x1 b σ).2.2 := by
  intro h0 x1 b σ
  refine Snd_of (tv := tU) (by decide) (Nat.le_of_ble_eq_true rfl) ?_
  show V M_World_spendDay 5 0 0 0 0 tU (f_World_spendDay h0 x1 b σ) 0 [(0, vR h0), (1, vI x1)] [] b σ
  unfold f_World_spendDay
  refine V_aload_n 1 rfl (show decode M_World_spendDay.2.1 0 = .ok (.aload_n 0, 1) by decide +kernel) 0 rfl ?_
  refine V_get (j := 6) (v := vR (SR σ h0 6)) 4 rfl ck_World (by decide) (by decide) (show decode M_World_spendDay.2.1 1 = .ok (.getfield 53, 3) by decide +kernel) wd_509 rfl ?_
  refine V_iload_n 5 rfl (show decode M_World_spendDay.2.1 4 = .ok (.iload_n 1, 1) by decide +kernel) 1 rfl ?_
  refine V_ald_r26 6 rfl (show decode M_World_spendDay.2.1 5 = .ok (.aaload, 1) by decide +kernel) ?_
  refine V_astore_n (fun h2_1 => [(2, vR h2_1), (0, vR h0), (1, vI x1)]) 7 rfl (show decode M_World_spendDay.2.1 6 = .ok (.astore_n 2, 1) by decide +kernel) (by decide) (fun _ => rfl) (fun h2_1 => ?_)
  refine V_aload_n 8 rfl (show decode M_World_spendDay.2.1 7 = .ok (.aload_n 2, 1) by decide +kernel) 0 rfl ?_
  refine V_getN (j := 13) (v := vI (SI σ h2_1 13)) 11 rfl ck_Walker (by decide) (by decide) (show decode M_World_spendDay.2.1 8 = .ok (.getfield 117, 3) by decide +kernel) wd_450 rfl ?_
  refine V_ifle 14 25 rfl (show decode M_World_spendDay.2.1 11 = .ok (.ifCond .le 14, 3) by decide +kernel) rfl ?_ ?_
  · skip
    refine V_aload_n 15 rfl (show decode M_World_spendDay.2.1 14 = .ok (.aload_n 2, 1) by decide +kernel) 0 rfl ?_
    refine V_dup 16 rfl (show decode M_World_spendDay.2.1 15 = .ok (.dup, 1) by decide +kernel) rfl ?_
    refine V_getN (j := 13) (v := vI (SI σ h2_1 13)) 19 rfl ck_Walker (by decide) (by decide) (show decode M_World_spendDay.2.1 16 = .ok (.getfield 117, 3) by decide +kernel) wd_450 rfl ?_
    refine V_iconst 20 rfl (show decode M_World_spendDay.2.1 19 = .ok (.iconst 1, 1) by decide +kernel) (v := 1) rfl ?_
    refine V_isub 21 rfl (show decode M_World_spendDay.2.1 20 = .ok (.isub, 1) by decide +kernel) ?_
    refine V_putIN (j := 13) 24 rfl ck_Walker (by decide) (by decide) (show decode M_World_spendDay.2.1 21 = .ok (.putfield 117, 3) by decide +kernel) wd_450 rfl (fun _ => rfl) rfl rfl (fun σ_2 => ?_)
    exact V_vret rfl (by decide) (by decide) (show decode M_World_spendDay.2.1 24 = .ok (.return_, 1) by decide +kernel)
  · skip
    refine V_aload_n 26 rfl (show decode M_World_spendDay.2.1 25 = .ok (.aload_n 0, 1) by decide +kernel) 1 rfl ?_
    refine V_iload_n 27 rfl (show decode M_World_spendDay.2.1 26 = .ok (.iload_n 1, 1) by decide +kernel) 2 rfl ?_
    refine V_callV (tb := tI) (as := [vI x1]) (rest := []) (na := 1) 30 rfl ck_World (by decide) (s_World_staysForBoxes h0 x1 ((((b && cK σ h0 11) && cA σ (SR σ h0 6) 26 x1) && cK σ h2_1 10) && cK σ h0 11) σ) rfl rfl (Nat.le_of_ble_eq_true rfl) (cal_World_staysForBoxes _ _ _ _ _ (by decide) (by decide) (by decide)) (show decode M_World_spendDay.2.1 27 = .ok (.invokevirtual 120, 3) by decide +kernel) wd_1095 wd_1097 wd_47 (fun r_3 b_3 σ_3 => ?_)
    show V M_World_spendDay 5 0 0 0 0 tU _ 30 [(2, vR h2_1), (0, vR h0), (1, vI x1)] [vI r_3] b_3 σ_3
    refine V_ifeq 33 34 rfl (show decode M_World_spendDay.2.1 30 = .ok (.ifCond .eq 4, 3) by decide +kernel) rfl ?_ ?_
    · skip
      refine V_aload_n 35 rfl (show decode M_World_spendDay.2.1 34 = .ok (.aload_n 2, 1) by decide +kernel) 0 rfl ?_
      refine V_iconst 36 rfl (show decode M_World_spendDay.2.1 35 = .ok (.iconst 0, 1) by decide +kernel) (v := 0) rfl ?_
      refine V_putIN (j := 14) 39 rfl ck_Walker (by decide) (by decide) (show decode M_World_spendDay.2.1 36 = .ok (.putfield 124, 3) by decide +kernel) wd_453 rfl (fun _ => rfl) rfl rfl (fun σ_4 => ?_)
      refine V_aload_n 40 rfl (show decode M_World_spendDay.2.1 39 = .ok (.aload_n 0, 1) by decide +kernel) 1 rfl ?_
      refine V_aload_n 41 rfl (show decode M_World_spendDay.2.1 40 = .ok (.aload_n 2, 1) by decide +kernel) 0 rfl ?_
      refine V_callV (tb := tI) (as := [vR h2_1]) (rest := []) (na := 1) 44 rfl ck_World (by decide) (s_World_skipsFire h0 h2_1 ((b_3 && cK σ_3 h2_1 10) && cK σ_4 h0 11) σ_4) rfl rfl (Nat.le_of_ble_eq_true rfl) (cal_World_skipsFire _ _ _ _ _ (by decide) (by decide) (by decide)) (show decode M_World_spendDay.2.1 41 = .ok (.invokevirtual 127, 3) by decide +kernel) wd_1117 wd_1119 wd_52 (fun r_5 b_5 σ_5 => ?_)
      show V M_World_spendDay 5 0 0 0 0 tU _ 44 [(2, vR h2_1), (0, vR h0), (1, vI x1)] [vI r_5] b_5 σ_5
      refine V_jn (fun (J52 : Bool → Sto → Rs Unit) => ∀ (b : Bool) (σ : Sto), V M_World_spendDay 5 0 0 0 0 tU (J52 b σ) 52 [(0, vR h0), (1, vI x1), (2, vR h2_1)] [] b σ) ?_ (fun J52 hJ52 => ?_)
      · intro b σ
        refine V_aload_n 53 rfl (show decode M_World_spendDay.2.1 52 = .ok (.aload_n 2, 1) by decide +kernel) 2 rfl ?_
        refine V_callVN (tb := tU) (as := []) (rest := []) (na := 0) 56 rfl ck_Walker (by decide) (s_Walker_endWalk h2_1 (b && cK σ h2_1 10) σ) rfl rfl (Nat.le_of_ble_eq_true rfl) (cal_Walker_endWalk _ _ _ _ _ (by decide) (by decide) (by decide)) (show decode M_World_spendDay.2.1 53 = .ok (.invokevirtual 134, 3) by decide +kernel) wd_1179 wd_1181 wd_65 (fun r_6 b_6 σ_6 => ?_)
        show V M_World_spendDay 5 0 0 0 0 tU _ 56 [(0, vR h0), (1, vI x1), (2, vR h2_1)] [] b_6 σ_6
        refine V_aload_n 57 rfl (show decode M_World_spendDay.2.1 56 = .ok (.aload_n 0, 1) by decide +kernel) 0 rfl ?_
        refine V_iload_n 58 rfl (show decode M_World_spendDay.2.1 57 = .ok (.iload_n 1, 1) by decide +kernel) 1 rfl ?_
        refine V_callV (tb := tU) (as := [vI x1]) (rest := []) (na := 1) 61 rfl ck_World (by decide) (s_World_endIfDue h0 x1 (b_6 && cK σ_6 h0 11) σ_6) rfl rfl (Nat.le_of_ble_eq_true rfl) (cal_World_endIfDue _ _ _ _ _ (by decide) (by decide) (by decide)) (show decode M_World_spendDay.2.1 58 = .ok (.invokevirtual 137, 3) by decide +kernel) wd_1184 wd_1186 wd_66 (fun r_7 b_7 σ_7 => ?_)
        show V M_World_spendDay 5 0 0 0 0 tU _ 61 [(0, vR h0), (1, vI x1), (2, vR h2_1)] [] b_7 σ_7
        exact V_vret rfl (by decide) (by decide) (show decode M_World_spendDay.2.1 61 = .ok (.return_, 1) by decide +kernel)
      · skip
        refine V_ifne 47 52 rfl (show decode M_World_spendDay.2.1 44 = .ok (.ifCond .ne 8, 3) by decide +kernel) rfl ?_ ?_
        · skip
          refine V_aload_n 48 rfl (show decode M_World_spendDay.2.1 47 = .ok (.aload_n 0, 1) by decide +kernel) 1 rfl ?_
          refine V_iload_n 49 rfl (show decode M_World_spendDay.2.1 48 = .ok (.iload_n 1, 1) by decide +kernel) 2 rfl ?_
          refine V_callV (tb := tU) (as := [vI x1]) (rest := []) (na := 1) 52 rfl ck_World (by decide) (s_World_walkOn h0 x1 (b_5 && cK σ_5 h0 11) σ_5) rfl rfl (Nat.le_of_ble_eq_true rfl) (cal_World_walkOn _ _ _ _ _ (by decide) (by decide) (by decide)) (show decode M_World_spendDay.2.1 49 = .ok (.invokevirtual 131, 3) by decide +kernel) wd_1152 wd_1154 wd_59 (fun r_8 b_8 σ_8 => ?_)
          show V M_World_spendDay 5 0 0 0 0 tU _ 52 [(2, vR h2_1), (0, vR h0), (1, vI x1)] [] b_8 σ_8
          exact V_sub [1, 2, 0] rfl (hJ52 b_8 σ_8)
        · skip
          exact V_sub [1, 2, 0] rfl (hJ52 b_5 σ_5)
    · skip
      exact V_vret rfl (by decide) (by decide) (show decode M_World_spendDay.2.1 33 = .ok (.return_, 1) by decide +kernel)
theorem cal_World_spendDay (d mc ms k n : Nat) (h1 : 5 + 1 ≤ d) (h2 : k + 0 ≤ mc) (h3 : n + 0 ≤ ms) : Cal M_World_spendDay 5 0 0 1 d mc ms k n := ⟨wd_1094, wd_171, by decide, h1, by decide, h2, h3⟩
abbrev M_World_passDay : MD := (⟨"LongTrail$World", "passDay", "()I"⟩, prog_12_method_9_code, 2, (some FieldType.int))
def b_World_passDay_31 (h0 : Nat) (L31 : Int32 → Bool → Sto → Rs Int32) (x1 : Int32) (b : Bool) (σ : Sto) : Rs Int32 := (if x1 < (SI σ h0 7) then (lt_ (fun (b : Bool) (σ : Sto) => (lt_ (x1 + (1 : Int32)) (fun (x1_5 : Int32) => (L31 x1_5 b σ)))) (fun J57 => (if (SI σ (SR σ (SR σ h0 6) (ix x1)) 5) = (1 : Int32) then (bd_ (f_World_spendDay h0 x1 (((((b && cK σ h0 11) && cK σ h0 11) && cA σ (SR σ h0 6) 26 x1) && cK σ (SR σ (SR σ h0 6) (ix x1)) 10) && cK σ h0 11) σ) (fun (r_6 : Unit) (b_6 : Bool) (σ_6 : Sto) => (J57 b_6 σ_6))) else (J57 ((((b && cK σ h0 11) && cK σ h0 11) && cA σ (SR σ h0 6) 26 x1) && cK σ (SR σ (SR σ h0 6) (ix x1)) 10) σ)))) else (bd_ (f_World_sleepAll h0 ((b && cK σ h0 11) && cK σ h0 11) σ) (fun (r_7 : Int32) (b_7 : Bool) (σ_7 : Sto) => (lt_ r_7 (fun (x1_8 : Int32) => (lt_ (pI σ_7 h0 8 ((SI σ_7 h0 8) + (1 : Int32))) (fun (σ_9 : Sto) => (x1_8, ((b_7 && cK σ_7 h0 11) && cK σ_7 h0 11), σ_9))))))))
def b_World_passDay_2 (h0 : Nat) (L2 : Int32 → Bool → Sto → Rs Int32) (x1 : Int32) (b : Bool) (σ : Sto) : Rs Int32 := (if x1 < (SI σ h0 7) then (bd_ (f_Walker_setOutOn (SR σ (SR σ h0 6) (ix x1)) (SI σ h0 8) (((((b && cK σ h0 11) && cK σ h0 11) && cA σ (SR σ h0 6) 26 x1) && cK σ h0 11) && cK σ (SR σ (SR σ h0 6) (ix x1)) 10) σ) (fun (r_2 : Unit) (b_2 : Bool) (σ_2 : Sto) => (lt_ (x1 + (1 : Int32)) (fun (x1_3 : Int32) => (L2 x1_3 b_2 σ_2))))) else (lt_ (0 : Int32) (fun (x1_4 : Int32) => (lp_ (b_World_passDay_31 h0) (fun (x1 : Int32) (b : Bool) (σ : Sto) => (0, false, σ)) fuel_ x1_4 (b && cK σ h0 11) σ))))
def f_World_passDay (h0 : Nat) (b : Bool) (σ : Sto) : Rs Int32 := (lt_ (0 : Int32) (fun (x1_1 : Int32) => (lp_ (b_World_passDay_2 h0) (fun (x1 : Int32) (b : Bool) (σ : Sto) => (0, false, σ)) fuel_ x1_1 b σ)))
set_option maxRecDepth 100000 in
set_option maxHeartbeats 4000000 in
theorem s_World_passDay : ∀ (h0 : Nat) (b : Bool) (σ : Sto), Snd M_World_passDay 6 0 0 [vR h0] b σ (tI (f_World_passDay h0 b σ).1) (f_World_passDay h0 b σ).2.1 (f_World_passDay h0 b σ).2.2 := by
  intro h0 b σ
  refine Snd_of (tv := tI) (by decide) (Nat.le_of_ble_eq_true rfl) ?_
  show V M_World_passDay 6 0 0 0 0 tI (f_World_passDay h0 b σ) 0 [(0, vR h0)] [] b σ
  unfold f_World_passDay
  refine V_iconst 1 rfl (show decode M_World_passDay.2.1 0 = .ok (.iconst 0, 1) by decide +kernel) (v := 0) rfl ?_
  refine V_istore_n (fun x1_1 => [(1, vI x1_1), (0, vR h0)]) 2 rfl (show decode M_World_passDay.2.1 1 = .ok (.istore_n 1, 1) by decide +kernel) (by decide) (fun _ => rfl) (fun x1_1 => ?_)
  refine V_sub [1, 0] rfl ?_
  refine lp_P (fun (L2 : Int32 → Bool → Sto → Rs Int32) => ∀ (x1 : Int32) (b : Bool) (σ : Sto), V M_World_passDay 6 0 0 0 0 tI (L2 x1 b σ) 2 [(0, vR h0), (1, vI x1)] [] b σ) ?_ ?_ fuel_ x1_1 b σ
  · intro x1 b σ; exact V_bad
  · intro L2 hL2 x1 b σ
    unfold b_World_passDay_2
    refine V_iload_n 3 rfl (show decode M_World_passDay.2.1 2 = .ok (.iload_n 1, 1) by decide +kernel) 1 rfl ?_
    refine V_aload_n 4 rfl (show decode M_World_passDay.2.1 3 = .ok (.aload_n 0, 1) by decide +kernel) 0 rfl ?_
    refine V_get (j := 7) (v := vI (SI σ h0 7)) 7 rfl ck_World (by decide) (by decide) (show decode M_World_passDay.2.1 4 = .ok (.getfield 77, 3) by decide +kernel) wd_512 rfl ?_
    refine V_icmpge 10 29 rfl (show decode M_World_passDay.2.1 7 = .ok (.if_icmp .ge 22, 3) by decide +kernel) rfl ?_ ?_
    · skip
      refine V_aload_n 11 rfl (show decode M_World_passDay.2.1 10 = .ok (.aload_n 0, 1) by decide +kernel) 0 rfl ?_
      refine V_get (j := 6) (v := vR (SR σ h0 6)) 14 rfl ck_World (by decide) (by decide) (show decode M_World_passDay.2.1 11 = .ok (.getfield 53, 3) by decide +kernel) wd_509 rfl ?_
      refine V_iload_n 15 rfl (show decode M_World_passDay.2.1 14 = .ok (.iload_n 1, 1) by decide +kernel) 1 rfl ?_
      refine V_ald_r26 16 rfl (show decode M_World_passDay.2.1 15 = .ok (.aaload, 1) by decide +kernel) ?_
      refine V_aload_n 17 rfl (show decode M_World_passDay.2.1 16 = .ok (.aload_n 0, 1) by decide +kernel) 0 rfl ?_
      refine V_get (j := 8) (v := vI (SI σ h0 8)) 20 rfl ck_World (by decide) (by decide) (show decode M_World_passDay.2.1 17 = .ok (.getfield 84, 3) by decide +kernel) wd_513 rfl ?_
      refine V_callVN (tb := tU) (as := [vI (SI σ h0 8)]) (rest := []) (na := 1) 23 rfl ck_Walker (by decide) (s_Walker_setOutOn (SR σ (SR σ h0 6) (ix x1)) (SI σ h0 8) (((((b && cK σ h0 11) && cK σ h0 11) && cA σ (SR σ h0 6) 26 x1) && cK σ h0 11) && cK σ (SR σ (SR σ h0 6) (ix x1)) 10) σ) rfl rfl (Nat.le_of_ble_eq_true rfl) (cal_Walker_setOutOn _ _ _ _ _ (by decide) (by decide) (by decide)) (show decode M_World_passDay.2.1 20 = .ok (.invokevirtual 106, 3) by decide +kernel) wd_1087 wd_1089 wd_45 (fun r_2 b_2 σ_2 => ?_)
      show V M_World_passDay 6 0 0 0 0 tI _ 23 [(0, vR h0), (1, vI x1)] [] b_2 σ_2
      refine V_iinc (fun x1_3 => [(1, vI x1_3), (0, vR h0)]) 26 rfl (show decode M_World_passDay.2.1 23 = .ok (.iinc 1 1, 3) by decide +kernel) 1 rfl (w := 1) rfl (by decide) (fun _ => rfl) (fun x1_3 => ?_)
      refine V_goto 2 (show decode M_World_passDay.2.1 26 = .ok (.goto (-24), 3) by decide +kernel) rfl ?_
      exact V_sub [1, 0] rfl (hL2 x1_3 b_2 σ_2)
    · skip
      refine V_iconst 30 rfl (show decode M_World_passDay.2.1 29 = .ok (.iconst 0, 1) by decide +kernel) (v := 0) rfl ?_
      refine V_istore_n (fun x1_4 => [(1, vI x1_4), (0, vR h0)]) 31 rfl (show decode M_World_passDay.2.1 30 = .ok (.istore_n 1, 1) by decide +kernel) (by decide) (fun _ => rfl) (fun x1_4 => ?_)
      refine V_sub [1, 0] rfl ?_
      refine lp_P (fun (L31 : Int32 → Bool → Sto → Rs Int32) => ∀ (x1 : Int32) (b : Bool) (σ : Sto), V M_World_passDay 6 0 0 0 0 tI (L31 x1 b σ) 31 [(0, vR h0), (1, vI x1)] [] b σ) ?_ ?_ fuel_ x1_4 (b && cK σ h0 11) σ
      · intro x1 b σ; exact V_bad
      · intro L31 hL31 x1 b σ
        unfold b_World_passDay_31
        refine V_iload_n 32 rfl (show decode M_World_passDay.2.1 31 = .ok (.iload_n 1, 1) by decide +kernel) 1 rfl ?_
        refine V_aload_n 33 rfl (show decode M_World_passDay.2.1 32 = .ok (.aload_n 0, 1) by decide +kernel) 0 rfl ?_
        refine V_get (j := 7) (v := vI (SI σ h0 7)) 36 rfl ck_World (by decide) (by decide) (show decode M_World_passDay.2.1 33 = .ok (.getfield 77, 3) by decide +kernel) wd_512 rfl ?_
        refine V_icmpge 39 63 rfl (show decode M_World_passDay.2.1 36 = .ok (.if_icmp .ge 27, 3) by decide +kernel) rfl ?_ ?_
        · skip
          refine V_aload_n 40 rfl (show decode M_World_passDay.2.1 39 = .ok (.aload_n 0, 1) by decide +kernel) 0 rfl ?_
          refine V_get (j := 6) (v := vR (SR σ h0 6)) 43 rfl ck_World (by decide) (by decide) (show decode M_World_passDay.2.1 40 = .ok (.getfield 53, 3) by decide +kernel) wd_509 rfl ?_
          refine V_iload_n 44 rfl (show decode M_World_passDay.2.1 43 = .ok (.iload_n 1, 1) by decide +kernel) 1 rfl ?_
          refine V_ald_r26 45 rfl (show decode M_World_passDay.2.1 44 = .ok (.aaload, 1) by decide +kernel) ?_
          refine V_getN (j := 5) (v := vI (SI σ (SR σ (SR σ h0 6) (ix x1)) 5)) 48 rfl ck_Walker (by decide) (by decide) (show decode M_World_passDay.2.1 45 = .ok (.getfield 93, 3) by decide +kernel) wd_431 rfl ?_
          refine V_iconst 49 rfl (show decode M_World_passDay.2.1 48 = .ok (.iconst 1, 1) by decide +kernel) (v := 1) rfl ?_
          refine V_jn (fun (J57 : Bool → Sto → Rs Int32) => ∀ (b : Bool) (σ : Sto), V M_World_passDay 6 0 0 0 0 tI (J57 b σ) 57 [(0, vR h0), (1, vI x1)] [] b σ) ?_ (fun J57 hJ57 => ?_)
          · intro b σ
            refine V_iinc (fun x1_5 => [(1, vI x1_5), (0, vR h0)]) 60 rfl (show decode M_World_passDay.2.1 57 = .ok (.iinc 1 1, 3) by decide +kernel) 1 rfl (w := 1) rfl (by decide) (fun _ => rfl) (fun x1_5 => ?_)
            refine V_goto 31 (show decode M_World_passDay.2.1 60 = .ok (.goto (-29), 3) by decide +kernel) rfl ?_
            exact V_sub [1, 0] rfl (hL31 x1_5 b σ)
          · skip
            refine V_icmpne 52 57 rfl (show decode M_World_passDay.2.1 49 = .ok (.if_icmp .ne 8, 3) by decide +kernel) rfl ?_ ?_
            · skip
              refine V_aload_n 53 rfl (show decode M_World_passDay.2.1 52 = .ok (.aload_n 0, 1) by decide +kernel) 0 rfl ?_
              refine V_iload_n 54 rfl (show decode M_World_passDay.2.1 53 = .ok (.iload_n 1, 1) by decide +kernel) 1 rfl ?_
              refine V_callV (tb := tU) (as := [vI x1]) (rest := []) (na := 1) 57 rfl ck_World (by decide) (s_World_spendDay h0 x1 (((((b && cK σ h0 11) && cK σ h0 11) && cA σ (SR σ h0 6) 26 x1) && cK σ (SR σ (SR σ h0 6) (ix x1)) 10) && cK σ h0 11) σ) rfl rfl (Nat.le_of_ble_eq_true rfl) (cal_World_spendDay _ _ _ _ _ (by decide) (by decide) (by decide)) (show decode M_World_passDay.2.1 54 = .ok (.invokevirtual 110, 3) by decide +kernel) wd_1091 wd_1093 wd_46 (fun r_6 b_6 σ_6 => ?_)
              show V M_World_passDay 6 0 0 0 0 tI _ 57 [(0, vR h0), (1, vI x1)] [] b_6 σ_6
              exact V_sub [0, 1] rfl (hJ57 b_6 σ_6)
            · skip
              exact V_sub [0, 1] rfl (hJ57 ((((b && cK σ h0 11) && cK σ h0 11) && cA σ (SR σ h0 6) 26 x1) && cK σ (SR σ (SR σ h0 6) (ix x1)) 10) σ)
        · skip
          refine V_aload_n 64 rfl (show decode M_World_passDay.2.1 63 = .ok (.aload_n 0, 1) by decide +kernel) 0 rfl ?_
          refine V_callV (tb := tI) (as := []) (rest := []) (na := 0) 67 rfl ck_World (by decide) (s_World_sleepAll h0 ((b && cK σ h0 11) && cK σ h0 11) σ) rfl rfl (Nat.le_of_ble_eq_true rfl) (cal_World_sleepAll _ _ _ _ _ (by decide) (by decide) (by decide)) (show decode M_World_passDay.2.1 64 = .ok (.invokevirtual 113, 3) by decide +kernel) wd_1198 wd_1200 wd_69 (fun r_7 b_7 σ_7 => ?_)
          show V M_World_passDay 6 0 0 0 0 tI _ 67 [(0, vR h0), (1, vI x1)] [vI r_7] b_7 σ_7
          refine V_istore_n (fun x1_8 => [(1, vI x1_8), (0, vR h0)]) 68 rfl (show decode M_World_passDay.2.1 67 = .ok (.istore_n 1, 1) by decide +kernel) (by decide) (fun _ => rfl) (fun x1_8 => ?_)
          refine V_aload_n 69 rfl (show decode M_World_passDay.2.1 68 = .ok (.aload_n 0, 1) by decide +kernel) 1 rfl ?_
          refine V_dup 70 rfl (show decode M_World_passDay.2.1 69 = .ok (.dup, 1) by decide +kernel) rfl ?_
          refine V_get (j := 8) (v := vI (SI σ_7 h0 8)) 73 rfl ck_World (by decide) (by decide) (show decode M_World_passDay.2.1 70 = .ok (.getfield 84, 3) by decide +kernel) wd_513 rfl ?_
          refine V_iconst 74 rfl (show decode M_World_passDay.2.1 73 = .ok (.iconst 1, 1) by decide +kernel) (v := 1) rfl ?_
          refine V_iadd 75 rfl (show decode M_World_passDay.2.1 74 = .ok (.iadd, 1) by decide +kernel) ?_
          refine V_putI (j := 8) 78 rfl ck_World (by decide) (by decide) (show decode M_World_passDay.2.1 75 = .ok (.putfield 84, 3) by decide +kernel) wd_513 rfl (fun _ => rfl) rfl rfl (fun σ_9 => ?_)
          refine V_iload_n 79 rfl (show decode M_World_passDay.2.1 78 = .ok (.iload_n 1, 1) by decide +kernel) 0 rfl ?_
          exact V_iret rfl (by decide) (by decide) (show decode M_World_passDay.2.1 79 = .ok (.ireturn, 1) by decide +kernel)
theorem cal_World_passDay (d mc ms k n : Nat) (h1 : 6 + 1 ≤ d) (h2 : k + 0 ≤ mc) (h3 : n + 0 ≤ ms) : Cal M_World_passDay 6 0 0 0 d mc ms k n := ⟨wd_1086, wd_171, by decide, h1, by decide, h2, h3⟩
abbrev M_Trail_check : MD := (⟨"LongTrail", "check", "(I)I"⟩, prog_1_method_43_code, 5, (some FieldType.int))
def b_Trail_check_46 (h0 : Nat) (x1 : Int32) (x2_1 : Int32) (L46 : Int32 → Bool → Sto → Rs Int32) (x3 : Int32) (b : Bool) (σ : Sto) : Rs Int32 := (if x3 < ((2 : Int32) * x1) then (lt_ (fun (b : Bool) (σ : Sto) => (lt_ (fun (s0_90 : Int32) (b : Bool) (σ : Sto) => (lt_ s0_90 (fun (x4_6 : Int32) => (lt_ (fun (b : Bool) (σ : Sto) => (((1 : Int32) + x3), b, σ)) (fun J108 => (if x3 < x2_1 then (if (SI σ (SR σ h0 5) (ix x3)) = x4_6 then (lt_ (x3 + (1 : Int32)) (fun (x3_7 : Int32) => (L46 x3_7 ((b && cK σ h0 12) && cA σ (SR σ h0 5) 21 x3) σ))) else (J108 ((b && cK σ h0 12) && cA σ (SR σ h0 5) 21 x3) σ)) else (J108 b σ))))))) (fun J90 => (if (x3 - x3 / (2 : Int32) * (2 : Int32)) = 0 then (bd_ (f_World_milesTogether (SR σ h0 2) (((b && !decide ((2 : Int32) = 0)) && cK σ h0 12) && cK σ (SR σ h0 2) 11) σ) (fun (r_8 : Int32) (b_8 : Bool) (σ_8 : Sto) => (J90 r_8 b_8 σ_8))) else (bd_ (f_World_foodTogether (SR σ h0 2) (((b && !decide ((2 : Int32) = 0)) && cK σ h0 12) && cK σ (SR σ h0 2) 11) σ) (fun (r_9 : Int32) (b_9 : Bool) (σ_9 : Sto) => (J90 r_9 b_9 σ_9))))))) (fun J67 => (if (x3 - x3 / (2 : Int32) * (2 : Int32)) = 0 then (bd_ (f_World_passDay (SR σ h0 2) (((b && !decide ((2 : Int32) = 0)) && cK σ h0 12) && cK σ (SR σ h0 2) 11) σ) (fun (r_10 : Int32) (b_10 : Bool) (σ_10 : Sto) => (J67 b_10 σ_10))) else (J67 (b && !decide ((2 : Int32) = 0)) σ)))) else (if ((2 : Int32) * x1) < x2_1 then (((1 : Int32) + ((2 : Int32) * x1)), b, σ) else ((0 : Int32), b, σ)))
def f_Trail_check (h0 : Nat) (x1 : Int32) (b : Bool) (σ : Sto) : Rs Int32 := (lt_ (SI σ h0 6) (fun (x2_1 : Int32) => (lt_ (pI σ h0 6 (0 : Int32)) (fun (σ_2 : Sto) => (bd_ (f_Trail_within x1 (1 : Int32) (30 : Int32) ((b && cK σ h0 12) && cK σ h0 12) σ_2) (fun (r_3 : Int32) (b_3 : Bool) (σ_3 : Sto) => (if r_3 = 0 then ((-1000000001 : Int32), b_3, σ_3) else (if (SI σ_3 h0 7) = 0 then ((-1000000002 : Int32), (b_3 && cK σ_3 h0 12), σ_3) else (bd_ (f_World_become (SR σ_3 h0 2) (SR σ_3 h0 1) ((((b_3 && cK σ_3 h0 12) && cK σ_3 h0 12) && cK σ_3 h0 12) && cK σ_3 (SR σ_3 h0 2) 11) σ_3) (fun (r_4 : Unit) (b_4 : Bool) (σ_4 : Sto) => (lt_ (0 : Int32) (fun (x3_5 : Int32) => (lp_ (b_Trail_check_46 h0 x1 x2_1) (fun (x3 : Int32) (b : Bool) (σ : Sto) => (0, false, σ)) fuel_ x3_5 b_4 σ_4)))))))))))))
set_option maxRecDepth 100000 in
set_option maxHeartbeats 4000000 in
theorem s_Trail_check : ∀ (h0 : Nat) (x1 : Int32) (b : Bool) (σ : Sto), Snd M_Trail_check 7 0 0 [vR h0, vI x1] b σ (tI (f_Trail_check h0 x1 b σ).1) (f_Trail_check h0 x1 b σ).2.1 (f_Trail_check h0 x1 b σ).2.2 := by
  intro h0 x1 b σ
  refine Snd_of (tv := tI) (by decide) (Nat.le_of_ble_eq_true rfl) ?_
  show V M_Trail_check 7 0 0 0 0 tI (f_Trail_check h0 x1 b σ) 0 [(0, vR h0), (1, vI x1)] [] b σ
  unfold f_Trail_check
  refine V_aload_n 1 rfl (show decode M_Trail_check.2.1 0 = .ok (.aload_n 0, 1) by decide +kernel) 0 rfl ?_
  refine V_get (j := 6) (v := vI (SI σ h0 6)) 4 rfl ck_Trail (by decide) (by decide) (show decode M_Trail_check.2.1 1 = .ok (.getfield 390, 3) by decide +kernel) wd_605 rfl ?_
  refine V_istore_n (fun x2_1 => [(2, vI x2_1), (0, vR h0), (1, vI x1)]) 5 rfl (show decode M_Trail_check.2.1 4 = .ok (.istore_n 2, 1) by decide +kernel) (by decide) (fun _ => rfl) (fun x2_1 => ?_)
  refine V_aload_n 6 rfl (show decode M_Trail_check.2.1 5 = .ok (.aload_n 0, 1) by decide +kernel) 1 rfl ?_
  refine V_iconst 7 rfl (show decode M_Trail_check.2.1 6 = .ok (.iconst 0, 1) by decide +kernel) (v := 0) rfl ?_
  refine V_putI (j := 6) 10 rfl ck_Trail (by decide) (by decide) (show decode M_Trail_check.2.1 7 = .ok (.putfield 390, 3) by decide +kernel) wd_605 rfl (fun _ => rfl) rfl rfl (fun σ_2 => ?_)
  refine V_iload_n 11 rfl (show decode M_Trail_check.2.1 10 = .ok (.iload_n 1, 1) by decide +kernel) 2 rfl ?_
  refine V_iconst 12 rfl (show decode M_Trail_check.2.1 11 = .ok (.iconst 1, 1) by decide +kernel) (v := 1) rfl ?_
  refine V_bipush 14 rfl (show decode M_Trail_check.2.1 12 = .ok (.bipush 30, 2) by decide +kernel) (v := 30) rfl ?_
  refine V_callS (tb := tI) (as := [vI x1, vI (1 : Int32), vI (30 : Int32)]) (rest := []) (na := 3) 17 rfl (s_Trail_within x1 (1 : Int32) (30 : Int32) ((b && cK σ h0 12) && cK σ h0 12) σ_2) rfl rfl (Nat.le_of_ble_eq_true rfl) (cal_Trail_within _ _ _ _ _ (by decide) (by decide) (by decide)) (show decode M_Trail_check.2.1 14 = .ok (.invokestatic 40, 3) by decide +kernel) wd_628 wd_629 (fun r_3 b_3 σ_3 => ?_)
  show V M_Trail_check 7 0 0 0 0 tI _ 17 [(2, vI x2_1), (0, vR h0), (1, vI x1)] [vI r_3] b_3 σ_3
  refine V_ifne 20 23 rfl (show decode M_Trail_check.2.1 17 = .ok (.ifCond .ne 6, 3) by decide +kernel) rfl ?_ ?_
  · skip
    refine V_ldc 22 rfl (show decode M_Trail_check.2.1 20 = .ok (.ldc 44, 2) by decide +kernel) wd_631 ?_
    exact V_iret rfl (by decide) (by decide) (show decode M_Trail_check.2.1 22 = .ok (.ireturn, 1) by decide +kernel)
  · skip
    refine V_aload_n 24 rfl (show decode M_Trail_check.2.1 23 = .ok (.aload_n 0, 1) by decide +kernel) 1 rfl ?_
    refine V_get (j := 7) (v := vI (SI σ_3 h0 7)) 27 rfl ck_Trail (by decide) (by decide) (show decode M_Trail_check.2.1 24 = .ok (.getfield 393, 3) by decide +kernel) wd_606 rfl ?_
    refine V_ifne 30 33 rfl (show decode M_Trail_check.2.1 27 = .ok (.ifCond .ne 6, 3) by decide +kernel) rfl ?_ ?_
    · skip
      refine V_ldc 32 rfl (show decode M_Trail_check.2.1 30 = .ok (.ldc 66, 2) by decide +kernel) wd_640 ?_
      exact V_iret rfl (by decide) (by decide) (show decode M_Trail_check.2.1 32 = .ok (.ireturn, 1) by decide +kernel)
    · skip
      refine V_aload_n 34 rfl (show decode M_Trail_check.2.1 33 = .ok (.aload_n 0, 1) by decide +kernel) 1 rfl ?_
      refine V_get (j := 2) (v := vR (SR σ_3 h0 2)) 37 rfl ck_Trail (by decide) (by decide) (show decode M_Trail_check.2.1 34 = .ok (.getfield 19, 3) by decide +kernel) wd_601 rfl ?_
      refine V_aload_n 38 rfl (show decode M_Trail_check.2.1 37 = .ok (.aload_n 0, 1) by decide +kernel) 1 rfl ?_
      refine V_get (j := 1) (v := vR (SR σ_3 h0 1)) 41 rfl ck_Trail (by decide) (by decide) (show decode M_Trail_check.2.1 38 = .ok (.getfield 16, 3) by decide +kernel) wd_600 rfl ?_
      refine V_callVN (tb := tU) (as := [vR (SR σ_3 h0 1)]) (rest := []) (na := 1) 44 rfl ck_World (by decide) (s_World_become (SR σ_3 h0 2) (SR σ_3 h0 1) ((((b_3 && cK σ_3 h0 12) && cK σ_3 h0 12) && cK σ_3 h0 12) && cK σ_3 (SR σ_3 h0 2) 11) σ_3) rfl rfl (Nat.le_of_ble_eq_true rfl) (cal_World_become _ _ _ _ _ (by decide) (by decide) (by decide)) (show decode M_Trail_check.2.1 41 = .ok (.invokevirtual 261, 3) by decide +kernel) wd_1217 wd_1219 wd_72 (fun r_4 b_4 σ_4 => ?_)
      show V M_Trail_check 7 0 0 0 0 tI _ 44 [(2, vI x2_1), (0, vR h0), (1, vI x1)] [] b_4 σ_4
      refine V_iconst 45 rfl (show decode M_Trail_check.2.1 44 = .ok (.iconst 0, 1) by decide +kernel) (v := 0) rfl ?_
      refine V_istore_n (fun x3_5 => [(3, vI x3_5), (2, vI x2_1), (0, vR h0), (1, vI x1)]) 46 rfl (show decode M_Trail_check.2.1 45 = .ok (.istore_n 3, 1) by decide +kernel) (by decide) (fun _ => rfl) (fun x3_5 => ?_)
      refine V_sub [2, 3, 1, 0] rfl ?_
      refine lp_P (fun (L46 : Int32 → Bool → Sto → Rs Int32) => ∀ (x3 : Int32) (b : Bool) (σ : Sto), V M_Trail_check 7 0 0 0 0 tI (L46 x3 b σ) 46 [(0, vR h0), (1, vI x1), (2, vI x2_1), (3, vI x3)] [] b σ) ?_ ?_ fuel_ x3_5 b_4 σ_4
      · intro x3 b σ; exact V_bad
      · intro L46 hL46 x3 b σ
        unfold b_Trail_check_46
        refine V_iload_n 47 rfl (show decode M_Trail_check.2.1 46 = .ok (.iload_n 3, 1) by decide +kernel) 3 rfl ?_
        refine V_iconst 48 rfl (show decode M_Trail_check.2.1 47 = .ok (.iconst 2, 1) by decide +kernel) (v := 2) rfl ?_
        refine V_iload_n 49 rfl (show decode M_Trail_check.2.1 48 = .ok (.iload_n 1, 1) by decide +kernel) 1 rfl ?_
        refine V_imul 50 rfl (show decode M_Trail_check.2.1 49 = .ok (.imul, 1) by decide +kernel) ?_
        refine V_icmpge 53 118 rfl (show decode M_Trail_check.2.1 50 = .ok (.if_icmp .ge 68, 3) by decide +kernel) rfl ?_ ?_
        · skip
          refine V_iload_n 54 rfl (show decode M_Trail_check.2.1 53 = .ok (.iload_n 3, 1) by decide +kernel) 3 rfl ?_
          refine V_iconst 55 rfl (show decode M_Trail_check.2.1 54 = .ok (.iconst 2, 1) by decide +kernel) (v := 2) rfl ?_
          refine V_irem 56 rfl (show decode M_Trail_check.2.1 55 = .ok (.irem, 1) by decide +kernel) ?_
          refine V_jn (fun (J67 : Bool → Sto → Rs Int32) => ∀ (b : Bool) (σ : Sto), V M_Trail_check 7 0 0 0 0 tI (J67 b σ) 67 [(0, vR h0), (1, vI x1), (2, vI x2_1), (3, vI x3)] [] b σ) ?_ (fun J67 hJ67 => ?_)
          · intro b σ
            refine V_iload_n 68 rfl (show decode M_Trail_check.2.1 67 = .ok (.iload_n 3, 1) by decide +kernel) 3 rfl ?_
            refine V_iconst 69 rfl (show decode M_Trail_check.2.1 68 = .ok (.iconst 2, 1) by decide +kernel) (v := 2) rfl ?_
            refine V_irem 70 rfl (show decode M_Trail_check.2.1 69 = .ok (.irem, 1) by decide +kernel) ?_
            refine V_jn (fun (J90 : Int32 → Bool → Sto → Rs Int32) => ∀ (s0_90 : Int32) (b : Bool) (σ : Sto), V M_Trail_check 7 0 0 0 0 tI (J90 s0_90 b σ) 90 [(0, vR h0), (1, vI x1), (2, vI x2_1), (3, vI x3)] [vI s0_90] b σ) ?_ (fun J90 hJ90 => ?_)
            · intro s0_90 b σ
              refine V_istore (fun x4_6 => [(4, vI x4_6), (0, vR h0), (1, vI x1), (2, vI x2_1), (3, vI x3)]) 92 rfl (show decode M_Trail_check.2.1 90 = .ok (.istore 4, 2) by decide +kernel) (by decide) (fun _ => rfl) (fun x4_6 => ?_)
              refine V_iload_n 93 rfl (show decode M_Trail_check.2.1 92 = .ok (.iload_n 3, 1) by decide +kernel) 4 rfl ?_
              refine V_iload_n 94 rfl (show decode M_Trail_check.2.1 93 = .ok (.iload_n 2, 1) by decide +kernel) 3 rfl ?_
              refine V_jn (fun (J108 : Bool → Sto → Rs Int32) => ∀ (b : Bool) (σ : Sto), V M_Trail_check 7 0 0 0 0 tI (J108 b σ) 108 [(3, vI x3)] [] b σ) ?_ (fun J108 hJ108 => ?_)
              · intro b σ
                refine V_iconst 109 rfl (show decode M_Trail_check.2.1 108 = .ok (.iconst 1, 1) by decide +kernel) (v := 1) rfl ?_
                refine V_iload_n 110 rfl (show decode M_Trail_check.2.1 109 = .ok (.iload_n 3, 1) by decide +kernel) 0 rfl ?_
                refine V_iadd 111 rfl (show decode M_Trail_check.2.1 110 = .ok (.iadd, 1) by decide +kernel) ?_
                exact V_iret rfl (by decide) (by decide) (show decode M_Trail_check.2.1 111 = .ok (.ireturn, 1) by decide +kernel)
              · skip
                refine V_icmpge 97 108 rfl (show decode M_Trail_check.2.1 94 = .ok (.if_icmp .ge 14, 3) by decide +kernel) rfl ?_ ?_
                · skip
                  refine V_aload_n 98 rfl (show decode M_Trail_check.2.1 97 = .ok (.aload_n 0, 1) by decide +kernel) 1 rfl ?_
                  refine V_get (j := 5) (v := vR (SR σ h0 5)) 101 rfl ck_Trail (by decide) (by decide) (show decode M_Trail_check.2.1 98 = .ok (.getfield 36, 3) by decide +kernel) wd_604 rfl ?_
                  refine V_iload_n 102 rfl (show decode M_Trail_check.2.1 101 = .ok (.iload_n 3, 1) by decide +kernel) 4 rfl ?_
                  refine V_ald_int 103 rfl (show decode M_Trail_check.2.1 102 = .ok (.iaload, 1) by decide +kernel) ?_
                  refine V_iload 105 rfl (show decode M_Trail_check.2.1 103 = .ok (.iload 4, 2) by decide +kernel) 0 rfl ?_
                  refine V_icmpeq 108 112 rfl (show decode M_Trail_check.2.1 105 = .ok (.if_icmp .eq 7, 3) by decide +kernel) rfl ?_ ?_
                  · skip
                    refine V_iinc (fun x3_7 => [(3, vI x3_7), (4, vI x4_6), (0, vR h0), (1, vI x1), (2, vI x2_1)]) 115 rfl (show decode M_Trail_check.2.1 112 = .ok (.iinc 3 1, 3) by decide +kernel) 4 rfl (w := 1) rfl (by decide) (fun _ => rfl) (fun x3_7 => ?_)
                    refine V_goto 46 (show decode M_Trail_check.2.1 115 = .ok (.goto (-69), 3) by decide +kernel) rfl ?_
                    exact V_sub [2, 3, 4, 0] rfl (hL46 x3_7 ((b && cK σ h0 12) && cA σ (SR σ h0 5) 21 x3) σ)
                  · skip
                    exact V_sub [4] rfl (hJ108 ((b && cK σ h0 12) && cA σ (SR σ h0 5) 21 x3) σ)
                · skip
                  exact V_sub [4] rfl (hJ108 b σ)
            · skip
              refine V_ifne 73 83 rfl (show decode M_Trail_check.2.1 70 = .ok (.ifCond .ne 13, 3) by decide +kernel) rfl ?_ ?_
              · skip
                refine V_aload_n 74 rfl (show decode M_Trail_check.2.1 73 = .ok (.aload_n 0, 1) by decide +kernel) 0 rfl ?_
                refine V_get (j := 2) (v := vR (SR σ h0 2)) 77 rfl ck_Trail (by decide) (by decide) (show decode M_Trail_check.2.1 74 = .ok (.getfield 19, 3) by decide +kernel) wd_601 rfl ?_
                refine V_callVN (tb := tI) (as := []) (rest := []) (na := 0) 80 rfl ck_World (by decide) (s_World_milesTogether (SR σ h0 2) (((b && !decide ((2 : Int32) = 0)) && cK σ h0 12) && cK σ (SR σ h0 2) 11) σ) rfl rfl (Nat.le_of_ble_eq_true rfl) (cal_World_milesTogether _ _ _ _ _ (by decide) (by decide) (by decide)) (show decode M_Trail_check.2.1 77 = .ok (.invokevirtual 397, 3) by decide +kernel) wd_1466 wd_1468 wd_107 (fun r_8 b_8 σ_8 => ?_)
                show V M_Trail_check 7 0 0 0 0 tI _ 80 [(0, vR h0), (1, vI x1), (2, vI x2_1), (3, vI x3)] [vI r_8] b_8 σ_8
                refine V_goto 90 (show decode M_Trail_check.2.1 80 = .ok (.goto 10, 3) by decide +kernel) rfl ?_
                exact V_sub [0, 1, 2, 3] rfl (hJ90 r_8 b_8 σ_8)
              · skip
                refine V_aload_n 84 rfl (show decode M_Trail_check.2.1 83 = .ok (.aload_n 0, 1) by decide +kernel) 0 rfl ?_
                refine V_get (j := 2) (v := vR (SR σ h0 2)) 87 rfl ck_Trail (by decide) (by decide) (show decode M_Trail_check.2.1 84 = .ok (.getfield 19, 3) by decide +kernel) wd_601 rfl ?_
                refine V_callVN (tb := tI) (as := []) (rest := []) (na := 0) 90 rfl ck_World (by decide) (s_World_foodTogether (SR σ h0 2) (((b && !decide ((2 : Int32) = 0)) && cK σ h0 12) && cK σ (SR σ h0 2) 11) σ) rfl rfl (Nat.le_of_ble_eq_true rfl) (cal_World_foodTogether _ _ _ _ _ (by decide) (by decide) (by decide)) (show decode M_Trail_check.2.1 87 = .ok (.invokevirtual 400, 3) by decide +kernel) wd_1470 wd_1472 wd_108 (fun r_9 b_9 σ_9 => ?_)
                show V M_Trail_check 7 0 0 0 0 tI _ 90 [(0, vR h0), (1, vI x1), (2, vI x2_1), (3, vI x3)] [vI r_9] b_9 σ_9
                exact V_sub [0, 1, 2, 3] rfl (hJ90 r_9 b_9 σ_9)
          · skip
            refine V_ifne 59 67 rfl (show decode M_Trail_check.2.1 56 = .ok (.ifCond .ne 11, 3) by decide +kernel) rfl ?_ ?_
            · skip
              refine V_aload_n 60 rfl (show decode M_Trail_check.2.1 59 = .ok (.aload_n 0, 1) by decide +kernel) 0 rfl ?_
              refine V_get (j := 2) (v := vR (SR σ h0 2)) 63 rfl ck_Trail (by decide) (by decide) (show decode M_Trail_check.2.1 60 = .ok (.getfield 19, 3) by decide +kernel) wd_601 rfl ?_
              refine V_callVN (tb := tI) (as := []) (rest := []) (na := 0) 66 rfl ck_World (by decide) (s_World_passDay (SR σ h0 2) (((b && !decide ((2 : Int32) = 0)) && cK σ h0 12) && cK σ (SR σ h0 2) 11) σ) rfl rfl (Nat.le_of_ble_eq_true rfl) (cal_World_passDay _ _ _ _ _ (by decide) (by decide) (by decide)) (show decode M_Trail_check.2.1 63 = .ok (.invokevirtual 258, 3) by decide +kernel) wd_1083 wd_1085 wd_44 (fun r_10 b_10 σ_10 => ?_)
              show V M_Trail_check 7 0 0 0 0 tI _ 66 [(0, vR h0), (1, vI x1), (2, vI x2_1), (3, vI x3)] [vI r_10] b_10 σ_10
              refine V_pop 67 rfl (show decode M_Trail_check.2.1 66 = .ok (.pop, 1) by decide +kernel) rfl ?_
              exact V_sub [0, 1, 2, 3] rfl (hJ67 b_10 σ_10)
            · skip
              exact V_sub [0, 1, 2, 3] rfl (hJ67 (b && !decide ((2 : Int32) = 0)) σ)
        · skip
          refine V_iload_n 119 rfl (show decode M_Trail_check.2.1 118 = .ok (.iload_n 2, 1) by decide +kernel) 2 rfl ?_
          refine V_iconst 120 rfl (show decode M_Trail_check.2.1 119 = .ok (.iconst 2, 1) by decide +kernel) (v := 2) rfl ?_
          refine V_iload_n 121 rfl (show decode M_Trail_check.2.1 120 = .ok (.iload_n 1, 1) by decide +kernel) 1 rfl ?_
          refine V_imul 122 rfl (show decode M_Trail_check.2.1 121 = .ok (.imul, 1) by decide +kernel) ?_
          refine V_icmple 125 133 rfl (show decode M_Trail_check.2.1 122 = .ok (.if_icmp .le 11, 3) by decide +kernel) rfl ?_ ?_
          · skip
            refine V_iconst 126 rfl (show decode M_Trail_check.2.1 125 = .ok (.iconst 1, 1) by decide +kernel) (v := 1) rfl ?_
            refine V_iconst 127 rfl (show decode M_Trail_check.2.1 126 = .ok (.iconst 2, 1) by decide +kernel) (v := 2) rfl ?_
            refine V_iload_n 128 rfl (show decode M_Trail_check.2.1 127 = .ok (.iload_n 1, 1) by decide +kernel) 1 rfl ?_
            refine V_imul 129 rfl (show decode M_Trail_check.2.1 128 = .ok (.imul, 1) by decide +kernel) ?_
            refine V_iadd 130 rfl (show decode M_Trail_check.2.1 129 = .ok (.iadd, 1) by decide +kernel) ?_
            refine V_goto 134 (show decode M_Trail_check.2.1 130 = .ok (.goto 4, 3) by decide +kernel) rfl ?_
            exact V_iret rfl (by decide) (by decide) (show decode M_Trail_check.2.1 134 = .ok (.ireturn, 1) by decide +kernel)
          · skip
            refine V_iconst 134 rfl (show decode M_Trail_check.2.1 133 = .ok (.iconst 0, 1) by decide +kernel) (v := 0) rfl ?_
            exact V_iret rfl (by decide) (by decide) (show decode M_Trail_check.2.1 134 = .ok (.ireturn, 1) by decide +kernel)
theorem cal_Trail_check (d mc ms k n : Nat) (h1 : 7 + 1 ≤ d) (h2 : k + 0 ≤ mc) (h3 : n + 0 ≤ ms) : Cal M_Trail_check 7 0 0 1 d mc ms k n := ⟨wd_1465, wd_170, by decide, h1, by decide, h2, h3⟩
abbrev M_Trail_hasSheet : MD := (⟨"LongTrail", "hasSheet", "(I)Z"⟩, prog_1_method_47_code, 2, (some FieldType.boolean))
def f_Trail_hasSheet (h0 : Nat) (x1 : Int32) (b : Bool) (σ : Sto) : Rs Int32 := (bd_ (f_Trail_within x1 (0 : Int32) ((Int32.ofNat (Sln σ (SR σ h0 4))) - (1 : Int32)) ((b && cK σ h0 12) && cK σ (SR σ h0 4) 27) σ) (fun (r_1 : Int32) (b_1 : Bool) (σ_1 : Sto) => (r_1, (b_1 && zok r_1), σ_1)))
set_option maxRecDepth 100000 in
set_option maxHeartbeats 4000000 in
theorem s_Trail_hasSheet : ∀ (h0 : Nat) (x1 : Int32) (b : Bool) (σ : Sto), Snd M_Trail_hasSheet 2 0 0 [vR h0, vI x1] b σ (tI (f_Trail_hasSheet h0 x1 b σ).1) (f_Trail_hasSheet h0 x1 b σ).2.1 (f_Trail_hasSheet h0 x1 b σ).2.2 := by
  intro h0 x1 b σ
  refine Snd_of (tv := tI) (by decide) (Nat.le_of_ble_eq_true rfl) ?_
  show V M_Trail_hasSheet 2 0 0 0 0 tI (f_Trail_hasSheet h0 x1 b σ) 0 [(0, vR h0), (1, vI x1)] [] b σ
  unfold f_Trail_hasSheet
  refine V_iload_n 1 rfl (show decode M_Trail_hasSheet.2.1 0 = .ok (.iload_n 1, 1) by decide +kernel) 1 rfl ?_
  refine V_iconst 2 rfl (show decode M_Trail_hasSheet.2.1 1 = .ok (.iconst 0, 1) by decide +kernel) (v := 0) rfl ?_
  refine V_aload_n 3 rfl (show decode M_Trail_hasSheet.2.1 2 = .ok (.aload_n 0, 1) by decide +kernel) 0 rfl ?_
  refine V_get (j := 4) (v := vR (SR σ h0 4)) 6 rfl ck_Trail (by decide) (by decide) (show decode M_Trail_hasSheet.2.1 3 = .ok (.getfield 32, 3) by decide +kernel) wd_603 rfl ?_
  refine V_alen_r27 7 rfl (show decode M_Trail_hasSheet.2.1 6 = .ok (.arraylength, 1) by decide +kernel) ?_
  refine V_iconst 8 rfl (show decode M_Trail_hasSheet.2.1 7 = .ok (.iconst 1, 1) by decide +kernel) (v := 1) rfl ?_
  refine V_isub 9 rfl (show decode M_Trail_hasSheet.2.1 8 = .ok (.isub, 1) by decide +kernel) ?_
  refine V_callS (tb := tI) (as := [vI x1, vI (0 : Int32), vI ((Int32.ofNat (Sln σ (SR σ h0 4))) - (1 : Int32))]) (rest := []) (na := 3) 12 rfl (s_Trail_within x1 (0 : Int32) ((Int32.ofNat (Sln σ (SR σ h0 4))) - (1 : Int32)) ((b && cK σ h0 12) && cK σ (SR σ h0 4) 27) σ) rfl rfl (Nat.le_of_ble_eq_true rfl) (cal_Trail_within _ _ _ _ _ (by decide) (by decide) (by decide)) (show decode M_Trail_hasSheet.2.1 9 = .ok (.invokestatic 40, 3) by decide +kernel) wd_628 wd_629 (fun r_1 b_1 σ_1 => ?_)
  show V M_Trail_hasSheet 2 0 0 0 0 tI _ 12 [(0, vR h0), (1, vI x1)] [vI r_1] b_1 σ_1
  exact V_zretc rfl (by decide) (by decide) (show decode M_Trail_hasSheet.2.1 12 = .ok (.ireturn, 1) by decide +kernel)
theorem cal_Trail_hasSheet (d mc ms k n : Nat) (h1 : 2 + 1 ≤ d) (h2 : k + 0 ≤ mc) (h3 : n + 0 ≤ ms) : Cal M_Trail_hasSheet 2 0 0 1 d mc ms k n := ⟨wd_1426, wd_170, by decide, h1, by decide, h2, h3⟩
abbrev M_Sheet_hasStretch : MD := (⟨"LongTrail$Sheet", "hasStretch", "(II)Z"⟩, prog_7_method_4_code, 3, (some FieldType.boolean))
def f_Sheet_hasStretch (h0 : Nat) (x1 : Int32) (x2 : Int32) (b : Bool) (σ : Sto) : Rs Int32 := (lt_ (fun (b : Bool) (σ : Sto) => ((0 : Int32), b, σ)) (fun J30 => (if x1 < 0 then (J30 b σ) else (if x2 < 0 then (J30 b σ) else (if (SI σ h0 1) < x1 then (J30 (b && cK σ h0 6) σ) else (if ((SI σ h0 1) - x1) < x2 then (J30 ((b && cK σ h0 6) && cK σ h0 6) σ) else ((1 : Int32), ((b && cK σ h0 6) && cK σ h0 6), σ)))))))
set_option maxRecDepth 100000 in
set_option maxHeartbeats 4000000 in
theorem s_Sheet_hasStretch : ∀ (h0 : Nat) (x1 : Int32) (x2 : Int32) (b : Bool) (σ : Sto), Snd M_Sheet_hasStretch 1 0 0 [vR h0, vI x1, vI x2] b σ (tI (f_Sheet_hasStretch h0 x1 x2 b σ).1) (f_Sheet_hasStretch h0 x1 x2 b σ).2.1 (f_Sheet_hasStretch h0 x1 x2 b σ).2.2 := by
  intro h0 x1 x2 b σ
  refine Snd_of (tv := tI) (by decide) (Nat.le_of_ble_eq_true rfl) ?_
  show V M_Sheet_hasStretch 1 0 0 0 0 tI (f_Sheet_hasStretch h0 x1 x2 b σ) 0 [(0, vR h0), (1, vI x1), (2, vI x2)] [] b σ
  unfold f_Sheet_hasStretch
  refine V_iload_n 1 rfl (show decode M_Sheet_hasStretch.2.1 0 = .ok (.iload_n 1, 1) by decide +kernel) 1 rfl ?_
  refine V_jn (fun (J30 : Bool → Sto → Rs Int32) => ∀ (b : Bool) (σ : Sto), V M_Sheet_hasStretch 1 0 0 0 0 tI (J30 b σ) 30 [] [] b σ) ?_ (fun J30 hJ30 => ?_)
  · intro b σ
    refine V_iconst 31 rfl (show decode M_Sheet_hasStretch.2.1 30 = .ok (.iconst 0, 1) by decide +kernel) (v := 0) rfl ?_
    exact V_zret rfl (by decide) (by decide) rfl (show decode M_Sheet_hasStretch.2.1 31 = .ok (.ireturn, 1) by decide +kernel)
  · skip
    refine V_iflt 4 30 rfl (show decode M_Sheet_hasStretch.2.1 1 = .ok (.ifCond .lt 29, 3) by decide +kernel) rfl ?_ ?_
    · skip
      exact V_sub [] rfl (hJ30 b σ)
    · skip
      refine V_iload_n 5 rfl (show decode M_Sheet_hasStretch.2.1 4 = .ok (.iload_n 2, 1) by decide +kernel) 2 rfl ?_
      refine V_iflt 8 30 rfl (show decode M_Sheet_hasStretch.2.1 5 = .ok (.ifCond .lt 25, 3) by decide +kernel) rfl ?_ ?_
      · skip
        exact V_sub [] rfl (hJ30 b σ)
      · skip
        refine V_iload_n 9 rfl (show decode M_Sheet_hasStretch.2.1 8 = .ok (.iload_n 1, 1) by decide +kernel) 1 rfl ?_
        refine V_aload_n 10 rfl (show decode M_Sheet_hasStretch.2.1 9 = .ok (.aload_n 0, 1) by decide +kernel) 0 rfl ?_
        refine V_get (j := 1) (v := vI (SI σ h0 1)) 13 rfl ck_Sheet (by decide) (by decide) (show decode M_Sheet_hasStretch.2.1 10 = .ok (.getfield 17, 3) by decide +kernel) wd_588 rfl ?_
        refine V_icmpgt 16 30 rfl (show decode M_Sheet_hasStretch.2.1 13 = .ok (.if_icmp .gt 17, 3) by decide +kernel) rfl ?_ ?_
        · skip
          exact V_sub [] rfl (hJ30 (b && cK σ h0 6) σ)
        · skip
          refine V_iload_n 17 rfl (show decode M_Sheet_hasStretch.2.1 16 = .ok (.iload_n 2, 1) by decide +kernel) 2 rfl ?_
          refine V_aload_n 18 rfl (show decode M_Sheet_hasStretch.2.1 17 = .ok (.aload_n 0, 1) by decide +kernel) 0 rfl ?_
          refine V_get (j := 1) (v := vI (SI σ h0 1)) 21 rfl ck_Sheet (by decide) (by decide) (show decode M_Sheet_hasStretch.2.1 18 = .ok (.getfield 17, 3) by decide +kernel) wd_588 rfl ?_
          refine V_iload_n 22 rfl (show decode M_Sheet_hasStretch.2.1 21 = .ok (.iload_n 1, 1) by decide +kernel) 1 rfl ?_
          refine V_isub 23 rfl (show decode M_Sheet_hasStretch.2.1 22 = .ok (.isub, 1) by decide +kernel) ?_
          refine V_icmpgt 26 30 rfl (show decode M_Sheet_hasStretch.2.1 23 = .ok (.if_icmp .gt 7, 3) by decide +kernel) rfl ?_ ?_
          · skip
            exact V_sub [] rfl (hJ30 ((b && cK σ h0 6) && cK σ h0 6) σ)
          · skip
            refine V_iconst 27 rfl (show decode M_Sheet_hasStretch.2.1 26 = .ok (.iconst 1, 1) by decide +kernel) (v := 1) rfl ?_
            refine V_goto 31 (show decode M_Sheet_hasStretch.2.1 27 = .ok (.goto 4, 3) by decide +kernel) rfl ?_
            exact V_zret rfl (by decide) (by decide) rfl (show decode M_Sheet_hasStretch.2.1 31 = .ok (.ireturn, 1) by decide +kernel)
theorem cal_Sheet_hasStretch (d mc ms k n : Nat) (h1 : 1 + 1 ≤ d) (h2 : k + 0 ≤ mc) (h3 : n + 0 ≤ ms) : Cal M_Sheet_hasStretch 1 0 0 2 d mc ms k n := ⟨wd_1456, wd_180, by decide, h1, by decide, h2, h3⟩
abbrev M_Trail_copy : MD := (⟨"LongTrail", "copy", "(IIIII)I"⟩, prog_1_method_41_code, 8, (some FieldType.int))
def f_Trail_copy (h0 : Nat) (x1 : Int32) (x2 : Int32) (x3 : Int32) (x4 : Int32) (x5 : Int32) (b : Bool) (σ : Sto) : Rs Int32 := (bd_ (f_Trail_hasSheet h0 x1 (b && cK σ h0 12) σ) (fun (r_1 : Int32) (b_1 : Bool) (σ_1 : Sto) => (lt_ (fun (b : Bool) (σ : Sto) => ((-1000000001 : Int32), b, σ)) (fun J16 => (if r_1 = 0 then (J16 b_1 σ_1) else (bd_ (f_Trail_hasSheet h0 x3 (b_1 && cK σ_1 h0 12) σ_1) (fun (r_2 : Int32) (b_2 : Bool) (σ_2 : Sto) => (if r_2 = 0 then (J16 b_2 σ_2) else (lt_ (SR σ_2 (SR σ_2 h0 4) (ix x1)) (fun (h6_3 : Nat) => (lt_ (SR σ_2 (SR σ_2 h0 4) (ix x3)) (fun (h7_4 : Nat) => (lt_ (fun (b : Bool) (σ : Sto) => ((-1000000011 : Int32), b, σ)) (fun J53 => (if (SI σ_2 h6_3 0) = (-1 : Int32) then (J53 (((((b_2 && cK σ_2 h0 12) && cA σ_2 (SR σ_2 h0 4) 27 x1) && cK σ_2 h0 12) && cA σ_2 (SR σ_2 h0 4) 27 x3) && cK σ_2 h6_3 6) σ_2) else (if (SI σ_2 h7_4 0) = (-1 : Int32) then (J53 ((((((b_2 && cK σ_2 h0 12) && cA σ_2 (SR σ_2 h0 4) 27 x1) && cK σ_2 h0 12) && cA σ_2 (SR σ_2 h0 4) 27 x3) && cK σ_2 h6_3 6) && cK σ_2 h7_4 6) σ_2) else (if (SI σ_2 h6_3 0) = (SI σ_2 h7_4 0) then (bd_ (f_Sheet_hasStretch h6_3 x2 x5 (((((((((b_2 && cK σ_2 h0 12) && cA σ_2 (SR σ_2 h0 4) 27 x1) && cK σ_2 h0 12) && cA σ_2 (SR σ_2 h0 4) 27 x3) && cK σ_2 h6_3 6) && cK σ_2 h7_4 6) && cK σ_2 h6_3 6) && cK σ_2 h7_4 6) && cK σ_2 h6_3 6) σ_2) (fun (r_5 : Int32) (b_5 : Bool) (σ_5 : Sto) => (lt_ (fun (b : Bool) (σ : Sto) => ((-1000000013 : Int32), b, σ)) (fun J96 => (if r_5 = 0 then (J96 b_5 σ_5) else (bd_ (f_Sheet_hasStretch h7_4 x4 x5 (b_5 && cK σ_5 h7_4 6) σ_5) (fun (r_6 : Int32) (b_6 : Bool) (σ_6 : Sto) => (if r_6 = 0 then (J96 b_6 σ_6) else (lt_ (rL σ_6 (SR σ_6 h7_4 2) (va_cpy (SL σ_6 (SR σ_6 h6_3 2)) (SL σ_6 (SR σ_6 h7_4 2)) (ix x2) (ix x4) (ix x5))) (fun (σ_7 : Sto) => (x5, (((b_6 && cK σ_6 h6_3 6) && cK σ_6 h7_4 6) && cpc σ_6 (SR σ_6 h6_3 2) (SR σ_6 h7_4 2) 23 x2 x4 x5), σ_7))))))))))) else ((-1000000012 : Int32), ((((((((b_2 && cK σ_2 h0 12) && cA σ_2 (SR σ_2 h0 4) 27 x1) && cK σ_2 h0 12) && cA σ_2 (SR σ_2 h0 4) 27 x3) && cK σ_2 h6_3 6) && cK σ_2 h7_4 6) && cK σ_2 h6_3 6) && cK σ_2 h7_4 6), σ_2))))))))))))))))))
set_option maxRecDepth 100000 in
set_option maxHeartbeats 4000000 in
theorem s_Trail_copy : ∀ (h0 : Nat) (x1 : Int32) (x2 : Int32) (x3 : Int32) (x4 : Int32) (x5 : Int32) (b : Bool) (σ : Sto), Snd M_Trail_copy 3 0 0 [vR h0, vI x1, vI x2, vI x3, vI x4, vI x5] b σ (tI (f_Trail_copy h0 x1 x2 x3 x4 x5 b σ).1) (f_Trail_copy h0 x1 x2 x3 x4 x5 b σ).2.1 (f_Trail_copy h0 x1 x2 x3 x4 x5 b σ).2.2 := by
  intro h0 x1 x2 x3 x4 x5 b σ
  refine Snd_of (tv := tI) (by decide) (Nat.le_of_ble_eq_true rfl) ?_
  show V M_Trail_copy 3 0 0 0 0 tI (f_Trail_copy h0 x1 x2 x3 x4 x5 b σ) 0 [(0, vR h0), (1, vI x1), (2, vI x2), (3, vI x3), (4, vI x4), (5, vI x5)] [] b σ
  unfold f_Trail_copy
  refine V_aload_n 1 rfl (show decode M_Trail_copy.2.1 0 = .ok (.aload_n 0, 1) by decide +kernel) 0 rfl ?_
  refine V_iload_n 2 rfl (show decode M_Trail_copy.2.1 1 = .ok (.iload_n 1, 1) by decide +kernel) 1 rfl ?_
  refine V_callV (tb := tI) (as := [vI x1]) (rest := []) (na := 1) 5 rfl ck_Trail (by decide) (s_Trail_hasSheet h0 x1 (b && cK σ h0 12) σ) rfl rfl (Nat.le_of_ble_eq_true rfl) (cal_Trail_hasSheet _ _ _ _ _ (by decide) (by decide) (by decide)) (show decode M_Trail_copy.2.1 2 = .ok (.invokevirtual 360, 3) by decide +kernel) wd_1423 wd_1425 wd_103 (fun r_1 b_1 σ_1 => ?_)
  show V M_Trail_copy 3 0 0 0 0 tI _ 5 [(0, vR h0), (1, vI x1), (2, vI x2), (3, vI x3), (4, vI x4), (5, vI x5)] [vI r_1] b_1 σ_1
  refine V_jn (fun (J16 : Bool → Sto → Rs Int32) => ∀ (b : Bool) (σ : Sto), V M_Trail_copy 3 0 0 0 0 tI (J16 b σ) 16 [] [] b σ) ?_ (fun J16 hJ16 => ?_)
  · intro b σ
    refine V_ldc 18 rfl (show decode M_Trail_copy.2.1 16 = .ok (.ldc 44, 2) by decide +kernel) wd_631 ?_
    exact V_iret rfl (by decide) (by decide) (show decode M_Trail_copy.2.1 18 = .ok (.ireturn, 1) by decide +kernel)
  · skip
    refine V_ifeq 8 16 rfl (show decode M_Trail_copy.2.1 5 = .ok (.ifCond .eq 11, 3) by decide +kernel) rfl ?_ ?_
    · skip
      exact V_sub [] rfl (hJ16 b_1 σ_1)
    · skip
      refine V_aload_n 9 rfl (show decode M_Trail_copy.2.1 8 = .ok (.aload_n 0, 1) by decide +kernel) 0 rfl ?_
      refine V_iload_n 10 rfl (show decode M_Trail_copy.2.1 9 = .ok (.iload_n 3, 1) by decide +kernel) 3 rfl ?_
      refine V_callV (tb := tI) (as := [vI x3]) (rest := []) (na := 1) 13 rfl ck_Trail (by decide) (s_Trail_hasSheet h0 x3 (b_1 && cK σ_1 h0 12) σ_1) rfl rfl (Nat.le_of_ble_eq_true rfl) (cal_Trail_hasSheet _ _ _ _ _ (by decide) (by decide) (by decide)) (show decode M_Trail_copy.2.1 10 = .ok (.invokevirtual 360, 3) by decide +kernel) wd_1423 wd_1425 wd_103 (fun r_2 b_2 σ_2 => ?_)
      show V M_Trail_copy 3 0 0 0 0 tI _ 13 [(0, vR h0), (1, vI x1), (2, vI x2), (3, vI x3), (4, vI x4), (5, vI x5)] [vI r_2] b_2 σ_2
      refine V_ifne 16 19 rfl (show decode M_Trail_copy.2.1 13 = .ok (.ifCond .ne 6, 3) by decide +kernel) rfl ?_ ?_
      · skip
        exact V_sub [] rfl (hJ16 b_2 σ_2)
      · skip
        refine V_aload_n 20 rfl (show decode M_Trail_copy.2.1 19 = .ok (.aload_n 0, 1) by decide +kernel) 0 rfl ?_
        refine V_get (j := 4) (v := vR (SR σ_2 h0 4)) 23 rfl ck_Trail (by decide) (by decide) (show decode M_Trail_copy.2.1 20 = .ok (.getfield 32, 3) by decide +kernel) wd_603 rfl ?_
        refine V_iload_n 24 rfl (show decode M_Trail_copy.2.1 23 = .ok (.iload_n 1, 1) by decide +kernel) 1 rfl ?_
        refine V_ald_r27 25 rfl (show decode M_Trail_copy.2.1 24 = .ok (.aaload, 1) by decide +kernel) ?_
        refine V_astore (fun h6_3 => [(6, vR h6_3), (0, vR h0), (1, vI x1), (2, vI x2), (3, vI x3), (4, vI x4), (5, vI x5)]) 27 rfl (show decode M_Trail_copy.2.1 25 = .ok (.astore 6, 2) by decide +kernel) (by decide) (fun _ => rfl) (fun h6_3 => ?_)
        refine V_aload_n 28 rfl (show decode M_Trail_copy.2.1 27 = .ok (.aload_n 0, 1) by decide +kernel) 1 rfl ?_
        refine V_get (j := 4) (v := vR (SR σ_2 h0 4)) 31 rfl ck_Trail (by decide) (by decide) (show decode M_Trail_copy.2.1 28 = .ok (.getfield 32, 3) by decide +kernel) wd_603 rfl ?_
        refine V_iload_n 32 rfl (show decode M_Trail_copy.2.1 31 = .ok (.iload_n 3, 1) by decide +kernel) 4 rfl ?_
        refine V_ald_r27 33 rfl (show decode M_Trail_copy.2.1 32 = .ok (.aaload, 1) by decide +kernel) ?_
        refine V_astore (fun h7_4 => [(7, vR h7_4), (6, vR h6_3), (0, vR h0), (1, vI x1), (2, vI x2), (3, vI x3), (4, vI x4), (5, vI x5)]) 35 rfl (show decode M_Trail_copy.2.1 33 = .ok (.astore 7, 2) by decide +kernel) (by decide) (fun _ => rfl) (fun h7_4 => ?_)
        refine V_aload 37 rfl (show decode M_Trail_copy.2.1 35 = .ok (.aload 6, 2) by decide +kernel) 1 rfl ?_
        refine V_getN (j := 0) (v := vI (SI σ_2 h6_3 0)) 40 rfl ck_Sheet (by decide) (by decide) (show decode M_Trail_copy.2.1 37 = .ok (.getfield 368, 3) by decide +kernel) wd_587 rfl ?_
        refine V_iconst 41 rfl (show decode M_Trail_copy.2.1 40 = .ok (.iconst (-1), 1) by decide +kernel) (v := -1) rfl ?_
        refine V_jn (fun (J53 : Bool → Sto → Rs Int32) => ∀ (b : Bool) (σ : Sto), V M_Trail_copy 3 0 0 0 0 tI (J53 b σ) 53 [] [] b σ) ?_ (fun J53 hJ53 => ?_)
        · intro b σ
          refine V_ldcw 56 rfl (show decode M_Trail_copy.2.1 53 = .ok (.ldc_w 371, 3) by decide +kernel) wd_1439 ?_
          exact V_iret rfl (by decide) (by decide) (show decode M_Trail_copy.2.1 56 = .ok (.ireturn, 1) by decide +kernel)
        · skip
          refine V_icmpeq 44 53 rfl (show decode M_Trail_copy.2.1 41 = .ok (.if_icmp .eq 12, 3) by decide +kernel) rfl ?_ ?_
          · skip
            exact V_sub [] rfl (hJ53 (((((b_2 && cK σ_2 h0 12) && cA σ_2 (SR σ_2 h0 4) 27 x1) && cK σ_2 h0 12) && cA σ_2 (SR σ_2 h0 4) 27 x3) && cK σ_2 h6_3 6) σ_2)
          · skip
            refine V_aload 46 rfl (show decode M_Trail_copy.2.1 44 = .ok (.aload 7, 2) by decide +kernel) 0 rfl ?_
            refine V_getN (j := 0) (v := vI (SI σ_2 h7_4 0)) 49 rfl ck_Sheet (by decide) (by decide) (show decode M_Trail_copy.2.1 46 = .ok (.getfield 368, 3) by decide +kernel) wd_587 rfl ?_
            refine V_iconst 50 rfl (show decode M_Trail_copy.2.1 49 = .ok (.iconst (-1), 1) by decide +kernel) (v := -1) rfl ?_
            refine V_icmpne 53 57 rfl (show decode M_Trail_copy.2.1 50 = .ok (.if_icmp .ne 7, 3) by decide +kernel) rfl ?_ ?_
            · skip
              exact V_sub [] rfl (hJ53 ((((((b_2 && cK σ_2 h0 12) && cA σ_2 (SR σ_2 h0 4) 27 x1) && cK σ_2 h0 12) && cA σ_2 (SR σ_2 h0 4) 27 x3) && cK σ_2 h6_3 6) && cK σ_2 h7_4 6) σ_2)
            · skip
              refine V_aload 59 rfl (show decode M_Trail_copy.2.1 57 = .ok (.aload 6, 2) by decide +kernel) 1 rfl ?_
              refine V_getN (j := 0) (v := vI (SI σ_2 h6_3 0)) 62 rfl ck_Sheet (by decide) (by decide) (show decode M_Trail_copy.2.1 59 = .ok (.getfield 368, 3) by decide +kernel) wd_587 rfl ?_
              refine V_aload 64 rfl (show decode M_Trail_copy.2.1 62 = .ok (.aload 7, 2) by decide +kernel) 0 rfl ?_
              refine V_getN (j := 0) (v := vI (SI σ_2 h7_4 0)) 67 rfl ck_Sheet (by decide) (by decide) (show decode M_Trail_copy.2.1 64 = .ok (.getfield 368, 3) by decide +kernel) wd_587 rfl ?_
              refine V_icmpeq 70 73 rfl (show decode M_Trail_copy.2.1 67 = .ok (.if_icmp .eq 6, 3) by decide +kernel) rfl ?_ ?_
              · skip
                refine V_aload 75 rfl (show decode M_Trail_copy.2.1 73 = .ok (.aload 6, 2) by decide +kernel) 1 rfl ?_
                refine V_iload_n 76 rfl (show decode M_Trail_copy.2.1 75 = .ok (.iload_n 2, 1) by decide +kernel) 4 rfl ?_
                refine V_iload 78 rfl (show decode M_Trail_copy.2.1 76 = .ok (.iload 5, 2) by decide +kernel) 7 rfl ?_
                refine V_callVN (tb := tI) (as := [vI x2, vI x5]) (rest := []) (na := 2) 81 rfl ck_Sheet (by decide) (s_Sheet_hasStretch h6_3 x2 x5 (((((((((b_2 && cK σ_2 h0 12) && cA σ_2 (SR σ_2 h0 4) 27 x1) && cK σ_2 h0 12) && cA σ_2 (SR σ_2 h0 4) 27 x3) && cK σ_2 h6_3 6) && cK σ_2 h7_4 6) && cK σ_2 h6_3 6) && cK σ_2 h7_4 6) && cK σ_2 h6_3 6) σ_2) rfl rfl (Nat.le_of_ble_eq_true rfl) (cal_Sheet_hasStretch _ _ _ _ _ (by decide) (by decide) (by decide)) (show decode M_Trail_copy.2.1 78 = .ok (.invokevirtual 381, 3) by decide +kernel) wd_1453 wd_1455 wd_106 (fun r_5 b_5 σ_5 => ?_)
                show V M_Trail_copy 3 0 0 0 0 tI _ 81 [(7, vR h7_4), (6, vR h6_3), (0, vR h0), (1, vI x1), (2, vI x2), (3, vI x3), (4, vI x4), (5, vI x5)] [vI r_5] b_5 σ_5
                refine V_jn (fun (J96 : Bool → Sto → Rs Int32) => ∀ (b : Bool) (σ : Sto), V M_Trail_copy 3 0 0 0 0 tI (J96 b σ) 96 [] [] b σ) ?_ (fun J96 hJ96 => ?_)
                · intro b σ
                  refine V_ldcw 99 rfl (show decode M_Trail_copy.2.1 96 = .ok (.ldc_w 373, 3) by decide +kernel) wd_1440 ?_
                  exact V_iret rfl (by decide) (by decide) (show decode M_Trail_copy.2.1 99 = .ok (.ireturn, 1) by decide +kernel)
                · skip
                  refine V_ifeq 84 96 rfl (show decode M_Trail_copy.2.1 81 = .ok (.ifCond .eq 15, 3) by decide +kernel) rfl ?_ ?_
                  · skip
                    exact V_sub [] rfl (hJ96 b_5 σ_5)
                  · skip
                    refine V_aload 86 rfl (show decode M_Trail_copy.2.1 84 = .ok (.aload 7, 2) by decide +kernel) 0 rfl ?_
                    refine V_iload 88 rfl (show decode M_Trail_copy.2.1 86 = .ok (.iload 4, 2) by decide +kernel) 6 rfl ?_
                    refine V_iload 90 rfl (show decode M_Trail_copy.2.1 88 = .ok (.iload 5, 2) by decide +kernel) 7 rfl ?_
                    refine V_callVN (tb := tI) (as := [vI x4, vI x5]) (rest := []) (na := 2) 93 rfl ck_Sheet (by decide) (s_Sheet_hasStretch h7_4 x4 x5 (b_5 && cK σ_5 h7_4 6) σ_5) rfl rfl (Nat.le_of_ble_eq_true rfl) (cal_Sheet_hasStretch _ _ _ _ _ (by decide) (by decide) (by decide)) (show decode M_Trail_copy.2.1 90 = .ok (.invokevirtual 381, 3) by decide +kernel) wd_1453 wd_1455 wd_106 (fun r_6 b_6 σ_6 => ?_)
                    show V M_Trail_copy 3 0 0 0 0 tI _ 93 [(7, vR h7_4), (6, vR h6_3), (0, vR h0), (1, vI x1), (2, vI x2), (3, vI x3), (4, vI x4), (5, vI x5)] [vI r_6] b_6 σ_6
                    refine V_ifne 96 100 rfl (show decode M_Trail_copy.2.1 93 = .ok (.ifCond .ne 7, 3) by decide +kernel) rfl ?_ ?_
                    · skip
                      exact V_sub [] rfl (hJ96 b_6 σ_6)
                    · skip
                      refine V_aload 102 rfl (show decode M_Trail_copy.2.1 100 = .ok (.aload 6, 2) by decide +kernel) 1 rfl ?_
                      refine V_getN (j := 2) (v := vR (SR σ_6 h6_3 2)) 105 rfl ck_Sheet (by decide) (by decide) (show decode M_Trail_copy.2.1 102 = .ok (.getfield 374, 3) by decide +kernel) wd_591 rfl ?_
                      refine V_iload_n 106 rfl (show decode M_Trail_copy.2.1 105 = .ok (.iload_n 2, 1) by decide +kernel) 4 rfl ?_
                      refine V_aload 108 rfl (show decode M_Trail_copy.2.1 106 = .ok (.aload 7, 2) by decide +kernel) 0 rfl ?_
                      refine V_getN (j := 2) (v := vR (SR σ_6 h7_4 2)) 111 rfl ck_Sheet (by decide) (by decide) (show decode M_Trail_copy.2.1 108 = .ok (.getfield 374, 3) by decide +kernel) wd_591 rfl ?_
                      refine V_iload 113 rfl (show decode M_Trail_copy.2.1 111 = .ok (.iload 4, 2) by decide +kernel) 6 rfl ?_
                      refine V_iload 115 rfl (show decode M_Trail_copy.2.1 113 = .ok (.iload 5, 2) by decide +kernel) 7 rfl ?_
                      refine V_acpL 118 rfl (show decode M_Trail_copy.2.1 115 = .ok (.invokestatic 384, 3) by decide +kernel) wd_1457 wd_954 wd_953 wd_190 (by decide) (Nat.le_of_ble_eq_true rfl) (fun σ_7 => ?_)
                      refine V_iload 120 rfl (show decode M_Trail_copy.2.1 118 = .ok (.iload 5, 2) by decide +kernel) 7 rfl ?_
                      exact V_iret rfl (by decide) (by decide) (show decode M_Trail_copy.2.1 120 = .ok (.ireturn, 1) by decide +kernel)
              · skip
                refine V_ldc 72 rfl (show decode M_Trail_copy.2.1 70 = .ok (.ldc 119, 2) by decide +kernel) wd_692 ?_
                exact V_iret rfl (by decide) (by decide) (show decode M_Trail_copy.2.1 72 = .ok (.ireturn, 1) by decide +kernel)
theorem cal_Trail_copy (d mc ms k n : Nat) (h1 : 3 + 1 ≤ d) (h2 : k + 0 ≤ mc) (h3 : n + 0 ≤ ms) : Cal M_Trail_copy 3 0 0 5 d mc ms k n := ⟨wd_1452, wd_170, by decide, h1, by decide, h2, h3⟩
abbrev M_Trail_cost : MD := (⟨"LongTrail", "cost", "(I)I"⟩, prog_1_method_31_code, 3, (some FieldType.int))
def f_Trail_cost (h0 : Nat) (x1 : Int32) (b : Bool) (σ : Sto) : Rs Int32 := (bd_ (f_Trail_within x1 (0 : Int32) (99 : Int32) b σ) (fun (r_1 : Int32) (b_1 : Bool) (σ_1 : Sto) => (if r_1 = 0 then ((-1000000001 : Int32), b_1, σ_1) else (lt_ (SI σ_1 (SR σ_1 (SR σ_1 h0 0) 4) 0) (fun (x2_2 : Int32) => (lt_ (pI σ_1 (SR σ_1 (SR σ_1 h0 0) 4) 0 x1) (fun (σ_3 : Sto) => (x2_2, ((((((b_1 && cK σ_1 h0 12) && cK σ_1 (SR σ_1 h0 0) 11) && cK σ_1 (SR σ_1 (SR σ_1 h0 0) 4) 7) && cK σ_1 h0 12) && cK σ_1 (SR σ_1 h0 0) 11) && cK σ_1 (SR σ_1 (SR σ_1 h0 0) 4) 7), σ_3))))))))
set_option maxRecDepth 100000 in
set_option maxHeartbeats 4000000 in
theorem s_Trail_cost : ∀ (h0 : Nat) (x1 : Int32) (b : Bool) (σ : Sto), Snd M_Trail_cost 2 0 0 [vR h0, vI x1] b σ (tI (f_Trail_cost h0 x1 b σ).1) (f_Trail_cost h0 x1 b σ).2.1 (f_Trail_cost h0 x1 b σ).2.2 := by
  intro h0 x1 b σ
  refine Snd_of (tv := tI) (by decide) (Nat.le_of_ble_eq_true rfl) ?_
  show V M_Trail_cost 2 0 0 0 0 tI (f_Trail_cost h0 x1 b σ) 0 [(0, vR h0), (1, vI x1)] [] b σ
  unfold f_Trail_cost
  refine V_iload_n 1 rfl (show decode M_Trail_cost.2.1 0 = .ok (.iload_n 1, 1) by decide +kernel) 1 rfl ?_
  refine V_iconst 2 rfl (show decode M_Trail_cost.2.1 1 = .ok (.iconst 0, 1) by decide +kernel) (v := 0) rfl ?_
  refine V_bipush 4 rfl (show decode M_Trail_cost.2.1 2 = .ok (.bipush 99, 2) by decide +kernel) (v := 99) rfl ?_
  refine V_callS (tb := tI) (as := [vI x1, vI (0 : Int32), vI (99 : Int32)]) (rest := []) (na := 3) 7 rfl (s_Trail_within x1 (0 : Int32) (99 : Int32) b σ) rfl rfl (Nat.le_of_ble_eq_true rfl) (cal_Trail_within _ _ _ _ _ (by decide) (by decide) (by decide)) (show decode M_Trail_cost.2.1 4 = .ok (.invokestatic 40, 3) by decide +kernel) wd_628 wd_629 (fun r_1 b_1 σ_1 => ?_)
  show V M_Trail_cost 2 0 0 0 0 tI _ 7 [(0, vR h0), (1, vI x1)] [vI r_1] b_1 σ_1
  refine V_ifne 10 13 rfl (show decode M_Trail_cost.2.1 7 = .ok (.ifCond .ne 6, 3) by decide +kernel) rfl ?_ ?_
  · skip
    refine V_ldc 12 rfl (show decode M_Trail_cost.2.1 10 = .ok (.ldc 44, 2) by decide +kernel) wd_631 ?_
    exact V_iret rfl (by decide) (by decide) (show decode M_Trail_cost.2.1 12 = .ok (.ireturn, 1) by decide +kernel)
  · skip
    refine V_aload_n 14 rfl (show decode M_Trail_cost.2.1 13 = .ok (.aload_n 0, 1) by decide +kernel) 0 rfl ?_
    refine V_get (j := 0) (v := vR (SR σ_1 h0 0)) 17 rfl ck_Trail (by decide) (by decide) (show decode M_Trail_cost.2.1 14 = .ok (.getfield 10, 3) by decide +kernel) wd_599 rfl ?_
    refine V_getN (j := 4) (v := vR (SR σ_1 (SR σ_1 h0 0) 4)) 20 rfl ck_World (by decide) (by decide) (show decode M_Trail_cost.2.1 17 = .ok (.getfield 297, 3) by decide +kernel) wd_506 rfl ?_
    refine V_getN (j := 0) (v := vI (SI σ_1 (SR σ_1 (SR σ_1 h0 0) 4) 0)) 23 rfl ck_Supply (by decide) (by decide) (show decode M_Trail_cost.2.1 20 = .ok (.getfield 301, 3) by decide +kernel) wd_360 rfl ?_
    refine V_istore_n (fun x2_2 => [(2, vI x2_2), (0, vR h0), (1, vI x1)]) 24 rfl (show decode M_Trail_cost.2.1 23 = .ok (.istore_n 2, 1) by decide +kernel) (by decide) (fun _ => rfl) (fun x2_2 => ?_)
    refine V_aload_n 25 rfl (show decode M_Trail_cost.2.1 24 = .ok (.aload_n 0, 1) by decide +kernel) 1 rfl ?_
    refine V_get (j := 0) (v := vR (SR σ_1 h0 0)) 28 rfl ck_Trail (by decide) (by decide) (show decode M_Trail_cost.2.1 25 = .ok (.getfield 10, 3) by decide +kernel) wd_599 rfl ?_
    refine V_getN (j := 4) (v := vR (SR σ_1 (SR σ_1 h0 0) 4)) 31 rfl ck_World (by decide) (by decide) (show decode M_Trail_cost.2.1 28 = .ok (.getfield 297, 3) by decide +kernel) wd_506 rfl ?_
    refine V_iload_n 32 rfl (show decode M_Trail_cost.2.1 31 = .ok (.iload_n 1, 1) by decide +kernel) 2 rfl ?_
    refine V_putIN (j := 0) 35 rfl ck_Supply (by decide) (by decide) (show decode M_Trail_cost.2.1 32 = .ok (.putfield 301, 3) by decide +kernel) wd_360 rfl (fun _ => rfl) rfl rfl (fun σ_3 => ?_)
    refine V_iload_n 36 rfl (show decode M_Trail_cost.2.1 35 = .ok (.iload_n 2, 1) by decide +kernel) 0 rfl ?_
    exact V_iret rfl (by decide) (by decide) (show decode M_Trail_cost.2.1 36 = .ok (.ireturn, 1) by decide +kernel)
theorem cal_Trail_cost (d mc ms k n : Nat) (h1 : 2 + 1 ≤ d) (h2 : k + 0 ≤ mc) (h3 : n + 0 ≤ ms) : Cal M_Trail_cost 2 0 0 1 d mc ms k n := ⟨wd_1309, wd_170, by decide, h1, by decide, h2, h3⟩
abbrev M_Ground_firesOn : MD := (⟨"LongTrail$Ground", "firesOn", "(I)I"⟩, prog_3_method_20_code, 4, (some FieldType.int))
def b_Ground_firesOn_4 (h0 : Nat) (x1 : Int32) (L4 : Int32 → Int32 → Bool → Sto → Rs Int32) (x2 : Int32) (x3 : Int32) (b : Bool) (σ : Sto) : Rs Int32 := (if x3 < (SI σ h0 11) then (bd_ (f_Ground_isOn h0 x3 x1 ((b && cK σ h0 2) && cK σ h0 2) σ) (fun (r_3 : Int32) (b_3 : Bool) (σ_3 : Sto) => (lt_ (fun (x2_24 : Int32) (b : Bool) (σ : Sto) => (lt_ (x3 + (1 : Int32)) (fun (x3_4 : Int32) => (L4 x2_24 x3_4 b σ)))) (fun J24 => (if r_3 = 0 then (J24 x2 b_3 σ_3) else (lt_ (x2 + (1 : Int32)) (fun (x2_5 : Int32) => (J24 x2_5 b_3 σ_3)))))))) else (x2, (b && cK σ h0 2), σ))
def f_Ground_firesOn (h0 : Nat) (x1 : Int32) (b : Bool) (σ : Sto) : Rs Int32 := (lt_ (0 : Int32) (fun (x2_1 : Int32) => (lt_ (0 : Int32) (fun (x3_2 : Int32) => (lp_ (b_Ground_firesOn_4 h0 x1) (fun (x2 : Int32) (x3 : Int32) (b : Bool) (σ : Sto) => (0, false, σ)) fuel_ x2_1 x3_2 b σ)))))
set_option maxRecDepth 100000 in
set_option maxHeartbeats 4000000 in
theorem s_Ground_firesOn : ∀ (h0 : Nat) (x1 : Int32) (b : Bool) (σ : Sto), Snd M_Ground_firesOn 3 0 0 [vR h0, vI x1] b σ (tI (f_Ground_firesOn h0 x1 b σ).1) (f_Ground_firesOn h0 x1 b σ).2.1 (f_Ground_firesOn h0 x1 b σ).2.2 := by
  intro h0 x1 b σ
  refine Snd_of (tv := tI) (by decide) (Nat.le_of_ble_eq_true rfl) ?_
  show V M_Ground_firesOn 3 0 0 0 0 tI (f_Ground_firesOn h0 x1 b σ) 0 [(0, vR h0), (1, vI x1)] [] b σ
  unfold f_Ground_firesOn
  refine V_iconst 1 rfl (show decode M_Ground_firesOn.2.1 0 = .ok (.iconst 0, 1) by decide +kernel) (v := 0) rfl ?_
  refine V_istore_n (fun x2_1 => [(2, vI x2_1), (0, vR h0), (1, vI x1)]) 2 rfl (show decode M_Ground_firesOn.2.1 1 = .ok (.istore_n 2, 1) by decide +kernel) (by decide) (fun _ => rfl) (fun x2_1 => ?_)
  refine V_iconst 3 rfl (show decode M_Ground_firesOn.2.1 2 = .ok (.iconst 0, 1) by decide +kernel) (v := 0) rfl ?_
  refine V_istore_n (fun x3_2 => [(3, vI x3_2), (2, vI x2_1), (0, vR h0), (1, vI x1)]) 4 rfl (show decode M_Ground_firesOn.2.1 3 = .ok (.istore_n 3, 1) by decide +kernel) (by decide) (fun _ => rfl) (fun x3_2 => ?_)
  refine V_sub [2, 3, 1, 0] rfl ?_
  refine lp_P (fun (L4 : Int32 → Int32 → Bool → Sto → Rs Int32) => ∀ (x2 : Int32) (x3 : Int32) (b : Bool) (σ : Sto), V M_Ground_firesOn 3 0 0 0 0 tI (L4 x2 x3 b σ) 4 [(0, vR h0), (1, vI x1), (2, vI x2), (3, vI x3)] [] b σ) ?_ ?_ fuel_ x2_1 x3_2 b σ
  · intro x2 x3 b σ; exact V_bad
  · intro L4 hL4 x2 x3 b σ
    unfold b_Ground_firesOn_4
    refine V_iload_n 5 rfl (show decode M_Ground_firesOn.2.1 4 = .ok (.iload_n 3, 1) by decide +kernel) 3 rfl ?_
    refine V_aload_n 6 rfl (show decode M_Ground_firesOn.2.1 5 = .ok (.aload_n 0, 1) by decide +kernel) 0 rfl ?_
    refine V_get (j := 11) (v := vI (SI σ h0 11)) 9 rfl ck_Ground (by decide) (by decide) (show decode M_Ground_firesOn.2.1 6 = .ok (.getfield 53, 3) by decide +kernel) wd_238 rfl ?_
    refine V_icmpge 12 30 rfl (show decode M_Ground_firesOn.2.1 9 = .ok (.if_icmp .ge 21, 3) by decide +kernel) rfl ?_ ?_
    · skip
      refine V_aload_n 13 rfl (show decode M_Ground_firesOn.2.1 12 = .ok (.aload_n 0, 1) by decide +kernel) 0 rfl ?_
      refine V_iload_n 14 rfl (show decode M_Ground_firesOn.2.1 13 = .ok (.iload_n 3, 1) by decide +kernel) 3 rfl ?_
      refine V_iload_n 15 rfl (show decode M_Ground_firesOn.2.1 14 = .ok (.iload_n 1, 1) by decide +kernel) 1 rfl ?_
      refine V_callV (tb := tI) (as := [vI x3, vI x1]) (rest := []) (na := 2) 18 rfl ck_Ground (by decide) (s_Ground_isOn h0 x3 x1 ((b && cK σ h0 2) && cK σ h0 2) σ) rfl rfl (Nat.le_of_ble_eq_true rfl) (cal_Ground_isOn _ _ _ _ _ (by decide) (by decide) (by decide)) (show decode M_Ground_firesOn.2.1 15 = .ok (.invokevirtual 80, 3) by decide +kernel) wd_732 wd_734 wd_14 (fun r_3 b_3 σ_3 => ?_)
      show V M_Ground_firesOn 3 0 0 0 0 tI _ 18 [(0, vR h0), (1, vI x1), (2, vI x2), (3, vI x3)] [vI r_3] b_3 σ_3
      refine V_jn (fun (J24 : Int32 → Bool → Sto → Rs Int32) => ∀ (x2_24 : Int32) (b : Bool) (σ : Sto), V M_Ground_firesOn 3 0 0 0 0 tI (J24 x2_24 b σ) 24 [(0, vR h0), (1, vI x1), (2, vI x2_24), (3, vI x3)] [] b σ) ?_ (fun J24 hJ24 => ?_)
      · intro x2_24 b σ
        refine V_iinc (fun x3_4 => [(3, vI x3_4), (0, vR h0), (1, vI x1), (2, vI x2_24)]) 27 rfl (show decode M_Ground_firesOn.2.1 24 = .ok (.iinc 3 1, 3) by decide +kernel) 3 rfl (w := 1) rfl (by decide) (fun _ => rfl) (fun x3_4 => ?_)
        refine V_goto 4 (show decode M_Ground_firesOn.2.1 27 = .ok (.goto (-23), 3) by decide +kernel) rfl ?_
        exact V_sub [1, 2, 3, 0] rfl (hL4 x2_24 x3_4 b σ)
      · skip
        refine V_ifeq 21 24 rfl (show decode M_Ground_firesOn.2.1 18 = .ok (.ifCond .eq 6, 3) by decide +kernel) rfl ?_ ?_
        · skip
          exact V_sub [0, 1, 2, 3] rfl (hJ24 x2 b_3 σ_3)
        · skip
          refine V_iinc (fun x2_5 => [(2, vI x2_5), (0, vR h0), (1, vI x1), (3, vI x3)]) 24 rfl (show decode M_Ground_firesOn.2.1 21 = .ok (.iinc 2 1, 3) by decide +kernel) 2 rfl (w := 1) rfl (by decide) (fun _ => rfl) (fun x2_5 => ?_)
          exact V_sub [1, 2, 0, 3] rfl (hJ24 x2_5 b_3 σ_3)
    · skip
      refine V_iload_n 31 rfl (show decode M_Ground_firesOn.2.1 30 = .ok (.iload_n 2, 1) by decide +kernel) 2 rfl ?_
      exact V_iret rfl (by decide) (by decide) (show decode M_Ground_firesOn.2.1 31 = .ok (.ireturn, 1) by decide +kernel)
theorem cal_Ground_firesOn (d mc ms k n : Nat) (h1 : 3 + 1 ≤ d) (h2 : k + 0 ≤ mc) (h3 : n + 0 ≤ ms) : Cal M_Ground_firesOn 3 0 0 1 d mc ms k n := ⟨wd_1493, wd_172, by decide, h1, by decide, h2, h3⟩
abbrev M_Post_openInAll : MD := (⟨"LongTrail$Post", "openInAll", "()I"⟩, prog_6_method_6_code, 3, (some FieldType.int))
def b_Post_openInAll_4 (h0 : Nat) (L4 : Int32 → Int32 → Bool → Sto → Rs Int32) (x1 : Int32) (x2 : Int32) (b : Bool) (σ : Sto) : Rs Int32 := (if x2 < (SI σ h0 5) then (lt_ (fun (s0_27 : Int32) (s1_27 : Int32) (b : Bool) (σ : Sto) => (lt_ (s1_27 + s0_27) (fun (x1_3 : Int32) => (lt_ (x2 + (1 : Int32)) (fun (x2_4 : Int32) => (L4 x1_3 x2_4 b σ)))))) (fun J27 => (if (SI σ (SR σ h0 4) (ix x2)) = 0 then (J27 (1 : Int32) x1 (((b && cK σ h0 5) && cK σ h0 5) && cA σ (SR σ h0 4) 21 x2) σ) else (J27 (0 : Int32) x1 (((b && cK σ h0 5) && cK σ h0 5) && cA σ (SR σ h0 4) 21 x2) σ)))) else (x1, (b && cK σ h0 5), σ))
def f_Post_openInAll (h0 : Nat) (b : Bool) (σ : Sto) : Rs Int32 := (lt_ (0 : Int32) (fun (x1_1 : Int32) => (lt_ (0 : Int32) (fun (x2_2 : Int32) => (lp_ (b_Post_openInAll_4 h0) (fun (x1 : Int32) (x2 : Int32) (b : Bool) (σ : Sto) => (0, false, σ)) fuel_ x1_1 x2_2 b σ)))))
set_option maxRecDepth 100000 in
set_option maxHeartbeats 4000000 in
theorem s_Post_openInAll : ∀ (h0 : Nat) (b : Bool) (σ : Sto), Snd M_Post_openInAll 1 0 0 [vR h0] b σ (tI (f_Post_openInAll h0 b σ).1) (f_Post_openInAll h0 b σ).2.1 (f_Post_openInAll h0 b σ).2.2 := by
  intro h0 b σ
  refine Snd_of (tv := tI) (by decide) (Nat.le_of_ble_eq_true rfl) ?_
  show V M_Post_openInAll 1 0 0 0 0 tI (f_Post_openInAll h0 b σ) 0 [(0, vR h0)] [] b σ
  unfold f_Post_openInAll
  refine V_iconst 1 rfl (show decode M_Post_openInAll.2.1 0 = .ok (.iconst 0, 1) by decide +kernel) (v := 0) rfl ?_
  refine V_istore_n (fun x1_1 => [(1, vI x1_1), (0, vR h0)]) 2 rfl (show decode M_Post_openInAll.2.1 1 = .ok (.istore_n 1, 1) by decide +kernel) (by decide) (fun _ => rfl) (fun x1_1 => ?_)
  refine V_iconst 3 rfl (show decode M_Post_openInAll.2.1 2 = .ok (.iconst 0, 1) by decide +kernel) (v := 0) rfl ?_
  refine V_istore_n (fun x2_2 => [(2, vI x2_2), (1, vI x1_1), (0, vR h0)]) 4 rfl (show decode M_Post_openInAll.2.1 3 = .ok (.istore_n 2, 1) by decide +kernel) (by decide) (fun _ => rfl) (fun x2_2 => ?_)
  refine V_sub [2, 1, 0] rfl ?_
  refine lp_P (fun (L4 : Int32 → Int32 → Bool → Sto → Rs Int32) => ∀ (x1 : Int32) (x2 : Int32) (b : Bool) (σ : Sto), V M_Post_openInAll 1 0 0 0 0 tI (L4 x1 x2 b σ) 4 [(0, vR h0), (1, vI x1), (2, vI x2)] [] b σ) ?_ ?_ fuel_ x1_1 x2_2 b σ
  · intro x1 x2 b σ; exact V_bad
  · intro L4 hL4 x1 x2 b σ
    unfold b_Post_openInAll_4
    refine V_iload_n 5 rfl (show decode M_Post_openInAll.2.1 4 = .ok (.iload_n 2, 1) by decide +kernel) 2 rfl ?_
    refine V_aload_n 6 rfl (show decode M_Post_openInAll.2.1 5 = .ok (.aload_n 0, 1) by decide +kernel) 0 rfl ?_
    refine V_get (j := 5) (v := vI (SI σ h0 5)) 9 rfl ck_Post (by decide) (by decide) (show decode M_Post_openInAll.2.1 6 = .ok (.getfield 31, 3) by decide +kernel) wd_307 rfl ?_
    refine V_icmpge 12 35 rfl (show decode M_Post_openInAll.2.1 9 = .ok (.if_icmp .ge 26, 3) by decide +kernel) rfl ?_ ?_
    · skip
      refine V_iload_n 13 rfl (show decode M_Post_openInAll.2.1 12 = .ok (.iload_n 1, 1) by decide +kernel) 1 rfl ?_
      refine V_aload_n 14 rfl (show decode M_Post_openInAll.2.1 13 = .ok (.aload_n 0, 1) by decide +kernel) 0 rfl ?_
      refine V_get (j := 4) (v := vR (SR σ h0 4)) 17 rfl ck_Post (by decide) (by decide) (show decode M_Post_openInAll.2.1 14 = .ok (.getfield 22, 3) by decide +kernel) wd_305 rfl ?_
      refine V_iload_n 18 rfl (show decode M_Post_openInAll.2.1 17 = .ok (.iload_n 2, 1) by decide +kernel) 2 rfl ?_
      refine V_ald_int 19 rfl (show decode M_Post_openInAll.2.1 18 = .ok (.iaload, 1) by decide +kernel) ?_
      refine V_jn (fun (J27 : Int32 → Int32 → Bool → Sto → Rs Int32) => ∀ (s0_27 : Int32) (s1_27 : Int32) (b : Bool) (σ : Sto), V M_Post_openInAll 1 0 0 0 0 tI (J27 s0_27 s1_27 b σ) 27 [(0, vR h0), (2, vI x2)] [vI s0_27, vI s1_27] b σ) ?_ (fun J27 hJ27 => ?_)
      · intro s0_27 s1_27 b σ
        refine V_iadd 28 rfl (show decode M_Post_openInAll.2.1 27 = .ok (.iadd, 1) by decide +kernel) ?_
        refine V_istore_n (fun x1_3 => [(1, vI x1_3), (0, vR h0), (2, vI x2)]) 29 rfl (show decode M_Post_openInAll.2.1 28 = .ok (.istore_n 1, 1) by decide +kernel) (by decide) (fun _ => rfl) (fun x1_3 => ?_)
        refine V_iinc (fun x2_4 => [(2, vI x2_4), (1, vI x1_3), (0, vR h0)]) 32 rfl (show decode M_Post_openInAll.2.1 29 = .ok (.iinc 2 1, 3) by decide +kernel) 2 rfl (w := 1) rfl (by decide) (fun _ => rfl) (fun x2_4 => ?_)
        refine V_goto 4 (show decode M_Post_openInAll.2.1 32 = .ok (.goto (-28), 3) by decide +kernel) rfl ?_
        exact V_sub [2, 1, 0] rfl (hL4 x1_3 x2_4 b σ)
      · skip
        refine V_ifne 22 26 rfl (show decode M_Post_openInAll.2.1 19 = .ok (.ifCond .ne 7, 3) by decide +kernel) rfl ?_ ?_
        · skip
          refine V_iconst 23 rfl (show decode M_Post_openInAll.2.1 22 = .ok (.iconst 1, 1) by decide +kernel) (v := 1) rfl ?_
          refine V_goto 27 (show decode M_Post_openInAll.2.1 23 = .ok (.goto 4, 3) by decide +kernel) rfl ?_
          exact V_sub [0, 2] rfl (hJ27 (1 : Int32) x1 (((b && cK σ h0 5) && cK σ h0 5) && cA σ (SR σ h0 4) 21 x2) σ)
        · skip
          refine V_iconst 27 rfl (show decode M_Post_openInAll.2.1 26 = .ok (.iconst 0, 1) by decide +kernel) (v := 0) rfl ?_
          exact V_sub [0, 2] rfl (hJ27 (0 : Int32) x1 (((b && cK σ h0 5) && cK σ h0 5) && cA σ (SR σ h0 4) 21 x2) σ)
    · skip
      refine V_iload_n 36 rfl (show decode M_Post_openInAll.2.1 35 = .ok (.iload_n 1, 1) by decide +kernel) 1 rfl ?_
      exact V_iret rfl (by decide) (by decide) (show decode M_Post_openInAll.2.1 36 = .ok (.ireturn, 1) by decide +kernel)
theorem cal_Post_openInAll (d mc ms k n : Nat) (h1 : 1 + 1 ≤ d) (h2 : k + 0 ≤ mc) (h3 : n + 0 ≤ ms) : Cal M_Post_openInAll 1 0 0 0 d mc ms k n := ⟨wd_1497, wd_174, by decide, h1, by decide, h2, h3⟩
abbrev M_World_walkersThatAre : MD := (⟨"LongTrail$World", "walkersThatAre", "(I)I"⟩, prog_12_method_4_code, 4, (some FieldType.int))
def b_World_walkersThatAre_4 (h0 : Nat) (x1 : Int32) (L4 : Int32 → Int32 → Bool → Sto → Rs Int32) (x2 : Int32) (x3 : Int32) (b : Bool) (σ : Sto) : Rs Int32 := (if x3 < (SI σ h0 7) then (lt_ (fun (x2_28 : Int32) (b : Bool) (σ : Sto) => (lt_ (x3 + (1 : Int32)) (fun (x3_3 : Int32) => (L4 x2_28 x3_3 b σ)))) (fun J28 => (if (SI σ (SR σ (SR σ h0 6) (ix x3)) 5) = x1 then (lt_ (x2 + (1 : Int32)) (fun (x2_4 : Int32) => (J28 x2_4 ((((b && cK σ h0 11) && cK σ h0 11) && cA σ (SR σ h0 6) 26 x3) && cK σ (SR σ (SR σ h0 6) (ix x3)) 10) σ))) else (J28 x2 ((((b && cK σ h0 11) && cK σ h0 11) && cA σ (SR σ h0 6) 26 x3) && cK σ (SR σ (SR σ h0 6) (ix x3)) 10) σ)))) else (x2, (b && cK σ h0 11), σ))
def f_World_walkersThatAre (h0 : Nat) (x1 : Int32) (b : Bool) (σ : Sto) : Rs Int32 := (lt_ (0 : Int32) (fun (x2_1 : Int32) => (lt_ (0 : Int32) (fun (x3_2 : Int32) => (lp_ (b_World_walkersThatAre_4 h0 x1) (fun (x2 : Int32) (x3 : Int32) (b : Bool) (σ : Sto) => (0, false, σ)) fuel_ x2_1 x3_2 b σ)))))
set_option maxRecDepth 100000 in
set_option maxHeartbeats 4000000 in
theorem s_World_walkersThatAre : ∀ (h0 : Nat) (x1 : Int32) (b : Bool) (σ : Sto), Snd M_World_walkersThatAre 1 0 0 [vR h0, vI x1] b σ (tI (f_World_walkersThatAre h0 x1 b σ).1) (f_World_walkersThatAre h0 x1 b σ).2.1 (f_World_walkersThatAre h0 x1 b σ).2.2 := by
  intro h0 x1 b σ
  refine Snd_of (tv := tI) (by decide) (Nat.le_of_ble_eq_true rfl) ?_
  show V M_World_walkersThatAre 1 0 0 0 0 tI (f_World_walkersThatAre h0 x1 b σ) 0 [(0, vR h0), (1, vI x1)] [] b σ
  unfold f_World_walkersThatAre
  refine V_iconst 1 rfl (show decode M_World_walkersThatAre.2.1 0 = .ok (.iconst 0, 1) by decide +kernel) (v := 0) rfl ?_
  refine V_istore_n (fun x2_1 => [(2, vI x2_1), (0, vR h0), (1, vI x1)]) 2 rfl (show decode M_World_walkersThatAre.2.1 1 = .ok (.istore_n 2, 1) by decide +kernel) (by decide) (fun _ => rfl) (fun x2_1 => ?_)
  refine V_iconst 3 rfl (show decode M_World_walkersThatAre.2.1 2 = .ok (.iconst 0, 1) by decide +kernel) (v := 0) rfl ?_
  refine V_istore_n (fun x3_2 => [(3, vI x3_2), (2, vI x2_1), (0, vR h0), (1, vI x1)]) 4 rfl (show decode M_World_walkersThatAre.2.1 3 = .ok (.istore_n 3, 1) by decide +kernel) (by decide) (fun _ => rfl) (fun x3_2 => ?_)
  refine V_sub [2, 3, 1, 0] rfl ?_
  refine lp_P (fun (L4 : Int32 → Int32 → Bool → Sto → Rs Int32) => ∀ (x2 : Int32) (x3 : Int32) (b : Bool) (σ : Sto), V M_World_walkersThatAre 1 0 0 0 0 tI (L4 x2 x3 b σ) 4 [(0, vR h0), (1, vI x1), (2, vI x2), (3, vI x3)] [] b σ) ?_ ?_ fuel_ x2_1 x3_2 b σ
  · intro x2 x3 b σ; exact V_bad
  · intro L4 hL4 x2 x3 b σ
    unfold b_World_walkersThatAre_4
    refine V_iload_n 5 rfl (show decode M_World_walkersThatAre.2.1 4 = .ok (.iload_n 3, 1) by decide +kernel) 3 rfl ?_
    refine V_aload_n 6 rfl (show decode M_World_walkersThatAre.2.1 5 = .ok (.aload_n 0, 1) by decide +kernel) 0 rfl ?_
    refine V_get (j := 7) (v := vI (SI σ h0 7)) 9 rfl ck_World (by decide) (by decide) (show decode M_World_walkersThatAre.2.1 6 = .ok (.getfield 77, 3) by decide +kernel) wd_512 rfl ?_
    refine V_icmpge 12 34 rfl (show decode M_World_walkersThatAre.2.1 9 = .ok (.if_icmp .ge 25, 3) by decide +kernel) rfl ?_ ?_
    · skip
      refine V_aload_n 13 rfl (show decode M_World_walkersThatAre.2.1 12 = .ok (.aload_n 0, 1) by decide +kernel) 0 rfl ?_
      refine V_get (j := 6) (v := vR (SR σ h0 6)) 16 rfl ck_World (by decide) (by decide) (show decode M_World_walkersThatAre.2.1 13 = .ok (.getfield 53, 3) by decide +kernel) wd_509 rfl ?_
      refine V_iload_n 17 rfl (show decode M_World_walkersThatAre.2.1 16 = .ok (.iload_n 3, 1) by decide +kernel) 3 rfl ?_
      refine V_ald_r26 18 rfl (show decode M_World_walkersThatAre.2.1 17 = .ok (.aaload, 1) by decide +kernel) ?_
      refine V_getN (j := 5) (v := vI (SI σ (SR σ (SR σ h0 6) (ix x3)) 5)) 21 rfl ck_Walker (by decide) (by decide) (show decode M_World_walkersThatAre.2.1 18 = .ok (.getfield 93, 3) by decide +kernel) wd_431 rfl ?_
      refine V_iload_n 22 rfl (show decode M_World_walkersThatAre.2.1 21 = .ok (.iload_n 1, 1) by decide +kernel) 1 rfl ?_
      refine V_jn (fun (J28 : Int32 → Bool → Sto → Rs Int32) => ∀ (x2_28 : Int32) (b : Bool) (σ : Sto), V M_World_walkersThatAre 1 0 0 0 0 tI (J28 x2_28 b σ) 28 [(0, vR h0), (1, vI x1), (2, vI x2_28), (3, vI x3)] [] b σ) ?_ (fun J28 hJ28 => ?_)
      · intro x2_28 b σ
        refine V_iinc (fun x3_3 => [(3, vI x3_3), (0, vR h0), (1, vI x1), (2, vI x2_28)]) 31 rfl (show decode M_World_walkersThatAre.2.1 28 = .ok (.iinc 3 1, 3) by decide +kernel) 3 rfl (w := 1) rfl (by decide) (fun _ => rfl) (fun x3_3 => ?_)
        refine V_goto 4 (show decode M_World_walkersThatAre.2.1 31 = .ok (.goto (-27), 3) by decide +kernel) rfl ?_
        exact V_sub [1, 2, 3, 0] rfl (hL4 x2_28 x3_3 b σ)
      · skip
        refine V_icmpne 25 28 rfl (show decode M_World_walkersThatAre.2.1 22 = .ok (.if_icmp .ne 6, 3) by decide +kernel) rfl ?_ ?_
        · skip
          refine V_iinc (fun x2_4 => [(2, vI x2_4), (0, vR h0), (1, vI x1), (3, vI x3)]) 28 rfl (show decode M_World_walkersThatAre.2.1 25 = .ok (.iinc 2 1, 3) by decide +kernel) 2 rfl (w := 1) rfl (by decide) (fun _ => rfl) (fun x2_4 => ?_)
          exact V_sub [1, 2, 0, 3] rfl (hJ28 x2_4 ((((b && cK σ h0 11) && cK σ h0 11) && cA σ (SR σ h0 6) 26 x3) && cK σ (SR σ (SR σ h0 6) (ix x3)) 10) σ)
        · skip
          exact V_sub [0, 1, 2, 3] rfl (hJ28 x2 ((((b && cK σ h0 11) && cK σ h0 11) && cA σ (SR σ h0 6) 26 x3) && cK σ (SR σ (SR σ h0 6) (ix x3)) 10) σ)
    · skip
      refine V_iload_n 35 rfl (show decode M_World_walkersThatAre.2.1 34 = .ok (.iload_n 2, 1) by decide +kernel) 2 rfl ?_
      exact V_iret rfl (by decide) (by decide) (show decode M_World_walkersThatAre.2.1 35 = .ok (.ireturn, 1) by decide +kernel)
theorem cal_World_walkersThatAre (d mc ms k n : Nat) (h1 : 1 + 1 ≤ d) (h2 : k + 0 ≤ mc) (h3 : n + 0 ≤ ms) : Cal M_World_walkersThatAre 1 0 0 1 d mc ms k n := ⟨wd_1489, wd_171, by decide, h1, by decide, h2, h3⟩
abbrev M_Trail_count : MD := (⟨"LongTrail", "count", "(I)I"⟩, prog_1_method_46_code, 2, (some FieldType.int))
def f_Trail_count (h0 : Nat) (x1 : Int32) (b : Bool) (σ : Sto) : Rs Int32 := (bd_ (f_Trail_within x1 (4 : Int32) (7 : Int32) b σ) (fun (r_1 : Int32) (b_1 : Bool) (σ_1 : Sto) => (if r_1 = 0 then (if x1 = (0 : Int32) then ((SI σ_1 (SR σ_1 (SR σ_1 h0 0) 0) 10), (((b_1 && cK σ_1 h0 12) && cK σ_1 (SR σ_1 h0 0) 11) && cK σ_1 (SR σ_1 (SR σ_1 h0 0) 0) 2), σ_1) else (if x1 = (1 : Int32) then ((SI σ_1 (SR σ_1 (SR σ_1 h0 0) 0) 11), (((b_1 && cK σ_1 h0 12) && cK σ_1 (SR σ_1 h0 0) 11) && cK σ_1 (SR σ_1 (SR σ_1 h0 0) 0) 2), σ_1) else (if x1 = (2 : Int32) then (bd_ (f_Ground_firesOn (SR σ_1 (SR σ_1 h0 0) 0) (SI σ_1 (SR σ_1 h0 0) 8) (((((b_1 && cK σ_1 h0 12) && cK σ_1 (SR σ_1 h0 0) 11) && cK σ_1 h0 12) && cK σ_1 (SR σ_1 h0 0) 11) && cK σ_1 (SR σ_1 (SR σ_1 h0 0) 0) 2) σ_1) (fun (r_2 : Int32) (b_2 : Bool) (σ_2 : Sto) => (r_2, b_2, σ_2))) else (if x1 = (3 : Int32) then ((SI σ_1 (SR σ_1 h0 0) 7), ((b_1 && cK σ_1 h0 12) && cK σ_1 (SR σ_1 h0 0) 11), σ_1) else (if x1 = (8 : Int32) then ((SI σ_1 (SR σ_1 (SR σ_1 h0 0) 2) 5), (((b_1 && cK σ_1 h0 12) && cK σ_1 (SR σ_1 h0 0) 11) && cK σ_1 (SR σ_1 (SR σ_1 h0 0) 2) 5), σ_1) else (if x1 = (9 : Int32) then (bd_ (f_Post_openInAll (SR σ_1 (SR σ_1 h0 0) 2) (((b_1 && cK σ_1 h0 12) && cK σ_1 (SR σ_1 h0 0) 11) && cK σ_1 (SR σ_1 (SR σ_1 h0 0) 2) 5) σ_1) (fun (r_3 : Int32) (b_3 : Bool) (σ_3 : Sto) => (r_3, b_3, σ_3))) else (if x1 = (10 : Int32) then ((SI σ_1 (SR σ_1 (SR σ_1 h0 0) 1) 1), (((b_1 && cK σ_1 h0 12) && cK σ_1 (SR σ_1 h0 0) 11) && cK σ_1 (SR σ_1 (SR σ_1 h0 0) 1) 3), σ_1) else (if x1 = (11 : Int32) then ((SI σ_1 (SR σ_1 (SR σ_1 h0 0) 3) 3), (((b_1 && cK σ_1 h0 12) && cK σ_1 (SR σ_1 h0 0) 11) && cK σ_1 (SR σ_1 (SR σ_1 h0 0) 3) 4), σ_1) else (if x1 = (12 : Int32) then ((SI σ_1 (SR σ_1 (SR σ_1 h0 0) 4) 4), (((b_1 && cK σ_1 h0 12) && cK σ_1 (SR σ_1 h0 0) 11) && cK σ_1 (SR σ_1 (SR σ_1 h0 0) 4) 7), σ_1) else (if x1 = (13 : Int32) then ((SI σ_1 (SR σ_1 (SR σ_1 h0 0) 5) 2), (((b_1 && cK σ_1 h0 12) && cK σ_1 (SR σ_1 h0 0) 11) && cK σ_1 (SR σ_1 (SR σ_1 h0 0) 5) 1), σ_1) else (if x1 = (14 : Int32) then ((SI σ_1 h0 6), (b_1 && cK σ_1 h0 12), σ_1) else (if x1 = (15 : Int32) then ((SI σ_1 (SR σ_1 h0 3) 1), ((b_1 && cK σ_1 h0 12) && cK σ_1 (SR σ_1 h0 3) 8), σ_1) else (if x1 = (16 : Int32) then ((SI σ_1 (SR σ_1 h0 0) 8), ((b_1 && cK σ_1 h0 12) && cK σ_1 (SR σ_1 h0 0) 11), σ_1) else (if x1 = (17 : Int32) then ((SI σ_1 (SR σ_1 (SR σ_1 h0 0) 0) 9), (((b_1 && cK σ_1 h0 12) && cK σ_1 (SR σ_1 h0 0) 11) && cK σ_1 (SR σ_1 (SR σ_1 h0 0) 0) 2), σ_1) else ((-1000000001 : Int32), b_1, σ_1))))))))))))))) else (bd_ (f_World_walkersThatAre (SR σ_1 h0 0) (x1 - (4 : Int32)) ((b_1 && cK σ_1 h0 12) && cK σ_1 (SR σ_1 h0 0) 11) σ_1) (fun (r_4 : Int32) (b_4 : Bool) (σ_4 : Sto) => (r_4, b_4, σ_4))))))
set_option maxRecDepth 100000 in
set_option maxHeartbeats 4000000 in
theorem s_Trail_count : ∀ (h0 : Nat) (x1 : Int32) (b : Bool) (σ : Sto), Snd M_Trail_count 4 0 0 [vR h0, vI x1] b σ (tI (f_Trail_count h0 x1 b σ).1) (f_Trail_count h0 x1 b σ).2.1 (f_Trail_count h0 x1 b σ).2.2 := by
  intro h0 x1 b σ
  refine Snd_of (tv := tI) (by decide) (Nat.le_of_ble_eq_true rfl) ?_
  show V M_Trail_count 4 0 0 0 0 tI (f_Trail_count h0 x1 b σ) 0 [(0, vR h0), (1, vI x1)] [] b σ
  unfold f_Trail_count
  refine V_iload_n 1 rfl (show decode M_Trail_count.2.1 0 = .ok (.iload_n 1, 1) by decide +kernel) 1 rfl ?_
  refine V_iconst 2 rfl (show decode M_Trail_count.2.1 1 = .ok (.iconst 4, 1) by decide +kernel) (v := 4) rfl ?_
  refine V_bipush 4 rfl (show decode M_Trail_count.2.1 2 = .ok (.bipush 7, 2) by decide +kernel) (v := 7) rfl ?_
  refine V_callS (tb := tI) (as := [vI x1, vI (4 : Int32), vI (7 : Int32)]) (rest := []) (na := 3) 7 rfl (s_Trail_within x1 (4 : Int32) (7 : Int32) b σ) rfl rfl (Nat.le_of_ble_eq_true rfl) (cal_Trail_within _ _ _ _ _ (by decide) (by decide) (by decide)) (show decode M_Trail_count.2.1 4 = .ok (.invokestatic 40, 3) by decide +kernel) wd_628 wd_629 (fun r_1 b_1 σ_1 => ?_)
  show V M_Trail_count 4 0 0 0 0 tI _ 7 [(0, vR h0), (1, vI x1)] [vI r_1] b_1 σ_1
  refine V_ifeq 10 21 rfl (show decode M_Trail_count.2.1 7 = .ok (.ifCond .eq 14, 3) by decide +kernel) rfl ?_ ?_
  · skip
    refine V_iload_n 22 rfl (show decode M_Trail_count.2.1 21 = .ok (.iload_n 1, 1) by decide +kernel) 1 rfl ?_
    refine V_ite (fun hs22_0 => ?_) (fun hs22_0 => ?_)
    · refine V_tswIn (off := 86) 108 (show decode M_Trail_count.2.1 22 = .ok (.tableswitch 232 0 17 #[86, 97, 108, 126, 232, 232, 232, 232, 134, 145, 156, 167, 178, 189, 200, 205, 213, 221], 86) by decide +kernel) (by rw [hs22_0]; decide) (by rw [hs22_0]; decide) (by rw [hs22_0]; decide) rfl ?_
      refine V_aload_n 109 rfl (show decode M_Trail_count.2.1 108 = .ok (.aload_n 0, 1) by decide +kernel) 0 rfl ?_
      refine V_get (j := 0) (v := vR (SR σ_1 h0 0)) 112 rfl ck_Trail (by decide) (by decide) (show decode M_Trail_count.2.1 109 = .ok (.getfield 10, 3) by decide +kernel) wd_599 rfl ?_
      refine V_getN (j := 0) (v := vR (SR σ_1 (SR σ_1 h0 0) 0)) 115 rfl ck_World (by decide) (by decide) (show decode M_Trail_count.2.1 112 = .ok (.getfield 49, 3) by decide +kernel) wd_498 rfl ?_
      refine V_getN (j := 10) (v := vI (SI σ_1 (SR σ_1 (SR σ_1 h0 0) 0) 10)) 118 rfl ck_Ground (by decide) (by decide) (show decode M_Trail_count.2.1 115 = .ok (.getfield 81, 3) by decide +kernel) wd_236 rfl ?_
      exact V_iret rfl (by decide) (by decide) (show decode M_Trail_count.2.1 118 = .ok (.ireturn, 1) by decide +kernel)
    refine V_ite (fun hs22_1 => ?_) (fun hs22_1 => ?_)
    · refine V_tswIn (off := 97) 119 (show decode M_Trail_count.2.1 22 = .ok (.tableswitch 232 0 17 #[86, 97, 108, 126, 232, 232, 232, 232, 134, 145, 156, 167, 178, 189, 200, 205, 213, 221], 86) by decide +kernel) (by rw [hs22_1]; decide) (by rw [hs22_1]; decide) (by rw [hs22_1]; decide) rfl ?_
      refine V_aload_n 120 rfl (show decode M_Trail_count.2.1 119 = .ok (.aload_n 0, 1) by decide +kernel) 0 rfl ?_
      refine V_get (j := 0) (v := vR (SR σ_1 h0 0)) 123 rfl ck_Trail (by decide) (by decide) (show decode M_Trail_count.2.1 120 = .ok (.getfield 10, 3) by decide +kernel) wd_599 rfl ?_
      refine V_getN (j := 0) (v := vR (SR σ_1 (SR σ_1 h0 0) 0)) 126 rfl ck_World (by decide) (by decide) (show decode M_Trail_count.2.1 123 = .ok (.getfield 49, 3) by decide +kernel) wd_498 rfl ?_
      refine V_getN (j := 11) (v := vI (SI σ_1 (SR σ_1 (SR σ_1 h0 0) 0) 11)) 129 rfl ck_Ground (by decide) (by decide) (show decode M_Trail_count.2.1 126 = .ok (.getfield 131, 3) by decide +kernel) wd_239 rfl ?_
      exact V_iret rfl (by decide) (by decide) (show decode M_Trail_count.2.1 129 = .ok (.ireturn, 1) by decide +kernel)
    refine V_ite (fun hs22_2 => ?_) (fun hs22_2 => ?_)
    · refine V_tswIn (off := 108) 130 (show decode M_Trail_count.2.1 22 = .ok (.tableswitch 232 0 17 #[86, 97, 108, 126, 232, 232, 232, 232, 134, 145, 156, 167, 178, 189, 200, 205, 213, 221], 86) by decide +kernel) (by rw [hs22_2]; decide) (by rw [hs22_2]; decide) (by rw [hs22_2]; decide) rfl ?_
      refine V_aload_n 131 rfl (show decode M_Trail_count.2.1 130 = .ok (.aload_n 0, 1) by decide +kernel) 0 rfl ?_
      refine V_get (j := 0) (v := vR (SR σ_1 h0 0)) 134 rfl ck_Trail (by decide) (by decide) (show decode M_Trail_count.2.1 131 = .ok (.getfield 10, 3) by decide +kernel) wd_599 rfl ?_
      refine V_getN (j := 0) (v := vR (SR σ_1 (SR σ_1 h0 0) 0)) 137 rfl ck_World (by decide) (by decide) (show decode M_Trail_count.2.1 134 = .ok (.getfield 49, 3) by decide +kernel) wd_498 rfl ?_
      refine V_aload_n 138 rfl (show decode M_Trail_count.2.1 137 = .ok (.aload_n 0, 1) by decide +kernel) 0 rfl ?_
      refine V_get (j := 0) (v := vR (SR σ_1 h0 0)) 141 rfl ck_Trail (by decide) (by decide) (show decode M_Trail_count.2.1 138 = .ok (.getfield 10, 3) by decide +kernel) wd_599 rfl ?_
      refine V_getN (j := 8) (v := vI (SI σ_1 (SR σ_1 h0 0) 8)) 144 rfl ck_World (by decide) (by decide) (show decode M_Trail_count.2.1 141 = .ok (.getfield 138, 3) by decide +kernel) wd_514 rfl ?_
      refine V_callVN (tb := tI) (as := [vI (SI σ_1 (SR σ_1 h0 0) 8)]) (rest := []) (na := 1) 147 rfl ck_Ground (by decide) (s_Ground_firesOn (SR σ_1 (SR σ_1 h0 0) 0) (SI σ_1 (SR σ_1 h0 0) 8) (((((b_1 && cK σ_1 h0 12) && cK σ_1 (SR σ_1 h0 0) 11) && cK σ_1 h0 12) && cK σ_1 (SR σ_1 h0 0) 11) && cK σ_1 (SR σ_1 (SR σ_1 h0 0) 0) 2) σ_1) rfl rfl (Nat.le_of_ble_eq_true rfl) (cal_Ground_firesOn _ _ _ _ _ (by decide) (by decide) (by decide)) (show decode M_Trail_count.2.1 144 = .ok (.invokevirtual 406, 3) by decide +kernel) wd_1490 wd_1492 wd_110 (fun r_2 b_2 σ_2 => ?_)
      show V M_Trail_count 4 0 0 0 0 tI _ 147 [(0, vR h0), (1, vI x1)] [vI r_2] b_2 σ_2
      exact V_iret rfl (by decide) (by decide) (show decode M_Trail_count.2.1 147 = .ok (.ireturn, 1) by decide +kernel)
    refine V_ite (fun hs22_3 => ?_) (fun hs22_3 => ?_)
    · refine V_tswIn (off := 126) 148 (show decode M_Trail_count.2.1 22 = .ok (.tableswitch 232 0 17 #[86, 97, 108, 126, 232, 232, 232, 232, 134, 145, 156, 167, 178, 189, 200, 205, 213, 221], 86) by decide +kernel) (by rw [hs22_3]; decide) (by rw [hs22_3]; decide) (by rw [hs22_3]; decide) rfl ?_
      refine V_aload_n 149 rfl (show decode M_Trail_count.2.1 148 = .ok (.aload_n 0, 1) by decide +kernel) 0 rfl ?_
      refine V_get (j := 0) (v := vR (SR σ_1 h0 0)) 152 rfl ck_Trail (by decide) (by decide) (show decode M_Trail_count.2.1 149 = .ok (.getfield 10, 3) by decide +kernel) wd_599 rfl ?_
      refine V_getN (j := 7) (v := vI (SI σ_1 (SR σ_1 h0 0) 7)) 155 rfl ck_World (by decide) (by decide) (show decode M_Trail_count.2.1 152 = .ok (.getfield 45, 3) by decide +kernel) wd_511 rfl ?_
      exact V_iret rfl (by decide) (by decide) (show decode M_Trail_count.2.1 155 = .ok (.ireturn, 1) by decide +kernel)
    refine V_ite (fun hs22_8 => ?_) (fun hs22_8 => ?_)
    · refine V_tswIn (off := 134) 156 (show decode M_Trail_count.2.1 22 = .ok (.tableswitch 232 0 17 #[86, 97, 108, 126, 232, 232, 232, 232, 134, 145, 156, 167, 178, 189, 200, 205, 213, 221], 86) by decide +kernel) (by rw [hs22_8]; decide) (by rw [hs22_8]; decide) (by rw [hs22_8]; decide) rfl ?_
      refine V_aload_n 157 rfl (show decode M_Trail_count.2.1 156 = .ok (.aload_n 0, 1) by decide +kernel) 0 rfl ?_
      refine V_get (j := 0) (v := vR (SR σ_1 h0 0)) 160 rfl ck_Trail (by decide) (by decide) (show decode M_Trail_count.2.1 157 = .ok (.getfield 10, 3) by decide +kernel) wd_599 rfl ?_
      refine V_getN (j := 2) (v := vR (SR σ_1 (SR σ_1 h0 0) 2)) 163 rfl ck_World (by decide) (by decide) (show decode M_Trail_count.2.1 160 = .ok (.getfield 107, 3) by decide +kernel) wd_502 rfl ?_
      refine V_getN (j := 5) (v := vI (SI σ_1 (SR σ_1 (SR σ_1 h0 0) 2) 5)) 166 rfl ck_Post (by decide) (by decide) (show decode M_Trail_count.2.1 163 = .ok (.getfield 233, 3) by decide +kernel) wd_308 rfl ?_
      exact V_iret rfl (by decide) (by decide) (show decode M_Trail_count.2.1 166 = .ok (.ireturn, 1) by decide +kernel)
    refine V_ite (fun hs22_9 => ?_) (fun hs22_9 => ?_)
    · refine V_tswIn (off := 145) 167 (show decode M_Trail_count.2.1 22 = .ok (.tableswitch 232 0 17 #[86, 97, 108, 126, 232, 232, 232, 232, 134, 145, 156, 167, 178, 189, 200, 205, 213, 221], 86) by decide +kernel) (by rw [hs22_9]; decide) (by rw [hs22_9]; decide) (by rw [hs22_9]; decide) rfl ?_
      refine V_aload_n 168 rfl (show decode M_Trail_count.2.1 167 = .ok (.aload_n 0, 1) by decide +kernel) 0 rfl ?_
      refine V_get (j := 0) (v := vR (SR σ_1 h0 0)) 171 rfl ck_Trail (by decide) (by decide) (show decode M_Trail_count.2.1 168 = .ok (.getfield 10, 3) by decide +kernel) wd_599 rfl ?_
      refine V_getN (j := 2) (v := vR (SR σ_1 (SR σ_1 h0 0) 2)) 174 rfl ck_World (by decide) (by decide) (show decode M_Trail_count.2.1 171 = .ok (.getfield 107, 3) by decide +kernel) wd_502 rfl ?_
      refine V_callVN (tb := tI) (as := []) (rest := []) (na := 0) 177 rfl ck_Post (by decide) (s_Post_openInAll (SR σ_1 (SR σ_1 h0 0) 2) (((b_1 && cK σ_1 h0 12) && cK σ_1 (SR σ_1 h0 0) 11) && cK σ_1 (SR σ_1 (SR σ_1 h0 0) 2) 5) σ_1) rfl rfl (Nat.le_of_ble_eq_true rfl) (cal_Post_openInAll _ _ _ _ _ (by decide) (by decide) (by decide)) (show decode M_Trail_count.2.1 174 = .ok (.invokevirtual 409, 3) by decide +kernel) wd_1494 wd_1496 wd_111 (fun r_3 b_3 σ_3 => ?_)
      show V M_Trail_count 4 0 0 0 0 tI _ 177 [(0, vR h0), (1, vI x1)] [vI r_3] b_3 σ_3
      exact V_iret rfl (by decide) (by decide) (show decode M_Trail_count.2.1 177 = .ok (.ireturn, 1) by decide +kernel)
    refine V_ite (fun hs22_10 => ?_) (fun hs22_10 => ?_)
    · refine V_tswIn (off := 156) 178 (show decode M_Trail_count.2.1 22 = .ok (.tableswitch 232 0 17 #[86, 97, 108, 126, 232, 232, 232, 232, 134, 145, 156, 167, 178, 189, 200, 205, 213, 221], 86) by decide +kernel) (by rw [hs22_10]; decide) (by rw [hs22_10]; decide) (by rw [hs22_10]; decide) rfl ?_
      refine V_aload_n 179 rfl (show decode M_Trail_count.2.1 178 = .ok (.aload_n 0, 1) by decide +kernel) 0 rfl ?_
      refine V_get (j := 0) (v := vR (SR σ_1 h0 0)) 182 rfl ck_Trail (by decide) (by decide) (show decode M_Trail_count.2.1 179 = .ok (.getfield 10, 3) by decide +kernel) wd_599 rfl ?_
      refine V_getN (j := 1) (v := vR (SR σ_1 (SR σ_1 h0 0) 1)) 185 rfl ck_World (by decide) (by decide) (show decode M_Trail_count.2.1 182 = .ok (.getfield 158, 3) by decide +kernel) wd_500 rfl ?_
      refine V_getN (j := 1) (v := vI (SI σ_1 (SR σ_1 (SR σ_1 h0 0) 1) 1)) 188 rfl ck_Laws (by decide) (by decide) (show decode M_Trail_count.2.1 185 = .ok (.getfield 162, 3) by decide +kernel) wd_276 rfl ?_
      exact V_iret rfl (by decide) (by decide) (show decode M_Trail_count.2.1 188 = .ok (.ireturn, 1) by decide +kernel)
    refine V_ite (fun hs22_11 => ?_) (fun hs22_11 => ?_)
    · refine V_tswIn (off := 167) 189 (show decode M_Trail_count.2.1 22 = .ok (.tableswitch 232 0 17 #[86, 97, 108, 126, 232, 232, 232, 232, 134, 145, 156, 167, 178, 189, 200, 205, 213, 221], 86) by decide +kernel) (by rw [hs22_11]; decide) (by rw [hs22_11]; decide) (by rw [hs22_11]; decide) rfl ?_
      refine V_aload_n 190 rfl (show decode M_Trail_count.2.1 189 = .ok (.aload_n 0, 1) by decide +kernel) 0 rfl ?_
      refine V_get (j := 0) (v := vR (SR σ_1 h0 0)) 193 rfl ck_Trail (by decide) (by decide) (show decode M_Trail_count.2.1 190 = .ok (.getfield 10, 3) by decide +kernel) wd_599 rfl ?_
      refine V_getN (j := 3) (v := vR (SR σ_1 (SR σ_1 h0 0) 3)) 196 rfl ck_World (by decide) (by decide) (show decode M_Trail_count.2.1 193 = .ok (.getfield 271, 3) by decide +kernel) wd_504 rfl ?_
      refine V_getN (j := 3) (v := vI (SI σ_1 (SR σ_1 (SR σ_1 h0 0) 3) 3)) 199 rfl ck_Permits (by decide) (by decide) (show decode M_Trail_count.2.1 196 = .ok (.getfield 280, 3) by decide +kernel) wd_333 rfl ?_
      exact V_iret rfl (by decide) (by decide) (show decode M_Trail_count.2.1 199 = .ok (.ireturn, 1) by decide +kernel)
    refine V_ite (fun hs22_12 => ?_) (fun hs22_12 => ?_)
    · refine V_tswIn (off := 178) 200 (show decode M_Trail_count.2.1 22 = .ok (.tableswitch 232 0 17 #[86, 97, 108, 126, 232, 232, 232, 232, 134, 145, 156, 167, 178, 189, 200, 205, 213, 221], 86) by decide +kernel) (by rw [hs22_12]; decide) (by rw [hs22_12]; decide) (by rw [hs22_12]; decide) rfl ?_
      refine V_aload_n 201 rfl (show decode M_Trail_count.2.1 200 = .ok (.aload_n 0, 1) by decide +kernel) 0 rfl ?_
      refine V_get (j := 0) (v := vR (SR σ_1 h0 0)) 204 rfl ck_Trail (by decide) (by decide) (show decode M_Trail_count.2.1 201 = .ok (.getfield 10, 3) by decide +kernel) wd_599 rfl ?_
      refine V_getN (j := 4) (v := vR (SR σ_1 (SR σ_1 h0 0) 4)) 207 rfl ck_World (by decide) (by decide) (show decode M_Trail_count.2.1 204 = .ok (.getfield 297, 3) by decide +kernel) wd_506 rfl ?_
      refine V_getN (j := 4) (v := vI (SI σ_1 (SR σ_1 (SR σ_1 h0 0) 4) 4)) 210 rfl ck_Supply (by decide) (by decide) (show decode M_Trail_count.2.1 207 = .ok (.getfield 320, 3) by decide +kernel) wd_365 rfl ?_
      exact V_iret rfl (by decide) (by decide) (show decode M_Trail_count.2.1 210 = .ok (.ireturn, 1) by decide +kernel)
    refine V_ite (fun hs22_13 => ?_) (fun hs22_13 => ?_)
    · refine V_tswIn (off := 189) 211 (show decode M_Trail_count.2.1 22 = .ok (.tableswitch 232 0 17 #[86, 97, 108, 126, 232, 232, 232, 232, 134, 145, 156, 167, 178, 189, 200, 205, 213, 221], 86) by decide +kernel) (by rw [hs22_13]; decide) (by rw [hs22_13]; decide) (by rw [hs22_13]; decide) rfl ?_
      refine V_aload_n 212 rfl (show decode M_Trail_count.2.1 211 = .ok (.aload_n 0, 1) by decide +kernel) 0 rfl ?_
      refine V_get (j := 0) (v := vR (SR σ_1 h0 0)) 215 rfl ck_Trail (by decide) (by decide) (show decode M_Trail_count.2.1 212 = .ok (.getfield 10, 3) by decide +kernel) wd_599 rfl ?_
      refine V_getN (j := 5) (v := vR (SR σ_1 (SR σ_1 h0 0) 5)) 218 rfl ck_World (by decide) (by decide) (show decode M_Trail_count.2.1 215 = .ok (.getfield 59, 3) by decide +kernel) wd_508 rfl ?_
      refine V_getN (j := 2) (v := vI (SI σ_1 (SR σ_1 (SR σ_1 h0 0) 5) 2)) 221 rfl ck_Album (by decide) (by decide) (show decode M_Trail_count.2.1 218 = .ok (.getfield 344, 3) by decide +kernel) wd_396 rfl ?_
      exact V_iret rfl (by decide) (by decide) (show decode M_Trail_count.2.1 221 = .ok (.ireturn, 1) by decide +kernel)
    refine V_ite (fun hs22_14 => ?_) (fun hs22_14 => ?_)
    · refine V_tswIn (off := 200) 222 (show decode M_Trail_count.2.1 22 = .ok (.tableswitch 232 0 17 #[86, 97, 108, 126, 232, 232, 232, 232, 134, 145, 156, 167, 178, 189, 200, 205, 213, 221], 86) by decide +kernel) (by rw [hs22_14]; decide) (by rw [hs22_14]; decide) (by rw [hs22_14]; decide) rfl ?_
      refine V_aload_n 223 rfl (show decode M_Trail_count.2.1 222 = .ok (.aload_n 0, 1) by decide +kernel) 0 rfl ?_
      refine V_get (j := 6) (v := vI (SI σ_1 h0 6)) 226 rfl ck_Trail (by decide) (by decide) (show decode M_Trail_count.2.1 223 = .ok (.getfield 390, 3) by decide +kernel) wd_605 rfl ?_
      exact V_iret rfl (by decide) (by decide) (show decode M_Trail_count.2.1 226 = .ok (.ireturn, 1) by decide +kernel)
    refine V_ite (fun hs22_15 => ?_) (fun hs22_15 => ?_)
    · refine V_tswIn (off := 205) 227 (show decode M_Trail_count.2.1 22 = .ok (.tableswitch 232 0 17 #[86, 97, 108, 126, 232, 232, 232, 232, 134, 145, 156, 167, 178, 189, 200, 205, 213, 221], 86) by decide +kernel) (by rw [hs22_15]; decide) (by rw [hs22_15]; decide) (by rw [hs22_15]; decide) rfl ?_
      refine V_aload_n 228 rfl (show decode M_Trail_count.2.1 227 = .ok (.aload_n 0, 1) by decide +kernel) 0 rfl ?_
      refine V_get (j := 3) (v := vR (SR σ_1 h0 3)) 231 rfl ck_Trail (by decide) (by decide) (show decode M_Trail_count.2.1 228 = .ok (.getfield 25, 3) by decide +kernel) wd_602 rfl ?_
      refine V_getN (j := 1) (v := vI (SI σ_1 (SR σ_1 h0 3) 1)) 234 rfl ck_Tape (by decide) (by decide) (show decode M_Trail_count.2.1 231 = .ok (.getfield 147, 3) by decide +kernel) wd_542 rfl ?_
      exact V_iret rfl (by decide) (by decide) (show decode M_Trail_count.2.1 234 = .ok (.ireturn, 1) by decide +kernel)
    refine V_ite (fun hs22_16 => ?_) (fun hs22_16 => ?_)
    · refine V_tswIn (off := 213) 235 (show decode M_Trail_count.2.1 22 = .ok (.tableswitch 232 0 17 #[86, 97, 108, 126, 232, 232, 232, 232, 134, 145, 156, 167, 178, 189, 200, 205, 213, 221], 86) by decide +kernel) (by rw [hs22_16]; decide) (by rw [hs22_16]; decide) (by rw [hs22_16]; decide) rfl ?_
      refine V_aload_n 236 rfl (show decode M_Trail_count.2.1 235 = .ok (.aload_n 0, 1) by decide +kernel) 0 rfl ?_
      refine V_get (j := 0) (v := vR (SR σ_1 h0 0)) 239 rfl ck_Trail (by decide) (by decide) (show decode M_Trail_count.2.1 236 = .ok (.getfield 10, 3) by decide +kernel) wd_599 rfl ?_
      refine V_getN (j := 8) (v := vI (SI σ_1 (SR σ_1 h0 0) 8)) 242 rfl ck_World (by decide) (by decide) (show decode M_Trail_count.2.1 239 = .ok (.getfield 138, 3) by decide +kernel) wd_514 rfl ?_
      exact V_iret rfl (by decide) (by decide) (show decode M_Trail_count.2.1 242 = .ok (.ireturn, 1) by decide +kernel)
    refine V_ite (fun hs22_17 => ?_) (fun hs22_17 => ?_)
    · refine V_tswIn (off := 221) 243 (show decode M_Trail_count.2.1 22 = .ok (.tableswitch 232 0 17 #[86, 97, 108, 126, 232, 232, 232, 232, 134, 145, 156, 167, 178, 189, 200, 205, 213, 221], 86) by decide +kernel) (by rw [hs22_17]; decide) (by rw [hs22_17]; decide) (by rw [hs22_17]; decide) rfl ?_
      refine V_aload_n 244 rfl (show decode M_Trail_count.2.1 243 = .ok (.aload_n 0, 1) by decide +kernel) 0 rfl ?_
      refine V_get (j := 0) (v := vR (SR σ_1 h0 0)) 247 rfl ck_Trail (by decide) (by decide) (show decode M_Trail_count.2.1 244 = .ok (.getfield 10, 3) by decide +kernel) wd_599 rfl ?_
      refine V_getN (j := 0) (v := vR (SR σ_1 (SR σ_1 h0 0) 0)) 250 rfl ck_World (by decide) (by decide) (show decode M_Trail_count.2.1 247 = .ok (.getfield 49, 3) by decide +kernel) wd_498 rfl ?_
      refine V_getN (j := 9) (v := vI (SI σ_1 (SR σ_1 (SR σ_1 h0 0) 0) 9)) 253 rfl ck_Ground (by decide) (by decide) (show decode M_Trail_count.2.1 250 = .ok (.getfield 67, 3) by decide +kernel) wd_231 rfl ?_
      exact V_iret rfl (by decide) (by decide) (show decode M_Trail_count.2.1 253 = .ok (.ireturn, 1) by decide +kernel)
    · refine V_tswD 254 (show decode M_Trail_count.2.1 22 = .ok (.tableswitch 232 0 17 #[86, 97, 108, 126, 232, 232, 232, 232, 134, 145, 156, 167, 178, 189, 200, 205, 213, 221], 86) by decide +kernel) rfl (by decide) ?_ ?_
      · intro z hz hz2
        have hm : z = 0 ∨ z = 1 ∨ z = 2 ∨ z = 3 ∨ z = 4 ∨ z = 5 ∨ z = 6 ∨ z = 7 ∨ z = 8 ∨ z = 9 ∨ z = 10 ∨ z = 11 ∨ z = 12 ∨ z = 13 ∨ z = 14 ∨ z = 15 ∨ z = 16 ∨ z = 17 := by simp at hz2; omega
        rcases hm with rfl | rfl | rfl | rfl | rfl | rfl | rfl | rfl | rfl | rfl | rfl | rfl | rfl | rfl | rfl | rfl | rfl | rfl
        · exact absurd (Int32.toInt_inj.mp (hz.trans (by decide))) hs22_0
        · exact absurd (Int32.toInt_inj.mp (hz.trans (by decide))) hs22_1
        · exact absurd (Int32.toInt_inj.mp (hz.trans (by decide))) hs22_2
        · exact absurd (Int32.toInt_inj.mp (hz.trans (by decide))) hs22_3
        · rfl
        · rfl
        · rfl
        · rfl
        · exact absurd (Int32.toInt_inj.mp (hz.trans (by decide))) hs22_8
        · exact absurd (Int32.toInt_inj.mp (hz.trans (by decide))) hs22_9
        · exact absurd (Int32.toInt_inj.mp (hz.trans (by decide))) hs22_10
        · exact absurd (Int32.toInt_inj.mp (hz.trans (by decide))) hs22_11
        · exact absurd (Int32.toInt_inj.mp (hz.trans (by decide))) hs22_12
        · exact absurd (Int32.toInt_inj.mp (hz.trans (by decide))) hs22_13
        · exact absurd (Int32.toInt_inj.mp (hz.trans (by decide))) hs22_14
        · exact absurd (Int32.toInt_inj.mp (hz.trans (by decide))) hs22_15
        · exact absurd (Int32.toInt_inj.mp (hz.trans (by decide))) hs22_16
        · exact absurd (Int32.toInt_inj.mp (hz.trans (by decide))) hs22_17
      · skip
        refine V_ldc 256 rfl (show decode M_Trail_count.2.1 254 = .ok (.ldc 44, 2) by decide +kernel) wd_631 ?_
        exact V_iret rfl (by decide) (by decide) (show decode M_Trail_count.2.1 256 = .ok (.ireturn, 1) by decide +kernel)
  · skip
    refine V_aload_n 11 rfl (show decode M_Trail_count.2.1 10 = .ok (.aload_n 0, 1) by decide +kernel) 0 rfl ?_
    refine V_get (j := 0) (v := vR (SR σ_1 h0 0)) 14 rfl ck_Trail (by decide) (by decide) (show decode M_Trail_count.2.1 11 = .ok (.getfield 10, 3) by decide +kernel) wd_599 rfl ?_
    refine V_iload_n 15 rfl (show decode M_Trail_count.2.1 14 = .ok (.iload_n 1, 1) by decide +kernel) 1 rfl ?_
    refine V_iconst 16 rfl (show decode M_Trail_count.2.1 15 = .ok (.iconst 4, 1) by decide +kernel) (v := 4) rfl ?_
    refine V_isub 17 rfl (show decode M_Trail_count.2.1 16 = .ok (.isub, 1) by decide +kernel) ?_
    refine V_callVN (tb := tI) (as := [vI (x1 - (4 : Int32))]) (rest := []) (na := 1) 20 rfl ck_World (by decide) (s_World_walkersThatAre (SR σ_1 h0 0) (x1 - (4 : Int32)) ((b_1 && cK σ_1 h0 12) && cK σ_1 (SR σ_1 h0 0) 11) σ_1) rfl rfl (Nat.le_of_ble_eq_true rfl) (cal_World_walkersThatAre _ _ _ _ _ (by decide) (by decide) (by decide)) (show decode M_Trail_count.2.1 17 = .ok (.invokevirtual 403, 3) by decide +kernel) wd_1486 wd_1488 wd_109 (fun r_4 b_4 σ_4 => ?_)
    show V M_Trail_count 4 0 0 0 0 tI _ 20 [(0, vR h0), (1, vI x1)] [vI r_4] b_4 σ_4
    exact V_iret rfl (by decide) (by decide) (show decode M_Trail_count.2.1 20 = .ok (.ireturn, 1) by decide +kernel)
theorem cal_Trail_count (d mc ms k n : Nat) (h1 : 4 + 1 ≤ d) (h2 : k + 0 ≤ mc) (h3 : n + 0 ≤ ms) : Cal M_Trail_count 4 0 0 1 d mc ms k n := ⟨wd_1485, wd_170, by decide, h1, by decide, h2, h3⟩
abbrev M_Trail_refusalOfDays : MD := (⟨"LongTrail", "refusalOfDays", "(I)I"⟩, prog_1_method_48_code, 2, (some FieldType.int))
def f_Trail_refusalOfDays (h0 : Nat) (x1 : Int32) (b : Bool) (σ : Sto) : Rs Int32 := (bd_ (f_Trail_within x1 (1 : Int32) (60 : Int32) b σ) (fun (r_1 : Int32) (b_1 : Bool) (σ_1 : Sto) => (if r_1 = 0 then ((-1000000001 : Int32), b_1, σ_1) else (if (999 : Int32) < ((SI σ_1 (SR σ_1 h0 0) 8) + x1) then ((-1000000003 : Int32), ((b_1 && cK σ_1 h0 12) && cK σ_1 (SR σ_1 h0 0) 11), σ_1) else ((0 : Int32), ((b_1 && cK σ_1 h0 12) && cK σ_1 (SR σ_1 h0 0) 11), σ_1)))))
set_option maxRecDepth 100000 in
set_option maxHeartbeats 4000000 in
theorem s_Trail_refusalOfDays : ∀ (h0 : Nat) (x1 : Int32) (b : Bool) (σ : Sto), Snd M_Trail_refusalOfDays 2 0 0 [vR h0, vI x1] b σ (tI (f_Trail_refusalOfDays h0 x1 b σ).1) (f_Trail_refusalOfDays h0 x1 b σ).2.1 (f_Trail_refusalOfDays h0 x1 b σ).2.2 := by
  intro h0 x1 b σ
  refine Snd_of (tv := tI) (by decide) (Nat.le_of_ble_eq_true rfl) ?_
  show V M_Trail_refusalOfDays 2 0 0 0 0 tI (f_Trail_refusalOfDays h0 x1 b σ) 0 [(0, vR h0), (1, vI x1)] [] b σ
  unfold f_Trail_refusalOfDays
  refine V_iload_n 1 rfl (show decode M_Trail_refusalOfDays.2.1 0 = .ok (.iload_n 1, 1) by decide +kernel) 1 rfl ?_
  refine V_iconst 2 rfl (show decode M_Trail_refusalOfDays.2.1 1 = .ok (.iconst 1, 1) by decide +kernel) (v := 1) rfl ?_
  refine V_bipush 4 rfl (show decode M_Trail_refusalOfDays.2.1 2 = .ok (.bipush 60, 2) by decide +kernel) (v := 60) rfl ?_
  refine V_callS (tb := tI) (as := [vI x1, vI (1 : Int32), vI (60 : Int32)]) (rest := []) (na := 3) 7 rfl (s_Trail_within x1 (1 : Int32) (60 : Int32) b σ) rfl rfl (Nat.le_of_ble_eq_true rfl) (cal_Trail_within _ _ _ _ _ (by decide) (by decide) (by decide)) (show decode M_Trail_refusalOfDays.2.1 4 = .ok (.invokestatic 40, 3) by decide +kernel) wd_628 wd_629 (fun r_1 b_1 σ_1 => ?_)
  show V M_Trail_refusalOfDays 2 0 0 0 0 tI _ 7 [(0, vR h0), (1, vI x1)] [vI r_1] b_1 σ_1
  refine V_ifne 10 13 rfl (show decode M_Trail_refusalOfDays.2.1 7 = .ok (.ifCond .ne 6, 3) by decide +kernel) rfl ?_ ?_
  · skip
    refine V_ldc 12 rfl (show decode M_Trail_refusalOfDays.2.1 10 = .ok (.ldc 44, 2) by decide +kernel) wd_631 ?_
    exact V_iret rfl (by decide) (by decide) (show decode M_Trail_refusalOfDays.2.1 12 = .ok (.ireturn, 1) by decide +kernel)
  · skip
    refine V_aload_n 14 rfl (show decode M_Trail_refusalOfDays.2.1 13 = .ok (.aload_n 0, 1) by decide +kernel) 0 rfl ?_
    refine V_get (j := 0) (v := vR (SR σ_1 h0 0)) 17 rfl ck_Trail (by decide) (by decide) (show decode M_Trail_refusalOfDays.2.1 14 = .ok (.getfield 10, 3) by decide +kernel) wd_599 rfl ?_
    refine V_getN (j := 8) (v := vI (SI σ_1 (SR σ_1 h0 0) 8)) 20 rfl ck_World (by decide) (by decide) (show decode M_Trail_refusalOfDays.2.1 17 = .ok (.getfield 138, 3) by decide +kernel) wd_514 rfl ?_
    refine V_iload_n 21 rfl (show decode M_Trail_refusalOfDays.2.1 20 = .ok (.iload_n 1, 1) by decide +kernel) 1 rfl ?_
    refine V_iadd 22 rfl (show decode M_Trail_refusalOfDays.2.1 21 = .ok (.iadd, 1) by decide +kernel) ?_
    refine V_sipush 25 rfl (show decode M_Trail_refusalOfDays.2.1 22 = .ok (.sipush 999, 3) by decide +kernel) (v := 999) rfl ?_
    refine V_icmple 28 33 rfl (show decode M_Trail_refusalOfDays.2.1 25 = .ok (.if_icmp .le 8, 3) by decide +kernel) rfl ?_ ?_
    · skip
      refine V_ldc 30 rfl (show decode M_Trail_refusalOfDays.2.1 28 = .ok (.ldc 84, 2) by decide +kernel) wd_657 ?_
      refine V_goto 34 (show decode M_Trail_refusalOfDays.2.1 30 = .ok (.goto 4, 3) by decide +kernel) rfl ?_
      exact V_iret rfl (by decide) (by decide) (show decode M_Trail_refusalOfDays.2.1 34 = .ok (.ireturn, 1) by decide +kernel)
    · skip
      refine V_iconst 34 rfl (show decode M_Trail_refusalOfDays.2.1 33 = .ok (.iconst 0, 1) by decide +kernel) (v := 0) rfl ?_
      exact V_iret rfl (by decide) (by decide) (show decode M_Trail_refusalOfDays.2.1 34 = .ok (.ireturn, 1) by decide +kernel)
theorem cal_Trail_refusalOfDays (d mc ms k n : Nat) (h1 : 2 + 1 ≤ d) (h2 : k + 0 ≤ mc) (h3 : n + 0 ≤ ms) : Cal M_Trail_refusalOfDays 2 0 0 1 d mc ms k n := ⟨wd_1082, wd_170, by decide, h1, by decide, h2, h3⟩
abbrev M_Trail_crowd : MD := (⟨"LongTrail", "crowd", "(I)I"⟩, prog_1_method_26_code, 5, (some FieldType.int))
def b_Trail_crowd_28 (h0 : Nat) (x1 : Int32) (L28 : Int32 → Int32 → Bool → Sto → Rs Int32) (x3 : Int32) (x4 : Int32) (b : Bool) (σ : Sto) : Rs Int32 := (if x4 < x1 then (bd_ (f_World_passDay (SR σ h0 2) ((b && cK σ h0 12) && cK σ (SR σ h0 2) 11) σ) (fun (r_6 : Int32) (b_6 : Bool) (σ_6 : Sto) => (lt_ (mxI x3 r_6) (fun (x3_7 : Int32) => (lt_ (x4 + (1 : Int32)) (fun (x4_8 : Int32) => (L28 x3_7 x4_8 b_6 σ_6))))))) else (x3, b, σ))
def f_Trail_crowd (h0 : Nat) (x1 : Int32) (b : Bool) (σ : Sto) : Rs Int32 := (bd_ (f_Trail_refusalOfDays h0 x1 (b && cK σ h0 12) σ) (fun (r_1 : Int32) (b_1 : Bool) (σ_1 : Sto) => (lt_ r_1 (fun (x2_2 : Int32) => (if x2_2 = 0 then (bd_ (f_World_become (SR σ_1 h0 2) (SR σ_1 h0 0) (((b_1 && cK σ_1 h0 12) && cK σ_1 h0 12) && cK σ_1 (SR σ_1 h0 2) 11) σ_1) (fun (r_3 : Unit) (b_3 : Bool) (σ_3 : Sto) => (lt_ (0 : Int32) (fun (x3_4 : Int32) => (lt_ (0 : Int32) (fun (x4_5 : Int32) => (lp_ (b_Trail_crowd_28 h0 x1) (fun (x3 : Int32) (x4 : Int32) (b : Bool) (σ : Sto) => (0, false, σ)) fuel_ x3_4 x4_5 b_3 σ_3))))))) else (x2_2, b_1, σ_1))))))
set_option maxRecDepth 100000 in
set_option maxHeartbeats 4000000 in
theorem s_Trail_crowd : ∀ (h0 : Nat) (x1 : Int32) (b : Bool) (σ : Sto), Snd M_Trail_crowd 7 0 0 [vR h0, vI x1] b σ (tI (f_Trail_crowd h0 x1 b σ).1) (f_Trail_crowd h0 x1 b σ).2.1 (f_Trail_crowd h0 x1 b σ).2.2 := by
  intro h0 x1 b σ
  refine Snd_of (tv := tI) (by decide) (Nat.le_of_ble_eq_true rfl) ?_
  show V M_Trail_crowd 7 0 0 0 0 tI (f_Trail_crowd h0 x1 b σ) 0 [(0, vR h0), (1, vI x1)] [] b σ
  unfold f_Trail_crowd
  refine V_aload_n 1 rfl (show decode M_Trail_crowd.2.1 0 = .ok (.aload_n 0, 1) by decide +kernel) 0 rfl ?_
  refine V_iload_n 2 rfl (show decode M_Trail_crowd.2.1 1 = .ok (.iload_n 1, 1) by decide +kernel) 1 rfl ?_
  refine V_callV (tb := tI) (as := [vI x1]) (rest := []) (na := 1) 5 rfl ck_Trail (by decide) (s_Trail_refusalOfDays h0 x1 (b && cK σ h0 12) σ) rfl rfl (Nat.le_of_ble_eq_true rfl) (cal_Trail_refusalOfDays _ _ _ _ _ (by decide) (by decide) (by decide)) (show decode M_Trail_crowd.2.1 2 = .ok (.invokevirtual 255, 3) by decide +kernel) wd_1079 wd_1081 wd_43 (fun r_1 b_1 σ_1 => ?_)
  show V M_Trail_crowd 7 0 0 0 0 tI _ 5 [(0, vR h0), (1, vI x1)] [vI r_1] b_1 σ_1
  refine V_istore_n (fun x2_2 => [(2, vI x2_2), (0, vR h0), (1, vI x1)]) 6 rfl (show decode M_Trail_crowd.2.1 5 = .ok (.istore_n 2, 1) by decide +kernel) (by decide) (fun _ => rfl) (fun x2_2 => ?_)
  refine V_iload_n 7 rfl (show decode M_Trail_crowd.2.1 6 = .ok (.iload_n 2, 1) by decide +kernel) 0 rfl ?_
  refine V_ifeq 10 12 rfl (show decode M_Trail_crowd.2.1 7 = .ok (.ifCond .eq 5, 3) by decide +kernel) rfl ?_ ?_
  · skip
    refine V_aload_n 13 rfl (show decode M_Trail_crowd.2.1 12 = .ok (.aload_n 0, 1) by decide +kernel) 1 rfl ?_
    refine V_get (j := 2) (v := vR (SR σ_1 h0 2)) 16 rfl ck_Trail (by decide) (by decide) (show decode M_Trail_crowd.2.1 13 = .ok (.getfield 19, 3) by decide +kernel) wd_601 rfl ?_
    refine V_aload_n 17 rfl (show decode M_Trail_crowd.2.1 16 = .ok (.aload_n 0, 1) by decide +kernel) 1 rfl ?_
    refine V_get (j := 0) (v := vR (SR σ_1 h0 0)) 20 rfl ck_Trail (by decide) (by decide) (show decode M_Trail_crowd.2.1 17 = .ok (.getfield 10, 3) by decide +kernel) wd_599 rfl ?_
    refine V_callVN (tb := tU) (as := [vR (SR σ_1 h0 0)]) (rest := []) (na := 1) 23 rfl ck_World (by decide) (s_World_become (SR σ_1 h0 2) (SR σ_1 h0 0) (((b_1 && cK σ_1 h0 12) && cK σ_1 h0 12) && cK σ_1 (SR σ_1 h0 2) 11) σ_1) rfl rfl (Nat.le_of_ble_eq_true rfl) (cal_World_become _ _ _ _ _ (by decide) (by decide) (by decide)) (show decode M_Trail_crowd.2.1 20 = .ok (.invokevirtual 261, 3) by decide +kernel) wd_1217 wd_1219 wd_72 (fun r_3 b_3 σ_3 => ?_)
    show V M_Trail_crowd 7 0 0 0 0 tI _ 23 [(2, vI x2_2), (0, vR h0), (1, vI x1)] [] b_3 σ_3
    refine V_iconst 24 rfl (show decode M_Trail_crowd.2.1 23 = .ok (.iconst 0, 1) by decide +kernel) (v := 0) rfl ?_
    refine V_istore_n (fun x3_4 => [(3, vI x3_4), (2, vI x2_2), (0, vR h0), (1, vI x1)]) 25 rfl (show decode M_Trail_crowd.2.1 24 = .ok (.istore_n 3, 1) by decide +kernel) (by decide) (fun _ => rfl) (fun x3_4 => ?_)
    refine V_iconst 26 rfl (show decode M_Trail_crowd.2.1 25 = .ok (.iconst 0, 1) by decide +kernel) (v := 0) rfl ?_
    refine V_istore (fun x4_5 => [(4, vI x4_5), (3, vI x3_4), (2, vI x2_2), (0, vR h0), (1, vI x1)]) 28 rfl (show decode M_Trail_crowd.2.1 26 = .ok (.istore 4, 2) by decide +kernel) (by decide) (fun _ => rfl) (fun x4_5 => ?_)
    refine V_sub [3, 4, 1, 0] rfl ?_
    refine lp_P (fun (L28 : Int32 → Int32 → Bool → Sto → Rs Int32) => ∀ (x3 : Int32) (x4 : Int32) (b : Bool) (σ : Sto), V M_Trail_crowd 7 0 0 0 0 tI (L28 x3 x4 b σ) 28 [(0, vR h0), (1, vI x1), (3, vI x3), (4, vI x4)] [] b σ) ?_ ?_ fuel_ x3_4 x4_5 b_3 σ_3
    · intro x3 x4 b σ; exact V_bad
    · intro L28 hL28 x3 x4 b σ
      unfold b_Trail_crowd_28
      refine V_iload 30 rfl (show decode M_Trail_crowd.2.1 28 = .ok (.iload 4, 2) by decide +kernel) 3 rfl ?_
      refine V_iload_n 31 rfl (show decode M_Trail_crowd.2.1 30 = .ok (.iload_n 1, 1) by decide +kernel) 1 rfl ?_
      refine V_icmpge 34 52 rfl (show decode M_Trail_crowd.2.1 31 = .ok (.if_icmp .ge 21, 3) by decide +kernel) rfl ?_ ?_
      · skip
        refine V_iload_n 35 rfl (show decode M_Trail_crowd.2.1 34 = .ok (.iload_n 3, 1) by decide +kernel) 2 rfl ?_
        refine V_aload_n 36 rfl (show decode M_Trail_crowd.2.1 35 = .ok (.aload_n 0, 1) by decide +kernel) 0 rfl ?_
        refine V_get (j := 2) (v := vR (SR σ h0 2)) 39 rfl ck_Trail (by decide) (by decide) (show decode M_Trail_crowd.2.1 36 = .ok (.getfield 19, 3) by decide +kernel) wd_601 rfl ?_
        refine V_callVN (tb := tI) (as := []) (rest := [vI x3]) (na := 0) 42 rfl ck_World (by decide) (s_World_passDay (SR σ h0 2) ((b && cK σ h0 12) && cK σ (SR σ h0 2) 11) σ) rfl rfl (Nat.le_of_ble_eq_true rfl) (cal_World_passDay _ _ _ _ _ (by decide) (by decide) (by decide)) (show decode M_Trail_crowd.2.1 39 = .ok (.invokevirtual 258, 3) by decide +kernel) wd_1083 wd_1085 wd_44 (fun r_6 b_6 σ_6 => ?_)
        show V M_Trail_crowd 7 0 0 0 0 tI _ 42 [(0, vR h0), (1, vI x1), (3, vI x3), (4, vI x4)] [vI r_6, vI x3] b_6 σ_6
        refine V_max 45 rfl (show decode M_Trail_crowd.2.1 42 = .ok (.invokestatic 265, 3) by decide +kernel) wd_1254 wd_877 wd_186 wd_maxc (by decide) (Nat.le_of_ble_eq_true rfl) (by decide) (by decide) ?_
        refine V_istore_n (fun x3_7 => [(3, vI x3_7), (0, vR h0), (1, vI x1), (4, vI x4)]) 46 rfl (show decode M_Trail_crowd.2.1 45 = .ok (.istore_n 3, 1) by decide +kernel) (by decide) (fun _ => rfl) (fun x3_7 => ?_)
        refine V_iinc (fun x4_8 => [(4, vI x4_8), (3, vI x3_7), (0, vR h0), (1, vI x1)]) 49 rfl (show decode M_Trail_crowd.2.1 46 = .ok (.iinc 4 1, 3) by decide +kernel) 3 rfl (w := 1) rfl (by decide) (fun _ => rfl) (fun x4_8 => ?_)
        refine V_goto 28 (show decode M_Trail_crowd.2.1 49 = .ok (.goto (-21), 3) by decide +kernel) rfl ?_
        exact V_sub [2, 3, 1, 0] rfl (hL28 x3_7 x4_8 b_6 σ_6)
      · skip
        refine V_iload_n 53 rfl (show decode M_Trail_crowd.2.1 52 = .ok (.iload_n 3, 1) by decide +kernel) 2 rfl ?_
        exact V_iret rfl (by decide) (by decide) (show decode M_Trail_crowd.2.1 53 = .ok (.ireturn, 1) by decide +kernel)
  · skip
    refine V_iload_n 11 rfl (show decode M_Trail_crowd.2.1 10 = .ok (.iload_n 2, 1) by decide +kernel) 0 rfl ?_
    exact V_iret rfl (by decide) (by decide) (show decode M_Trail_crowd.2.1 11 = .ok (.ireturn, 1) by decide +kernel)
theorem cal_Trail_crowd (d mc ms k n : Nat) (h1 : 7 + 1 ≤ d) (h2 : k + 0 ≤ mc) (h3 : n + 0 ≤ ms) : Cal M_Trail_crowd 7 0 0 1 d mc ms k n := ⟨wd_1216, wd_170, by decide, h1, by decide, h2, h3⟩
abbrev M_Ground_nextWater : MD := (⟨"LongTrail$Ground", "nextWater", "(I)I"⟩, prog_3_method_16_code, 4, (some FieldType.int))
def b_Ground_nextWater_4 (h0 : Nat) (x1 : Int32) (L4 : Int32 → Int32 → Bool → Sto → Rs Int32) (x2 : Int32) (x3 : Int32) (b : Bool) (σ : Sto) : Rs Int32 := (if x3 < (SI σ h0 10) then (lt_ (fun (x2_52 : Int32) (b : Bool) (σ : Sto) => (lt_ (x3 + (1 : Int32)) (fun (x3_3 : Int32) => (L4 x2_52 x3_3 b σ)))) (fun J52 => (if x1 < (SI σ (SR σ h0 1) (ix x3)) then (bd_ (f_Ground_isOf h0 x3 (1 : Int32) ((((b && cK σ h0 2) && cK σ h0 2) && cA σ (SR σ h0 1) 21 x3) && cK σ h0 2) σ) (fun (r_4 : Int32) (b_4 : Bool) (σ_4 : Sto) => (if r_4 = 0 then (J52 x2 b_4 σ_4) else (lt_ (fun (b : Bool) (σ : Sto) => (lt_ (SI σ (SR σ h0 1) (ix x3)) (fun (x2_5 : Int32) => (J52 x2_5 ((b && cK σ h0 2) && cA σ (SR σ h0 1) 21 x3) σ)))) (fun J45 => (if x2 < 0 then (J45 b_4 σ_4) else (if (SI σ_4 (SR σ_4 h0 1) (ix x3)) < x2 then (J45 ((b_4 && cK σ_4 h0 2) && cA σ_4 (SR σ_4 h0 1) 21 x3) σ_4) else (J52 x2 ((b_4 && cK σ_4 h0 2) && cA σ_4 (SR σ_4 h0 1) 21 x3) σ_4)))))))) else (J52 x2 (((b && cK σ h0 2) && cK σ h0 2) && cA σ (SR σ h0 1) 21 x3) σ)))) else (x2, (b && cK σ h0 2), σ))
def f_Ground_nextWater (h0 : Nat) (x1 : Int32) (b : Bool) (σ : Sto) : Rs Int32 := (lt_ (-1 : Int32) (fun (x2_1 : Int32) => (lt_ (0 : Int32) (fun (x3_2 : Int32) => (lp_ (b_Ground_nextWater_4 h0 x1) (fun (x2 : Int32) (x3 : Int32) (b : Bool) (σ : Sto) => (0, false, σ)) fuel_ x2_1 x3_2 b σ)))))
set_option maxRecDepth 100000 in
set_option maxHeartbeats 4000000 in
theorem s_Ground_nextWater : ∀ (h0 : Nat) (x1 : Int32) (b : Bool) (σ : Sto), Snd M_Ground_nextWater 2 0 0 [vR h0, vI x1] b σ (tI (f_Ground_nextWater h0 x1 b σ).1) (f_Ground_nextWater h0 x1 b σ).2.1 (f_Ground_nextWater h0 x1 b σ).2.2 := by
  intro h0 x1 b σ
  refine Snd_of (tv := tI) (by decide) (Nat.le_of_ble_eq_true rfl) ?_
  show V M_Ground_nextWater 2 0 0 0 0 tI (f_Ground_nextWater h0 x1 b σ) 0 [(0, vR h0), (1, vI x1)] [] b σ
  unfold f_Ground_nextWater
  refine V_iconst 1 rfl (show decode M_Ground_nextWater.2.1 0 = .ok (.iconst (-1), 1) by decide +kernel) (v := -1) rfl ?_
  refine V_istore_n (fun x2_1 => [(2, vI x2_1), (0, vR h0), (1, vI x1)]) 2 rfl (show decode M_Ground_nextWater.2.1 1 = .ok (.istore_n 2, 1) by decide +kernel) (by decide) (fun _ => rfl) (fun x2_1 => ?_)
  refine V_iconst 3 rfl (show decode M_Ground_nextWater.2.1 2 = .ok (.iconst 0, 1) by decide +kernel) (v := 0) rfl ?_
  refine V_istore_n (fun x3_2 => [(3, vI x3_2), (2, vI x2_1), (0, vR h0), (1, vI x1)]) 4 rfl (show decode M_Ground_nextWater.2.1 3 = .ok (.istore_n 3, 1) by decide +kernel) (by decide) (fun _ => rfl) (fun x3_2 => ?_)
  refine V_sub [2, 3, 1, 0] rfl ?_
  refine lp_P (fun (L4 : Int32 → Int32 → Bool → Sto → Rs Int32) => ∀ (x2 : Int32) (x3 : Int32) (b : Bool) (σ : Sto), V M_Ground_nextWater 2 0 0 0 0 tI (L4 x2 x3 b σ) 4 [(0, vR h0), (1, vI x1), (2, vI x2), (3, vI x3)] [] b σ) ?_ ?_ fuel_ x2_1 x3_2 b σ
  · intro x2 x3 b σ; exact V_bad
  · intro L4 hL4 x2 x3 b σ
    unfold b_Ground_nextWater_4
    refine V_iload_n 5 rfl (show decode M_Ground_nextWater.2.1 4 = .ok (.iload_n 3, 1) by decide +kernel) 3 rfl ?_
    refine V_aload_n 6 rfl (show decode M_Ground_nextWater.2.1 5 = .ok (.aload_n 0, 1) by decide +kernel) 0 rfl ?_
    refine V_get (j := 10) (v := vI (SI σ h0 10)) 9 rfl ck_Ground (by decide) (by decide) (show decode M_Ground_nextWater.2.1 6 = .ok (.getfield 50, 3) by decide +kernel) wd_235 rfl ?_
    refine V_icmpge 12 58 rfl (show decode M_Ground_nextWater.2.1 9 = .ok (.if_icmp .ge 49, 3) by decide +kernel) rfl ?_ ?_
    · skip
      refine V_aload_n 13 rfl (show decode M_Ground_nextWater.2.1 12 = .ok (.aload_n 0, 1) by decide +kernel) 0 rfl ?_
      refine V_get (j := 1) (v := vR (SR σ h0 1)) 16 rfl ck_Ground (by decide) (by decide) (show decode M_Ground_nextWater.2.1 13 = .ok (.getfield 15, 3) by decide +kernel) wd_214 rfl ?_
      refine V_iload_n 17 rfl (show decode M_Ground_nextWater.2.1 16 = .ok (.iload_n 3, 1) by decide +kernel) 3 rfl ?_
      refine V_ald_int 18 rfl (show decode M_Ground_nextWater.2.1 17 = .ok (.iaload, 1) by decide +kernel) ?_
      refine V_iload_n 19 rfl (show decode M_Ground_nextWater.2.1 18 = .ok (.iload_n 1, 1) by decide +kernel) 1 rfl ?_
      refine V_jn (fun (J52 : Int32 → Bool → Sto → Rs Int32) => ∀ (x2_52 : Int32) (b : Bool) (σ : Sto), V M_Ground_nextWater 2 0 0 0 0 tI (J52 x2_52 b σ) 52 [(0, vR h0), (1, vI x1), (2, vI x2_52), (3, vI x3)] [] b σ) ?_ (fun J52 hJ52 => ?_)
      · intro x2_52 b σ
        refine V_iinc (fun x3_3 => [(3, vI x3_3), (0, vR h0), (1, vI x1), (2, vI x2_52)]) 55 rfl (show decode M_Ground_nextWater.2.1 52 = .ok (.iinc 3 1, 3) by decide +kernel) 3 rfl (w := 1) rfl (by decide) (fun _ => rfl) (fun x3_3 => ?_)
        refine V_goto 4 (show decode M_Ground_nextWater.2.1 55 = .ok (.goto (-51), 3) by decide +kernel) rfl ?_
        exact V_sub [1, 2, 3, 0] rfl (hL4 x2_52 x3_3 b σ)
      · skip
        refine V_icmple 22 52 rfl (show decode M_Ground_nextWater.2.1 19 = .ok (.if_icmp .le 33, 3) by decide +kernel) rfl ?_ ?_
        · skip
          refine V_aload_n 23 rfl (show decode M_Ground_nextWater.2.1 22 = .ok (.aload_n 0, 1) by decide +kernel) 0 rfl ?_
          refine V_iload_n 24 rfl (show decode M_Ground_nextWater.2.1 23 = .ok (.iload_n 3, 1) by decide +kernel) 3 rfl ?_
          refine V_iconst 25 rfl (show decode M_Ground_nextWater.2.1 24 = .ok (.iconst 1, 1) by decide +kernel) (v := 1) rfl ?_
          refine V_callV (tb := tI) (as := [vI x3, vI (1 : Int32)]) (rest := []) (na := 2) 28 rfl ck_Ground (by decide) (s_Ground_isOf h0 x3 (1 : Int32) ((((b && cK σ h0 2) && cK σ h0 2) && cA σ (SR σ h0 1) 21 x3) && cK σ h0 2) σ) rfl rfl (Nat.le_of_ble_eq_true rfl) (cal_Ground_isOf _ _ _ _ _ (by decide) (by decide) (by decide)) (show decode M_Ground_nextWater.2.1 25 = .ok (.invokevirtual 63, 3) by decide +kernel) wd_701 wd_688 wd_9 (fun r_4 b_4 σ_4 => ?_)
          show V M_Ground_nextWater 2 0 0 0 0 tI _ 28 [(0, vR h0), (1, vI x1), (2, vI x2), (3, vI x3)] [vI r_4] b_4 σ_4
          refine V_ifeq 31 52 rfl (show decode M_Ground_nextWater.2.1 28 = .ok (.ifCond .eq 24, 3) by decide +kernel) rfl ?_ ?_
          · skip
            exact V_sub [0, 1, 2, 3] rfl (hJ52 x2 b_4 σ_4)
          · skip
            refine V_iload_n 32 rfl (show decode M_Ground_nextWater.2.1 31 = .ok (.iload_n 2, 1) by decide +kernel) 2 rfl ?_
            refine V_jn (fun (J45 : Bool → Sto → Rs Int32) => ∀ (b : Bool) (σ : Sto), V M_Ground_nextWater 2 0 0 0 0 tI (J45 b σ) 45 [(0, vR h0), (1, vI x1), (3, vI x3)] [] b σ) ?_ (fun J45 hJ45 => ?_)
            · intro b σ
              refine V_aload_n 46 rfl (show decode M_Ground_nextWater.2.1 45 = .ok (.aload_n 0, 1) by decide +kernel) 0 rfl ?_
              refine V_get (j := 1) (v := vR (SR σ h0 1)) 49 rfl ck_Ground (by decide) (by decide) (show decode M_Ground_nextWater.2.1 46 = .ok (.getfield 15, 3) by decide +kernel) wd_214 rfl ?_
              refine V_iload_n 50 rfl (show decode M_Ground_nextWater.2.1 49 = .ok (.iload_n 3, 1) by decide +kernel) 2 rfl ?_
              refine V_ald_int 51 rfl (show decode M_Ground_nextWater.2.1 50 = .ok (.iaload, 1) by decide +kernel) ?_
              refine V_istore_n (fun x2_5 => [(2, vI x2_5), (0, vR h0), (1, vI x1), (3, vI x3)]) 52 rfl (show decode M_Ground_nextWater.2.1 51 = .ok (.istore_n 2, 1) by decide +kernel) (by decide) (fun _ => rfl) (fun x2_5 => ?_)
              exact V_sub [1, 2, 0, 3] rfl (hJ52 x2_5 ((b && cK σ h0 2) && cA σ (SR σ h0 1) 21 x3) σ)
            · skip
              refine V_iflt 35 45 rfl (show decode M_Ground_nextWater.2.1 32 = .ok (.ifCond .lt 13, 3) by decide +kernel) rfl ?_ ?_
              · skip
                exact V_sub [0, 1, 3] rfl (hJ45 b_4 σ_4)
              · skip
                refine V_aload_n 36 rfl (show decode M_Ground_nextWater.2.1 35 = .ok (.aload_n 0, 1) by decide +kernel) 0 rfl ?_
                refine V_get (j := 1) (v := vR (SR σ_4 h0 1)) 39 rfl ck_Ground (by decide) (by decide) (show decode M_Ground_nextWater.2.1 36 = .ok (.getfield 15, 3) by decide +kernel) wd_214 rfl ?_
                refine V_iload_n 40 rfl (show decode M_Ground_nextWater.2.1 39 = .ok (.iload_n 3, 1) by decide +kernel) 3 rfl ?_
                refine V_ald_int 41 rfl (show decode M_Ground_nextWater.2.1 40 = .ok (.iaload, 1) by decide +kernel) ?_
                refine V_iload_n 42 rfl (show decode M_Ground_nextWater.2.1 41 = .ok (.iload_n 2, 1) by decide +kernel) 2 rfl ?_
                refine V_icmpge 45 52 rfl (show decode M_Ground_nextWater.2.1 42 = .ok (.if_icmp .ge 10, 3) by decide +kernel) rfl ?_ ?_
                · skip
                  exact V_sub [0, 1, 3] rfl (hJ45 ((b_4 && cK σ_4 h0 2) && cA σ_4 (SR σ_4 h0 1) 21 x3) σ_4)
                · skip
                  exact V_sub [0, 1, 2, 3] rfl (hJ52 x2 ((b_4 && cK σ_4 h0 2) && cA σ_4 (SR σ_4 h0 1) 21 x3) σ_4)
        · skip
          exact V_sub [0, 1, 2, 3] rfl (hJ52 x2 (((b && cK σ h0 2) && cK σ h0 2) && cA σ (SR σ h0 1) 21 x3) σ)
    · skip
      refine V_iload_n 59 rfl (show decode M_Ground_nextWater.2.1 58 = .ok (.iload_n 2, 1) by decide +kernel) 2 rfl ?_
      exact V_iret rfl (by decide) (by decide) (show decode M_Ground_nextWater.2.1 59 = .ok (.ireturn, 1) by decide +kernel)
theorem cal_Ground_nextWater (d mc ms k n : Nat) (h1 : 2 + 1 ≤ d) (h2 : k + 0 ≤ mc) (h3 : n + 0 ≤ ms) : Cal M_Ground_nextWater 2 0 0 1 d mc ms k n := ⟨wd_743, wd_172, by decide, h1, by decide, h2, h3⟩
abbrev M_Trail_dry : MD := (⟨"LongTrail", "dry", "(I)I"⟩, prog_1_method_11_code, 3, (some FieldType.int))
def f_Trail_dry (h0 : Nat) (x1 : Int32) (b : Bool) (σ : Sto) : Rs Int32 := (bd_ (f_Ground_hasMile (SR σ (SR σ h0 0) 0) x1 (((b && cK σ h0 12) && cK σ (SR σ h0 0) 11) && cK σ (SR σ (SR σ h0 0) 0) 2) σ) (fun (r_1 : Int32) (b_1 : Bool) (σ_1 : Sto) => (if r_1 = 0 then ((-1000000001 : Int32), b_1, σ_1) else (bd_ (f_Ground_nextWater (SR σ_1 (SR σ_1 h0 0) 0) x1 (((b_1 && cK σ_1 h0 12) && cK σ_1 (SR σ_1 h0 0) 11) && cK σ_1 (SR σ_1 (SR σ_1 h0 0) 0) 2) σ_1) (fun (r_2 : Int32) (b_2 : Bool) (σ_2 : Sto) => (lt_ r_2 (fun (x2_3 : Int32) => (if x2_3 < 0 then ((-1000000005 : Int32), b_2, σ_2) else ((x2_3 - x1), b_2, σ_2)))))))))
set_option maxRecDepth 100000 in
set_option maxHeartbeats 4000000 in
theorem s_Trail_dry : ∀ (h0 : Nat) (x1 : Int32) (b : Bool) (σ : Sto), Snd M_Trail_dry 3 0 0 [vR h0, vI x1] b σ (tI (f_Trail_dry h0 x1 b σ).1) (f_Trail_dry h0 x1 b σ).2.1 (f_Trail_dry h0 x1 b σ).2.2 := by
  intro h0 x1 b σ
  refine Snd_of (tv := tI) (by decide) (Nat.le_of_ble_eq_true rfl) ?_
  show V M_Trail_dry 3 0 0 0 0 tI (f_Trail_dry h0 x1 b σ) 0 [(0, vR h0), (1, vI x1)] [] b σ
  unfold f_Trail_dry
  refine V_aload_n 1 rfl (show decode M_Trail_dry.2.1 0 = .ok (.aload_n 0, 1) by decide +kernel) 0 rfl ?_
  refine V_get (j := 0) (v := vR (SR σ h0 0)) 4 rfl ck_Trail (by decide) (by decide) (show decode M_Trail_dry.2.1 1 = .ok (.getfield 10, 3) by decide +kernel) wd_599 rfl ?_
  refine V_getN (j := 0) (v := vR (SR σ (SR σ h0 0) 0)) 7 rfl ck_World (by decide) (by decide) (show decode M_Trail_dry.2.1 4 = .ok (.getfield 49, 3) by decide +kernel) wd_498 rfl ?_
  refine V_iload_n 8 rfl (show decode M_Trail_dry.2.1 7 = .ok (.iload_n 1, 1) by decide +kernel) 1 rfl ?_
  refine V_callVN (tb := tI) (as := [vI x1]) (rest := []) (na := 1) 11 rfl ck_Ground (by decide) (s_Ground_hasMile (SR σ (SR σ h0 0) 0) x1 (((b && cK σ h0 12) && cK σ (SR σ h0 0) 11) && cK σ (SR σ (SR σ h0 0) 0) 2) σ) rfl rfl (Nat.le_of_ble_eq_true rfl) (cal_Ground_hasMile _ _ _ _ _ (by decide) (by decide) (by decide)) (show decode M_Trail_dry.2.1 8 = .ok (.invokevirtual 70, 3) by decide +kernel) wd_645 wd_647 wd_2 (fun r_1 b_1 σ_1 => ?_)
  show V M_Trail_dry 3 0 0 0 0 tI _ 11 [(0, vR h0), (1, vI x1)] [vI r_1] b_1 σ_1
  refine V_ifne 14 17 rfl (show decode M_Trail_dry.2.1 11 = .ok (.ifCond .ne 6, 3) by decide +kernel) rfl ?_ ?_
  · skip
    refine V_ldc 16 rfl (show decode M_Trail_dry.2.1 14 = .ok (.ldc 44, 2) by decide +kernel) wd_631 ?_
    exact V_iret rfl (by decide) (by decide) (show decode M_Trail_dry.2.1 16 = .ok (.ireturn, 1) by decide +kernel)
  · skip
    refine V_aload_n 18 rfl (show decode M_Trail_dry.2.1 17 = .ok (.aload_n 0, 1) by decide +kernel) 0 rfl ?_
    refine V_get (j := 0) (v := vR (SR σ_1 h0 0)) 21 rfl ck_Trail (by decide) (by decide) (show decode M_Trail_dry.2.1 18 = .ok (.getfield 10, 3) by decide +kernel) wd_599 rfl ?_
    refine V_getN (j := 0) (v := vR (SR σ_1 (SR σ_1 h0 0) 0)) 24 rfl ck_World (by decide) (by decide) (show decode M_Trail_dry.2.1 21 = .ok (.getfield 49, 3) by decide +kernel) wd_498 rfl ?_
    refine V_iload_n 25 rfl (show decode M_Trail_dry.2.1 24 = .ok (.iload_n 1, 1) by decide +kernel) 1 rfl ?_
    refine V_callVN (tb := tI) (as := [vI x1]) (rest := []) (na := 1) 28 rfl ck_Ground (by decide) (s_Ground_nextWater (SR σ_1 (SR σ_1 h0 0) 0) x1 (((b_1 && cK σ_1 h0 12) && cK σ_1 (SR σ_1 h0 0) 11) && cK σ_1 (SR σ_1 (SR σ_1 h0 0) 0) 2) σ_1) rfl rfl (Nat.le_of_ble_eq_true rfl) (cal_Ground_nextWater _ _ _ _ _ (by decide) (by decide) (by decide)) (show decode M_Trail_dry.2.1 25 = .ok (.invokevirtual 144, 3) by decide +kernel) wd_740 wd_742 wd_15 (fun r_2 b_2 σ_2 => ?_)
    show V M_Trail_dry 3 0 0 0 0 tI _ 28 [(0, vR h0), (1, vI x1)] [vI r_2] b_2 σ_2
    refine V_istore_n (fun x2_3 => [(2, vI x2_3), (0, vR h0), (1, vI x1)]) 29 rfl (show decode M_Trail_dry.2.1 28 = .ok (.istore_n 2, 1) by decide +kernel) (by decide) (fun _ => rfl) (fun x2_3 => ?_)
    refine V_iload_n 30 rfl (show decode M_Trail_dry.2.1 29 = .ok (.iload_n 2, 1) by decide +kernel) 0 rfl ?_
    refine V_ifge 33 38 rfl (show decode M_Trail_dry.2.1 30 = .ok (.ifCond .ge 8, 3) by decide +kernel) rfl ?_ ?_
    · skip
      refine V_ldc 35 rfl (show decode M_Trail_dry.2.1 33 = .ok (.ldc 123, 2) by decide +kernel) wd_706 ?_
      refine V_goto 41 (show decode M_Trail_dry.2.1 35 = .ok (.goto 6, 3) by decide +kernel) rfl ?_
      exact V_iret rfl (by decide) (by decide) (show decode M_Trail_dry.2.1 41 = .ok (.ireturn, 1) by decide +kernel)
    · skip
      refine V_iload_n 39 rfl (show decode M_Trail_dry.2.1 38 = .ok (.iload_n 2, 1) by decide +kernel) 0 rfl ?_
      refine V_iload_n 40 rfl (show decode M_Trail_dry.2.1 39 = .ok (.iload_n 1, 1) by decide +kernel) 2 rfl ?_
      refine V_isub 41 rfl (show decode M_Trail_dry.2.1 40 = .ok (.isub, 1) by decide +kernel) ?_
      exact V_iret rfl (by decide) (by decide) (show decode M_Trail_dry.2.1 41 = .ok (.ireturn, 1) by decide +kernel)
theorem cal_Trail_dry (d mc ms k n : Nat) (h1 : 3 + 1 ≤ d) (h2 : k + 0 ≤ mc) (h3 : n + 0 ≤ ms) : Cal M_Trail_dry 3 0 0 1 d mc ms k n := ⟨wd_739, wd_170, by decide, h1, by decide, h2, h3⟩
abbrev M_Tape_append : MD := (⟨"LongTrail$Tape", "append", "(I)V"⟩, prog_9_method_2_code, 3, (none : Option FieldType))
def b_Tape_append_3 (h0 : Nat) (x1 : Int32) (L3 : Int32 → Bool → Sto → Rs Unit) (x2 : Int32) (b : Bool) (σ : Sto) : Rs Unit := (if x2 < 0 then ((), b, σ) else (if (SI σ h0 1) < (96 : Int32) then (lt_ (pI σ (SR σ h0 0) (ix (SI σ h0 1)) (((((x1 >>> (x2 &&& 31))).toInt8.toInt32)).toInt8.toInt32)) (fun (σ_2 : Sto) => (lt_ (pI σ_2 h0 1 ((SI σ_2 h0 1) + (1 : Int32))) (fun (σ_3 : Sto) => (lt_ (x2 + (-8 : Int32)) (fun (x2_4 : Int32) => (L3 x2_4 ((((((b && cK σ h0 8) && cK σ h0 8) && cK σ h0 8) && cA σ (SR σ h0 0) 22 (SI σ h0 1)) && cK σ_2 h0 8) && cK σ_2 h0 8) σ_3))))))) else ((), (b && cK σ h0 8), σ)))
def f_Tape_append (h0 : Nat) (x1 : Int32) (b : Bool) (σ : Sto) : Rs Unit := (lt_ (24 : Int32) (fun (x2_1 : Int32) => (lp_ (b_Tape_append_3 h0 x1) (fun (x2 : Int32) (b : Bool) (σ : Sto) => ((), false, σ)) fuel_ x2_1 b σ)))
set_option maxRecDepth 100000 in
set_option maxHeartbeats 4000000 in
theorem s_Tape_append : ∀ (h0 : Nat) (x1 : Int32) (b : Bool) (σ : Sto), Snd M_Tape_append 1 0 0 [vR h0, vI x1] b σ (tU (f_Tape_append h0 x1 b σ).1) (f_Tape_append h0 x1 b σ).2.1 (f_Tape_append h0 x1 b σ).2.2 := by
  intro h0 x1 b σ
  refine Snd_of (tv := tU) (by decide) (Nat.le_of_ble_eq_true rfl) ?_
  show V M_Tape_append 1 0 0 0 0 tU (f_Tape_append h0 x1 b σ) 0 [(0, vR h0), (1, vI x1)] [] b σ
  unfold f_Tape_append
  refine V_bipush 2 rfl (show decode M_Tape_append.2.1 0 = .ok (.bipush 24, 2) by decide +kernel) (v := 24) rfl ?_
  refine V_istore_n (fun x2_1 => [(2, vI x2_1), (0, vR h0), (1, vI x1)]) 3 rfl (show decode M_Tape_append.2.1 2 = .ok (.istore_n 2, 1) by decide +kernel) (by decide) (fun _ => rfl) (fun x2_1 => ?_)
  refine V_sub [1, 2, 0] rfl ?_
  refine lp_P (fun (L3 : Int32 → Bool → Sto → Rs Unit) => ∀ (x2 : Int32) (b : Bool) (σ : Sto), V M_Tape_append 1 0 0 0 0 tU (L3 x2 b σ) 3 [(0, vR h0), (1, vI x1), (2, vI x2)] [] b σ) ?_ ?_ fuel_ x2_1 b σ
  · intro x2 b σ; exact V_bad
  · intro L3 hL3 x2 b σ
    unfold b_Tape_append_3
    refine V_iload_n 4 rfl (show decode M_Tape_append.2.1 3 = .ok (.iload_n 2, 1) by decide +kernel) 2 rfl ?_
    refine V_iflt 7 45 rfl (show decode M_Tape_append.2.1 4 = .ok (.ifCond .lt 41, 3) by decide +kernel) rfl ?_ ?_
    · skip
      exact V_vret rfl (by decide) (by decide) (show decode M_Tape_append.2.1 45 = .ok (.return_, 1) by decide +kernel)
    · skip
      refine V_aload_n 8 rfl (show decode M_Tape_append.2.1 7 = .ok (.aload_n 0, 1) by decide +kernel) 0 rfl ?_
      refine V_get (j := 1) (v := vI (SI σ h0 1)) 11 rfl ck_Tape (by decide) (by decide) (show decode M_Tape_append.2.1 8 = .ok (.getfield 17, 3) by decide +kernel) wd_541 rfl ?_
      refine V_bipush 13 rfl (show decode M_Tape_append.2.1 11 = .ok (.bipush 96, 2) by decide +kernel) (v := 96) rfl ?_
      refine V_icmpge 16 45 rfl (show decode M_Tape_append.2.1 13 = .ok (.if_icmp .ge 32, 3) by decide +kernel) rfl ?_ ?_
      · skip
        refine V_aload_n 17 rfl (show decode M_Tape_append.2.1 16 = .ok (.aload_n 0, 1) by decide +kernel) 0 rfl ?_
        refine V_get (j := 0) (v := vR (SR σ h0 0)) 20 rfl ck_Tape (by decide) (by decide) (show decode M_Tape_append.2.1 17 = .ok (.getfield 9, 3) by decide +kernel) wd_540 rfl ?_
        refine V_aload_n 21 rfl (show decode M_Tape_append.2.1 20 = .ok (.aload_n 0, 1) by decide +kernel) 0 rfl ?_
        refine V_get (j := 1) (v := vI (SI σ h0 1)) 24 rfl ck_Tape (by decide) (by decide) (show decode M_Tape_append.2.1 21 = .ok (.getfield 17, 3) by decide +kernel) wd_541 rfl ?_
        refine V_iload_n 25 rfl (show decode M_Tape_append.2.1 24 = .ok (.iload_n 1, 1) by decide +kernel) 1 rfl ?_
        refine V_iload_n 26 rfl (show decode M_Tape_append.2.1 25 = .ok (.iload_n 2, 1) by decide +kernel) 2 rfl ?_
        refine V_ishr 27 rfl (show decode M_Tape_append.2.1 26 = .ok (.ishr, 1) by decide +kernel) ?_
        refine V_i2b 28 rfl (show decode M_Tape_append.2.1 27 = .ok (.i2b, 1) by decide +kernel) ?_
        refine V_ast_byte 29 rfl (show decode M_Tape_append.2.1 28 = .ok (.bastore, 1) by decide +kernel) (fun σ_2 => ?_)
        refine V_aload_n 30 rfl (show decode M_Tape_append.2.1 29 = .ok (.aload_n 0, 1) by decide +kernel) 0 rfl ?_
        refine V_dup 31 rfl (show decode M_Tape_append.2.1 30 = .ok (.dup, 1) by decide +kernel) rfl ?_
        refine V_get (j := 1) (v := vI (SI σ_2 h0 1)) 34 rfl ck_Tape (by decide) (by decide) (show decode M_Tape_append.2.1 31 = .ok (.getfield 17, 3) by decide +kernel) wd_541 rfl ?_
        refine V_iconst 35 rfl (show decode M_Tape_append.2.1 34 = .ok (.iconst 1, 1) by decide +kernel) (v := 1) rfl ?_
        refine V_iadd 36 rfl (show decode M_Tape_append.2.1 35 = .ok (.iadd, 1) by decide +kernel) ?_
        refine V_putI (j := 1) 39 rfl ck_Tape (by decide) (by decide) (show decode M_Tape_append.2.1 36 = .ok (.putfield 17, 3) by decide +kernel) wd_541 rfl (fun _ => rfl) rfl rfl (fun σ_3 => ?_)
        refine V_iinc (fun x2_4 => [(2, vI x2_4), (0, vR h0), (1, vI x1)]) 42 rfl (show decode M_Tape_append.2.1 39 = .ok (.iinc 2 (-8), 3) by decide +kernel) 2 rfl (w := -8) rfl (by decide) (fun _ => rfl) (fun x2_4 => ?_)
        refine V_goto 3 (show decode M_Tape_append.2.1 42 = .ok (.goto (-39), 3) by decide +kernel) rfl ?_
        exact V_sub [1, 2, 0] rfl (hL3 x2_4 ((((((b && cK σ h0 8) && cK σ h0 8) && cK σ h0 8) && cA σ (SR σ h0 0) 22 (SI σ h0 1)) && cK σ_2 h0 8) && cK σ_2 h0 8) σ_3)
      · skip
        exact V_vret rfl (by decide) (by decide) (show decode M_Tape_append.2.1 45 = .ok (.return_, 1) by decide +kernel)
theorem cal_Tape_append (d mc ms k n : Nat) (h1 : 1 + 1 ≤ d) (h2 : k + 0 ≤ mc) (h3 : n + 0 ≤ ms) : Cal M_Tape_append 1 0 0 1 d mc ms k n := ⟨wd_751, wd_179, by decide, h1, by decide, h2, h3⟩
abbrev M_Trail_feed : MD := (⟨"LongTrail", "feed", "(III)I"⟩, prog_1_method_12_code, 4, (some FieldType.int))
def f_Trail_feed (h0 : Nat) (x1 : Int32) (x2 : Int32) (x3 : Int32) (b : Bool) (σ : Sto) : Rs Int32 := (if (96 : Int32) < ((SI σ (SR σ h0 3) 1) + (12 : Int32)) then ((-1000000003 : Int32), ((b && cK σ h0 12) && cK σ (SR σ h0 3) 8), σ) else (bd_ (f_Tape_append (SR σ h0 3) x1 ((((b && cK σ h0 12) && cK σ (SR σ h0 3) 8) && cK σ h0 12) && cK σ (SR σ h0 3) 8) σ) (fun (r_1 : Unit) (b_1 : Bool) (σ_1 : Sto) => (bd_ (f_Tape_append (SR σ_1 h0 3) x2 ((b_1 && cK σ_1 h0 12) && cK σ_1 (SR σ_1 h0 3) 8) σ_1) (fun (r_2 : Unit) (b_2 : Bool) (σ_2 : Sto) => (bd_ (f_Tape_append (SR σ_2 h0 3) x3 ((b_2 && cK σ_2 h0 12) && cK σ_2 (SR σ_2 h0 3) 8) σ_2) (fun (r_3 : Unit) (b_3 : Bool) (σ_3 : Sto) => ((SI σ_3 (SR σ_3 h0 3) 1), ((b_3 && cK σ_3 h0 12) && cK σ_3 (SR σ_3 h0 3) 8), σ_3))))))))
set_option maxRecDepth 100000 in
set_option maxHeartbeats 4000000 in
theorem s_Trail_feed : ∀ (h0 : Nat) (x1 : Int32) (x2 : Int32) (x3 : Int32) (b : Bool) (σ : Sto), Snd M_Trail_feed 2 0 0 [vR h0, vI x1, vI x2, vI x3] b σ (tI (f_Trail_feed h0 x1 x2 x3 b σ).1) (f_Trail_feed h0 x1 x2 x3 b σ).2.1 (f_Trail_feed h0 x1 x2 x3 b σ).2.2 := by
  intro h0 x1 x2 x3 b σ
  refine Snd_of (tv := tI) (by decide) (Nat.le_of_ble_eq_true rfl) ?_
  show V M_Trail_feed 2 0 0 0 0 tI (f_Trail_feed h0 x1 x2 x3 b σ) 0 [(0, vR h0), (1, vI x1), (2, vI x2), (3, vI x3)] [] b σ
  unfold f_Trail_feed
  refine V_aload_n 1 rfl (show decode M_Trail_feed.2.1 0 = .ok (.aload_n 0, 1) by decide +kernel) 0 rfl ?_
  refine V_get (j := 3) (v := vR (SR σ h0 3)) 4 rfl ck_Trail (by decide) (by decide) (show decode M_Trail_feed.2.1 1 = .ok (.getfield 25, 3) by decide +kernel) wd_602 rfl ?_
  refine V_getN (j := 1) (v := vI (SI σ (SR σ h0 3) 1)) 7 rfl ck_Tape (by decide) (by decide) (show decode M_Trail_feed.2.1 4 = .ok (.getfield 147, 3) by decide +kernel) wd_542 rfl ?_
  refine V_bipush 9 rfl (show decode M_Trail_feed.2.1 7 = .ok (.bipush 12, 2) by decide +kernel) (v := 12) rfl ?_
  refine V_iadd 10 rfl (show decode M_Trail_feed.2.1 9 = .ok (.iadd, 1) by decide +kernel) ?_
  refine V_bipush 12 rfl (show decode M_Trail_feed.2.1 10 = .ok (.bipush 96, 2) by decide +kernel) (v := 96) rfl ?_
  refine V_icmple 15 18 rfl (show decode M_Trail_feed.2.1 12 = .ok (.if_icmp .le 6, 3) by decide +kernel) rfl ?_ ?_
  · skip
    refine V_ldc 17 rfl (show decode M_Trail_feed.2.1 15 = .ok (.ldc 84, 2) by decide +kernel) wd_657 ?_
    exact V_iret rfl (by decide) (by decide) (show decode M_Trail_feed.2.1 17 = .ok (.ireturn, 1) by decide +kernel)
  · skip
    refine V_aload_n 19 rfl (show decode M_Trail_feed.2.1 18 = .ok (.aload_n 0, 1) by decide +kernel) 0 rfl ?_
    refine V_get (j := 3) (v := vR (SR σ h0 3)) 22 rfl ck_Trail (by decide) (by decide) (show decode M_Trail_feed.2.1 19 = .ok (.getfield 25, 3) by decide +kernel) wd_602 rfl ?_
    refine V_iload_n 23 rfl (show decode M_Trail_feed.2.1 22 = .ok (.iload_n 1, 1) by decide +kernel) 1 rfl ?_
    refine V_callVN (tb := tU) (as := [vI x1]) (rest := []) (na := 1) 26 rfl ck_Tape (by decide) (s_Tape_append (SR σ h0 3) x1 ((((b && cK σ h0 12) && cK σ (SR σ h0 3) 8) && cK σ h0 12) && cK σ (SR σ h0 3) 8) σ) rfl rfl (Nat.le_of_ble_eq_true rfl) (cal_Tape_append _ _ _ _ _ (by decide) (by decide) (by decide)) (show decode M_Trail_feed.2.1 23 = .ok (.invokevirtual 150, 3) by decide +kernel) wd_748 wd_750 wd_16 (fun r_1 b_1 σ_1 => ?_)
    show V M_Trail_feed 2 0 0 0 0 tI _ 26 [(0, vR h0), (1, vI x1), (2, vI x2), (3, vI x3)] [] b_1 σ_1
    refine V_aload_n 27 rfl (show decode M_Trail_feed.2.1 26 = .ok (.aload_n 0, 1) by decide +kernel) 0 rfl ?_
    refine V_get (j := 3) (v := vR (SR σ_1 h0 3)) 30 rfl ck_Trail (by decide) (by decide) (show decode M_Trail_feed.2.1 27 = .ok (.getfield 25, 3) by decide +kernel) wd_602 rfl ?_
    refine V_iload_n 31 rfl (show decode M_Trail_feed.2.1 30 = .ok (.iload_n 2, 1) by decide +kernel) 2 rfl ?_
    refine V_callVN (tb := tU) (as := [vI x2]) (rest := []) (na := 1) 34 rfl ck_Tape (by decide) (s_Tape_append (SR σ_1 h0 3) x2 ((b_1 && cK σ_1 h0 12) && cK σ_1 (SR σ_1 h0 3) 8) σ_1) rfl rfl (Nat.le_of_ble_eq_true rfl) (cal_Tape_append _ _ _ _ _ (by decide) (by decide) (by decide)) (show decode M_Trail_feed.2.1 31 = .ok (.invokevirtual 150, 3) by decide +kernel) wd_748 wd_750 wd_16 (fun r_2 b_2 σ_2 => ?_)
    show V M_Trail_feed 2 0 0 0 0 tI _ 34 [(0, vR h0), (1, vI x1), (2, vI x2), (3, vI x3)] [] b_2 σ_2
    refine V_aload_n 35 rfl (show decode M_Trail_feed.2.1 34 = .ok (.aload_n 0, 1) by decide +kernel) 0 rfl ?_
    refine V_get (j := 3) (v := vR (SR σ_2 h0 3)) 38 rfl ck_Trail (by decide) (by decide) (show decode M_Trail_feed.2.1 35 = .ok (.getfield 25, 3) by decide +kernel) wd_602 rfl ?_
    refine V_iload_n 39 rfl (show decode M_Trail_feed.2.1 38 = .ok (.iload_n 3, 1) by decide +kernel) 3 rfl ?_
    refine V_callVN (tb := tU) (as := [vI x3]) (rest := []) (na := 1) 42 rfl ck_Tape (by decide) (s_Tape_append (SR σ_2 h0 3) x3 ((b_2 && cK σ_2 h0 12) && cK σ_2 (SR σ_2 h0 3) 8) σ_2) rfl rfl (Nat.le_of_ble_eq_true rfl) (cal_Tape_append _ _ _ _ _ (by decide) (by decide) (by decide)) (show decode M_Trail_feed.2.1 39 = .ok (.invokevirtual 150, 3) by decide +kernel) wd_748 wd_750 wd_16 (fun r_3 b_3 σ_3 => ?_)
    show V M_Trail_feed 2 0 0 0 0 tI _ 42 [(0, vR h0), (1, vI x1), (2, vI x2), (3, vI x3)] [] b_3 σ_3
    refine V_aload_n 43 rfl (show decode M_Trail_feed.2.1 42 = .ok (.aload_n 0, 1) by decide +kernel) 0 rfl ?_
    refine V_get (j := 3) (v := vR (SR σ_3 h0 3)) 46 rfl ck_Trail (by decide) (by decide) (show decode M_Trail_feed.2.1 43 = .ok (.getfield 25, 3) by decide +kernel) wd_602 rfl ?_
    refine V_getN (j := 1) (v := vI (SI σ_3 (SR σ_3 h0 3) 1)) 49 rfl ck_Tape (by decide) (by decide) (show decode M_Trail_feed.2.1 46 = .ok (.getfield 147, 3) by decide +kernel) wd_542 rfl ?_
    exact V_iret rfl (by decide) (by decide) (show decode M_Trail_feed.2.1 49 = .ok (.ireturn, 1) by decide +kernel)
theorem cal_Trail_feed (d mc ms k n : Nat) (h1 : 2 + 1 ≤ d) (h2 : k + 0 ≤ mc) (h3 : n + 0 ≤ ms) : Cal M_Trail_feed 2 0 0 3 d mc ms k n := ⟨wd_747, wd_170, by decide, h1, by decide, h2, h3⟩
abbrev M_Trail_finds : MD := (⟨"LongTrail", "finds", "(II)I"⟩, prog_1_method_21_code, 4, (some FieldType.int))
def f_Trail_finds (h0 : Nat) (x1 : Int32) (x2 : Int32) (b : Bool) (σ : Sto) : Rs Int32 := (bd_ (f_World_hasWalker (SR σ h0 0) x1 ((b && cK σ h0 12) && cK σ (SR σ h0 0) 11) σ) (fun (r_1 : Int32) (b_1 : Bool) (σ_1 : Sto) => (lt_ (fun (b : Bool) (σ : Sto) => ((-1000000001 : Int32), b, σ)) (fun J21 => (if r_1 = 0 then (J21 b_1 σ_1) else (bd_ (f_Trail_within x2 (1 : Int32) (20 : Int32) b_1 σ_1) (fun (r_2 : Int32) (b_2 : Bool) (σ_2 : Sto) => (if r_2 = 0 then (J21 b_2 σ_2) else (lt_ (SR σ_2 (SR σ_2 (SR σ_2 h0 0) 6) (ix x1)) (fun (h3_3 : Nat) => (if (SI σ_2 h3_3 5) = (1 : Int32) then (bd_ (f_Walker_packFood h3_3 x2 (((((b_2 && cK σ_2 h0 12) && cK σ_2 (SR σ_2 h0 0) 11) && cA σ_2 (SR σ_2 (SR σ_2 h0 0) 6) 26 x1) && cK σ_2 h3_3 10) && cK σ_2 h3_3 10) σ_2) (fun (r_4 : Unit) (b_4 : Bool) (σ_4 : Sto) => ((SI σ_4 h3_3 7), (b_4 && cK σ_4 h3_3 10), σ_4))) else ((-1000000002 : Int32), ((((b_2 && cK σ_2 h0 12) && cK σ_2 (SR σ_2 h0 0) 11) && cA σ_2 (SR σ_2 (SR σ_2 h0 0) 6) 26 x1) && cK σ_2 h3_3 10), σ_2))))))))))))
set_option maxRecDepth 100000 in
set_option maxHeartbeats 4000000 in
theorem s_Trail_finds : ∀ (h0 : Nat) (x1 : Int32) (x2 : Int32) (b : Bool) (σ : Sto), Snd M_Trail_finds 3 0 0 [vR h0, vI x1, vI x2] b σ (tI (f_Trail_finds h0 x1 x2 b σ).1) (f_Trail_finds h0 x1 x2 b σ).2.1 (f_Trail_finds h0 x1 x2 b σ).2.2 := by
  intro h0 x1 x2 b σ
  refine Snd_of (tv := tI) (by decide) (Nat.le_of_ble_eq_true rfl) ?_
  show V M_Trail_finds 3 0 0 0 0 tI (f_Trail_finds h0 x1 x2 b σ) 0 [(0, vR h0), (1, vI x1), (2, vI x2)] [] b σ
  unfold f_Trail_finds
  refine V_aload_n 1 rfl (show decode M_Trail_finds.2.1 0 = .ok (.aload_n 0, 1) by decide +kernel) 0 rfl ?_
  refine V_get (j := 0) (v := vR (SR σ h0 0)) 4 rfl ck_Trail (by decide) (by decide) (show decode M_Trail_finds.2.1 1 = .ok (.getfield 10, 3) by decide +kernel) wd_599 rfl ?_
  refine V_iload_n 5 rfl (show decode M_Trail_finds.2.1 4 = .ok (.iload_n 1, 1) by decide +kernel) 1 rfl ?_
  refine V_callVN (tb := tI) (as := [vI x1]) (rest := []) (na := 1) 8 rfl ck_World (by decide) (s_World_hasWalker (SR σ h0 0) x1 ((b && cK σ h0 12) && cK σ (SR σ h0 0) 11) σ) rfl rfl (Nat.le_of_ble_eq_true rfl) (cal_World_hasWalker _ _ _ _ _ (by decide) (by decide) (by decide)) (show decode M_Trail_finds.2.1 5 = .ok (.invokevirtual 202, 3) by decide +kernel) wd_1016 wd_1018 wd_35 (fun r_1 b_1 σ_1 => ?_)
  show V M_Trail_finds 3 0 0 0 0 tI _ 8 [(0, vR h0), (1, vI x1), (2, vI x2)] [vI r_1] b_1 σ_1
  refine V_jn (fun (J21 : Bool → Sto → Rs Int32) => ∀ (b : Bool) (σ : Sto), V M_Trail_finds 3 0 0 0 0 tI (J21 b σ) 21 [] [] b σ) ?_ (fun J21 hJ21 => ?_)
  · intro b σ
    refine V_ldc 23 rfl (show decode M_Trail_finds.2.1 21 = .ok (.ldc 44, 2) by decide +kernel) wd_631 ?_
    exact V_iret rfl (by decide) (by decide) (show decode M_Trail_finds.2.1 23 = .ok (.ireturn, 1) by decide +kernel)
  · skip
    refine V_ifeq 11 21 rfl (show decode M_Trail_finds.2.1 8 = .ok (.ifCond .eq 13, 3) by decide +kernel) rfl ?_ ?_
    · skip
      exact V_sub [] rfl (hJ21 b_1 σ_1)
    · skip
      refine V_iload_n 12 rfl (show decode M_Trail_finds.2.1 11 = .ok (.iload_n 2, 1) by decide +kernel) 2 rfl ?_
      refine V_iconst 13 rfl (show decode M_Trail_finds.2.1 12 = .ok (.iconst 1, 1) by decide +kernel) (v := 1) rfl ?_
      refine V_bipush 15 rfl (show decode M_Trail_finds.2.1 13 = .ok (.bipush 20, 2) by decide +kernel) (v := 20) rfl ?_
      refine V_callS (tb := tI) (as := [vI x2, vI (1 : Int32), vI (20 : Int32)]) (rest := []) (na := 3) 18 rfl (s_Trail_within x2 (1 : Int32) (20 : Int32) b_1 σ_1) rfl rfl (Nat.le_of_ble_eq_true rfl) (cal_Trail_within _ _ _ _ _ (by decide) (by decide) (by decide)) (show decode M_Trail_finds.2.1 15 = .ok (.invokestatic 40, 3) by decide +kernel) wd_628 wd_629 (fun r_2 b_2 σ_2 => ?_)
      show V M_Trail_finds 3 0 0 0 0 tI _ 18 [(0, vR h0), (1, vI x1), (2, vI x2)] [vI r_2] b_2 σ_2
      refine V_ifne 21 24 rfl (show decode M_Trail_finds.2.1 18 = .ok (.ifCond .ne 6, 3) by decide +kernel) rfl ?_ ?_
      · skip
        exact V_sub [] rfl (hJ21 b_2 σ_2)
      · skip
        refine V_aload_n 25 rfl (show decode M_Trail_finds.2.1 24 = .ok (.aload_n 0, 1) by decide +kernel) 0 rfl ?_
        refine V_get (j := 0) (v := vR (SR σ_2 h0 0)) 28 rfl ck_Trail (by decide) (by decide) (show decode M_Trail_finds.2.1 25 = .ok (.getfield 10, 3) by decide +kernel) wd_599 rfl ?_
        refine V_getN (j := 6) (v := vR (SR σ_2 (SR σ_2 h0 0) 6)) 31 rfl ck_World (by decide) (by decide) (show decode M_Trail_finds.2.1 28 = .ok (.getfield 194, 3) by decide +kernel) wd_510 rfl ?_
        refine V_iload_n 32 rfl (show decode M_Trail_finds.2.1 31 = .ok (.iload_n 1, 1) by decide +kernel) 1 rfl ?_
        refine V_ald_r26 33 rfl (show decode M_Trail_finds.2.1 32 = .ok (.aaload, 1) by decide +kernel) ?_
        refine V_astore_n (fun h3_3 => [(3, vR h3_3), (0, vR h0), (1, vI x1), (2, vI x2)]) 34 rfl (show decode M_Trail_finds.2.1 33 = .ok (.astore_n 3, 1) by decide +kernel) (by decide) (fun _ => rfl) (fun h3_3 => ?_)
        refine V_aload_n 35 rfl (show decode M_Trail_finds.2.1 34 = .ok (.aload_n 3, 1) by decide +kernel) 0 rfl ?_
        refine V_getN (j := 5) (v := vI (SI σ_2 h3_3 5)) 38 rfl ck_Walker (by decide) (by decide) (show decode M_Trail_finds.2.1 35 = .ok (.getfield 214, 3) by decide +kernel) wd_432 rfl ?_
        refine V_iconst 39 rfl (show decode M_Trail_finds.2.1 38 = .ok (.iconst 1, 1) by decide +kernel) (v := 1) rfl ?_
        refine V_icmpeq 42 45 rfl (show decode M_Trail_finds.2.1 39 = .ok (.if_icmp .eq 6, 3) by decide +kernel) rfl ?_ ?_
        · skip
          refine V_aload_n 46 rfl (show decode M_Trail_finds.2.1 45 = .ok (.aload_n 3, 1) by decide +kernel) 0 rfl ?_
          refine V_iload_n 47 rfl (show decode M_Trail_finds.2.1 46 = .ok (.iload_n 2, 1) by decide +kernel) 3 rfl ?_
          refine V_callVN (tb := tU) (as := [vI x2]) (rest := []) (na := 1) 50 rfl ck_Walker (by decide) (s_Walker_packFood h3_3 x2 (((((b_2 && cK σ_2 h0 12) && cK σ_2 (SR σ_2 h0 0) 11) && cA σ_2 (SR σ_2 (SR σ_2 h0 0) 6) 26 x1) && cK σ_2 h3_3 10) && cK σ_2 h3_3 10) σ_2) rfl rfl (Nat.le_of_ble_eq_true rfl) (cal_Walker_packFood _ _ _ _ _ (by decide) (by decide) (by decide)) (show decode M_Trail_finds.2.1 47 = .ok (.invokevirtual 223, 3) by decide +kernel) wd_1045 wd_1047 wd_39 (fun r_4 b_4 σ_4 => ?_)
          show V M_Trail_finds 3 0 0 0 0 tI _ 50 [(3, vR h3_3), (0, vR h0), (1, vI x1), (2, vI x2)] [] b_4 σ_4
          refine V_aload_n 51 rfl (show decode M_Trail_finds.2.1 50 = .ok (.aload_n 3, 1) by decide +kernel) 0 rfl ?_
          refine V_getN (j := 7) (v := vI (SI σ_4 h3_3 7)) 54 rfl ck_Walker (by decide) (by decide) (show decode M_Trail_finds.2.1 51 = .ok (.getfield 226, 3) by decide +kernel) wd_438 rfl ?_
          exact V_iret rfl (by decide) (by decide) (show decode M_Trail_finds.2.1 54 = .ok (.ireturn, 1) by decide +kernel)
        · skip
          refine V_ldc 44 rfl (show decode M_Trail_finds.2.1 42 = .ok (.ldc 66, 2) by decide +kernel) wd_640 ?_
          exact V_iret rfl (by decide) (by decide) (show decode M_Trail_finds.2.1 44 = .ok (.ireturn, 1) by decide +kernel)
theorem cal_Trail_finds (d mc ms k n : Nat) (h1 : 3 + 1 ≤ d) (h2 : k + 0 ≤ mc) (h3 : n + 0 ≤ ms) : Cal M_Trail_finds 3 0 0 2 d mc ms k n := ⟨wd_1044, wd_170, by decide, h1, by decide, h2, h3⟩
abbrev M_Ground_addFire : MD := (⟨"LongTrail$Ground", "addFire", "(IIII)I"⟩, prog_3_method_8_code, 5, (some FieldType.int))
def f_Ground_addFire (h0 : Nat) (x1 : Int32) (x2 : Int32) (x3 : Int32) (x4 : Int32) (b : Bool) (σ : Sto) : Rs Int32 := (lt_ (pI σ (SR σ h0 5) (ix (SI σ h0 11)) x1) (fun (σ_1 : Sto) => (lt_ (pI σ_1 (SR σ_1 h0 6) (ix (SI σ_1 h0 11)) x2) (fun (σ_2 : Sto) => (lt_ (pI σ_2 (SR σ_2 h0 7) (ix (SI σ_2 h0 11)) x3) (fun (σ_3 : Sto) => (lt_ (pI σ_3 (SR σ_3 h0 8) (ix (SI σ_3 h0 11)) x4) (fun (σ_4 : Sto) => (lt_ (pI σ_4 h0 11 ((SI σ_4 h0 11) + (1 : Int32))) (fun (σ_5 : Sto) => (((SI σ_5 h0 11) - (1 : Int32)), (((((((((((((((b && cK σ h0 2) && cK σ h0 2) && cA σ (SR σ h0 5) 21 (SI σ h0 11)) && cK σ_1 h0 2) && cK σ_1 h0 2) && cA σ_1 (SR σ_1 h0 6) 21 (SI σ_1 h0 11)) && cK σ_2 h0 2) && cK σ_2 h0 2) && cA σ_2 (SR σ_2 h0 7) 21 (SI σ_2 h0 11)) && cK σ_3 h0 2) && cK σ_3 h0 2) && cA σ_3 (SR σ_3 h0 8) 21 (SI σ_3 h0 11)) && cK σ_4 h0 2) && cK σ_4 h0 2) && cK σ_5 h0 2), σ_5)))))))))))
set_option maxRecDepth 100000 in
set_option maxHeartbeats 4000000 in
theorem s_Ground_addFire : ∀ (h0 : Nat) (x1 : Int32) (x2 : Int32) (x3 : Int32) (x4 : Int32) (b : Bool) (σ : Sto), Snd M_Ground_addFire 1 0 0 [vR h0, vI x1, vI x2, vI x3, vI x4] b σ (tI (f_Ground_addFire h0 x1 x2 x3 x4 b σ).1) (f_Ground_addFire h0 x1 x2 x3 x4 b σ).2.1 (f_Ground_addFire h0 x1 x2 x3 x4 b σ).2.2 := by
  intro h0 x1 x2 x3 x4 b σ
  refine Snd_of (tv := tI) (by decide) (Nat.le_of_ble_eq_true rfl) ?_
  show V M_Ground_addFire 1 0 0 0 0 tI (f_Ground_addFire h0 x1 x2 x3 x4 b σ) 0 [(0, vR h0), (1, vI x1), (2, vI x2), (3, vI x3), (4, vI x4)] [] b σ
  unfold f_Ground_addFire
  refine V_aload_n 1 rfl (show decode M_Ground_addFire.2.1 0 = .ok (.aload_n 0, 1) by decide +kernel) 0 rfl ?_
  refine V_get (j := 5) (v := vR (SR σ h0 5)) 4 rfl ck_Ground (by decide) (by decide) (show decode M_Ground_addFire.2.1 1 = .ok (.getfield 28, 3) by decide +kernel) wd_224 rfl ?_
  refine V_aload_n 5 rfl (show decode M_Ground_addFire.2.1 4 = .ok (.aload_n 0, 1) by decide +kernel) 0 rfl ?_
  refine V_get (j := 11) (v := vI (SI σ h0 11)) 8 rfl ck_Ground (by decide) (by decide) (show decode M_Ground_addFire.2.1 5 = .ok (.getfield 53, 3) by decide +kernel) wd_238 rfl ?_
  refine V_iload_n 9 rfl (show decode M_Ground_addFire.2.1 8 = .ok (.iload_n 1, 1) by decide +kernel) 1 rfl ?_
  refine V_ast_int 10 rfl (show decode M_Ground_addFire.2.1 9 = .ok (.iastore, 1) by decide +kernel) (fun σ_1 => ?_)
  refine V_aload_n 11 rfl (show decode M_Ground_addFire.2.1 10 = .ok (.aload_n 0, 1) by decide +kernel) 0 rfl ?_
  refine V_get (j := 6) (v := vR (SR σ_1 h0 6)) 14 rfl ck_Ground (by decide) (by decide) (show decode M_Ground_addFire.2.1 11 = .ok (.getfield 31, 3) by decide +kernel) wd_226 rfl ?_
  refine V_aload_n 15 rfl (show decode M_Ground_addFire.2.1 14 = .ok (.aload_n 0, 1) by decide +kernel) 0 rfl ?_
  refine V_get (j := 11) (v := vI (SI σ_1 h0 11)) 18 rfl ck_Ground (by decide) (by decide) (show decode M_Ground_addFire.2.1 15 = .ok (.getfield 53, 3) by decide +kernel) wd_238 rfl ?_
  refine V_iload_n 19 rfl (show decode M_Ground_addFire.2.1 18 = .ok (.iload_n 2, 1) by decide +kernel) 2 rfl ?_
  refine V_ast_int 20 rfl (show decode M_Ground_addFire.2.1 19 = .ok (.iastore, 1) by decide +kernel) (fun σ_2 => ?_)
  refine V_aload_n 21 rfl (show decode M_Ground_addFire.2.1 20 = .ok (.aload_n 0, 1) by decide +kernel) 0 rfl ?_
  refine V_get (j := 7) (v := vR (SR σ_2 h0 7)) 24 rfl ck_Ground (by decide) (by decide) (show decode M_Ground_addFire.2.1 21 = .ok (.getfield 34, 3) by decide +kernel) wd_228 rfl ?_
  refine V_aload_n 25 rfl (show decode M_Ground_addFire.2.1 24 = .ok (.aload_n 0, 1) by decide +kernel) 0 rfl ?_
  refine V_get (j := 11) (v := vI (SI σ_2 h0 11)) 28 rfl ck_Ground (by decide) (by decide) (show decode M_Ground_addFire.2.1 25 = .ok (.getfield 53, 3) by decide +kernel) wd_238 rfl ?_
  refine V_iload_n 29 rfl (show decode M_Ground_addFire.2.1 28 = .ok (.iload_n 3, 1) by decide +kernel) 3 rfl ?_
  refine V_ast_int 30 rfl (show decode M_Ground_addFire.2.1 29 = .ok (.iastore, 1) by decide +kernel) (fun σ_3 => ?_)
  refine V_aload_n 31 rfl (show decode M_Ground_addFire.2.1 30 = .ok (.aload_n 0, 1) by decide +kernel) 0 rfl ?_
  refine V_get (j := 8) (v := vR (SR σ_3 h0 8)) 34 rfl ck_Ground (by decide) (by decide) (show decode M_Ground_addFire.2.1 31 = .ok (.getfield 37, 3) by decide +kernel) wd_229 rfl ?_
  refine V_aload_n 35 rfl (show decode M_Ground_addFire.2.1 34 = .ok (.aload_n 0, 1) by decide +kernel) 0 rfl ?_
  refine V_get (j := 11) (v := vI (SI σ_3 h0 11)) 38 rfl ck_Ground (by decide) (by decide) (show decode M_Ground_addFire.2.1 35 = .ok (.getfield 53, 3) by decide +kernel) wd_238 rfl ?_
  refine V_iload 40 rfl (show decode M_Ground_addFire.2.1 38 = .ok (.iload 4, 2) by decide +kernel) 4 rfl ?_
  refine V_ast_int 41 rfl (show decode M_Ground_addFire.2.1 40 = .ok (.iastore, 1) by decide +kernel) (fun σ_4 => ?_)
  refine V_aload_n 42 rfl (show decode M_Ground_addFire.2.1 41 = .ok (.aload_n 0, 1) by decide +kernel) 0 rfl ?_
  refine V_dup 43 rfl (show decode M_Ground_addFire.2.1 42 = .ok (.dup, 1) by decide +kernel) rfl ?_
  refine V_get (j := 11) (v := vI (SI σ_4 h0 11)) 46 rfl ck_Ground (by decide) (by decide) (show decode M_Ground_addFire.2.1 43 = .ok (.getfield 53, 3) by decide +kernel) wd_238 rfl ?_
  refine V_iconst 47 rfl (show decode M_Ground_addFire.2.1 46 = .ok (.iconst 1, 1) by decide +kernel) (v := 1) rfl ?_
  refine V_iadd 48 rfl (show decode M_Ground_addFire.2.1 47 = .ok (.iadd, 1) by decide +kernel) ?_
  refine V_putI (j := 11) 51 rfl ck_Ground (by decide) (by decide) (show decode M_Ground_addFire.2.1 48 = .ok (.putfield 53, 3) by decide +kernel) wd_238 rfl (fun _ => rfl) rfl rfl (fun σ_5 => ?_)
  refine V_aload_n 52 rfl (show decode M_Ground_addFire.2.1 51 = .ok (.aload_n 0, 1) by decide +kernel) 0 rfl ?_
  refine V_get (j := 11) (v := vI (SI σ_5 h0 11)) 55 rfl ck_Ground (by decide) (by decide) (show decode M_Ground_addFire.2.1 52 = .ok (.getfield 53, 3) by decide +kernel) wd_238 rfl ?_
  refine V_iconst 56 rfl (show decode M_Ground_addFire.2.1 55 = .ok (.iconst 1, 1) by decide +kernel) (v := 1) rfl ?_
  refine V_isub 57 rfl (show decode M_Ground_addFire.2.1 56 = .ok (.isub, 1) by decide +kernel) ?_
  exact V_iret rfl (by decide) (by decide) (show decode M_Ground_addFire.2.1 57 = .ok (.ireturn, 1) by decide +kernel)
theorem cal_Ground_addFire (d mc ms k n : Nat) (h1 : 1 + 1 ≤ d) (h2 : k + 0 ≤ mc) (h3 : n + 0 ≤ ms) : Cal M_Ground_addFire 1 0 0 4 d mc ms k n := ⟨wd_723, wd_172, by decide, h1, by decide, h2, h3⟩
abbrev M_Trail_fire : MD := (⟨"LongTrail", "fire", "(III)I"⟩, prog_1_method_9_code, 5, (some FieldType.int))
def f_Trail_fire (h0 : Nat) (x1 : Int32) (x2 : Int32) (x3 : Int32) (b : Bool) (σ : Sto) : Rs Int32 := (lt_ (SR σ (SR σ h0 0) 0) (fun (h4_1 : Nat) => (bd_ (f_Ground_hasMile h4_1 x1 (((b && cK σ h0 12) && cK σ (SR σ h0 0) 11) && cK σ h4_1 2) σ) (fun (r_2 : Int32) (b_2 : Bool) (σ_2 : Sto) => (lt_ (fun (b : Bool) (σ : Sto) => ((-1000000001 : Int32), b, σ)) (fun J32 => (if r_2 = 0 then (J32 b_2 σ_2) else (bd_ (f_Ground_hasMile h4_1 x2 (b_2 && cK σ_2 h4_1 2) σ_2) (fun (r_3 : Int32) (b_3 : Bool) (σ_3 : Sto) => (if r_3 = 0 then (J32 b_3 σ_3) else (if x1 < x2 then (bd_ (f_Trail_within x3 (0 : Int32) (999999 : Int32) b_3 σ_3) (fun (r_4 : Int32) (b_4 : Bool) (σ_4 : Sto) => (lt_ (fun (b : Bool) (σ : Sto) => ((-1000000001 : Int32), b, σ)) (fun J58 => (if r_4 = 0 then (J58 b_4 σ_4) else (if (x3 - x3 / (1000 : Int32) * (1000 : Int32)) < (x3 / (1000 : Int32)) then (J58 ((b_4 && !decide ((1000 : Int32) = 0)) && !decide ((1000 : Int32) = 0)) σ_4) else (if (SI σ_4 h4_1 11) < (6 : Int32) then (bd_ (f_Ground_addFire h4_1 x1 x2 (x3 / (1000 : Int32)) (x3 - x3 / (1000 : Int32) * (1000 : Int32)) ((((((b_4 && !decide ((1000 : Int32) = 0)) && !decide ((1000 : Int32) = 0)) && cK σ_4 h4_1 2) && !decide ((1000 : Int32) = 0)) && !decide ((1000 : Int32) = 0)) && cK σ_4 h4_1 2) σ_4) (fun (r_5 : Int32) (b_5 : Bool) (σ_5 : Sto) => (r_5, b_5, σ_5))) else ((-1000000003 : Int32), (((b_4 && !decide ((1000 : Int32) = 0)) && !decide ((1000 : Int32) = 0)) && cK σ_4 h4_1 2), σ_4)))))))) else (J32 b_3 σ_3))))))))))))
set_option maxRecDepth 100000 in
set_option maxHeartbeats 4000000 in
theorem s_Trail_fire : ∀ (h0 : Nat) (x1 : Int32) (x2 : Int32) (x3 : Int32) (b : Bool) (σ : Sto), Snd M_Trail_fire 3 0 0 [vR h0, vI x1, vI x2, vI x3] b σ (tI (f_Trail_fire h0 x1 x2 x3 b σ).1) (f_Trail_fire h0 x1 x2 x3 b σ).2.1 (f_Trail_fire h0 x1 x2 x3 b σ).2.2 := by
  intro h0 x1 x2 x3 b σ
  refine Snd_of (tv := tI) (by decide) (Nat.le_of_ble_eq_true rfl) ?_
  show V M_Trail_fire 3 0 0 0 0 tI (f_Trail_fire h0 x1 x2 x3 b σ) 0 [(0, vR h0), (1, vI x1), (2, vI x2), (3, vI x3)] [] b σ
  unfold f_Trail_fire
  refine V_aload_n 1 rfl (show decode M_Trail_fire.2.1 0 = .ok (.aload_n 0, 1) by decide +kernel) 0 rfl ?_
  refine V_get (j := 0) (v := vR (SR σ h0 0)) 4 rfl ck_Trail (by decide) (by decide) (show decode M_Trail_fire.2.1 1 = .ok (.getfield 10, 3) by decide +kernel) wd_599 rfl ?_
  refine V_getN (j := 0) (v := vR (SR σ (SR σ h0 0) 0)) 7 rfl ck_World (by decide) (by decide) (show decode M_Trail_fire.2.1 4 = .ok (.getfield 49, 3) by decide +kernel) wd_498 rfl ?_
  refine V_astore (fun h4_1 => [(4, vR h4_1), (0, vR h0), (1, vI x1), (2, vI x2), (3, vI x3)]) 9 rfl (show decode M_Trail_fire.2.1 7 = .ok (.astore 4, 2) by decide +kernel) (by decide) (fun _ => rfl) (fun h4_1 => ?_)
  refine V_aload 11 rfl (show decode M_Trail_fire.2.1 9 = .ok (.aload 4, 2) by decide +kernel) 0 rfl ?_
  refine V_iload_n 12 rfl (show decode M_Trail_fire.2.1 11 = .ok (.iload_n 1, 1) by decide +kernel) 2 rfl ?_
  refine V_callVN (tb := tI) (as := [vI x1]) (rest := []) (na := 1) 15 rfl ck_Ground (by decide) (s_Ground_hasMile h4_1 x1 (((b && cK σ h0 12) && cK σ (SR σ h0 0) 11) && cK σ h4_1 2) σ) rfl rfl (Nat.le_of_ble_eq_true rfl) (cal_Ground_hasMile _ _ _ _ _ (by decide) (by decide) (by decide)) (show decode M_Trail_fire.2.1 12 = .ok (.invokevirtual 70, 3) by decide +kernel) wd_645 wd_647 wd_2 (fun r_2 b_2 σ_2 => ?_)
  show V M_Trail_fire 3 0 0 0 0 tI _ 15 [(4, vR h4_1), (0, vR h0), (1, vI x1), (2, vI x2), (3, vI x3)] [vI r_2] b_2 σ_2
  refine V_jn (fun (J32 : Bool → Sto → Rs Int32) => ∀ (b : Bool) (σ : Sto), V M_Trail_fire 3 0 0 0 0 tI (J32 b σ) 32 [] [] b σ) ?_ (fun J32 hJ32 => ?_)
  · intro b σ
    refine V_ldc 34 rfl (show decode M_Trail_fire.2.1 32 = .ok (.ldc 44, 2) by decide +kernel) wd_631 ?_
    exact V_iret rfl (by decide) (by decide) (show decode M_Trail_fire.2.1 34 = .ok (.ireturn, 1) by decide +kernel)
  · skip
    refine V_ifeq 18 32 rfl (show decode M_Trail_fire.2.1 15 = .ok (.ifCond .eq 17, 3) by decide +kernel) rfl ?_ ?_
    · skip
      exact V_sub [] rfl (hJ32 b_2 σ_2)
    · skip
      refine V_aload 20 rfl (show decode M_Trail_fire.2.1 18 = .ok (.aload 4, 2) by decide +kernel) 0 rfl ?_
      refine V_iload_n 21 rfl (show decode M_Trail_fire.2.1 20 = .ok (.iload_n 2, 1) by decide +kernel) 3 rfl ?_
      refine V_callVN (tb := tI) (as := [vI x2]) (rest := []) (na := 1) 24 rfl ck_Ground (by decide) (s_Ground_hasMile h4_1 x2 (b_2 && cK σ_2 h4_1 2) σ_2) rfl rfl (Nat.le_of_ble_eq_true rfl) (cal_Ground_hasMile _ _ _ _ _ (by decide) (by decide) (by decide)) (show decode M_Trail_fire.2.1 21 = .ok (.invokevirtual 70, 3) by decide +kernel) wd_645 wd_647 wd_2 (fun r_3 b_3 σ_3 => ?_)
      show V M_Trail_fire 3 0 0 0 0 tI _ 24 [(4, vR h4_1), (0, vR h0), (1, vI x1), (2, vI x2), (3, vI x3)] [vI r_3] b_3 σ_3
      refine V_ifeq 27 32 rfl (show decode M_Trail_fire.2.1 24 = .ok (.ifCond .eq 8, 3) by decide +kernel) rfl ?_ ?_
      · skip
        exact V_sub [] rfl (hJ32 b_3 σ_3)
      · skip
        refine V_iload_n 28 rfl (show decode M_Trail_fire.2.1 27 = .ok (.iload_n 2, 1) by decide +kernel) 3 rfl ?_
        refine V_iload_n 29 rfl (show decode M_Trail_fire.2.1 28 = .ok (.iload_n 1, 1) by decide +kernel) 2 rfl ?_
        refine V_icmpgt 32 35 rfl (show decode M_Trail_fire.2.1 29 = .ok (.if_icmp .gt 6, 3) by decide +kernel) rfl ?_ ?_
        · skip
          refine V_iload_n 36 rfl (show decode M_Trail_fire.2.1 35 = .ok (.iload_n 3, 1) by decide +kernel) 4 rfl ?_
          refine V_iconst 37 rfl (show decode M_Trail_fire.2.1 36 = .ok (.iconst 0, 1) by decide +kernel) (v := 0) rfl ?_
          refine V_ldc 39 rfl (show decode M_Trail_fire.2.1 37 = .ok (.ldc 130, 2) by decide +kernel) wd_719 ?_
          refine V_callS (tb := tI) (as := [vI x3, vI (0 : Int32), vI (999999 : Int32)]) (rest := []) (na := 3) 42 rfl (s_Trail_within x3 (0 : Int32) (999999 : Int32) b_3 σ_3) rfl rfl (Nat.le_of_ble_eq_true rfl) (cal_Trail_within _ _ _ _ _ (by decide) (by decide) (by decide)) (show decode M_Trail_fire.2.1 39 = .ok (.invokestatic 40, 3) by decide +kernel) wd_628 wd_629 (fun r_4 b_4 σ_4 => ?_)
          show V M_Trail_fire 3 0 0 0 0 tI _ 42 [(4, vR h4_1), (0, vR h0), (1, vI x1), (2, vI x2), (3, vI x3)] [vI r_4] b_4 σ_4
          refine V_jn (fun (J58 : Bool → Sto → Rs Int32) => ∀ (b : Bool) (σ : Sto), V M_Trail_fire 3 0 0 0 0 tI (J58 b σ) 58 [] [] b σ) ?_ (fun J58 hJ58 => ?_)
          · intro b σ
            refine V_ldc 60 rfl (show decode M_Trail_fire.2.1 58 = .ok (.ldc 44, 2) by decide +kernel) wd_631 ?_
            exact V_iret rfl (by decide) (by decide) (show decode M_Trail_fire.2.1 60 = .ok (.ireturn, 1) by decide +kernel)
          · skip
            refine V_ifeq 45 58 rfl (show decode M_Trail_fire.2.1 42 = .ok (.ifCond .eq 16, 3) by decide +kernel) rfl ?_ ?_
            · skip
              exact V_sub [] rfl (hJ58 b_4 σ_4)
            · skip
              refine V_iload_n 46 rfl (show decode M_Trail_fire.2.1 45 = .ok (.iload_n 3, 1) by decide +kernel) 4 rfl ?_
              refine V_sipush 49 rfl (show decode M_Trail_fire.2.1 46 = .ok (.sipush 1000, 3) by decide +kernel) (v := 1000) rfl ?_
              refine V_irem 50 rfl (show decode M_Trail_fire.2.1 49 = .ok (.irem, 1) by decide +kernel) ?_
              refine V_iload_n 51 rfl (show decode M_Trail_fire.2.1 50 = .ok (.iload_n 3, 1) by decide +kernel) 4 rfl ?_
              refine V_sipush 54 rfl (show decode M_Trail_fire.2.1 51 = .ok (.sipush 1000, 3) by decide +kernel) (v := 1000) rfl ?_
              refine V_idiv 55 rfl (show decode M_Trail_fire.2.1 54 = .ok (.idiv, 1) by decide +kernel) ?_
              refine V_icmpge 58 61 rfl (show decode M_Trail_fire.2.1 55 = .ok (.if_icmp .ge 6, 3) by decide +kernel) rfl ?_ ?_
              · skip
                exact V_sub [] rfl (hJ58 ((b_4 && !decide ((1000 : Int32) = 0)) && !decide ((1000 : Int32) = 0)) σ_4)
              · skip
                refine V_aload 63 rfl (show decode M_Trail_fire.2.1 61 = .ok (.aload 4, 2) by decide +kernel) 0 rfl ?_
                refine V_getN (j := 11) (v := vI (SI σ_4 h4_1 11)) 66 rfl ck_Ground (by decide) (by decide) (show decode M_Trail_fire.2.1 63 = .ok (.getfield 131, 3) by decide +kernel) wd_239 rfl ?_
                refine V_bipush 68 rfl (show decode M_Trail_fire.2.1 66 = .ok (.bipush 6, 2) by decide +kernel) (v := 6) rfl ?_
                refine V_icmplt 71 74 rfl (show decode M_Trail_fire.2.1 68 = .ok (.if_icmp .lt 6, 3) by decide +kernel) rfl ?_ ?_
                · skip
                  refine V_aload 76 rfl (show decode M_Trail_fire.2.1 74 = .ok (.aload 4, 2) by decide +kernel) 0 rfl ?_
                  refine V_iload_n 77 rfl (show decode M_Trail_fire.2.1 76 = .ok (.iload_n 1, 1) by decide +kernel) 2 rfl ?_
                  refine V_iload_n 78 rfl (show decode M_Trail_fire.2.1 77 = .ok (.iload_n 2, 1) by decide +kernel) 3 rfl ?_
                  refine V_iload_n 79 rfl (show decode M_Trail_fire.2.1 78 = .ok (.iload_n 3, 1) by decide +kernel) 4 rfl ?_
                  refine V_sipush 82 rfl (show decode M_Trail_fire.2.1 79 = .ok (.sipush 1000, 3) by decide +kernel) (v := 1000) rfl ?_
                  refine V_idiv 83 rfl (show decode M_Trail_fire.2.1 82 = .ok (.idiv, 1) by decide +kernel) ?_
                  refine V_iload_n 84 rfl (show decode M_Trail_fire.2.1 83 = .ok (.iload_n 3, 1) by decide +kernel) 4 rfl ?_
                  refine V_sipush 87 rfl (show decode M_Trail_fire.2.1 84 = .ok (.sipush 1000, 3) by decide +kernel) (v := 1000) rfl ?_
                  refine V_irem 88 rfl (show decode M_Trail_fire.2.1 87 = .ok (.irem, 1) by decide +kernel) ?_
                  refine V_callVN (tb := tI) (as := [vI x1, vI x2, vI (x3 / (1000 : Int32)), vI (x3 - x3 / (1000 : Int32) * (1000 : Int32))]) (rest := []) (na := 4) 91 rfl ck_Ground (by decide) (s_Ground_addFire h4_1 x1 x2 (x3 / (1000 : Int32)) (x3 - x3 / (1000 : Int32) * (1000 : Int32)) ((((((b_4 && !decide ((1000 : Int32) = 0)) && !decide ((1000 : Int32) = 0)) && cK σ_4 h4_1 2) && !decide ((1000 : Int32) = 0)) && !decide ((1000 : Int32) = 0)) && cK σ_4 h4_1 2) σ_4) rfl rfl (Nat.le_of_ble_eq_true rfl) (cal_Ground_addFire _ _ _ _ _ (by decide) (by decide) (by decide)) (show decode M_Trail_fire.2.1 88 = .ok (.invokevirtual 134, 3) by decide +kernel) wd_720 wd_722 wd_12 (fun r_5 b_5 σ_5 => ?_)
                  show V M_Trail_fire 3 0 0 0 0 tI _ 91 [(4, vR h4_1), (0, vR h0), (1, vI x1), (2, vI x2), (3, vI x3)] [vI r_5] b_5 σ_5
                  exact V_iret rfl (by decide) (by decide) (show decode M_Trail_fire.2.1 91 = .ok (.ireturn, 1) by decide +kernel)
                · skip
                  refine V_ldc 73 rfl (show decode M_Trail_fire.2.1 71 = .ok (.ldc 84, 2) by decide +kernel) wd_657 ?_
                  exact V_iret rfl (by decide) (by decide) (show decode M_Trail_fire.2.1 73 = .ok (.ireturn, 1) by decide +kernel)
        · skip
          exact V_sub [] rfl (hJ32 b_3 σ_3)
theorem cal_Trail_fire (d mc ms k n : Nat) (h1 : 3 + 1 ≤ d) (h2 : k + 0 ≤ mc) (h3 : n + 0 ≤ ms) : Cal M_Trail_fire 3 0 0 3 d mc ms k n := ⟨wd_718, wd_170, by decide, h1, by decide, h2, h3⟩
