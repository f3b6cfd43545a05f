/-! methods -/
abbrev M_Sheet_init : MD := (⟨"LongTrail$Sheet", "<init>", "()V"⟩, prog_7_method_1_code, 1, (none : Option FieldType))
def f_Sheet_init (h0 : Nat) (b : Bool) (σ : Sto) : Rs Unit := (lt_ (pI σ h0 0 (-1 : Int32)) (fun (σ_1 : Sto) => (lt_ (nC σ_1 23 (ix (24 : Int32))) (fun (σ_2 : Sto) => (lt_ (pR σ_2 h0 2 (Shn σ_1)) (fun (σ_3 : Sto) => ((), ((((b && !decide (h0 = 0)) && cK σ h0 6) && (!decide ((24 : Int32) < 0) && decide (ix (24 : Int32) ≤ 24))) && cK σ_2 h0 6), σ_3)))))))
set_option maxRecDepth 100000 in
set_option maxHeartbeats 4000000 in
theorem s_Sheet_init : ∀ (h0 : Nat) (b : Bool) (σ : Sto), Snd M_Sheet_init 1 1 24 [vR h0] b σ (tU (f_Sheet_init h0 b σ).1) (f_Sheet_init h0 b σ).2.1 (f_Sheet_init h0 b σ).2.2 := by
  intro h0 b σ
  refine Snd_of (tv := tU) (by decide) (Nat.le_of_ble_eq_true rfl) ?_
  show V M_Sheet_init 1 1 24 0 0 tU (f_Sheet_init h0 b σ) 0 [(0, vR h0)] [] b σ
  unfold f_Sheet_init
  refine V_aload_n 1 rfl (show decode M_Sheet_init.2.1 0 = .ok (.aload_n 0, 1) by decide +kernel) 0 rfl ?_
  refine V_objI 4 rfl (show decode M_Sheet_init.2.1 1 = .ok (.invokespecial 1, 3) by decide +kernel) wd_585 wd_197 wd_objc (by decide) (Nat.le_of_ble_eq_true rfl) ?_
  refine V_aload_n 5 rfl (show decode M_Sheet_init.2.1 4 = .ok (.aload_n 0, 1) by decide +kernel) 0 rfl ?_
  refine V_iconst 6 rfl (show decode M_Sheet_init.2.1 5 = .ok (.iconst (-1), 1) by decide +kernel) (v := -1) rfl ?_
  refine V_putI (j := 0) 9 rfl ck_Sheet (by decide) (by decide) (show decode M_Sheet_init.2.1 6 = .ok (.putfield 9, 3) by decide +kernel) wd_586 rfl (fun _ => rfl) rfl rfl (fun σ_1 => ?_)
  refine V_aload_n 10 rfl (show decode M_Sheet_init.2.1 9 = .ok (.aload_n 0, 1) by decide +kernel) 0 rfl ?_
  refine V_bipush 12 rfl (show decode M_Sheet_init.2.1 10 = .ok (.bipush 24, 2) by decide +kernel) (v := 24) rfl ?_
  refine V_newa_long 14 24 rfl (show decode M_Sheet_init.2.1 12 = .ok (.newarray .long, 2) by decide +kernel) wd_386 (by decide) (by decide) (by decide) (fun σ_2 => ?_)
  refine V_putRF (j := 2) 17 rfl ck_Sheet (by decide) (by decide) (show decode M_Sheet_init.2.1 14 = .ok (.putfield 13, 3) by decide +kernel) wd_590 rfl rfl rfl (fun _ => rfl) (vr_nar_a _) (vr_fit_a _) (fun σ_3 => ?_)
  exact V_vret rfl (by decide) (by decide) (show decode M_Sheet_init.2.1 17 = .ok (.return_, 1) by decide +kernel)
theorem cal_Sheet_init (d mc ms k n : Nat) (h1 : 1 + 1 ≤ d) (h2 : k + 1 ≤ mc) (h3 : n + 24 ≤ ms) : Cal M_Sheet_init 1 1 24 0 d mc ms k n := ⟨wd_584, wd_180, by decide, h1, by decide, h2, h3⟩
abbrev M_Tape_init : MD := (⟨"LongTrail$Tape", "<init>", "()V"⟩, prog_9_method_1_code, 1, (none : Option FieldType))
def f_Tape_init (h0 : Nat) (b : Bool) (σ : Sto) : Rs Unit := (lt_ (nC σ 22 (ix (96 : Int32))) (fun (σ_1 : Sto) => (lt_ (pR σ_1 h0 0 (Shn σ)) (fun (σ_2 : Sto) => (lt_ (nC σ_2 21 (ix (96 : Int32))) (fun (σ_3 : Sto) => (lt_ (pR σ_3 h0 8 (Shn σ_2)) (fun (σ_4 : Sto) => ((), (((((b && !decide (h0 = 0)) && (!decide ((96 : Int32) < 0) && decide (ix (96 : Int32) ≤ 96))) && cK σ_1 h0 8) && (!decide ((96 : Int32) < 0) && decide (ix (96 : Int32) ≤ 96))) && cK σ_3 h0 8), σ_4)))))))))
set_option maxRecDepth 100000 in
set_option maxHeartbeats 4000000 in
theorem s_Tape_init : ∀ (h0 : Nat) (b : Bool) (σ : Sto), Snd M_Tape_init 1 2 192 [vR h0] b σ (tU (f_Tape_init h0 b σ).1) (f_Tape_init h0 b σ).2.1 (f_Tape_init h0 b σ).2.2 := by
  intro h0 b σ
  refine Snd_of (tv := tU) (by decide) (Nat.le_of_ble_eq_true rfl) ?_
  show V M_Tape_init 1 2 192 0 0 tU (f_Tape_init h0 b σ) 0 [(0, vR h0)] [] b σ
  unfold f_Tape_init
  refine V_aload_n 1 rfl (show decode M_Tape_init.2.1 0 = .ok (.aload_n 0, 1) by decide +kernel) 0 rfl ?_
  refine V_objI 4 rfl (show decode M_Tape_init.2.1 1 = .ok (.invokespecial 1, 3) by decide +kernel) wd_539 wd_197 wd_objc (by decide) (Nat.le_of_ble_eq_true rfl) ?_
  refine V_aload_n 5 rfl (show decode M_Tape_init.2.1 4 = .ok (.aload_n 0, 1) by decide +kernel) 0 rfl ?_
  refine V_bipush 7 rfl (show decode M_Tape_init.2.1 5 = .ok (.bipush 96, 2) by decide +kernel) (v := 96) rfl ?_
  refine V_newa_byte 9 96 rfl (show decode M_Tape_init.2.1 7 = .ok (.newarray .byte, 2) by decide +kernel) wd_578 (by decide) (by decide) (by decide) (fun σ_1 => ?_)
  refine V_putRF (j := 0) 12 rfl ck_Tape (by decide) (by decide) (show decode M_Tape_init.2.1 9 = .ok (.putfield 9, 3) by decide +kernel) wd_540 rfl rfl rfl (fun _ => rfl) (vr_nar_a _) (vr_fit_a _) (fun σ_2 => ?_)
  refine V_aload_n 13 rfl (show decode M_Tape_init.2.1 12 = .ok (.aload_n 0, 1) by decide +kernel) 0 rfl ?_
  refine V_bipush 15 rfl (show decode M_Tape_init.2.1 13 = .ok (.bipush 96, 2) by decide +kernel) (v := 96) rfl ?_
  refine V_newa_int 17 96 rfl (show decode M_Tape_init.2.1 15 = .ok (.newarray .int, 2) by decide +kernel) wd_265 (by decide) (by decide) (by decide) (fun σ_3 => ?_)
  refine V_putRF (j := 8) 20 rfl ck_Tape (by decide) (by decide) (show decode M_Tape_init.2.1 17 = .ok (.putfield 13, 3) by decide +kernel) wd_549 rfl rfl rfl (fun _ => rfl) (vr_nar_a _) (vr_fit_a _) (fun σ_4 => ?_)
  exact V_vret rfl (by decide) (by decide) (show decode M_Tape_init.2.1 20 = .ok (.return_, 1) by decide +kernel)
theorem cal_Tape_init (d mc ms k n : Nat) (h1 : 1 + 1 ≤ d) (h2 : k + 2 ≤ mc) (h3 : n + 192 ≤ ms) : Cal M_Tape_init 1 2 192 0 d mc ms k n := ⟨wd_538, wd_179, by decide, h1, by decide, h2, h3⟩
abbrev M_Album_init : MD := (⟨"LongTrail$Album", "<init>", "()V"⟩, prog_2_method_1_code, 1, (none : Option FieldType))
def f_Album_init (h0 : Nat) (b : Bool) (σ : Sto) : Rs Unit := (lt_ (nC σ 21 (ix (20 : Int32))) (fun (σ_1 : Sto) => (lt_ (pR σ_1 h0 0 (Shn σ)) (fun (σ_2 : Sto) => (lt_ (nC σ_2 21 (ix (20 : Int32))) (fun (σ_3 : Sto) => (lt_ (pR σ_3 h0 1 (Shn σ_2)) (fun (σ_4 : Sto) => (lt_ (nC σ_4 21 (ix (20 : Int32))) (fun (σ_5 : Sto) => (lt_ (pR σ_5 h0 3 (Shn σ_4)) (fun (σ_6 : Sto) => (lt_ (nC σ_6 21 (ix (20 : Int32))) (fun (σ_7 : Sto) => (lt_ (pR σ_7 h0 4 (Shn σ_6)) (fun (σ_8 : Sto) => (lt_ (nC σ_8 21 (ix (20 : Int32))) (fun (σ_9 : Sto) => (lt_ (pR σ_9 h0 5 (Shn σ_8)) (fun (σ_10 : Sto) => (lt_ (nC σ_10 21 (ix (20 : Int32))) (fun (σ_11 : Sto) => (lt_ (pR σ_11 h0 6 (Shn σ_10)) (fun (σ_12 : Sto) => ((), (((((((((((((b && !decide (h0 = 0)) && (!decide ((20 : Int32) < 0) && decide (ix (20 : Int32) ≤ 20))) && cK σ_1 h0 1) && (!decide ((20 : Int32) < 0) && decide (ix (20 : Int32) ≤ 20))) && cK σ_3 h0 1) && (!decide ((20 : Int32) < 0) && decide (ix (20 : Int32) ≤ 20))) && cK σ_5 h0 1) && (!decide ((20 : Int32) < 0) && decide (ix (20 : Int32) ≤ 20))) && cK σ_7 h0 1) && (!decide ((20 : Int32) < 0) && decide (ix (20 : Int32) ≤ 20))) && cK σ_9 h0 1) && (!decide ((20 : Int32) < 0) && decide (ix (20 : Int32) ≤ 20))) && cK σ_11 h0 1), σ_12)))))))))))))))))))))))))
set_option maxRecDepth 100000 in
set_option maxHeartbeats 4000000 in
theorem s_Album_init : ∀ (h0 : Nat) (b : Bool) (σ : Sto), Snd M_Album_init 1 6 120 [vR h0] b σ (tU (f_Album_init h0 b σ).1) (f_Album_init h0 b σ).2.1 (f_Album_init h0 b σ).2.2 := by
  intro h0 b σ
  refine Snd_of (tv := tU) (by decide) (Nat.le_of_ble_eq_true rfl) ?_
  show V M_Album_init 1 6 120 0 0 tU (f_Album_init h0 b σ) 0 [(0, vR h0)] [] b σ
  unfold f_Album_init
  refine V_aload_n 1 rfl (show decode M_Album_init.2.1 0 = .ok (.aload_n 0, 1) by decide +kernel) 0 rfl ?_
  refine V_objI 4 rfl (show decode M_Album_init.2.1 1 = .ok (.invokespecial 3, 3) by decide +kernel) wd_392 wd_197 wd_objc (by decide) (Nat.le_of_ble_eq_true rfl) ?_
  refine V_aload_n 5 rfl (show decode M_Album_init.2.1 4 = .ok (.aload_n 0, 1) by decide +kernel) 0 rfl ?_
  refine V_bipush 7 rfl (show decode M_Album_init.2.1 5 = .ok (.bipush 20, 2) by decide +kernel) (v := 20) rfl ?_
  refine V_newa_int 9 20 rfl (show decode M_Album_init.2.1 7 = .ok (.newarray .int, 2) by decide +kernel) wd_265 (by decide) (by decide) (by decide) (fun σ_1 => ?_)
  refine V_putRF (j := 0) 12 rfl ck_Album (by decide) (by decide) (show decode M_Album_init.2.1 9 = .ok (.putfield 11, 3) by decide +kernel) wd_393 rfl rfl rfl (fun _ => rfl) (vr_nar_a _) (vr_fit_a _) (fun σ_2 => ?_)
  refine V_aload_n 13 rfl (show decode M_Album_init.2.1 12 = .ok (.aload_n 0, 1) by decide +kernel) 0 rfl ?_
  refine V_bipush 15 rfl (show decode M_Album_init.2.1 13 = .ok (.bipush 20, 2) by decide +kernel) (v := 20) rfl ?_
  refine V_newa_int 17 20 rfl (show decode M_Album_init.2.1 15 = .ok (.newarray .int, 2) by decide +kernel) wd_265 (by decide) (by decide) (by decide) (fun σ_3 => ?_)
  refine V_putRF (j := 1) 20 rfl ck_Album (by decide) (by decide) (show decode M_Album_init.2.1 17 = .ok (.putfield 15, 3) by decide +kernel) wd_394 rfl rfl rfl (fun _ => rfl) (vr_nar_a _) (vr_fit_a _) (fun σ_4 => ?_)
  refine V_aload_n 21 rfl (show decode M_Album_init.2.1 20 = .ok (.aload_n 0, 1) by decide +kernel) 0 rfl ?_
  refine V_bipush 23 rfl (show decode M_Album_init.2.1 21 = .ok (.bipush 20, 2) by decide +kernel) (v := 20) rfl ?_
  refine V_newa_int 25 20 rfl (show decode M_Album_init.2.1 23 = .ok (.newarray .int, 2) by decide +kernel) wd_265 (by decide) (by decide) (by decide) (fun σ_5 => ?_)
  refine V_putRF (j := 3) 28 rfl ck_Album (by decide) (by decide) (show decode M_Album_init.2.1 25 = .ok (.putfield 18, 3) by decide +kernel) wd_397 rfl rfl rfl (fun _ => rfl) (vr_nar_a _) (vr_fit_a _) (fun σ_6 => ?_)
  refine V_aload_n 29 rfl (show decode M_Album_init.2.1 28 = .ok (.aload_n 0, 1) by decide +kernel) 0 rfl ?_
  refine V_bipush 31 rfl (show decode M_Album_init.2.1 29 = .ok (.bipush 20, 2) by decide +kernel) (v := 20) rfl ?_
  refine V_newa_int 33 20 rfl (show decode M_Album_init.2.1 31 = .ok (.newarray .int, 2) by decide +kernel) wd_265 (by decide) (by decide) (by decide) (fun σ_7 => ?_)
  refine V_putRF (j := 4) 36 rfl ck_Album (by decide) (by decide) (show decode M_Album_init.2.1 33 = .ok (.putfield 21, 3) by decide +kernel) wd_398 rfl rfl rfl (fun _ => rfl) (vr_nar_a _) (vr_fit_a _) (fun σ_8 => ?_)
  refine V_aload_n 37 rfl (show decode M_Album_init.2.1 36 = .ok (.aload_n 0, 1) by decide +kernel) 0 rfl ?_
  refine V_bipush 39 rfl (show decode M_Album_init.2.1 37 = .ok (.bipush 20, 2) by decide +kernel) (v := 20) rfl ?_
  refine V_newa_int 41 20 rfl (show decode M_Album_init.2.1 39 = .ok (.newarray .int, 2) by decide +kernel) wd_265 (by decide) (by decide) (by decide) (fun σ_9 => ?_)
  refine V_putRF (j := 5) 44 rfl ck_Album (by decide) (by decide) (show decode M_Album_init.2.1 41 = .ok (.putfield 24, 3) by decide +kernel) wd_400 rfl rfl rfl (fun _ => rfl) (vr_nar_a _) (vr_fit_a _) (fun σ_10 => ?_)
  refine V_aload_n 45 rfl (show decode M_Album_init.2.1 44 = .ok (.aload_n 0, 1) by decide +kernel) 0 rfl ?_
  refine V_bipush 47 rfl (show decode M_Album_init.2.1 45 = .ok (.bipush 20, 2) by decide +kernel) (v := 20) rfl ?_
  refine V_newa_int 49 20 rfl (show decode M_Album_init.2.1 47 = .ok (.newarray .int, 2) by decide +kernel) wd_265 (by decide) (by decide) (by decide) (fun σ_11 => ?_)
  refine V_putRF (j := 6) 52 rfl ck_Album (by decide) (by decide) (show decode M_Album_init.2.1 49 = .ok (.putfield 27, 3) by decide +kernel) wd_401 rfl rfl rfl (fun _ => rfl) (vr_nar_a _) (vr_fit_a _) (fun σ_12 => ?_)
  exact V_vret rfl (by decide) (by decide) (show decode M_Album_init.2.1 52 = .ok (.return_, 1) by decide +kernel)
theorem cal_Album_init (d mc ms k n : Nat) (h1 : 1 + 1 ≤ d) (h2 : k + 6 ≤ mc) (h3 : n + 120 ≤ ms) : Cal M_Album_init 1 6 120 0 d mc ms k n := ⟨wd_391, wd_177, by decide, h1, by decide, h2, h3⟩
abbrev M_Ground_init : MD := (⟨"LongTrail$Ground", "<init>", "()V"⟩, prog_3_method_1_code, 1, (none : Option FieldType))
def f_Ground_init (h0 : Nat) (b : Bool) (σ : Sto) : Rs Unit := (lt_ (nC σ 21 (ix (16 : Int32))) (fun (σ_1 : Sto) => (lt_ (pR σ_1 h0 0 (Shn σ)) (fun (σ_2 : Sto) => (lt_ (nC σ_2 21 (ix (16 : Int32))) (fun (σ_3 : Sto) => (lt_ (pR σ_3 h0 1 (Shn σ_2)) (fun (σ_4 : Sto) => (lt_ (nC σ_4 21 (ix (16 : Int32))) (fun (σ_5 : Sto) => (lt_ (pR σ_5 h0 2 (Shn σ_4)) (fun (σ_6 : Sto) => (lt_ (nC σ_6 21 (ix (16 : Int32))) (fun (σ_7 : Sto) => (lt_ (pR σ_7 h0 3 (Shn σ_6)) (fun (σ_8 : Sto) => (lt_ (nC σ_8 21 (ix (4 : Int32))) (fun (σ_9 : Sto) => (lt_ (pI σ_9 (Shn σ_8) (ix (0 : Int32)) (0 : Int32)) (fun (σ_10 : Sto) => (lt_ (pI σ_10 (Shn σ_8) (ix (1 : Int32)) (-1000000005 : Int32)) (fun (σ_11 : Sto) => (lt_ (pI σ_11 (Shn σ_8) (ix (2 : Int32)) (-1000000005 : Int32)) (fun (σ_12 : Sto) => (lt_ (pI σ_12 (Shn σ_8) (ix (3 : Int32)) (-1000000005 : Int32)) (fun (σ_13 : Sto) => (lt_ (pR σ_13 h0 4 (Shn σ_8)) (fun (σ_14 : Sto) => (lt_ (nC σ_14 21 (ix (6 : Int32))) (fun (σ_15 : Sto) => (lt_ (pR σ_15 h0 5 (Shn σ_14)) (fun (σ_16 : Sto) => (lt_ (nC σ_16 21 (ix (6 : Int32))) (fun (σ_17 : Sto) => (lt_ (pR σ_17 h0 6 (Shn σ_16)) (fun (σ_18 : Sto) => (lt_ (nC σ_18 21 (ix (6 : Int32))) (fun (σ_19 : Sto) => (lt_ (pR σ_19 h0 7 (Shn σ_18)) (fun (σ_20 : Sto) => (lt_ (nC σ_20 21 (ix (6 : Int32))) (fun (σ_21 : Sto) => (lt_ (pR σ_21 h0 8 (Shn σ_20)) (fun (σ_22 : Sto) => (lt_ (pI σ_22 h0 9 (400 : Int32)) (fun (σ_23 : Sto) => ((), ((((((((((((((((((((((((b && !decide (h0 = 0)) && (!decide ((16 : Int32) < 0) && decide (ix (16 : Int32) ≤ 16))) && cK σ_1 h0 2) && (!decide ((16 : Int32) < 0) && decide (ix (16 : Int32) ≤ 16))) && cK σ_3 h0 2) && (!decide ((16 : Int32) < 0) && decide (ix (16 : Int32) ≤ 16))) && cK σ_5 h0 2) && (!decide ((16 : Int32) < 0) && decide (ix (16 : Int32) ≤ 16))) && cK σ_7 h0 2) && (!decide ((4 : Int32) < 0) && decide (ix (4 : Int32) ≤ 4))) && cA σ_9 (Shn σ_8) 21 (0 : Int32)) && cA σ_10 (Shn σ_8) 21 (1 : Int32)) && cA σ_11 (Shn σ_8) 21 (2 : Int32)) && cA σ_12 (Shn σ_8) 21 (3 : Int32)) && cK σ_13 h0 2) && (!decide ((6 : Int32) < 0) && decide (ix (6 : Int32) ≤ 6))) && cK σ_15 h0 2) && (!decide ((6 : Int32) < 0) && decide (ix (6 : Int32) ≤ 6))) && cK σ_17 h0 2) && (!decide ((6 : Int32) < 0) && decide (ix (6 : Int32) ≤ 6))) && cK σ_19 h0 2) && (!decide ((6 : Int32) < 0) && decide (ix (6 : Int32) ≤ 6))) && cK σ_21 h0 2) && cK σ_22 h0 2), σ_23)))))))))))))))))))))))))))))))))))))))))))))))
set_option maxRecDepth 100000 in
set_option maxHeartbeats 4000000 in
theorem s_Ground_init : ∀ (h0 : Nat) (b : Bool) (σ : Sto), Snd M_Ground_init 1 9 92 [vR h0] b σ (tU (f_Ground_init h0 b σ).1) (f_Ground_init h0 b σ).2.1 (f_Ground_init h0 b σ).2.2 := by
  intro h0 b σ
  refine Snd_of (tv := tU) (by decide) (Nat.le_of_ble_eq_true rfl) ?_
  show V M_Ground_init 1 9 92 0 0 tU (f_Ground_init h0 b σ) 0 [(0, vR h0)] [] b σ
  unfold f_Ground_init
  refine V_aload_n 1 rfl (show decode M_Ground_init.2.1 0 = .ok (.aload_n 0, 1) by decide +kernel) 0 rfl ?_
  refine V_objI 4 rfl (show decode M_Ground_init.2.1 1 = .ok (.invokespecial 3, 3) by decide +kernel) wd_210 wd_197 wd_objc (by decide) (Nat.le_of_ble_eq_true rfl) ?_
  refine V_aload_n 5 rfl (show decode M_Ground_init.2.1 4 = .ok (.aload_n 0, 1) by decide +kernel) 0 rfl ?_
  refine V_bipush 7 rfl (show decode M_Ground_init.2.1 5 = .ok (.bipush 16, 2) by decide +kernel) (v := 16) rfl ?_
  refine V_newa_int 9 16 rfl (show decode M_Ground_init.2.1 7 = .ok (.newarray .int, 2) by decide +kernel) wd_265 (by decide) (by decide) (by decide) (fun σ_1 => ?_)
  refine V_putRF (j := 0) 12 rfl ck_Ground (by decide) (by decide) (show decode M_Ground_init.2.1 9 = .ok (.putfield 11, 3) by decide +kernel) wd_212 rfl rfl rfl (fun _ => rfl) (vr_nar_a _) (vr_fit_a _) (fun σ_2 => ?_)
  refine V_aload_n 13 rfl (show decode M_Ground_init.2.1 12 = .ok (.aload_n 0, 1) by decide +kernel) 0 rfl ?_
  refine V_bipush 15 rfl (show decode M_Ground_init.2.1 13 = .ok (.bipush 16, 2) by decide +kernel) (v := 16) rfl ?_
  refine V_newa_int 17 16 rfl (show decode M_Ground_init.2.1 15 = .ok (.newarray .int, 2) by decide +kernel) wd_265 (by decide) (by decide) (by decide) (fun σ_3 => ?_)
  refine V_putRF (j := 1) 20 rfl ck_Ground (by decide) (by decide) (show decode M_Ground_init.2.1 17 = .ok (.putfield 15, 3) by decide +kernel) wd_214 rfl rfl rfl (fun _ => rfl) (vr_nar_a _) (vr_fit_a _) (fun σ_4 => ?_)
  refine V_aload_n 21 rfl (show decode M_Ground_init.2.1 20 = .ok (.aload_n 0, 1) by decide +kernel) 0 rfl ?_
  refine V_bipush 23 rfl (show decode M_Ground_init.2.1 21 = .ok (.bipush 16, 2) by decide +kernel) (v := 16) rfl ?_
  refine V_newa_int 25 16 rfl (show decode M_Ground_init.2.1 23 = .ok (.newarray .int, 2) by decide +kernel) wd_265 (by decide) (by decide) (by decide) (fun σ_5 => ?_)
  refine V_putRF (j := 2) 28 rfl ck_Ground (by decide) (by decide) (show decode M_Ground_init.2.1 25 = .ok (.putfield 18, 3) by decide +kernel) wd_218 rfl rfl rfl (fun _ => rfl) (vr_nar_a _) (vr_fit_a _) (fun σ_6 => ?_)
  refine V_aload_n 29 rfl (show decode M_Ground_init.2.1 28 = .ok (.aload_n 0, 1) by decide +kernel) 0 rfl ?_
  refine V_bipush 31 rfl (show decode M_Ground_init.2.1 29 = .ok (.bipush 16, 2) by decide +kernel) (v := 16) rfl ?_
  refine V_newa_int 33 16 rfl (show decode M_Ground_init.2.1 31 = .ok (.newarray .int, 2) by decide +kernel) wd_265 (by decide) (by decide) (by decide) (fun σ_7 => ?_)
  refine V_putRF (j := 3) 36 rfl ck_Ground (by decide) (by decide) (show decode M_Ground_init.2.1 33 = .ok (.putfield 21, 3) by decide +kernel) wd_220 rfl rfl rfl (fun _ => rfl) (vr_nar_a _) (vr_fit_a _) (fun σ_8 => ?_)
  refine V_aload_n 37 rfl (show decode M_Ground_init.2.1 36 = .ok (.aload_n 0, 1) by decide +kernel) 0 rfl ?_
  refine V_iconst 38 rfl (show decode M_Ground_init.2.1 37 = .ok (.iconst 4, 1) by decide +kernel) (v := 4) rfl ?_
  refine V_newa_int 40 4 rfl (show decode M_Ground_init.2.1 38 = .ok (.newarray .int, 2) by decide +kernel) wd_265 (by decide) (by decide) (by decide) (fun σ_9 => ?_)
  refine V_dup 41 rfl (show decode M_Ground_init.2.1 40 = .ok (.dup, 1) by decide +kernel) rfl ?_
  refine V_iconst 42 rfl (show decode M_Ground_init.2.1 41 = .ok (.iconst 0, 1) by decide +kernel) (v := 0) rfl ?_
  refine V_iconst 43 rfl (show decode M_Ground_init.2.1 42 = .ok (.iconst 0, 1) by decide +kernel) (v := 0) rfl ?_
  refine V_ast_int 44 rfl (show decode M_Ground_init.2.1 43 = .ok (.iastore, 1) by decide +kernel) (fun σ_10 => ?_)
  refine V_dup 45 rfl (show decode M_Ground_init.2.1 44 = .ok (.dup, 1) by decide +kernel) rfl ?_
  refine V_iconst 46 rfl (show decode M_Ground_init.2.1 45 = .ok (.iconst 1, 1) by decide +kernel) (v := 1) rfl ?_
  refine V_ldc 48 rfl (show decode M_Ground_init.2.1 46 = .ok (.ldc 24, 2) by decide +kernel) wd_211 ?_
  refine V_ast_int 49 rfl (show decode M_Ground_init.2.1 48 = .ok (.iastore, 1) by decide +kernel) (fun σ_11 => ?_)
  refine V_dup 50 rfl (show decode M_Ground_init.2.1 49 = .ok (.dup, 1) by decide +kernel) rfl ?_
  refine V_iconst 51 rfl (show decode M_Ground_init.2.1 50 = .ok (.iconst 2, 1) by decide +kernel) (v := 2) rfl ?_
  refine V_ldc 53 rfl (show decode M_Ground_init.2.1 51 = .ok (.ldc 24, 2) by decide +kernel) wd_211 ?_
  refine V_ast_int 54 rfl (show decode M_Ground_init.2.1 53 = .ok (.iastore, 1) by decide +kernel) (fun σ_12 => ?_)
  refine V_dup 55 rfl (show decode M_Ground_init.2.1 54 = .ok (.dup, 1) by decide +kernel) rfl ?_
  refine V_iconst 56 rfl (show decode M_Ground_init.2.1 55 = .ok (.iconst 3, 1) by decide +kernel) (v := 3) rfl ?_
  refine V_ldc 58 rfl (show decode M_Ground_init.2.1 56 = .ok (.ldc 24, 2) by decide +kernel) wd_211 ?_
  refine V_ast_int 59 rfl (show decode M_Ground_init.2.1 58 = .ok (.iastore, 1) by decide +kernel) (fun σ_13 => ?_)
  refine V_putRF (j := 4) 62 rfl ck_Ground (by decide) (by decide) (show decode M_Ground_init.2.1 59 = .ok (.putfield 25, 3) by decide +kernel) wd_222 rfl rfl rfl (fun _ => rfl) (vr_nar_a _) (vr_fit_a _) (fun σ_14 => ?_)
  refine V_aload_n 63 rfl (show decode M_Ground_init.2.1 62 = .ok (.aload_n 0, 1) by decide +kernel) 0 rfl ?_
  refine V_bipush 65 rfl (show decode M_Ground_init.2.1 63 = .ok (.bipush 6, 2) by decide +kernel) (v := 6) rfl ?_
  refine V_newa_int 67 6 rfl (show decode M_Ground_init.2.1 65 = .ok (.newarray .int, 2) by decide +kernel) wd_265 (by decide) (by decide) (by decide) (fun σ_15 => ?_)
  refine V_putRF (j := 5) 70 rfl ck_Ground (by decide) (by decide) (show decode M_Ground_init.2.1 67 = .ok (.putfield 28, 3) by decide +kernel) wd_224 rfl rfl rfl (fun _ => rfl) (vr_nar_a _) (vr_fit_a _) (fun σ_16 => ?_)
  refine V_aload_n 71 rfl (show decode M_Ground_init.2.1 70 = .ok (.aload_n 0, 1) by decide +kernel) 0 rfl ?_
  refine V_bipush 73 rfl (show decode M_Ground_init.2.1 71 = .ok (.bipush 6, 2) by decide +kernel) (v := 6) rfl ?_
  refine V_newa_int 75 6 rfl (show decode M_Ground_init.2.1 73 = .ok (.newarray .int, 2) by decide +kernel) wd_265 (by decide) (by decide) (by decide) (fun σ_17 => ?_)
  refine V_putRF (j := 6) 78 rfl ck_Ground (by decide) (by decide) (show decode M_Ground_init.2.1 75 = .ok (.putfield 31, 3) by decide +kernel) wd_226 rfl rfl rfl (fun _ => rfl) (vr_nar_a _) (vr_fit_a _) (fun σ_18 => ?_)
  refine V_aload_n 79 rfl (show decode M_Ground_init.2.1 78 = .ok (.aload_n 0, 1) by decide +kernel) 0 rfl ?_
  refine V_bipush 81 rfl (show decode M_Ground_init.2.1 79 = .ok (.bipush 6, 2) by decide +kernel) (v := 6) rfl ?_
  refine V_newa_int 83 6 rfl (show decode M_Ground_init.2.1 81 = .ok (.newarray .int, 2) by decide +kernel) wd_265 (by decide) (by decide) (by decide) (fun σ_19 => ?_)
  refine V_putRF (j := 7) 86 rfl ck_Ground (by decide) (by decide) (show decode M_Ground_init.2.1 83 = .ok (.putfield 34, 3) by decide +kernel) wd_228 rfl rfl rfl (fun _ => rfl) (vr_nar_a _) (vr_fit_a _) (fun σ_20 => ?_)
  refine V_aload_n 87 rfl (show decode M_Ground_init.2.1 86 = .ok (.aload_n 0, 1) by decide +kernel) 0 rfl ?_
  refine V_bipush 89 rfl (show decode M_Ground_init.2.1 87 = .ok (.bipush 6, 2) by decide +kernel) (v := 6) rfl ?_
  refine V_newa_int 91 6 rfl (show decode M_Ground_init.2.1 89 = .ok (.newarray .int, 2) by decide +kernel) wd_265 (by decide) (by decide) (by decide) (fun σ_21 => ?_)
  refine V_putRF (j := 8) 94 rfl ck_Ground (by decide) (by decide) (show decode M_Ground_init.2.1 91 = .ok (.putfield 37, 3) by decide +kernel) wd_229 rfl rfl rfl (fun _ => rfl) (vr_nar_a _) (vr_fit_a _) (fun σ_22 => ?_)
  refine V_aload_n 95 rfl (show decode M_Ground_init.2.1 94 = .ok (.aload_n 0, 1) by decide +kernel) 0 rfl ?_
  refine V_sipush 98 rfl (show decode M_Ground_init.2.1 95 = .ok (.sipush 400, 3) by decide +kernel) (v := 400) rfl ?_
  refine V_putI (j := 9) 101 rfl ck_Ground (by decide) (by decide) (show decode M_Ground_init.2.1 98 = .ok (.putfield 40, 3) by decide +kernel) wd_230 rfl (fun _ => rfl) rfl rfl (fun σ_23 => ?_)
  exact V_vret rfl (by decide) (by decide) (show decode M_Ground_init.2.1 101 = .ok (.return_, 1) by decide +kernel)
theorem cal_Ground_init (d mc ms k n : Nat) (h1 : 1 + 1 ≤ d) (h2 : k + 9 ≤ mc) (h3 : n + 92 ≤ ms) : Cal M_Ground_init 1 9 92 0 d mc ms k n := ⟨wd_209, wd_172, by decide, h1, by decide, h2, h3⟩
abbrev M_Laws_init : MD := (⟨"LongTrail$Laws", "<init>", "()V"⟩, prog_4_method_1_code, 1, (none : Option FieldType))
def f_Laws_init (h0 : Nat) (b : Bool) (σ : Sto) : Rs Unit := (lt_ (nC σ 25 (ix (12 : Int32))) (fun (σ_1 : Sto) => (lt_ (pR σ_1 h0 0 (Shn σ)) (fun (σ_2 : Sto) => (lt_ (nC σ_2 21 (ix (4 : Int32))) (fun (σ_3 : Sto) => (lt_ (pR σ_3 h0 2 (Shn σ_2)) (fun (σ_4 : Sto) => (lt_ (nC σ_4 21 (ix (96 : Int32))) (fun (σ_5 : Sto) => (lt_ (pR σ_5 h0 3 (Shn σ_4)) (fun (σ_6 : Sto) => ((), (((((((b && !decide (h0 = 0)) && (!decide ((12 : Int32) < 0) && decide (ix (12 : Int32) ≤ 12))) && cK σ_1 h0 3) && (!decide ((4 : Int32) < 0) && decide (ix (4 : Int32) ≤ 4))) && cK σ_3 h0 3) && (!decide ((96 : Int32) < 0) && decide (ix (96 : Int32) ≤ 96))) && cK σ_5 h0 3), σ_6)))))))))))))
set_option maxRecDepth 100000 in
set_option maxHeartbeats 4000000 in
theorem s_Laws_init : ∀ (h0 : Nat) (b : Bool) (σ : Sto), Snd M_Laws_init 1 3 112 [vR h0] b σ (tU (f_Laws_init h0 b σ).1) (f_Laws_init h0 b σ).2.1 (f_Laws_init h0 b σ).2.2 := by
  intro h0 b σ
  refine Snd_of (tv := tU) (by decide) (Nat.le_of_ble_eq_true rfl) ?_
  show V M_Laws_init 1 3 112 0 0 tU (f_Laws_init h0 b σ) 0 [(0, vR h0)] [] b σ
  unfold f_Laws_init
  refine V_aload_n 1 rfl (show decode M_Laws_init.2.1 0 = .ok (.aload_n 0, 1) by decide +kernel) 0 rfl ?_
  refine V_objI 4 rfl (show decode M_Laws_init.2.1 1 = .ok (.invokespecial 1, 3) by decide +kernel) wd_271 wd_197 wd_objc (by decide) (Nat.le_of_ble_eq_true rfl) ?_
  refine V_aload_n 5 rfl (show decode M_Laws_init.2.1 4 = .ok (.aload_n 0, 1) by decide +kernel) 0 rfl ?_
  refine V_bipush 7 rfl (show decode M_Laws_init.2.1 5 = .ok (.bipush 12, 2) by decide +kernel) (v := 12) rfl ?_
  refine V_newa_r25 10 12 rfl (show decode M_Laws_init.2.1 7 = .ok (.anewarray 9, 3) by decide +kernel) wd_272 (by decide) (by decide) (by decide) (fun σ_1 => ?_)
  refine V_putRF (j := 0) 13 rfl ck_Laws (by decide) (by decide) (show decode M_Laws_init.2.1 10 = .ok (.putfield 11, 3) by decide +kernel) wd_274 rfl rfl rfl (fun _ => rfl) (vr_nar_a _) (vr_fit_a _) (fun σ_2 => ?_)
  refine V_aload_n 14 rfl (show decode M_Laws_init.2.1 13 = .ok (.aload_n 0, 1) by decide +kernel) 0 rfl ?_
  refine V_iconst 15 rfl (show decode M_Laws_init.2.1 14 = .ok (.iconst 4, 1) by decide +kernel) (v := 4) rfl ?_
  refine V_newa_int 17 4 rfl (show decode M_Laws_init.2.1 15 = .ok (.newarray .int, 2) by decide +kernel) wd_265 (by decide) (by decide) (by decide) (fun σ_3 => ?_)
  refine V_putRF (j := 2) 20 rfl ck_Laws (by decide) (by decide) (show decode M_Laws_init.2.1 17 = .ok (.putfield 15, 3) by decide +kernel) wd_277 rfl rfl rfl (fun _ => rfl) (vr_nar_a _) (vr_fit_a _) (fun σ_4 => ?_)
  refine V_aload_n 21 rfl (show decode M_Laws_init.2.1 20 = .ok (.aload_n 0, 1) by decide +kernel) 0 rfl ?_
  refine V_bipush 23 rfl (show decode M_Laws_init.2.1 21 = .ok (.bipush 96, 2) by decide +kernel) (v := 96) rfl ?_
  refine V_newa_int 25 96 rfl (show decode M_Laws_init.2.1 23 = .ok (.newarray .int, 2) by decide +kernel) wd_265 (by decide) (by decide) (by decide) (fun σ_5 => ?_)
  refine V_putRF (j := 3) 28 rfl ck_Laws (by decide) (by decide) (show decode M_Laws_init.2.1 25 = .ok (.putfield 21, 3) by decide +kernel) wd_278 rfl rfl rfl (fun _ => rfl) (vr_nar_a _) (vr_fit_a _) (fun σ_6 => ?_)
  exact V_vret rfl (by decide) (by decide) (show decode M_Laws_init.2.1 28 = .ok (.return_, 1) by decide +kernel)
theorem cal_Laws_init (d mc ms k n : Nat) (h1 : 1 + 1 ≤ d) (h2 : k + 3 ≤ mc) (h3 : n + 112 ≤ ms) : Cal M_Laws_init 1 3 112 0 d mc ms k n := ⟨wd_270, wd_173, by decide, h1, by decide, h2, h3⟩
abbrev M_Permits_init : MD := (⟨"LongTrail$Permits", "<init>", "()V"⟩, prog_5_method_1_code, 1, (none : Option FieldType))
def f_Permits_init (h0 : Nat) (b : Bool) (σ : Sto) : Rs Unit := (lt_ (nC σ 21 (ix (7 : Int32))) (fun (σ_1 : Sto) => (lt_ (pI σ_1 (Shn σ) (ix (0 : Int32)) (1 : Int32)) (fun (σ_2 : Sto) => (lt_ (pI σ_2 (Shn σ) (ix (1 : Int32)) (1 : Int32)) (fun (σ_3 : Sto) => (lt_ (pI σ_3 (Shn σ) (ix (2 : Int32)) (1 : Int32)) (fun (σ_4 : Sto) => (lt_ (pI σ_4 (Shn σ) (ix (3 : Int32)) (1 : Int32)) (fun (σ_5 : Sto) => (lt_ (pI σ_5 (Shn σ) (ix (4 : Int32)) (1 : Int32)) (fun (σ_6 : Sto) => (lt_ (pI σ_6 (Shn σ) (ix (5 : Int32)) (1 : Int32)) (fun (σ_7 : Sto) => (lt_ (pI σ_7 (Shn σ) (ix (6 : Int32)) (1 : Int32)) (fun (σ_8 : Sto) => (lt_ (pR σ_8 h0 0 (Shn σ)) (fun (σ_9 : Sto) => (lt_ (nC σ_9 21 (ix (16 : Int32))) (fun (σ_10 : Sto) => (lt_ (pR σ_10 h0 1 (Shn σ_9)) (fun (σ_11 : Sto) => (lt_ (nC σ_11 21 (ix (16 : Int32))) (fun (σ_12 : Sto) => (lt_ (pR σ_12 h0 2 (Shn σ_11)) (fun (σ_13 : Sto) => (lt_ (nC σ_13 21 (ix (16 : Int32))) (fun (σ_14 : Sto) => (lt_ (pR σ_14 h0 4 (Shn σ_13)) (fun (σ_15 : Sto) => (lt_ (nC σ_15 21 (ix (16 : Int32))) (fun (σ_16 : Sto) => (lt_ (pR σ_16 h0 5 (Shn σ_15)) (fun (σ_17 : Sto) => (lt_ (nC σ_17 21 (ix (16 : Int32))) (fun (σ_18 : Sto) => (lt_ (pR σ_18 h0 6 (Shn σ_17)) (fun (σ_19 : Sto) => ((), ((((((((((((((((((((b && !decide (h0 = 0)) && (!decide ((7 : Int32) < 0) && decide (ix (7 : Int32) ≤ 7))) && cA σ_1 (Shn σ) 21 (0 : Int32)) && cA σ_2 (Shn σ) 21 (1 : Int32)) && cA σ_3 (Shn σ) 21 (2 : Int32)) && cA σ_4 (Shn σ) 21 (3 : Int32)) && cA σ_5 (Shn σ) 21 (4 : Int32)) && cA σ_6 (Shn σ) 21 (5 : Int32)) && cA σ_7 (Shn σ) 21 (6 : Int32)) && cK σ_8 h0 4) && (!decide ((16 : Int32) < 0) && decide (ix (16 : Int32) ≤ 16))) && cK σ_10 h0 4) && (!decide ((16 : Int32) < 0) && decide (ix (16 : Int32) ≤ 16))) && cK σ_12 h0 4) && (!decide ((16 : Int32) < 0) && decide (ix (16 : Int32) ≤ 16))) && cK σ_14 h0 4) && (!decide ((16 : Int32) < 0) && decide (ix (16 : Int32) ≤ 16))) && cK σ_16 h0 4) && (!decide ((16 : Int32) < 0) && decide (ix (16 : Int32) ≤ 16))) && cK σ_18 h0 4), σ_19)))))))))))))))))))))))))))))))))))))))
set_option maxRecDepth 100000 in
set_option maxHeartbeats 4000000 in
theorem s_Permits_init : ∀ (h0 : Nat) (b : Bool) (σ : Sto), Snd M_Permits_init 1 6 87 [vR h0] b σ (tU (f_Permits_init h0 b σ).1) (f_Permits_init h0 b σ).2.1 (f_Permits_init h0 b σ).2.2 := by
  intro h0 b σ
  refine Snd_of (tv := tU) (by decide) (Nat.le_of_ble_eq_true rfl) ?_
  show V M_Permits_init 1 6 87 0 0 tU (f_Permits_init h0 b σ) 0 [(0, vR h0)] [] b σ
  unfold f_Permits_init
  refine V_aload_n 1 rfl (show decode M_Permits_init.2.1 0 = .ok (.aload_n 0, 1) by decide +kernel) 0 rfl ?_
  refine V_objI 4 rfl (show decode M_Permits_init.2.1 1 = .ok (.invokespecial 3, 3) by decide +kernel) wd_327 wd_197 wd_objc (by decide) (Nat.le_of_ble_eq_true rfl) ?_
  refine V_aload_n 5 rfl (show decode M_Permits_init.2.1 4 = .ok (.aload_n 0, 1) by decide +kernel) 0 rfl ?_
  refine V_bipush 7 rfl (show decode M_Permits_init.2.1 5 = .ok (.bipush 7, 2) by decide +kernel) (v := 7) rfl ?_
  refine V_newa_int 9 7 rfl (show decode M_Permits_init.2.1 7 = .ok (.newarray .int, 2) by decide +kernel) wd_265 (by decide) (by decide) (by decide) (fun σ_1 => ?_)
  refine V_dup 10 rfl (show decode M_Permits_init.2.1 9 = .ok (.dup, 1) by decide +kernel) rfl ?_
  refine V_iconst 11 rfl (show decode M_Permits_init.2.1 10 = .ok (.iconst 0, 1) by decide +kernel) (v := 0) rfl ?_
  refine V_iconst 12 rfl (show decode M_Permits_init.2.1 11 = .ok (.iconst 1, 1) by decide +kernel) (v := 1) rfl ?_
  refine V_ast_int 13 rfl (show decode M_Permits_init.2.1 12 = .ok (.iastore, 1) by decide +kernel) (fun σ_2 => ?_)
  refine V_dup 14 rfl (show decode M_Permits_init.2.1 13 = .ok (.dup, 1) by decide +kernel) rfl ?_
  refine V_iconst 15 rfl (show decode M_Permits_init.2.1 14 = .ok (.iconst 1, 1) by decide +kernel) (v := 1) rfl ?_
  refine V_iconst 16 rfl (show decode M_Permits_init.2.1 15 = .ok (.iconst 1, 1) by decide +kernel) (v := 1) rfl ?_
  refine V_ast_int 17 rfl (show decode M_Permits_init.2.1 16 = .ok (.iastore, 1) by decide +kernel) (fun σ_3 => ?_)
  refine V_dup 18 rfl (show decode M_Permits_init.2.1 17 = .ok (.dup, 1) by decide +kernel) rfl ?_
  refine V_iconst 19 rfl (show decode M_Permits_init.2.1 18 = .ok (.iconst 2, 1) by decide +kernel) (v := 2) rfl ?_
  refine V_iconst 20 rfl (show decode M_Permits_init.2.1 19 = .ok (.iconst 1, 1) by decide +kernel) (v := 1) rfl ?_
  refine V_ast_int 21 rfl (show decode M_Permits_init.2.1 20 = .ok (.iastore, 1) by decide +kernel) (fun σ_4 => ?_)
  refine V_dup 22 rfl (show decode M_Permits_init.2.1 21 = .ok (.dup, 1) by decide +kernel) rfl ?_
  refine V_iconst 23 rfl (show decode M_Permits_init.2.1 22 = .ok (.iconst 3, 1) by decide +kernel) (v := 3) rfl ?_
  refine V_iconst 24 rfl (show decode M_Permits_init.2.1 23 = .ok (.iconst 1, 1) by decide +kernel) (v := 1) rfl ?_
  refine V_ast_int 25 rfl (show decode M_Permits_init.2.1 24 = .ok (.iastore, 1) by decide +kernel) (fun σ_5 => ?_)
  refine V_dup 26 rfl (show decode M_Permits_init.2.1 25 = .ok (.dup, 1) by decide +kernel) rfl ?_
  refine V_iconst 27 rfl (show decode M_Permits_init.2.1 26 = .ok (.iconst 4, 1) by decide +kernel) (v := 4) rfl ?_
  refine V_iconst 28 rfl (show decode M_Permits_init.2.1 27 = .ok (.iconst 1, 1) by decide +kernel) (v := 1) rfl ?_
  refine V_ast_int 29 rfl (show decode M_Permits_init.2.1 28 = .ok (.iastore, 1) by decide +kernel) (fun σ_6 => ?_)
  refine V_dup 30 rfl (show decode M_Permits_init.2.1 29 = .ok (.dup, 1) by decide +kernel) rfl ?_
  refine V_iconst 31 rfl (show decode M_Permits_init.2.1 30 = .ok (.iconst 5, 1) by decide +kernel) (v := 5) rfl ?_
  refine V_iconst 32 rfl (show decode M_Permits_init.2.1 31 = .ok (.iconst 1, 1) by decide +kernel) (v := 1) rfl ?_
  refine V_ast_int 33 rfl (show decode M_Permits_init.2.1 32 = .ok (.iastore, 1) by decide +kernel) (fun σ_7 => ?_)
  refine V_dup 34 rfl (show decode M_Permits_init.2.1 33 = .ok (.dup, 1) by decide +kernel) rfl ?_
  refine V_bipush 36 rfl (show decode M_Permits_init.2.1 34 = .ok (.bipush 6, 2) by decide +kernel) (v := 6) rfl ?_
  refine V_iconst 37 rfl (show decode M_Permits_init.2.1 36 = .ok (.iconst 1, 1) by decide +kernel) (v := 1) rfl ?_
  refine V_ast_int 38 rfl (show decode M_Permits_init.2.1 37 = .ok (.iastore, 1) by decide +kernel) (fun σ_8 => ?_)
  refine V_putRF (j := 0) 41 rfl ck_Permits (by decide) (by decide) (show decode M_Permits_init.2.1 38 = .ok (.putfield 9, 3) by decide +kernel) wd_328 rfl rfl rfl (fun _ => rfl) (vr_nar_a _) (vr_fit_a _) (fun σ_9 => ?_)
  refine V_aload_n 42 rfl (show decode M_Permits_init.2.1 41 = .ok (.aload_n 0, 1) by decide +kernel) 0 rfl ?_
  refine V_bipush 44 rfl (show decode M_Permits_init.2.1 42 = .ok (.bipush 16, 2) by decide +kernel) (v := 16) rfl ?_
  refine V_newa_int 46 16 rfl (show decode M_Permits_init.2.1 44 = .ok (.newarray .int, 2) by decide +kernel) wd_265 (by decide) (by decide) (by decide) (fun σ_10 => ?_)
  refine V_putRF (j := 1) 49 rfl ck_Permits (by decide) (by decide) (show decode M_Permits_init.2.1 46 = .ok (.putfield 15, 3) by decide +kernel) wd_330 rfl rfl rfl (fun _ => rfl) (vr_nar_a _) (vr_fit_a _) (fun σ_11 => ?_)
  refine V_aload_n 50 rfl (show decode M_Permits_init.2.1 49 = .ok (.aload_n 0, 1) by decide +kernel) 0 rfl ?_
  refine V_bipush 52 rfl (show decode M_Permits_init.2.1 50 = .ok (.bipush 16, 2) by decide +kernel) (v := 16) rfl ?_
  refine V_newa_int 54 16 rfl (show decode M_Permits_init.2.1 52 = .ok (.newarray .int, 2) by decide +kernel) wd_265 (by decide) (by decide) (by decide) (fun σ_12 => ?_)
  refine V_putRF (j := 2) 57 rfl ck_Permits (by decide) (by decide) (show decode M_Permits_init.2.1 54 = .ok (.putfield 18, 3) by decide +kernel) wd_331 rfl rfl rfl (fun _ => rfl) (vr_nar_a _) (vr_fit_a _) (fun σ_13 => ?_)
  refine V_aload_n 58 rfl (show decode M_Permits_init.2.1 57 = .ok (.aload_n 0, 1) by decide +kernel) 0 rfl ?_
  refine V_bipush 60 rfl (show decode M_Permits_init.2.1 58 = .ok (.bipush 16, 2) by decide +kernel) (v := 16) rfl ?_
  refine V_newa_int 62 16 rfl (show decode M_Permits_init.2.1 60 = .ok (.newarray .int, 2) by decide +kernel) wd_265 (by decide) (by decide) (by decide) (fun σ_14 => ?_)
  refine V_putRF (j := 4) 65 rfl ck_Permits (by decide) (by decide) (show decode M_Permits_init.2.1 62 = .ok (.putfield 21, 3) by decide +kernel) wd_334 rfl rfl rfl (fun _ => rfl) (vr_nar_a _) (vr_fit_a _) (fun σ_15 => ?_)
  refine V_aload_n 66 rfl (show decode M_Permits_init.2.1 65 = .ok (.aload_n 0, 1) by decide +kernel) 0 rfl ?_
  refine V_bipush 68 rfl (show decode M_Permits_init.2.1 66 = .ok (.bipush 16, 2) by decide +kernel) (v := 16) rfl ?_
  refine V_newa_int 70 16 rfl (show decode M_Permits_init.2.1 68 = .ok (.newarray .int, 2) by decide +kernel) wd_265 (by decide) (by decide) (by decide) (fun σ_16 => ?_)
  refine V_putRF (j := 5) 73 rfl ck_Permits (by decide) (by decide) (show decode M_Permits_init.2.1 70 = .ok (.putfield 24, 3) by decide +kernel) wd_335 rfl rfl rfl (fun _ => rfl) (vr_nar_a _) (vr_fit_a _) (fun σ_17 => ?_)
  refine V_aload_n 74 rfl (show decode M_Permits_init.2.1 73 = .ok (.aload_n 0, 1) by decide +kernel) 0 rfl ?_
  refine V_bipush 76 rfl (show decode M_Permits_init.2.1 74 = .ok (.bipush 16, 2) by decide +kernel) (v := 16) rfl ?_
  refine V_newa_int 78 16 rfl (show decode M_Permits_init.2.1 76 = .ok (.newarray .int, 2) by decide +kernel) wd_265 (by decide) (by decide) (by decide) (fun σ_18 => ?_)
  refine V_putRF (j := 6) 81 rfl ck_Permits (by decide) (by decide) (show decode M_Permits_init.2.1 78 = .ok (.putfield 27, 3) by decide +kernel) wd_336 rfl rfl rfl (fun _ => rfl) (vr_nar_a _) (vr_fit_a _) (fun σ_19 => ?_)
  exact V_vret rfl (by decide) (by decide) (show decode M_Permits_init.2.1 81 = .ok (.return_, 1) by decide +kernel)
theorem cal_Permits_init (d mc ms k n : Nat) (h1 : 1 + 1 ≤ d) (h2 : k + 6 ≤ mc) (h3 : n + 87 ≤ ms) : Cal M_Permits_init 1 6 87 0 d mc ms k n := ⟨wd_326, wd_175, by decide, h1, by decide, h2, h3⟩
abbrev M_Post_init : MD := (⟨"LongTrail$Post", "<init>", "()V"⟩, prog_6_method_1_code, 1, (none : Option FieldType))
def f_Post_init (h0 : Nat) (b : Bool) (σ : Sto) : Rs Unit := (lt_ (nC σ 21 (ix (20 : Int32))) (fun (σ_1 : Sto) => (lt_ (pR σ_1 h0 0 (Shn σ)) (fun (σ_2 : Sto) => (lt_ (nC σ_2 21 (ix (20 : Int32))) (fun (σ_3 : Sto) => (lt_ (pR σ_3 h0 1 (Shn σ_2)) (fun (σ_4 : Sto) => (lt_ (nC σ_4 21 (ix (20 : Int32))) (fun (σ_5 : Sto) => (lt_ (pR σ_5 h0 2 (Shn σ_4)) (fun (σ_6 : Sto) => (lt_ (nC σ_6 21 (ix (20 : Int32))) (fun (σ_7 : Sto) => (lt_ (pR σ_7 h0 3 (Shn σ_6)) (fun (σ_8 : Sto) => (lt_ (nC σ_8 21 (ix (20 : Int32))) (fun (σ_9 : Sto) => (lt_ (pR σ_9 h0 4 (Shn σ_8)) (fun (σ_10 : Sto) => ((), (((((((((((b && !decide (h0 = 0)) && (!decide ((20 : Int32) < 0) && decide (ix (20 : Int32) ≤ 20))) && cK σ_1 h0 5) && (!decide ((20 : Int32) < 0) && decide (ix (20 : Int32) ≤ 20))) && cK σ_3 h0 5) && (!decide ((20 : Int32) < 0) && decide (ix (20 : Int32) ≤ 20))) && cK σ_5 h0 5) && (!decide ((20 : Int32) < 0) && decide (ix (20 : Int32) ≤ 20))) && cK σ_7 h0 5) && (!decide ((20 : Int32) < 0) && decide (ix (20 : Int32) ≤ 20))) && cK σ_9 h0 5), σ_10)))))))))))))))))))))
set_option maxRecDepth 100000 in
set_option maxHeartbeats 4000000 in
theorem s_Post_init : ∀ (h0 : Nat) (b : Bool) (σ : Sto), Snd M_Post_init 1 5 100 [vR h0] b σ (tU (f_Post_init h0 b σ).1) (f_Post_init h0 b σ).2.1 (f_Post_init h0 b σ).2.2 := by
  intro h0 b σ
  refine Snd_of (tv := tU) (by decide) (Nat.le_of_ble_eq_true rfl) ?_
  show V M_Post_init 1 5 100 0 0 tU (f_Post_init h0 b σ) 0 [(0, vR h0)] [] b σ
  unfold f_Post_init
  refine V_aload_n 1 rfl (show decode M_Post_init.2.1 0 = .ok (.aload_n 0, 1) by decide +kernel) 0 rfl ?_
  refine V_objI 4 rfl (show decode M_Post_init.2.1 1 = .ok (.invokespecial 1, 3) by decide +kernel) wd_296 wd_197 wd_objc (by decide) (Nat.le_of_ble_eq_true rfl) ?_
  refine V_aload_n 5 rfl (show decode M_Post_init.2.1 4 = .ok (.aload_n 0, 1) by decide +kernel) 0 rfl ?_
  refine V_bipush 7 rfl (show decode M_Post_init.2.1 5 = .ok (.bipush 20, 2) by decide +kernel) (v := 20) rfl ?_
  refine V_newa_int 9 20 rfl (show decode M_Post_init.2.1 7 = .ok (.newarray .int, 2) by decide +kernel) wd_265 (by decide) (by decide) (by decide) (fun σ_1 => ?_)
  refine V_putRF (j := 0) 12 rfl ck_Post (by decide) (by decide) (show decode M_Post_init.2.1 9 = .ok (.putfield 9, 3) by decide +kernel) wd_297 rfl rfl rfl (fun _ => rfl) (vr_nar_a _) (vr_fit_a _) (fun σ_2 => ?_)
  refine V_aload_n 13 rfl (show decode M_Post_init.2.1 12 = .ok (.aload_n 0, 1) by decide +kernel) 0 rfl ?_
  refine V_bipush 15 rfl (show decode M_Post_init.2.1 13 = .ok (.bipush 20, 2) by decide +kernel) (v := 20) rfl ?_
  refine V_newa_int 17 20 rfl (show decode M_Post_init.2.1 15 = .ok (.newarray .int, 2) by decide +kernel) wd_265 (by decide) (by decide) (by decide) (fun σ_3 => ?_)
  refine V_putRF (j := 1) 20 rfl ck_Post (by decide) (by decide) (show decode M_Post_init.2.1 17 = .ok (.putfield 13, 3) by decide +kernel) wd_299 rfl rfl rfl (fun _ => rfl) (vr_nar_a _) (vr_fit_a _) (fun σ_4 => ?_)
  refine V_aload_n 21 rfl (show decode M_Post_init.2.1 20 = .ok (.aload_n 0, 1) by decide +kernel) 0 rfl ?_
  refine V_bipush 23 rfl (show decode M_Post_init.2.1 21 = .ok (.bipush 20, 2) by decide +kernel) (v := 20) rfl ?_
  refine V_newa_int 25 20 rfl (show decode M_Post_init.2.1 23 = .ok (.newarray .int, 2) by decide +kernel) wd_265 (by decide) (by decide) (by decide) (fun σ_5 => ?_)
  refine V_putRF (j := 2) 28 rfl ck_Post (by decide) (by decide) (show decode M_Post_init.2.1 25 = .ok (.putfield 16, 3) by decide +kernel) wd_301 rfl rfl rfl (fun _ => rfl) (vr_nar_a _) (vr_fit_a _) (fun σ_6 => ?_)
  refine V_aload_n 29 rfl (show decode M_Post_init.2.1 28 = .ok (.aload_n 0, 1) by decide +kernel) 0 rfl ?_
  refine V_bipush 31 rfl (show decode M_Post_init.2.1 29 = .ok (.bipush 20, 2) by decide +kernel) (v := 20) rfl ?_
  refine V_newa_int 33 20 rfl (show decode M_Post_init.2.1 31 = .ok (.newarray .int, 2) by decide +kernel) wd_265 (by decide) (by decide) (by decide) (fun σ_7 => ?_)
  refine V_putRF (j := 3) 36 rfl ck_Post (by decide) (by decide) (show decode M_Post_init.2.1 33 = .ok (.putfield 19, 3) by decide +kernel) wd_303 rfl rfl rfl (fun _ => rfl) (vr_nar_a _) (vr_fit_a _) (fun σ_8 => ?_)
  refine V_aload_n 37 rfl (show decode M_Post_init.2.1 36 = .ok (.aload_n 0, 1) by decide +kernel) 0 rfl ?_
  refine V_bipush 39 rfl (show decode M_Post_init.2.1 37 = .ok (.bipush 20, 2) by decide +kernel) (v := 20) rfl ?_
  refine V_newa_int 41 20 rfl (show decode M_Post_init.2.1 39 = .ok (.newarray .int, 2) by decide +kernel) wd_265 (by decide) (by decide) (by decide) (fun σ_9 => ?_)
  refine V_putRF (j := 4) 44 rfl ck_Post (by decide) (by decide) (show decode M_Post_init.2.1 41 = .ok (.putfield 22, 3) by decide +kernel) wd_305 rfl rfl rfl (fun _ => rfl) (vr_nar_a _) (vr_fit_a _) (fun σ_10 => ?_)
  exact V_vret rfl (by decide) (by decide) (show decode M_Post_init.2.1 44 = .ok (.return_, 1) by decide +kernel)
theorem cal_Post_init (d mc ms k n : Nat) (h1 : 1 + 1 ≤ d) (h2 : k + 5 ≤ mc) (h3 : n + 100 ≤ ms) : Cal M_Post_init 1 5 100 0 d mc ms k n := ⟨wd_295, wd_174, by decide, h1, by decide, h2, h3⟩
abbrev M_Supply_init : MD := (⟨"LongTrail$Supply", "<init>", "()V"⟩, prog_8_method_1_code, 1, (none : Option FieldType))
def f_Supply_init (h0 : Nat) (b : Bool) (σ : Sto) : Rs Unit := (lt_ (pI σ h0 0 (10 : Int32)) (fun (σ_1 : Sto) => (lt_ (nC σ_1 21 (ix (12 : Int32))) (fun (σ_2 : Sto) => (lt_ (pR σ_2 h0 1 (Shn σ_1)) (fun (σ_3 : Sto) => (lt_ (nC σ_3 21 (ix (12 : Int32))) (fun (σ_4 : Sto) => (lt_ (pR σ_4 h0 2 (Shn σ_3)) (fun (σ_5 : Sto) => (lt_ (nC σ_5 21 (ix (12 : Int32))) (fun (σ_6 : Sto) => (lt_ (pR σ_6 h0 3 (Shn σ_5)) (fun (σ_7 : Sto) => (lt_ (nC σ_7 21 (ix (16 : Int32))) (fun (σ_8 : Sto) => (lt_ (pR σ_8 h0 5 (Shn σ_7)) (fun (σ_9 : Sto) => (lt_ (nC σ_9 21 (ix (17 : Int32))) (fun (σ_10 : Sto) => (lt_ (pR σ_10 h0 6 (Shn σ_9)) (fun (σ_11 : Sto) => (lt_ (nC σ_11 23 (ix (17 : Int32))) (fun (σ_12 : Sto) => (lt_ (pR σ_12 h0 7 (Shn σ_11)) (fun (σ_13 : Sto) => ((), ((((((((((((((b && !decide (h0 = 0)) && cK σ h0 7) && (!decide ((12 : Int32) < 0) && decide (ix (12 : Int32) ≤ 12))) && cK σ_2 h0 7) && (!decide ((12 : Int32) < 0) && decide (ix (12 : Int32) ≤ 12))) && cK σ_4 h0 7) && (!decide ((12 : Int32) < 0) && decide (ix (12 : Int32) ≤ 12))) && cK σ_6 h0 7) && (!decide ((16 : Int32) < 0) && decide (ix (16 : Int32) ≤ 16))) && cK σ_8 h0 7) && (!decide ((17 : Int32) < 0) && decide (ix (17 : Int32) ≤ 17))) && cK σ_10 h0 7) && (!decide ((17 : Int32) < 0) && decide (ix (17 : Int32) ≤ 17))) && cK σ_12 h0 7), σ_13)))))))))))))))))))))))))))
set_option maxRecDepth 100000 in
set_option maxHeartbeats 4000000 in
theorem s_Supply_init : ∀ (h0 : Nat) (b : Bool) (σ : Sto), Snd M_Supply_init 1 6 86 [vR h0] b σ (tU (f_Supply_init h0 b σ).1) (f_Supply_init h0 b σ).2.1 (f_Supply_init h0 b σ).2.2 := by
  intro h0 b σ
  refine Snd_of (tv := tU) (by decide) (Nat.le_of_ble_eq_true rfl) ?_
  show V M_Supply_init 1 6 86 0 0 tU (f_Supply_init h0 b σ) 0 [(0, vR h0)] [] b σ
  unfold f_Supply_init
  refine V_aload_n 1 rfl (show decode M_Supply_init.2.1 0 = .ok (.aload_n 0, 1) by decide +kernel) 0 rfl ?_
  refine V_objI 4 rfl (show decode M_Supply_init.2.1 1 = .ok (.invokespecial 3, 3) by decide +kernel) wd_358 wd_197 wd_objc (by decide) (Nat.le_of_ble_eq_true rfl) ?_
  refine V_aload_n 5 rfl (show decode M_Supply_init.2.1 4 = .ok (.aload_n 0, 1) by decide +kernel) 0 rfl ?_
  refine V_bipush 7 rfl (show decode M_Supply_init.2.1 5 = .ok (.bipush 10, 2) by decide +kernel) (v := 10) rfl ?_
  refine V_putI (j := 0) 10 rfl ck_Supply (by decide) (by decide) (show decode M_Supply_init.2.1 7 = .ok (.putfield 9, 3) by decide +kernel) wd_359 rfl (fun _ => rfl) rfl rfl (fun σ_1 => ?_)
  refine V_aload_n 11 rfl (show decode M_Supply_init.2.1 10 = .ok (.aload_n 0, 1) by decide +kernel) 0 rfl ?_
  refine V_bipush 13 rfl (show decode M_Supply_init.2.1 11 = .ok (.bipush 12, 2) by decide +kernel) (v := 12) rfl ?_
  refine V_newa_int 15 12 rfl (show decode M_Supply_init.2.1 13 = .ok (.newarray .int, 2) by decide +kernel) wd_265 (by decide) (by decide) (by decide) (fun σ_2 => ?_)
  refine V_putRF (j := 1) 18 rfl ck_Supply (by decide) (by decide) (show decode M_Supply_init.2.1 15 = .ok (.putfield 15, 3) by decide +kernel) wd_361 rfl rfl rfl (fun _ => rfl) (vr_nar_a _) (vr_fit_a _) (fun σ_3 => ?_)
  refine V_aload_n 19 rfl (show decode M_Supply_init.2.1 18 = .ok (.aload_n 0, 1) by decide +kernel) 0 rfl ?_
  refine V_bipush 21 rfl (show decode M_Supply_init.2.1 19 = .ok (.bipush 12, 2) by decide +kernel) (v := 12) rfl ?_
  refine V_newa_int 23 12 rfl (show decode M_Supply_init.2.1 21 = .ok (.newarray .int, 2) by decide +kernel) wd_265 (by decide) (by decide) (by decide) (fun σ_4 => ?_)
  refine V_putRF (j := 2) 26 rfl ck_Supply (by decide) (by decide) (show decode M_Supply_init.2.1 23 = .ok (.putfield 19, 3) by decide +kernel) wd_362 rfl rfl rfl (fun _ => rfl) (vr_nar_a _) (vr_fit_a _) (fun σ_5 => ?_)
  refine V_aload_n 27 rfl (show decode M_Supply_init.2.1 26 = .ok (.aload_n 0, 1) by decide +kernel) 0 rfl ?_
  refine V_bipush 29 rfl (show decode M_Supply_init.2.1 27 = .ok (.bipush 12, 2) by decide +kernel) (v := 12) rfl ?_
  refine V_newa_int 31 12 rfl (show decode M_Supply_init.2.1 29 = .ok (.newarray .int, 2) by decide +kernel) wd_265 (by decide) (by decide) (by decide) (fun σ_6 => ?_)
  refine V_putRF (j := 3) 34 rfl ck_Supply (by decide) (by decide) (show decode M_Supply_init.2.1 31 = .ok (.putfield 22, 3) by decide +kernel) wd_363 rfl rfl rfl (fun _ => rfl) (vr_nar_a _) (vr_fit_a _) (fun σ_7 => ?_)
  refine V_aload_n 35 rfl (show decode M_Supply_init.2.1 34 = .ok (.aload_n 0, 1) by decide +kernel) 0 rfl ?_
  refine V_bipush 37 rfl (show decode M_Supply_init.2.1 35 = .ok (.bipush 16, 2) by decide +kernel) (v := 16) rfl ?_
  refine V_newa_int 39 16 rfl (show decode M_Supply_init.2.1 37 = .ok (.newarray .int, 2) by decide +kernel) wd_265 (by decide) (by decide) (by decide) (fun σ_8 => ?_)
  refine V_putRF (j := 5) 42 rfl ck_Supply (by decide) (by decide) (show decode M_Supply_init.2.1 39 = .ok (.putfield 27, 3) by decide +kernel) wd_366 rfl rfl rfl (fun _ => rfl) (vr_nar_a _) (vr_fit_a _) (fun σ_9 => ?_)
  refine V_aload_n 43 rfl (show decode M_Supply_init.2.1 42 = .ok (.aload_n 0, 1) by decide +kernel) 0 rfl ?_
  refine V_bipush 45 rfl (show decode M_Supply_init.2.1 43 = .ok (.bipush 17, 2) by decide +kernel) (v := 17) rfl ?_
  refine V_newa_int 47 17 rfl (show decode M_Supply_init.2.1 45 = .ok (.newarray .int, 2) by decide +kernel) wd_265 (by decide) (by decide) (by decide) (fun σ_10 => ?_)
  refine V_putRF (j := 6) 50 rfl ck_Supply (by decide) (by decide) (show decode M_Supply_init.2.1 47 = .ok (.putfield 30, 3) by decide +kernel) wd_367 rfl rfl rfl (fun _ => rfl) (vr_nar_a _) (vr_fit_a _) (fun σ_11 => ?_)
  refine V_aload_n 51 rfl (show decode M_Supply_init.2.1 50 = .ok (.aload_n 0, 1) by decide +kernel) 0 rfl ?_
  refine V_bipush 53 rfl (show decode M_Supply_init.2.1 51 = .ok (.bipush 17, 2) by decide +kernel) (v := 17) rfl ?_
  refine V_newa_long 55 17 rfl (show decode M_Supply_init.2.1 53 = .ok (.newarray .long, 2) by decide +kernel) wd_386 (by decide) (by decide) (by decide) (fun σ_12 => ?_)
  refine V_putRF (j := 7) 58 rfl ck_Supply (by decide) (by decide) (show decode M_Supply_init.2.1 55 = .ok (.putfield 33, 3) by decide +kernel) wd_368 rfl rfl rfl (fun _ => rfl) (vr_nar_a _) (vr_fit_a _) (fun σ_13 => ?_)
  exact V_vret rfl (by decide) (by decide) (show decode M_Supply_init.2.1 58 = .ok (.return_, 1) by decide +kernel)
theorem cal_Supply_init (d mc ms k n : Nat) (h1 : 1 + 1 ≤ d) (h2 : k + 6 ≤ mc) (h3 : n + 86 ≤ ms) : Cal M_Supply_init 1 6 86 0 d mc ms k n := ⟨wd_357, wd_176, by decide, h1, by decide, h2, h3⟩
abbrev M_Walker_init : MD := (⟨"LongTrail$Walker", "<init>", "()V"⟩, prog_11_method_1_code, 1, (none : Option FieldType))
def f_Walker_init (h0 : Nat) (b : Bool) (σ : Sto) : Rs Unit := ((), (b && !decide (h0 = 0)), σ)
set_option maxRecDepth 100000 in
set_option maxHeartbeats 4000000 in
theorem s_Walker_init : ∀ (h0 : Nat) (b : Bool) (σ : Sto), Snd M_Walker_init 1 0 0 [vR h0] b σ (tU (f_Walker_init h0 b σ).1) (f_Walker_init h0 b σ).2.1 (f_Walker_init h0 b σ).2.2 := by
  intro h0 b σ
  refine Snd_of (tv := tU) (by decide) (Nat.le_of_ble_eq_true rfl) ?_
  show V M_Walker_init 1 0 0 0 0 tU (f_Walker_init h0 b σ) 0 [(0, vR h0)] [] b σ
  unfold f_Walker_init
  refine V_aload_n 1 rfl (show decode M_Walker_init.2.1 0 = .ok (.aload_n 0, 1) by decide +kernel) 0 rfl ?_
  refine V_objI 4 rfl (show decode M_Walker_init.2.1 1 = .ok (.invokespecial 1, 3) by decide +kernel) wd_423 wd_197 wd_objc (by decide) (Nat.le_of_ble_eq_true rfl) ?_
  exact V_vret rfl (by decide) (by decide) (show decode M_Walker_init.2.1 4 = .ok (.return_, 1) by decide +kernel)
theorem cal_Walker_init (d mc ms k n : Nat) (h1 : 1 + 1 ≤ d) (h2 : k + 0 ≤ mc) (h3 : n + 0 ≤ ms) : Cal M_Walker_init 1 0 0 0 d mc ms k n := ⟨wd_422, wd_178, by decide, h1, by decide, h2, h3⟩
abbrev M_World_init : MD := (⟨"LongTrail$World", "<init>", "()V"⟩, prog_12_method_1_code, 2, (none : Option FieldType))
def f_World_init (h0 : Nat) (b : Bool) (σ : Sto) : Rs Unit := (lt_ (nC σ 2 0) (fun (σ_1 : Sto) => (bd_ (f_Ground_init (Shn σ) ((b && !decide (h0 = 0)) && cK σ_1 (Shn σ) 2) σ_1) (fun (r_2 : Unit) (b_2 : Bool) (σ_2 : Sto) => (lt_ (pR σ_2 h0 0 (Shn σ)) (fun (σ_3 : Sto) => (lt_ (nC σ_3 3 0) (fun (σ_4 : Sto) => (bd_ (f_Laws_init (Shn σ_3) ((b_2 && cK σ_2 h0 11) && cK σ_4 (Shn σ_3) 3) σ_4) (fun (r_5 : Unit) (b_5 : Bool) (σ_5 : Sto) => (lt_ (pR σ_5 h0 1 (Shn σ_3)) (fun (σ_6 : Sto) => (lt_ (nC σ_6 5 0) (fun (σ_7 : Sto) => (bd_ (f_Post_init (Shn σ_6) ((b_5 && cK σ_5 h0 11) && cK σ_7 (Shn σ_6) 5) σ_7) (fun (r_8 : Unit) (b_8 : Bool) (σ_8 : Sto) => (lt_ (pR σ_8 h0 2 (Shn σ_6)) (fun (σ_9 : Sto) => (lt_ (nC σ_9 4 0) (fun (σ_10 : Sto) => (bd_ (f_Permits_init (Shn σ_9) ((b_8 && cK σ_8 h0 11) && cK σ_10 (Shn σ_9) 4) σ_10) (fun (r_11 : Unit) (b_11 : Bool) (σ_11 : Sto) => (lt_ (pR σ_11 h0 3 (Shn σ_9)) (fun (σ_12 : Sto) => (lt_ (nC σ_12 7 0) (fun (σ_13 : Sto) => (bd_ (f_Supply_init (Shn σ_12) ((b_11 && cK σ_11 h0 11) && cK σ_13 (Shn σ_12) 7) σ_13) (fun (r_14 : Unit) (b_14 : Bool) (σ_14 : Sto) => (lt_ (pR σ_14 h0 4 (Shn σ_12)) (fun (σ_15 : Sto) => (lt_ (nC σ_15 1 0) (fun (σ_16 : Sto) => (bd_ (f_Album_init (Shn σ_15) ((b_14 && cK σ_14 h0 11) && cK σ_16 (Shn σ_15) 1) σ_16) (fun (r_17 : Unit) (b_17 : Bool) (σ_17 : Sto) => (lt_ (pR σ_17 h0 5 (Shn σ_15)) (fun (σ_18 : Sto) => (lt_ (nC σ_18 26 (ix (10 : Int32))) (fun (σ_19 : Sto) => (lt_ (pR σ_19 h0 6 (Shn σ_18)) (fun (σ_20 : Sto) => (lt_ (nC σ_20 10 0) (fun (σ_21 : Sto) => (bd_ (f_Walker_init (Shn σ_20) (((((b_17 && cK σ_17 h0 11) && (!decide ((10 : Int32) < 0) && decide (ix (10 : Int32) ≤ 10))) && cK σ_19 h0 11) && cK σ_20 h0 11) && cK σ_21 (Shn σ_20) 10) σ_21) (fun (r_22 : Unit) (b_22 : Bool) (σ_22 : Sto) => (lt_ (pR σ_22 (SR σ_20 h0 6) (ix (0 : Int32)) (Shn σ_20)) (fun (σ_23 : Sto) => (lt_ (nC σ_23 10 0) (fun (σ_24 : Sto) => (bd_ (f_Walker_init (Shn σ_23) (((b_22 && (cA σ_22 (SR σ_20 h0 6) 26 (0 : Int32) && (decide ((Shn σ_20) = 0) || cK σ_22 (Shn σ_20) 10))) && cK σ_23 h0 11) && cK σ_24 (Shn σ_23) 10) σ_24) (fun (r_25 : Unit) (b_25 : Bool) (σ_25 : Sto) => (lt_ (pR σ_25 (SR σ_23 h0 6) (ix (1 : Int32)) (Shn σ_23)) (fun (σ_26 : Sto) => (lt_ (nC σ_26 10 0) (fun (σ_27 : Sto) => (bd_ (f_Walker_init (Shn σ_26) (((b_25 && (cA σ_25 (SR σ_23 h0 6) 26 (1 : Int32) && (decide ((Shn σ_23) = 0) || cK σ_25 (Shn σ_23) 10))) && cK σ_26 h0 11) && cK σ_27 (Shn σ_26) 10) σ_27) (fun (r_28 : Unit) (b_28 : Bool) (σ_28 : Sto) => (lt_ (pR σ_28 (SR σ_26 h0 6) (ix (2 : Int32)) (Shn σ_26)) (fun (σ_29 : Sto) => (lt_ (nC σ_29 10 0) (fun (σ_30 : Sto) => (bd_ (f_Walker_init (Shn σ_29) (((b_28 && (cA σ_28 (SR σ_26 h0 6) 26 (2 : Int32) && (decide ((Shn σ_26) = 0) || cK σ_28 (Shn σ_26) 10))) && cK σ_29 h0 11) && cK σ_30 (Shn σ_29) 10) σ_30) (fun (r_31 : Unit) (b_31 : Bool) (σ_31 : Sto) => (lt_ (pR σ_31 (SR σ_29 h0 6) (ix (3 : Int32)) (Shn σ_29)) (fun (σ_32 : Sto) => (lt_ (nC σ_32 10 0) (fun (σ_33 : Sto) => (bd_ (f_Walker_init (Shn σ_32) (((b_31 && (cA σ_31 (SR σ_29 h0 6) 26 (3 : Int32) && (decide ((Shn σ_29) = 0) || cK σ_31 (Shn σ_29) 10))) && cK σ_32 h0 11) && cK σ_33 (Shn σ_32) 10) σ_33) (fun (r_34 : Unit) (b_34 : Bool) (σ_34 : Sto) => (lt_ (pR σ_34 (SR σ_32 h0 6) (ix (4 : Int32)) (Shn σ_32)) (fun (σ_35 : Sto) => (lt_ (nC σ_35 10 0) (fun (σ_36 : Sto) => (bd_ (f_Walker_init (Shn σ_35) (((b_34 && (cA σ_34 (SR σ_32 h0 6) 26 (4 : Int32) && (decide ((Shn σ_32) = 0) || cK σ_34 (Shn σ_32) 10))) && cK σ_35 h0 11) && cK σ_36 (Shn σ_35) 10) σ_36) (fun (r_37 : Unit) (b_37 : Bool) (σ_37 : Sto) => (lt_ (pR σ_37 (SR σ_35 h0 6) (ix (5 : Int32)) (Shn σ_35)) (fun (σ_38 : Sto) => (lt_ (nC σ_38 10 0) (fun (σ_39 : Sto) => (bd_ (f_Walker_init (Shn σ_38) (((b_37 && (cA σ_37 (SR σ_35 h0 6) 26 (5 : Int32) && (decide ((Shn σ_35) = 0) || cK σ_37 (Shn σ_35) 10))) && cK σ_38 h0 11) && cK σ_39 (Shn σ_38) 10) σ_39) (fun (r_40 : Unit) (b_40 : Bool) (σ_40 : Sto) => (lt_ (pR σ_40 (SR σ_38 h0 6) (ix (6 : Int32)) (Shn σ_38)) (fun (σ_41 : Sto) => (lt_ (nC σ_41 10 0) (fun (σ_42 : Sto) => (bd_ (f_Walker_init (Shn σ_41) (((b_40 && (cA σ_40 (SR σ_38 h0 6) 26 (6 : Int32) && (decide ((Shn σ_38) = 0) || cK σ_40 (Shn σ_38) 10))) && cK σ_41 h0 11) && cK σ_42 (Shn σ_41) 10) σ_42) (fun (r_43 : Unit) (b_43 : Bool) (σ_43 : Sto) => (lt_ (pR σ_43 (SR σ_41 h0 6) (ix (7 : Int32)) (Shn σ_41)) (fun (σ_44 : Sto) => (lt_ (nC σ_44 10 0) (fun (σ_45 : Sto) => (bd_ (f_Walker_init (Shn σ_44) (((b_43 && (cA σ_43 (SR σ_41 h0 6) 26 (7 : Int32) && (decide ((Shn σ_41) = 0) || cK σ_43 (Shn σ_41) 10))) && cK σ_44 h0 11) && cK σ_45 (Shn σ_44) 10) σ_45) (fun (r_46 : Unit) (b_46 : Bool) (σ_46 : Sto) => (lt_ (pR σ_46 (SR σ_44 h0 6) (ix (8 : Int32)) (Shn σ_44)) (fun (σ_47 : Sto) => (lt_ (nC σ_47 10 0) (fun (σ_48 : Sto) => (bd_ (f_Walker_init (Shn σ_47) (((b_46 && (cA σ_46 (SR σ_44 h0 6) 26 (8 : Int32) && (decide ((Shn σ_44) = 0) || cK σ_46 (Shn σ_44) 10))) && cK σ_47 h0 11) && cK σ_48 (Shn σ_47) 10) σ_48) (fun (r_49 : Unit) (b_49 : Bool) (σ_49 : Sto) => (lt_ (pR σ_49 (SR σ_47 h0 6) (ix (9 : Int32)) (Shn σ_47)) (fun (σ_50 : Sto) => ((), (b_49 && (cA σ_49 (SR σ_47 h0 6) 26 (9 : Int32) && (decide ((Shn σ_47) = 0) || cK σ_49 (Shn σ_47) 10))), σ_50)))))))))))))))))))))))))))))))))))))))))))))))))))))))))))))))))))))))))))))))))))))))))))))))))))))
set_option maxRecDepth 100000 in
set_option maxHeartbeats 4000000 in
theorem s_World_init : ∀ (h0 : Nat) (b : Bool) (σ : Sto), Snd M_World_init 2 52 832 [vR h0] b σ (tU (f_World_init h0 b σ).1) (f_World_init h0 b σ).2.1 (f_World_init h0 b σ).2.2 := by
  intro h0 b σ
  refine Snd_of (tv := tU) (by decide) (Nat.le_of_ble_eq_true rfl) ?_
  show V M_World_init 2 52 832 0 0 tU (f_World_init h0 b σ) 0 [(0, vR h0)] [] b σ
  unfold f_World_init
  refine V_aload_n 1 rfl (show decode M_World_init.2.1 0 = .ok (.aload_n 0, 1) by decide +kernel) 0 rfl ?_
  refine V_objI 4 rfl (show decode M_World_init.2.1 1 = .ok (.invokespecial 1, 3) by decide +kernel) wd_204 wd_197 wd_objc (by decide) (Nat.le_of_ble_eq_true rfl) ?_
  refine V_aload_n 5 rfl (show decode M_World_init.2.1 4 = .ok (.aload_n 0, 1) by decide +kernel) 0 rfl ?_
  refine V_new (ci := 1) 8 rfl ck_Ground (by decide) nd_Ground (show decode M_World_init.2.1 5 = .ok (.new 7, 3) by decide +kernel) wd_205 wd_206 wd_172 (by decide) (by decide) (fun σ_1 => ?_)
  refine V_dup 9 rfl (show decode M_World_init.2.1 8 = .ok (.dup, 1) by decide +kernel) rfl ?_
  refine V_callIN (tb := tU) (as := []) (rest := [vR (Shn σ), vR h0]) (na := 0) 12 rfl ck_Ground (by decide) (s_Ground_init (Shn σ) ((b && !decide (h0 = 0)) && cK σ_1 (Shn σ) 2) σ_1) rfl rfl (Nat.le_of_ble_eq_true rfl) (cal_Ground_init _ _ _ _ _ (by decide) (by decide) (by decide)) (show decode M_World_init.2.1 9 = .ok (.invokespecial 9, 3) by decide +kernel) wd_207 wd_208 rfl rfl (fun r_2 b_2 σ_2 => ?_)
  show V M_World_init 2 52 832 10 104 tU _ 12 [(0, vR h0)] [vR (Shn σ), vR h0] b_2 σ_2
  refine V_putRF (j := 0) 15 rfl ck_World (by decide) (by decide) (show decode M_World_init.2.1 12 = .ok (.putfield 10, 3) by decide +kernel) wd_497 rfl rfl rfl (fun _ => rfl) (vr_nar_o _) (vr_fit_o _) (fun σ_3 => ?_)
  refine V_aload_n 16 rfl (show decode M_World_init.2.1 15 = .ok (.aload_n 0, 1) by decide +kernel) 0 rfl ?_
  refine V_new (ci := 2) 19 rfl ck_Laws (by decide) nd_Laws (show decode M_World_init.2.1 16 = .ok (.new 16, 3) by decide +kernel) wd_266 wd_267 wd_173 (by decide) (by decide) (fun σ_4 => ?_)
  refine V_dup 20 rfl (show decode M_World_init.2.1 19 = .ok (.dup, 1) by decide +kernel) rfl ?_
  refine V_callIN (tb := tU) (as := []) (rest := [vR (Shn σ_3), vR h0]) (na := 0) 23 rfl ck_Laws (by decide) (s_Laws_init (Shn σ_3) ((b_2 && cK σ_2 h0 11) && cK σ_4 (Shn σ_3) 3) σ_4) rfl rfl (Nat.le_of_ble_eq_true rfl) (cal_Laws_init _ _ _ _ _ (by decide) (by decide) (by decide)) (show decode M_World_init.2.1 20 = .ok (.invokespecial 18, 3) by decide +kernel) wd_268 wd_269 rfl rfl (fun r_5 b_5 σ_5 => ?_)
  show V M_World_init 2 52 832 14 221 tU _ 23 [(0, vR h0)] [vR (Shn σ_3), vR h0] b_5 σ_5
  refine V_putRF (j := 1) 26 rfl ck_World (by decide) (by decide) (show decode M_World_init.2.1 23 = .ok (.putfield 19, 3) by decide +kernel) wd_499 rfl rfl rfl (fun _ => rfl) (vr_nar_o _) (vr_fit_o _) (fun σ_6 => ?_)
  refine V_aload_n 27 rfl (show decode M_World_init.2.1 26 = .ok (.aload_n 0, 1) by decide +kernel) 0 rfl ?_
  refine V_new (ci := 4) 30 rfl ck_Post (by decide) nd_Post (show decode M_World_init.2.1 27 = .ok (.new 23, 3) by decide +kernel) wd_291 wd_292 wd_174 (by decide) (by decide) (fun σ_7 => ?_)
  refine V_dup 31 rfl (show decode M_World_init.2.1 30 = .ok (.dup, 1) by decide +kernel) rfl ?_
  refine V_callIN (tb := tU) (as := []) (rest := [vR (Shn σ_6), vR h0]) (na := 0) 34 rfl ck_Post (by decide) (s_Post_init (Shn σ_6) ((b_5 && cK σ_5 h0 11) && cK σ_7 (Shn σ_6) 5) σ_7) rfl rfl (Nat.le_of_ble_eq_true rfl) (cal_Post_init _ _ _ _ _ (by decide) (by decide) (by decide)) (show decode M_World_init.2.1 31 = .ok (.invokespecial 25, 3) by decide +kernel) wd_293 wd_294 rfl rfl (fun r_8 b_8 σ_8 => ?_)
  show V M_World_init 2 52 832 20 327 tU _ 34 [(0, vR h0)] [vR (Shn σ_6), vR h0] b_8 σ_8
  refine V_putRF (j := 2) 37 rfl ck_World (by decide) (by decide) (show decode M_World_init.2.1 34 = .ok (.putfield 26, 3) by decide +kernel) wd_501 rfl rfl rfl (fun _ => rfl) (vr_nar_o _) (vr_fit_o _) (fun σ_9 => ?_)
  refine V_aload_n 38 rfl (show decode M_World_init.2.1 37 = .ok (.aload_n 0, 1) by decide +kernel) 0 rfl ?_
  refine V_new (ci := 3) 41 rfl ck_Permits (by decide) nd_Permits (show decode M_World_init.2.1 38 = .ok (.new 30, 3) by decide +kernel) wd_322 wd_323 wd_175 (by decide) (by decide) (fun σ_10 => ?_)
  refine V_dup 42 rfl (show decode M_World_init.2.1 41 = .ok (.dup, 1) by decide +kernel) rfl ?_
  refine V_callIN (tb := tU) (as := []) (rest := [vR (Shn σ_9), vR h0]) (na := 0) 45 rfl ck_Permits (by decide) (s_Permits_init (Shn σ_9) ((b_8 && cK σ_8 h0 11) && cK σ_10 (Shn σ_9) 4) σ_10) rfl rfl (Nat.le_of_ble_eq_true rfl) (cal_Permits_init _ _ _ _ _ (by decide) (by decide) (by decide)) (show decode M_World_init.2.1 42 = .ok (.invokespecial 32, 3) by decide +kernel) wd_324 wd_325 rfl rfl (fun r_11 b_11 σ_11 => ?_)
  show V M_World_init 2 52 832 27 421 tU _ 45 [(0, vR h0)] [vR (Shn σ_9), vR h0] b_11 σ_11
  refine V_putRF (j := 3) 48 rfl ck_World (by decide) (by decide) (show decode M_World_init.2.1 45 = .ok (.putfield 33, 3) by decide +kernel) wd_503 rfl rfl rfl (fun _ => rfl) (vr_nar_o _) (vr_fit_o _) (fun σ_12 => ?_)
  refine V_aload_n 49 rfl (show decode M_World_init.2.1 48 = .ok (.aload_n 0, 1) by decide +kernel) 0 rfl ?_
  refine V_new (ci := 6) 52 rfl ck_Supply (by decide) nd_Supply (show decode M_World_init.2.1 49 = .ok (.new 37, 3) by decide +kernel) wd_353 wd_354 wd_176 (by decide) (by decide) (fun σ_13 => ?_)
  refine V_dup 53 rfl (show decode M_World_init.2.1 52 = .ok (.dup, 1) by decide +kernel) rfl ?_
  refine V_callIN (tb := tU) (as := []) (rest := [vR (Shn σ_12), vR h0]) (na := 0) 56 rfl ck_Supply (by decide) (s_Supply_init (Shn σ_12) ((b_11 && cK σ_11 h0 11) && cK σ_13 (Shn σ_12) 7) σ_13) rfl rfl (Nat.le_of_ble_eq_true rfl) (cal_Supply_init _ _ _ _ _ (by decide) (by decide) (by decide)) (show decode M_World_init.2.1 53 = .ok (.invokespecial 39, 3) by decide +kernel) wd_355 wd_356 rfl rfl (fun r_14 b_14 σ_14 => ?_)
  show V M_World_init 2 52 832 34 515 tU _ 56 [(0, vR h0)] [vR (Shn σ_12), vR h0] b_14 σ_14
  refine V_putRF (j := 4) 59 rfl ck_World (by decide) (by decide) (show decode M_World_init.2.1 56 = .ok (.putfield 40, 3) by decide +kernel) wd_505 rfl rfl rfl (fun _ => rfl) (vr_nar_o _) (vr_fit_o _) (fun σ_15 => ?_)
  refine V_aload_n 60 rfl (show decode M_World_init.2.1 59 = .ok (.aload_n 0, 1) by decide +kernel) 0 rfl ?_
  refine V_new (ci := 0) 63 rfl ck_Album (by decide) nd_Album (show decode M_World_init.2.1 60 = .ok (.new 44, 3) by decide +kernel) wd_387 wd_388 wd_177 (by decide) (by decide) (fun σ_16 => ?_)
  refine V_dup 64 rfl (show decode M_World_init.2.1 63 = .ok (.dup, 1) by decide +kernel) rfl ?_
  refine V_callIN (tb := tU) (as := []) (rest := [vR (Shn σ_15), vR h0]) (na := 0) 67 rfl ck_Album (by decide) (s_Album_init (Shn σ_15) ((b_14 && cK σ_14 h0 11) && cK σ_16 (Shn σ_15) 1) σ_16) rfl rfl (Nat.le_of_ble_eq_true rfl) (cal_Album_init _ _ _ _ _ (by decide) (by decide) (by decide)) (show decode M_World_init.2.1 64 = .ok (.invokespecial 46, 3) by decide +kernel) wd_389 wd_390 rfl rfl (fun r_17 b_17 σ_17 => ?_)
  show V M_World_init 2 52 832 41 642 tU _ 67 [(0, vR h0)] [vR (Shn σ_15), vR h0] b_17 σ_17
  refine V_putRF (j := 5) 70 rfl ck_World (by decide) (by decide) (show decode M_World_init.2.1 67 = .ok (.putfield 47, 3) by decide +kernel) wd_507 rfl rfl rfl (fun _ => rfl) (vr_nar_o _) (vr_fit_o _) (fun σ_18 => ?_)
  refine V_aload_n 71 rfl (show decode M_World_init.2.1 70 = .ok (.aload_n 0, 1) by decide +kernel) 0 rfl ?_
  refine V_bipush 73 rfl (show decode M_World_init.2.1 71 = .ok (.bipush 10, 2) by decide +kernel) (v := 10) rfl ?_
  refine V_newa_r26 76 10 rfl (show decode M_World_init.2.1 73 = .ok (.anewarray 51, 3) by decide +kernel) wd_417 (by decide) (by decide) (by decide) (fun σ_19 => ?_)
  refine V_putRF (j := 6) 79 rfl ck_World (by decide) (by decide) (show decode M_World_init.2.1 76 = .ok (.putfield 53, 3) by decide +kernel) wd_509 rfl rfl rfl (fun _ => rfl) (vr_nar_a _) (vr_fit_a _) (fun σ_20 => ?_)
  refine V_iconst 80 rfl (show decode M_World_init.2.1 79 = .ok (.iconst 0, 1) by decide +kernel) (v := 0) rfl ?_
  refine V_istore_c [(1, vI (0 : Int32)), (0, vR h0)] 81 rfl (show decode M_World_init.2.1 80 = .ok (.istore_n 1, 1) by decide +kernel) (by decide) rfl ?_
  refine V_iload_n 82 rfl (show decode M_World_init.2.1 81 = .ok (.iload_n 1, 1) by decide +kernel) 0 rfl ?_
  refine V_bipush 84 rfl (show decode M_World_init.2.1 82 = .ok (.bipush 10, 2) by decide +kernel) (v := 10) rfl ?_
  refine V_icmpge_f 87 rfl 106 (show decode M_World_init.2.1 84 = .ok (.if_icmp .ge 22, 3) by decide +kernel) rfl (by decide) ?_
  refine V_aload_n 88 rfl (show decode M_World_init.2.1 87 = .ok (.aload_n 0, 1) by decide +kernel) 1 rfl ?_
  refine V_get (j := 6) (v := vR (SR σ_20 h0 6)) 91 rfl ck_World (by decide) (by decide) (show decode M_World_init.2.1 88 = .ok (.getfield 53, 3) by decide +kernel) wd_509 rfl ?_
  refine V_iload_n 92 rfl (show decode M_World_init.2.1 91 = .ok (.iload_n 1, 1) by decide +kernel) 0 rfl ?_
  refine V_new (ci := 9) 95 rfl ck_Walker (by decide) nd_Walker (show decode M_World_init.2.1 92 = .ok (.new 51, 3) by decide +kernel) wd_417 wd_419 wd_178 (by decide) (by decide) (fun σ_21 => ?_)
  refine V_dup 96 rfl (show decode M_World_init.2.1 95 = .ok (.dup, 1) by decide +kernel) rfl ?_
  refine V_callIN (tb := tU) (as := []) (rest := [vR (Shn σ_20), vI (0 : Int32), vR (SR σ_20 h0 6)]) (na := 0) 99 rfl ck_Walker (by decide) (s_Walker_init (Shn σ_20) (((((b_17 && cK σ_17 h0 11) && (!decide ((10 : Int32) < 0) && decide (ix (10 : Int32) ≤ 10))) && cK σ_19 h0 11) && cK σ_20 h0 11) && cK σ_21 (Shn σ_20) 10) σ_21) rfl rfl (Nat.le_of_ble_eq_true rfl) (cal_Walker_init _ _ _ _ _ (by decide) (by decide) (by decide)) (show decode M_World_init.2.1 96 = .ok (.invokespecial 57, 3) by decide +kernel) wd_420 wd_421 rfl rfl (fun r_22 b_22 σ_22 => ?_)
  show V M_World_init 2 52 832 43 670 tU _ 99 [(1, vI (0 : Int32)), (0, vR h0)] [vR (Shn σ_20), vI (0 : Int32), vR (SR σ_20 h0 6)] b_22 σ_22
  refine V_ast_r26 100 rfl (show decode M_World_init.2.1 99 = .ok (.aastore, 1) by decide +kernel) (fun σ_23 => ?_)
  refine V_iinc_c [(1, vI (1 : Int32)), (0, vR h0)] 103 rfl (show decode M_World_init.2.1 100 = .ok (.iinc 1 1, 3) by decide +kernel) 0 rfl (w := 1) rfl (by decide) rfl ?_
  refine V_goto 81 (show decode M_World_init.2.1 103 = .ok (.goto (-22), 3) by decide +kernel) rfl ?_
  refine V_iload_n 82 rfl (show decode M_World_init.2.1 81 = .ok (.iload_n 1, 1) by decide +kernel) 0 rfl ?_
  refine V_bipush 84 rfl (show decode M_World_init.2.1 82 = .ok (.bipush 10, 2) by decide +kernel) (v := 10) rfl ?_
  refine V_icmpge_f 87 rfl 106 (show decode M_World_init.2.1 84 = .ok (.if_icmp .ge 22, 3) by decide +kernel) rfl (by decide) ?_
  refine V_aload_n 88 rfl (show decode M_World_init.2.1 87 = .ok (.aload_n 0, 1) by decide +kernel) 1 rfl ?_
  refine V_get (j := 6) (v := vR (SR σ_23 h0 6)) 91 rfl ck_World (by decide) (by decide) (show decode M_World_init.2.1 88 = .ok (.getfield 53, 3) by decide +kernel) wd_509 rfl ?_
  refine V_iload_n 92 rfl (show decode M_World_init.2.1 91 = .ok (.iload_n 1, 1) by decide +kernel) 0 rfl ?_
  refine V_new (ci := 9) 95 rfl ck_Walker (by decide) nd_Walker (show decode M_World_init.2.1 92 = .ok (.new 51, 3) by decide +kernel) wd_417 wd_419 wd_178 (by decide) (by decide) (fun σ_24 => ?_)
  refine V_dup 96 rfl (show decode M_World_init.2.1 95 = .ok (.dup, 1) by decide +kernel) rfl ?_
  refine V_callIN (tb := tU) (as := []) (rest := [vR (Shn σ_23), vI (1 : Int32), vR (SR σ_23 h0 6)]) (na := 0) 99 rfl ck_Walker (by decide) (s_Walker_init (Shn σ_23) (((b_22 && (cA σ_22 (SR σ_20 h0 6) 26 (0 : Int32) && (decide ((Shn σ_20) = 0) || cK σ_22 (Shn σ_20) 10))) && cK σ_23 h0 11) && cK σ_24 (Shn σ_23) 10) σ_24) rfl rfl (Nat.le_of_ble_eq_true rfl) (cal_Walker_init _ _ _ _ _ (by decide) (by decide) (by decide)) (show decode M_World_init.2.1 96 = .ok (.invokespecial 57, 3) by decide +kernel) wd_420 wd_421 rfl rfl (fun r_25 b_25 σ_25 => ?_)
  show V M_World_init 2 52 832 44 688 tU _ 99 [(1, vI (1 : Int32)), (0, vR h0)] [vR (Shn σ_23), vI (1 : Int32), vR (SR σ_23 h0 6)] b_25 σ_25
  refine V_ast_r26 100 rfl (show decode M_World_init.2.1 99 = .ok (.aastore, 1) by decide +kernel) (fun σ_26 => ?_)
  refine V_iinc_c [(1, vI (2 : Int32)), (0, vR h0)] 103 rfl (show decode M_World_init.2.1 100 = .ok (.iinc 1 1, 3) by decide +kernel) 0 rfl (w := 2) rfl (by decide) rfl ?_
  refine V_goto 81 (show decode M_World_init.2.1 103 = .ok (.goto (-22), 3) by decide +kernel) rfl ?_
  refine V_iload_n 82 rfl (show decode M_World_init.2.1 81 = .ok (.iload_n 1, 1) by decide +kernel) 0 rfl ?_
  refine V_bipush 84 rfl (show decode M_World_init.2.1 82 = .ok (.bipush 10, 2) by decide +kernel) (v := 10) rfl ?_
  refine V_icmpge_f 87 rfl 106 (show decode M_World_init.2.1 84 = .ok (.if_icmp .ge 22, 3) by decide +kernel) rfl (by decide) ?_
  refine V_aload_n 88 rfl (show decode M_World_init.2.1 87 = .ok (.aload_n 0, 1) by decide +kernel) 1 rfl ?_
  refine V_get (j := 6) (v := vR (SR σ_26 h0 6)) 91 rfl ck_World (by decide) (by decide) (show decode M_World_init.2.1 88 = .ok (.getfield 53, 3) by decide +kernel) wd_509 rfl ?_
  refine V_iload_n 92 rfl (show decode M_World_init.2.1 91 = .ok (.iload_n 1, 1) by decide +kernel) 0 rfl ?_
  refine V_new (ci := 9) 95 rfl ck_Walker (by decide) nd_Walker (show decode M_World_init.2.1 92 = .ok (.new 51, 3) by decide +kernel) wd_417 wd_419 wd_178 (by decide) (by decide) (fun σ_27 => ?_)
  refine V_dup 96 rfl (show decode M_World_init.2.1 95 = .ok (.dup, 1) by decide +kernel) rfl ?_
  refine V_callIN (tb := tU) (as := []) (rest := [vR (Shn σ_26), vI (2 : Int32), vR (SR σ_26 h0 6)]) (na := 0) 99 rfl ck_Walker (by decide) (s_Walker_init (Shn σ_26) (((b_25 && (cA σ_25 (SR σ_23 h0 6) 26 (1 : Int32) && (decide ((Shn σ_23) = 0) || cK σ_25 (Shn σ_23) 10))) && cK σ_26 h0 11) && cK σ_27 (Shn σ_26) 10) σ_27) rfl rfl (Nat.le_of_ble_eq_true rfl) (cal_Walker_init _ _ _ _ _ (by decide) (by decide) (by decide)) (show decode M_World_init.2.1 96 = .ok (.invokespecial 57, 3) by decide +kernel) wd_420 wd_421 rfl rfl (fun r_28 b_28 σ_28 => ?_)
  show V M_World_init 2 52 832 45 706 tU _ 99 [(1, vI (2 : Int32)), (0, vR h0)] [vR (Shn σ_26), vI (2 : Int32), vR (SR σ_26 h0 6)] b_28 σ_28
  refine V_ast_r26 100 rfl (show decode M_World_init.2.1 99 = .ok (.aastore, 1) by decide +kernel) (fun σ_29 => ?_)
  refine V_iinc_c [(1, vI (3 : Int32)), (0, vR h0)] 103 rfl (show decode M_World_init.2.1 100 = .ok (.iinc 1 1, 3) by decide +kernel) 0 rfl (w := 3) rfl (by decide) rfl ?_
  refine V_goto 81 (show decode M_World_init.2.1 103 = .ok (.goto (-22), 3) by decide +kernel) rfl ?_
  refine V_iload_n 82 rfl (show decode M_World_init.2.1 81 = .ok (.iload_n 1, 1) by decide +kernel) 0 rfl ?_
  refine V_bipush 84 rfl (show decode M_World_init.2.1 82 = .ok (.bipush 10, 2) by decide +kernel) (v := 10) rfl ?_
  refine V_icmpge_f 87 rfl 106 (show decode M_World_init.2.1 84 = .ok (.if_icmp .ge 22, 3) by decide +kernel) rfl (by decide) ?_
  refine V_aload_n 88 rfl (show decode M_World_init.2.1 87 = .ok (.aload_n 0, 1) by decide +kernel) 1 rfl ?_
  refine V_get (j := 6) (v := vR (SR σ_29 h0 6)) 91 rfl ck_World (by decide) (by decide) (show decode M_World_init.2.1 88 = .ok (.getfield 53, 3) by decide +kernel) wd_509 rfl ?_
  refine V_iload_n 92 rfl (show decode M_World_init.2.1 91 = .ok (.iload_n 1, 1) by decide +kernel) 0 rfl ?_
  refine V_new (ci := 9) 95 rfl ck_Walker (by decide) nd_Walker (show decode M_World_init.2.1 92 = .ok (.new 51, 3) by decide +kernel) wd_417 wd_419 wd_178 (by decide) (by decide) (fun σ_30 => ?_)
  refine V_dup 96 rfl (show decode M_World_init.2.1 95 = .ok (.dup, 1) by decide +kernel) rfl ?_
  refine V_callIN (tb := tU) (as := []) (rest := [vR (Shn σ_29), vI (3 : Int32), vR (SR σ_29 h0 6)]) (na := 0) 99 rfl ck_Walker (by decide) (s_Walker_init (Shn σ_29) (((b_28 && (cA σ_28 (SR σ_26 h0 6) 26 (2 : Int32) && (decide ((Shn σ_26) = 0) || cK σ_28 (Shn σ_26) 10))) && cK σ_29 h0 11) && cK σ_30 (Shn σ_29) 10) σ_30) rfl rfl (Nat.le_of_ble_eq_true rfl) (cal_Walker_init _ _ _ _ _ (by decide) (by decide) (by decide)) (show decode M_World_init.2.1 96 = .ok (.invokespecial 57, 3) by decide +kernel) wd_420 wd_421 rfl rfl (fun r_31 b_31 σ_31 => ?_)
  show V M_World_init 2 52 832 46 724 tU _ 99 [(1, vI (3 : Int32)), (0, vR h0)] [vR (Shn σ_29), vI (3 : Int32), vR (SR σ_29 h0 6)] b_31 σ_31
  refine V_ast_r26 100 rfl (show decode M_World_init.2.1 99 = .ok (.aastore, 1) by decide +kernel) (fun σ_32 => ?_)
  refine V_iinc_c [(1, vI (4 : Int32)), (0, vR h0)] 103 rfl (show decode M_World_init.2.1 100 = .ok (.iinc 1 1, 3) by decide +kernel) 0 rfl (w := 4) rfl (by decide) rfl ?_
  refine V_goto 81 (show decode M_World_init.2.1 103 = .ok (.goto (-22), 3) by decide +kernel) rfl ?_
  refine V_iload_n 82 rfl (show decode M_World_init.2.1 81 = .ok (.iload_n 1, 1) by decide +kernel) 0 rfl ?_
  refine V_bipush 84 rfl (show decode M_World_init.2.1 82 = .ok (.bipush 10, 2) by decide +kernel) (v := 10) rfl ?_
  refine V_icmpge_f 87 rfl 106 (show decode M_World_init.2.1 84 = .ok (.if_icmp .ge 22, 3) by decide +kernel) rfl (by decide) ?_
  refine V_aload_n 88 rfl (show decode M_World_init.2.1 87 = .ok (.aload_n 0, 1) by decide +kernel) 1 rfl ?_
  refine V_get (j := 6) (v := vR (SR σ_32 h0 6)) 91 rfl ck_World (by decide) (by decide) (show decode M_World_init.2.1 88 = .ok (.getfield 53, 3) by decide +kernel) wd_509 rfl ?_
  refine V_iload_n 92 rfl (show decode M_World_init.2.1 91 = .ok (.iload_n 1, 1) by decide +kernel) 0 rfl ?_
  refine V_new (ci := 9) 95 rfl ck_Walker (by decide) nd_Walker (show decode M_World_init.2.1 92 = .ok (.new 51, 3) by decide +kernel) wd_417 wd_419 wd_178 (by decide) (by decide) (fun σ_33 => ?_)
  refine V_dup 96 rfl (show decode M_World_init.2.1 95 = .ok (.dup, 1) by decide +kernel) rfl ?_
  refine V_callIN (tb := tU) (as := []) (rest := [vR (Shn σ_32), vI (4 : Int32), vR (SR σ_32 h0 6)]) (na := 0) 99 rfl ck_Walker (by decide) (s_Walker_init (Shn σ_32) (((b_31 && (cA σ_31 (SR σ_29 h0 6) 26 (3 : Int32) && (decide ((Shn σ_29) = 0) || cK σ_31 (Shn σ_29) 10))) && cK σ_32 h0 11) && cK σ_33 (Shn σ_32) 10) σ_33) rfl rfl (Nat.le_of_ble_eq_true rfl) (cal_Walker_init _ _ _ _ _ (by decide) (by decide) (by decide)) (show decode M_World_init.2.1 96 = .ok (.invokespecial 57, 3) by decide +kernel) wd_420 wd_421 rfl rfl (fun r_34 b_34 σ_34 => ?_)
  show V M_World_init 2 52 832 47 742 tU _ 99 [(1, vI (4 : Int32)), (0, vR h0)] [vR (Shn σ_32), vI (4 : Int32), vR (SR σ_32 h0 6)] b_34 σ_34
  refine V_ast_r26 100 rfl (show decode M_World_init.2.1 99 = .ok (.aastore, 1) by decide +kernel) (fun σ_35 => ?_)
  refine V_iinc_c [(1, vI (5 : Int32)), (0, vR h0)] 103 rfl (show decode M_World_init.2.1 100 = .ok (.iinc 1 1, 3) by decide +kernel) 0 rfl (w := 5) rfl (by decide) rfl ?_
  refine V_goto 81 (show decode M_World_init.2.1 103 = .ok (.goto (-22), 3) by decide +kernel) rfl ?_
  refine V_iload_n 82 rfl (show decode M_World_init.2.1 81 = .ok (.iload_n 1, 1) by decide +kernel) 0 rfl ?_
  refine V_bipush 84 rfl (show decode M_World_init.2.1 82 = .ok (.bipush 10, 2) by decide +kernel) (v := 10) rfl ?_
  refine V_icmpge_f 87 rfl 106 (show decode M_World_init.2.1 84 = .ok (.if_icmp .ge 22, 3) by decide +kernel) rfl (by decide) ?_
  refine V_aload_n 88 rfl (show decode M_World_init.2.1 87 = .ok (.aload_n 0, 1) by decide +kernel) 1 rfl ?_
  refine V_get (j := 6) (v := vR (SR σ_35 h0 6)) 91 rfl ck_World (by decide) (by decide) (show decode M_World_init.2.1 88 = .ok (.getfield 53, 3) by decide +kernel) wd_509 rfl ?_
  refine V_iload_n 92 rfl (show decode M_World_init.2.1 91 = .ok (.iload_n 1, 1) by decide +kernel) 0 rfl ?_
  refine V_new (ci := 9) 95 rfl ck_Walker (by decide) nd_Walker (show decode M_World_init.2.1 92 = .ok (.new 51, 3) by decide +kernel) wd_417 wd_419 wd_178 (by decide) (by decide) (fun σ_36 => ?_)
  refine V_dup 96 rfl (show decode M_World_init.2.1 95 = .ok (.dup, 1) by decide +kernel) rfl ?_
  refine V_callIN (tb := tU) (as := []) (rest := [vR (Shn σ_35), vI (5 : Int32), vR (SR σ_35 h0 6)]) (na := 0) 99 rfl ck_Walker (by decide) (s_Walker_init (Shn σ_35) (((b_34 && (cA σ_34 (SR σ_32 h0 6) 26 (4 : Int32) && (decide ((Shn σ_32) = 0) || cK σ_34 (Shn σ_32) 10))) && cK σ_35 h0 11) && cK σ_36 (Shn σ_35) 10) σ_36) rfl rfl (Nat.le_of_ble_eq_true rfl) (cal_Walker_init _ _ _ _ _ (by decide) (by decide) (by decide)) (show decode M_World_init.2.1 96 = .ok (.invokespecial 57, 3) by decide +kernel) wd_420 wd_421 rfl rfl (fun r_37 b_37 σ_37 => ?_)
  show V M_World_init 2 52 832 48 760 tU _ 99 [(1, vI (5 : Int32)), (0, vR h0)] [vR (Shn σ_35), vI (5 : Int32), vR (SR σ_35 h0 6)] b_37 σ_37
  refine V_ast_r26 100 rfl (show decode M_World_init.2.1 99 = .ok (.aastore, 1) by decide +kernel) (fun σ_38 => ?_)
  refine V_iinc_c [(1, vI (6 : Int32)), (0, vR h0)] 103 rfl (show decode M_World_init.2.1 100 = .ok (.iinc 1 1, 3) by decide +kernel) 0 rfl (w := 6) rfl (by decide) rfl ?_
  refine V_goto 81 (show decode M_World_init.2.1 103 = .ok (.goto (-22), 3) by decide +kernel) rfl ?_
  refine V_iload_n 82 rfl (show decode M_World_init.2.1 81 = .ok (.iload_n 1, 1) by decide +kernel) 0 rfl ?_
  refine V_bipush 84 rfl (show decode M_World_init.2.1 82 = .ok (.bipush 10, 2) by decide +kernel) (v := 10) rfl ?_
  refine V_icmpge_f 87 rfl 106 (show decode M_World_init.2.1 84 = .ok (.if_icmp .ge 22, 3) by decide +kernel) rfl (by decide) ?_
  refine V_aload_n 88 rfl (show decode M_World_init.2.1 87 = .ok (.aload_n 0, 1) by decide +kernel) 1 rfl ?_
  refine V_get (j := 6) (v := vR (SR σ_38 h0 6)) 91 rfl ck_World (by decide) (by decide) (show decode M_World_init.2.1 88 = .ok (.getfield 53, 3) by decide +kernel) wd_509 rfl ?_
  refine V_iload_n 92 rfl (show decode M_World_init.2.1 91 = .ok (.iload_n 1, 1) by decide +kernel) 0 rfl ?_
  refine V_new (ci := 9) 95 rfl ck_Walker (by decide) nd_Walker (show decode M_World_init.2.1 92 = .ok (.new 51, 3) by decide +kernel) wd_417 wd_419 wd_178 (by decide) (by decide) (fun σ_39 => ?_)
  refine V_dup 96 rfl (show decode M_World_init.2.1 95 = .ok (.dup, 1) by decide +kernel) rfl ?_
  refine V_callIN (tb := tU) (as := []) (rest := [vR (Shn σ_38), vI (6 : Int32), vR (SR σ_38 h0 6)]) (na := 0) 99 rfl ck_Walker (by decide) (s_Walker_init (Shn σ_38) (((b_37 && (cA σ_37 (SR σ_35 h0 6) 26 (5 : Int32) && (decide ((Shn σ_35) = 0) || cK σ_37 (Shn σ_35) 10))) && cK σ_38 h0 11) && cK σ_39 (Shn σ_38) 10) σ_39) rfl rfl (Nat.le_of_ble_eq_true rfl) (cal_Walker_init _ _ _ _ _ (by decide) (by decide) (by decide)) (show decode M_World_init.2.1 96 = .ok (.invokespecial 57, 3) by decide +kernel) wd_420 wd_421 rfl rfl (fun r_40 b_40 σ_40 => ?_)
  show V M_World_init 2 52 832 49 778 tU _ 99 [(1, vI (6 : Int32)), (0, vR h0)] [vR (Shn σ_38), vI (6 : Int32), vR (SR σ_38 h0 6)] b_40 σ_40
  refine V_ast_r26 100 rfl (show decode M_World_init.2.1 99 = .ok (.aastore, 1) by decide +kernel) (fun σ_41 => ?_)
  refine V_iinc_c [(1, vI (7 : Int32)), (0, vR h0)] 103 rfl (show decode M_World_init.2.1 100 = .ok (.iinc 1 1, 3) by decide +kernel) 0 rfl (w := 7) rfl (by decide) rfl ?_
  refine V_goto 81 (show decode M_World_init.2.1 103 = .ok (.goto (-22), 3) by decide +kernel) rfl ?_
  refine V_iload_n 82 rfl (show decode M_World_init.2.1 81 = .ok (.iload_n 1, 1) by decide +kernel) 0 rfl ?_
  refine V_bipush 84 rfl (show decode M_World_init.2.1 82 = .ok (.bipush 10, 2) by decide +kernel) (v := 10) rfl ?_
  refine V_icmpge_f 87 rfl 106 (show decode M_World_init.2.1 84 = .ok (.if_icmp .ge 22, 3) by decide +kernel) rfl (by decide) ?_
  refine V_aload_n 88 rfl (show decode M_World_init.2.1 87 = .ok (.aload_n 0, 1) by decide +kernel) 1 rfl ?_
  refine V_get (j := 6) (v := vR (SR σ_41 h0 6)) 91 rfl ck_World (by decide) (by decide) (show decode M_World_init.2.1 88 = .ok (.getfield 53, 3) by decide +kernel) wd_509 rfl ?_
  refine V_iload_n 92 rfl (show decode M_World_init.2.1 91 = .ok (.iload_n 1, 1) by decide +kernel) 0 rfl ?_
  refine V_new (ci := 9) 95 rfl ck_Walker (by decide) nd_Walker (show decode M_World_init.2.1 92 = .ok (.new 51, 3) by decide +kernel) wd_417 wd_419 wd_178 (by decide) (by decide) (fun σ_42 => ?_)
  refine V_dup 96 rfl (show decode M_World_init.2.1 95 = .ok (.dup, 1) by decide +kernel) rfl ?_
  refine V_callIN (tb := tU) (as := []) (rest := [vR (Shn σ_41), vI (7 : Int32), vR (SR σ_41 h0 6)]) (na := 0) 99 rfl ck_Walker (by decide) (s_Walker_init (Shn σ_41) (((b_40 && (cA σ_40 (SR σ_38 h0 6) 26 (6 : Int32) && (decide ((Shn σ_38) = 0) || cK σ_40 (Shn σ_38) 10))) && cK σ_41 h0 11) && cK σ_42 (Shn σ_41) 10) σ_42) rfl rfl (Nat.le_of_ble_eq_true rfl) (cal_Walker_init _ _ _ _ _ (by decide) (by decide) (by decide)) (show decode M_World_init.2.1 96 = .ok (.invokespecial 57, 3) by decide +kernel) wd_420 wd_421 rfl rfl (fun r_43 b_43 σ_43 => ?_)
  show V M_World_init 2 52 832 50 796 tU _ 99 [(1, vI (7 : Int32)), (0, vR h0)] [vR (Shn σ_41), vI (7 : Int32), vR (SR σ_41 h0 6)] b_43 σ_43
  refine V_ast_r26 100 rfl (show decode M_World_init.2.1 99 = .ok (.aastore, 1) by decide +kernel) (fun σ_44 => ?_)
  refine V_iinc_c [(1, vI (8 : Int32)), (0, vR h0)] 103 rfl (show decode M_World_init.2.1 100 = .ok (.iinc 1 1, 3) by decide +kernel) 0 rfl (w := 8) rfl (by decide) rfl ?_
  refine V_goto 81 (show decode M_World_init.2.1 103 = .ok (.goto (-22), 3) by decide +kernel) rfl ?_
  refine V_iload_n 82 rfl (show decode M_World_init.2.1 81 = .ok (.iload_n 1, 1) by decide +kernel) 0 rfl ?_
  refine V_bipush 84 rfl (show decode M_World_init.2.1 82 = .ok (.bipush 10, 2) by decide +kernel) (v := 10) rfl ?_
  refine V_icmpge_f 87 rfl 106 (show decode M_World_init.2.1 84 = .ok (.if_icmp .ge 22, 3) by decide +kernel) rfl (by decide) ?_
  refine V_aload_n 88 rfl (show decode M_World_init.2.1 87 = .ok (.aload_n 0, 1) by decide +kernel) 1 rfl ?_
  refine V_get (j := 6) (v := vR (SR σ_44 h0 6)) 91 rfl ck_World (by decide) (by decide) (show decode M_World_init.2.1 88 = .ok (.getfield 53, 3) by decide +kernel) wd_509 rfl ?_
  refine V_iload_n 92 rfl (show decode M_World_init.2.1 91 = .ok (.iload_n 1, 1) by decide +kernel) 0 rfl ?_
  refine V_new (ci := 9) 95 rfl ck_Walker (by decide) nd_Walker (show decode M_World_init.2.1 92 = .ok (.new 51, 3) by decide +kernel) wd_417 wd_419 wd_178 (by decide) (by decide) (fun σ_45 => ?_)
  refine V_dup 96 rfl (show decode M_World_init.2.1 95 = .ok (.dup, 1) by decide +kernel) rfl ?_
  refine V_callIN (tb := tU) (as := []) (rest := [vR (Shn σ_44), vI (8 : Int32), vR (SR σ_44 h0 6)]) (na := 0) 99 rfl ck_Walker (by decide) (s_Walker_init (Shn σ_44) (((b_43 && (cA σ_43 (SR σ_41 h0 6) 26 (7 : Int32) && (decide ((Shn σ_41) = 0) || cK σ_43 (Shn σ_41) 10))) && cK σ_44 h0 11) && cK σ_45 (Shn σ_44) 10) σ_45) rfl rfl (Nat.le_of_ble_eq_true rfl) (cal_Walker_init _ _ _ _ _ (by decide) (by decide) (by decide)) (show decode M_World_init.2.1 96 = .ok (.invokespecial 57, 3) by decide +kernel) wd_420 wd_421 rfl rfl (fun r_46 b_46 σ_46 => ?_)
  show V M_World_init 2 52 832 51 814 tU _ 99 [(1, vI (8 : Int32)), (0, vR h0)] [vR (Shn σ_44), vI (8 : Int32), vR (SR σ_44 h0 6)] b_46 σ_46
  refine V_ast_r26 100 rfl (show decode M_World_init.2.1 99 = .ok (.aastore, 1) by decide +kernel) (fun σ_47 => ?_)
  refine V_iinc_c [(1, vI (9 : Int32)), (0, vR h0)] 103 rfl (show decode M_World_init.2.1 100 = .ok (.iinc 1 1, 3) by decide +kernel) 0 rfl (w := 9) rfl (by decide) rfl ?_
  refine V_goto 81 (show decode M_World_init.2.1 103 = .ok (.goto (-22), 3) by decide +kernel) rfl ?_
  refine V_iload_n 82 rfl (show decode M_World_init.2.1 81 = .ok (.iload_n 1, 1) by decide +kernel) 0 rfl ?_
  refine V_bipush 84 rfl (show decode M_World_init.2.1 82 = .ok (.bipush 10, 2) by decide +kernel) (v := 10) rfl ?_
  refine V_icmpge_f 87 rfl 106 (show decode M_World_init.2.1 84 = .ok (.if_icmp .ge 22, 3) by decide +kernel) rfl (by decide) ?_
  refine V_aload_n 88 rfl (show decode M_World_init.2.1 87 = .ok (.aload_n 0, 1) by decide +kernel) 1 rfl ?_
  refine V_get (j := 6) (v := vR (SR σ_47 h0 6)) 91 rfl ck_World (by decide) (by decide) (show decode M_World_init.2.1 88 = .ok (.getfield 53, 3) by decide +kernel) wd_509 rfl ?_
  refine V_iload_n 92 rfl (show decode M_World_init.2.1 91 = .ok (.iload_n 1, 1) by decide +kernel) 0 rfl ?_
  refine V_new (ci := 9) 95 rfl ck_Walker (by decide) nd_Walker (show decode M_World_init.2.1 92 = .ok (.new 51, 3) by decide +kernel) wd_417 wd_419 wd_178 (by decide) (by decide) (fun σ_48 => ?_)
  refine V_dup 96 rfl (show decode M_World_init.2.1 95 = .ok (.dup, 1) by decide +kernel) rfl ?_
  refine V_callIN (tb := tU) (as := []) (rest := [vR (Shn σ_47), vI (9 : Int32), vR (SR σ_47 h0 6)]) (na := 0) 99 rfl ck_Walker (by decide) (s_Walker_init (Shn σ_47) (((b_46 && (cA σ_46 (SR σ_44 h0 6) 26 (8 : Int32) && (decide ((Shn σ_44) = 0) || cK σ_46 (Shn σ_44) 10))) && cK σ_47 h0 11) && cK σ_48 (Shn σ_47) 10) σ_48) rfl rfl (Nat.le_of_ble_eq_true rfl) (cal_Walker_init _ _ _ _ _ (by decide) (by decide) (by decide)) (show decode M_World_init.2.1 96 = .ok (.invokespecial 57, 3) by decide +kernel) wd_420 wd_421 rfl rfl (fun r_49 b_49 σ_49 => ?_)
  show V M_World_init 2 52 832 52 832 tU _ 99 [(1, vI (9 : Int32)), (0, vR h0)] [vR (Shn σ_47), vI (9 : Int32), vR (SR σ_47 h0 6)] b_49 σ_49
  refine V_ast_r26 100 rfl (show decode M_World_init.2.1 99 = .ok (.aastore, 1) by decide +kernel) (fun σ_50 => ?_)
  refine V_iinc_c [(1, vI (10 : Int32)), (0, vR h0)] 103 rfl (show decode M_World_init.2.1 100 = .ok (.iinc 1 1, 3) by decide +kernel) 0 rfl (w := 10) rfl (by decide) rfl ?_
  refine V_goto 81 (show decode M_World_init.2.1 103 = .ok (.goto (-22), 3) by decide +kernel) rfl ?_
  refine V_iload_n 82 rfl (show decode M_World_init.2.1 81 = .ok (.iload_n 1, 1) by decide +kernel) 0 rfl ?_
  refine V_bipush 84 rfl (show decode M_World_init.2.1 82 = .ok (.bipush 10, 2) by decide +kernel) (v := 10) rfl ?_
  refine V_icmpge_t 106 (show decode M_World_init.2.1 84 = .ok (.if_icmp .ge 22, 3) by decide +kernel) rfl (by decide) ?_
  exact V_vret rfl (by decide) (by decide) (show decode M_World_init.2.1 106 = .ok (.return_, 1) by decide +kernel)
theorem cal_World_init (d mc ms k n : Nat) (h1 : 2 + 1 ≤ d) (h2 : k + 52 ≤ mc) (h3 : n + 832 ≤ ms) : Cal M_World_init 2 52 832 0 d mc ms k n := ⟨wd_203, wd_171, by decide, h1, by decide, h2, h3⟩
abbrev M_Trail_init : MD := (⟨"LongTrail", "<init>", "()V"⟩, prog_1_method_1_code, 1, (none : Option FieldType))
def f_Trail_init (h0 : Nat) (b : Bool) (σ : Sto) : Rs Unit := (lt_ (nC σ 11 0) (fun (σ_1 : Sto) => (bd_ (f_World_init (Shn σ) ((b && !decide (h0 = 0)) && cK σ_1 (Shn σ) 11) σ_1) (fun (r_2 : Unit) (b_2 : Bool) (σ_2 : Sto) => (lt_ (pR σ_2 h0 0 (Shn σ)) (fun (σ_3 : Sto) => (lt_ (nC σ_3 11 0) (fun (σ_4 : Sto) => (bd_ (f_World_init (Shn σ_3) ((b_2 && cK σ_2 h0 12) && cK σ_4 (Shn σ_3) 11) σ_4) (fun (r_5 : Unit) (b_5 : Bool) (σ_5 : Sto) => (lt_ (pR σ_5 h0 1 (Shn σ_3)) (fun (σ_6 : Sto) => (lt_ (nC σ_6 11 0) (fun (σ_7 : Sto) => (bd_ (f_World_init (Shn σ_6) ((b_5 && cK σ_5 h0 12) && cK σ_7 (Shn σ_6) 11) σ_7) (fun (r_8 : Unit) (b_8 : Bool) (σ_8 : Sto) => (lt_ (pR σ_8 h0 2 (Shn σ_6)) (fun (σ_9 : Sto) => (lt_ (nC σ_9 8 0) (fun (σ_10 : Sto) => (bd_ (f_Tape_init (Shn σ_9) ((b_8 && cK σ_8 h0 12) && cK σ_10 (Shn σ_9) 8) σ_10) (fun (r_11 : Unit) (b_11 : Bool) (σ_11 : Sto) => (lt_ (pR σ_11 h0 3 (Shn σ_9)) (fun (σ_12 : Sto) => (lt_ (nC σ_12 27 (ix (4 : Int32))) (fun (σ_13 : Sto) => (lt_ (nC σ_13 6 0) (fun (σ_14 : Sto) => (bd_ (f_Sheet_init (Shn σ_13) (((b_11 && cK σ_11 h0 12) && (!decide ((4 : Int32) < 0) && decide (ix (4 : Int32) ≤ 4))) && cK σ_14 (Shn σ_13) 6) σ_14) (fun (r_15 : Unit) (b_15 : Bool) (σ_15 : Sto) => (lt_ (pR σ_15 (Shn σ_12) (ix (0 : Int32)) (Shn σ_13)) (fun (σ_16 : Sto) => (lt_ (nC σ_16 6 0) (fun (σ_17 : Sto) => (bd_ (f_Sheet_init (Shn σ_16) ((b_15 && (cA σ_15 (Shn σ_12) 27 (0 : Int32) && (decide ((Shn σ_13) = 0) || cK σ_15 (Shn σ_13) 6))) && cK σ_17 (Shn σ_16) 6) σ_17) (fun (r_18 : Unit) (b_18 : Bool) (σ_18 : Sto) => (lt_ (pR σ_18 (Shn σ_12) (ix (1 : Int32)) (Shn σ_16)) (fun (σ_19 : Sto) => (lt_ (nC σ_19 6 0) (fun (σ_20 : Sto) => (bd_ (f_Sheet_init (Shn σ_19) ((b_18 && (cA σ_18 (Shn σ_12) 27 (1 : Int32) && (decide ((Shn σ_16) = 0) || cK σ_18 (Shn σ_16) 6))) && cK σ_20 (Shn σ_19) 6) σ_20) (fun (r_21 : Unit) (b_21 : Bool) (σ_21 : Sto) => (lt_ (pR σ_21 (Shn σ_12) (ix (2 : Int32)) (Shn σ_19)) (fun (σ_22 : Sto) => (lt_ (nC σ_22 6 0) (fun (σ_23 : Sto) => (bd_ (f_Sheet_init (Shn σ_22) ((b_21 && (cA σ_21 (Shn σ_12) 27 (2 : Int32) && (decide ((Shn σ_19) = 0) || cK σ_21 (Shn σ_19) 6))) && cK σ_23 (Shn σ_22) 6) σ_23) (fun (r_24 : Unit) (b_24 : Bool) (σ_24 : Sto) => (lt_ (pR σ_24 (Shn σ_12) (ix (3 : Int32)) (Shn σ_22)) (fun (σ_25 : Sto) => (lt_ (pR σ_25 h0 4 (Shn σ_12)) (fun (σ_26 : Sto) => (lt_ (nC σ_26 21 (ix (60 : Int32))) (fun (σ_27 : Sto) => (lt_ (pR σ_27 h0 5 (Shn σ_26)) (fun (σ_28 : Sto) => ((), ((((b_24 && (cA σ_24 (Shn σ_12) 27 (3 : Int32) && (decide ((Shn σ_22) = 0) || cK σ_24 (Shn σ_22) 6))) && cK σ_25 h0 12) && (!decide ((60 : Int32) < 0) && decide (ix (60 : Int32) ≤ 60))) && cK σ_27 h0 12), σ_28)))))))))))))))))))))))))))))))))))))))))))))))))))))))))
set_option maxRecDepth 100000 in
set_option maxHeartbeats 4000000 in
theorem s_Trail_init : ∀ (h0 : Nat) (b : Bool) (σ : Sto), Snd M_Trail_init 3 172 2899 [vR h0] b σ (tU (f_Trail_init h0 b σ).1) (f_Trail_init h0 b σ).2.1 (f_Trail_init h0 b σ).2.2 := by
  intro h0 b σ
  refine Snd_of (tv := tU) (by decide) (Nat.le_of_ble_eq_true rfl) ?_
  show V M_Trail_init 3 172 2899 0 0 tU (f_Trail_init h0 b σ) 0 [(0, vR h0)] [] b σ
  unfold f_Trail_init
  refine V_aload_n 1 rfl (show decode M_Trail_init.2.1 0 = .ok (.aload_n 0, 1) by decide +kernel) 0 rfl ?_
  refine V_objI 4 rfl (show decode M_Trail_init.2.1 1 = .ok (.invokespecial 1, 3) by decide +kernel) wd_196 wd_197 wd_objc (by decide) (Nat.le_of_ble_eq_true rfl) ?_
  refine V_aload_n 5 rfl (show decode M_Trail_init.2.1 4 = .ok (.aload_n 0, 1) by decide +kernel) 0 rfl ?_
  refine V_new (ci := 10) 8 rfl ck_World (by decide) nd_World (show decode M_Trail_init.2.1 5 = .ok (.new 7, 3) by decide +kernel) wd_199 wd_200 wd_171 (by decide) (by decide) (fun σ_1 => ?_)
  refine V_dup 9 rfl (show decode M_Trail_init.2.1 8 = .ok (.dup, 1) by decide +kernel) rfl ?_
  refine V_callIN (tb := tU) (as := []) (rest := [vR (Shn σ), vR h0]) (na := 0) 12 rfl ck_World (by decide) (s_World_init (Shn σ) ((b && !decide (h0 = 0)) && cK σ_1 (Shn σ) 11) σ_1) rfl rfl (Nat.le_of_ble_eq_true rfl) (cal_World_init _ _ _ _ _ (by decide) (by decide) (by decide)) (show decode M_Trail_init.2.1 9 = .ok (.invokespecial 9, 3) by decide +kernel) wd_201 wd_202 rfl rfl (fun r_2 b_2 σ_2 => ?_)
  show V M_Trail_init 3 172 2899 53 841 tU _ 12 [(0, vR h0)] [vR (Shn σ), vR h0] b_2 σ_2
  refine V_putRF (j := 0) 15 rfl ck_Trail (by decide) (by decide) (show decode M_Trail_init.2.1 12 = .ok (.putfield 10, 3) by decide +kernel) wd_599 rfl rfl rfl (fun _ => rfl) (vr_nar_o _) (vr_fit_o _) (fun σ_3 => ?_)
  refine V_aload_n 16 rfl (show decode M_Trail_init.2.1 15 = .ok (.aload_n 0, 1) by decide +kernel) 0 rfl ?_
  refine V_new (ci := 10) 19 rfl ck_World (by decide) nd_World (show decode M_Trail_init.2.1 16 = .ok (.new 7, 3) by decide +kernel) wd_199 wd_200 wd_171 (by decide) (by decide) (fun σ_4 => ?_)
  refine V_dup 20 rfl (show decode M_Trail_init.2.1 19 = .ok (.dup, 1) by decide +kernel) rfl ?_
  refine V_callIN (tb := tU) (as := []) (rest := [vR (Shn σ_3), vR h0]) (na := 0) 23 rfl ck_World (by decide) (s_World_init (Shn σ_3) ((b_2 && cK σ_2 h0 12) && cK σ_4 (Shn σ_3) 11) σ_4) rfl rfl (Nat.le_of_ble_eq_true rfl) (cal_World_init _ _ _ _ _ (by decide) (by decide) (by decide)) (show decode M_Trail_init.2.1 20 = .ok (.invokespecial 9, 3) by decide +kernel) wd_201 wd_202 rfl rfl (fun r_5 b_5 σ_5 => ?_)
  show V M_Trail_init 3 172 2899 106 1682 tU _ 23 [(0, vR h0)] [vR (Shn σ_3), vR h0] b_5 σ_5
  refine V_putRF (j := 1) 26 rfl ck_Trail (by decide) (by decide) (show decode M_Trail_init.2.1 23 = .ok (.putfield 16, 3) by decide +kernel) wd_600 rfl rfl rfl (fun _ => rfl) (vr_nar_o _) (vr_fit_o _) (fun σ_6 => ?_)
  refine V_aload_n 27 rfl (show decode M_Trail_init.2.1 26 = .ok (.aload_n 0, 1) by decide +kernel) 0 rfl ?_
  refine V_new (ci := 10) 30 rfl ck_World (by decide) nd_World (show decode M_Trail_init.2.1 27 = .ok (.new 7, 3) by decide +kernel) wd_199 wd_200 wd_171 (by decide) (by decide) (fun σ_7 => ?_)
  refine V_dup 31 rfl (show decode M_Trail_init.2.1 30 = .ok (.dup, 1) by decide +kernel) rfl ?_
  refine V_callIN (tb := tU) (as := []) (rest := [vR (Shn σ_6), vR h0]) (na := 0) 34 rfl ck_World (by decide) (s_World_init (Shn σ_6) ((b_5 && cK σ_5 h0 12) && cK σ_7 (Shn σ_6) 11) σ_7) rfl rfl (Nat.le_of_ble_eq_true rfl) (cal_World_init _ _ _ _ _ (by decide) (by decide) (by decide)) (show decode M_Trail_init.2.1 31 = .ok (.invokespecial 9, 3) by decide +kernel) wd_201 wd_202 rfl rfl (fun r_8 b_8 σ_8 => ?_)
  show V M_Trail_init 3 172 2899 159 2523 tU _ 34 [(0, vR h0)] [vR (Shn σ_6), vR h0] b_8 σ_8
  refine V_putRF (j := 2) 37 rfl ck_Trail (by decide) (by decide) (show decode M_Trail_init.2.1 34 = .ok (.putfield 19, 3) by decide +kernel) wd_601 rfl rfl rfl (fun _ => rfl) (vr_nar_o _) (vr_fit_o _) (fun σ_9 => ?_)
  refine V_aload_n 38 rfl (show decode M_Trail_init.2.1 37 = .ok (.aload_n 0, 1) by decide +kernel) 0 rfl ?_
  refine V_new (ci := 7) 41 rfl ck_Tape (by decide) nd_Tape (show decode M_Trail_init.2.1 38 = .ok (.new 22, 3) by decide +kernel) wd_534 wd_535 wd_179 (by decide) (by decide) (fun σ_10 => ?_)
  refine V_dup 42 rfl (show decode M_Trail_init.2.1 41 = .ok (.dup, 1) by decide +kernel) rfl ?_
  refine V_callIN (tb := tU) (as := []) (rest := [vR (Shn σ_9), vR h0]) (na := 0) 45 rfl ck_Tape (by decide) (s_Tape_init (Shn σ_9) ((b_8 && cK σ_8 h0 12) && cK σ_10 (Shn σ_9) 8) σ_10) rfl rfl (Nat.le_of_ble_eq_true rfl) (cal_Tape_init _ _ _ _ _ (by decide) (by decide) (by decide)) (show decode M_Trail_init.2.1 42 = .ok (.invokespecial 24, 3) by decide +kernel) wd_536 wd_537 rfl rfl (fun r_11 b_11 σ_11 => ?_)
  show V M_Trail_init 3 172 2899 162 2727 tU _ 45 [(0, vR h0)] [vR (Shn σ_9), vR h0] b_11 σ_11
  refine V_putRF (j := 3) 48 rfl ck_Trail (by decide) (by decide) (show decode M_Trail_init.2.1 45 = .ok (.putfield 25, 3) by decide +kernel) wd_602 rfl rfl rfl (fun _ => rfl) (vr_nar_o _) (vr_fit_o _) (fun σ_12 => ?_)
  refine V_aload_n 49 rfl (show decode M_Trail_init.2.1 48 = .ok (.aload_n 0, 1) by decide +kernel) 0 rfl ?_
  refine V_iconst 50 rfl (show decode M_Trail_init.2.1 49 = .ok (.iconst 4, 1) by decide +kernel) (v := 4) rfl ?_
  refine V_newa_r27 53 4 rfl (show decode M_Trail_init.2.1 50 = .ok (.anewarray 29, 3) by decide +kernel) wd_579 (by decide) (by decide) (by decide) (fun σ_13 => ?_)
  refine V_dup 54 rfl (show decode M_Trail_init.2.1 53 = .ok (.dup, 1) by decide +kernel) rfl ?_
  refine V_iconst 55 rfl (show decode M_Trail_init.2.1 54 = .ok (.iconst 0, 1) by decide +kernel) (v := 0) rfl ?_
  refine V_new (ci := 5) 58 rfl ck_Sheet (by decide) nd_Sheet (show decode M_Trail_init.2.1 55 = .ok (.new 29, 3) by decide +kernel) wd_579 wd_581 wd_180 (by decide) (by decide) (fun σ_14 => ?_)
  refine V_dup 59 rfl (show decode M_Trail_init.2.1 58 = .ok (.dup, 1) by decide +kernel) rfl ?_
  refine V_callIN (tb := tU) (as := []) (rest := [vR (Shn σ_13), vI (0 : Int32), vR (Shn σ_12), vR (Shn σ_12), vR h0]) (na := 0) 62 rfl ck_Sheet (by decide) (s_Sheet_init (Shn σ_13) (((b_11 && cK σ_11 h0 12) && (!decide ((4 : Int32) < 0) && decide (ix (4 : Int32) ≤ 4))) && cK σ_14 (Shn σ_13) 6) σ_14) rfl rfl (Nat.le_of_ble_eq_true rfl) (cal_Sheet_init _ _ _ _ _ (by decide) (by decide) (by decide)) (show decode M_Trail_init.2.1 59 = .ok (.invokespecial 31, 3) by decide +kernel) wd_582 wd_583 rfl rfl (fun r_15 b_15 σ_15 => ?_)
  show V M_Trail_init 3 172 2899 165 2758 tU _ 62 [(0, vR h0)] [vR (Shn σ_13), vI (0 : Int32), vR (Shn σ_12), vR (Shn σ_12), vR h0] b_15 σ_15
  refine V_ast_r27 63 rfl (show decode M_Trail_init.2.1 62 = .ok (.aastore, 1) by decide +kernel) (fun σ_16 => ?_)
  refine V_dup 64 rfl (show decode M_Trail_init.2.1 63 = .ok (.dup, 1) by decide +kernel) rfl ?_
  refine V_iconst 65 rfl (show decode M_Trail_init.2.1 64 = .ok (.iconst 1, 1) by decide +kernel) (v := 1) rfl ?_
  refine V_new (ci := 5) 68 rfl ck_Sheet (by decide) nd_Sheet (show decode M_Trail_init.2.1 65 = .ok (.new 29, 3) by decide +kernel) wd_579 wd_581 wd_180 (by decide) (by decide) (fun σ_17 => ?_)
  refine V_dup 69 rfl (show decode M_Trail_init.2.1 68 = .ok (.dup, 1) by decide +kernel) rfl ?_
  refine V_callIN (tb := tU) (as := []) (rest := [vR (Shn σ_16), vI (1 : Int32), vR (Shn σ_12), vR (Shn σ_12), vR h0]) (na := 0) 72 rfl ck_Sheet (by decide) (s_Sheet_init (Shn σ_16) ((b_15 && (cA σ_15 (Shn σ_12) 27 (0 : Int32) && (decide ((Shn σ_13) = 0) || cK σ_15 (Shn σ_13) 6))) && cK σ_17 (Shn σ_16) 6) σ_17) rfl rfl (Nat.le_of_ble_eq_true rfl) (cal_Sheet_init _ _ _ _ _ (by decide) (by decide) (by decide)) (show decode M_Trail_init.2.1 69 = .ok (.invokespecial 31, 3) by decide +kernel) wd_582 wd_583 rfl rfl (fun r_18 b_18 σ_18 => ?_)
  show V M_Trail_init 3 172 2899 167 2785 tU _ 72 [(0, vR h0)] [vR (Shn σ_16), vI (1 : Int32), vR (Shn σ_12), vR (Shn σ_12), vR h0] b_18 σ_18
  refine V_ast_r27 73 rfl (show decode M_Trail_init.2.1 72 = .ok (.aastore, 1) by decide +kernel) (fun σ_19 => ?_)
  refine V_dup 74 rfl (show decode M_Trail_init.2.1 73 = .ok (.dup, 1) by decide +kernel) rfl ?_
  refine V_iconst 75 rfl (show decode M_Trail_init.2.1 74 = .ok (.iconst 2, 1) by decide +kernel) (v := 2) rfl ?_
  refine V_new (ci := 5) 78 rfl ck_Sheet (by decide) nd_Sheet (show decode M_Trail_init.2.1 75 = .ok (.new 29, 3) by decide +kernel) wd_579 wd_581 wd_180 (by decide) (by decide) (fun σ_20 => ?_)
  refine V_dup 79 rfl (show decode M_Trail_init.2.1 78 = .ok (.dup, 1) by decide +kernel) rfl ?_
  refine V_callIN (tb := tU) (as := []) (rest := [vR (Shn σ_19), vI (2 : Int32), vR (Shn σ_12), vR (Shn σ_12), vR h0]) (na := 0) 82 rfl ck_Sheet (by decide) (s_Sheet_init (Shn σ_19) ((b_18 && (cA σ_18 (Shn σ_12) 27 (1 : Int32) && (decide ((Shn σ_16) = 0) || cK σ_18 (Shn σ_16) 6))) && cK σ_20 (Shn σ_19) 6) σ_20) rfl rfl (Nat.le_of_ble_eq_true rfl) (cal_Sheet_init _ _ _ _ _ (by decide) (by decide) (by decide)) (show decode M_Trail_init.2.1 79 = .ok (.invokespecial 31, 3) by decide +kernel) wd_582 wd_583 rfl rfl (fun r_21 b_21 σ_21 => ?_)
  show V M_Trail_init 3 172 2899 169 2812 tU _ 82 [(0, vR h0)] [vR (Shn σ_19), vI (2 : Int32), vR (Shn σ_12), vR (Shn σ_12), vR h0] b_21 σ_21
  refine V_ast_r27 83 rfl (show decode M_Trail_init.2.1 82 = .ok (.aastore, 1) by decide +kernel) (fun σ_22 => ?_)
  refine V_dup 84 rfl (show decode M_Trail_init.2.1 83 = .ok (.dup, 1) by decide +kernel) rfl ?_
  refine V_iconst 85 rfl (show decode M_Trail_init.2.1 84 = .ok (.iconst 3, 1) by decide +kernel) (v := 3) rfl ?_
  refine V_new (ci := 5) 88 rfl ck_Sheet (by decide) nd_Sheet (show decode M_Trail_init.2.1 85 = .ok (.new 29, 3) by decide +kernel) wd_579 wd_581 wd_180 (by decide) (by decide) (fun σ_23 => ?_)
  refine V_dup 89 rfl (show decode M_Trail_init.2.1 88 = .ok (.dup, 1) by decide +kernel) rfl ?_
  refine V_callIN (tb := tU) (as := []) (rest := [vR (Shn σ_22), vI (3 : Int32), vR (Shn σ_12), vR (Shn σ_12), vR h0]) (na := 0) 92 rfl ck_Sheet (by decide) (s_Sheet_init (Shn σ_22) ((b_21 && (cA σ_21 (Shn σ_12) 27 (2 : Int32) && (decide ((Shn σ_19) = 0) || cK σ_21 (Shn σ_19) 6))) && cK σ_23 (Shn σ_22) 6) σ_23) rfl rfl (Nat.le_of_ble_eq_true rfl) (cal_Sheet_init _ _ _ _ _ (by decide) (by decide) (by decide)) (show decode M_Trail_init.2.1 89 = .ok (.invokespecial 31, 3) by decide +kernel) wd_582 wd_583 rfl rfl (fun r_24 b_24 σ_24 => ?_)
  show V M_Trail_init 3 172 2899 171 2839 tU _ 92 [(0, vR h0)] [vR (Shn σ_22), vI (3 : Int32), vR (Shn σ_12), vR (Shn σ_12), vR h0] b_24 σ_24
  refine V_ast_r27 93 rfl (show decode M_Trail_init.2.1 92 = .ok (.aastore, 1) by decide +kernel) (fun σ_25 => ?_)
  refine V_putRF (j := 4) 96 rfl ck_Trail (by decide) (by decide) (show decode M_Trail_init.2.1 93 = .ok (.putfield 32, 3) by decide +kernel) wd_603 rfl rfl rfl (fun _ => rfl) (vr_nar_a _) (vr_fit_a _) (fun σ_26 => ?_)
  refine V_aload_n 97 rfl (show decode M_Trail_init.2.1 96 = .ok (.aload_n 0, 1) by decide +kernel) 0 rfl ?_
  refine V_bipush 99 rfl (show decode M_Trail_init.2.1 97 = .ok (.bipush 60, 2) by decide +kernel) (v := 60) rfl ?_
  refine V_newa_int 101 60 rfl (show decode M_Trail_init.2.1 99 = .ok (.newarray .int, 2) by decide +kernel) wd_265 (by decide) (by decide) (by decide) (fun σ_27 => ?_)
  refine V_putRF (j := 5) 104 rfl ck_Trail (by decide) (by decide) (show decode M_Trail_init.2.1 101 = .ok (.putfield 36, 3) by decide +kernel) wd_604 rfl rfl rfl (fun _ => rfl) (vr_nar_a _) (vr_fit_a _) (fun σ_28 => ?_)
  exact V_vret rfl (by decide) (by decide) (show decode M_Trail_init.2.1 104 = .ok (.return_, 1) by decide +kernel)
theorem cal_Trail_init (d mc ms k n : Nat) (h1 : 3 + 1 ≤ d) (h2 : k + 172 ≤ mc) (h3 : n + 2899 ≤ ms) : Cal M_Trail_init 3 172 2899 0 d mc ms k n := ⟨wd_195, wd_170, by decide, h1, by decide, h2, h3⟩
abbrev M_Trail_within : MD := (⟨"LongTrail", "within", "(III)Z"⟩, prog_1_method_49_code, 3, (some FieldType.boolean))
def f_Trail_within (x0 : Int32) (x1 : Int32) (x2 : Int32) (b : Bool) (σ : Sto) : Rs Int32 := (lt_ (fun (b : Bool) (σ : Sto) => ((0 : Int32), b, σ)) (fun J14 => (if x0 < x1 then (J14 b σ) else (if x2 < x0 then (J14 b σ) else ((1 : Int32), b, σ)))))
set_option maxRecDepth 100000 in
set_option maxHeartbeats 4000000 in
theorem s_Trail_within : ∀ (x0 : Int32) (x1 : Int32) (x2 : Int32) (b : Bool) (σ : Sto), Snd M_Trail_within 1 0 0 [vI x0, vI x1, vI x2] b σ (tI (f_Trail_within x0 x1 x2 b σ).1) (f_Trail_within x0 x1 x2 b σ).2.1 (f_Trail_within x0 x1 x2 b σ).2.2 := by
  intro x0 x1 x2 b σ
  refine Snd_of (tv := tI) (by decide) (Nat.le_of_ble_eq_true rfl) ?_
  show V M_Trail_within 1 0 0 0 0 tI (f_Trail_within x0 x1 x2 b σ) 0 [(0, vI x0), (1, vI x1), (2, vI x2)] [] b σ
  unfold f_Trail_within
  refine V_iload_n 1 rfl (show decode M_Trail_within.2.1 0 = .ok (.iload_n 0, 1) by decide +kernel) 0 rfl ?_
  refine V_iload_n 2 rfl (show decode M_Trail_within.2.1 1 = .ok (.iload_n 1, 1) by decide +kernel) 1 rfl ?_
  refine V_jn (fun (J14 : Bool → Sto → Rs Int32) => ∀ (b : Bool) (σ : Sto), V M_Trail_within 1 0 0 0 0 tI (J14 b σ) 14 [] [] b σ) ?_ (fun J14 hJ14 => ?_)
  · intro b σ
    refine V_iconst 15 rfl (show decode M_Trail_within.2.1 14 = .ok (.iconst 0, 1) by decide +kernel) (v := 0) rfl ?_
    exact V_zret rfl (by decide) (by decide) rfl (show decode M_Trail_within.2.1 15 = .ok (.ireturn, 1) by decide +kernel)
  · skip
    refine V_icmplt 5 14 rfl (show decode M_Trail_within.2.1 2 = .ok (.if_icmp .lt 12, 3) by decide +kernel) rfl ?_ ?_
    · skip
      exact V_sub [] rfl (hJ14 b σ)
    · skip
      refine V_iload_n 6 rfl (show decode M_Trail_within.2.1 5 = .ok (.iload_n 0, 1) by decide +kernel) 0 rfl ?_
      refine V_iload_n 7 rfl (show decode M_Trail_within.2.1 6 = .ok (.iload_n 2, 1) by decide +kernel) 2 rfl ?_
      refine V_icmpgt 10 14 rfl (show decode M_Trail_within.2.1 7 = .ok (.if_icmp .gt 7, 3) by decide +kernel) rfl ?_ ?_
      · skip
        exact V_sub [] rfl (hJ14 b σ)
      · skip
        refine V_iconst 11 rfl (show decode M_Trail_within.2.1 10 = .ok (.iconst 1, 1) by decide +kernel) (v := 1) rfl ?_
        refine V_goto 15 (show decode M_Trail_within.2.1 11 = .ok (.goto 4, 3) by decide +kernel) rfl ?_
        exact V_zret rfl (by decide) (by decide) rfl (show decode M_Trail_within.2.1 15 = .ok (.ireturn, 1) by decide +kernel)
theorem cal_Trail_within (d mc ms k n : Nat) (h1 : 1 + 1 ≤ d) (h2 : k + 0 ≤ mc) (h3 : n + 0 ≤ ms) : Cal M_Trail_within 1 0 0 3 d mc ms k n := ⟨wd_630, wd_170, by decide, h1, by decide, h2, h3⟩
abbrev M_Ground_hasPlace : MD := (⟨"LongTrail$Ground", "hasPlace", "(I)Z"⟩, prog_3_method_4_code, 2, (some FieldType.boolean))
def f_Ground_hasPlace (h0 : Nat) (x1 : Int32) (b : Bool) (σ : Sto) : Rs Int32 := (bd_ (f_Trail_within x1 (0 : Int32) ((SI σ h0 10) - (1 : Int32)) (b && cK σ h0 2) σ) (fun (r_1 : Int32) (b_1 : Bool) (σ_1 : Sto) => (r_1, (b_1 && zok r_1), σ_1)))
set_option maxRecDepth 100000 in
set_option maxHeartbeats 4000000 in
theorem s_Ground_hasPlace : ∀ (h0 : Nat) (x1 : Int32) (b : Bool) (σ : Sto), Snd M_Ground_hasPlace 2 0 0 [vR h0, vI x1] b σ (tI (f_Ground_hasPlace h0 x1 b σ).1) (f_Ground_hasPlace h0 x1 b σ).2.1 (f_Ground_hasPlace h0 x1 b σ).2.2 := by
  intro h0 x1 b σ
  refine Snd_of (tv := tI) (by decide) (Nat.le_of_ble_eq_true rfl) ?_
  show V M_Ground_hasPlace 2 0 0 0 0 tI (f_Ground_hasPlace h0 x1 b σ) 0 [(0, vR h0), (1, vI x1)] [] b σ
  unfold f_Ground_hasPlace
  refine V_iload_n 1 rfl (show decode M_Ground_hasPlace.2.1 0 = .ok (.iload_n 1, 1) by decide +kernel) 1 rfl ?_
  refine V_iconst 2 rfl (show decode M_Ground_hasPlace.2.1 1 = .ok (.iconst 0, 1) by decide +kernel) (v := 0) rfl ?_
  refine V_aload_n 3 rfl (show decode M_Ground_hasPlace.2.1 2 = .ok (.aload_n 0, 1) by decide +kernel) 0 rfl ?_
  refine V_get (j := 10) (v := vI (SI σ h0 10)) 6 rfl ck_Ground (by decide) (by decide) (show decode M_Ground_hasPlace.2.1 3 = .ok (.getfield 50, 3) by decide +kernel) wd_235 rfl ?_
  refine V_iconst 7 rfl (show decode M_Ground_hasPlace.2.1 6 = .ok (.iconst 1, 1) by decide +kernel) (v := 1) rfl ?_
  refine V_isub 8 rfl (show decode M_Ground_hasPlace.2.1 7 = .ok (.isub, 1) by decide +kernel) ?_
  refine V_callSN (tb := tI) (as := [vI x1, vI (0 : Int32), vI ((SI σ h0 10) - (1 : Int32))]) (rest := []) (na := 3) 11 rfl (s_Trail_within x1 (0 : Int32) ((SI σ h0 10) - (1 : Int32)) (b && cK σ h0 2) σ) rfl rfl (Nat.le_of_ble_eq_true rfl) (cal_Trail_within _ _ _ _ _ (by decide) (by decide) (by decide)) (show decode M_Ground_hasPlace.2.1 8 = .ok (.invokestatic 56, 3) by decide +kernel) wd_649 wd_629 (fun r_1 b_1 σ_1 => ?_)
  show V M_Ground_hasPlace 2 0 0 0 0 tI _ 11 [(0, vR h0), (1, vI x1)] [vI r_1] b_1 σ_1
  exact V_zretc rfl (by decide) (by decide) (show decode M_Ground_hasPlace.2.1 11 = .ok (.ireturn, 1) by decide +kernel)
theorem cal_Ground_hasPlace (d mc ms k n : Nat) (h1 : 2 + 1 ≤ d) (h2 : k + 0 ≤ mc) (h3 : n + 0 ≤ ms) : Cal M_Ground_hasPlace 2 0 0 1 d mc ms k n := ⟨wd_669, wd_172, by decide, h1, by decide, h2, h3⟩
abbrev M_Ground_isOf : MD := (⟨"LongTrail$Ground", "isOf", "(II)Z"⟩, prog_3_method_11_code, 5, (some FieldType.boolean))
def b_Ground_isOf_10 (x2 : Int32) (L10 : Int32 → Int32 → Bool → Sto → Rs Int32) (x3 : Int32) (x4 : Int32) (b : Bool) (σ : Sto) : Rs Int32 := (lt_ (fun (b : Bool) (σ : Sto) => ((0 : Int32), b, σ)) (fun J42 => (if x4 < (6 : Int32) then (if x3 < 0 then (J42 ((b && !decide (Scs σ 0 = 0)) && !decide (Scs σ 0 = 0)) σ) else (if x3 = x2 then ((1 : Int32), ((b && !decide (Scs σ 0 = 0)) && !decide (Scs σ 0 = 0)), σ) else (lt_ (kaT (ix x3)) (fun (x3_3 : Int32) => (lt_ (x4 + (1 : Int32)) (fun (x4_4 : Int32) => (L10 x3_3 x4_4 ((((b && !decide (Scs σ 0 = 0)) && !decide (Scs σ 0 = 0)) && !decide (Scs σ 0 = 0)) && (!decide (Scs σ 0 = 0) && inb x3 6)) σ))))))) else (J42 ((b && !decide (Scs σ 0 = 0)) && !decide (Scs σ 0 = 0)) σ))))
def f_Ground_isOf (h0 : Nat) (x1 : Int32) (x2 : Int32) (b : Bool) (σ : Sto) : Rs Int32 := (lt_ (SI σ (SR σ h0 0) (ix x1)) (fun (x3_1 : Int32) => (lt_ (0 : Int32) (fun (x4_2 : Int32) => (lp_ (b_Ground_isOf_10 x2) (fun (x3 : Int32) (x4 : Int32) (b : Bool) (σ : Sto) => (0, false, σ)) fuel_ x3_1 x4_2 ((b && cK σ h0 2) && cA σ (SR σ h0 0) 21 x1) σ)))))
set_option maxRecDepth 100000 in
set_option maxHeartbeats 4000000 in
theorem s_Ground_isOf : ∀ (h0 : Nat) (x1 : Int32) (x2 : Int32) (b : Bool) (σ : Sto), Snd M_Ground_isOf 1 0 0 [vR h0, vI x1, vI x2] b σ (tI (f_Ground_isOf h0 x1 x2 b σ).1) (f_Ground_isOf h0 x1 x2 b σ).2.1 (f_Ground_isOf h0 x1 x2 b σ).2.2 := by
  intro h0 x1 x2 b σ
  refine Snd_of (tv := tI) (by decide) (Nat.le_of_ble_eq_true rfl) ?_
  show V M_Ground_isOf 1 0 0 0 0 tI (f_Ground_isOf h0 x1 x2 b σ) 0 [(0, vR h0), (1, vI x1), (2, vI x2)] [] b σ
  unfold f_Ground_isOf
  refine V_aload_n 1 rfl (show decode M_Ground_isOf.2.1 0 = .ok (.aload_n 0, 1) by decide +kernel) 0 rfl ?_
  refine V_get (j := 0) (v := vR (SR σ h0 0)) 4 rfl ck_Ground (by decide) (by decide) (show decode M_Ground_isOf.2.1 1 = .ok (.getfield 11, 3) by decide +kernel) wd_212 rfl ?_
  refine V_iload_n 5 rfl (show decode M_Ground_isOf.2.1 4 = .ok (.iload_n 1, 1) by decide +kernel) 1 rfl ?_
  refine V_ald_int 6 rfl (show decode M_Ground_isOf.2.1 5 = .ok (.iaload, 1) by decide +kernel) ?_
  refine V_istore_n (fun x3_1 => [(3, vI x3_1), (0, vR h0), (1, vI x1), (2, vI x2)]) 7 rfl (show decode M_Ground_isOf.2.1 6 = .ok (.istore_n 3, 1) by decide +kernel) (by decide) (fun _ => rfl) (fun x3_1 => ?_)
  refine V_iconst 8 rfl (show decode M_Ground_isOf.2.1 7 = .ok (.iconst 0, 1) by decide +kernel) (v := 0) rfl ?_
  refine V_istore (fun x4_2 => [(4, vI x4_2), (3, vI x3_1), (0, vR h0), (1, vI x1), (2, vI x2)]) 10 rfl (show decode M_Ground_isOf.2.1 8 = .ok (.istore 4, 2) by decide +kernel) (by decide) (fun _ => rfl) (fun x4_2 => ?_)
  refine V_sub [4, 1, 0] rfl ?_
  refine lp_P (fun (L10 : Int32 → Int32 → Bool → Sto → Rs Int32) => ∀ (x3 : Int32) (x4 : Int32) (b : Bool) (σ : Sto), V M_Ground_isOf 1 0 0 0 0 tI (L10 x3 x4 b σ) 10 [(2, vI x2), (3, vI x3), (4, vI x4)] [] b σ) ?_ ?_ fuel_ x3_1 x4_2 ((b && cK σ h0 2) && cA σ (SR σ h0 0) 21 x1) σ
  · intro x3 x4 b σ; exact V_bad
  · intro L10 hL10 x3 x4 b σ
    unfold b_Ground_isOf_10
    refine V_iload 12 rfl (show decode M_Ground_isOf.2.1 10 = .ok (.iload 4, 2) by decide +kernel) 2 rfl ?_
    refine V_kaG 15 rfl (show decode M_Ground_isOf.2.1 12 = .ok (.getstatic 60, 3) by decide +kernel) wd_690 ?_
    refine V_kaL 16 rfl (show decode M_Ground_isOf.2.1 15 = .ok (.arraylength, 1) by decide +kernel) ?_
    refine V_jn (fun (J42 : Bool → Sto → Rs Int32) => ∀ (b : Bool) (σ : Sto), V M_Ground_isOf 1 0 0 0 0 tI (J42 b σ) 42 [] [] b σ) ?_ (fun J42 hJ42 => ?_)
    · intro b σ
      refine V_iconst 43 rfl (show decode M_Ground_isOf.2.1 42 = .ok (.iconst 0, 1) by decide +kernel) (v := 0) rfl ?_
      exact V_zret rfl (by decide) (by decide) rfl (show decode M_Ground_isOf.2.1 43 = .ok (.ireturn, 1) by decide +kernel)
    · skip
      refine V_icmpge 19 42 rfl (show decode M_Ground_isOf.2.1 16 = .ok (.if_icmp .ge 26, 3) by decide +kernel) rfl ?_ ?_
      · skip
        refine V_iload_n 20 rfl (show decode M_Ground_isOf.2.1 19 = .ok (.iload_n 3, 1) by decide +kernel) 1 rfl ?_
        refine V_iflt 23 42 rfl (show decode M_Ground_isOf.2.1 20 = .ok (.ifCond .lt 22, 3) by decide +kernel) rfl ?_ ?_
        · skip
          exact V_sub [] rfl (hJ42 ((b && !decide (Scs σ 0 = 0)) && !decide (Scs σ 0 = 0)) σ)
        · skip
          refine V_iload_n 24 rfl (show decode M_Ground_isOf.2.1 23 = .ok (.iload_n 3, 1) by decide +kernel) 1 rfl ?_
          refine V_iload_n 25 rfl (show decode M_Ground_isOf.2.1 24 = .ok (.iload_n 2, 1) by decide +kernel) 0 rfl ?_
          refine V_icmpne 28 30 rfl (show decode M_Ground_isOf.2.1 25 = .ok (.if_icmp .ne 5, 3) by decide +kernel) rfl ?_ ?_
          · skip
            refine V_iconst 29 rfl (show decode M_Ground_isOf.2.1 28 = .ok (.iconst 1, 1) by decide +kernel) (v := 1) rfl ?_
            exact V_zret rfl (by decide) (by decide) rfl (show decode M_Ground_isOf.2.1 29 = .ok (.ireturn, 1) by decide +kernel)
          · skip
            refine V_kaG 33 rfl (show decode M_Ground_isOf.2.1 30 = .ok (.getstatic 60, 3) by decide +kernel) wd_690 ?_
            refine V_iload_n 34 rfl (show decode M_Ground_isOf.2.1 33 = .ok (.iload_n 3, 1) by decide +kernel) 1 rfl ?_
            refine V_kaA 35 rfl (show decode M_Ground_isOf.2.1 34 = .ok (.iaload, 1) by decide +kernel) ?_
            refine V_istore_n (fun x3_3 => [(3, vI x3_3), (2, vI x2), (4, vI x4)]) 36 rfl (show decode M_Ground_isOf.2.1 35 = .ok (.istore_n 3, 1) by decide +kernel) (by decide) (fun _ => rfl) (fun x3_3 => ?_)
            refine V_iinc (fun x4_4 => [(4, vI x4_4), (3, vI x3_3), (2, vI x2)]) 39 rfl (show decode M_Ground_isOf.2.1 36 = .ok (.iinc 4 1, 3) by decide +kernel) 2 rfl (w := 1) rfl (by decide) (fun _ => rfl) (fun x4_4 => ?_)
            refine V_goto 10 (show decode M_Ground_isOf.2.1 39 = .ok (.goto (-29), 3) by decide +kernel) rfl ?_
            exact V_sub [2, 1, 0] rfl (hL10 x3_3 x4_4 ((((b && !decide (Scs σ 0 = 0)) && !decide (Scs σ 0 = 0)) && !decide (Scs σ 0 = 0)) && (!decide (Scs σ 0 = 0) && inb x3 6)) σ)
      · skip
        exact V_sub [] rfl (hJ42 ((b && !decide (Scs σ 0 = 0)) && !decide (Scs σ 0 = 0)) σ)
theorem cal_Ground_isOf (d mc ms k n : Nat) (h1 : 1 + 1 ≤ d) (h2 : k + 0 ≤ mc) (h3 : n + 0 ≤ ms) : Cal M_Ground_isOf 1 0 0 2 d mc ms k n := ⟨wd_689, wd_172, by decide, h1, by decide, h2, h3⟩
abbrev M_Trail_as : MD := (⟨"LongTrail", "as", "(II)I"⟩, prog_1_method_5_code, 3, (some FieldType.int))
def f_Trail_as (h0 : Nat) (x1 : Int32) (x2 : Int32) (b : Bool) (σ : Sto) : Rs Int32 := (bd_ (f_Ground_hasPlace (SR σ (SR σ h0 0) 0) x1 (((b && cK σ h0 12) && cK σ (SR σ h0 0) 11) && cK σ (SR σ (SR σ h0 0) 0) 2) σ) (fun (r_1 : Int32) (b_1 : Bool) (σ_1 : Sto) => (lt_ (fun (b : Bool) (σ : Sto) => ((-1000000001 : Int32), b, σ)) (fun J23 => (if r_1 = 0 then (J23 b_1 σ_1) else (bd_ (f_Trail_within x2 (0 : Int32) (5 : Int32) b_1 σ_1) (fun (r_2 : Int32) (b_2 : Bool) (σ_2 : Sto) => (if r_2 = 0 then (J23 b_2 σ_2) else (bd_ (f_Ground_isOf (SR σ_2 (SR σ_2 h0 0) 0) x1 x2 (((b_2 && cK σ_2 h0 12) && cK σ_2 (SR σ_2 h0 0) 11) && cK σ_2 (SR σ_2 (SR σ_2 h0 0) 0) 2) σ_2) (fun (r_3 : Int32) (b_3 : Bool) (σ_3 : Sto) => (if r_3 = 0 then ((-1000000012 : Int32), b_3, σ_3) else ((SI σ_3 (SR σ_3 (SR σ_3 (SR σ_3 h0 0) 0) 2) (ix x1)), ((((b_3 && cK σ_3 h0 12) && cK σ_3 (SR σ_3 h0 0) 11) && cK σ_3 (SR σ_3 (SR σ_3 h0 0) 0) 2) && cA σ_3 (SR σ_3 (SR σ_3 (SR σ_3 h0 0) 0) 2) 21 x1), σ_3))))))))))))
set_option maxRecDepth 100000 in
set_option maxHeartbeats 4000000 in
theorem s_Trail_as : ∀ (h0 : Nat) (x1 : Int32) (x2 : Int32) (b : Bool) (σ : Sto), Snd M_Trail_as 3 0 0 [vR h0, vI x1, vI x2] b σ (tI (f_Trail_as h0 x1 x2 b σ).1) (f_Trail_as h0 x1 x2 b σ).2.1 (f_Trail_as h0 x1 x2 b σ).2.2 := by
  intro h0 x1 x2 b σ
  refine Snd_of (tv := tI) (by decide) (Nat.le_of_ble_eq_true rfl) ?_
  show V M_Trail_as 3 0 0 0 0 tI (f_Trail_as h0 x1 x2 b σ) 0 [(0, vR h0), (1, vI x1), (2, vI x2)] [] b σ
  unfold f_Trail_as
  refine V_aload_n 1 rfl (show decode M_Trail_as.2.1 0 = .ok (.aload_n 0, 1) by decide +kernel) 0 rfl ?_
  refine V_get (j := 0) (v := vR (SR σ h0 0)) 4 rfl ck_Trail (by decide) (by decide) (show decode M_Trail_as.2.1 1 = .ok (.getfield 10, 3) by decide +kernel) wd_599 rfl ?_
  refine V_getN (j := 0) (v := vR (SR σ (SR σ h0 0) 0)) 7 rfl ck_World (by decide) (by decide) (show decode M_Trail_as.2.1 4 = .ok (.getfield 49, 3) by decide +kernel) wd_498 rfl ?_
  refine V_iload_n 8 rfl (show decode M_Trail_as.2.1 7 = .ok (.iload_n 1, 1) by decide +kernel) 1 rfl ?_
  refine V_callVN (tb := tI) (as := [vI x1]) (rest := []) (na := 1) 11 rfl ck_Ground (by decide) (s_Ground_hasPlace (SR σ (SR σ h0 0) 0) x1 (((b && cK σ h0 12) && cK σ (SR σ h0 0) 11) && cK σ (SR σ (SR σ h0 0) 0) 2) σ) rfl rfl (Nat.le_of_ble_eq_true rfl) (cal_Ground_hasPlace _ _ _ _ _ (by decide) (by decide) (by decide)) (show decode M_Trail_as.2.1 8 = .ok (.invokevirtual 89, 3) by decide +kernel) wd_666 wd_668 wd_5 (fun r_1 b_1 σ_1 => ?_)
  show V M_Trail_as 3 0 0 0 0 tI _ 11 [(0, vR h0), (1, vI x1), (2, vI x2)] [vI r_1] b_1 σ_1
  refine V_jn (fun (J23 : Bool → Sto → Rs Int32) => ∀ (b : Bool) (σ : Sto), V M_Trail_as 3 0 0 0 0 tI (J23 b σ) 23 [] [] b σ) ?_ (fun J23 hJ23 => ?_)
  · intro b σ
    refine V_ldc 25 rfl (show decode M_Trail_as.2.1 23 = .ok (.ldc 44, 2) by decide +kernel) wd_631 ?_
    exact V_iret rfl (by decide) (by decide) (show decode M_Trail_as.2.1 25 = .ok (.ireturn, 1) by decide +kernel)
  · skip
    refine V_ifeq 14 23 rfl (show decode M_Trail_as.2.1 11 = .ok (.ifCond .eq 12, 3) by decide +kernel) rfl ?_ ?_
    · skip
      exact V_sub [] rfl (hJ23 b_1 σ_1)
    · skip
      refine V_iload_n 15 rfl (show decode M_Trail_as.2.1 14 = .ok (.iload_n 2, 1) by decide +kernel) 2 rfl ?_
      refine V_iconst 16 rfl (show decode M_Trail_as.2.1 15 = .ok (.iconst 0, 1) by decide +kernel) (v := 0) rfl ?_
      refine V_iconst 17 rfl (show decode M_Trail_as.2.1 16 = .ok (.iconst 5, 1) by decide +kernel) (v := 5) rfl ?_
      refine V_callS (tb := tI) (as := [vI x2, vI (0 : Int32), vI (5 : Int32)]) (rest := []) (na := 3) 20 rfl (s_Trail_within x2 (0 : Int32) (5 : Int32) b_1 σ_1) rfl rfl (Nat.le_of_ble_eq_true rfl) (cal_Trail_within _ _ _ _ _ (by decide) (by decide) (by decide)) (show decode M_Trail_as.2.1 17 = .ok (.invokestatic 40, 3) by decide +kernel) wd_628 wd_629 (fun r_2 b_2 σ_2 => ?_)
      show V M_Trail_as 3 0 0 0 0 tI _ 20 [(0, vR h0), (1, vI x1), (2, vI x2)] [vI r_2] b_2 σ_2
      refine V_ifne 23 26 rfl (show decode M_Trail_as.2.1 20 = .ok (.ifCond .ne 6, 3) by decide +kernel) rfl ?_ ?_
      · skip
        exact V_sub [] rfl (hJ23 b_2 σ_2)
      · skip
        refine V_aload_n 27 rfl (show decode M_Trail_as.2.1 26 = .ok (.aload_n 0, 1) by decide +kernel) 0 rfl ?_
        refine V_get (j := 0) (v := vR (SR σ_2 h0 0)) 30 rfl ck_Trail (by decide) (by decide) (show decode M_Trail_as.2.1 27 = .ok (.getfield 10, 3) by decide +kernel) wd_599 rfl ?_
        refine V_getN (j := 0) (v := vR (SR σ_2 (SR σ_2 h0 0) 0)) 33 rfl ck_World (by decide) (by decide) (show decode M_Trail_as.2.1 30 = .ok (.getfield 49, 3) by decide +kernel) wd_498 rfl ?_
        refine V_iload_n 34 rfl (show decode M_Trail_as.2.1 33 = .ok (.iload_n 1, 1) by decide +kernel) 1 rfl ?_
        refine V_iload_n 35 rfl (show decode M_Trail_as.2.1 34 = .ok (.iload_n 2, 1) by decide +kernel) 2 rfl ?_
        refine V_callVN (tb := tI) (as := [vI x1, vI x2]) (rest := []) (na := 2) 38 rfl ck_Ground (by decide) (s_Ground_isOf (SR σ_2 (SR σ_2 h0 0) 0) x1 x2 (((b_2 && cK σ_2 h0 12) && cK σ_2 (SR σ_2 h0 0) 11) && cK σ_2 (SR σ_2 (SR σ_2 h0 0) 0) 2) σ_2) rfl rfl (Nat.le_of_ble_eq_true rfl) (cal_Ground_isOf _ _ _ _ _ (by decide) (by decide) (by decide)) (show decode M_Trail_as.2.1 35 = .ok (.invokevirtual 116, 3) by decide +kernel) wd_686 wd_688 wd_9 (fun r_3 b_3 σ_3 => ?_)
        show V M_Trail_as 3 0 0 0 0 tI _ 38 [(0, vR h0), (1, vI x1), (2, vI x2)] [vI r_3] b_3 σ_3
        refine V_ifeq 41 56 rfl (show decode M_Trail_as.2.1 38 = .ok (.ifCond .eq 18, 3) by decide +kernel) rfl ?_ ?_
        · skip
          refine V_ldc 58 rfl (show decode M_Trail_as.2.1 56 = .ok (.ldc 119, 2) by decide +kernel) wd_692 ?_
          exact V_iret rfl (by decide) (by decide) (show decode M_Trail_as.2.1 58 = .ok (.ireturn, 1) by decide +kernel)
        · skip
          refine V_aload_n 42 rfl (show decode M_Trail_as.2.1 41 = .ok (.aload_n 0, 1) by decide +kernel) 0 rfl ?_
          refine V_get (j := 0) (v := vR (SR σ_3 h0 0)) 45 rfl ck_Trail (by decide) (by decide) (show decode M_Trail_as.2.1 42 = .ok (.getfield 10, 3) by decide +kernel) wd_599 rfl ?_
          refine V_getN (j := 0) (v := vR (SR σ_3 (SR σ_3 h0 0) 0)) 48 rfl ck_World (by decide) (by decide) (show decode M_Trail_as.2.1 45 = .ok (.getfield 49, 3) by decide +kernel) wd_498 rfl ?_
          refine V_getN (j := 2) (v := vR (SR σ_3 (SR σ_3 (SR σ_3 h0 0) 0) 2)) 51 rfl ck_Ground (by decide) (by decide) (show decode M_Trail_as.2.1 48 = .ok (.getfield 98, 3) by decide +kernel) wd_219 rfl ?_
          refine V_iload_n 52 rfl (show decode M_Trail_as.2.1 51 = .ok (.iload_n 1, 1) by decide +kernel) 1 rfl ?_
          refine V_ald_int 53 rfl (show decode M_Trail_as.2.1 52 = .ok (.iaload, 1) by decide +kernel) ?_
          refine V_goto 58 (show decode M_Trail_as.2.1 53 = .ok (.goto 5, 3) by decide +kernel) rfl ?_
          exact V_iret rfl (by decide) (by decide) (show decode M_Trail_as.2.1 58 = .ok (.ireturn, 1) by decide +kernel)
theorem cal_Trail_as (d mc ms k n : Nat) (h1 : 3 + 1 ≤ d) (h2 : k + 0 ≤ mc) (h3 : n + 0 ≤ ms) : Cal M_Trail_as 3 0 0 2 d mc ms k n := ⟨wd_685, wd_170, by decide, h1, by decide, h2, h3⟩
abbrev M_Album_become : MD := (⟨"LongTrail$Album", "become", "(LLongTrail$Album;)V"⟩, prog_2_method_2_code, 2, (none : Option FieldType))
def f_Album_become (h0 : Nat) (h1 : Nat) (b : Bool) (σ : Sto) : Rs Unit := (lt_ (rI σ (SR σ h0 0) (va_cpy (SI σ (SR σ h1 0)) (SI σ (SR σ h0 0)) (ix (0 : Int32)) (ix (0 : Int32)) (ix (20 : Int32)))) (fun (σ_1 : Sto) => (lt_ (rI σ_1 (SR σ_1 h0 1) (va_cpy (SI σ_1 (SR σ_1 h1 1)) (SI σ_1 (SR σ_1 h0 1)) (ix (0 : Int32)) (ix (0 : Int32)) (ix (20 : Int32)))) (fun (σ_2 : Sto) => (lt_ (pI σ_2 h0 2 (SI σ_2 h1 2)) (fun (σ_3 : Sto) => ((), ((((((((b && cK σ h1 1) && cK σ h0 1) && cpc σ (SR σ h1 0) (SR σ h0 0) 21 (0 : Int32) (0 : Int32) (20 : Int32)) && cK σ_1 h1 1) && cK σ_1 h0 1) && cpc σ_1 (SR σ_1 h1 1) (SR σ_1 h0 1) 21 (0 : Int32) (0 : Int32) (20 : Int32)) && cK σ_2 h1 1) && cK σ_2 h0 1), σ_3)))))))
set_option maxRecDepth 100000 in
set_option maxHeartbeats 4000000 in
theorem s_Album_become : ∀ (h0 : Nat) (h1 : Nat) (b : Bool) (σ : Sto), Snd M_Album_become 1 0 0 [vR h0, vR h1] b σ (tU (f_Album_become h0 h1 b σ).1) (f_Album_become h0 h1 b σ).2.1 (f_Album_become h0 h1 b σ).2.2 := by
  intro h0 h1 b σ
  refine Snd_of (tv := tU) (by decide) (Nat.le_of_ble_eq_true rfl) ?_
  show V M_Album_become 1 0 0 0 0 tU (f_Album_become h0 h1 b σ) 0 [(0, vR h0), (1, vR h1)] [] b σ
  unfold f_Album_become
  refine V_aload_n 1 rfl (show decode M_Album_become.2.1 0 = .ok (.aload_n 1, 1) by decide +kernel) 1 rfl ?_
  refine V_get (j := 0) (v := vR (SR σ h1 0)) 4 rfl ck_Album (by decide) (by decide) (show decode M_Album_become.2.1 1 = .ok (.getfield 11, 3) by decide +kernel) wd_393 rfl ?_
  refine V_iconst 5 rfl (show decode M_Album_become.2.1 4 = .ok (.iconst 0, 1) by decide +kernel) (v := 0) rfl ?_
  refine V_aload_n 6 rfl (show decode M_Album_become.2.1 5 = .ok (.aload_n 0, 1) by decide +kernel) 0 rfl ?_
  refine V_get (j := 0) (v := vR (SR σ h0 0)) 9 rfl ck_Album (by decide) (by decide) (show decode M_Album_become.2.1 6 = .ok (.getfield 11, 3) by decide +kernel) wd_393 rfl ?_
  refine V_iconst 10 rfl (show decode M_Album_become.2.1 9 = .ok (.iconst 0, 1) by decide +kernel) (v := 0) rfl ?_
  refine V_bipush 12 rfl (show decode M_Album_become.2.1 10 = .ok (.bipush 20, 2) by decide +kernel) (v := 20) rfl ?_
  refine V_acpI 15 rfl (show decode M_Album_become.2.1 12 = .ok (.invokestatic 30, 3) by decide +kernel) wd_1249 wd_954 wd_953 wd_190 (by decide) (Nat.le_of_ble_eq_true rfl) (fun σ_1 => ?_)
  refine V_aload_n 16 rfl (show decode M_Album_become.2.1 15 = .ok (.aload_n 1, 1) by decide +kernel) 1 rfl ?_
  refine V_get (j := 1) (v := vR (SR σ_1 h1 1)) 19 rfl ck_Album (by decide) (by decide) (show decode M_Album_become.2.1 16 = .ok (.getfield 15, 3) by decide +kernel) wd_394 rfl ?_
  refine V_iconst 20 rfl (show decode M_Album_become.2.1 19 = .ok (.iconst 0, 1) by decide +kernel) (v := 0) rfl ?_
  refine V_aload_n 21 rfl (show decode M_Album_become.2.1 20 = .ok (.aload_n 0, 1) by decide +kernel) 0 rfl ?_
  refine V_get (j := 1) (v := vR (SR σ_1 h0 1)) 24 rfl ck_Album (by decide) (by decide) (show decode M_Album_become.2.1 21 = .ok (.getfield 15, 3) by decide +kernel) wd_394 rfl ?_
  refine V_iconst 25 rfl (show decode M_Album_become.2.1 24 = .ok (.iconst 0, 1) by decide +kernel) (v := 0) rfl ?_
  refine V_bipush 27 rfl (show decode M_Album_become.2.1 25 = .ok (.bipush 20, 2) by decide +kernel) (v := 20) rfl ?_
  refine V_acpI 30 rfl (show decode M_Album_become.2.1 27 = .ok (.invokestatic 30, 3) by decide +kernel) wd_1249 wd_954 wd_953 wd_190 (by decide) (Nat.le_of_ble_eq_true rfl) (fun σ_2 => ?_)
  refine V_aload_n 31 rfl (show decode M_Album_become.2.1 30 = .ok (.aload_n 0, 1) by decide +kernel) 0 rfl ?_
  refine V_aload_n 32 rfl (show decode M_Album_become.2.1 31 = .ok (.aload_n 1, 1) by decide +kernel) 1 rfl ?_
  refine V_get (j := 2) (v := vI (SI σ_2 h1 2)) 35 rfl ck_Album (by decide) (by decide) (show decode M_Album_become.2.1 32 = .ok (.getfield 36, 3) by decide +kernel) wd_395 rfl ?_
  refine V_putI (j := 2) 38 rfl ck_Album (by decide) (by decide) (show decode M_Album_become.2.1 35 = .ok (.putfield 36, 3) by decide +kernel) wd_395 rfl (fun _ => rfl) rfl rfl (fun σ_3 => ?_)
  exact V_vret rfl (by decide) (by decide) (show decode M_Album_become.2.1 38 = .ok (.return_, 1) by decide +kernel)
theorem cal_Album_become (d mc ms k n : Nat) (h1 : 1 + 1 ≤ d) (h2 : k + 0 ≤ mc) (h3 : n + 0 ≤ ms) : Cal M_Album_become 1 0 0 1 d mc ms k n := ⟨wd_1248, wd_177, by decide, h1, by decide, h2, h3⟩
abbrev M_Ground_become : MD := (⟨"LongTrail$Ground", "become", "(LLongTrail$Ground;)V"⟩, prog_3_method_2_code, 2, (none : Option FieldType))
def f_Ground_become (h0 : Nat) (h1 : Nat) (b : Bool) (σ : Sto) : Rs Unit := (lt_ (rI σ (SR σ h0 0) (va_cpy (SI σ (SR σ h1 0)) (SI σ (SR σ h0 0)) (ix (0 : Int32)) (ix (0 : Int32)) (ix (16 : Int32)))) (fun (σ_1 : Sto) => (lt_ (rI σ_1 (SR σ_1 h0 1) (va_cpy (SI σ_1 (SR σ_1 h1 1)) (SI σ_1 (SR σ_1 h0 1)) (ix (0 : Int32)) (ix (0 : Int32)) (ix (16 : Int32)))) (fun (σ_2 : Sto) => (lt_ (rI σ_2 (SR σ_2 h0 2) (va_cpy (SI σ_2 (SR σ_2 h1 2)) (SI σ_2 (SR σ_2 h0 2)) (ix (0 : Int32)) (ix (0 : Int32)) (ix (16 : Int32)))) (fun (σ_3 : Sto) => (lt_ (rI σ_3 (SR σ_3 h0 3) (va_cpy (SI σ_3 (SR σ_3 h1 3)) (SI σ_3 (SR σ_3 h0 3)) (ix (0 : Int32)) (ix (0 : Int32)) (ix (16 : Int32)))) (fun (σ_4 : Sto) => (lt_ (rI σ_4 (SR σ_4 h0 4) (va_cpy (SI σ_4 (SR σ_4 h1 4)) (SI σ_4 (SR σ_4 h0 4)) (ix (0 : Int32)) (ix (0 : Int32)) (ix (Int32.ofNat (Sln σ_4 (SR σ_4 h0 4)))))) (fun (σ_5 : Sto) => (lt_ (rI σ_5 (SR σ_5 h0 5) (va_cpy (SI σ_5 (SR σ_5 h1 5)) (SI σ_5 (SR σ_5 h0 5)) (ix (0 : Int32)) (ix (0 : Int32)) (ix (6 : Int32)))) (fun (σ_6 : Sto) => (lt_ (rI σ_6 (SR σ_6 h0 6) (va_cpy (SI σ_6 (SR σ_6 h1 6)) (SI σ_6 (SR σ_6 h0 6)) (ix (0 : Int32)) (ix (0 : Int32)) (ix (6 : Int32)))) (fun (σ_7 : Sto) => (lt_ (rI σ_7 (SR σ_7 h0 7) (va_cpy (SI σ_7 (SR σ_7 h1 7)) (SI σ_7 (SR σ_7 h0 7)) (ix (0 : Int32)) (ix (0 : Int32)) (ix (6 : Int32)))) (fun (σ_8 : Sto) => (lt_ (rI σ_8 (SR σ_8 h0 8) (va_cpy (SI σ_8 (SR σ_8 h1 8)) (SI σ_8 (SR σ_8 h0 8)) (ix (0 : Int32)) (ix (0 : Int32)) (ix (6 : Int32)))) (fun (σ_9 : Sto) => (lt_ (pI σ_9 h0 9 (SI σ_9 h1 9)) (fun (σ_10 : Sto) => (lt_ (pI σ_10 h0 10 (SI σ_10 h1 10)) (fun (σ_11 : Sto) => (lt_ (pI σ_11 h0 11 (SI σ_11 h1 11)) (fun (σ_12 : Sto) => ((), (((((((((((((((((((((((((((((((((((b && cK σ h1 2) && cK σ h0 2) && cpc σ (SR σ h1 0) (SR σ h0 0) 21 (0 : Int32) (0 : Int32) (16 : Int32)) && cK σ_1 h1 2) && cK σ_1 h0 2) && cpc σ_1 (SR σ_1 h1 1) (SR σ_1 h0 1) 21 (0 : Int32) (0 : Int32) (16 : Int32)) && cK σ_2 h1 2) && cK σ_2 h0 2) && cpc σ_2 (SR σ_2 h1 2) (SR σ_2 h0 2) 21 (0 : Int32) (0 : Int32) (16 : Int32)) && cK σ_3 h1 2) && cK σ_3 h0 2) && cpc σ_3 (SR σ_3 h1 3) (SR σ_3 h0 3) 21 (0 : Int32) (0 : Int32) (16 : Int32)) && cK σ_4 h1 2) && cK σ_4 h0 2) && cK σ_4 h0 2) && cK σ_4 (SR σ_4 h0 4) 21) && cpc σ_4 (SR σ_4 h1 4) (SR σ_4 h0 4) 21 (0 : Int32) (0 : Int32) (Int32.ofNat (Sln σ_4 (SR σ_4 h0 4)))) && cK σ_5 h1 2) && cK σ_5 h0 2) && cpc σ_5 (SR σ_5 h1 5) (SR σ_5 h0 5) 21 (0 : Int32) (0 : Int32) (6 : Int32)) && cK σ_6 h1 2) && cK σ_6 h0 2) && cpc σ_6 (SR σ_6 h1 6) (SR σ_6 h0 6) 21 (0 : Int32) (0 : Int32) (6 : Int32)) && cK σ_7 h1 2) && cK σ_7 h0 2) && cpc σ_7 (SR σ_7 h1 7) (SR σ_7 h0 7) 21 (0 : Int32) (0 : Int32) (6 : Int32)) && cK σ_8 h1 2) && cK σ_8 h0 2) && cpc σ_8 (SR σ_8 h1 8) (SR σ_8 h0 8) 21 (0 : Int32) (0 : Int32) (6 : Int32)) && cK σ_9 h1 2) && cK σ_9 h0 2) && cK σ_10 h1 2) && cK σ_10 h0 2) && cK σ_11 h1 2) && cK σ_11 h0 2), σ_12)))))))))))))))))))))))))
set_option maxRecDepth 100000 in
set_option maxHeartbeats 4000000 in
theorem s_Ground_become : ∀ (h0 : Nat) (h1 : Nat) (b : Bool) (σ : Sto), Snd M_Ground_become 1 0 0 [vR h0, vR h1] b σ (tU (f_Ground_become h0 h1 b σ).1) (f_Ground_become h0 h1 b σ).2.1 (f_Ground_become h0 h1 b σ).2.2 := by
  intro h0 h1 b σ
  refine Snd_of (tv := tU) (by decide) (Nat.le_of_ble_eq_true rfl) ?_
  show V M_Ground_become 1 0 0 0 0 tU (f_Ground_become h0 h1 b σ) 0 [(0, vR h0), (1, vR h1)] [] b σ
  unfold f_Ground_become
  refine V_aload_n 1 rfl (show decode M_Ground_become.2.1 0 = .ok (.aload_n 1, 1) by decide +kernel) 1 rfl ?_
  refine V_get (j := 0) (v := vR (SR σ h1 0)) 4 rfl ck_Ground (by decide) (by decide) (show decode M_Ground_become.2.1 1 = .ok (.getfield 11, 3) by decide +kernel) wd_212 rfl ?_
  refine V_iconst 5 rfl (show decode M_Ground_become.2.1 4 = .ok (.iconst 0, 1) by decide +kernel) (v := 0) rfl ?_
  refine V_aload_n 6 rfl (show decode M_Ground_become.2.1 5 = .ok (.aload_n 0, 1) by decide +kernel) 0 rfl ?_
  refine V_get (j := 0) (v := vR (SR σ h0 0)) 9 rfl ck_Ground (by decide) (by decide) (show decode M_Ground_become.2.1 6 = .ok (.getfield 11, 3) by decide +kernel) wd_212 rfl ?_
  refine V_iconst 10 rfl (show decode M_Ground_become.2.1 9 = .ok (.iconst 0, 1) by decide +kernel) (v := 0) rfl ?_
  refine V_bipush 12 rfl (show decode M_Ground_become.2.1 10 = .ok (.bipush 16, 2) by decide +kernel) (v := 16) rfl ?_
  refine V_acpI 15 rfl (show decode M_Ground_become.2.1 12 = .ok (.invokestatic 44, 3) by decide +kernel) wd_1225 wd_954 wd_953 wd_190 (by decide) (Nat.le_of_ble_eq_true rfl) (fun σ_1 => ?_)
  refine V_aload_n 16 rfl (show decode M_Ground_become.2.1 15 = .ok (.aload_n 1, 1) by decide +kernel) 1 rfl ?_
  refine V_get (j := 1) (v := vR (SR σ_1 h1 1)) 19 rfl ck_Ground (by decide) (by decide) (show decode M_Ground_become.2.1 16 = .ok (.getfield 15, 3) by decide +kernel) wd_214 rfl ?_
  refine V_iconst 20 rfl (show decode M_Ground_become.2.1 19 = .ok (.iconst 0, 1) by decide +kernel) (v := 0) rfl ?_
  refine V_aload_n 21 rfl (show decode M_Ground_become.2.1 20 = .ok (.aload_n 0, 1) by decide +kernel) 0 rfl ?_
  refine V_get (j := 1) (v := vR (SR σ_1 h0 1)) 24 rfl ck_Ground (by decide) (by decide) (show decode M_Ground_become.2.1 21 = .ok (.getfield 15, 3) by decide +kernel) wd_214 rfl ?_
  refine V_iconst 25 rfl (show decode M_Ground_become.2.1 24 = .ok (.iconst 0, 1) by decide +kernel) (v := 0) rfl ?_
  refine V_bipush 27 rfl (show decode M_Ground_become.2.1 25 = .ok (.bipush 16, 2) by decide +kernel) (v := 16) rfl ?_
  refine V_acpI 30 rfl (show decode M_Ground_become.2.1 27 = .ok (.invokestatic 44, 3) by decide +kernel) wd_1225 wd_954 wd_953 wd_190 (by decide) (Nat.le_of_ble_eq_true rfl) (fun σ_2 => ?_)
  refine V_aload_n 31 rfl (show decode M_Ground_become.2.1 30 = .ok (.aload_n 1, 1) by decide +kernel) 1 rfl ?_
  refine V_get (j := 2) (v := vR (SR σ_2 h1 2)) 34 rfl ck_Ground (by decide) (by decide) (show decode M_Ground_become.2.1 31 = .ok (.getfield 18, 3) by decide +kernel) wd_218 rfl ?_
  refine V_iconst 35 rfl (show decode M_Ground_become.2.1 34 = .ok (.iconst 0, 1) by decide +kernel) (v := 0) rfl ?_
  refine V_aload_n 36 rfl (show decode M_Ground_become.2.1 35 = .ok (.aload_n 0, 1) by decide +kernel) 0 rfl ?_
  refine V_get (j := 2) (v := vR (SR σ_2 h0 2)) 39 rfl ck_Ground (by decide) (by decide) (show decode M_Ground_become.2.1 36 = .ok (.getfield 18, 3) by decide +kernel) wd_218 rfl ?_
  refine V_iconst 40 rfl (show decode M_Ground_become.2.1 39 = .ok (.iconst 0, 1) by decide +kernel) (v := 0) rfl ?_
  refine V_bipush 42 rfl (show decode M_Ground_become.2.1 40 = .ok (.bipush 16, 2) by decide +kernel) (v := 16) rfl ?_
  refine V_acpI 45 rfl (show decode M_Ground_become.2.1 42 = .ok (.invokestatic 44, 3) by decide +kernel) wd_1225 wd_954 wd_953 wd_190 (by decide) (Nat.le_of_ble_eq_true rfl) (fun σ_3 => ?_)
  refine V_aload_n 46 rfl (show decode M_Ground_become.2.1 45 = .ok (.aload_n 1, 1) by decide +kernel) 1 rfl ?_
  refine V_get (j := 3) (v := vR (SR σ_3 h1 3)) 49 rfl ck_Ground (by decide) (by decide) (show decode M_Ground_become.2.1 46 = .ok (.getfield 21, 3) by decide +kernel) wd_220 rfl ?_
  refine V_iconst 50 rfl (show decode M_Ground_become.2.1 49 = .ok (.iconst 0, 1) by decide +kernel) (v := 0) rfl ?_
  refine V_aload_n 51 rfl (show decode M_Ground_become.2.1 50 = .ok (.aload_n 0, 1) by decide +kernel) 0 rfl ?_
  refine V_get (j := 3) (v := vR (SR σ_3 h0 3)) 54 rfl ck_Ground (by decide) (by decide) (show decode M_Ground_become.2.1 51 = .ok (.getfield 21, 3) by decide +kernel) wd_220 rfl ?_
  refine V_iconst 55 rfl (show decode M_Ground_become.2.1 54 = .ok (.iconst 0, 1) by decide +kernel) (v := 0) rfl ?_
  refine V_bipush 57 rfl (show decode M_Ground_become.2.1 55 = .ok (.bipush 16, 2) by decide +kernel) (v := 16) rfl ?_
  refine V_acpI 60 rfl (show decode M_Ground_become.2.1 57 = .ok (.invokestatic 44, 3) by decide +kernel) wd_1225 wd_954 wd_953 wd_190 (by decide) (Nat.le_of_ble_eq_true rfl) (fun σ_4 => ?_)
  refine V_aload_n 61 rfl (show decode M_Ground_become.2.1 60 = .ok (.aload_n 1, 1) by decide +kernel) 1 rfl ?_
  refine V_get (j := 4) (v := vR (SR σ_4 h1 4)) 64 rfl ck_Ground (by decide) (by decide) (show decode M_Ground_become.2.1 61 = .ok (.getfield 25, 3) by decide +kernel) wd_222 rfl ?_
  refine V_iconst 65 rfl (show decode M_Ground_become.2.1 64 = .ok (.iconst 0, 1) by decide +kernel) (v := 0) rfl ?_
  refine V_aload_n 66 rfl (show decode M_Ground_become.2.1 65 = .ok (.aload_n 0, 1) by decide +kernel) 0 rfl ?_
  refine V_get (j := 4) (v := vR (SR σ_4 h0 4)) 69 rfl ck_Ground (by decide) (by decide) (show decode M_Ground_become.2.1 66 = .ok (.getfield 25, 3) by decide +kernel) wd_222 rfl ?_
  refine V_iconst 70 rfl (show decode M_Ground_become.2.1 69 = .ok (.iconst 0, 1) by decide +kernel) (v := 0) rfl ?_
  refine V_aload_n 71 rfl (show decode M_Ground_become.2.1 70 = .ok (.aload_n 0, 1) by decide +kernel) 0 rfl ?_
  refine V_get (j := 4) (v := vR (SR σ_4 h0 4)) 74 rfl ck_Ground (by decide) (by decide) (show decode M_Ground_become.2.1 71 = .ok (.getfield 25, 3) by decide +kernel) wd_222 rfl ?_
  refine V_alen_int 75 rfl (show decode M_Ground_become.2.1 74 = .ok (.arraylength, 1) by decide +kernel) ?_
  refine V_acpI 78 rfl (show decode M_Ground_become.2.1 75 = .ok (.invokestatic 44, 3) by decide +kernel) wd_1225 wd_954 wd_953 wd_190 (by decide) (Nat.le_of_ble_eq_true rfl) (fun σ_5 => ?_)
  refine V_aload_n 79 rfl (show decode M_Ground_become.2.1 78 = .ok (.aload_n 1, 1) by decide +kernel) 1 rfl ?_
  refine V_get (j := 5) (v := vR (SR σ_5 h1 5)) 82 rfl ck_Ground (by decide) (by decide) (show decode M_Ground_become.2.1 79 = .ok (.getfield 28, 3) by decide +kernel) wd_224 rfl ?_
  refine V_iconst 83 rfl (show decode M_Ground_become.2.1 82 = .ok (.iconst 0, 1) by decide +kernel) (v := 0) rfl ?_
  refine V_aload_n 84 rfl (show decode M_Ground_become.2.1 83 = .ok (.aload_n 0, 1) by decide +kernel) 0 rfl ?_
  refine V_get (j := 5) (v := vR (SR σ_5 h0 5)) 87 rfl ck_Ground (by decide) (by decide) (show decode M_Ground_become.2.1 84 = .ok (.getfield 28, 3) by decide +kernel) wd_224 rfl ?_
  refine V_iconst 88 rfl (show decode M_Ground_become.2.1 87 = .ok (.iconst 0, 1) by decide +kernel) (v := 0) rfl ?_
  refine V_bipush 90 rfl (show decode M_Ground_become.2.1 88 = .ok (.bipush 6, 2) by decide +kernel) (v := 6) rfl ?_
  refine V_acpI 93 rfl (show decode M_Ground_become.2.1 90 = .ok (.invokestatic 44, 3) by decide +kernel) wd_1225 wd_954 wd_953 wd_190 (by decide) (Nat.le_of_ble_eq_true rfl) (fun σ_6 => ?_)
  refine V_aload_n 94 rfl (show decode M_Ground_become.2.1 93 = .ok (.aload_n 1, 1) by decide +kernel) 1 rfl ?_
  refine V_get (j := 6) (v := vR (SR σ_6 h1 6)) 97 rfl ck_Ground (by decide) (by decide) (show decode M_Ground_become.2.1 94 = .ok (.getfield 31, 3) by decide +kernel) wd_226 rfl ?_
  refine V_iconst 98 rfl (show decode M_Ground_become.2.1 97 = .ok (.iconst 0, 1) by decide +kernel) (v := 0) rfl ?_
  refine V_aload_n 99 rfl (show decode M_Ground_become.2.1 98 = .ok (.aload_n 0, 1) by decide +kernel) 0 rfl ?_
  refine V_get (j := 6) (v := vR (SR σ_6 h0 6)) 102 rfl ck_Ground (by decide) (by decide) (show decode M_Ground_become.2.1 99 = .ok (.getfield 31, 3) by decide +kernel) wd_226 rfl ?_
  refine V_iconst 103 rfl (show decode M_Ground_become.2.1 102 = .ok (.iconst 0, 1) by decide +kernel) (v := 0) rfl ?_
  refine V_bipush 105 rfl (show decode M_Ground_become.2.1 103 = .ok (.bipush 6, 2) by decide +kernel) (v := 6) rfl ?_
  refine V_acpI 108 rfl (show decode M_Ground_become.2.1 105 = .ok (.invokestatic 44, 3) by decide +kernel) wd_1225 wd_954 wd_953 wd_190 (by decide) (Nat.le_of_ble_eq_true rfl) (fun σ_7 => ?_)
  refine V_aload_n 109 rfl (show decode M_Ground_become.2.1 108 = .ok (.aload_n 1, 1) by decide +kernel) 1 rfl ?_
  refine V_get (j := 7) (v := vR (SR σ_7 h1 7)) 112 rfl ck_Ground (by decide) (by decide) (show decode M_Ground_become.2.1 109 = .ok (.getfield 34, 3) by decide +kernel) wd_228 rfl ?_
  refine V_iconst 113 rfl (show decode M_Ground_become.2.1 112 = .ok (.iconst 0, 1) by decide +kernel) (v := 0) rfl ?_
  refine V_aload_n 114 rfl (show decode M_Ground_become.2.1 113 = .ok (.aload_n 0, 1) by decide +kernel) 0 rfl ?_
  refine V_get (j := 7) (v := vR (SR σ_7 h0 7)) 117 rfl ck_Ground (by decide) (by decide) (show decode M_Ground_become.2.1 114 = .ok (.getfield 34, 3) by decide +kernel) wd_228 rfl ?_
  refine V_iconst 118 rfl (show decode M_Ground_become.2.1 117 = .ok (.iconst 0, 1) by decide +kernel) (v := 0) rfl ?_
  refine V_bipush 120 rfl (show decode M_Ground_become.2.1 118 = .ok (.bipush 6, 2) by decide +kernel) (v := 6) rfl ?_
  refine V_acpI 123 rfl (show decode M_Ground_become.2.1 120 = .ok (.invokestatic 44, 3) by decide +kernel) wd_1225 wd_954 wd_953 wd_190 (by decide) (Nat.le_of_ble_eq_true rfl) (fun σ_8 => ?_)
  refine V_aload_n 124 rfl (show decode M_Ground_become.2.1 123 = .ok (.aload_n 1, 1) by decide +kernel) 1 rfl ?_
  refine V_get (j := 8) (v := vR (SR σ_8 h1 8)) 127 rfl ck_Ground (by decide) (by decide) (show decode M_Ground_become.2.1 124 = .ok (.getfield 37, 3) by decide +kernel) wd_229 rfl ?_
  refine V_iconst 128 rfl (show decode M_Ground_become.2.1 127 = .ok (.iconst 0, 1) by decide +kernel) (v := 0) rfl ?_
  refine V_aload_n 129 rfl (show decode M_Ground_become.2.1 128 = .ok (.aload_n 0, 1) by decide +kernel) 0 rfl ?_
  refine V_get (j := 8) (v := vR (SR σ_8 h0 8)) 132 rfl ck_Ground (by decide) (by decide) (show decode M_Ground_become.2.1 129 = .ok (.getfield 37, 3) by decide +kernel) wd_229 rfl ?_
  refine V_iconst 133 rfl (show decode M_Ground_become.2.1 132 = .ok (.iconst 0, 1) by decide +kernel) (v := 0) rfl ?_
  refine V_bipush 135 rfl (show decode M_Ground_become.2.1 133 = .ok (.bipush 6, 2) by decide +kernel) (v := 6) rfl ?_
  refine V_acpI 138 rfl (show decode M_Ground_become.2.1 135 = .ok (.invokestatic 44, 3) by decide +kernel) wd_1225 wd_954 wd_953 wd_190 (by decide) (Nat.le_of_ble_eq_true rfl) (fun σ_9 => ?_)
  refine V_aload_n 139 rfl (show decode M_Ground_become.2.1 138 = .ok (.aload_n 0, 1) by decide +kernel) 0 rfl ?_
  refine V_aload_n 140 rfl (show decode M_Ground_become.2.1 139 = .ok (.aload_n 1, 1) by decide +kernel) 1 rfl ?_
  refine V_get (j := 9) (v := vI (SI σ_9 h1 9)) 143 rfl ck_Ground (by decide) (by decide) (show decode M_Ground_become.2.1 140 = .ok (.getfield 40, 3) by decide +kernel) wd_230 rfl ?_
  refine V_putI (j := 9) 146 rfl ck_Ground (by decide) (by decide) (show decode M_Ground_become.2.1 143 = .ok (.putfield 40, 3) by decide +kernel) wd_230 rfl (fun _ => rfl) rfl rfl (fun σ_10 => ?_)
  refine V_aload_n 147 rfl (show decode M_Ground_become.2.1 146 = .ok (.aload_n 0, 1) by decide +kernel) 0 rfl ?_
  refine V_aload_n 148 rfl (show decode M_Ground_become.2.1 147 = .ok (.aload_n 1, 1) by decide +kernel) 1 rfl ?_
  refine V_get (j := 10) (v := vI (SI σ_10 h1 10)) 151 rfl ck_Ground (by decide) (by decide) (show decode M_Ground_become.2.1 148 = .ok (.getfield 50, 3) by decide +kernel) wd_235 rfl ?_
  refine V_putI (j := 10) 154 rfl ck_Ground (by decide) (by decide) (show decode M_Ground_become.2.1 151 = .ok (.putfield 50, 3) by decide +kernel) wd_235 rfl (fun _ => rfl) rfl rfl (fun σ_11 => ?_)
  refine V_aload_n 155 rfl (show decode M_Ground_become.2.1 154 = .ok (.aload_n 0, 1) by decide +kernel) 0 rfl ?_
  refine V_aload_n 156 rfl (show decode M_Ground_become.2.1 155 = .ok (.aload_n 1, 1) by decide +kernel) 1 rfl ?_
  refine V_get (j := 11) (v := vI (SI σ_11 h1 11)) 159 rfl ck_Ground (by decide) (by decide) (show decode M_Ground_become.2.1 156 = .ok (.getfield 53, 3) by decide +kernel) wd_238 rfl ?_
  refine V_putI (j := 11) 162 rfl ck_Ground (by decide) (by decide) (show decode M_Ground_become.2.1 159 = .ok (.putfield 53, 3) by decide +kernel) wd_238 rfl (fun _ => rfl) rfl rfl (fun σ_12 => ?_)
  exact V_vret rfl (by decide) (by decide) (show decode M_Ground_become.2.1 162 = .ok (.return_, 1) by decide +kernel)
theorem cal_Ground_become (d mc ms k n : Nat) (h1 : 1 + 1 ≤ d) (h2 : k + 0 ≤ mc) (h3 : n + 0 ≤ ms) : Cal M_Ground_become 1 0 0 1 d mc ms k n := ⟨wd_1224, wd_172, by decide, h1, by decide, h2, h3⟩
abbrev M_Laws_become : MD := (⟨"LongTrail$Laws", "become", "(LLongTrail$Laws;)V"⟩, prog_4_method_2_code, 3, (none : Option FieldType))
def b_Laws_become_2 (h0 : Nat) (h1 : Nat) (L2 : Int32 → Bool → Sto → Rs Unit) (x2 : Int32) (b : Bool) (σ : Sto) : Rs Unit := (if x2 < (12 : Int32) then (lt_ (pR σ (SR σ h0 0) (ix x2) (SR σ (SR σ h1 0) (ix x2))) (fun (σ_2 : Sto) => (lt_ (x2 + (1 : Int32)) (fun (x2_3 : Int32) => (L2 x2_3 ((((b && cK σ h0 3) && cK σ h1 3) && cA σ (SR σ h1 0) 25 x2) && (cA σ (SR σ h0 0) 25 x2 && (decide ((SR σ (SR σ h1 0) (ix x2)) = 0) || cK σ (SR σ (SR σ h1 0) (ix x2)) 9))) σ_2))))) else (lt_ (pI σ h0 1 (SI σ h1 1)) (fun (σ_4 : Sto) => ((), ((b && cK σ h1 3) && cK σ h0 3), σ_4))))
def f_Laws_become (h0 : Nat) (h1 : Nat) (b : Bool) (σ : Sto) : Rs Unit := (lt_ (0 : Int32) (fun (x2_1 : Int32) => (lp_ (b_Laws_become_2 h0 h1) (fun (x2 : Int32) (b : Bool) (σ : Sto) => ((), false, σ)) fuel_ x2_1 b σ)))
set_option maxRecDepth 100000 in
set_option maxHeartbeats 4000000 in
theorem s_Laws_become : ∀ (h0 : Nat) (h1 : Nat) (b : Bool) (σ : Sto), Snd M_Laws_become 1 0 0 [vR h0, vR h1] b σ (tU (f_Laws_become h0 h1 b σ).1) (f_Laws_become h0 h1 b σ).2.1 (f_Laws_become h0 h1 b σ).2.2 := by
  intro h0 h1 b σ
  refine Snd_of (tv := tU) (by decide) (Nat.le_of_ble_eq_true rfl) ?_
  show V M_Laws_become 1 0 0 0 0 tU (f_Laws_become h0 h1 b σ) 0 [(0, vR h0), (1, vR h1)] [] b σ
  unfold f_Laws_become
  refine V_iconst 1 rfl (show decode M_Laws_become.2.1 0 = .ok (.iconst 0, 1) by decide +kernel) (v := 0) rfl ?_
  refine V_istore_n (fun x2_1 => [(2, vI x2_1), (0, vR h0), (1, vR h1)]) 2 rfl (show decode M_Laws_become.2.1 1 = .ok (.istore_n 2, 1) by decide +kernel) (by decide) (fun _ => rfl) (fun x2_1 => ?_)
  refine V_sub [1, 2, 0] rfl ?_
  refine lp_P (fun (L2 : Int32 → Bool → Sto → Rs Unit) => ∀ (x2 : Int32) (b : Bool) (σ : Sto), V M_Laws_become 1 0 0 0 0 tU (L2 x2 b σ) 2 [(0, vR h0), (1, vR h1), (2, vI x2)] [] b σ) ?_ ?_ fuel_ x2_1 b σ
  · intro x2 b σ; exact V_bad
  · intro L2 hL2 x2 b σ
    unfold b_Laws_become_2
    refine V_iload_n 3 rfl (show decode M_Laws_become.2.1 2 = .ok (.iload_n 2, 1) by decide +kernel) 2 rfl ?_
    refine V_bipush 5 rfl (show decode M_Laws_become.2.1 3 = .ok (.bipush 12, 2) by decide +kernel) (v := 12) rfl ?_
    refine V_icmpge 8 26 rfl (show decode M_Laws_become.2.1 5 = .ok (.if_icmp .ge 21, 3) by decide +kernel) rfl ?_ ?_
    · skip
      refine V_aload_n 9 rfl (show decode M_Laws_become.2.1 8 = .ok (.aload_n 0, 1) by decide +kernel) 0 rfl ?_
      refine V_get (j := 0) (v := vR (SR σ h0 0)) 12 rfl ck_Laws (by decide) (by decide) (show decode M_Laws_become.2.1 9 = .ok (.getfield 11, 3) by decide +kernel) wd_274 rfl ?_
      refine V_iload_n 13 rfl (show decode M_Laws_become.2.1 12 = .ok (.iload_n 2, 1) by decide +kernel) 2 rfl ?_
      refine V_aload_n 14 rfl (show decode M_Laws_become.2.1 13 = .ok (.aload_n 1, 1) by decide +kernel) 1 rfl ?_
      refine V_get (j := 0) (v := vR (SR σ h1 0)) 17 rfl ck_Laws (by decide) (by decide) (show decode M_Laws_become.2.1 14 = .ok (.getfield 11, 3) by decide +kernel) wd_274 rfl ?_
      refine V_iload_n 18 rfl (show decode M_Laws_become.2.1 17 = .ok (.iload_n 2, 1) by decide +kernel) 2 rfl ?_
      refine V_ald_r25 19 rfl (show decode M_Laws_become.2.1 18 = .ok (.aaload, 1) by decide +kernel) ?_
      refine V_ast_r25 20 rfl (show decode M_Laws_become.2.1 19 = .ok (.aastore, 1) by decide +kernel) (fun σ_2 => ?_)
      refine V_iinc (fun x2_3 => [(2, vI x2_3), (0, vR h0), (1, vR h1)]) 23 rfl (show decode M_Laws_become.2.1 20 = .ok (.iinc 2 1, 3) by decide +kernel) 2 rfl (w := 1) rfl (by decide) (fun _ => rfl) (fun x2_3 => ?_)
      refine V_goto 2 (show decode M_Laws_become.2.1 23 = .ok (.goto (-21), 3) by decide +kernel) rfl ?_
      exact V_sub [1, 2, 0] rfl (hL2 x2_3 ((((b && cK σ h0 3) && cK σ h1 3) && cA σ (SR σ h1 0) 25 x2) && (cA σ (SR σ h0 0) 25 x2 && (decide ((SR σ (SR σ h1 0) (ix x2)) = 0) || cK σ (SR σ (SR σ h1 0) (ix x2)) 9))) σ_2)
    · skip
      refine V_aload_n 27 rfl (show decode M_Laws_become.2.1 26 = .ok (.aload_n 0, 1) by decide +kernel) 0 rfl ?_
      refine V_aload_n 28 rfl (show decode M_Laws_become.2.1 27 = .ok (.aload_n 1, 1) by decide +kernel) 1 rfl ?_
      refine V_get (j := 1) (v := vI (SI σ h1 1)) 31 rfl ck_Laws (by decide) (by decide) (show decode M_Laws_become.2.1 28 = .ok (.getfield 24, 3) by decide +kernel) wd_275 rfl ?_
      refine V_putI (j := 1) 34 rfl ck_Laws (by decide) (by decide) (show decode M_Laws_become.2.1 31 = .ok (.putfield 24, 3) by decide +kernel) wd_275 rfl (fun _ => rfl) rfl rfl (fun σ_4 => ?_)
      exact V_vret rfl (by decide) (by decide) (show decode M_Laws_become.2.1 34 = .ok (.return_, 1) by decide +kernel)
theorem cal_Laws_become (d mc ms k n : Nat) (h1 : 1 + 1 ≤ d) (h2 : k + 0 ≤ mc) (h3 : n + 0 ≤ ms) : Cal M_Laws_become 1 0 0 1 d mc ms k n := ⟨wd_1229, wd_173, by decide, h1, by decide, h2, h3⟩
abbrev M_Permits_become : MD := (⟨"LongTrail$Permits", "become", "(LLongTrail$Permits;)V"⟩, prog_5_method_2_code, 2, (none : Option FieldType))
def f_Permits_become (h0 : Nat) (h1 : Nat) (b : Bool) (σ : Sto) : Rs Unit := (lt_ (rI σ (SR σ h0 0) (va_cpy (SI σ (SR σ h1 0)) (SI σ (SR σ h0 0)) (ix (0 : Int32)) (ix (0 : Int32)) (ix (Int32.ofNat (Sln σ (SR σ h0 0)))))) (fun (σ_1 : Sto) => (lt_ (rI σ_1 (SR σ_1 h0 1) (va_cpy (SI σ_1 (SR σ_1 h1 1)) (SI σ_1 (SR σ_1 h0 1)) (ix (0 : Int32)) (ix (0 : Int32)) (ix (16 : Int32)))) (fun (σ_2 : Sto) => (lt_ (rI σ_2 (SR σ_2 h0 2) (va_cpy (SI σ_2 (SR σ_2 h1 2)) (SI σ_2 (SR σ_2 h0 2)) (ix (0 : Int32)) (ix (0 : Int32)) (ix (16 : Int32)))) (fun (σ_3 : Sto) => (lt_ (pI σ_3 h0 3 (SI σ_3 h1 3)) (fun (σ_4 : Sto) => ((), (((((((((((((b && cK σ h1 4) && cK σ h0 4) && cK σ h0 4) && cK σ (SR σ h0 0) 21) && cpc σ (SR σ h1 0) (SR σ h0 0) 21 (0 : Int32) (0 : Int32) (Int32.ofNat (Sln σ (SR σ h0 0)))) && cK σ_1 h1 4) && cK σ_1 h0 4) && cpc σ_1 (SR σ_1 h1 1) (SR σ_1 h0 1) 21 (0 : Int32) (0 : Int32) (16 : Int32)) && cK σ_2 h1 4) && cK σ_2 h0 4) && cpc σ_2 (SR σ_2 h1 2) (SR σ_2 h0 2) 21 (0 : Int32) (0 : Int32) (16 : Int32)) && cK σ_3 h1 4) && cK σ_3 h0 4), σ_4)))))))))
set_option maxRecDepth 100000 in
set_option maxHeartbeats 4000000 in
theorem s_Permits_become : ∀ (h0 : Nat) (h1 : Nat) (b : Bool) (σ : Sto), Snd M_Permits_become 1 0 0 [vR h0, vR h1] b σ (tU (f_Permits_become h0 h1 b σ).1) (f_Permits_become h0 h1 b σ).2.1 (f_Permits_become h0 h1 b σ).2.2 := by
  intro h0 h1 b σ
  refine Snd_of (tv := tU) (by decide) (Nat.le_of_ble_eq_true rfl) ?_
  show V M_Permits_become 1 0 0 0 0 tU (f_Permits_become h0 h1 b σ) 0 [(0, vR h0), (1, vR h1)] [] b σ
  unfold f_Permits_become
  refine V_aload_n 1 rfl (show decode M_Permits_become.2.1 0 = .ok (.aload_n 1, 1) by decide +kernel) 1 rfl ?_
  refine V_get (j := 0) (v := vR (SR σ h1 0)) 4 rfl ck_Permits (by decide) (by decide) (show decode M_Permits_become.2.1 1 = .ok (.getfield 9, 3) by decide +kernel) wd_328 rfl ?_
  refine V_iconst 5 rfl (show decode M_Permits_become.2.1 4 = .ok (.iconst 0, 1) by decide +kernel) (v := 0) rfl ?_
  refine V_aload_n 6 rfl (show decode M_Permits_become.2.1 5 = .ok (.aload_n 0, 1) by decide +kernel) 0 rfl ?_
  refine V_get (j := 0) (v := vR (SR σ h0 0)) 9 rfl ck_Permits (by decide) (by decide) (show decode M_Permits_become.2.1 6 = .ok (.getfield 9, 3) by decide +kernel) wd_328 rfl ?_
  refine V_iconst 10 rfl (show decode M_Permits_become.2.1 9 = .ok (.iconst 0, 1) by decide +kernel) (v := 0) rfl ?_
  refine V_aload_n 11 rfl (show decode M_Permits_become.2.1 10 = .ok (.aload_n 0, 1) by decide +kernel) 0 rfl ?_
  refine V_get (j := 0) (v := vR (SR σ h0 0)) 14 rfl ck_Permits (by decide) (by decide) (show decode M_Permits_become.2.1 11 = .ok (.getfield 9, 3) by decide +kernel) wd_328 rfl ?_
  refine V_alen_int 15 rfl (show decode M_Permits_become.2.1 14 = .ok (.arraylength, 1) by decide +kernel) ?_
  refine V_acpI 18 rfl (show decode M_Permits_become.2.1 15 = .ok (.invokestatic 30, 3) by decide +kernel) wd_1239 wd_954 wd_953 wd_190 (by decide) (Nat.le_of_ble_eq_true rfl) (fun σ_1 => ?_)
  refine V_aload_n 19 rfl (show decode M_Permits_become.2.1 18 = .ok (.aload_n 1, 1) by decide +kernel) 1 rfl ?_
  refine V_get (j := 1) (v := vR (SR σ_1 h1 1)) 22 rfl ck_Permits (by decide) (by decide) (show decode M_Permits_become.2.1 19 = .ok (.getfield 15, 3) by decide +kernel) wd_330 rfl ?_
  refine V_iconst 23 rfl (show decode M_Permits_become.2.1 22 = .ok (.iconst 0, 1) by decide +kernel) (v := 0) rfl ?_
  refine V_aload_n 24 rfl (show decode M_Permits_become.2.1 23 = .ok (.aload_n 0, 1) by decide +kernel) 0 rfl ?_
  refine V_get (j := 1) (v := vR (SR σ_1 h0 1)) 27 rfl ck_Permits (by decide) (by decide) (show decode M_Permits_become.2.1 24 = .ok (.getfield 15, 3) by decide +kernel) wd_330 rfl ?_
  refine V_iconst 28 rfl (show decode M_Permits_become.2.1 27 = .ok (.iconst 0, 1) by decide +kernel) (v := 0) rfl ?_
  refine V_bipush 30 rfl (show decode M_Permits_become.2.1 28 = .ok (.bipush 16, 2) by decide +kernel) (v := 16) rfl ?_
  refine V_acpI 33 rfl (show decode M_Permits_become.2.1 30 = .ok (.invokestatic 30, 3) by decide +kernel) wd_1239 wd_954 wd_953 wd_190 (by decide) (Nat.le_of_ble_eq_true rfl) (fun σ_2 => ?_)
  refine V_aload_n 34 rfl (show decode M_Permits_become.2.1 33 = .ok (.aload_n 1, 1) by decide +kernel) 1 rfl ?_
  refine V_get (j := 2) (v := vR (SR σ_2 h1 2)) 37 rfl ck_Permits (by decide) (by decide) (show decode M_Permits_become.2.1 34 = .ok (.getfield 18, 3) by decide +kernel) wd_331 rfl ?_
  refine V_iconst 38 rfl (show decode M_Permits_become.2.1 37 = .ok (.iconst 0, 1) by decide +kernel) (v := 0) rfl ?_
  refine V_aload_n 39 rfl (show decode M_Permits_become.2.1 38 = .ok (.aload_n 0, 1) by decide +kernel) 0 rfl ?_
  refine V_get (j := 2) (v := vR (SR σ_2 h0 2)) 42 rfl ck_Permits (by decide) (by decide) (show decode M_Permits_become.2.1 39 = .ok (.getfield 18, 3) by decide +kernel) wd_331 rfl ?_
  refine V_iconst 43 rfl (show decode M_Permits_become.2.1 42 = .ok (.iconst 0, 1) by decide +kernel) (v := 0) rfl ?_
  refine V_bipush 45 rfl (show decode M_Permits_become.2.1 43 = .ok (.bipush 16, 2) by decide +kernel) (v := 16) rfl ?_
  refine V_acpI 48 rfl (show decode M_Permits_become.2.1 45 = .ok (.invokestatic 30, 3) by decide +kernel) wd_1239 wd_954 wd_953 wd_190 (by decide) (Nat.le_of_ble_eq_true rfl) (fun σ_3 => ?_)
  refine V_aload_n 49 rfl (show decode M_Permits_become.2.1 48 = .ok (.aload_n 0, 1) by decide +kernel) 0 rfl ?_
  refine V_aload_n 50 rfl (show decode M_Permits_become.2.1 49 = .ok (.aload_n 1, 1) by decide +kernel) 1 rfl ?_
  refine V_get (j := 3) (v := vI (SI σ_3 h1 3)) 53 rfl ck_Permits (by decide) (by decide) (show decode M_Permits_become.2.1 50 = .ok (.getfield 36, 3) by decide +kernel) wd_332 rfl ?_
  refine V_putI (j := 3) 56 rfl ck_Permits (by decide) (by decide) (show decode M_Permits_become.2.1 53 = .ok (.putfield 36, 3) by decide +kernel) wd_332 rfl (fun _ => rfl) rfl rfl (fun σ_4 => ?_)
  exact V_vret rfl (by decide) (by decide) (show decode M_Permits_become.2.1 56 = .ok (.return_, 1) by decide +kernel)
theorem cal_Permits_become (d mc ms k n : Nat) (h1 : 1 + 1 ≤ d) (h2 : k + 0 ≤ mc) (h3 : n + 0 ≤ ms) : Cal M_Permits_become 1 0 0 1 d mc ms k n := ⟨wd_1238, wd_175, by decide, h1, by decide, h2, h3⟩
abbrev M_Post_become : MD := (⟨"LongTrail$Post", "become", "(LLongTrail$Post;)V"⟩, prog_6_method_2_code, 2, (none : Option FieldType))
def f_Post_become (h0 : Nat) (h1 : Nat) (b : Bool) (σ : Sto) : Rs Unit := (lt_ (rI σ (SR σ h0 0) (va_cpy (SI σ (SR σ h1 0)) (SI σ (SR σ h0 0)) (ix (0 : Int32)) (ix (0 : Int32)) (ix (20 : Int32)))) (fun (σ_1 : Sto) => (lt_ (rI σ_1 (SR σ_1 h0 1) (va_cpy (SI σ_1 (SR σ_1 h1 1)) (SI σ_1 (SR σ_1 h0 1)) (ix (0 : Int32)) (ix (0 : Int32)) (ix (20 : Int32)))) (fun (σ_2 : Sto) => (lt_ (rI σ_2 (SR σ_2 h0 2) (va_cpy (SI σ_2 (SR σ_2 h1 2)) (SI σ_2 (SR σ_2 h0 2)) (ix (0 : Int32)) (ix (0 : Int32)) (ix (20 : Int32)))) (fun (σ_3 : Sto) => (lt_ (rI σ_3 (SR σ_3 h0 3) (va_cpy (SI σ_3 (SR σ_3 h1 3)) (SI σ_3 (SR σ_3 h0 3)) (ix (0 : Int32)) (ix (0 : Int32)) (ix (20 : Int32)))) (fun (σ_4 : Sto) => (lt_ (rI σ_4 (SR σ_4 h0 4) (va_cpy (SI σ_4 (SR σ_4 h1 4)) (SI σ_4 (SR σ_4 h0 4)) (ix (0 : Int32)) (ix (0 : Int32)) (ix (20 : Int32)))) (fun (σ_5 : Sto) => (lt_ (pI σ_5 h0 5 (SI σ_5 h1 5)) (fun (σ_6 : Sto) => ((), (((((((((((((((((b && cK σ h1 5) && cK σ h0 5) && cpc σ (SR σ h1 0) (SR σ h0 0) 21 (0 : Int32) (0 : Int32) (20 : Int32)) && cK σ_1 h1 5) && cK σ_1 h0 5) && cpc σ_1 (SR σ_1 h1 1) (SR σ_1 h0 1) 21 (0 : Int32) (0 : Int32) (20 : Int32)) && cK σ_2 h1 5) && cK σ_2 h0 5) && cpc σ_2 (SR σ_2 h1 2) (SR σ_2 h0 2) 21 (0 : Int32) (0 : Int32) (20 : Int32)) && cK σ_3 h1 5) && cK σ_3 h0 5) && cpc σ_3 (SR σ_3 h1 3) (SR σ_3 h0 3) 21 (0 : Int32) (0 : Int32) (20 : Int32)) && cK σ_4 h1 5) && cK σ_4 h0 5) && cpc σ_4 (SR σ_4 h1 4) (SR σ_4 h0 4) 21 (0 : Int32) (0 : Int32) (20 : Int32)) && cK σ_5 h1 5) && cK σ_5 h0 5), σ_6)))))))))))))
set_option maxRecDepth 100000 in
set_option maxHeartbeats 4000000 in
theorem s_Post_become : ∀ (h0 : Nat) (h1 : Nat) (b : Bool) (σ : Sto), Snd M_Post_become 1 0 0 [vR h0, vR h1] b σ (tU (f_Post_become h0 h1 b σ).1) (f_Post_become h0 h1 b σ).2.1 (f_Post_become h0 h1 b σ).2.2 := by
  intro h0 h1 b σ
  refine Snd_of (tv := tU) (by decide) (Nat.le_of_ble_eq_true rfl) ?_
  show V M_Post_become 1 0 0 0 0 tU (f_Post_become h0 h1 b σ) 0 [(0, vR h0), (1, vR h1)] [] b σ
  unfold f_Post_become
  refine V_aload_n 1 rfl (show decode M_Post_become.2.1 0 = .ok (.aload_n 1, 1) by decide +kernel) 1 rfl ?_
  refine V_get (j := 0) (v := vR (SR σ h1 0)) 4 rfl ck_Post (by decide) (by decide) (show decode M_Post_become.2.1 1 = .ok (.getfield 9, 3) by decide +kernel) wd_297 rfl ?_
  refine V_iconst 5 rfl (show decode M_Post_become.2.1 4 = .ok (.iconst 0, 1) by decide +kernel) (v := 0) rfl ?_
  refine V_aload_n 6 rfl (show decode M_Post_become.2.1 5 = .ok (.aload_n 0, 1) by decide +kernel) 0 rfl ?_
  refine V_get (j := 0) (v := vR (SR σ h0 0)) 9 rfl ck_Post (by decide) (by decide) (show decode M_Post_become.2.1 6 = .ok (.getfield 9, 3) by decide +kernel) wd_297 rfl ?_
  refine V_iconst 10 rfl (show decode M_Post_become.2.1 9 = .ok (.iconst 0, 1) by decide +kernel) (v := 0) rfl ?_
  refine V_bipush 12 rfl (show decode M_Post_become.2.1 10 = .ok (.bipush 20, 2) by decide +kernel) (v := 20) rfl ?_
  refine V_acpI 15 rfl (show decode M_Post_become.2.1 12 = .ok (.invokestatic 25, 3) by decide +kernel) wd_1234 wd_954 wd_953 wd_190 (by decide) (Nat.le_of_ble_eq_true rfl) (fun σ_1 => ?_)
  refine V_aload_n 16 rfl (show decode M_Post_become.2.1 15 = .ok (.aload_n 1, 1) by decide +kernel) 1 rfl ?_
  refine V_get (j := 1) (v := vR (SR σ_1 h1 1)) 19 rfl ck_Post (by decide) (by decide) (show decode M_Post_become.2.1 16 = .ok (.getfield 13, 3) by decide +kernel) wd_299 rfl ?_
  refine V_iconst 20 rfl (show decode M_Post_become.2.1 19 = .ok (.iconst 0, 1) by decide +kernel) (v := 0) rfl ?_
  refine V_aload_n 21 rfl (show decode M_Post_become.2.1 20 = .ok (.aload_n 0, 1) by decide +kernel) 0 rfl ?_
  refine V_get (j := 1) (v := vR (SR σ_1 h0 1)) 24 rfl ck_Post (by decide) (by decide) (show decode M_Post_become.2.1 21 = .ok (.getfield 13, 3) by decide +kernel) wd_299 rfl ?_
  refine V_iconst 25 rfl (show decode M_Post_become.2.1 24 = .ok (.iconst 0, 1) by decide +kernel) (v := 0) rfl ?_
  refine V_bipush 27 rfl (show decode M_Post_become.2.1 25 = .ok (.bipush 20, 2) by decide +kernel) (v := 20) rfl ?_
  refine V_acpI 30 rfl (show decode M_Post_become.2.1 27 = .ok (.invokestatic 25, 3) by decide +kernel) wd_1234 wd_954 wd_953 wd_190 (by decide) (Nat.le_of_ble_eq_true rfl) (fun σ_2 => ?_)
  refine V_aload_n 31 rfl (show decode M_Post_become.2.1 30 = .ok (.aload_n 1, 1) by decide +kernel) 1 rfl ?_
  refine V_get (j := 2) (v := vR (SR σ_2 h1 2)) 34 rfl ck_Post (by decide) (by decide) (show decode M_Post_become.2.1 31 = .ok (.getfield 16, 3) by decide +kernel) wd_301 rfl ?_
  refine V_iconst 35 rfl (show decode M_Post_become.2.1 34 = .ok (.iconst 0, 1) by decide +kernel) (v := 0) rfl ?_
  refine V_aload_n 36 rfl (show decode M_Post_become.2.1 35 = .ok (.aload_n 0, 1) by decide +kernel) 0 rfl ?_
  refine V_get (j := 2) (v := vR (SR σ_2 h0 2)) 39 rfl ck_Post (by decide) (by decide) (show decode M_Post_become.2.1 36 = .ok (.getfield 16, 3) by decide +kernel) wd_301 rfl ?_
  refine V_iconst 40 rfl (show decode M_Post_become.2.1 39 = .ok (.iconst 0, 1) by decide +kernel) (v := 0) rfl ?_
  refine V_bipush 42 rfl (show decode M_Post_become.2.1 40 = .ok (.bipush 20, 2) by decide +kernel) (v := 20) rfl ?_
  refine V_acpI 45 rfl (show decode M_Post_become.2.1 42 = .ok (.invokestatic 25, 3) by decide +kernel) wd_1234 wd_954 wd_953 wd_190 (by decide) (Nat.le_of_ble_eq_true rfl) (fun σ_3 => ?_)
  refine V_aload_n 46 rfl (show decode M_Post_become.2.1 45 = .ok (.aload_n 1, 1) by decide +kernel) 1 rfl ?_
  refine V_get (j := 3) (v := vR (SR σ_3 h1 3)) 49 rfl ck_Post (by decide) (by decide) (show decode M_Post_become.2.1 46 = .ok (.getfield 19, 3) by decide +kernel) wd_303 rfl ?_
  refine V_iconst 50 rfl (show decode M_Post_become.2.1 49 = .ok (.iconst 0, 1) by decide +kernel) (v := 0) rfl ?_
  refine V_aload_n 51 rfl (show decode M_Post_become.2.1 50 = .ok (.aload_n 0, 1) by decide +kernel) 0 rfl ?_
  refine V_get (j := 3) (v := vR (SR σ_3 h0 3)) 54 rfl ck_Post (by decide) (by decide) (show decode M_Post_become.2.1 51 = .ok (.getfield 19, 3) by decide +kernel) wd_303 rfl ?_
  refine V_iconst 55 rfl (show decode M_Post_become.2.1 54 = .ok (.iconst 0, 1) by decide +kernel) (v := 0) rfl ?_
  refine V_bipush 57 rfl (show decode M_Post_become.2.1 55 = .ok (.bipush 20, 2) by decide +kernel) (v := 20) rfl ?_
  refine V_acpI 60 rfl (show decode M_Post_become.2.1 57 = .ok (.invokestatic 25, 3) by decide +kernel) wd_1234 wd_954 wd_953 wd_190 (by decide) (Nat.le_of_ble_eq_true rfl) (fun σ_4 => ?_)
  refine V_aload_n 61 rfl (show decode M_Post_become.2.1 60 = .ok (.aload_n 1, 1) by decide +kernel) 1 rfl ?_
  refine V_get (j := 4) (v := vR (SR σ_4 h1 4)) 64 rfl ck_Post (by decide) (by decide) (show decode M_Post_become.2.1 61 = .ok (.getfield 22, 3) by decide +kernel) wd_305 rfl ?_
  refine V_iconst 65 rfl (show decode M_Post_become.2.1 64 = .ok (.iconst 0, 1) by decide +kernel) (v := 0) rfl ?_
  refine V_aload_n 66 rfl (show decode M_Post_become.2.1 65 = .ok (.aload_n 0, 1) by decide +kernel) 0 rfl ?_
  refine V_get (j := 4) (v := vR (SR σ_4 h0 4)) 69 rfl ck_Post (by decide) (by decide) (show decode M_Post_become.2.1 66 = .ok (.getfield 22, 3) by decide +kernel) wd_305 rfl ?_
  refine V_iconst 70 rfl (show decode M_Post_become.2.1 69 = .ok (.iconst 0, 1) by decide +kernel) (v := 0) rfl ?_
  refine V_bipush 72 rfl (show decode M_Post_become.2.1 70 = .ok (.bipush 20, 2) by decide +kernel) (v := 20) rfl ?_
  refine V_acpI 75 rfl (show decode M_Post_become.2.1 72 = .ok (.invokestatic 25, 3) by decide +kernel) wd_1234 wd_954 wd_953 wd_190 (by decide) (Nat.le_of_ble_eq_true rfl) (fun σ_5 => ?_)
  refine V_aload_n 76 rfl (show decode M_Post_become.2.1 75 = .ok (.aload_n 0, 1) by decide +kernel) 0 rfl ?_
  refine V_aload_n 77 rfl (show decode M_Post_become.2.1 76 = .ok (.aload_n 1, 1) by decide +kernel) 1 rfl ?_
  refine V_get (j := 5) (v := vI (SI σ_5 h1 5)) 80 rfl ck_Post (by decide) (by decide) (show decode M_Post_become.2.1 77 = .ok (.getfield 31, 3) by decide +kernel) wd_307 rfl ?_
  refine V_putI (j := 5) 83 rfl ck_Post (by decide) (by decide) (show decode M_Post_become.2.1 80 = .ok (.putfield 31, 3) by decide +kernel) wd_307 rfl (fun _ => rfl) rfl rfl (fun σ_6 => ?_)
  exact V_vret rfl (by decide) (by decide) (show decode M_Post_become.2.1 83 = .ok (.return_, 1) by decide +kernel)
theorem cal_Post_become (d mc ms k n : Nat) (h1 : 1 + 1 ≤ d) (h2 : k + 0 ≤ mc) (h3 : n + 0 ≤ ms) : Cal M_Post_become 1 0 0 1 d mc ms k n := ⟨wd_1233, wd_174, by decide, h1, by decide, h2, h3⟩
abbrev M_Supply_become : MD := (⟨"LongTrail$Supply", "become", "(LLongTrail$Supply;)V"⟩, prog_8_method_2_code, 2, (none : Option FieldType))
def f_Supply_become (h0 : Nat) (h1 : Nat) (b : Bool) (σ : Sto) : Rs Unit := (lt_ (pI σ h0 0 (SI σ h1 0)) (fun (σ_1 : Sto) => (lt_ (rI σ_1 (SR σ_1 h0 1) (va_cpy (SI σ_1 (SR σ_1 h1 1)) (SI σ_1 (SR σ_1 h0 1)) (ix (0 : Int32)) (ix (0 : Int32)) (ix (12 : Int32)))) (fun (σ_2 : Sto) => (lt_ (rI σ_2 (SR σ_2 h0 2) (va_cpy (SI σ_2 (SR σ_2 h1 2)) (SI σ_2 (SR σ_2 h0 2)) (ix (0 : Int32)) (ix (0 : Int32)) (ix (12 : Int32)))) (fun (σ_3 : Sto) => (lt_ (rI σ_3 (SR σ_3 h0 3) (va_cpy (SI σ_3 (SR σ_3 h1 3)) (SI σ_3 (SR σ_3 h0 3)) (ix (0 : Int32)) (ix (0 : Int32)) (ix (12 : Int32)))) (fun (σ_4 : Sto) => (lt_ (pI σ_4 h0 4 (SI σ_4 h1 4)) (fun (σ_5 : Sto) => ((), (((((((((((((b && cK σ h1 7) && cK σ h0 7) && cK σ_1 h1 7) && cK σ_1 h0 7) && cpc σ_1 (SR σ_1 h1 1) (SR σ_1 h0 1) 21 (0 : Int32) (0 : Int32) (12 : Int32)) && cK σ_2 h1 7) && cK σ_2 h0 7) && cpc σ_2 (SR σ_2 h1 2) (SR σ_2 h0 2) 21 (0 : Int32) (0 : Int32) (12 : Int32)) && cK σ_3 h1 7) && cK σ_3 h0 7) && cpc σ_3 (SR σ_3 h1 3) (SR σ_3 h0 3) 21 (0 : Int32) (0 : Int32) (12 : Int32)) && cK σ_4 h1 7) && cK σ_4 h0 7), σ_5)))))))))))
set_option maxRecDepth 100000 in
set_option maxHeartbeats 4000000 in
theorem s_Supply_become : ∀ (h0 : Nat) (h1 : Nat) (b : Bool) (σ : Sto), Snd M_Supply_become 1 0 0 [vR h0, vR h1] b σ (tU (f_Supply_become h0 h1 b σ).1) (f_Supply_become h0 h1 b σ).2.1 (f_Supply_become h0 h1 b σ).2.2 := by
  intro h0 h1 b σ
  refine Snd_of (tv := tU) (by decide) (Nat.le_of_ble_eq_true rfl) ?_
  show V M_Supply_become 1 0 0 0 0 tU (f_Supply_become h0 h1 b σ) 0 [(0, vR h0), (1, vR h1)] [] b σ
  unfold f_Supply_become
  refine V_aload_n 1 rfl (show decode M_Supply_become.2.1 0 = .ok (.aload_n 0, 1) by decide +kernel) 0 rfl ?_
  refine V_aload_n 2 rfl (show decode M_Supply_become.2.1 1 = .ok (.aload_n 1, 1) by decide +kernel) 1 rfl ?_
  refine V_get (j := 0) (v := vI (SI σ h1 0)) 5 rfl ck_Supply (by decide) (by decide) (show decode M_Supply_become.2.1 2 = .ok (.getfield 9, 3) by decide +kernel) wd_359 rfl ?_
  refine V_putI (j := 0) 8 rfl ck_Supply (by decide) (by decide) (show decode M_Supply_become.2.1 5 = .ok (.putfield 9, 3) by decide +kernel) wd_359 rfl (fun _ => rfl) rfl rfl (fun σ_1 => ?_)
  refine V_aload_n 9 rfl (show decode M_Supply_become.2.1 8 = .ok (.aload_n 1, 1) by decide +kernel) 1 rfl ?_
  refine V_get (j := 1) (v := vR (SR σ_1 h1 1)) 12 rfl ck_Supply (by decide) (by decide) (show decode M_Supply_become.2.1 9 = .ok (.getfield 15, 3) by decide +kernel) wd_361 rfl ?_
  refine V_iconst 13 rfl (show decode M_Supply_become.2.1 12 = .ok (.iconst 0, 1) by decide +kernel) (v := 0) rfl ?_
  refine V_aload_n 14 rfl (show decode M_Supply_become.2.1 13 = .ok (.aload_n 0, 1) by decide +kernel) 0 rfl ?_
  refine V_get (j := 1) (v := vR (SR σ_1 h0 1)) 17 rfl ck_Supply (by decide) (by decide) (show decode M_Supply_become.2.1 14 = .ok (.getfield 15, 3) by decide +kernel) wd_361 rfl ?_
  refine V_iconst 18 rfl (show decode M_Supply_become.2.1 17 = .ok (.iconst 0, 1) by decide +kernel) (v := 0) rfl ?_
  refine V_bipush 20 rfl (show decode M_Supply_become.2.1 18 = .ok (.bipush 12, 2) by decide +kernel) (v := 12) rfl ?_
  refine V_acpI 23 rfl (show decode M_Supply_become.2.1 20 = .ok (.invokestatic 37, 3) by decide +kernel) wd_1244 wd_954 wd_953 wd_190 (by decide) (Nat.le_of_ble_eq_true rfl) (fun σ_2 => ?_)
  refine V_aload_n 24 rfl (show decode M_Supply_become.2.1 23 = .ok (.aload_n 1, 1) by decide +kernel) 1 rfl ?_
  refine V_get (j := 2) (v := vR (SR σ_2 h1 2)) 27 rfl ck_Supply (by decide) (by decide) (show decode M_Supply_become.2.1 24 = .ok (.getfield 19, 3) by decide +kernel) wd_362 rfl ?_
  refine V_iconst 28 rfl (show decode M_Supply_become.2.1 27 = .ok (.iconst 0, 1) by decide +kernel) (v := 0) rfl ?_
  refine V_aload_n 29 rfl (show decode M_Supply_become.2.1 28 = .ok (.aload_n 0, 1) by decide +kernel) 0 rfl ?_
  refine V_get (j := 2) (v := vR (SR σ_2 h0 2)) 32 rfl ck_Supply (by decide) (by decide) (show decode M_Supply_become.2.1 29 = .ok (.getfield 19, 3) by decide +kernel) wd_362 rfl ?_
  refine V_iconst 33 rfl (show decode M_Supply_become.2.1 32 = .ok (.iconst 0, 1) by decide +kernel) (v := 0) rfl ?_
  refine V_bipush 35 rfl (show decode M_Supply_become.2.1 33 = .ok (.bipush 12, 2) by decide +kernel) (v := 12) rfl ?_
  refine V_acpI 38 rfl (show decode M_Supply_become.2.1 35 = .ok (.invokestatic 37, 3) by decide +kernel) wd_1244 wd_954 wd_953 wd_190 (by decide) (Nat.le_of_ble_eq_true rfl) (fun σ_3 => ?_)
  refine V_aload_n 39 rfl (show decode M_Supply_become.2.1 38 = .ok (.aload_n 1, 1) by decide +kernel) 1 rfl ?_
  refine V_get (j := 3) (v := vR (SR σ_3 h1 3)) 42 rfl ck_Supply (by decide) (by decide) (show decode M_Supply_become.2.1 39 = .ok (.getfield 22, 3) by decide +kernel) wd_363 rfl ?_
  refine V_iconst 43 rfl (show decode M_Supply_become.2.1 42 = .ok (.iconst 0, 1) by decide +kernel) (v := 0) rfl ?_
  refine V_aload_n 44 rfl (show decode M_Supply_become.2.1 43 = .ok (.aload_n 0, 1) by decide +kernel) 0 rfl ?_
  refine V_get (j := 3) (v := vR (SR σ_3 h0 3)) 47 rfl ck_Supply (by decide) (by decide) (show decode M_Supply_become.2.1 44 = .ok (.getfield 22, 3) by decide +kernel) wd_363 rfl ?_
  refine V_iconst 48 rfl (show decode M_Supply_become.2.1 47 = .ok (.iconst 0, 1) by decide +kernel) (v := 0) rfl ?_
  refine V_bipush 50 rfl (show decode M_Supply_become.2.1 48 = .ok (.bipush 12, 2) by decide +kernel) (v := 12) rfl ?_
  refine V_acpI 53 rfl (show decode M_Supply_become.2.1 50 = .ok (.invokestatic 37, 3) by decide +kernel) wd_1244 wd_954 wd_953 wd_190 (by decide) (Nat.le_of_ble_eq_true rfl) (fun σ_4 => ?_)
  refine V_aload_n 54 rfl (show decode M_Supply_become.2.1 53 = .ok (.aload_n 0, 1) by decide +kernel) 0 rfl ?_
  refine V_aload_n 55 rfl (show decode M_Supply_become.2.1 54 = .ok (.aload_n 1, 1) by decide +kernel) 1 rfl ?_
  refine V_get (j := 4) (v := vI (SI σ_4 h1 4)) 58 rfl ck_Supply (by decide) (by decide) (show decode M_Supply_become.2.1 55 = .ok (.getfield 43, 3) by decide +kernel) wd_364 rfl ?_
  refine V_putI (j := 4) 61 rfl ck_Supply (by decide) (by decide) (show decode M_Supply_become.2.1 58 = .ok (.putfield 43, 3) by decide +kernel) wd_364 rfl (fun _ => rfl) rfl rfl (fun σ_5 => ?_)
  exact V_vret rfl (by decide) (by decide) (show decode M_Supply_become.2.1 61 = .ok (.return_, 1) by decide +kernel)
theorem cal_Supply_become (d mc ms k n : Nat) (h1 : 1 + 1 ≤ d) (h2 : k + 0 ≤ mc) (h3 : n + 0 ≤ ms) : Cal M_Supply_become 1 0 0 1 d mc ms k n := ⟨wd_1243, wd_176, by decide, h1, by decide, h2, h3⟩
abbrev M_Walker_become : MD := (⟨"LongTrail$Walker", "become", "(LLongTrail$Walker;)V"⟩, prog_11_method_3_code, 2, (none : Option FieldType))
def f_Walker_become (h0 : Nat) (h1 : Nat) (b : Bool) (σ : Sto) : Rs Unit := (lt_ (pI σ h0 0 (SI σ h1 0)) (fun (σ_1 : Sto) => (lt_ (pI σ_1 h0 1 (SI σ_1 h1 1)) (fun (σ_2 : Sto) => (lt_ (pI σ_2 h0 2 (SI σ_2 h1 2)) (fun (σ_3 : Sto) => (lt_ (pI σ_3 h0 3 (SI σ_3 h1 3)) (fun (σ_4 : Sto) => (lt_ (pI σ_4 h0 4 (SI σ_4 h1 4)) (fun (σ_5 : Sto) => (lt_ (pI σ_5 h0 5 (SI σ_5 h1 5)) (fun (σ_6 : Sto) => (lt_ (pI σ_6 h0 6 (SI σ_6 h1 6)) (fun (σ_7 : Sto) => (lt_ (pI σ_7 h0 7 (SI σ_7 h1 7)) (fun (σ_8 : Sto) => (lt_ (pI σ_8 h0 8 (SI σ_8 h1 8)) (fun (σ_9 : Sto) => (lt_ (pI σ_9 h0 9 (SI σ_9 h1 9)) (fun (σ_10 : Sto) => (lt_ (pI σ_10 h0 10 (SI σ_10 h1 10)) (fun (σ_11 : Sto) => (lt_ (pI σ_11 h0 11 (SI σ_11 h1 11)) (fun (σ_12 : Sto) => (lt_ (pI σ_12 h0 12 (SI σ_12 h1 12)) (fun (σ_13 : Sto) => (lt_ (pI σ_13 h0 13 (SI σ_13 h1 13)) (fun (σ_14 : Sto) => (lt_ (pI σ_14 h0 14 (SI σ_14 h1 14)) (fun (σ_15 : Sto) => (lt_ (pI σ_15 h0 15 (SI σ_15 h1 15)) (fun (σ_16 : Sto) => (lt_ (pI σ_16 h0 16 (SI σ_16 h1 16)) (fun (σ_17 : Sto) => (lt_ (pI σ_17 h0 17 (SI σ_17 h1 17)) (fun (σ_18 : Sto) => ((), ((((((((((((((((((((((((((((((((((((b && cK σ h1 10) && cK σ h0 10) && cK σ_1 h1 10) && cK σ_1 h0 10) && cK σ_2 h1 10) && cK σ_2 h0 10) && cK σ_3 h1 10) && cK σ_3 h0 10) && cK σ_4 h1 10) && cK σ_4 h0 10) && cK σ_5 h1 10) && cK σ_5 h0 10) && cK σ_6 h1 10) && cK σ_6 h0 10) && cK σ_7 h1 10) && cK σ_7 h0 10) && cK σ_8 h1 10) && cK σ_8 h0 10) && cK σ_9 h1 10) && cK σ_9 h0 10) && cK σ_10 h1 10) && cK σ_10 h0 10) && cK σ_11 h1 10) && cK σ_11 h0 10) && cK σ_12 h1 10) && cK σ_12 h0 10) && cK σ_13 h1 10) && cK σ_13 h0 10) && cK σ_14 h1 10) && cK σ_14 h0 10) && cK σ_15 h1 10) && cK σ_15 h0 10) && cK σ_16 h1 10) && cK σ_16 h0 10) && cK σ_17 h1 10) && cK σ_17 h0 10), σ_18)))))))))))))))))))))))))))))))))))))
set_option maxRecDepth 100000 in
set_option maxHeartbeats 4000000 in
theorem s_Walker_become : ∀ (h0 : Nat) (h1 : Nat) (b : Bool) (σ : Sto), Snd M_Walker_become 1 0 0 [vR h0, vR h1] b σ (tU (f_Walker_become h0 h1 b σ).1) (f_Walker_become h0 h1 b σ).2.1 (f_Walker_become h0 h1 b σ).2.2 := by
  intro h0 h1 b σ
  refine Snd_of (tv := tU) (by decide) (Nat.le_of_ble_eq_true rfl) ?_
  show V M_Walker_become 1 0 0 0 0 tU (f_Walker_become h0 h1 b σ) 0 [(0, vR h0), (1, vR h1)] [] b σ
  unfold f_Walker_become
  refine V_aload_n 1 rfl (show decode M_Walker_become.2.1 0 = .ok (.aload_n 0, 1) by decide +kernel) 0 rfl ?_
  refine V_aload_n 2 rfl (show decode M_Walker_become.2.1 1 = .ok (.aload_n 1, 1) by decide +kernel) 1 rfl ?_
  refine V_get (j := 0) (v := vI (SI σ h1 0)) 5 rfl ck_Walker (by decide) (by decide) (show decode M_Walker_become.2.1 2 = .ok (.getfield 7, 3) by decide +kernel) wd_424 rfl ?_
  refine V_putI (j := 0) 8 rfl ck_Walker (by decide) (by decide) (show decode M_Walker_become.2.1 5 = .ok (.putfield 7, 3) by decide +kernel) wd_424 rfl (fun _ => rfl) rfl rfl (fun σ_1 => ?_)
  refine V_aload_n 9 rfl (show decode M_Walker_become.2.1 8 = .ok (.aload_n 0, 1) by decide +kernel) 0 rfl ?_
  refine V_aload_n 10 rfl (show decode M_Walker_become.2.1 9 = .ok (.aload_n 1, 1) by decide +kernel) 1 rfl ?_
  refine V_get (j := 1) (v := vI (SI σ_1 h1 1)) 13 rfl ck_Walker (by decide) (by decide) (show decode M_Walker_become.2.1 10 = .ok (.getfield 13, 3) by decide +kernel) wd_425 rfl ?_
  refine V_putI (j := 1) 16 rfl ck_Walker (by decide) (by decide) (show decode M_Walker_become.2.1 13 = .ok (.putfield 13, 3) by decide +kernel) wd_425 rfl (fun _ => rfl) rfl rfl (fun σ_2 => ?_)
  refine V_aload_n 17 rfl (show decode M_Walker_become.2.1 16 = .ok (.aload_n 0, 1) by decide +kernel) 0 rfl ?_
  refine V_aload_n 18 rfl (show decode M_Walker_become.2.1 17 = .ok (.aload_n 1, 1) by decide +kernel) 1 rfl ?_
  refine V_get (j := 2) (v := vI (SI σ_2 h1 2)) 21 rfl ck_Walker (by decide) (by decide) (show decode M_Walker_become.2.1 18 = .ok (.getfield 16, 3) by decide +kernel) wd_427 rfl ?_
  refine V_putI (j := 2) 24 rfl ck_Walker (by decide) (by decide) (show decode M_Walker_become.2.1 21 = .ok (.putfield 16, 3) by decide +kernel) wd_427 rfl (fun _ => rfl) rfl rfl (fun σ_3 => ?_)
  refine V_aload_n 25 rfl (show decode M_Walker_become.2.1 24 = .ok (.aload_n 0, 1) by decide +kernel) 0 rfl ?_
  refine V_aload_n 26 rfl (show decode M_Walker_become.2.1 25 = .ok (.aload_n 1, 1) by decide +kernel) 1 rfl ?_
  refine V_get (j := 3) (v := vI (SI σ_3 h1 3)) 29 rfl ck_Walker (by decide) (by decide) (show decode M_Walker_become.2.1 26 = .ok (.getfield 19, 3) by decide +kernel) wd_428 rfl ?_
  refine V_putI (j := 3) 32 rfl ck_Walker (by decide) (by decide) (show decode M_Walker_become.2.1 29 = .ok (.putfield 19, 3) by decide +kernel) wd_428 rfl (fun _ => rfl) rfl rfl (fun σ_4 => ?_)
  refine V_aload_n 33 rfl (show decode M_Walker_become.2.1 32 = .ok (.aload_n 0, 1) by decide +kernel) 0 rfl ?_
  refine V_aload_n 34 rfl (show decode M_Walker_become.2.1 33 = .ok (.aload_n 1, 1) by decide +kernel) 1 rfl ?_
  refine V_get (j := 4) (v := vI (SI σ_4 h1 4)) 37 rfl ck_Walker (by decide) (by decide) (show decode M_Walker_become.2.1 34 = .ok (.getfield 22, 3) by decide +kernel) wd_429 rfl ?_
  refine V_putI (j := 4) 40 rfl ck_Walker (by decide) (by decide) (show decode M_Walker_become.2.1 37 = .ok (.putfield 22, 3) by decide +kernel) wd_429 rfl (fun _ => rfl) rfl rfl (fun σ_5 => ?_)
  refine V_aload_n 41 rfl (show decode M_Walker_become.2.1 40 = .ok (.aload_n 0, 1) by decide +kernel) 0 rfl ?_
  refine V_aload_n 42 rfl (show decode M_Walker_become.2.1 41 = .ok (.aload_n 1, 1) by decide +kernel) 1 rfl ?_
  refine V_get (j := 5) (v := vI (SI σ_5 h1 5)) 45 rfl ck_Walker (by decide) (by decide) (show decode M_Walker_become.2.1 42 = .ok (.getfield 25, 3) by decide +kernel) wd_430 rfl ?_
  refine V_putI (j := 5) 48 rfl ck_Walker (by decide) (by decide) (show decode M_Walker_become.2.1 45 = .ok (.putfield 25, 3) by decide +kernel) wd_430 rfl (fun _ => rfl) rfl rfl (fun σ_6 => ?_)
  refine V_aload_n 49 rfl (show decode M_Walker_become.2.1 48 = .ok (.aload_n 0, 1) by decide +kernel) 0 rfl ?_
  refine V_aload_n 50 rfl (show decode M_Walker_become.2.1 49 = .ok (.aload_n 1, 1) by decide +kernel) 1 rfl ?_
  refine V_get (j := 6) (v := vI (SI σ_6 h1 6)) 53 rfl ck_Walker (by decide) (by decide) (show decode M_Walker_become.2.1 50 = .ok (.getfield 28, 3) by decide +kernel) wd_433 rfl ?_
  refine V_putI (j := 6) 56 rfl ck_Walker (by decide) (by decide) (show decode M_Walker_become.2.1 53 = .ok (.putfield 28, 3) by decide +kernel) wd_433 rfl (fun _ => rfl) rfl rfl (fun σ_7 => ?_)
  refine V_aload_n 57 rfl (show decode M_Walker_become.2.1 56 = .ok (.aload_n 0, 1) by decide +kernel) 0 rfl ?_
  refine V_aload_n 58 rfl (show decode M_Walker_become.2.1 57 = .ok (.aload_n 1, 1) by decide +kernel) 1 rfl ?_
  refine V_get (j := 7) (v := vI (SI σ_7 h1 7)) 61 rfl ck_Walker (by decide) (by decide) (show decode M_Walker_become.2.1 58 = .ok (.getfield 31, 3) by decide +kernel) wd_436 rfl ?_
  refine V_putI (j := 7) 64 rfl ck_Walker (by decide) (by decide) (show decode M_Walker_become.2.1 61 = .ok (.putfield 31, 3) by decide +kernel) wd_436 rfl (fun _ => rfl) rfl rfl (fun σ_8 => ?_)
  refine V_aload_n 65 rfl (show decode M_Walker_become.2.1 64 = .ok (.aload_n 0, 1) by decide +kernel) 0 rfl ?_
  refine V_aload_n 66 rfl (show decode M_Walker_become.2.1 65 = .ok (.aload_n 1, 1) by decide +kernel) 1 rfl ?_
  refine V_get (j := 8) (v := vI (SI σ_8 h1 8)) 69 rfl ck_Walker (by decide) (by decide) (show decode M_Walker_become.2.1 66 = .ok (.getfield 34, 3) by decide +kernel) wd_439 rfl ?_
  refine V_putI (j := 8) 72 rfl ck_Walker (by decide) (by decide) (show decode M_Walker_become.2.1 69 = .ok (.putfield 34, 3) by decide +kernel) wd_439 rfl (fun _ => rfl) rfl rfl (fun σ_9 => ?_)
  refine V_aload_n 73 rfl (show decode M_Walker_become.2.1 72 = .ok (.aload_n 0, 1) by decide +kernel) 0 rfl ?_
  refine V_aload_n 74 rfl (show decode M_Walker_become.2.1 73 = .ok (.aload_n 1, 1) by decide +kernel) 1 rfl ?_
  refine V_get (j := 9) (v := vI (SI σ_9 h1 9)) 77 rfl ck_Walker (by decide) (by decide) (show decode M_Walker_become.2.1 74 = .ok (.getfield 37, 3) by decide +kernel) wd_441 rfl ?_
  refine V_putI (j := 9) 80 rfl ck_Walker (by decide) (by decide) (show decode M_Walker_become.2.1 77 = .ok (.putfield 37, 3) by decide +kernel) wd_441 rfl (fun _ => rfl) rfl rfl (fun σ_10 => ?_)
  refine V_aload_n 81 rfl (show decode M_Walker_become.2.1 80 = .ok (.aload_n 0, 1) by decide +kernel) 0 rfl ?_
  refine V_aload_n 82 rfl (show decode M_Walker_become.2.1 81 = .ok (.aload_n 1, 1) by decide +kernel) 1 rfl ?_
  refine V_get (j := 10) (v := vI (SI σ_10 h1 10)) 85 rfl ck_Walker (by decide) (by decide) (show decode M_Walker_become.2.1 82 = .ok (.getfield 40, 3) by decide +kernel) wd_443 rfl ?_
  refine V_putI (j := 10) 88 rfl ck_Walker (by decide) (by decide) (show decode M_Walker_become.2.1 85 = .ok (.putfield 40, 3) by decide +kernel) wd_443 rfl (fun _ => rfl) rfl rfl (fun σ_11 => ?_)
  refine V_aload_n 89 rfl (show decode M_Walker_become.2.1 88 = .ok (.aload_n 0, 1) by decide +kernel) 0 rfl ?_
  refine V_aload_n 90 rfl (show decode M_Walker_become.2.1 89 = .ok (.aload_n 1, 1) by decide +kernel) 1 rfl ?_
  refine V_get (j := 11) (v := vI (SI σ_11 h1 11)) 93 rfl ck_Walker (by decide) (by decide) (show decode M_Walker_become.2.1 90 = .ok (.getfield 43, 3) by decide +kernel) wd_444 rfl ?_
  refine V_putI (j := 11) 96 rfl ck_Walker (by decide) (by decide) (show decode M_Walker_become.2.1 93 = .ok (.putfield 43, 3) by decide +kernel) wd_444 rfl (fun _ => rfl) rfl rfl (fun σ_12 => ?_)
  refine V_aload_n 97 rfl (show decode M_Walker_become.2.1 96 = .ok (.aload_n 0, 1) by decide +kernel) 0 rfl ?_
  refine V_aload_n 98 rfl (show decode M_Walker_become.2.1 97 = .ok (.aload_n 1, 1) by decide +kernel) 1 rfl ?_
  refine V_get (j := 12) (v := vI (SI σ_12 h1 12)) 101 rfl ck_Walker (by decide) (by decide) (show decode M_Walker_become.2.1 98 = .ok (.getfield 46, 3) by decide +kernel) wd_446 rfl ?_
  refine V_putI (j := 12) 104 rfl ck_Walker (by decide) (by decide) (show decode M_Walker_become.2.1 101 = .ok (.putfield 46, 3) by decide +kernel) wd_446 rfl (fun _ => rfl) rfl rfl (fun σ_13 => ?_)
  refine V_aload_n 105 rfl (show decode M_Walker_become.2.1 104 = .ok (.aload_n 0, 1) by decide +kernel) 0 rfl ?_
  refine V_aload_n 106 rfl (show decode M_Walker_become.2.1 105 = .ok (.aload_n 1, 1) by decide +kernel) 1 rfl ?_
  refine V_get (j := 13) (v := vI (SI σ_13 h1 13)) 109 rfl ck_Walker (by decide) (by decide) (show decode M_Walker_become.2.1 106 = .ok (.getfield 49, 3) by decide +kernel) wd_449 rfl ?_
  refine V_putI (j := 13) 112 rfl ck_Walker (by decide) (by decide) (show decode M_Walker_become.2.1 109 = .ok (.putfield 49, 3) by decide +kernel) wd_449 rfl (fun _ => rfl) rfl rfl (fun σ_14 => ?_)
  refine V_aload_n 113 rfl (show decode M_Walker_become.2.1 112 = .ok (.aload_n 0, 1) by decide +kernel) 0 rfl ?_
  refine V_aload_n 114 rfl (show decode M_Walker_become.2.1 113 = .ok (.aload_n 1, 1) by decide +kernel) 1 rfl ?_
  refine V_get (j := 14) (v := vI (SI σ_14 h1 14)) 117 rfl ck_Walker (by decide) (by decide) (show decode M_Walker_become.2.1 114 = .ok (.getfield 52, 3) by decide +kernel) wd_452 rfl ?_
  refine V_putI (j := 14) 120 rfl ck_Walker (by decide) (by decide) (show decode M_Walker_become.2.1 117 = .ok (.putfield 52, 3) by decide +kernel) wd_452 rfl (fun _ => rfl) rfl rfl (fun σ_15 => ?_)
  refine V_aload_n 121 rfl (show decode M_Walker_become.2.1 120 = .ok (.aload_n 0, 1) by decide +kernel) 0 rfl ?_
  refine V_aload_n 122 rfl (show decode M_Walker_become.2.1 121 = .ok (.aload_n 1, 1) by decide +kernel) 1 rfl ?_
  refine V_get (j := 15) (v := vI (SI σ_15 h1 15)) 125 rfl ck_Walker (by decide) (by decide) (show decode M_Walker_become.2.1 122 = .ok (.getfield 55, 3) by decide +kernel) wd_454 rfl ?_
  refine V_putI (j := 15) 128 rfl ck_Walker (by decide) (by decide) (show decode M_Walker_become.2.1 125 = .ok (.putfield 55, 3) by decide +kernel) wd_454 rfl (fun _ => rfl) rfl rfl (fun σ_16 => ?_)
  refine V_aload_n 129 rfl (show decode M_Walker_become.2.1 128 = .ok (.aload_n 0, 1) by decide +kernel) 0 rfl ?_
  refine V_aload_n 130 rfl (show decode M_Walker_become.2.1 129 = .ok (.aload_n 1, 1) by decide +kernel) 1 rfl ?_
  refine V_get (j := 16) (v := vI (SI σ_16 h1 16)) 133 rfl ck_Walker (by decide) (by decide) (show decode M_Walker_become.2.1 130 = .ok (.getfield 58, 3) by decide +kernel) wd_456 rfl ?_
  refine V_putI (j := 16) 136 rfl ck_Walker (by decide) (by decide) (show decode M_Walker_become.2.1 133 = .ok (.putfield 58, 3) by decide +kernel) wd_456 rfl (fun _ => rfl) rfl rfl (fun σ_17 => ?_)
  refine V_aload_n 137 rfl (show decode M_Walker_become.2.1 136 = .ok (.aload_n 0, 1) by decide +kernel) 0 rfl ?_
  refine V_aload_n 138 rfl (show decode M_Walker_become.2.1 137 = .ok (.aload_n 1, 1) by decide +kernel) 1 rfl ?_
  refine V_get (j := 17) (v := vI (SI σ_17 h1 17)) 141 rfl ck_Walker (by decide) (by decide) (show decode M_Walker_become.2.1 138 = .ok (.getfield 61, 3) by decide +kernel) wd_458 rfl ?_
  refine V_putI (j := 17) 144 rfl ck_Walker (by decide) (by decide) (show decode M_Walker_become.2.1 141 = .ok (.putfield 61, 3) by decide +kernel) wd_458 rfl (fun _ => rfl) rfl rfl (fun σ_18 => ?_)
  exact V_vret rfl (by decide) (by decide) (show decode M_Walker_become.2.1 144 = .ok (.return_, 1) by decide +kernel)
theorem cal_Walker_become (d mc ms k n : Nat) (h1 : 1 + 1 ≤ d) (h2 : k + 0 ≤ mc) (h3 : n + 0 ≤ ms) : Cal M_Walker_become 1 0 0 1 d mc ms k n := ⟨wd_1253, wd_178, by decide, h1, by decide, h2, h3⟩
abbrev M_World_become : MD := (⟨"LongTrail$World", "become", "(LLongTrail$World;)V"⟩, prog_12_method_2_code, 3, (none : Option FieldType))
def b_World_become_76 (h0 : Nat) (h1 : Nat) (L76 : Int32 → Bool → Sto → Rs Unit) (x2 : Int32) (b : Bool) (σ : Sto) : Rs Unit := (if x2 < (SI σ h0 7) then (bd_ (f_Walker_become (SR σ (SR σ h0 6) (ix x2)) (SR σ (SR σ h1 6) (ix x2)) ((((((b && cK σ h0 11) && cK σ h0 11) && cA σ (SR σ h0 6) 26 x2) && cK σ h1 11) && cA σ (SR σ h1 6) 26 x2) && cK σ (SR σ (SR σ h0 6) (ix x2)) 10) σ) (fun (r_9 : Unit) (b_9 : Bool) (σ_9 : Sto) => (lt_ (x2 + (1 : Int32)) (fun (x2_10 : Int32) => (L76 x2_10 b_9 σ_9))))) else (lt_ (pI σ h0 8 (SI σ h1 8)) (fun (σ_11 : Sto) => ((), (((b && cK σ h0 11) && cK σ h1 11) && cK σ h0 11), σ_11))))
def f_World_become (h0 : Nat) (h1 : Nat) (b : Bool) (σ : Sto) : Rs Unit := (bd_ (f_Ground_become (SR σ h0 0) (SR σ h1 0) (((b && cK σ h0 11) && cK σ h1 11) && cK σ (SR σ h0 0) 2) σ) (fun (r_1 : Unit) (b_1 : Bool) (σ_1 : Sto) => (bd_ (f_Laws_become (SR σ_1 h0 1) (SR σ_1 h1 1) (((b_1 && cK σ_1 h0 11) && cK σ_1 h1 11) && cK σ_1 (SR σ_1 h0 1) 3) σ_1) (fun (r_2 : Unit) (b_2 : Bool) (σ_2 : Sto) => (bd_ (f_Post_become (SR σ_2 h0 2) (SR σ_2 h1 2) (((b_2 && cK σ_2 h0 11) && cK σ_2 h1 11) && cK σ_2 (SR σ_2 h0 2) 5) σ_2) (fun (r_3 : Unit) (b_3 : Bool) (σ_3 : Sto) => (bd_ (f_Permits_become (SR σ_3 h0 3) (SR σ_3 h1 3) (((b_3 && cK σ_3 h0 11) && cK σ_3 h1 11) && cK σ_3 (SR σ_3 h0 3) 4) σ_3) (fun (r_4 : Unit) (b_4 : Bool) (σ_4 : Sto) => (bd_ (f_Supply_become (SR σ_4 h0 4) (SR σ_4 h1 4) (((b_4 && cK σ_4 h0 11) && cK σ_4 h1 11) && cK σ_4 (SR σ_4 h0 4) 7) σ_4) (fun (r_5 : Unit) (b_5 : Bool) (σ_5 : Sto) => (bd_ (f_Album_become (SR σ_5 h0 5) (SR σ_5 h1 5) (((b_5 && cK σ_5 h0 11) && cK σ_5 h1 11) && cK σ_5 (SR σ_5 h0 5) 1) σ_5) (fun (r_6 : Unit) (b_6 : Bool) (σ_6 : Sto) => (lt_ (pI σ_6 h0 7 (SI σ_6 h1 7)) (fun (σ_7 : Sto) => (lt_ (0 : Int32) (fun (x2_8 : Int32) => (lp_ (b_World_become_76 h0 h1) (fun (x2 : Int32) (b : Bool) (σ : Sto) => ((), false, σ)) fuel_ x2_8 ((b_6 && cK σ_6 h1 11) && cK σ_6 h0 11) σ_7)))))))))))))))))
set_option maxRecDepth 100000 in
set_option maxHeartbeats 4000000 in
theorem s_World_become : ∀ (h0 : Nat) (h1 : Nat) (b : Bool) (σ : Sto), Snd M_World_become 2 0 0 [vR h0, vR h1] b σ (tU (f_World_become h0 h1 b σ).1) (f_World_become h0 h1 b σ).2.1 (f_World_become h0 h1 b σ).2.2 := by
  intro h0 h1 b σ
  refine Snd_of (tv := tU) (by decide) (Nat.le_of_ble_eq_true rfl) ?_
  show V M_World_become 2 0 0 0 0 tU (f_World_become h0 h1 b σ) 0 [(0, vR h0), (1, vR h1)] [] b σ
  unfold f_World_become
  refine V_aload_n 1 rfl (show decode M_World_become.2.1 0 = .ok (.aload_n 0, 1) by decide +kernel) 0 rfl ?_
  refine V_get (j := 0) (v := vR (SR σ h0 0)) 4 rfl ck_World (by decide) (by decide) (show decode M_World_become.2.1 1 = .ok (.getfield 10, 3) by decide +kernel) wd_497 rfl ?_
  refine V_aload_n 5 rfl (show decode M_World_become.2.1 4 = .ok (.aload_n 1, 1) by decide +kernel) 1 rfl ?_
  refine V_get (j := 0) (v := vR (SR σ h1 0)) 8 rfl ck_World (by decide) (by decide) (show decode M_World_become.2.1 5 = .ok (.getfield 10, 3) by decide +kernel) wd_497 rfl ?_
  refine V_callVN (tb := tU) (as := [vR (SR σ h1 0)]) (rest := []) (na := 1) 11 rfl ck_Ground (by decide) (s_Ground_become (SR σ h0 0) (SR σ h1 0) (((b && cK σ h0 11) && cK σ h1 11) && cK σ (SR σ h0 0) 2) σ) rfl rfl (Nat.le_of_ble_eq_true rfl) (cal_Ground_become _ _ _ _ _ (by decide) (by decide) (by decide)) (show decode M_World_become.2.1 8 = .ok (.invokevirtual 58, 3) by decide +kernel) wd_1221 wd_1223 wd_73 (fun r_1 b_1 σ_1 => ?_)
  show V M_World_become 2 0 0 0 0 tU _ 11 [(0, vR h0), (1, vR h1)] [] b_1 σ_1
  refine V_aload_n 12 rfl (show decode M_World_become.2.1 11 = .ok (.aload_n 0, 1) by decide +kernel) 0 rfl ?_
  refine V_get (j := 1) (v := vR (SR σ_1 h0 1)) 15 rfl ck_World (by decide) (by decide) (show decode M_World_become.2.1 12 = .ok (.getfield 19, 3) by decide +kernel) wd_499 rfl ?_
  refine V_aload_n 16 rfl (show decode M_World_become.2.1 15 = .ok (.aload_n 1, 1) by decide +kernel) 1 rfl ?_
  refine V_get (j := 1) (v := vR (SR σ_1 h1 1)) 19 rfl ck_World (by decide) (by decide) (show decode M_World_become.2.1 16 = .ok (.getfield 19, 3) by decide +kernel) wd_499 rfl ?_
  refine V_callVN (tb := tU) (as := [vR (SR σ_1 h1 1)]) (rest := []) (na := 1) 22 rfl ck_Laws (by decide) (s_Laws_become (SR σ_1 h0 1) (SR σ_1 h1 1) (((b_1 && cK σ_1 h0 11) && cK σ_1 h1 11) && cK σ_1 (SR σ_1 h0 1) 3) σ_1) rfl rfl (Nat.le_of_ble_eq_true rfl) (cal_Laws_become _ _ _ _ _ (by decide) (by decide) (by decide)) (show decode M_World_become.2.1 19 = .ok (.invokevirtual 62, 3) by decide +kernel) wd_1226 wd_1228 wd_74 (fun r_2 b_2 σ_2 => ?_)
  show V M_World_become 2 0 0 0 0 tU _ 22 [(0, vR h0), (1, vR h1)] [] b_2 σ_2
  refine V_aload_n 23 rfl (show decode M_World_become.2.1 22 = .ok (.aload_n 0, 1) by decide +kernel) 0 rfl ?_
  refine V_get (j := 2) (v := vR (SR σ_2 h0 2)) 26 rfl ck_World (by decide) (by decide) (show decode M_World_become.2.1 23 = .ok (.getfield 26, 3) by decide +kernel) wd_501 rfl ?_
  refine V_aload_n 27 rfl (show decode M_World_become.2.1 26 = .ok (.aload_n 1, 1) by decide +kernel) 1 rfl ?_
  refine V_get (j := 2) (v := vR (SR σ_2 h1 2)) 30 rfl ck_World (by decide) (by decide) (show decode M_World_become.2.1 27 = .ok (.getfield 26, 3) by decide +kernel) wd_501 rfl ?_
  refine V_callVN (tb := tU) (as := [vR (SR σ_2 h1 2)]) (rest := []) (na := 1) 33 rfl ck_Post (by decide) (s_Post_become (SR σ_2 h0 2) (SR σ_2 h1 2) (((b_2 && cK σ_2 h0 11) && cK σ_2 h1 11) && cK σ_2 (SR σ_2 h0 2) 5) σ_2) rfl rfl (Nat.le_of_ble_eq_true rfl) (cal_Post_become _ _ _ _ _ (by decide) (by decide) (by decide)) (show decode M_World_become.2.1 30 = .ok (.invokevirtual 65, 3) by decide +kernel) wd_1230 wd_1232 wd_75 (fun r_3 b_3 σ_3 => ?_)
  show V M_World_become 2 0 0 0 0 tU _ 33 [(0, vR h0), (1, vR h1)] [] b_3 σ_3
  refine V_aload_n 34 rfl (show decode M_World_become.2.1 33 = .ok (.aload_n 0, 1) by decide +kernel) 0 rfl ?_
  refine V_get (j := 3) (v := vR (SR σ_3 h0 3)) 37 rfl ck_World (by decide) (by decide) (show decode M_World_become.2.1 34 = .ok (.getfield 33, 3) by decide +kernel) wd_503 rfl ?_
  refine V_aload_n 38 rfl (show decode M_World_become.2.1 37 = .ok (.aload_n 1, 1) by decide +kernel) 1 rfl ?_
  refine V_get (j := 3) (v := vR (SR σ_3 h1 3)) 41 rfl ck_World (by decide) (by decide) (show decode M_World_become.2.1 38 = .ok (.getfield 33, 3) by decide +kernel) wd_503 rfl ?_
  refine V_callVN (tb := tU) (as := [vR (SR σ_3 h1 3)]) (rest := []) (na := 1) 44 rfl ck_Permits (by decide) (s_Permits_become (SR σ_3 h0 3) (SR σ_3 h1 3) (((b_3 && cK σ_3 h0 11) && cK σ_3 h1 11) && cK σ_3 (SR σ_3 h0 3) 4) σ_3) rfl rfl (Nat.le_of_ble_eq_true rfl) (cal_Permits_become _ _ _ _ _ (by decide) (by decide) (by decide)) (show decode M_World_become.2.1 41 = .ok (.invokevirtual 68, 3) by decide +kernel) wd_1235 wd_1237 wd_76 (fun r_4 b_4 σ_4 => ?_)
  show V M_World_become 2 0 0 0 0 tU _ 44 [(0, vR h0), (1, vR h1)] [] b_4 σ_4
  refine V_aload_n 45 rfl (show decode M_World_become.2.1 44 = .ok (.aload_n 0, 1) by decide +kernel) 0 rfl ?_
  refine V_get (j := 4) (v := vR (SR σ_4 h0 4)) 48 rfl ck_World (by decide) (by decide) (show decode M_World_become.2.1 45 = .ok (.getfield 40, 3) by decide +kernel) wd_505 rfl ?_
  refine V_aload_n 49 rfl (show decode M_World_become.2.1 48 = .ok (.aload_n 1, 1) by decide +kernel) 1 rfl ?_
  refine V_get (j := 4) (v := vR (SR σ_4 h1 4)) 52 rfl ck_World (by decide) (by decide) (show decode M_World_become.2.1 49 = .ok (.getfield 40, 3) by decide +kernel) wd_505 rfl ?_
  refine V_callVN (tb := tU) (as := [vR (SR σ_4 h1 4)]) (rest := []) (na := 1) 55 rfl ck_Supply (by decide) (s_Supply_become (SR σ_4 h0 4) (SR σ_4 h1 4) (((b_4 && cK σ_4 h0 11) && cK σ_4 h1 11) && cK σ_4 (SR σ_4 h0 4) 7) σ_4) rfl rfl (Nat.le_of_ble_eq_true rfl) (cal_Supply_become _ _ _ _ _ (by decide) (by decide) (by decide)) (show decode M_World_become.2.1 52 = .ok (.invokevirtual 71, 3) by decide +kernel) wd_1240 wd_1242 wd_77 (fun r_5 b_5 σ_5 => ?_)
  show V M_World_become 2 0 0 0 0 tU _ 55 [(0, vR h0), (1, vR h1)] [] b_5 σ_5
  refine V_aload_n 56 rfl (show decode M_World_become.2.1 55 = .ok (.aload_n 0, 1) by decide +kernel) 0 rfl ?_
  refine V_get (j := 5) (v := vR (SR σ_5 h0 5)) 59 rfl ck_World (by decide) (by decide) (show decode M_World_become.2.1 56 = .ok (.getfield 47, 3) by decide +kernel) wd_507 rfl ?_
  refine V_aload_n 60 rfl (show decode M_World_become.2.1 59 = .ok (.aload_n 1, 1) by decide +kernel) 1 rfl ?_
  refine V_get (j := 5) (v := vR (SR σ_5 h1 5)) 63 rfl ck_World (by decide) (by decide) (show decode M_World_become.2.1 60 = .ok (.getfield 47, 3) by decide +kernel) wd_507 rfl ?_
  refine V_callVN (tb := tU) (as := [vR (SR σ_5 h1 5)]) (rest := []) (na := 1) 66 rfl ck_Album (by decide) (s_Album_become (SR σ_5 h0 5) (SR σ_5 h1 5) (((b_5 && cK σ_5 h0 11) && cK σ_5 h1 11) && cK σ_5 (SR σ_5 h0 5) 1) σ_5) rfl rfl (Nat.le_of_ble_eq_true rfl) (cal_Album_become _ _ _ _ _ (by decide) (by decide) (by decide)) (show decode M_World_become.2.1 63 = .ok (.invokevirtual 74, 3) by decide +kernel) wd_1245 wd_1247 wd_78 (fun r_6 b_6 σ_6 => ?_)
  show V M_World_become 2 0 0 0 0 tU _ 66 [(0, vR h0), (1, vR h1)] [] b_6 σ_6
  refine V_aload_n 67 rfl (show decode M_World_become.2.1 66 = .ok (.aload_n 0, 1) by decide +kernel) 0 rfl ?_
  refine V_aload_n 68 rfl (show decode M_World_become.2.1 67 = .ok (.aload_n 1, 1) by decide +kernel) 1 rfl ?_
  refine V_get (j := 7) (v := vI (SI σ_6 h1 7)) 71 rfl ck_World (by decide) (by decide) (show decode M_World_become.2.1 68 = .ok (.getfield 77, 3) by decide +kernel) wd_512 rfl ?_
  refine V_putI (j := 7) 74 rfl ck_World (by decide) (by decide) (show decode M_World_become.2.1 71 = .ok (.putfield 77, 3) by decide +kernel) wd_512 rfl (fun _ => rfl) rfl rfl (fun σ_7 => ?_)
  refine V_iconst 75 rfl (show decode M_World_become.2.1 74 = .ok (.iconst 0, 1) by decide +kernel) (v := 0) rfl ?_
  refine V_istore_n (fun x2_8 => [(2, vI x2_8), (0, vR h0), (1, vR h1)]) 76 rfl (show decode M_World_become.2.1 75 = .ok (.istore_n 2, 1) by decide +kernel) (by decide) (fun _ => rfl) (fun x2_8 => ?_)
  refine V_sub [1, 2, 0] rfl ?_
  refine lp_P (fun (L76 : Int32 → Bool → Sto → Rs Unit) => ∀ (x2 : Int32) (b : Bool) (σ : Sto), V M_World_become 2 0 0 0 0 tU (L76 x2 b σ) 76 [(0, vR h0), (1, vR h1), (2, vI x2)] [] b σ) ?_ ?_ fuel_ x2_8 ((b_6 && cK σ_6 h1 11) && cK σ_6 h0 11) σ_7
  · intro x2 b σ; exact V_bad
  · intro L76 hL76 x2 b σ
    unfold b_World_become_76
    refine V_iload_n 77 rfl (show decode M_World_become.2.1 76 = .ok (.iload_n 2, 1) by decide +kernel) 2 rfl ?_
    refine V_aload_n 78 rfl (show decode M_World_become.2.1 77 = .ok (.aload_n 0, 1) by decide +kernel) 0 rfl ?_
    refine V_get (j := 7) (v := vI (SI σ h0 7)) 81 rfl ck_World (by decide) (by decide) (show decode M_World_become.2.1 78 = .ok (.getfield 77, 3) by decide +kernel) wd_512 rfl ?_
    refine V_icmpge 84 105 rfl (show decode M_World_become.2.1 81 = .ok (.if_icmp .ge 24, 3) by decide +kernel) rfl ?_ ?_
    · skip
      refine V_aload_n 85 rfl (show decode M_World_become.2.1 84 = .ok (.aload_n 0, 1) by decide +kernel) 0 rfl ?_
      refine V_get (j := 6) (v := vR (SR σ h0 6)) 88 rfl ck_World (by decide) (by decide) (show decode M_World_become.2.1 85 = .ok (.getfield 53, 3) by decide +kernel) wd_509 rfl ?_
      refine V_iload_n 89 rfl (show decode M_World_become.2.1 88 = .ok (.iload_n 2, 1) by decide +kernel) 2 rfl ?_
      refine V_ald_r26 90 rfl (show decode M_World_become.2.1 89 = .ok (.aaload, 1) by decide +kernel) ?_
      refine V_aload_n 91 rfl (show decode M_World_become.2.1 90 = .ok (.aload_n 1, 1) by decide +kernel) 1 rfl ?_
      refine V_get (j := 6) (v := vR (SR σ h1 6)) 94 rfl ck_World (by decide) (by decide) (show decode M_World_become.2.1 91 = .ok (.getfield 53, 3) by decide +kernel) wd_509 rfl ?_
      refine V_iload_n 95 rfl (show decode M_World_become.2.1 94 = .ok (.iload_n 2, 1) by decide +kernel) 2 rfl ?_
      refine V_ald_r26 96 rfl (show decode M_World_become.2.1 95 = .ok (.aaload, 1) by decide +kernel) ?_
      refine V_callVN (tb := tU) (as := [vR (SR σ (SR σ h1 6) (ix x2))]) (rest := []) (na := 1) 99 rfl ck_Walker (by decide) (s_Walker_become (SR σ (SR σ h0 6) (ix x2)) (SR σ (SR σ h1 6) (ix x2)) ((((((b && cK σ h0 11) && cK σ h0 11) && cA σ (SR σ h0 6) 26 x2) && cK σ h1 11) && cA σ (SR σ h1 6) 26 x2) && cK σ (SR σ (SR σ h0 6) (ix x2)) 10) σ) rfl rfl (Nat.le_of_ble_eq_true rfl) (cal_Walker_become _ _ _ _ _ (by decide) (by decide) (by decide)) (show decode M_World_become.2.1 96 = .ok (.invokevirtual 81, 3) by decide +kernel) wd_1250 wd_1252 wd_79 (fun r_9 b_9 σ_9 => ?_)
      show V M_World_become 2 0 0 0 0 tU _ 99 [(0, vR h0), (1, vR h1), (2, vI x2)] [] b_9 σ_9
      refine V_iinc (fun x2_10 => [(2, vI x2_10), (0, vR h0), (1, vR h1)]) 102 rfl (show decode M_World_become.2.1 99 = .ok (.iinc 2 1, 3) by decide +kernel) 2 rfl (w := 1) rfl (by decide) (fun _ => rfl) (fun x2_10 => ?_)
      refine V_goto 76 (show decode M_World_become.2.1 102 = .ok (.goto (-26), 3) by decide +kernel) rfl ?_
      exact V_sub [1, 2, 0] rfl (hL76 x2_10 b_9 σ_9)
    · skip
      refine V_aload_n 106 rfl (show decode M_World_become.2.1 105 = .ok (.aload_n 0, 1) by decide +kernel) 0 rfl ?_
      refine V_aload_n 107 rfl (show decode M_World_become.2.1 106 = .ok (.aload_n 1, 1) by decide +kernel) 1 rfl ?_
      refine V_get (j := 8) (v := vI (SI σ h1 8)) 110 rfl ck_World (by decide) (by decide) (show decode M_World_become.2.1 107 = .ok (.getfield 84, 3) by decide +kernel) wd_513 rfl ?_
      refine V_putI (j := 8) 113 rfl ck_World (by decide) (by decide) (show decode M_World_become.2.1 110 = .ok (.putfield 84, 3) by decide +kernel) wd_513 rfl (fun _ => rfl) rfl rfl (fun σ_11 => ?_)
      exact V_vret rfl (by decide) (by decide) (show decode M_World_become.2.1 113 = .ok (.return_, 1) by decide +kernel)
theorem cal_World_become (d mc ms k n : Nat) (h1 : 2 + 1 ≤ d) (h2 : k + 0 ≤ mc) (h3 : n + 0 ≤ ms) : Cal M_World_become 2 0 0 1 d mc ms k n := ⟨wd_1220, wd_171, by decide, h1, by decide, h2, h3⟩
abbrev M_Trail_back : MD := (⟨"LongTrail", "back", "()I"⟩, prog_1_method_45_code, 1, (some FieldType.int))
def f_Trail_back (h0 : Nat) (b : Bool) (σ : Sto) : Rs Int32 := (if (SI σ h0 7) = 0 then ((-1000000002 : Int32), (b && cK σ h0 12), σ) else (bd_ (f_World_become (SR σ h0 0) (SR σ h0 1) ((((b && cK σ h0 12) && cK σ h0 12) && cK σ h0 12) && cK σ (SR σ h0 0) 11) σ) (fun (r_1 : Unit) (b_1 : Bool) (σ_1 : Sto) => ((SI σ_1 (SR σ_1 h0 0) 8), ((b_1 && cK σ_1 h0 12) && cK σ_1 (SR σ_1 h0 0) 11), σ_1))))
set_option maxRecDepth 100000 in
set_option maxHeartbeats 4000000 in
theorem s_Trail_back : ∀ (h0 : Nat) (b : Bool) (σ : Sto), Snd M_Trail_back 3 0 0 [vR h0] b σ (tI (f_Trail_back h0 b σ).1) (f_Trail_back h0 b σ).2.1 (f_Trail_back h0 b σ).2.2 := by
  intro h0 b σ
  refine Snd_of (tv := tI) (by decide) (Nat.le_of_ble_eq_true rfl) ?_
  show V M_Trail_back 3 0 0 0 0 tI (f_Trail_back h0 b σ) 0 [(0, vR h0)] [] b σ
  unfold f_Trail_back
  refine V_aload_n 1 rfl (show decode M_Trail_back.2.1 0 = .ok (.aload_n 0, 1) by decide +kernel) 0 rfl ?_
  refine V_get (j := 7) (v := vI (SI σ h0 7)) 4 rfl ck_Trail (by decide) (by decide) (show decode M_Trail_back.2.1 1 = .ok (.getfield 393, 3) by decide +kernel) wd_606 rfl ?_
  refine V_ifne 7 10 rfl (show decode M_Trail_back.2.1 4 = .ok (.ifCond .ne 6, 3) by decide +kernel) rfl ?_ ?_
  · skip
    refine V_ldc 9 rfl (show decode M_Trail_back.2.1 7 = .ok (.ldc 66, 2) by decide +kernel) wd_640 ?_
    exact V_iret rfl (by decide) (by decide) (show decode M_Trail_back.2.1 9 = .ok (.ireturn, 1) by decide +kernel)
  · skip
    refine V_aload_n 11 rfl (show decode M_Trail_back.2.1 10 = .ok (.aload_n 0, 1) by decide +kernel) 0 rfl ?_
    refine V_get (j := 0) (v := vR (SR σ h0 0)) 14 rfl ck_Trail (by decide) (by decide) (show decode M_Trail_back.2.1 11 = .ok (.getfield 10, 3) by decide +kernel) wd_599 rfl ?_
    refine V_aload_n 15 rfl (show decode M_Trail_back.2.1 14 = .ok (.aload_n 0, 1) by decide +kernel) 0 rfl ?_
    refine V_get (j := 1) (v := vR (SR σ h0 1)) 18 rfl ck_Trail (by decide) (by decide) (show decode M_Trail_back.2.1 15 = .ok (.getfield 16, 3) by decide +kernel) wd_600 rfl ?_
    refine V_callVN (tb := tU) (as := [vR (SR σ h0 1)]) (rest := []) (na := 1) 21 rfl ck_World (by decide) (s_World_become (SR σ h0 0) (SR σ h0 1) ((((b && cK σ h0 12) && cK σ h0 12) && cK σ h0 12) && cK σ (SR σ h0 0) 11) σ) rfl rfl (Nat.le_of_ble_eq_true rfl) (cal_World_become _ _ _ _ _ (by decide) (by decide) (by decide)) (show decode M_Trail_back.2.1 18 = .ok (.invokevirtual 261, 3) by decide +kernel) wd_1217 wd_1219 wd_72 (fun r_1 b_1 σ_1 => ?_)
    show V M_Trail_back 3 0 0 0 0 tI _ 21 [(0, vR h0)] [] b_1 σ_1
    refine V_aload_n 22 rfl (show decode M_Trail_back.2.1 21 = .ok (.aload_n 0, 1) by decide +kernel) 0 rfl ?_
    refine V_get (j := 0) (v := vR (SR σ_1 h0 0)) 25 rfl ck_Trail (by decide) (by decide) (show decode M_Trail_back.2.1 22 = .ok (.getfield 10, 3) by decide +kernel) wd_599 rfl ?_
    refine V_getN (j := 8) (v := vI (SI σ_1 (SR σ_1 h0 0) 8)) 28 rfl ck_World (by decide) (by decide) (show decode M_Trail_back.2.1 25 = .ok (.getfield 138, 3) by decide +kernel) wd_514 rfl ?_
    exact V_iret rfl (by decide) (by decide) (show decode M_Trail_back.2.1 28 = .ok (.ireturn, 1) by decide +kernel)
theorem cal_Trail_back (d mc ms k n : Nat) (h1 : 3 + 1 ≤ d) (h2 : k + 0 ≤ mc) (h3 : n + 0 ≤ ms) : Cal M_Trail_back 3 0 0 0 d mc ms k n := ⟨wd_1481, wd_170, by decide, h1, by decide, h2, h3⟩
abbrev M_Ground_isTown : MD := (⟨"LongTrail$Ground", "isTown", "(I)Z"⟩, prog_3_method_12_code, 2, (some FieldType.boolean))
def f_Ground_isTown (h0 : Nat) (x1 : Int32) (b : Bool) (σ : Sto) : Rs Int32 := (bd_ (f_Ground_isOf h0 x1 (3 : Int32) (b && cK σ h0 2) σ) (fun (r_1 : Int32) (b_1 : Bool) (σ_1 : Sto) => (r_1, (b_1 && zok r_1), σ_1)))
set_option maxRecDepth 100000 in
set_option maxHeartbeats 4000000 in
theorem s_Ground_isTown : ∀ (h0 : Nat) (x1 : Int32) (b : Bool) (σ : Sto), Snd M_Ground_isTown 2 0 0 [vR h0, vI x1] b σ (tI (f_Ground_isTown h0 x1 b σ).1) (f_Ground_isTown h0 x1 b σ).2.1 (f_Ground_isTown h0 x1 b σ).2.2 := by
  intro h0 x1 b σ
  refine Snd_of (tv := tI) (by decide) (Nat.le_of_ble_eq_true rfl) ?_
  show V M_Ground_isTown 2 0 0 0 0 tI (f_Ground_isTown h0 x1 b σ) 0 [(0, vR h0), (1, vI x1)] [] b σ
  unfold f_Ground_isTown
  refine V_aload_n 1 rfl (show decode M_Ground_isTown.2.1 0 = .ok (.aload_n 0, 1) by decide +kernel) 0 rfl ?_
  refine V_iload_n 2 rfl (show decode M_Ground_isTown.2.1 1 = .ok (.iload_n 1, 1) by decide +kernel) 1 rfl ?_
  refine V_iconst 3 rfl (show decode M_Ground_isTown.2.1 2 = .ok (.iconst 3, 1) by decide +kernel) (v := 3) rfl ?_
  refine V_callV (tb := tI) (as := [vI x1, vI (3 : Int32)]) (rest := []) (na := 2) 6 rfl ck_Ground (by decide) (s_Ground_isOf h0 x1 (3 : Int32) (b && cK σ h0 2) σ) rfl rfl (Nat.le_of_ble_eq_true rfl) (cal_Ground_isOf _ _ _ _ _ (by decide) (by decide) (by decide)) (show decode M_Ground_isTown.2.1 3 = .ok (.invokevirtual 63, 3) by decide +kernel) wd_701 wd_688 wd_9 (fun r_1 b_1 σ_1 => ?_)
  show V M_Ground_isTown 2 0 0 0 0 tI _ 6 [(0, vR h0), (1, vI x1)] [vI r_1] b_1 σ_1
  exact V_zretc rfl (by decide) (by decide) (show decode M_Ground_isTown.2.1 6 = .ok (.ireturn, 1) by decide +kernel)
theorem cal_Ground_isTown (d mc ms k n : Nat) (h1 : 2 + 1 ≤ d) (h2 : k + 0 ≤ mc) (h3 : n + 0 ≤ ms) : Cal M_Ground_isTown 2 0 0 1 d mc ms k n := ⟨wd_700, wd_172, by decide, h1, by decide, h2, h3⟩
abbrev M_Post_addBox : MD := (⟨"LongTrail$Post", "addBox", "(IIII)I"⟩, prog_6_method_4_code, 5, (some FieldType.int))
def f_Post_addBox (h0 : Nat) (x1 : Int32) (x2 : Int32) (x3 : Int32) (x4 : Int32) (b : Bool) (σ : Sto) : Rs Int32 := (lt_ (pI σ (SR σ h0 0) (ix (SI σ h0 5)) x1) (fun (σ_1 : Sto) => (lt_ (pI σ_1 (SR σ_1 h0 1) (ix (SI σ_1 h0 5)) x2) (fun (σ_2 : Sto) => (lt_ (pI σ_2 (SR σ_2 h0 2) (ix (SI σ_2 h0 5)) x3) (fun (σ_3 : Sto) => (lt_ (pI σ_3 (SR σ_3 h0 3) (ix (SI σ_3 h0 5)) x4) (fun (σ_4 : Sto) => (lt_ (pI σ_4 (SR σ_4 h0 4) (ix (SI σ_4 h0 5)) (0 : Int32)) (fun (σ_5 : Sto) => (lt_ (pI σ_5 h0 5 ((SI σ_5 h0 5) + (1 : Int32))) (fun (σ_6 : Sto) => (((SI σ_6 h0 5) - (1 : Int32)), ((((((((((((((((((b && cK σ h0 5) && cK σ h0 5) && cA σ (SR σ h0 0) 21 (SI σ h0 5)) && cK σ_1 h0 5) && cK σ_1 h0 5) && cA σ_1 (SR σ_1 h0 1) 21 (SI σ_1 h0 5)) && cK σ_2 h0 5) && cK σ_2 h0 5) && cA σ_2 (SR σ_2 h0 2) 21 (SI σ_2 h0 5)) && cK σ_3 h0 5) && cK σ_3 h0 5) && cA σ_3 (SR σ_3 h0 3) 21 (SI σ_3 h0 5)) && cK σ_4 h0 5) && cK σ_4 h0 5) && cA σ_4 (SR σ_4 h0 4) 21 (SI σ_4 h0 5)) && cK σ_5 h0 5) && cK σ_5 h0 5) && cK σ_6 h0 5), σ_6)))))))))))))
set_option maxRecDepth 100000 in
set_option maxHeartbeats 4000000 in
theorem s_Post_addBox : ∀ (h0 : Nat) (x1 : Int32) (x2 : Int32) (x3 : Int32) (x4 : Int32) (b : Bool) (σ : Sto), Snd M_Post_addBox 1 0 0 [vR h0, vI x1, vI x2, vI x3, vI x4] b σ (tI (f_Post_addBox h0 x1 x2 x3 x4 b σ).1) (f_Post_addBox h0 x1 x2 x3 x4 b σ).2.1 (f_Post_addBox h0 x1 x2 x3 x4 b σ).2.2 := by
  intro h0 x1 x2 x3 x4 b σ
  refine Snd_of (tv := tI) (by decide) (Nat.le_of_ble_eq_true rfl) ?_
  show V M_Post_addBox 1 0 0 0 0 tI (f_Post_addBox h0 x1 x2 x3 x4 b σ) 0 [(0, vR h0), (1, vI x1), (2, vI x2), (3, vI x3), (4, vI x4)] [] b σ
  unfold f_Post_addBox
  refine V_aload_n 1 rfl (show decode M_Post_addBox.2.1 0 = .ok (.aload_n 0, 1) by decide +kernel) 0 rfl ?_
  refine V_get (j := 0) (v := vR (SR σ h0 0)) 4 rfl ck_Post (by decide) (by decide) (show decode M_Post_addBox.2.1 1 = .ok (.getfield 9, 3) by decide +kernel) wd_297 rfl ?_
  refine V_aload_n 5 rfl (show decode M_Post_addBox.2.1 4 = .ok (.aload_n 0, 1) by decide +kernel) 0 rfl ?_
  refine V_get (j := 5) (v := vI (SI σ h0 5)) 8 rfl ck_Post (by decide) (by decide) (show decode M_Post_addBox.2.1 5 = .ok (.getfield 31, 3) by decide +kernel) wd_307 rfl ?_
  refine V_iload_n 9 rfl (show decode M_Post_addBox.2.1 8 = .ok (.iload_n 1, 1) by decide +kernel) 1 rfl ?_
  refine V_ast_int 10 rfl (show decode M_Post_addBox.2.1 9 = .ok (.iastore, 1) by decide +kernel) (fun σ_1 => ?_)
  refine V_aload_n 11 rfl (show decode M_Post_addBox.2.1 10 = .ok (.aload_n 0, 1) by decide +kernel) 0 rfl ?_
  refine V_get (j := 1) (v := vR (SR σ_1 h0 1)) 14 rfl ck_Post (by decide) (by decide) (show decode M_Post_addBox.2.1 11 = .ok (.getfield 13, 3) by decide +kernel) wd_299 rfl ?_
  refine V_aload_n 15 rfl (show decode M_Post_addBox.2.1 14 = .ok (.aload_n 0, 1) by decide +kernel) 0 rfl ?_
  refine V_get (j := 5) (v := vI (SI σ_1 h0 5)) 18 rfl ck_Post (by decide) (by decide) (show decode M_Post_addBox.2.1 15 = .ok (.getfield 31, 3) by decide +kernel) wd_307 rfl ?_
  refine V_iload_n 19 rfl (show decode M_Post_addBox.2.1 18 = .ok (.iload_n 2, 1) by decide +kernel) 2 rfl ?_
  refine V_ast_int 20 rfl (show decode M_Post_addBox.2.1 19 = .ok (.iastore, 1) by decide +kernel) (fun σ_2 => ?_)
  refine V_aload_n 21 rfl (show decode M_Post_addBox.2.1 20 = .ok (.aload_n 0, 1) by decide +kernel) 0 rfl ?_
  refine V_get (j := 2) (v := vR (SR σ_2 h0 2)) 24 rfl ck_Post (by decide) (by decide) (show decode M_Post_addBox.2.1 21 = .ok (.getfield 16, 3) by decide +kernel) wd_301 rfl ?_
  refine V_aload_n 25 rfl (show decode M_Post_addBox.2.1 24 = .ok (.aload_n 0, 1) by decide +kernel) 0 rfl ?_
  refine V_get (j := 5) (v := vI (SI σ_2 h0 5)) 28 rfl ck_Post (by decide) (by decide) (show decode M_Post_addBox.2.1 25 = .ok (.getfield 31, 3) by decide +kernel) wd_307 rfl ?_
  refine V_iload_n 29 rfl (show decode M_Post_addBox.2.1 28 = .ok (.iload_n 3, 1) by decide +kernel) 3 rfl ?_
  refine V_ast_int 30 rfl (show decode M_Post_addBox.2.1 29 = .ok (.iastore, 1) by decide +kernel) (fun σ_3 => ?_)
  refine V_aload_n 31 rfl (show decode M_Post_addBox.2.1 30 = .ok (.aload_n 0, 1) by decide +kernel) 0 rfl ?_
  refine V_get (j := 3) (v := vR (SR σ_3 h0 3)) 34 rfl ck_Post (by decide) (by decide) (show decode M_Post_addBox.2.1 31 = .ok (.getfield 19, 3) by decide +kernel) wd_303 rfl ?_
  refine V_aload_n 35 rfl (show decode M_Post_addBox.2.1 34 = .ok (.aload_n 0, 1) by decide +kernel) 0 rfl ?_
  refine V_get (j := 5) (v := vI (SI σ_3 h0 5)) 38 rfl ck_Post (by decide) (by decide) (show decode M_Post_addBox.2.1 35 = .ok (.getfield 31, 3) by decide +kernel) wd_307 rfl ?_
  refine V_iload 40 rfl (show decode M_Post_addBox.2.1 38 = .ok (.iload 4, 2) by decide +kernel) 4 rfl ?_
  refine V_ast_int 41 rfl (show decode M_Post_addBox.2.1 40 = .ok (.iastore, 1) by decide +kernel) (fun σ_4 => ?_)
  refine V_aload_n 42 rfl (show decode M_Post_addBox.2.1 41 = .ok (.aload_n 0, 1) by decide +kernel) 0 rfl ?_
  refine V_get (j := 4) (v := vR (SR σ_4 h0 4)) 45 rfl ck_Post (by decide) (by decide) (show decode M_Post_addBox.2.1 42 = .ok (.getfield 22, 3) by decide +kernel) wd_305 rfl ?_
  refine V_aload_n 46 rfl (show decode M_Post_addBox.2.1 45 = .ok (.aload_n 0, 1) by decide +kernel) 0 rfl ?_
  refine V_get (j := 5) (v := vI (SI σ_4 h0 5)) 49 rfl ck_Post (by decide) (by decide) (show decode M_Post_addBox.2.1 46 = .ok (.getfield 31, 3) by decide +kernel) wd_307 rfl ?_
  refine V_iconst 50 rfl (show decode M_Post_addBox.2.1 49 = .ok (.iconst 0, 1) by decide +kernel) (v := 0) rfl ?_
  refine V_ast_int 51 rfl (show decode M_Post_addBox.2.1 50 = .ok (.iastore, 1) by decide +kernel) (fun σ_5 => ?_)
  refine V_aload_n 52 rfl (show decode M_Post_addBox.2.1 51 = .ok (.aload_n 0, 1) by decide +kernel) 0 rfl ?_
  refine V_dup 53 rfl (show decode M_Post_addBox.2.1 52 = .ok (.dup, 1) by decide +kernel) rfl ?_
  refine V_get (j := 5) (v := vI (SI σ_5 h0 5)) 56 rfl ck_Post (by decide) (by decide) (show decode M_Post_addBox.2.1 53 = .ok (.getfield 31, 3) by decide +kernel) wd_307 rfl ?_
  refine V_iconst 57 rfl (show decode M_Post_addBox.2.1 56 = .ok (.iconst 1, 1) by decide +kernel) (v := 1) rfl ?_
  refine V_iadd 58 rfl (show decode M_Post_addBox.2.1 57 = .ok (.iadd, 1) by decide +kernel) ?_
  refine V_putI (j := 5) 61 rfl ck_Post (by decide) (by decide) (show decode M_Post_addBox.2.1 58 = .ok (.putfield 31, 3) by decide +kernel) wd_307 rfl (fun _ => rfl) rfl rfl (fun σ_6 => ?_)
  refine V_aload_n 62 rfl (show decode M_Post_addBox.2.1 61 = .ok (.aload_n 0, 1) by decide +kernel) 0 rfl ?_
  refine V_get (j := 5) (v := vI (SI σ_6 h0 5)) 65 rfl ck_Post (by decide) (by decide) (show decode M_Post_addBox.2.1 62 = .ok (.getfield 31, 3) by decide +kernel) wd_307 rfl ?_
  refine V_iconst 66 rfl (show decode M_Post_addBox.2.1 65 = .ok (.iconst 1, 1) by decide +kernel) (v := 1) rfl ?_
  refine V_isub 67 rfl (show decode M_Post_addBox.2.1 66 = .ok (.isub, 1) by decide +kernel) ?_
  exact V_iret rfl (by decide) (by decide) (show decode M_Post_addBox.2.1 67 = .ok (.ireturn, 1) by decide +kernel)
theorem cal_Post_addBox (d mc ms k n : Nat) (h1 : 1 + 1 ≤ d) (h2 : k + 0 ≤ mc) (h3 : n + 0 ≤ ms) : Cal M_Post_addBox 1 0 0 4 d mc ms k n := ⟨wd_1061, wd_174, by decide, h1, by decide, h2, h3⟩
abbrev M_Walker_hasEnded : MD := (⟨"LongTrail$Walker", "hasEnded", "()Z"⟩, prog_11_method_5_code, 1, (some FieldType.boolean))
def f_Walker_hasEnded (h0 : Nat) (b : Bool) (σ : Sto) : Rs Int32 := (lt_ (fun (b : Bool) (σ : Sto) => ((1 : Int32), b, σ)) (fun J16 => (if (SI σ h0 5) = (2 : Int32) then (J16 (b && cK σ h0 10) σ) else (if (SI σ h0 5) = (3 : Int32) then (J16 ((b && cK σ h0 10) && cK σ h0 10) σ) else ((0 : Int32), ((b && cK σ h0 10) && cK σ h0 10), σ)))))
set_option maxRecDepth 100000 in
set_option maxHeartbeats 4000000 in
theorem s_Walker_hasEnded : ∀ (h0 : Nat) (b : Bool) (σ : Sto), Snd M_Walker_hasEnded 1 0 0 [vR h0] b σ (tI (f_Walker_hasEnded h0 b σ).1) (f_Walker_hasEnded h0 b σ).2.1 (f_Walker_hasEnded h0 b σ).2.2 := by
  intro h0 b σ
  refine Snd_of (tv := tI) (by decide) (Nat.le_of_ble_eq_true rfl) ?_
  show V M_Walker_hasEnded 1 0 0 0 0 tI (f_Walker_hasEnded h0 b σ) 0 [(0, vR h0)] [] b σ
  unfold f_Walker_hasEnded
  refine V_aload_n 1 rfl (show decode M_Walker_hasEnded.2.1 0 = .ok (.aload_n 0, 1) by decide +kernel) 0 rfl ?_
  refine V_get (j := 5) (v := vI (SI σ h0 5)) 4 rfl ck_Walker (by decide) (by decide) (show decode M_Walker_hasEnded.2.1 1 = .ok (.getfield 25, 3) by decide +kernel) wd_430 rfl ?_
  refine V_iconst 5 rfl (show decode M_Walker_hasEnded.2.1 4 = .ok (.iconst 2, 1) by decide +kernel) (v := 2) rfl ?_
  refine V_jn (fun (J16 : Bool → Sto → Rs Int32) => ∀ (b : Bool) (σ : Sto), V M_Walker_hasEnded 1 0 0 0 0 tI (J16 b σ) 16 [] [] b σ) ?_ (fun J16 hJ16 => ?_)
  · intro b σ
    refine V_iconst 17 rfl (show decode M_Walker_hasEnded.2.1 16 = .ok (.iconst 1, 1) by decide +kernel) (v := 1) rfl ?_
    refine V_goto 21 (show decode M_Walker_hasEnded.2.1 17 = .ok (.goto 4, 3) by decide +kernel) rfl ?_
    exact V_zret rfl (by decide) (by decide) rfl (show decode M_Walker_hasEnded.2.1 21 = .ok (.ireturn, 1) by decide +kernel)
  · skip
    refine V_icmpeq 8 16 rfl (show decode M_Walker_hasEnded.2.1 5 = .ok (.if_icmp .eq 11, 3) by decide +kernel) rfl ?_ ?_
    · skip
      exact V_sub [] rfl (hJ16 (b && cK σ h0 10) σ)
    · skip
      refine V_aload_n 9 rfl (show decode M_Walker_hasEnded.2.1 8 = .ok (.aload_n 0, 1) by decide +kernel) 0 rfl ?_
      refine V_get (j := 5) (v := vI (SI σ h0 5)) 12 rfl ck_Walker (by decide) (by decide) (show decode M_Walker_hasEnded.2.1 9 = .ok (.getfield 25, 3) by decide +kernel) wd_430 rfl ?_
      refine V_iconst 13 rfl (show decode M_Walker_hasEnded.2.1 12 = .ok (.iconst 3, 1) by decide +kernel) (v := 3) rfl ?_
      refine V_icmpne 16 20 rfl (show decode M_Walker_hasEnded.2.1 13 = .ok (.if_icmp .ne 7, 3) by decide +kernel) rfl ?_ ?_
      · skip
        exact V_sub [] rfl (hJ16 ((b && cK σ h0 10) && cK σ h0 10) σ)
      · skip
        refine V_iconst 21 rfl (show decode M_Walker_hasEnded.2.1 20 = .ok (.iconst 0, 1) by decide +kernel) (v := 0) rfl ?_
        exact V_zret rfl (by decide) (by decide) rfl (show decode M_Walker_hasEnded.2.1 21 = .ok (.ireturn, 1) by decide +kernel)
theorem cal_Walker_hasEnded (d mc ms k n : Nat) (h1 : 1 + 1 ≤ d) (h2 : k + 0 ≤ mc) (h3 : n + 0 ≤ ms) : Cal M_Walker_hasEnded 1 0 0 0 d mc ms k n := ⟨wd_1057, wd_178, by decide, h1, by decide, h2, h3⟩
abbrev M_World_hasWalker : MD := (⟨"LongTrail$World", "hasWalker", "(I)Z"⟩, prog_12_method_3_code, 2, (some FieldType.boolean))
def f_World_hasWalker (h0 : Nat) (x1 : Int32) (b : Bool) (σ : Sto) : Rs Int32 := (bd_ (f_Trail_within x1 (0 : Int32) ((SI σ h0 7) - (1 : Int32)) (b && cK σ h0 11) σ) (fun (r_1 : Int32) (b_1 : Bool) (σ_1 : Sto) => (r_1, (b_1 && zok r_1), σ_1)))
set_option maxRecDepth 100000 in
set_option maxHeartbeats 4000000 in
theorem s_World_hasWalker : ∀ (h0 : Nat) (x1 : Int32) (b : Bool) (σ : Sto), Snd M_World_hasWalker 2 0 0 [vR h0, vI x1] b σ (tI (f_World_hasWalker h0 x1 b σ).1) (f_World_hasWalker h0 x1 b σ).2.1 (f_World_hasWalker h0 x1 b σ).2.2 := by
  intro h0 x1 b σ
  refine Snd_of (tv := tI) (by decide) (Nat.le_of_ble_eq_true rfl) ?_
  show V M_World_hasWalker 2 0 0 0 0 tI (f_World_hasWalker h0 x1 b σ) 0 [(0, vR h0), (1, vI x1)] [] b σ
  unfold f_World_hasWalker
  refine V_iload_n 1 rfl (show decode M_World_hasWalker.2.1 0 = .ok (.iload_n 1, 1) by decide +kernel) 1 rfl ?_
  refine V_iconst 2 rfl (show decode M_World_hasWalker.2.1 1 = .ok (.iconst 0, 1) by decide +kernel) (v := 0) rfl ?_
  refine V_aload_n 3 rfl (show decode M_World_hasWalker.2.1 2 = .ok (.aload_n 0, 1) by decide +kernel) 0 rfl ?_
  refine V_get (j := 7) (v := vI (SI σ h0 7)) 6 rfl ck_World (by decide) (by decide) (show decode M_World_hasWalker.2.1 3 = .ok (.getfield 77, 3) by decide +kernel) wd_512 rfl ?_
  refine V_iconst 7 rfl (show decode M_World_hasWalker.2.1 6 = .ok (.iconst 1, 1) by decide +kernel) (v := 1) rfl ?_
  refine V_isub 8 rfl (show decode M_World_hasWalker.2.1 7 = .ok (.isub, 1) by decide +kernel) ?_
  refine V_callSN (tb := tI) (as := [vI x1, vI (0 : Int32), vI ((SI σ h0 7) - (1 : Int32))]) (rest := []) (na := 3) 11 rfl (s_Trail_within x1 (0 : Int32) ((SI σ h0 7) - (1 : Int32)) (b && cK σ h0 11) σ) rfl rfl (Nat.le_of_ble_eq_true rfl) (cal_Trail_within _ _ _ _ _ (by decide) (by decide) (by decide)) (show decode M_World_hasWalker.2.1 8 = .ok (.invokestatic 87, 3) by decide +kernel) wd_1020 wd_629 (fun r_1 b_1 σ_1 => ?_)
  show V M_World_hasWalker 2 0 0 0 0 tI _ 11 [(0, vR h0), (1, vI x1)] [vI r_1] b_1 σ_1
  exact V_zretc rfl (by decide) (by decide) (show decode M_World_hasWalker.2.1 11 = .ok (.ireturn, 1) by decide +kernel)
theorem cal_World_hasWalker (d mc ms k n : Nat) (h1 : 2 + 1 ≤ d) (h2 : k + 0 ≤ mc) (h3 : n + 0 ≤ ms) : Cal M_World_hasWalker 2 0 0 1 d mc ms k n := ⟨wd_1019, wd_171, by decide, h1, by decide, h2, h3⟩
abbrev M_Trail_box : MD := (⟨"LongTrail", "box", "(IIII)I"⟩, prog_1_method_22_code, 5, (some FieldType.int))
def f_Trail_box (h0 : Nat) (x1 : Int32) (x2 : Int32) (x3 : Int32) (x4 : Int32) (b : Bool) (σ : Sto) : Rs Int32 := (bd_ (f_World_hasWalker (SR σ h0 0) x1 ((b && cK σ h0 12) && cK σ (SR σ h0 0) 11) σ) (fun (r_1 : Int32) (b_1 : Bool) (σ_1 : Sto) => (lt_ (fun (b : Bool) (σ : Sto) => ((-1000000001 : Int32), b, σ)) (fun J46 => (if r_1 = 0 then (J46 b_1 σ_1) else (bd_ (f_Ground_hasPlace (SR σ_1 (SR σ_1 h0 0) 0) x2 (((b_1 && cK σ_1 h0 12) && cK σ_1 (SR σ_1 h0 0) 11) && cK σ_1 (SR σ_1 (SR σ_1 h0 0) 0) 2) σ_1) (fun (r_2 : Int32) (b_2 : Bool) (σ_2 : Sto) => (if r_2 = 0 then (J46 b_2 σ_2) else (bd_ (f_Trail_within x3 (1 : Int32) (20 : Int32) b_2 σ_2) (fun (r_3 : Int32) (b_3 : Bool) (σ_3 : Sto) => (if r_3 = 0 then (J46 b_3 σ_3) else (bd_ (f_Trail_within x4 (0 : Int32) (99 : Int32) b_3 σ_3) (fun (r_4 : Int32) (b_4 : Bool) (σ_4 : Sto) => (if r_4 = 0 then (J46 b_4 σ_4) else (bd_ (f_Ground_isTown (SR σ_4 (SR σ_4 h0 0) 0) x2 (((b_4 && cK σ_4 h0 12) && cK σ_4 (SR σ_4 h0 0) 11) && cK σ_4 (SR σ_4 (SR σ_4 h0 0) 0) 2) σ_4) (fun (r_5 : Int32) (b_5 : Bool) (σ_5 : Sto) => (if r_5 = 0 then ((-1000000012 : Int32), b_5, σ_5) else (bd_ (f_Walker_hasEnded (SR σ_5 (SR σ_5 (SR σ_5 h0 0) 6) (ix x1)) ((((b_5 && cK σ_5 h0 12) && cK σ_5 (SR σ_5 h0 0) 11) && cA σ_5 (SR σ_5 (SR σ_5 h0 0) 6) 26 x1) && cK σ_5 (SR σ_5 (SR σ_5 (SR σ_5 h0 0) 6) (ix x1)) 10) σ_5) (fun (r_6 : Int32) (b_6 : Bool) (σ_6 : Sto) => (if r_6 = 0 then (if (SI σ_6 (SR σ_6 (SR σ_6 h0 0) 2) 5) < (20 : Int32) then (bd_ (f_Post_addBox (SR σ_6 (SR σ_6 h0 0) 2) x1 x2 x3 ((SI σ_6 (SR σ_6 h0 0) 8) + x4) ((((((((b_6 && cK σ_6 h0 12) && cK σ_6 (SR σ_6 h0 0) 11) && cK σ_6 (SR σ_6 (SR σ_6 h0 0) 2) 5) && cK σ_6 h0 12) && cK σ_6 (SR σ_6 h0 0) 11) && cK σ_6 h0 12) && cK σ_6 (SR σ_6 h0 0) 11) && cK σ_6 (SR σ_6 (SR σ_6 h0 0) 2) 5) σ_6) (fun (r_7 : Int32) (b_7 : Bool) (σ_7 : Sto) => (r_7, b_7, σ_7))) else ((-1000000003 : Int32), (((b_6 && cK σ_6 h0 12) && cK σ_6 (SR σ_6 h0 0) 11) && cK σ_6 (SR σ_6 (SR σ_6 h0 0) 2) 5), σ_6)) else ((-1000000002 : Int32), b_6, σ_6)))))))))))))))))))))
set_option maxRecDepth 100000 in
set_option maxHeartbeats 4000000 in
theorem s_Trail_box : ∀ (h0 : Nat) (x1 : Int32) (x2 : Int32) (x3 : Int32) (x4 : Int32) (b : Bool) (σ : Sto), Snd M_Trail_box 3 0 0 [vR h0, vI x1, vI x2, vI x3, vI x4] b σ (tI (f_Trail_box h0 x1 x2 x3 x4 b σ).1) (f_Trail_box h0 x1 x2 x3 x4 b σ).2.1 (f_Trail_box h0 x1 x2 x3 x4 b σ).2.2 := by
  intro h0 x1 x2 x3 x4 b σ
  refine Snd_of (tv := tI) (by decide) (Nat.le_of_ble_eq_true rfl) ?_
  show V M_Trail_box 3 0 0 0 0 tI (f_Trail_box h0 x1 x2 x3 x4 b σ) 0 [(0, vR h0), (1, vI x1), (2, vI x2), (3, vI x3), (4, vI x4)] [] b σ
  unfold f_Trail_box
  refine V_aload_n 1 rfl (show decode M_Trail_box.2.1 0 = .ok (.aload_n 0, 1) by decide +kernel) 0 rfl ?_
  refine V_get (j := 0) (v := vR (SR σ h0 0)) 4 rfl ck_Trail (by decide) (by decide) (show decode M_Trail_box.2.1 1 = .ok (.getfield 10, 3) by decide +kernel) wd_599 rfl ?_
  refine V_iload_n 5 rfl (show decode M_Trail_box.2.1 4 = .ok (.iload_n 1, 1) by decide +kernel) 1 rfl ?_
  refine V_callVN (tb := tI) (as := [vI x1]) (rest := []) (na := 1) 8 rfl ck_World (by decide) (s_World_hasWalker (SR σ h0 0) x1 ((b && cK σ h0 12) && cK σ (SR σ h0 0) 11) σ) rfl rfl (Nat.le_of_ble_eq_true rfl) (cal_World_hasWalker _ _ _ _ _ (by decide) (by decide) (by decide)) (show decode M_Trail_box.2.1 5 = .ok (.invokevirtual 202, 3) by decide +kernel) wd_1016 wd_1018 wd_35 (fun r_1 b_1 σ_1 => ?_)
  show V M_Trail_box 3 0 0 0 0 tI _ 8 [(0, vR h0), (1, vI x1), (2, vI x2), (3, vI x3), (4, vI x4)] [vI r_1] b_1 σ_1
  refine V_jn (fun (J46 : Bool → Sto → Rs Int32) => ∀ (b : Bool) (σ : Sto), V M_Trail_box 3 0 0 0 0 tI (J46 b σ) 46 [] [] b σ) ?_ (fun J46 hJ46 => ?_)
  · intro b σ
    refine V_ldc 48 rfl (show decode M_Trail_box.2.1 46 = .ok (.ldc 44, 2) by decide +kernel) wd_631 ?_
    exact V_iret rfl (by decide) (by decide) (show decode M_Trail_box.2.1 48 = .ok (.ireturn, 1) by decide +kernel)
  · skip
    refine V_ifeq 11 46 rfl (show decode M_Trail_box.2.1 8 = .ok (.ifCond .eq 38, 3) by decide +kernel) rfl ?_ ?_
    · skip
      exact V_sub [] rfl (hJ46 b_1 σ_1)
    · skip
      refine V_aload_n 12 rfl (show decode M_Trail_box.2.1 11 = .ok (.aload_n 0, 1) by decide +kernel) 0 rfl ?_
      refine V_get (j := 0) (v := vR (SR σ_1 h0 0)) 15 rfl ck_Trail (by decide) (by decide) (show decode M_Trail_box.2.1 12 = .ok (.getfield 10, 3) by decide +kernel) wd_599 rfl ?_
      refine V_getN (j := 0) (v := vR (SR σ_1 (SR σ_1 h0 0) 0)) 18 rfl ck_World (by decide) (by decide) (show decode M_Trail_box.2.1 15 = .ok (.getfield 49, 3) by decide +kernel) wd_498 rfl ?_
      refine V_iload_n 19 rfl (show decode M_Trail_box.2.1 18 = .ok (.iload_n 2, 1) by decide +kernel) 2 rfl ?_
      refine V_callVN (tb := tI) (as := [vI x2]) (rest := []) (na := 1) 22 rfl ck_Ground (by decide) (s_Ground_hasPlace (SR σ_1 (SR σ_1 h0 0) 0) x2 (((b_1 && cK σ_1 h0 12) && cK σ_1 (SR σ_1 h0 0) 11) && cK σ_1 (SR σ_1 (SR σ_1 h0 0) 0) 2) σ_1) rfl rfl (Nat.le_of_ble_eq_true rfl) (cal_Ground_hasPlace _ _ _ _ _ (by decide) (by decide) (by decide)) (show decode M_Trail_box.2.1 19 = .ok (.invokevirtual 89, 3) by decide +kernel) wd_666 wd_668 wd_5 (fun r_2 b_2 σ_2 => ?_)
      show V M_Trail_box 3 0 0 0 0 tI _ 22 [(0, vR h0), (1, vI x1), (2, vI x2), (3, vI x3), (4, vI x4)] [vI r_2] b_2 σ_2
      refine V_ifeq 25 46 rfl (show decode M_Trail_box.2.1 22 = .ok (.ifCond .eq 24, 3) by decide +kernel) rfl ?_ ?_
      · skip
        exact V_sub [] rfl (hJ46 b_2 σ_2)
      · skip
        refine V_iload_n 26 rfl (show decode M_Trail_box.2.1 25 = .ok (.iload_n 3, 1) by decide +kernel) 3 rfl ?_
        refine V_iconst 27 rfl (show decode M_Trail_box.2.1 26 = .ok (.iconst 1, 1) by decide +kernel) (v := 1) rfl ?_
        refine V_bipush 29 rfl (show decode M_Trail_box.2.1 27 = .ok (.bipush 20, 2) by decide +kernel) (v := 20) rfl ?_
        refine V_callS (tb := tI) (as := [vI x3, vI (1 : Int32), vI (20 : Int32)]) (rest := []) (na := 3) 32 rfl (s_Trail_within x3 (1 : Int32) (20 : Int32) b_2 σ_2) rfl rfl (Nat.le_of_ble_eq_true rfl) (cal_Trail_within _ _ _ _ _ (by decide) (by decide) (by decide)) (show decode M_Trail_box.2.1 29 = .ok (.invokestatic 40, 3) by decide +kernel) wd_628 wd_629 (fun r_3 b_3 σ_3 => ?_)
        show V M_Trail_box 3 0 0 0 0 tI _ 32 [(0, vR h0), (1, vI x1), (2, vI x2), (3, vI x3), (4, vI x4)] [vI r_3] b_3 σ_3
        refine V_ifeq 35 46 rfl (show decode M_Trail_box.2.1 32 = .ok (.ifCond .eq 14, 3) by decide +kernel) rfl ?_ ?_
        · skip
          exact V_sub [] rfl (hJ46 b_3 σ_3)
        · skip
          refine V_iload 37 rfl (show decode M_Trail_box.2.1 35 = .ok (.iload 4, 2) by decide +kernel) 4 rfl ?_
          refine V_iconst 38 rfl (show decode M_Trail_box.2.1 37 = .ok (.iconst 0, 1) by decide +kernel) (v := 0) rfl ?_
          refine V_bipush 40 rfl (show decode M_Trail_box.2.1 38 = .ok (.bipush 99, 2) by decide +kernel) (v := 99) rfl ?_
          refine V_callS (tb := tI) (as := [vI x4, vI (0 : Int32), vI (99 : Int32)]) (rest := []) (na := 3) 43 rfl (s_Trail_within x4 (0 : Int32) (99 : Int32) b_3 σ_3) rfl rfl (Nat.le_of_ble_eq_true rfl) (cal_Trail_within _ _ _ _ _ (by decide) (by decide) (by decide)) (show decode M_Trail_box.2.1 40 = .ok (.invokestatic 40, 3) by decide +kernel) wd_628 wd_629 (fun r_4 b_4 σ_4 => ?_)
          show V M_Trail_box 3 0 0 0 0 tI _ 43 [(0, vR h0), (1, vI x1), (2, vI x2), (3, vI x3), (4, vI x4)] [vI r_4] b_4 σ_4
          refine V_ifne 46 49 rfl (show decode M_Trail_box.2.1 43 = .ok (.ifCond .ne 6, 3) by decide +kernel) rfl ?_ ?_
          · skip
            exact V_sub [] rfl (hJ46 b_4 σ_4)
          · skip
            refine V_aload_n 50 rfl (show decode M_Trail_box.2.1 49 = .ok (.aload_n 0, 1) by decide +kernel) 0 rfl ?_
            refine V_get (j := 0) (v := vR (SR σ_4 h0 0)) 53 rfl ck_Trail (by decide) (by decide) (show decode M_Trail_box.2.1 50 = .ok (.getfield 10, 3) by decide +kernel) wd_599 rfl ?_
            refine V_getN (j := 0) (v := vR (SR σ_4 (SR σ_4 h0 0) 0)) 56 rfl ck_World (by decide) (by decide) (show decode M_Trail_box.2.1 53 = .ok (.getfield 49, 3) by decide +kernel) wd_498 rfl ?_
            refine V_iload_n 57 rfl (show decode M_Trail_box.2.1 56 = .ok (.iload_n 2, 1) by decide +kernel) 2 rfl ?_
            refine V_callVN (tb := tI) (as := [vI x2]) (rest := []) (na := 1) 60 rfl ck_Ground (by decide) (s_Ground_isTown (SR σ_4 (SR σ_4 h0 0) 0) x2 (((b_4 && cK σ_4 h0 12) && cK σ_4 (SR σ_4 h0 0) 11) && cK σ_4 (SR σ_4 (SR σ_4 h0 0) 0) 2) σ_4) rfl rfl (Nat.le_of_ble_eq_true rfl) (cal_Ground_isTown _ _ _ _ _ (by decide) (by decide) (by decide)) (show decode M_Trail_box.2.1 57 = .ok (.invokevirtual 120, 3) by decide +kernel) wd_697 wd_699 wd_10 (fun r_5 b_5 σ_5 => ?_)
            show V M_Trail_box 3 0 0 0 0 tI _ 60 [(0, vR h0), (1, vI x1), (2, vI x2), (3, vI x3), (4, vI x4)] [vI r_5] b_5 σ_5
            refine V_ifne 63 66 rfl (show decode M_Trail_box.2.1 60 = .ok (.ifCond .ne 6, 3) by decide +kernel) rfl ?_ ?_
            · skip
              refine V_ldc 65 rfl (show decode M_Trail_box.2.1 63 = .ok (.ldc 119, 2) by decide +kernel) wd_692 ?_
              exact V_iret rfl (by decide) (by decide) (show decode M_Trail_box.2.1 65 = .ok (.ireturn, 1) by decide +kernel)
            · skip
              refine V_aload_n 67 rfl (show decode M_Trail_box.2.1 66 = .ok (.aload_n 0, 1) by decide +kernel) 0 rfl ?_
              refine V_get (j := 0) (v := vR (SR σ_5 h0 0)) 70 rfl ck_Trail (by decide) (by decide) (show decode M_Trail_box.2.1 67 = .ok (.getfield 10, 3) by decide +kernel) wd_599 rfl ?_
              refine V_getN (j := 6) (v := vR (SR σ_5 (SR σ_5 h0 0) 6)) 73 rfl ck_World (by decide) (by decide) (show decode M_Trail_box.2.1 70 = .ok (.getfield 194, 3) by decide +kernel) wd_510 rfl ?_
              refine V_iload_n 74 rfl (show decode M_Trail_box.2.1 73 = .ok (.iload_n 1, 1) by decide +kernel) 1 rfl ?_
              refine V_ald_r26 75 rfl (show decode M_Trail_box.2.1 74 = .ok (.aaload, 1) by decide +kernel) ?_
              refine V_callVN (tb := tI) (as := []) (rest := []) (na := 0) 78 rfl ck_Walker (by decide) (s_Walker_hasEnded (SR σ_5 (SR σ_5 (SR σ_5 h0 0) 6) (ix x1)) ((((b_5 && cK σ_5 h0 12) && cK σ_5 (SR σ_5 h0 0) 11) && cA σ_5 (SR σ_5 (SR σ_5 h0 0) 6) 26 x1) && cK σ_5 (SR σ_5 (SR σ_5 (SR σ_5 h0 0) 6) (ix x1)) 10) σ_5) rfl rfl (Nat.le_of_ble_eq_true rfl) (cal_Walker_hasEnded _ _ _ _ _ (by decide) (by decide) (by decide)) (show decode M_Trail_box.2.1 75 = .ok (.invokevirtual 229, 3) by decide +kernel) wd_1054 wd_1056 wd_40 (fun r_6 b_6 σ_6 => ?_)
              show V M_Trail_box 3 0 0 0 0 tI _ 78 [(0, vR h0), (1, vI x1), (2, vI x2), (3, vI x3), (4, vI x4)] [vI r_6] b_6 σ_6
              refine V_ifeq 81 84 rfl (show decode M_Trail_box.2.1 78 = .ok (.ifCond .eq 6, 3) by decide +kernel) rfl ?_ ?_
              · skip
                refine V_aload_n 85 rfl (show decode M_Trail_box.2.1 84 = .ok (.aload_n 0, 1) by decide +kernel) 0 rfl ?_
                refine V_get (j := 0) (v := vR (SR σ_6 h0 0)) 88 rfl ck_Trail (by decide) (by decide) (show decode M_Trail_box.2.1 85 = .ok (.getfield 10, 3) by decide +kernel) wd_599 rfl ?_
                refine V_getN (j := 2) (v := vR (SR σ_6 (SR σ_6 h0 0) 2)) 91 rfl ck_World (by decide) (by decide) (show decode M_Trail_box.2.1 88 = .ok (.getfield 107, 3) by decide +kernel) wd_502 rfl ?_
                refine V_getN (j := 5) (v := vI (SI σ_6 (SR σ_6 (SR σ_6 h0 0) 2) 5)) 94 rfl ck_Post (by decide) (by decide) (show decode M_Trail_box.2.1 91 = .ok (.getfield 233, 3) by decide +kernel) wd_308 rfl ?_
                refine V_bipush 96 rfl (show decode M_Trail_box.2.1 94 = .ok (.bipush 20, 2) by decide +kernel) (v := 20) rfl ?_
                refine V_icmplt 99 102 rfl (show decode M_Trail_box.2.1 96 = .ok (.if_icmp .lt 6, 3) by decide +kernel) rfl ?_ ?_
                · skip
                  refine V_aload_n 103 rfl (show decode M_Trail_box.2.1 102 = .ok (.aload_n 0, 1) by decide +kernel) 0 rfl ?_
                  refine V_get (j := 0) (v := vR (SR σ_6 h0 0)) 106 rfl ck_Trail (by decide) (by decide) (show decode M_Trail_box.2.1 103 = .ok (.getfield 10, 3) by decide +kernel) wd_599 rfl ?_
                  refine V_getN (j := 2) (v := vR (SR σ_6 (SR σ_6 h0 0) 2)) 109 rfl ck_World (by decide) (by decide) (show decode M_Trail_box.2.1 106 = .ok (.getfield 107, 3) by decide +kernel) wd_502 rfl ?_
                  refine V_iload_n 110 rfl (show decode M_Trail_box.2.1 109 = .ok (.iload_n 1, 1) by decide +kernel) 1 rfl ?_
                  refine V_iload_n 111 rfl (show decode M_Trail_box.2.1 110 = .ok (.iload_n 2, 1) by decide +kernel) 2 rfl ?_
                  refine V_iload_n 112 rfl (show decode M_Trail_box.2.1 111 = .ok (.iload_n 3, 1) by decide +kernel) 3 rfl ?_
                  refine V_aload_n 113 rfl (show decode M_Trail_box.2.1 112 = .ok (.aload_n 0, 1) by decide +kernel) 0 rfl ?_
                  refine V_get (j := 0) (v := vR (SR σ_6 h0 0)) 116 rfl ck_Trail (by decide) (by decide) (show decode M_Trail_box.2.1 113 = .ok (.getfield 10, 3) by decide +kernel) wd_599 rfl ?_
                  refine V_getN (j := 8) (v := vI (SI σ_6 (SR σ_6 h0 0) 8)) 119 rfl ck_World (by decide) (by decide) (show decode M_Trail_box.2.1 116 = .ok (.getfield 138, 3) by decide +kernel) wd_514 rfl ?_
                  refine V_iload 121 rfl (show decode M_Trail_box.2.1 119 = .ok (.iload 4, 2) by decide +kernel) 4 rfl ?_
                  refine V_iadd 122 rfl (show decode M_Trail_box.2.1 121 = .ok (.iadd, 1) by decide +kernel) ?_
                  refine V_callVN (tb := tI) (as := [vI x1, vI x2, vI x3, vI ((SI σ_6 (SR σ_6 h0 0) 8) + x4)]) (rest := []) (na := 4) 125 rfl ck_Post (by decide) (s_Post_addBox (SR σ_6 (SR σ_6 h0 0) 2) x1 x2 x3 ((SI σ_6 (SR σ_6 h0 0) 8) + x4) ((((((((b_6 && cK σ_6 h0 12) && cK σ_6 (SR σ_6 h0 0) 11) && cK σ_6 (SR σ_6 (SR σ_6 h0 0) 2) 5) && cK σ_6 h0 12) && cK σ_6 (SR σ_6 h0 0) 11) && cK σ_6 h0 12) && cK σ_6 (SR σ_6 h0 0) 11) && cK σ_6 (SR σ_6 (SR σ_6 h0 0) 2) 5) σ_6) rfl rfl (Nat.le_of_ble_eq_true rfl) (cal_Post_addBox _ _ _ _ _ (by decide) (by decide) (by decide)) (show decode M_Trail_box.2.1 122 = .ok (.invokevirtual 234, 3) by decide +kernel) wd_1058 wd_1060 wd_41 (fun r_7 b_7 σ_7 => ?_)
                  show V M_Trail_box 3 0 0 0 0 tI _ 125 [(0, vR h0), (1, vI x1), (2, vI x2), (3, vI x3), (4, vI x4)] [vI r_7] b_7 σ_7
                  exact V_iret rfl (by decide) (by decide) (show decode M_Trail_box.2.1 125 = .ok (.ireturn, 1) by decide +kernel)
                · skip
                  refine V_ldc 101 rfl (show decode M_Trail_box.2.1 99 = .ok (.ldc 84, 2) by decide +kernel) wd_657 ?_
                  exact V_iret rfl (by decide) (by decide) (show decode M_Trail_box.2.1 101 = .ok (.ireturn, 1) by decide +kernel)
              · skip
                refine V_ldc 83 rfl (show decode M_Trail_box.2.1 81 = .ok (.ldc 66, 2) by decide +kernel) wd_640 ?_
                exact V_iret rfl (by decide) (by decide) (show decode M_Trail_box.2.1 83 = .ok (.ireturn, 1) by decide +kernel)
theorem cal_Trail_box (d mc ms k n : Nat) (h1 : 3 + 1 ≤ d) (h2 : k + 0 ≤ mc) (h3 : n + 0 ≤ ms) : Cal M_Trail_box 3 0 0 4 d mc ms k n := ⟨wd_1053, wd_170, by decide, h1, by decide, h2, h3⟩
abbrev M_Post_hasBox : MD := (⟨"LongTrail$Post", "hasBox", "(I)Z"⟩, prog_6_method_3_code, 2, (some FieldType.boolean))
def f_Post_hasBox (h0 : Nat) (x1 : Int32) (b : Bool) (σ : Sto) : Rs Int32 := (bd_ (f_Trail_within x1 (0 : Int32) ((SI σ h0 5) - (1 : Int32)) (b && cK σ h0 5) σ) (fun (r_1 : Int32) (b_1 : Bool) (σ_1 : Sto) => (r_1, (b_1 && zok r_1), σ_1)))
set_option maxRecDepth 100000 in
set_option maxHeartbeats 4000000 in
theorem s_Post_hasBox : ∀ (h0 : Nat) (x1 : Int32) (b : Bool) (σ : Sto), Snd M_Post_hasBox 2 0 0 [vR h0, vI x1] b σ (tI (f_Post_hasBox h0 x1 b σ).1) (f_Post_hasBox h0 x1 b σ).2.1 (f_Post_hasBox h0 x1 b σ).2.2 := by
  intro h0 x1 b σ
  refine Snd_of (tv := tI) (by decide) (Nat.le_of_ble_eq_true rfl) ?_
  show V M_Post_hasBox 2 0 0 0 0 tI (f_Post_hasBox h0 x1 b σ) 0 [(0, vR h0), (1, vI x1)] [] b σ
  unfold f_Post_hasBox
  refine V_iload_n 1 rfl (show decode M_Post_hasBox.2.1 0 = .ok (.iload_n 1, 1) by decide +kernel) 1 rfl ?_
  refine V_iconst 2 rfl (show decode M_Post_hasBox.2.1 1 = .ok (.iconst 0, 1) by decide +kernel) (v := 0) rfl ?_
  refine V_aload_n 3 rfl (show decode M_Post_hasBox.2.1 2 = .ok (.aload_n 0, 1) by decide +kernel) 0 rfl ?_
  refine V_get (j := 5) (v := vI (SI σ h0 5)) 6 rfl ck_Post (by decide) (by decide) (show decode M_Post_hasBox.2.1 3 = .ok (.getfield 31, 3) by decide +kernel) wd_307 rfl ?_
  refine V_iconst 7 rfl (show decode M_Post_hasBox.2.1 6 = .ok (.iconst 1, 1) by decide +kernel) (v := 1) rfl ?_
  refine V_isub 8 rfl (show decode M_Post_hasBox.2.1 7 = .ok (.isub, 1) by decide +kernel) ?_
  refine V_callSN (tb := tI) (as := [vI x1, vI (0 : Int32), vI ((SI σ h0 5) - (1 : Int32))]) (rest := []) (na := 3) 11 rfl (s_Trail_within x1 (0 : Int32) ((SI σ h0 5) - (1 : Int32)) (b && cK σ h0 5) σ) rfl rfl (Nat.le_of_ble_eq_true rfl) (cal_Trail_within _ _ _ _ _ (by decide) (by decide) (by decide)) (show decode M_Post_hasBox.2.1 8 = .ok (.invokestatic 35, 3) by decide +kernel) wd_1070 wd_629 (fun r_1 b_1 σ_1 => ?_)
  show V M_Post_hasBox 2 0 0 0 0 tI _ 11 [(0, vR h0), (1, vI x1)] [vI r_1] b_1 σ_1
  exact V_zretc rfl (by decide) (by decide) (show decode M_Post_hasBox.2.1 11 = .ok (.ireturn, 1) by decide +kernel)
theorem cal_Post_hasBox (d mc ms k n : Nat) (h1 : 2 + 1 ≤ d) (h2 : k + 0 ≤ mc) (h3 : n + 0 ≤ ms) : Cal M_Post_hasBox 2 0 0 1 d mc ms k n := ⟨wd_1069, wd_174, by decide, h1, by decide, h2, h3⟩
abbrev M_Trail_boxTold : MD := (⟨"LongTrail", "boxTold", "(II)I"⟩, prog_1_method_24_code, 4, (some FieldType.int))
def f_Trail_boxTold (h0 : Nat) (x1 : Int32) (x2 : Int32) (b : Bool) (σ : Sto) : Rs Int32 := (lt_ (SR σ (SR σ h0 0) 2) (fun (h3_1 : Nat) => (bd_ (f_Post_hasBox h3_1 x1 (((b && cK σ h0 12) && cK σ (SR σ h0 0) 11) && cK σ h3_1 5) σ) (fun (r_2 : Int32) (b_2 : Bool) (σ_2 : Sto) => (if r_2 = 0 then ((-1000000001 : Int32), b_2, σ_2) else (if x2 = (0 : Int32) then ((SI σ_2 (SR σ_2 h3_1 0) (ix x1)), ((b_2 && cK σ_2 h3_1 5) && cA σ_2 (SR σ_2 h3_1 0) 21 x1), σ_2) else (if x2 = (1 : Int32) then ((SI σ_2 (SR σ_2 h3_1 1) (ix x1)), ((b_2 && cK σ_2 h3_1 5) && cA σ_2 (SR σ_2 h3_1 1) 21 x1), σ_2) else (if x2 = (2 : Int32) then ((SI σ_2 (SR σ_2 h3_1 2) (ix x1)), ((b_2 && cK σ_2 h3_1 5) && cA σ_2 (SR σ_2 h3_1 2) 21 x1), σ_2) else (if x2 = (3 : Int32) then ((SI σ_2 (SR σ_2 h3_1 3) (ix x1)), ((b_2 && cK σ_2 h3_1 5) && cA σ_2 (SR σ_2 h3_1 3) 21 x1), σ_2) else (if x2 = (4 : Int32) then ((SI σ_2 (SR σ_2 h3_1 4) (ix x1)), ((b_2 && cK σ_2 h3_1 5) && cA σ_2 (SR σ_2 h3_1 4) 21 x1), σ_2) else ((-1000000001 : Int32), b_2, σ_2)))))))))))
set_option maxRecDepth 100000 in
set_option maxHeartbeats 4000000 in
theorem s_Trail_boxTold : ∀ (h0 : Nat) (x1 : Int32) (x2 : Int32) (b : Bool) (σ : Sto), Snd M_Trail_boxTold 3 0 0 [vR h0, vI x1, vI x2] b σ (tI (f_Trail_boxTold h0 x1 x2 b σ).1) (f_Trail_boxTold h0 x1 x2 b σ).2.1 (f_Trail_boxTold h0 x1 x2 b σ).2.2 := by
  intro h0 x1 x2 b σ
  refine Snd_of (tv := tI) (by decide) (Nat.le_of_ble_eq_true rfl) ?_
  show V M_Trail_boxTold 3 0 0 0 0 tI (f_Trail_boxTold h0 x1 x2 b σ) 0 [(0, vR h0), (1, vI x1), (2, vI x2)] [] b σ
  unfold f_Trail_boxTold
  refine V_aload_n 1 rfl (show decode M_Trail_boxTold.2.1 0 = .ok (.aload_n 0, 1) by decide +kernel) 0 rfl ?_
  refine V_get (j := 0) (v := vR (SR σ h0 0)) 4 rfl ck_Trail (by decide) (by decide) (show decode M_Trail_boxTold.2.1 1 = .ok (.getfield 10, 3) by decide +kernel) wd_599 rfl ?_
  refine V_getN (j := 2) (v := vR (SR σ (SR σ h0 0) 2)) 7 rfl ck_World (by decide) (by decide) (show decode M_Trail_boxTold.2.1 4 = .ok (.getfield 107, 3) by decide +kernel) wd_502 rfl ?_
  refine V_astore_n (fun h3_1 => [(3, vR h3_1), (0, vR h0), (1, vI x1), (2, vI x2)]) 8 rfl (show decode M_Trail_boxTold.2.1 7 = .ok (.astore_n 3, 1) by decide +kernel) (by decide) (fun _ => rfl) (fun h3_1 => ?_)
  refine V_aload_n 9 rfl (show decode M_Trail_boxTold.2.1 8 = .ok (.aload_n 3, 1) by decide +kernel) 0 rfl ?_
  refine V_iload_n 10 rfl (show decode M_Trail_boxTold.2.1 9 = .ok (.iload_n 1, 1) by decide +kernel) 2 rfl ?_
  refine V_callVN (tb := tI) (as := [vI x1]) (rest := []) (na := 1) 13 rfl ck_Post (by decide) (s_Post_hasBox h3_1 x1 (((b && cK σ h0 12) && cK σ (SR σ h0 0) 11) && cK σ h3_1 5) σ) rfl rfl (Nat.le_of_ble_eq_true rfl) (cal_Post_hasBox _ _ _ _ _ (by decide) (by decide) (by decide)) (show decode M_Trail_boxTold.2.1 10 = .ok (.invokevirtual 237, 3) by decide +kernel) wd_1066 wd_1068 wd_42 (fun r_2 b_2 σ_2 => ?_)
  show V M_Trail_boxTold 3 0 0 0 0 tI _ 13 [(3, vR h3_1), (0, vR h0), (1, vI x1), (2, vI x2)] [vI r_2] b_2 σ_2
  refine V_ifne 16 19 rfl (show decode M_Trail_boxTold.2.1 13 = .ok (.ifCond .ne 6, 3) by decide +kernel) rfl ?_ ?_
  · skip
    refine V_ldc 18 rfl (show decode M_Trail_boxTold.2.1 16 = .ok (.ldc 44, 2) by decide +kernel) wd_631 ?_
    exact V_iret rfl (by decide) (by decide) (show decode M_Trail_boxTold.2.1 18 = .ok (.ireturn, 1) by decide +kernel)
  · skip
    refine V_iload_n 20 rfl (show decode M_Trail_boxTold.2.1 19 = .ok (.iload_n 2, 1) by decide +kernel) 3 rfl ?_
    refine V_ite (fun hs20_0 => ?_) (fun hs20_0 => ?_)
    · refine V_tswIn (off := 36) 56 (show decode M_Trail_boxTold.2.1 20 = .ok (.tableswitch 71 0 4 #[36, 43, 50, 57, 64], 36) by decide +kernel) (by rw [hs20_0]; decide) (by rw [hs20_0]; decide) (by rw [hs20_0]; decide) rfl ?_
      refine V_aload_n 57 rfl (show decode M_Trail_boxTold.2.1 56 = .ok (.aload_n 3, 1) by decide +kernel) 0 rfl ?_
      refine V_getN (j := 0) (v := vR (SR σ_2 h3_1 0)) 60 rfl ck_Post (by decide) (by decide) (show decode M_Trail_boxTold.2.1 57 = .ok (.getfield 249, 3) by decide +kernel) wd_298 rfl ?_
      refine V_iload_n 61 rfl (show decode M_Trail_boxTold.2.1 60 = .ok (.iload_n 1, 1) by decide +kernel) 2 rfl ?_
      refine V_ald_int 62 rfl (show decode M_Trail_boxTold.2.1 61 = .ok (.iaload, 1) by decide +kernel) ?_
      exact V_iret rfl (by decide) (by decide) (show decode M_Trail_boxTold.2.1 62 = .ok (.ireturn, 1) by decide +kernel)
    refine V_ite (fun hs20_1 => ?_) (fun hs20_1 => ?_)
    · refine V_tswIn (off := 43) 63 (show decode M_Trail_boxTold.2.1 20 = .ok (.tableswitch 71 0 4 #[36, 43, 50, 57, 64], 36) by decide +kernel) (by rw [hs20_1]; decide) (by rw [hs20_1]; decide) (by rw [hs20_1]; decide) rfl ?_
      refine V_aload_n 64 rfl (show decode M_Trail_boxTold.2.1 63 = .ok (.aload_n 3, 1) by decide +kernel) 0 rfl ?_
      refine V_getN (j := 1) (v := vR (SR σ_2 h3_1 1)) 67 rfl ck_Post (by decide) (by decide) (show decode M_Trail_boxTold.2.1 64 = .ok (.getfield 243, 3) by decide +kernel) wd_300 rfl ?_
      refine V_iload_n 68 rfl (show decode M_Trail_boxTold.2.1 67 = .ok (.iload_n 1, 1) by decide +kernel) 2 rfl ?_
      refine V_ald_int 69 rfl (show decode M_Trail_boxTold.2.1 68 = .ok (.iaload, 1) by decide +kernel) ?_
      exact V_iret rfl (by decide) (by decide) (show decode M_Trail_boxTold.2.1 69 = .ok (.ireturn, 1) by decide +kernel)
    refine V_ite (fun hs20_2 => ?_) (fun hs20_2 => ?_)
    · refine V_tswIn (off := 50) 70 (show decode M_Trail_boxTold.2.1 20 = .ok (.tableswitch 71 0 4 #[36, 43, 50, 57, 64], 36) by decide +kernel) (by rw [hs20_2]; decide) (by rw [hs20_2]; decide) (by rw [hs20_2]; decide) rfl ?_
      refine V_aload_n 71 rfl (show decode M_Trail_boxTold.2.1 70 = .ok (.aload_n 3, 1) by decide +kernel) 0 rfl ?_
      refine V_getN (j := 2) (v := vR (SR σ_2 h3_1 2)) 74 rfl ck_Post (by decide) (by decide) (show decode M_Trail_boxTold.2.1 71 = .ok (.getfield 252, 3) by decide +kernel) wd_302 rfl ?_
      refine V_iload_n 75 rfl (show decode M_Trail_boxTold.2.1 74 = .ok (.iload_n 1, 1) by decide +kernel) 2 rfl ?_
      refine V_ald_int 76 rfl (show decode M_Trail_boxTold.2.1 75 = .ok (.iaload, 1) by decide +kernel) ?_
      exact V_iret rfl (by decide) (by decide) (show decode M_Trail_boxTold.2.1 76 = .ok (.ireturn, 1) by decide +kernel)
    refine V_ite (fun hs20_3 => ?_) (fun hs20_3 => ?_)
    · refine V_tswIn (off := 57) 77 (show decode M_Trail_boxTold.2.1 20 = .ok (.tableswitch 71 0 4 #[36, 43, 50, 57, 64], 36) by decide +kernel) (by rw [hs20_3]; decide) (by rw [hs20_3]; decide) (by rw [hs20_3]; decide) rfl ?_
      refine V_aload_n 78 rfl (show decode M_Trail_boxTold.2.1 77 = .ok (.aload_n 3, 1) by decide +kernel) 0 rfl ?_
      refine V_getN (j := 3) (v := vR (SR σ_2 h3_1 3)) 81 rfl ck_Post (by decide) (by decide) (show decode M_Trail_boxTold.2.1 78 = .ok (.getfield 246, 3) by decide +kernel) wd_304 rfl ?_
      refine V_iload_n 82 rfl (show decode M_Trail_boxTold.2.1 81 = .ok (.iload_n 1, 1) by decide +kernel) 2 rfl ?_
      refine V_ald_int 83 rfl (show decode M_Trail_boxTold.2.1 82 = .ok (.iaload, 1) by decide +kernel) ?_
      exact V_iret rfl (by decide) (by decide) (show decode M_Trail_boxTold.2.1 83 = .ok (.ireturn, 1) by decide +kernel)
    refine V_ite (fun hs20_4 => ?_) (fun hs20_4 => ?_)
    · refine V_tswIn (off := 64) 84 (show decode M_Trail_boxTold.2.1 20 = .ok (.tableswitch 71 0 4 #[36, 43, 50, 57, 64], 36) by decide +kernel) (by rw [hs20_4]; decide) (by rw [hs20_4]; decide) (by rw [hs20_4]; decide) rfl ?_
      refine V_aload_n 85 rfl (show decode M_Trail_boxTold.2.1 84 = .ok (.aload_n 3, 1) by decide +kernel) 0 rfl ?_
      refine V_getN (j := 4) (v := vR (SR σ_2 h3_1 4)) 88 rfl ck_Post (by decide) (by decide) (show decode M_Trail_boxTold.2.1 85 = .ok (.getfield 240, 3) by decide +kernel) wd_306 rfl ?_
      refine V_iload_n 89 rfl (show decode M_Trail_boxTold.2.1 88 = .ok (.iload_n 1, 1) by decide +kernel) 2 rfl ?_
      refine V_ald_int 90 rfl (show decode M_Trail_boxTold.2.1 89 = .ok (.iaload, 1) by decide +kernel) ?_
      exact V_iret rfl (by decide) (by decide) (show decode M_Trail_boxTold.2.1 90 = .ok (.ireturn, 1) by decide +kernel)
    · refine V_tswD 91 (show decode M_Trail_boxTold.2.1 20 = .ok (.tableswitch 71 0 4 #[36, 43, 50, 57, 64], 36) by decide +kernel) rfl (by decide) ?_ ?_
      · intro z hz hz2
        have hm : z = 0 ∨ z = 1 ∨ z = 2 ∨ z = 3 ∨ z = 4 := by simp at hz2; omega
        rcases hm with rfl | rfl | rfl | rfl | rfl
        · exact absurd (Int32.toInt_inj.mp (hz.trans (by decide))) hs20_0
        · exact absurd (Int32.toInt_inj.mp (hz.trans (by decide))) hs20_1
        · exact absurd (Int32.toInt_inj.mp (hz.trans (by decide))) hs20_2
        · exact absurd (Int32.toInt_inj.mp (hz.trans (by decide))) hs20_3
        · exact absurd (Int32.toInt_inj.mp (hz.trans (by decide))) hs20_4
      · skip
        refine V_ldc 93 rfl (show decode M_Trail_boxTold.2.1 91 = .ok (.ldc 44, 2) by decide +kernel) wd_631 ?_
        exact V_iret rfl (by decide) (by decide) (show decode M_Trail_boxTold.2.1 93 = .ok (.ireturn, 1) by decide +kernel)
theorem cal_Trail_boxTold (d mc ms k n : Nat) (h1 : 3 + 1 ≤ d) (h2 : k + 0 ≤ mc) (h3 : n + 0 ≤ ms) : Cal M_Trail_boxTold 3 0 0 2 d mc ms k n := ⟨wd_1074, wd_170, by decide, h1, by decide, h2, h3⟩
abbrev M_Ground_hasMile : MD := (⟨"LongTrail$Ground", "hasMile", "(I)Z"⟩, prog_3_method_3_code, 2, (some FieldType.boolean))
def f_Ground_hasMile (h0 : Nat) (x1 : Int32) (b : Bool) (σ : Sto) : Rs Int32 := (bd_ (f_Trail_within x1 (0 : Int32) (SI σ h0 9) (b && cK σ h0 2) σ) (fun (r_1 : Int32) (b_1 : Bool) (σ_1 : Sto) => (r_1, (b_1 && zok r_1), σ_1)))
set_option maxRecDepth 100000 in
set_option maxHeartbeats 4000000 in
theorem s_Ground_hasMile : ∀ (h0 : Nat) (x1 : Int32) (b : Bool) (σ : Sto), Snd M_Ground_hasMile 2 0 0 [vR h0, vI x1] b σ (tI (f_Ground_hasMile h0 x1 b σ).1) (f_Ground_hasMile h0 x1 b σ).2.1 (f_Ground_hasMile h0 x1 b σ).2.2 := by
  intro h0 x1 b σ
  refine Snd_of (tv := tI) (by decide) (Nat.le_of_ble_eq_true rfl) ?_
  show V M_Ground_hasMile 2 0 0 0 0 tI (f_Ground_hasMile h0 x1 b σ) 0 [(0, vR h0), (1, vI x1)] [] b σ
  unfold f_Ground_hasMile
  refine V_iload_n 1 rfl (show decode M_Ground_hasMile.2.1 0 = .ok (.iload_n 1, 1) by decide +kernel) 1 rfl ?_
  refine V_iconst 2 rfl (show decode M_Ground_hasMile.2.1 1 = .ok (.iconst 0, 1) by decide +kernel) (v := 0) rfl ?_
  refine V_aload_n 3 rfl (show decode M_Ground_hasMile.2.1 2 = .ok (.aload_n 0, 1) by decide +kernel) 0 rfl ?_
  refine V_get (j := 9) (v := vI (SI σ h0 9)) 6 rfl ck_Ground (by decide) (by decide) (show decode M_Ground_hasMile.2.1 3 = .ok (.getfield 40, 3) by decide +kernel) wd_230 rfl ?_
  refine V_callSN (tb := tI) (as := [vI x1, vI (0 : Int32), vI (SI σ h0 9)]) (rest := []) (na := 3) 9 rfl (s_Trail_within x1 (0 : Int32) (SI σ h0 9) (b && cK σ h0 2) σ) rfl rfl (Nat.le_of_ble_eq_true rfl) (cal_Trail_within _ _ _ _ _ (by decide) (by decide) (by decide)) (show decode M_Ground_hasMile.2.1 6 = .ok (.invokestatic 56, 3) by decide +kernel) wd_649 wd_629 (fun r_1 b_1 σ_1 => ?_)
  show V M_Ground_hasMile 2 0 0 0 0 tI _ 9 [(0, vR h0), (1, vI x1)] [vI r_1] b_1 σ_1
  exact V_zretc rfl (by decide) (by decide) (show decode M_Ground_hasMile.2.1 9 = .ok (.ireturn, 1) by decide +kernel)
theorem cal_Ground_hasMile (d mc ms k n : Nat) (h1 : 2 + 1 ≤ d) (h2 : k + 0 ≤ mc) (h3 : n + 0 ≤ ms) : Cal M_Ground_hasMile 2 0 0 1 d mc ms k n := ⟨wd_648, wd_172, by decide, h1, by decide, h2, h3⟩
abbrev M_Ground_isOn : MD := (⟨"LongTrail$Ground", "isOn", "(II)Z"⟩, prog_3_method_19_code, 3, (some FieldType.boolean))
def f_Ground_isOn (h0 : Nat) (x1 : Int32) (x2 : Int32) (b : Bool) (σ : Sto) : Rs Int32 := (bd_ (f_Trail_within x2 (SI σ (SR σ h0 7) (ix x1)) (SI σ (SR σ h0 8) (ix x1)) ((((b && cK σ h0 2) && cA σ (SR σ h0 7) 21 x1) && cK σ h0 2) && cA σ (SR σ h0 8) 21 x1) σ) (fun (r_1 : Int32) (b_1 : Bool) (σ_1 : Sto) => (r_1, (b_1 && zok r_1), σ_1)))
set_option maxRecDepth 100000 in
set_option maxHeartbeats 4000000 in
theorem s_Ground_isOn : ∀ (h0 : Nat) (x1 : Int32) (x2 : Int32) (b : Bool) (σ : Sto), Snd M_Ground_isOn 2 0 0 [vR h0, vI x1, vI x2] b σ (tI (f_Ground_isOn h0 x1 x2 b σ).1) (f_Ground_isOn h0 x1 x2 b σ).2.1 (f_Ground_isOn h0 x1 x2 b σ).2.2 := by
  intro h0 x1 x2 b σ
  refine Snd_of (tv := tI) (by decide) (Nat.le_of_ble_eq_true rfl) ?_
  show V M_Ground_isOn 2 0 0 0 0 tI (f_Ground_isOn h0 x1 x2 b σ) 0 [(0, vR h0), (1, vI x1), (2, vI x2)] [] b σ
  unfold f_Ground_isOn
  refine V_iload_n 1 rfl (show decode M_Ground_isOn.2.1 0 = .ok (.iload_n 2, 1) by decide +kernel) 2 rfl ?_
  refine V_aload_n 2 rfl (show decode M_Ground_isOn.2.1 1 = .ok (.aload_n 0, 1) by decide +kernel) 0 rfl ?_
  refine V_get (j := 7) (v := vR (SR σ h0 7)) 5 rfl ck_Ground (by decide) (by decide) (show decode M_Ground_isOn.2.1 2 = .ok (.getfield 34, 3) by decide +kernel) wd_228 rfl ?_
  refine V_iload_n 6 rfl (show decode M_Ground_isOn.2.1 5 = .ok (.iload_n 1, 1) by decide +kernel) 1 rfl ?_
  refine V_ald_int 7 rfl (show decode M_Ground_isOn.2.1 6 = .ok (.iaload, 1) by decide +kernel) ?_
  refine V_aload_n 8 rfl (show decode M_Ground_isOn.2.1 7 = .ok (.aload_n 0, 1) by decide +kernel) 0 rfl ?_
  refine V_get (j := 8) (v := vR (SR σ h0 8)) 11 rfl ck_Ground (by decide) (by decide) (show decode M_Ground_isOn.2.1 8 = .ok (.getfield 37, 3) by decide +kernel) wd_229 rfl ?_
  refine V_iload_n 12 rfl (show decode M_Ground_isOn.2.1 11 = .ok (.iload_n 1, 1) by decide +kernel) 1 rfl ?_
  refine V_ald_int 13 rfl (show decode M_Ground_isOn.2.1 12 = .ok (.iaload, 1) by decide +kernel) ?_
  refine V_callSN (tb := tI) (as := [vI x2, vI (SI σ (SR σ h0 7) (ix x1)), vI (SI σ (SR σ h0 8) (ix x1))]) (rest := []) (na := 3) 16 rfl (s_Trail_within x2 (SI σ (SR σ h0 7) (ix x1)) (SI σ (SR σ h0 8) (ix x1)) ((((b && cK σ h0 2) && cA σ (SR σ h0 7) 21 x1) && cK σ h0 2) && cA σ (SR σ h0 8) 21 x1) σ) rfl rfl (Nat.le_of_ble_eq_true rfl) (cal_Trail_within _ _ _ _ _ (by decide) (by decide) (by decide)) (show decode M_Ground_isOn.2.1 13 = .ok (.invokestatic 56, 3) by decide +kernel) wd_649 wd_629 (fun r_1 b_1 σ_1 => ?_)
  show V M_Ground_isOn 2 0 0 0 0 tI _ 16 [(0, vR h0), (1, vI x1), (2, vI x2)] [vI r_1] b_1 σ_1
  exact V_zretc rfl (by decide) (by decide) (show decode M_Ground_isOn.2.1 16 = .ok (.ireturn, 1) by decide +kernel)
theorem cal_Ground_isOn (d mc ms k n : Nat) (h1 : 2 + 1 ≤ d) (h2 : k + 0 ≤ mc) (h3 : n + 0 ≤ ms) : Cal M_Ground_isOn 2 0 0 2 d mc ms k n := ⟨wd_735, wd_172, by decide, h1, by decide, h2, h3⟩
abbrev M_Ground_isShutAt : MD := (⟨"LongTrail$Ground", "isShutAt", "(II)Z"⟩, prog_3_method_21_code, 4, (some FieldType.boolean))
def b_Ground_isShutAt_2 (h0 : Nat) (x1 : Int32) (x2 : Int32) (L2 : Int32 → Bool → Sto → Rs Int32) (x3 : Int32) (b : Bool) (σ : Sto) : Rs Int32 := (if x3 < (SI σ h0 11) then (bd_ (f_Ground_isOn h0 x3 x2 ((b && cK σ h0 2) && cK σ h0 2) σ) (fun (r_2 : Int32) (b_2 : Bool) (σ_2 : Sto) => (lt_ (fun (b : Bool) (σ : Sto) => (lt_ (x3 + (1 : Int32)) (fun (x3_3 : Int32) => (L2 x3_3 b σ)))) (fun J41 => (if r_2 = 0 then (J41 b_2 σ_2) else (if x1 < (SI σ_2 (SR σ_2 h0 5) (ix x3)) then (J41 ((b_2 && cK σ_2 h0 2) && cA σ_2 (SR σ_2 h0 5) 21 x3) σ_2) else (if x1 < (SI σ_2 (SR σ_2 h0 6) (ix x3)) then ((1 : Int32), ((((b_2 && cK σ_2 h0 2) && cA σ_2 (SR σ_2 h0 5) 21 x3) && cK σ_2 h0 2) && cA σ_2 (SR σ_2 h0 6) 21 x3), σ_2) else (J41 ((((b_2 && cK σ_2 h0 2) && cA σ_2 (SR σ_2 h0 5) 21 x3) && cK σ_2 h0 2) && cA σ_2 (SR σ_2 h0 6) 21 x3) σ_2)))))))) else ((0 : Int32), (b && cK σ h0 2), σ))
def f_Ground_isShutAt (h0 : Nat) (x1 : Int32) (x2 : Int32) (b : Bool) (σ : Sto) : Rs Int32 := (lt_ (0 : Int32) (fun (x3_1 : Int32) => (lp_ (b_Ground_isShutAt_2 h0 x1 x2) (fun (x3 : Int32) (b : Bool) (σ : Sto) => (0, false, σ)) fuel_ x3_1 b σ)))
set_option maxRecDepth 100000 in
set_option maxHeartbeats 4000000 in
theorem s_Ground_isShutAt : ∀ (h0 : Nat) (x1 : Int32) (x2 : Int32) (b : Bool) (σ : Sto), Snd M_Ground_isShutAt 3 0 0 [vR h0, vI x1, vI x2] b σ (tI (f_Ground_isShutAt h0 x1 x2 b σ).1) (f_Ground_isShutAt h0 x1 x2 b σ).2.1 (f_Ground_isShutAt h0 x1 x2 b σ).2.2 := by
  intro h0 x1 x2 b σ
  refine Snd_of (tv := tI) (by decide) (Nat.le_of_ble_eq_true rfl) ?_
  show V M_Ground_isShutAt 3 0 0 0 0 tI (f_Ground_isShutAt h0 x1 x2 b σ) 0 [(0, vR h0), (1, vI x1), (2, vI x2)] [] b σ
  unfold f_Ground_isShutAt
  refine V_iconst 1 rfl (show decode M_Ground_isShutAt.2.1 0 = .ok (.iconst 0, 1) by decide +kernel) (v := 0) rfl ?_
  refine V_istore_n (fun x3_1 => [(3, vI x3_1), (0, vR h0), (1, vI x1), (2, vI x2)]) 2 rfl (show decode M_Ground_isShutAt.2.1 1 = .ok (.istore_n 3, 1) by decide +kernel) (by decide) (fun _ => rfl) (fun x3_1 => ?_)
  refine V_sub [1, 2, 3, 0] rfl ?_
  refine lp_P (fun (L2 : Int32 → Bool → Sto → Rs Int32) => ∀ (x3 : Int32) (b : Bool) (σ : Sto), V M_Ground_isShutAt 3 0 0 0 0 tI (L2 x3 b σ) 2 [(0, vR h0), (1, vI x1), (2, vI x2), (3, vI x3)] [] b σ) ?_ ?_ fuel_ x3_1 b σ
  · intro x3 b σ; exact V_bad
  · intro L2 hL2 x3 b σ
    unfold b_Ground_isShutAt_2
    refine V_iload_n 3 rfl (show decode M_Ground_isShutAt.2.1 2 = .ok (.iload_n 3, 1) by decide +kernel) 3 rfl ?_
    refine V_aload_n 4 rfl (show decode M_Ground_isShutAt.2.1 3 = .ok (.aload_n 0, 1) by decide +kernel) 0 rfl ?_
    refine V_get (j := 11) (v := vI (SI σ h0 11)) 7 rfl ck_Ground (by decide) (by decide) (show decode M_Ground_isShutAt.2.1 4 = .ok (.getfield 53, 3) by decide +kernel) wd_238 rfl ?_
    refine V_icmpge 10 47 rfl (show decode M_Ground_isShutAt.2.1 7 = .ok (.if_icmp .ge 40, 3) by decide +kernel) rfl ?_ ?_
    · skip
      refine V_aload_n 11 rfl (show decode M_Ground_isShutAt.2.1 10 = .ok (.aload_n 0, 1) by decide +kernel) 0 rfl ?_
      refine V_iload_n 12 rfl (show decode M_Ground_isShutAt.2.1 11 = .ok (.iload_n 3, 1) by decide +kernel) 3 rfl ?_
      refine V_iload_n 13 rfl (show decode M_Ground_isShutAt.2.1 12 = .ok (.iload_n 2, 1) by decide +kernel) 2 rfl ?_
      refine V_callV (tb := tI) (as := [vI x3, vI x2]) (rest := []) (na := 2) 16 rfl ck_Ground (by decide) (s_Ground_isOn h0 x3 x2 ((b && cK σ h0 2) && cK σ h0 2) σ) rfl rfl (Nat.le_of_ble_eq_true rfl) (cal_Ground_isOn _ _ _ _ _ (by decide) (by decide) (by decide)) (show decode M_Ground_isShutAt.2.1 13 = .ok (.invokevirtual 80, 3) by decide +kernel) wd_732 wd_734 wd_14 (fun r_2 b_2 σ_2 => ?_)
      show V M_Ground_isShutAt 3 0 0 0 0 tI _ 16 [(0, vR h0), (1, vI x1), (2, vI x2), (3, vI x3)] [vI r_2] b_2 σ_2
      refine V_jn (fun (J41 : Bool → Sto → Rs Int32) => ∀ (b : Bool) (σ : Sto), V M_Ground_isShutAt 3 0 0 0 0 tI (J41 b σ) 41 [(0, vR h0), (1, vI x1), (2, vI x2), (3, vI x3)] [] b σ) ?_ (fun J41 hJ41 => ?_)
      · intro b σ
        refine V_iinc (fun x3_3 => [(3, vI x3_3), (0, vR h0), (1, vI x1), (2, vI x2)]) 44 rfl (show decode M_Ground_isShutAt.2.1 41 = .ok (.iinc 3 1, 3) by decide +kernel) 3 rfl (w := 1) rfl (by decide) (fun _ => rfl) (fun x3_3 => ?_)
        refine V_goto 2 (show decode M_Ground_isShutAt.2.1 44 = .ok (.goto (-42), 3) by decide +kernel) rfl ?_
        exact V_sub [1, 2, 3, 0] rfl (hL2 x3_3 b σ)
      · skip
        refine V_ifeq 19 41 rfl (show decode M_Ground_isShutAt.2.1 16 = .ok (.ifCond .eq 25, 3) by decide +kernel) rfl ?_ ?_
        · skip
          exact V_sub [0, 1, 2, 3] rfl (hJ41 b_2 σ_2)
        · skip
          refine V_iload_n 20 rfl (show decode M_Ground_isShutAt.2.1 19 = .ok (.iload_n 1, 1) by decide +kernel) 1 rfl ?_
          refine V_aload_n 21 rfl (show decode M_Ground_isShutAt.2.1 20 = .ok (.aload_n 0, 1) by decide +kernel) 0 rfl ?_
          refine V_get (j := 5) (v := vR (SR σ_2 h0 5)) 24 rfl ck_Ground (by decide) (by decide) (show decode M_Ground_isShutAt.2.1 21 = .ok (.getfield 28, 3) by decide +kernel) wd_224 rfl ?_
          refine V_iload_n 25 rfl (show decode M_Ground_isShutAt.2.1 24 = .ok (.iload_n 3, 1) by decide +kernel) 3 rfl ?_
          refine V_ald_int 26 rfl (show decode M_Ground_isShutAt.2.1 25 = .ok (.iaload, 1) by decide +kernel) ?_
          refine V_icmplt 29 41 rfl (show decode M_Ground_isShutAt.2.1 26 = .ok (.if_icmp .lt 15, 3) by decide +kernel) rfl ?_ ?_
          · skip
            exact V_sub [0, 1, 2, 3] rfl (hJ41 ((b_2 && cK σ_2 h0 2) && cA σ_2 (SR σ_2 h0 5) 21 x3) σ_2)
          · skip
            refine V_iload_n 30 rfl (show decode M_Ground_isShutAt.2.1 29 = .ok (.iload_n 1, 1) by decide +kernel) 1 rfl ?_
            refine V_aload_n 31 rfl (show decode M_Ground_isShutAt.2.1 30 = .ok (.aload_n 0, 1) by decide +kernel) 0 rfl ?_
            refine V_get (j := 6) (v := vR (SR σ_2 h0 6)) 34 rfl ck_Ground (by decide) (by decide) (show decode M_Ground_isShutAt.2.1 31 = .ok (.getfield 31, 3) by decide +kernel) wd_226 rfl ?_
            refine V_iload_n 35 rfl (show decode M_Ground_isShutAt.2.1 34 = .ok (.iload_n 3, 1) by decide +kernel) 3 rfl ?_
            refine V_ald_int 36 rfl (show decode M_Ground_isShutAt.2.1 35 = .ok (.iaload, 1) by decide +kernel) ?_
            refine V_icmpge 39 41 rfl (show decode M_Ground_isShutAt.2.1 36 = .ok (.if_icmp .ge 5, 3) by decide +kernel) rfl ?_ ?_
            · skip
              refine V_iconst 40 rfl (show decode M_Ground_isShutAt.2.1 39 = .ok (.iconst 1, 1) by decide +kernel) (v := 1) rfl ?_
              exact V_zret rfl (by decide) (by decide) rfl (show decode M_Ground_isShutAt.2.1 40 = .ok (.ireturn, 1) by decide +kernel)
            · skip
              exact V_sub [0, 1, 2, 3] rfl (hJ41 ((((b_2 && cK σ_2 h0 2) && cA σ_2 (SR σ_2 h0 5) 21 x3) && cK σ_2 h0 2) && cA σ_2 (SR σ_2 h0 6) 21 x3) σ_2)
    · skip
      refine V_iconst 48 rfl (show decode M_Ground_isShutAt.2.1 47 = .ok (.iconst 0, 1) by decide +kernel) (v := 0) rfl ?_
      exact V_zret rfl (by decide) (by decide) rfl (show decode M_Ground_isShutAt.2.1 48 = .ok (.ireturn, 1) by decide +kernel)
theorem cal_Ground_isShutAt (d mc ms k n : Nat) (h1 : 3 + 1 ≤ d) (h2 : k + 0 ≤ mc) (h3 : n + 0 ≤ ms) : Cal M_Ground_isShutAt 3 0 0 2 d mc ms k n := ⟨wd_731, wd_172, by decide, h1, by decide, h2, h3⟩
abbrev M_Trail_burns : MD := (⟨"LongTrail", "burns", "(I)I"⟩, prog_1_method_10_code, 2, (some FieldType.int))
def f_Trail_burns (h0 : Nat) (x1 : Int32) (b : Bool) (σ : Sto) : Rs Int32 := (bd_ (f_Ground_hasMile (SR σ (SR σ h0 0) 0) x1 (((b && cK σ h0 12) && cK σ (SR σ h0 0) 11) && cK σ (SR σ (SR σ h0 0) 0) 2) σ) (fun (r_1 : Int32) (b_1 : Bool) (σ_1 : Sto) => (if r_1 = 0 then ((-1000000001 : Int32), b_1, σ_1) else (bd_ (f_Ground_isShutAt (SR σ_1 (SR σ_1 h0 0) 0) x1 (SI σ_1 (SR σ_1 h0 0) 8) (((((b_1 && cK σ_1 h0 12) && cK σ_1 (SR σ_1 h0 0) 11) && cK σ_1 h0 12) && cK σ_1 (SR σ_1 h0 0) 11) && cK σ_1 (SR σ_1 (SR σ_1 h0 0) 0) 2) σ_1) (fun (r_2 : Int32) (b_2 : Bool) (σ_2 : Sto) => (if r_2 = 0 then ((0 : Int32), b_2, σ_2) else ((1 : Int32), b_2, σ_2)))))))
set_option maxRecDepth 100000 in
set_option maxHeartbeats 4000000 in
theorem s_Trail_burns : ∀ (h0 : Nat) (x1 : Int32) (b : Bool) (σ : Sto), Snd M_Trail_burns 4 0 0 [vR h0, vI x1] b σ (tI (f_Trail_burns h0 x1 b σ).1) (f_Trail_burns h0 x1 b σ).2.1 (f_Trail_burns h0 x1 b σ).2.2 := by
  intro h0 x1 b σ
  refine Snd_of (tv := tI) (by decide) (Nat.le_of_ble_eq_true rfl) ?_
  show V M_Trail_burns 4 0 0 0 0 tI (f_Trail_burns h0 x1 b σ) 0 [(0, vR h0), (1, vI x1)] [] b σ
  unfold f_Trail_burns
  refine V_aload_n 1 rfl (show decode M_Trail_burns.2.1 0 = .ok (.aload_n 0, 1) by decide +kernel) 0 rfl ?_
  refine V_get (j := 0) (v := vR (SR σ h0 0)) 4 rfl ck_Trail (by decide) (by decide) (show decode M_Trail_burns.2.1 1 = .ok (.getfield 10, 3) by decide +kernel) wd_599 rfl ?_
  refine V_getN (j := 0) (v := vR (SR σ (SR σ h0 0) 0)) 7 rfl ck_World (by decide) (by decide) (show decode M_Trail_burns.2.1 4 = .ok (.getfield 49, 3) by decide +kernel) wd_498 rfl ?_
  refine V_iload_n 8 rfl (show decode M_Trail_burns.2.1 7 = .ok (.iload_n 1, 1) by decide +kernel) 1 rfl ?_
  refine V_callVN (tb := tI) (as := [vI x1]) (rest := []) (na := 1) 11 rfl ck_Ground (by decide) (s_Ground_hasMile (SR σ (SR σ h0 0) 0) x1 (((b && cK σ h0 12) && cK σ (SR σ h0 0) 11) && cK σ (SR σ (SR σ h0 0) 0) 2) σ) rfl rfl (Nat.le_of_ble_eq_true rfl) (cal_Ground_hasMile _ _ _ _ _ (by decide) (by decide) (by decide)) (show decode M_Trail_burns.2.1 8 = .ok (.invokevirtual 70, 3) by decide +kernel) wd_645 wd_647 wd_2 (fun r_1 b_1 σ_1 => ?_)
  show V M_Trail_burns 4 0 0 0 0 tI _ 11 [(0, vR h0), (1, vI x1)] [vI r_1] b_1 σ_1
  refine V_ifne 14 17 rfl (show decode M_Trail_burns.2.1 11 = .ok (.ifCond .ne 6, 3) by decide +kernel) rfl ?_ ?_
  · skip
    refine V_ldc 16 rfl (show decode M_Trail_burns.2.1 14 = .ok (.ldc 44, 2) by decide +kernel) wd_631 ?_
    exact V_iret rfl (by decide) (by decide) (show decode M_Trail_burns.2.1 16 = .ok (.ireturn, 1) by decide +kernel)
  · skip
    refine V_aload_n 18 rfl (show decode M_Trail_burns.2.1 17 = .ok (.aload_n 0, 1) by decide +kernel) 0 rfl ?_
    refine V_get (j := 0) (v := vR (SR σ_1 h0 0)) 21 rfl ck_Trail (by decide) (by decide) (show decode M_Trail_burns.2.1 18 = .ok (.getfield 10, 3) by decide +kernel) wd_599 rfl ?_
    refine V_getN (j := 0) (v := vR (SR σ_1 (SR σ_1 h0 0) 0)) 24 rfl ck_World (by decide) (by decide) (show decode M_Trail_burns.2.1 21 = .ok (.getfield 49, 3) by decide +kernel) wd_498 rfl ?_
    refine V_iload_n 25 rfl (show decode M_Trail_burns.2.1 24 = .ok (.iload_n 1, 1) by decide +kernel) 1 rfl ?_
    refine V_aload_n 26 rfl (show decode M_Trail_burns.2.1 25 = .ok (.aload_n 0, 1) by decide +kernel) 0 rfl ?_
    refine V_get (j := 0) (v := vR (SR σ_1 h0 0)) 29 rfl ck_Trail (by decide) (by decide) (show decode M_Trail_burns.2.1 26 = .ok (.getfield 10, 3) by decide +kernel) wd_599 rfl ?_
    refine V_getN (j := 8) (v := vI (SI σ_1 (SR σ_1 h0 0) 8)) 32 rfl ck_World (by decide) (by decide) (show decode M_Trail_burns.2.1 29 = .ok (.getfield 138, 3) by decide +kernel) wd_514 rfl ?_
    refine V_callVN (tb := tI) (as := [vI x1, vI (SI σ_1 (SR σ_1 h0 0) 8)]) (rest := []) (na := 2) 35 rfl ck_Ground (by decide) (s_Ground_isShutAt (SR σ_1 (SR σ_1 h0 0) 0) x1 (SI σ_1 (SR σ_1 h0 0) 8) (((((b_1 && cK σ_1 h0 12) && cK σ_1 (SR σ_1 h0 0) 11) && cK σ_1 h0 12) && cK σ_1 (SR σ_1 h0 0) 11) && cK σ_1 (SR σ_1 (SR σ_1 h0 0) 0) 2) σ_1) rfl rfl (Nat.le_of_ble_eq_true rfl) (cal_Ground_isShutAt _ _ _ _ _ (by decide) (by decide) (by decide)) (show decode M_Trail_burns.2.1 32 = .ok (.invokevirtual 141, 3) by decide +kernel) wd_728 wd_730 wd_13 (fun r_2 b_2 σ_2 => ?_)
    show V M_Trail_burns 4 0 0 0 0 tI _ 35 [(0, vR h0), (1, vI x1)] [vI r_2] b_2 σ_2
    refine V_ifeq 38 42 rfl (show decode M_Trail_burns.2.1 35 = .ok (.ifCond .eq 7, 3) by decide +kernel) rfl ?_ ?_
    · skip
      refine V_iconst 43 rfl (show decode M_Trail_burns.2.1 42 = .ok (.iconst 0, 1) by decide +kernel) (v := 0) rfl ?_
      exact V_iret rfl (by decide) (by decide) (show decode M_Trail_burns.2.1 43 = .ok (.ireturn, 1) by decide +kernel)
    · skip
      refine V_iconst 39 rfl (show decode M_Trail_burns.2.1 38 = .ok (.iconst 1, 1) by decide +kernel) (v := 1) rfl ?_
      refine V_goto 43 (show decode M_Trail_burns.2.1 39 = .ok (.goto 4, 3) by decide +kernel) rfl ?_
      exact V_iret rfl (by decide) (by decide) (show decode M_Trail_burns.2.1 43 = .ok (.ireturn, 1) by decide +kernel)
theorem cal_Trail_burns (d mc ms k n : Nat) (h1 : 4 + 1 ≤ d) (h2 : k + 0 ≤ mc) (h3 : n + 0 ≤ ms) : Cal M_Trail_burns 4 0 0 1 d mc ms k n := ⟨wd_727, wd_170, by decide, h1, by decide, h2, h3⟩
abbrev M_World_foodTogether : MD := (⟨"LongTrail$World", "foodTogether", "()I"⟩, prog_12_method_8_code, 3, (some FieldType.int))
def b_World_foodTogether_4 (h0 : Nat) (L4 : Int32 → Int32 → Bool → Sto → Rs Int32) (x1 : Int32) (x2 : Int32) (b : Bool) (σ : Sto) : Rs Int32 := (if x2 < (SI σ h0 7) then (lt_ (x1 + (SI σ (SR σ (SR σ h0 6) (ix x2)) 7)) (fun (x1_3 : Int32) => (lt_ (x2 + (1 : Int32)) (fun (x2_4 : Int32) => (L4 x1_3 x2_4 ((((b && cK σ h0 11) && cK σ h0 11) && cA σ (SR σ h0 6) 26 x2) && cK σ (SR σ (SR σ h0 6) (ix x2)) 10) σ))))) else (x1, (b && cK σ h0 11), σ))
def f_World_foodTogether (h0 : Nat) (b : Bool) (σ : Sto) : Rs Int32 := (lt_ (0 : Int32) (fun (x1_1 : Int32) => (lt_ (0 : Int32) (fun (x2_2 : Int32) => (lp_ (b_World_foodTogether_4 h0) (fun (x1 : Int32) (x2 : Int32) (b : Bool) (σ : Sto) => (0, false, σ)) fuel_ x1_1 x2_2 b σ)))))
set_option maxRecDepth 100000 in
set_option maxHeartbeats 4000000 in
theorem s_World_foodTogether : ∀ (h0 : Nat) (b : Bool) (σ : Sto), Snd M_World_foodTogether 1 0 0 [vR h0] b σ (tI (f_World_foodTogether h0 b σ).1) (f_World_foodTogether h0 b σ).2.1 (f_World_foodTogether h0 b σ).2.2 := by
  intro h0 b σ
  refine Snd_of (tv := tI) (by decide) (Nat.le_of_ble_eq_true rfl) ?_
  show V M_World_foodTogether 1 0 0 0 0 tI (f_World_foodTogether h0 b σ) 0 [(0, vR h0)] [] b σ
  unfold f_World_foodTogether
  refine V_iconst 1 rfl (show decode M_World_foodTogether.2.1 0 = .ok (.iconst 0, 1) by decide +kernel) (v := 0) rfl ?_
  refine V_istore_n (fun x1_1 => [(1, vI x1_1), (0, vR h0)]) 2 rfl (show decode M_World_foodTogether.2.1 1 = .ok (.istore_n 1, 1) by decide +kernel) (by decide) (fun _ => rfl) (fun x1_1 => ?_)
  refine V_iconst 3 rfl (show decode M_World_foodTogether.2.1 2 = .ok (.iconst 0, 1) by decide +kernel) (v := 0) rfl ?_
  refine V_istore_n (fun x2_2 => [(2, vI x2_2), (1, vI x1_1), (0, vR h0)]) 4 rfl (show decode M_World_foodTogether.2.1 3 = .ok (.istore_n 2, 1) by decide +kernel) (by decide) (fun _ => rfl) (fun x2_2 => ?_)
  refine V_sub [2, 1, 0] rfl ?_
  refine lp_P (fun (L4 : Int32 → Int32 → Bool → Sto → Rs Int32) => ∀ (x1 : Int32) (x2 : Int32) (b : Bool) (σ : Sto), V M_World_foodTogether 1 0 0 0 0 tI (L4 x1 x2 b σ) 4 [(0, vR h0), (1, vI x1), (2, vI x2)] [] b σ) ?_ ?_ fuel_ x1_1 x2_2 b σ
  · intro x1 x2 b σ; exact V_bad
  · intro L4 hL4 x1 x2 b σ
    unfold b_World_foodTogether_4
    refine V_iload_n 5 rfl (show decode M_World_foodTogether.2.1 4 = .ok (.iload_n 2, 1) by decide +kernel) 2 rfl ?_
    refine V_aload_n 6 rfl (show decode M_World_foodTogether.2.1 5 = .ok (.aload_n 0, 1) by decide +kernel) 0 rfl ?_
    refine V_get (j := 7) (v := vI (SI σ h0 7)) 9 rfl ck_World (by decide) (by decide) (show decode M_World_foodTogether.2.1 6 = .ok (.getfield 77, 3) by decide +kernel) wd_512 rfl ?_
    refine V_icmpge 12 30 rfl (show decode M_World_foodTogether.2.1 9 = .ok (.if_icmp .ge 21, 3) by decide +kernel) rfl ?_ ?_
    · skip
      refine V_iload_n 13 rfl (show decode M_World_foodTogether.2.1 12 = .ok (.iload_n 1, 1) by decide +kernel) 1 rfl ?_
      refine V_aload_n 14 rfl (show decode M_World_foodTogether.2.1 13 = .ok (.aload_n 0, 1) by decide +kernel) 0 rfl ?_
      refine V_get (j := 6) (v := vR (SR σ h0 6)) 17 rfl ck_World (by decide) (by decide) (show decode M_World_foodTogether.2.1 14 = .ok (.getfield 53, 3) by decide +kernel) wd_509 rfl ?_
      refine V_iload_n 18 rfl (show decode M_World_foodTogether.2.1 17 = .ok (.iload_n 2, 1) by decide +kernel) 2 rfl ?_
      refine V_ald_r26 19 rfl (show decode M_World_foodTogether.2.1 18 = .ok (.aaload, 1) by decide +kernel) ?_
      refine V_getN (j := 7) (v := vI (SI σ (SR σ (SR σ h0 6) (ix x2)) 7)) 22 rfl ck_Walker (by decide) (by decide) (show decode M_World_foodTogether.2.1 19 = .ok (.getfield 103, 3) by decide +kernel) wd_437 rfl ?_
      refine V_iadd 23 rfl (show decode M_World_foodTogether.2.1 22 = .ok (.iadd, 1) by decide +kernel) ?_
      refine V_istore_n (fun x1_3 => [(1, vI x1_3), (0, vR h0), (2, vI x2)]) 24 rfl (show decode M_World_foodTogether.2.1 23 = .ok (.istore_n 1, 1) by decide +kernel) (by decide) (fun _ => rfl) (fun x1_3 => ?_)
      refine V_iinc (fun x2_4 => [(2, vI x2_4), (1, vI x1_3), (0, vR h0)]) 27 rfl (show decode M_World_foodTogether.2.1 24 = .ok (.iinc 2 1, 3) by decide +kernel) 2 rfl (w := 1) rfl (by decide) (fun _ => rfl) (fun x2_4 => ?_)
      refine V_goto 4 (show decode M_World_foodTogether.2.1 27 = .ok (.goto (-23), 3) by decide +kernel) rfl ?_
      exact V_sub [2, 1, 0] rfl (hL4 x1_3 x2_4 ((((b && cK σ h0 11) && cK σ h0 11) && cA σ (SR σ h0 6) 26 x2) && cK σ (SR σ (SR σ h0 6) (ix x2)) 10) σ)
    · skip
      refine V_iload_n 31 rfl (show decode M_World_foodTogether.2.1 30 = .ok (.iload_n 1, 1) by decide +kernel) 1 rfl ?_
      exact V_iret rfl (by decide) (by decide) (show decode M_World_foodTogether.2.1 31 = .ok (.ireturn, 1) by decide +kernel)
theorem cal_World_foodTogether (d mc ms k n : Nat) (h1 : 1 + 1 ≤ d) (h2 : k + 0 ≤ mc) (h3 : n + 0 ≤ ms) : Cal M_World_foodTogether 1 0 0 0 d mc ms k n := ⟨wd_1473, wd_171, by decide, h1, by decide, h2, h3⟩
abbrev M_World_milesTogether : MD := (⟨"LongTrail$World", "milesTogether", "()I"⟩, prog_12_method_7_code, 3, (some FieldType.int))
def b_World_milesTogether_4 (h0 : Nat) (L4 : Int32 → Int32 → Bool → Sto → Rs Int32) (x1 : Int32) (x2 : Int32) (b : Bool) (σ : Sto) : Rs Int32 := (if x2 < (SI σ h0 7) then (lt_ (x1 + (SI σ (SR σ (SR σ h0 6) (ix x2)) 6)) (fun (x1_3 : Int32) => (lt_ (x2 + (1 : Int32)) (fun (x2_4 : Int32) => (L4 x1_3 x2_4 ((((b && cK σ h0 11) && cK σ h0 11) && cA σ (SR σ h0 6) 26 x2) && cK σ (SR σ (SR σ h0 6) (ix x2)) 10) σ))))) else (x1, (b && cK σ h0 11), σ))
def f_World_milesTogether (h0 : Nat) (b : Bool) (σ : Sto) : Rs Int32 := (lt_ (0 : Int32) (fun (x1_1 : Int32) => (lt_ (0 : Int32) (fun (x2_2 : Int32) => (lp_ (b_World_milesTogether_4 h0) (fun (x1 : Int32) (x2 : Int32) (b : Bool) (σ : Sto) => (0, false, σ)) fuel_ x1_1 x2_2 b σ)))))
set_option maxRecDepth 100000 in
set_option maxHeartbeats 4000000 in
theorem s_World_milesTogether : ∀ (h0 : Nat) (b : Bool) (σ : Sto), Snd M_World_milesTogether 1 0 0 [vR h0] b σ (tI (f_World_milesTogether h0 b σ).1) (f_World_milesTogether h0 b σ).2.1 (f_World_milesTogether h0 b σ).2.2 := by
  intro h0 b σ
  refine Snd_of (tv := tI) (by decide) (Nat.le_of_ble_eq_true rfl) ?_
  show V M_World_milesTogether 1 0 0 0 0 tI (f_World_milesTogether h0 b σ) 0 [(0, vR h0)] [] b σ
  unfold f_World_milesTogether
  refine V_iconst 1 rfl (show decode M_World_milesTogether.2.1 0 = .ok (.iconst 0, 1) by decide +kernel) (v := 0) rfl ?_
  refine V_istore_n (fun x1_1 => [(1, vI x1_1), (0, vR h0)]) 2 rfl (show decode M_World_milesTogether.2.1 1 = .ok (.istore_n 1, 1) by decide +kernel) (by decide) (fun _ => rfl) (fun x1_1 => ?_)
  refine V_iconst 3 rfl (show decode M_World_milesTogether.2.1 2 = .ok (.iconst 0, 1) by decide +kernel) (v := 0) rfl ?_
  refine V_istore_n (fun x2_2 => [(2, vI x2_2), (1, vI x1_1), (0, vR h0)]) 4 rfl (show decode M_World_milesTogether.2.1 3 = .ok (.istore_n 2, 1) by decide +kernel) (by decide) (fun _ => rfl) (fun x2_2 => ?_)
  refine V_sub [2, 1, 0] rfl ?_
  refine lp_P (fun (L4 : Int32 → Int32 → Bool → Sto → Rs Int32) => ∀ (x1 : Int32) (x2 : Int32) (b : Bool) (σ : Sto), V M_World_milesTogether 1 0 0 0 0 tI (L4 x1 x2 b σ) 4 [(0, vR h0), (1, vI x1), (2, vI x2)] [] b σ) ?_ ?_ fuel_ x1_1 x2_2 b σ
  · intro x1 x2 b σ; exact V_bad
  · intro L4 hL4 x1 x2 b σ
    unfold b_World_milesTogether_4
    refine V_iload_n 5 rfl (show decode M_World_milesTogether.2.1 4 = .ok (.iload_n 2, 1) by decide +kernel) 2 rfl ?_
    refine V_aload_n 6 rfl (show decode M_World_milesTogether.2.1 5 = .ok (.aload_n 0, 1) by decide +kernel) 0 rfl ?_
    refine V_get (j := 7) (v := vI (SI σ h0 7)) 9 rfl ck_World (by decide) (by decide) (show decode M_World_milesTogether.2.1 6 = .ok (.getfield 77, 3) by decide +kernel) wd_512 rfl ?_
    refine V_icmpge 12 30 rfl (show decode M_World_milesTogether.2.1 9 = .ok (.if_icmp .ge 21, 3) by decide +kernel) rfl ?_ ?_
    · skip
      refine V_iload_n 13 rfl (show decode M_World_milesTogether.2.1 12 = .ok (.iload_n 1, 1) by decide +kernel) 1 rfl ?_
      refine V_aload_n 14 rfl (show decode M_World_milesTogether.2.1 13 = .ok (.aload_n 0, 1) by decide +kernel) 0 rfl ?_
      refine V_get (j := 6) (v := vR (SR σ h0 6)) 17 rfl ck_World (by decide) (by decide) (show decode M_World_milesTogether.2.1 14 = .ok (.getfield 53, 3) by decide +kernel) wd_509 rfl ?_
      refine V_iload_n 18 rfl (show decode M_World_milesTogether.2.1 17 = .ok (.iload_n 2, 1) by decide +kernel) 2 rfl ?_
      refine V_ald_r26 19 rfl (show decode M_World_milesTogether.2.1 18 = .ok (.aaload, 1) by decide +kernel) ?_
      refine V_getN (j := 6) (v := vI (SI σ (SR σ (SR σ h0 6) (ix x2)) 6)) 22 rfl ck_Walker (by decide) (by decide) (show decode M_World_milesTogether.2.1 19 = .ok (.getfield 100, 3) by decide +kernel) wd_434 rfl ?_
      refine V_iadd 23 rfl (show decode M_World_milesTogether.2.1 22 = .ok (.iadd, 1) by decide +kernel) ?_
      refine V_istore_n (fun x1_3 => [(1, vI x1_3), (0, vR h0), (2, vI x2)]) 24 rfl (show decode M_World_milesTogether.2.1 23 = .ok (.istore_n 1, 1) by decide +kernel) (by decide) (fun _ => rfl) (fun x1_3 => ?_)
      refine V_iinc (fun x2_4 => [(2, vI x2_4), (1, vI x1_3), (0, vR h0)]) 27 rfl (show decode M_World_milesTogether.2.1 24 = .ok (.iinc 2 1, 3) by decide +kernel) 2 rfl (w := 1) rfl (by decide) (fun _ => rfl) (fun x2_4 => ?_)
      refine V_goto 4 (show decode M_World_milesTogether.2.1 27 = .ok (.goto (-23), 3) by decide +kernel) rfl ?_
      exact V_sub [2, 1, 0] rfl (hL4 x1_3 x2_4 ((((b && cK σ h0 11) && cK σ h0 11) && cA σ (SR σ h0 6) 26 x2) && cK σ (SR σ (SR σ h0 6) (ix x2)) 10) σ)
    · skip
      refine V_iload_n 31 rfl (show decode M_World_milesTogether.2.1 30 = .ok (.iload_n 1, 1) by decide +kernel) 1 rfl ?_
      exact V_iret rfl (by decide) (by decide) (show decode M_World_milesTogether.2.1 31 = .ok (.ireturn, 1) by decide +kernel)
theorem cal_World_milesTogether (d mc ms k n : Nat) (h1 : 1 + 1 ≤ d) (h2 : k + 0 ≤ mc) (h3 : n + 0 ≤ ms) : Cal M_World_milesTogether 1 0 0 0 d mc ms k n := ⟨wd_1469, wd_171, by decide, h1, by decide, h2, h3⟩
abbrev M_Walker_setOutOn : MD := (⟨"LongTrail$Walker", "setOutOn", "(I)V"⟩, prog_11_method_6_code, 2, (none : Option FieldType))
def f_Walker_setOutOn (h0 : Nat) (x1 : Int32) (b : Bool) (σ : Sto) : Rs Unit := (if (SI σ h0 5) = 0 then (if x1 < (SI σ h0 0) then ((), ((b && cK σ h0 10) && cK σ h0 10), σ) else (lt_ (pI σ h0 5 (1 : Int32)) (fun (σ_1 : Sto) => (lt_ (pI σ_1 h0 6 (0 : Int32)) (fun (σ_2 : Sto) => (lt_ (pI σ_2 h0 7 (SI σ_2 h0 3)) (fun (σ_3 : Sto) => ((), ((((((b && cK σ h0 10) && cK σ h0 10) && cK σ h0 10) && cK σ_1 h0 10) && cK σ_2 h0 10) && cK σ_2 h0 10), σ_3)))))))) else ((), (b && cK σ h0 10), σ))
set_option maxRecDepth 100000 in
set_option maxHeartbeats 4000000 in
theorem s_Walker_setOutOn : ∀ (h0 : Nat) (x1 : Int32) (b : Bool) (σ : Sto), Snd M_Walker_setOutOn 1 0 0 [vR h0, vI x1] b σ (tU (f_Walker_setOutOn h0 x1 b σ).1) (f_Walker_setOutOn h0 x1 b σ).2.1 (f_Walker_setOutOn h0 x1 b σ).2.2 := by
  intro h0 x1 b σ
  refine Snd_of (tv := tU) (by decide) (Nat.le_of_ble_eq_true rfl) ?_
  show V M_Walker_setOutOn 1 0 0 0 0 tU (f_Walker_setOutOn h0 x1 b σ) 0 [(0, vR h0), (1, vI x1)] [] b σ
  unfold f_Walker_setOutOn
  refine V_aload_n 1 rfl (show decode M_Walker_setOutOn.2.1 0 = .ok (.aload_n 0, 1) by decide +kernel) 0 rfl ?_
  refine V_get (j := 5) (v := vI (SI σ h0 5)) 4 rfl ck_Walker (by decide) (by decide) (show decode M_Walker_setOutOn.2.1 1 = .ok (.getfield 25, 3) by decide +kernel) wd_430 rfl ?_
  refine V_ifne 7 33 rfl (show decode M_Walker_setOutOn.2.1 4 = .ok (.ifCond .ne 29, 3) by decide +kernel) rfl ?_ ?_
  · skip
    refine V_aload_n 8 rfl (show decode M_Walker_setOutOn.2.1 7 = .ok (.aload_n 0, 1) by decide +kernel) 0 rfl ?_
    refine V_get (j := 0) (v := vI (SI σ h0 0)) 11 rfl ck_Walker (by decide) (by decide) (show decode M_Walker_setOutOn.2.1 8 = .ok (.getfield 7, 3) by decide +kernel) wd_424 rfl ?_
    refine V_iload_n 12 rfl (show decode M_Walker_setOutOn.2.1 11 = .ok (.iload_n 1, 1) by decide +kernel) 1 rfl ?_
    refine V_icmpgt 15 33 rfl (show decode M_Walker_setOutOn.2.1 12 = .ok (.if_icmp .gt 21, 3) by decide +kernel) rfl ?_ ?_
    · skip
      exact V_vret rfl (by decide) (by decide) (show decode M_Walker_setOutOn.2.1 33 = .ok (.return_, 1) by decide +kernel)
    · skip
      refine V_aload_n 16 rfl (show decode M_Walker_setOutOn.2.1 15 = .ok (.aload_n 0, 1) by decide +kernel) 0 rfl ?_
      refine V_iconst 17 rfl (show decode M_Walker_setOutOn.2.1 16 = .ok (.iconst 1, 1) by decide +kernel) (v := 1) rfl ?_
      refine V_putI (j := 5) 20 rfl ck_Walker (by decide) (by decide) (show decode M_Walker_setOutOn.2.1 17 = .ok (.putfield 25, 3) by decide +kernel) wd_430 rfl (fun _ => rfl) rfl rfl (fun σ_1 => ?_)
      refine V_aload_n 21 rfl (show decode M_Walker_setOutOn.2.1 20 = .ok (.aload_n 0, 1) by decide +kernel) 0 rfl ?_
      refine V_iconst 22 rfl (show decode M_Walker_setOutOn.2.1 21 = .ok (.iconst 0, 1) by decide +kernel) (v := 0) rfl ?_
      refine V_putI (j := 6) 25 rfl ck_Walker (by decide) (by decide) (show decode M_Walker_setOutOn.2.1 22 = .ok (.putfield 28, 3) by decide +kernel) wd_433 rfl (fun _ => rfl) rfl rfl (fun σ_2 => ?_)
      refine V_aload_n 26 rfl (show decode M_Walker_setOutOn.2.1 25 = .ok (.aload_n 0, 1) by decide +kernel) 0 rfl ?_
      refine V_aload_n 27 rfl (show decode M_Walker_setOutOn.2.1 26 = .ok (.aload_n 0, 1) by decide +kernel) 0 rfl ?_
      refine V_get (j := 3) (v := vI (SI σ_2 h0 3)) 30 rfl ck_Walker (by decide) (by decide) (show decode M_Walker_setOutOn.2.1 27 = .ok (.getfield 19, 3) by decide +kernel) wd_428 rfl ?_
      refine V_putI (j := 7) 33 rfl ck_Walker (by decide) (by decide) (show decode M_Walker_setOutOn.2.1 30 = .ok (.putfield 31, 3) by decide +kernel) wd_436 rfl (fun _ => rfl) rfl rfl (fun σ_3 => ?_)
      exact V_vret rfl (by decide) (by decide) (show decode M_Walker_setOutOn.2.1 33 = .ok (.return_, 1) by decide +kernel)
  · skip
    exact V_vret rfl (by decide) (by decide) (show decode M_Walker_setOutOn.2.1 33 = .ok (.return_, 1) by decide +kernel)
theorem cal_Walker_setOutOn (d mc ms k n : Nat) (h1 : 1 + 1 ≤ d) (h2 : k + 0 ≤ mc) (h3 : n + 0 ≤ ms) : Cal M_Walker_setOutOn 1 0 0 1 d mc ms k n := ⟨wd_1090, wd_178, by decide, h1, by decide, h2, h3⟩
abbrev M_Ground_placeAt : MD := (⟨"LongTrail$Ground", "placeAt", "(I)I"⟩, prog_3_method_10_code, 3, (some FieldType.int))
def b_Ground_placeAt_2 (h0 : Nat) (x1 : Int32) (L2 : Int32 → Bool → Sto → Rs Int32) (x2 : Int32) (b : Bool) (σ : Sto) : Rs Int32 := (if x2 < (SI σ h0 10) then (if (SI σ (SR σ h0 1) (ix x2)) = x1 then (x2, (((b && cK σ h0 2) && cK σ h0 2) && cA σ (SR σ h0 1) 21 x2), σ) else (lt_ (x2 + (1 : Int32)) (fun (x2_2 : Int32) => (L2 x2_2 (((b && cK σ h0 2) && cK σ h0 2) && cA σ (SR σ h0 1) 21 x2) σ)))) else ((-1 : Int32), (b && cK σ h0 2), σ))
def f_Ground_placeAt (h0 : Nat) (x1 : Int32) (b : Bool) (σ : Sto) : Rs Int32 := (lt_ (0 : Int32) (fun (x2_1 : Int32) => (lp_ (b_Ground_placeAt_2 h0 x1) (fun (x2 : Int32) (b : Bool) (σ : Sto) => (0, false, σ)) fuel_ x2_1 b σ)))
set_option maxRecDepth 100000 in
set_option maxHeartbeats 4000000 in
theorem s_Ground_placeAt : ∀ (h0 : Nat) (x1 : Int32) (b : Bool) (σ : Sto), Snd M_Ground_placeAt 1 0 0 [vR h0, vI x1] b σ (tI (f_Ground_placeAt h0 x1 b σ).1) (f_Ground_placeAt h0 x1 b σ).2.1 (f_Ground_placeAt h0 x1 b σ).2.2 := by
  intro h0 x1 b σ
  refine Snd_of (tv := tI) (by decide) (Nat.le_of_ble_eq_true rfl) ?_
  show V M_Ground_placeAt 1 0 0 0 0 tI (f_Ground_placeAt h0 x1 b σ) 0 [(0, vR h0), (1, vI x1)] [] b σ
  unfold f_Ground_placeAt
  refine V_iconst 1 rfl (show decode M_Ground_placeAt.2.1 0 = .ok (.iconst 0, 1) by decide +kernel) (v := 0) rfl ?_
  refine V_istore_n (fun x2_1 => [(2, vI x2_1), (0, vR h0), (1, vI x1)]) 2 rfl (show decode M_Ground_placeAt.2.1 1 = .ok (.istore_n 2, 1) by decide +kernel) (by decide) (fun _ => rfl) (fun x2_1 => ?_)
  refine V_sub [1, 2, 0] rfl ?_
  refine lp_P (fun (L2 : Int32 → Bool → Sto → Rs Int32) => ∀ (x2 : Int32) (b : Bool) (σ : Sto), V M_Ground_placeAt 1 0 0 0 0 tI (L2 x2 b σ) 2 [(0, vR h0), (1, vI x1), (2, vI x2)] [] b σ) ?_ ?_ fuel_ x2_1 b σ
  · intro x2 b σ; exact V_bad
  · intro L2 hL2 x2 b σ
    unfold b_Ground_placeAt_2
    refine V_iload_n 3 rfl (show decode M_Ground_placeAt.2.1 2 = .ok (.iload_n 2, 1) by decide +kernel) 2 rfl ?_
    refine V_aload_n 4 rfl (show decode M_Ground_placeAt.2.1 3 = .ok (.aload_n 0, 1) by decide +kernel) 0 rfl ?_
    refine V_get (j := 10) (v := vI (SI σ h0 10)) 7 rfl ck_Ground (by decide) (by decide) (show decode M_Ground_placeAt.2.1 4 = .ok (.getfield 50, 3) by decide +kernel) wd_235 rfl ?_
    refine V_icmpge 10 28 rfl (show decode M_Ground_placeAt.2.1 7 = .ok (.if_icmp .ge 21, 3) by decide +kernel) rfl ?_ ?_
    · skip
      refine V_aload_n 11 rfl (show decode M_Ground_placeAt.2.1 10 = .ok (.aload_n 0, 1) by decide +kernel) 0 rfl ?_
      refine V_get (j := 1) (v := vR (SR σ h0 1)) 14 rfl ck_Ground (by decide) (by decide) (show decode M_Ground_placeAt.2.1 11 = .ok (.getfield 15, 3) by decide +kernel) wd_214 rfl ?_
      refine V_iload_n 15 rfl (show decode M_Ground_placeAt.2.1 14 = .ok (.iload_n 2, 1) by decide +kernel) 2 rfl ?_
      refine V_ald_int 16 rfl (show decode M_Ground_placeAt.2.1 15 = .ok (.iaload, 1) by decide +kernel) ?_
      refine V_iload_n 17 rfl (show decode M_Ground_placeAt.2.1 16 = .ok (.iload_n 1, 1) by decide +kernel) 1 rfl ?_
      refine V_icmpne 20 22 rfl (show decode M_Ground_placeAt.2.1 17 = .ok (.if_icmp .ne 5, 3) by decide +kernel) rfl ?_ ?_
      · skip
        refine V_iload_n 21 rfl (show decode M_Ground_placeAt.2.1 20 = .ok (.iload_n 2, 1) by decide +kernel) 2 rfl ?_
        exact V_iret rfl (by decide) (by decide) (show decode M_Ground_placeAt.2.1 21 = .ok (.ireturn, 1) by decide +kernel)
      · skip
        refine V_iinc (fun x2_2 => [(2, vI x2_2), (0, vR h0), (1, vI x1)]) 25 rfl (show decode M_Ground_placeAt.2.1 22 = .ok (.iinc 2 1, 3) by decide +kernel) 2 rfl (w := 1) rfl (by decide) (fun _ => rfl) (fun x2_2 => ?_)
        refine V_goto 2 (show decode M_Ground_placeAt.2.1 25 = .ok (.goto (-23), 3) by decide +kernel) rfl ?_
        exact V_sub [1, 2, 0] rfl (hL2 x2_2 (((b && cK σ h0 2) && cK σ h0 2) && cA σ (SR σ h0 1) 21 x2) σ)
    · skip
      refine V_iconst 29 rfl (show decode M_Ground_placeAt.2.1 28 = .ok (.iconst (-1), 1) by decide +kernel) (v := -1) rfl ?_
      exact V_iret rfl (by decide) (by decide) (show decode M_Ground_placeAt.2.1 29 = .ok (.ireturn, 1) by decide +kernel)
theorem cal_Ground_placeAt (d mc ms k n : Nat) (h1 : 1 + 1 ≤ d) (h2 : k + 0 ≤ mc) (h3 : n + 0 ≤ ms) : Cal M_Ground_placeAt 1 0 0 1 d mc ms k n := ⟨wd_656, wd_172, by decide, h1, by decide, h2, h3⟩
abbrev M_Ground_bedsAt : MD := (⟨"LongTrail$Ground", "bedsAt", "(I)I"⟩, prog_3_method_14_code, 3, (some FieldType.int))
def f_Ground_bedsAt (h0 : Nat) (x1 : Int32) (b : Bool) (σ : Sto) : Rs Int32 := (bd_ (f_Ground_placeAt h0 x1 (b && cK σ h0 2) σ) (fun (r_1 : Int32) (b_1 : Bool) (σ_1 : Sto) => (lt_ r_1 (fun (x2_2 : Int32) => (lt_ (fun (b : Bool) (σ : Sto) => ((0 : Int32), b, σ)) (fun J28 => (if x2_2 < 0 then (J28 b_1 σ_1) else (bd_ (f_Ground_isOf h0 x2_2 (1 : Int32) (b_1 && cK σ_1 h0 2) σ_1) (fun (r_3 : Int32) (b_3 : Bool) (σ_3 : Sto) => (if r_3 = 0 then (J28 b_3 σ_3) else ((SI σ_3 (SR σ_3 h0 2) (ix x2_2)), ((b_3 && cK σ_3 h0 2) && cA σ_3 (SR σ_3 h0 2) 21 x2_2), σ_3)))))))))))
set_option maxRecDepth 100000 in
set_option maxHeartbeats 4000000 in
theorem s_Ground_bedsAt : ∀ (h0 : Nat) (x1 : Int32) (b : Bool) (σ : Sto), Snd M_Ground_bedsAt 2 0 0 [vR h0, vI x1] b σ (tI (f_Ground_bedsAt h0 x1 b σ).1) (f_Ground_bedsAt h0 x1 b σ).2.1 (f_Ground_bedsAt h0 x1 b σ).2.2 := by
  intro h0 x1 b σ
  refine Snd_of (tv := tI) (by decide) (Nat.le_of_ble_eq_true rfl) ?_
  show V M_Ground_bedsAt 2 0 0 0 0 tI (f_Ground_bedsAt h0 x1 b σ) 0 [(0, vR h0), (1, vI x1)] [] b σ
  unfold f_Ground_bedsAt
  refine V_aload_n 1 rfl (show decode M_Ground_bedsAt.2.1 0 = .ok (.aload_n 0, 1) by decide +kernel) 0 rfl ?_
  refine V_iload_n 2 rfl (show decode M_Ground_bedsAt.2.1 1 = .ok (.iload_n 1, 1) by decide +kernel) 1 rfl ?_
  refine V_callV (tb := tI) (as := [vI x1]) (rest := []) (na := 1) 5 rfl ck_Ground (by decide) (s_Ground_placeAt h0 x1 (b && cK σ h0 2) σ) rfl rfl (Nat.le_of_ble_eq_true rfl) (cal_Ground_placeAt _ _ _ _ _ (by decide) (by decide) (by decide)) (show decode M_Ground_bedsAt.2.1 2 = .ok (.invokevirtual 67, 3) by decide +kernel) wd_1208 wd_655 wd_3 (fun r_1 b_1 σ_1 => ?_)
  show V M_Ground_bedsAt 2 0 0 0 0 tI _ 5 [(0, vR h0), (1, vI x1)] [vI r_1] b_1 σ_1
  refine V_istore_n (fun x2_2 => [(2, vI x2_2), (0, vR h0), (1, vI x1)]) 6 rfl (show decode M_Ground_bedsAt.2.1 5 = .ok (.istore_n 2, 1) by decide +kernel) (by decide) (fun _ => rfl) (fun x2_2 => ?_)
  refine V_iload_n 7 rfl (show decode M_Ground_bedsAt.2.1 6 = .ok (.iload_n 2, 1) by decide +kernel) 0 rfl ?_
  refine V_jn (fun (J28 : Bool → Sto → Rs Int32) => ∀ (b : Bool) (σ : Sto), V M_Ground_bedsAt 2 0 0 0 0 tI (J28 b σ) 28 [] [] b σ) ?_ (fun J28 hJ28 => ?_)
  · intro b σ
    refine V_iconst 29 rfl (show decode M_Ground_bedsAt.2.1 28 = .ok (.iconst 0, 1) by decide +kernel) (v := 0) rfl ?_
    exact V_iret rfl (by decide) (by decide) (show decode M_Ground_bedsAt.2.1 29 = .ok (.ireturn, 1) by decide +kernel)
  · skip
    refine V_iflt 10 28 rfl (show decode M_Ground_bedsAt.2.1 7 = .ok (.ifCond .lt 21, 3) by decide +kernel) rfl ?_ ?_
    · skip
      exact V_sub [] rfl (hJ28 b_1 σ_1)
    · skip
      refine V_aload_n 11 rfl (show decode M_Ground_bedsAt.2.1 10 = .ok (.aload_n 0, 1) by decide +kernel) 1 rfl ?_
      refine V_iload_n 12 rfl (show decode M_Ground_bedsAt.2.1 11 = .ok (.iload_n 2, 1) by decide +kernel) 0 rfl ?_
      refine V_iconst 13 rfl (show decode M_Ground_bedsAt.2.1 12 = .ok (.iconst 1, 1) by decide +kernel) (v := 1) rfl ?_
      refine V_callV (tb := tI) (as := [vI x2_2, vI (1 : Int32)]) (rest := []) (na := 2) 16 rfl ck_Ground (by decide) (s_Ground_isOf h0 x2_2 (1 : Int32) (b_1 && cK σ_1 h0 2) σ_1) rfl rfl (Nat.le_of_ble_eq_true rfl) (cal_Ground_isOf _ _ _ _ _ (by decide) (by decide) (by decide)) (show decode M_Ground_bedsAt.2.1 13 = .ok (.invokevirtual 63, 3) by decide +kernel) wd_701 wd_688 wd_9 (fun r_3 b_3 σ_3 => ?_)
      show V M_Ground_bedsAt 2 0 0 0 0 tI _ 16 [(2, vI x2_2), (0, vR h0), (1, vI x1)] [vI r_3] b_3 σ_3
      refine V_ifeq 19 28 rfl (show decode M_Ground_bedsAt.2.1 16 = .ok (.ifCond .eq 12, 3) by decide +kernel) rfl ?_ ?_
      · skip
        exact V_sub [] rfl (hJ28 b_3 σ_3)
      · skip
        refine V_aload_n 20 rfl (show decode M_Ground_bedsAt.2.1 19 = .ok (.aload_n 0, 1) by decide +kernel) 1 rfl ?_
        refine V_get (j := 2) (v := vR (SR σ_3 h0 2)) 23 rfl ck_Ground (by decide) (by decide) (show decode M_Ground_bedsAt.2.1 20 = .ok (.getfield 18, 3) by decide +kernel) wd_218 rfl ?_
        refine V_iload_n 24 rfl (show decode M_Ground_bedsAt.2.1 23 = .ok (.iload_n 2, 1) by decide +kernel) 0 rfl ?_
        refine V_ald_int 25 rfl (show decode M_Ground_bedsAt.2.1 24 = .ok (.iaload, 1) by decide +kernel) ?_
        refine V_goto 29 (show decode M_Ground_bedsAt.2.1 25 = .ok (.goto 4, 3) by decide +kernel) rfl ?_
        exact V_iret rfl (by decide) (by decide) (show decode M_Ground_bedsAt.2.1 29 = .ok (.ireturn, 1) by decide +kernel)
theorem cal_Ground_bedsAt (d mc ms k n : Nat) (h1 : 2 + 1 ≤ d) (h2 : k + 0 ≤ mc) (h3 : n + 0 ≤ ms) : Cal M_Ground_bedsAt 2 0 0 1 d mc ms k n := ⟨wd_1207, wd_172, by decide, h1, by decide, h2, h3⟩
abbrev M_Ground_landOf : MD := (⟨"LongTrail$Ground", "landOf", "(I)I"⟩, prog_3_method_15_code, 3, (some FieldType.int))
def b_Ground_landOf_2 (h0 : Nat) (x1 : Int32) (L2 : Int32 → Bool → Sto → Rs Int32) (x2 : Int32) (b : Bool) (σ : Sto) : Rs Int32 := (if 0 < x2 then (lt_ (fun (b : Bool) (σ : Sto) => (lt_ (x2 + (-1 : Int32)) (fun (x2_2 : Int32) => (L2 x2_2 b σ)))) (fun J29 => (if (SI σ (SR σ h0 4) (ix x2)) = (-1000000005 : Int32) then (J29 ((b && cK σ h0 2) && cA σ (SR σ h0 4) 21 x2) σ) else (if x1 < (SI σ (SR σ h0 4) (ix x2)) then (J29 ((((b && cK σ h0 2) && cA σ (SR σ h0 4) 21 x2) && cK σ h0 2) && cA σ (SR σ h0 4) 21 x2) σ) else (x2, ((((b && cK σ h0 2) && cA σ (SR σ h0 4) 21 x2) && cK σ h0 2) && cA σ (SR σ h0 4) 21 x2), σ))))) else ((0 : Int32), b, σ))
def f_Ground_landOf (h0 : Nat) (x1 : Int32) (b : Bool) (σ : Sto) : Rs Int32 := (lt_ (3 : Int32) (fun (x2_1 : Int32) => (lp_ (b_Ground_landOf_2 h0 x1) (fun (x2 : Int32) (b : Bool) (σ : Sto) => (0, false, σ)) fuel_ x2_1 b σ)))
set_option maxRecDepth 100000 in
set_option maxHeartbeats 4000000 in
theorem s_Ground_landOf : ∀ (h0 : Nat) (x1 : Int32) (b : Bool) (σ : Sto), Snd M_Ground_landOf 1 0 0 [vR h0, vI x1] b σ (tI (f_Ground_landOf h0 x1 b σ).1) (f_Ground_landOf h0 x1 b σ).2.1 (f_Ground_landOf h0 x1 b σ).2.2 := by
  intro h0 x1 b σ
  refine Snd_of (tv := tI) (by decide) (Nat.le_of_ble_eq_true rfl) ?_
  show V M_Ground_landOf 1 0 0 0 0 tI (f_Ground_landOf h0 x1 b σ) 0 [(0, vR h0), (1, vI x1)] [] b σ
  unfold f_Ground_landOf
  refine V_iconst 1 rfl (show decode M_Ground_landOf.2.1 0 = .ok (.iconst 3, 1) by decide +kernel) (v := 3) rfl ?_
  refine V_istore_n (fun x2_1 => [(2, vI x2_1), (0, vR h0), (1, vI x1)]) 2 rfl (show decode M_Ground_landOf.2.1 1 = .ok (.istore_n 2, 1) by decide +kernel) (by decide) (fun _ => rfl) (fun x2_1 => ?_)
  refine V_sub [1, 2, 0] rfl ?_
  refine lp_P (fun (L2 : Int32 → Bool → Sto → Rs Int32) => ∀ (x2 : Int32) (b : Bool) (σ : Sto), V M_Ground_landOf 1 0 0 0 0 tI (L2 x2 b σ) 2 [(0, vR h0), (1, vI x1), (2, vI x2)] [] b σ) ?_ ?_ fuel_ x2_1 b σ
  · intro x2 b σ; exact V_bad
  · intro L2 hL2 x2 b σ
    unfold b_Ground_landOf_2
    refine V_iload_n 3 rfl (show decode M_Ground_landOf.2.1 2 = .ok (.iload_n 2, 1) by decide +kernel) 2 rfl ?_
    refine V_ifle 6 35 rfl (show decode M_Ground_landOf.2.1 3 = .ok (.ifCond .le 32, 3) by decide +kernel) rfl ?_ ?_
    · skip
      refine V_aload_n 7 rfl (show decode M_Ground_landOf.2.1 6 = .ok (.aload_n 0, 1) by decide +kernel) 0 rfl ?_
      refine V_get (j := 4) (v := vR (SR σ h0 4)) 10 rfl ck_Ground (by decide) (by decide) (show decode M_Ground_landOf.2.1 7 = .ok (.getfield 25, 3) by decide +kernel) wd_222 rfl ?_
      refine V_iload_n 11 rfl (show decode M_Ground_landOf.2.1 10 = .ok (.iload_n 2, 1) by decide +kernel) 2 rfl ?_
      refine V_ald_int 12 rfl (show decode M_Ground_landOf.2.1 11 = .ok (.iaload, 1) by decide +kernel) ?_
      refine V_ldc 14 rfl (show decode M_Ground_landOf.2.1 12 = .ok (.ldc 24, 2) by decide +kernel) wd_211 ?_
      refine V_jn (fun (J29 : Bool → Sto → Rs Int32) => ∀ (b : Bool) (σ : Sto), V M_Ground_landOf 1 0 0 0 0 tI (J29 b σ) 29 [(0, vR h0), (1, vI x1), (2, vI x2)] [] b σ) ?_ (fun J29 hJ29 => ?_)
      · intro b σ
        refine V_iinc (fun x2_2 => [(2, vI x2_2), (0, vR h0), (1, vI x1)]) 32 rfl (show decode M_Ground_landOf.2.1 29 = .ok (.iinc 2 (-1), 3) by decide +kernel) 2 rfl (w := -1) rfl (by decide) (fun _ => rfl) (fun x2_2 => ?_)
        refine V_goto 2 (show decode M_Ground_landOf.2.1 32 = .ok (.goto (-30), 3) by decide +kernel) rfl ?_
        exact V_sub [1, 2, 0] rfl (hL2 x2_2 b σ)
      · skip
        refine V_icmpeq 17 29 rfl (show decode M_Ground_landOf.2.1 14 = .ok (.if_icmp .eq 15, 3) by decide +kernel) rfl ?_ ?_
        · skip
          exact V_sub [0, 1, 2] rfl (hJ29 ((b && cK σ h0 2) && cA σ (SR σ h0 4) 21 x2) σ)
        · skip
          refine V_aload_n 18 rfl (show decode M_Ground_landOf.2.1 17 = .ok (.aload_n 0, 1) by decide +kernel) 0 rfl ?_
          refine V_get (j := 4) (v := vR (SR σ h0 4)) 21 rfl ck_Ground (by decide) (by decide) (show decode M_Ground_landOf.2.1 18 = .ok (.getfield 25, 3) by decide +kernel) wd_222 rfl ?_
          refine V_iload_n 22 rfl (show decode M_Ground_landOf.2.1 21 = .ok (.iload_n 2, 1) by decide +kernel) 2 rfl ?_
          refine V_ald_int 23 rfl (show decode M_Ground_landOf.2.1 22 = .ok (.iaload, 1) by decide +kernel) ?_
          refine V_iload_n 24 rfl (show decode M_Ground_landOf.2.1 23 = .ok (.iload_n 1, 1) by decide +kernel) 1 rfl ?_
          refine V_icmpgt 27 29 rfl (show decode M_Ground_landOf.2.1 24 = .ok (.if_icmp .gt 5, 3) by decide +kernel) rfl ?_ ?_
          · skip
            exact V_sub [0, 1, 2] rfl (hJ29 ((((b && cK σ h0 2) && cA σ (SR σ h0 4) 21 x2) && cK σ h0 2) && cA σ (SR σ h0 4) 21 x2) σ)
          · skip
            refine V_iload_n 28 rfl (show decode M_Ground_landOf.2.1 27 = .ok (.iload_n 2, 1) by decide +kernel) 2 rfl ?_
            exact V_iret rfl (by decide) (by decide) (show decode M_Ground_landOf.2.1 28 = .ok (.ireturn, 1) by decide +kernel)
    · skip
      refine V_iconst 36 rfl (show decode M_Ground_landOf.2.1 35 = .ok (.iconst 0, 1) by decide +kernel) (v := 0) rfl ?_
      exact V_iret rfl (by decide) (by decide) (show decode M_Ground_landOf.2.1 36 = .ok (.ireturn, 1) by decide +kernel)
theorem cal_Ground_landOf (d mc ms k n : Nat) (h1 : 1 + 1 ≤ d) (h2 : k + 0 ≤ mc) (h3 : n + 0 ≤ ms) : Cal M_Ground_landOf 1 0 0 1 d mc ms k n := ⟨wd_714, wd_172, by decide, h1, by decide, h2, h3⟩
abbrev M_Laws_countingText : MD := (⟨"LongTrail$Laws", "countingText", "(III)I"⟩, prog_4_method_5_code, 8, (some FieldType.int))
def b_Laws_countingText_9 (h0 : Nat) (x1 : Int32) (x2 : Int32) (x3 : Int32) (L9 : Int32 → Int32 → Int32 → Bool → Sto → Rs Int32) (x4 : Int32) (x5 : Int32) (x6 : Int32) (b : Bool) (σ : Sto) : Rs Int32 := (if x6 < (SI σ h0 1) then (lt_ (SR σ (SR σ h0 0) (ix x6)) (fun (h7_4 : Nat) => (lt_ (fun (x4_75 : Int32) (x5_75 : Int32) (b : Bool) (σ : Sto) => (lt_ (x6 + (1 : Int32)) (fun (x6_5 : Int32) => (L9 x4_75 x5_75 x6_5 b σ)))) (fun J75 => (if h7_4 = 0 then (J75 x4 x5 (((b && cK σ h0 3) && cK σ h0 3) && cA σ (SR σ h0 0) 25 x6) σ) else (if (SI σ h7_4 1) = x1 then (if (SI σ h7_4 0) = x2 then (bd_ (f_Trail_within (SI σ h7_4 2) x5 x3 ((((((b && cK σ h0 3) && cK σ h0 3) && cA σ (SR σ h0 0) 25 x6) && cK σ h7_4 9) && cK σ h7_4 9) && cK σ h7_4 9) σ) (fun (r_6 : Int32) (b_6 : Bool) (σ_6 : Sto) => (if r_6 = 0 then (J75 x4 x5 b_6 σ_6) else (lt_ x6 (fun (x4_7 : Int32) => (lt_ (SI σ_6 h7_4 2) (fun (x5_8 : Int32) => (J75 x4_7 x5_8 (b_6 && cK σ_6 h7_4 9) σ_6)))))))) else (J75 x4 x5 (((((b && cK σ h0 3) && cK σ h0 3) && cA σ (SR σ h0 0) 25 x6) && cK σ h7_4 9) && cK σ h7_4 9) σ)) else (J75 x4 x5 ((((b && cK σ h0 3) && cK σ h0 3) && cA σ (SR σ h0 0) 25 x6) && cK σ h7_4 9) σ))))))) else (x4, (b && cK σ h0 3), σ))
def f_Laws_countingText (h0 : Nat) (x1 : Int32) (x2 : Int32) (x3 : Int32) (b : Bool) (σ : Sto) : Rs Int32 := (lt_ (-1 : Int32) (fun (x4_1 : Int32) => (lt_ (-1 : Int32) (fun (x5_2 : Int32) => (lt_ (0 : Int32) (fun (x6_3 : Int32) => (lp_ (b_Laws_countingText_9 h0 x1 x2 x3) (fun (x4 : Int32) (x5 : Int32) (x6 : Int32) (b : Bool) (σ : Sto) => (0, false, σ)) fuel_ x4_1 x5_2 x6_3 b σ)))))))
set_option maxRecDepth 100000 in
set_option maxHeartbeats 4000000 in
theorem s_Laws_countingText : ∀ (h0 : Nat) (x1 : Int32) (x2 : Int32) (x3 : Int32) (b : Bool) (σ : Sto), Snd M_Laws_countingText 2 0 0 [vR h0, vI x1, vI x2, vI x3] b σ (tI (f_Laws_countingText h0 x1 x2 x3 b σ).1) (f_Laws_countingText h0 x1 x2 x3 b σ).2.1 (f_Laws_countingText h0 x1 x2 x3 b σ).2.2 := by
  intro h0 x1 x2 x3 b σ
  refine Snd_of (tv := tI) (by decide) (Nat.le_of_ble_eq_true rfl) ?_
  show V M_Laws_countingText 2 0 0 0 0 tI (f_Laws_countingText h0 x1 x2 x3 b σ) 0 [(0, vR h0), (1, vI x1), (2, vI x2), (3, vI x3)] [] b σ
  unfold f_Laws_countingText
  refine V_iconst 1 rfl (show decode M_Laws_countingText.2.1 0 = .ok (.iconst (-1), 1) by decide +kernel) (v := -1) rfl ?_
  refine V_istore (fun x4_1 => [(4, vI x4_1), (0, vR h0), (1, vI x1), (2, vI x2), (3, vI x3)]) 3 rfl (show decode M_Laws_countingText.2.1 1 = .ok (.istore 4, 2) by decide +kernel) (by decide) (fun _ => rfl) (fun x4_1 => ?_)
  refine V_iconst 4 rfl (show decode M_Laws_countingText.2.1 3 = .ok (.iconst (-1), 1) by decide +kernel) (v := -1) rfl ?_
  refine V_istore (fun x5_2 => [(5, vI x5_2), (4, vI x4_1), (0, vR h0), (1, vI x1), (2, vI x2), (3, vI x3)]) 6 rfl (show decode M_Laws_countingText.2.1 4 = .ok (.istore 5, 2) by decide +kernel) (by decide) (fun _ => rfl) (fun x5_2 => ?_)
  refine V_iconst 7 rfl (show decode M_Laws_countingText.2.1 6 = .ok (.iconst 0, 1) by decide +kernel) (v := 0) rfl ?_
  refine V_istore (fun x6_3 => [(6, vI x6_3), (5, vI x5_2), (4, vI x4_1), (0, vR h0), (1, vI x1), (2, vI x2), (3, vI x3)]) 9 rfl (show decode M_Laws_countingText.2.1 7 = .ok (.istore 6, 2) by decide +kernel) (by decide) (fun _ => rfl) (fun x6_3 => ?_)
  refine V_sub [3, 4, 5, 6, 2, 1, 0] rfl ?_
  refine lp_P (fun (L9 : Int32 → Int32 → Int32 → Bool → Sto → Rs Int32) => ∀ (x4 : Int32) (x5 : Int32) (x6 : Int32) (b : Bool) (σ : Sto), V M_Laws_countingText 2 0 0 0 0 tI (L9 x4 x5 x6 b σ) 9 [(0, vR h0), (1, vI x1), (2, vI x2), (3, vI x3), (4, vI x4), (5, vI x5), (6, vI x6)] [] b σ) ?_ ?_ fuel_ x4_1 x5_2 x6_3 b σ
  · intro x4 x5 x6 b σ; exact V_bad
  · intro L9 hL9 x4 x5 x6 b σ
    unfold b_Laws_countingText_9
    refine V_iload 11 rfl (show decode M_Laws_countingText.2.1 9 = .ok (.iload 6, 2) by decide +kernel) 6 rfl ?_
    refine V_aload_n 12 rfl (show decode M_Laws_countingText.2.1 11 = .ok (.aload_n 0, 1) by decide +kernel) 0 rfl ?_
    refine V_get (j := 1) (v := vI (SI σ h0 1)) 15 rfl ck_Laws (by decide) (by decide) (show decode M_Laws_countingText.2.1 12 = .ok (.getfield 24, 3) by decide +kernel) wd_275 rfl ?_
    refine V_icmpge 18 81 rfl (show decode M_Laws_countingText.2.1 15 = .ok (.if_icmp .ge 66, 3) by decide +kernel) rfl ?_ ?_
    · skip
      refine V_aload_n 19 rfl (show decode M_Laws_countingText.2.1 18 = .ok (.aload_n 0, 1) by decide +kernel) 0 rfl ?_
      refine V_get (j := 0) (v := vR (SR σ h0 0)) 22 rfl ck_Laws (by decide) (by decide) (show decode M_Laws_countingText.2.1 19 = .ok (.getfield 11, 3) by decide +kernel) wd_274 rfl ?_
      refine V_iload 24 rfl (show decode M_Laws_countingText.2.1 22 = .ok (.iload 6, 2) by decide +kernel) 6 rfl ?_
      refine V_ald_r25 25 rfl (show decode M_Laws_countingText.2.1 24 = .ok (.aaload, 1) by decide +kernel) ?_
      refine V_astore (fun h7_4 => [(7, vR h7_4), (0, vR h0), (1, vI x1), (2, vI x2), (3, vI x3), (4, vI x4), (5, vI x5), (6, vI x6)]) 27 rfl (show decode M_Laws_countingText.2.1 25 = .ok (.astore 7, 2) by decide +kernel) (by decide) (fun _ => rfl) (fun h7_4 => ?_)
      refine V_aload 29 rfl (show decode M_Laws_countingText.2.1 27 = .ok (.aload 7, 2) by decide +kernel) 0 rfl ?_
      refine V_jn (fun (J75 : Int32 → Int32 → Bool → Sto → Rs Int32) => ∀ (x4_75 : Int32) (x5_75 : Int32) (b : Bool) (σ : Sto), V M_Laws_countingText 2 0 0 0 0 tI (J75 x4_75 x5_75 b σ) 75 [(0, vR h0), (1, vI x1), (2, vI x2), (3, vI x3), (4, vI x4_75), (5, vI x5_75), (6, vI x6)] [] b σ) ?_ (fun J75 hJ75 => ?_)
      · intro x4_75 x5_75 b σ
        refine V_iinc (fun x6_5 => [(6, vI x6_5), (0, vR h0), (1, vI x1), (2, vI x2), (3, vI x3), (4, vI x4_75), (5, vI x5_75)]) 78 rfl (show decode M_Laws_countingText.2.1 75 = .ok (.iinc 6 1, 3) by decide +kernel) 6 rfl (w := 1) rfl (by decide) (fun _ => rfl) (fun x6_5 => ?_)
        refine V_goto 9 (show decode M_Laws_countingText.2.1 78 = .ok (.goto (-69), 3) by decide +kernel) rfl ?_
        exact V_sub [1, 2, 3, 4, 5, 6, 0] rfl (hL9 x4_75 x5_75 x6_5 b σ)
      · skip
        refine V_ifnull 32 75 rfl (show decode M_Laws_countingText.2.1 29 = .ok (.ifnull 46, 3) by decide +kernel) rfl ?_ ?_
        · skip
          exact V_sub [1, 2, 3, 4, 5, 6, 7] rfl (hJ75 x4 x5 (((b && cK σ h0 3) && cK σ h0 3) && cA σ (SR σ h0 0) 25 x6) σ)
        · skip
          refine V_aload 34 rfl (show decode M_Laws_countingText.2.1 32 = .ok (.aload 7, 2) by decide +kernel) 0 rfl ?_
          refine V_getN (j := 1) (v := vI (SI σ h7_4 1)) 37 rfl ck_Text (by decide) (by decide) (show decode M_Laws_countingText.2.1 34 = .ok (.getfield 34, 3) by decide +kernel) wd_963 rfl ?_
          refine V_iload_n 38 rfl (show decode M_Laws_countingText.2.1 37 = .ok (.iload_n 1, 1) by decide +kernel) 2 rfl ?_
          refine V_icmpne 41 75 rfl (show decode M_Laws_countingText.2.1 38 = .ok (.if_icmp .ne 37, 3) by decide +kernel) rfl ?_ ?_
          · skip
            refine V_aload 43 rfl (show decode M_Laws_countingText.2.1 41 = .ok (.aload 7, 2) by decide +kernel) 0 rfl ?_
            refine V_getN (j := 0) (v := vI (SI σ h7_4 0)) 46 rfl ck_Text (by decide) (by decide) (show decode M_Laws_countingText.2.1 43 = .ok (.getfield 37, 3) by decide +kernel) wd_960 rfl ?_
            refine V_iload_n 47 rfl (show decode M_Laws_countingText.2.1 46 = .ok (.iload_n 2, 1) by decide +kernel) 3 rfl ?_
            refine V_icmpne 50 75 rfl (show decode M_Laws_countingText.2.1 47 = .ok (.if_icmp .ne 28, 3) by decide +kernel) rfl ?_ ?_
            · skip
              refine V_aload 52 rfl (show decode M_Laws_countingText.2.1 50 = .ok (.aload 7, 2) by decide +kernel) 0 rfl ?_
              refine V_getN (j := 2) (v := vI (SI σ h7_4 2)) 55 rfl ck_Text (by decide) (by decide) (show decode M_Laws_countingText.2.1 52 = .ok (.getfield 40, 3) by decide +kernel) wd_966 rfl ?_
              refine V_iload 57 rfl (show decode M_Laws_countingText.2.1 55 = .ok (.iload 5, 2) by decide +kernel) 6 rfl ?_
              refine V_iload_n 58 rfl (show decode M_Laws_countingText.2.1 57 = .ok (.iload_n 3, 1) by decide +kernel) 4 rfl ?_
              refine V_callSN (tb := tI) (as := [vI (SI σ h7_4 2), vI x5, vI x3]) (rest := []) (na := 3) 61 rfl (s_Trail_within (SI σ h7_4 2) x5 x3 ((((((b && cK σ h0 3) && cK σ h0 3) && cA σ (SR σ h0 0) 25 x6) && cK σ h7_4 9) && cK σ h7_4 9) && cK σ h7_4 9) σ) rfl rfl (Nat.le_of_ble_eq_true rfl) (cal_Trail_within _ _ _ _ _ (by decide) (by decide) (by decide)) (show decode M_Laws_countingText.2.1 58 = .ok (.invokestatic 28, 3) by decide +kernel) wd_995 wd_629 (fun r_6 b_6 σ_6 => ?_)
              show V M_Laws_countingText 2 0 0 0 0 tI _ 61 [(7, vR h7_4), (0, vR h0), (1, vI x1), (2, vI x2), (3, vI x3), (4, vI x4), (5, vI x5), (6, vI x6)] [vI r_6] b_6 σ_6
              refine V_ifeq 64 75 rfl (show decode M_Laws_countingText.2.1 61 = .ok (.ifCond .eq 14, 3) by decide +kernel) rfl ?_ ?_
              · skip
                exact V_sub [1, 2, 3, 4, 5, 6, 7] rfl (hJ75 x4 x5 b_6 σ_6)
              · skip
                refine V_iload 66 rfl (show decode M_Laws_countingText.2.1 64 = .ok (.iload 6, 2) by decide +kernel) 7 rfl ?_
                refine V_istore (fun x4_7 => [(4, vI x4_7), (7, vR h7_4), (0, vR h0), (1, vI x1), (2, vI x2), (3, vI x3), (5, vI x5), (6, vI x6)]) 68 rfl (show decode M_Laws_countingText.2.1 66 = .ok (.istore 4, 2) by decide +kernel) (by decide) (fun _ => rfl) (fun x4_7 => ?_)
                refine V_aload 70 rfl (show decode M_Laws_countingText.2.1 68 = .ok (.aload 7, 2) by decide +kernel) 1 rfl ?_
                refine V_getN (j := 2) (v := vI (SI σ_6 h7_4 2)) 73 rfl ck_Text (by decide) (by decide) (show decode M_Laws_countingText.2.1 70 = .ok (.getfield 40, 3) by decide +kernel) wd_966 rfl ?_
                refine V_istore (fun x5_8 => [(5, vI x5_8), (4, vI x4_7), (7, vR h7_4), (0, vR h0), (1, vI x1), (2, vI x2), (3, vI x3), (6, vI x6)]) 75 rfl (show decode M_Laws_countingText.2.1 73 = .ok (.istore 5, 2) by decide +kernel) (by decide) (fun _ => rfl) (fun x5_8 => ?_)
                exact V_sub [3, 4, 5, 6, 1, 0, 7] rfl (hJ75 x4_7 x5_8 (b_6 && cK σ_6 h7_4 9) σ_6)
            · skip
              exact V_sub [1, 2, 3, 4, 5, 6, 7] rfl (hJ75 x4 x5 (((((b && cK σ h0 3) && cK σ h0 3) && cA σ (SR σ h0 0) 25 x6) && cK σ h7_4 9) && cK σ h7_4 9) σ)
          · skip
            exact V_sub [1, 2, 3, 4, 5, 6, 7] rfl (hJ75 x4 x5 ((((b && cK σ h0 3) && cK σ h0 3) && cA σ (SR σ h0 0) 25 x6) && cK σ h7_4 9) σ)
    · skip
      refine V_iload 83 rfl (show decode M_Laws_countingText.2.1 81 = .ok (.iload 4, 2) by decide +kernel) 4 rfl ?_
      exact V_iret rfl (by decide) (by decide) (show decode M_Laws_countingText.2.1 83 = .ok (.ireturn, 1) by decide +kernel)
theorem cal_Laws_countingText (d mc ms k n : Nat) (h1 : 2 + 1 ≤ d) (h2 : k + 0 ≤ mc) (h3 : n + 0 ≤ ms) : Cal M_Laws_countingText 2 0 0 3 d mc ms k n := ⟨wd_1003, wd_173, by decide, h1, by decide, h2, h3⟩
abbrev M_Laws_textOf : MD := (⟨"LongTrail$Laws", "textOf", "(I)LLongTrail$Text;"⟩, prog_4_method_4_code, 2, (some (FieldType.object "LongTrail$Text")))
def f_Laws_textOf (h0 : Nat) (x1 : Int32) (b : Bool) (σ : Sto) : Rs Nat := (bd_ (f_Trail_within x1 (0 : Int32) ((SI σ h0 1) - (1 : Int32)) (b && cK σ h0 3) σ) (fun (r_1 : Int32) (b_1 : Bool) (σ_1 : Sto) => (if r_1 = 0 then (0, b_1, σ_1) else ((SR σ_1 (SR σ_1 h0 0) (ix x1)), ((b_1 && cK σ_1 h0 3) && cA σ_1 (SR σ_1 h0 0) 25 x1), σ_1))))
set_option maxRecDepth 100000 in
set_option maxHeartbeats 4000000 in
theorem s_Laws_textOf : ∀ (h0 : Nat) (x1 : Int32) (b : Bool) (σ : Sto), Snd M_Laws_textOf 2 0 0 [vR h0, vI x1] b σ (tR (f_Laws_textOf h0 x1 b σ).1) (f_Laws_textOf h0 x1 b σ).2.1 (f_Laws_textOf h0 x1 b σ).2.2 := by
  intro h0 x1 b σ
  refine Snd_of (tv := tR) (by decide) (Nat.le_of_ble_eq_true rfl) ?_
  show V M_Laws_textOf 2 0 0 0 0 tR (f_Laws_textOf h0 x1 b σ) 0 [(0, vR h0), (1, vI x1)] [] b σ
  unfold f_Laws_textOf
  refine V_iload_n 1 rfl (show decode M_Laws_textOf.2.1 0 = .ok (.iload_n 1, 1) by decide +kernel) 1 rfl ?_
  refine V_iconst 2 rfl (show decode M_Laws_textOf.2.1 1 = .ok (.iconst 0, 1) by decide +kernel) (v := 0) rfl ?_
  refine V_aload_n 3 rfl (show decode M_Laws_textOf.2.1 2 = .ok (.aload_n 0, 1) by decide +kernel) 0 rfl ?_
  refine V_get (j := 1) (v := vI (SI σ h0 1)) 6 rfl ck_Laws (by decide) (by decide) (show decode M_Laws_textOf.2.1 3 = .ok (.getfield 24, 3) by decide +kernel) wd_275 rfl ?_
  refine V_iconst 7 rfl (show decode M_Laws_textOf.2.1 6 = .ok (.iconst 1, 1) by decide +kernel) (v := 1) rfl ?_
  refine V_isub 8 rfl (show decode M_Laws_textOf.2.1 7 = .ok (.isub, 1) by decide +kernel) ?_
  refine V_callSN (tb := tI) (as := [vI x1, vI (0 : Int32), vI ((SI σ h0 1) - (1 : Int32))]) (rest := []) (na := 3) 11 rfl (s_Trail_within x1 (0 : Int32) ((SI σ h0 1) - (1 : Int32)) (b && cK σ h0 3) σ) rfl rfl (Nat.le_of_ble_eq_true rfl) (cal_Trail_within _ _ _ _ _ (by decide) (by decide) (by decide)) (show decode M_Laws_textOf.2.1 8 = .ok (.invokestatic 28, 3) by decide +kernel) wd_995 wd_629 (fun r_1 b_1 σ_1 => ?_)
  show V M_Laws_textOf 2 0 0 0 0 tR _ 11 [(0, vR h0), (1, vI x1)] [vI r_1] b_1 σ_1
  refine V_ifeq 14 23 rfl (show decode M_Laws_textOf.2.1 11 = .ok (.ifCond .eq 12, 3) by decide +kernel) rfl ?_ ?_
  · skip
    refine V_null 24 rfl (show decode M_Laws_textOf.2.1 23 = .ok (.aconst_null, 1) by decide +kernel) ?_
    exact V_aret rfl (by decide) (by decide) (Or.inl ⟨_, rfl⟩) (show decode M_Laws_textOf.2.1 24 = .ok (.areturn, 1) by decide +kernel)
  · skip
    refine V_aload_n 15 rfl (show decode M_Laws_textOf.2.1 14 = .ok (.aload_n 0, 1) by decide +kernel) 0 rfl ?_
    refine V_get (j := 0) (v := vR (SR σ_1 h0 0)) 18 rfl ck_Laws (by decide) (by decide) (show decode M_Laws_textOf.2.1 15 = .ok (.getfield 11, 3) by decide +kernel) wd_274 rfl ?_
    refine V_iload_n 19 rfl (show decode M_Laws_textOf.2.1 18 = .ok (.iload_n 1, 1) by decide +kernel) 1 rfl ?_
    refine V_ald_r25 20 rfl (show decode M_Laws_textOf.2.1 19 = .ok (.aaload, 1) by decide +kernel) ?_
    refine V_goto 24 (show decode M_Laws_textOf.2.1 20 = .ok (.goto 4, 3) by decide +kernel) rfl ?_
    exact V_aret rfl (by decide) (by decide) (Or.inl ⟨_, rfl⟩) (show decode M_Laws_textOf.2.1 24 = .ok (.areturn, 1) by decide +kernel)
theorem cal_Laws_textOf (d mc ms k n : Nat) (h1 : 2 + 1 ≤ d) (h2 : k + 0 ≤ mc) (h3 : n + 0 ≤ ms) : Cal M_Laws_textOf 2 0 0 1 d mc ms k n := ⟨wd_994, wd_173, by decide, h1, by decide, h2, h3⟩
abbrev M_Laws_joined : MD := (⟨"LongTrail$Laws", "joined", "(III)I"⟩, prog_4_method_12_code, 3, (some FieldType.int))
def f_Laws_joined (x0 : Int32) (x1 : Int32) (x2 : Int32) (b : Bool) (σ : Sto) : Rs Int32 := (if x0 = (38 : Int32) then (lt_ (fun (b : Bool) (σ : Sto) => ((0 : Int32), b, σ)) (fun J102 => (if x1 = 0 then (J102 b σ) else (if x2 = 0 then (J102 b σ) else ((1 : Int32), b, σ))))) else (if x0 = (42 : Int32) then ((x1 * x2), b, σ) else (if x0 = (43 : Int32) then ((x1 + x2), b, σ) else (if x0 = (45 : Int32) then ((x1 - x2), b, σ) else (if x0 = (60 : Int32) then (if x1 < x2 then ((1 : Int32), b, σ) else ((0 : Int32), b, σ)) else (if x0 = (61 : Int32) then (if x1 = x2 then ((1 : Int32), b, σ) else ((0 : Int32), b, σ)) else (if x0 = (62 : Int32) then (if x2 < x1 then ((1 : Int32), b, σ) else ((0 : Int32), b, σ)) else (if x0 = (124 : Int32) then (lt_ (fun (b : Bool) (σ : Sto) => ((1 : Int32), b, σ)) (fun J84 => (if x1 = 0 then (if x2 = 0 then ((0 : Int32), b, σ) else (J84 b σ)) else (J84 b σ)))) else (if x2 = 0 then ((0 : Int32), b, σ) else ((x1 / x2), (b && !decide (x2 = 0)), σ))))))))))
set_option maxRecDepth 100000 in
set_option maxHeartbeats 4000000 in
theorem s_Laws_joined : ∀ (x0 : Int32) (x1 : Int32) (x2 : Int32) (b : Bool) (σ : Sto), Snd M_Laws_joined 1 0 0 [vI x0, vI x1, vI x2] b σ (tI (f_Laws_joined x0 x1 x2 b σ).1) (f_Laws_joined x0 x1 x2 b σ).2.1 (f_Laws_joined x0 x1 x2 b σ).2.2 := by
  intro x0 x1 x2 b σ
  refine Snd_of (tv := tI) (by decide) (Nat.le_of_ble_eq_true rfl) ?_
  show V M_Laws_joined 1 0 0 0 0 tI (f_Laws_joined x0 x1 x2 b σ) 0 [(0, vI x0), (1, vI x1), (2, vI x2)] [] b σ
  unfold f_Laws_joined
  refine V_iload_n 1 rfl (show decode M_Laws_joined.2.1 0 = .ok (.iload_n 0, 1) by decide +kernel) 0 rfl ?_
  refine V_ite (fun hs1_38 => ?_) (fun hs1_38 => ?_)
  · refine V_lsw (off := 89) 90 (show decode M_Laws_joined.2.1 1 = .ok (.lookupswitch 148 #[(38, 89), (42, 144), (43, 136), (45, 140), (60, 103), (61, 114), (62, 125), (124, 75)], 75) by decide +kernel) (by decide) (by rw [hs1_38]; decide) rfl ?_
    refine V_iload_n 91 rfl (show decode M_Laws_joined.2.1 90 = .ok (.iload_n 1, 1) by decide +kernel) 1 rfl ?_
    refine V_jn (fun (J102 : Bool → Sto → Rs Int32) => ∀ (b : Bool) (σ : Sto), V M_Laws_joined 1 0 0 0 0 tI (J102 b σ) 102 [] [] b σ) ?_ (fun J102 hJ102 => ?_)
    · intro b σ
      refine V_iconst 103 rfl (show decode M_Laws_joined.2.1 102 = .ok (.iconst 0, 1) by decide +kernel) (v := 0) rfl ?_
      exact V_iret rfl (by decide) (by decide) (show decode M_Laws_joined.2.1 103 = .ok (.ireturn, 1) by decide +kernel)
    · skip
      refine V_ifeq 94 102 rfl (show decode M_Laws_joined.2.1 91 = .ok (.ifCond .eq 11, 3) by decide +kernel) rfl ?_ ?_
      · skip
        exact V_sub [] rfl (hJ102 b σ)
      · skip
        refine V_iload_n 95 rfl (show decode M_Laws_joined.2.1 94 = .ok (.iload_n 2, 1) by decide +kernel) 2 rfl ?_
        refine V_ifeq 98 102 rfl (show decode M_Laws_joined.2.1 95 = .ok (.ifCond .eq 7, 3) by decide +kernel) rfl ?_ ?_
        · skip
          exact V_sub [] rfl (hJ102 b σ)
        · skip
          refine V_iconst 99 rfl (show decode M_Laws_joined.2.1 98 = .ok (.iconst 1, 1) by decide +kernel) (v := 1) rfl ?_
          refine V_goto 103 (show decode M_Laws_joined.2.1 99 = .ok (.goto 4, 3) by decide +kernel) rfl ?_
          exact V_iret rfl (by decide) (by decide) (show decode M_Laws_joined.2.1 103 = .ok (.ireturn, 1) by decide +kernel)
  refine V_ite (fun hs1_42 => ?_) (fun hs1_42 => ?_)
  · refine V_lsw (off := 144) 145 (show decode M_Laws_joined.2.1 1 = .ok (.lookupswitch 148 #[(38, 89), (42, 144), (43, 136), (45, 140), (60, 103), (61, 114), (62, 125), (124, 75)], 75) by decide +kernel) (by decide) (by rw [hs1_42]; decide) rfl ?_
    refine V_iload_n 146 rfl (show decode M_Laws_joined.2.1 145 = .ok (.iload_n 1, 1) by decide +kernel) 1 rfl ?_
    refine V_iload_n 147 rfl (show decode M_Laws_joined.2.1 146 = .ok (.iload_n 2, 1) by decide +kernel) 2 rfl ?_
    refine V_imul 148 rfl (show decode M_Laws_joined.2.1 147 = .ok (.imul, 1) by decide +kernel) ?_
    exact V_iret rfl (by decide) (by decide) (show decode M_Laws_joined.2.1 148 = .ok (.ireturn, 1) by decide +kernel)
  refine V_ite (fun hs1_43 => ?_) (fun hs1_43 => ?_)
  · refine V_lsw (off := 136) 137 (show decode M_Laws_joined.2.1 1 = .ok (.lookupswitch 148 #[(38, 89), (42, 144), (43, 136), (45, 140), (60, 103), (61, 114), (62, 125), (124, 75)], 75) by decide +kernel) (by decide) (by rw [hs1_43]; decide) rfl ?_
    refine V_iload_n 138 rfl (show decode M_Laws_joined.2.1 137 = .ok (.iload_n 1, 1) by decide +kernel) 1 rfl ?_
    refine V_iload_n 139 rfl (show decode M_Laws_joined.2.1 138 = .ok (.iload_n 2, 1) by decide +kernel) 2 rfl ?_
    refine V_iadd 140 rfl (show decode M_Laws_joined.2.1 139 = .ok (.iadd, 1) by decide +kernel) ?_
    exact V_iret rfl (by decide) (by decide) (show decode M_Laws_joined.2.1 140 = .ok (.ireturn, 1) by decide +kernel)
  refine V_ite (fun hs1_45 => ?_) (fun hs1_45 => ?_)
  · refine V_lsw (off := 140) 141 (show decode M_Laws_joined.2.1 1 = .ok (.lookupswitch 148 #[(38, 89), (42, 144), (43, 136), (45, 140), (60, 103), (61, 114), (62, 125), (124, 75)], 75) by decide +kernel) (by decide) (by rw [hs1_45]; decide) rfl ?_
    refine V_iload_n 142 rfl (show decode M_Laws_joined.2.1 141 = .ok (.iload_n 1, 1) by decide +kernel) 1 rfl ?_
    refine V_iload_n 143 rfl (show decode M_Laws_joined.2.1 142 = .ok (.iload_n 2, 1) by decide +kernel) 2 rfl ?_
    refine V_isub 144 rfl (show decode M_Laws_joined.2.1 143 = .ok (.isub, 1) by decide +kernel) ?_
    exact V_iret rfl (by decide) (by decide) (show decode M_Laws_joined.2.1 144 = .ok (.ireturn, 1) by decide +kernel)
  refine V_ite (fun hs1_60 => ?_) (fun hs1_60 => ?_)
  · refine V_lsw (off := 103) 104 (show decode M_Laws_joined.2.1 1 = .ok (.lookupswitch 148 #[(38, 89), (42, 144), (43, 136), (45, 140), (60, 103), (61, 114), (62, 125), (124, 75)], 75) by decide +kernel) (by decide) (by rw [hs1_60]; decide) rfl ?_
    refine V_iload_n 105 rfl (show decode M_Laws_joined.2.1 104 = .ok (.iload_n 1, 1) by decide +kernel) 1 rfl ?_
    refine V_iload_n 106 rfl (show decode M_Laws_joined.2.1 105 = .ok (.iload_n 2, 1) by decide +kernel) 2 rfl ?_
    refine V_icmpge 109 113 rfl (show decode M_Laws_joined.2.1 106 = .ok (.if_icmp .ge 7, 3) by decide +kernel) rfl ?_ ?_
    · skip
      refine V_iconst 110 rfl (show decode M_Laws_joined.2.1 109 = .ok (.iconst 1, 1) by decide +kernel) (v := 1) rfl ?_
      refine V_goto 114 (show decode M_Laws_joined.2.1 110 = .ok (.goto 4, 3) by decide +kernel) rfl ?_
      exact V_iret rfl (by decide) (by decide) (show decode M_Laws_joined.2.1 114 = .ok (.ireturn, 1) by decide +kernel)
    · skip
      refine V_iconst 114 rfl (show decode M_Laws_joined.2.1 113 = .ok (.iconst 0, 1) by decide +kernel) (v := 0) rfl ?_
      exact V_iret rfl (by decide) (by decide) (show decode M_Laws_joined.2.1 114 = .ok (.ireturn, 1) by decide +kernel)
  refine V_ite (fun hs1_61 => ?_) (fun hs1_61 => ?_)
  · refine V_lsw (off := 114) 115 (show decode M_Laws_joined.2.1 1 = .ok (.lookupswitch 148 #[(38, 89), (42, 144), (43, 136), (45, 140), (60, 103), (61, 114), (62, 125), (124, 75)], 75) by decide +kernel) (by decide) (by rw [hs1_61]; decide) rfl ?_
    refine V_iload_n 116 rfl (show decode M_Laws_joined.2.1 115 = .ok (.iload_n 1, 1) by decide +kernel) 1 rfl ?_
    refine V_iload_n 117 rfl (show decode M_Laws_joined.2.1 116 = .ok (.iload_n 2, 1) by decide +kernel) 2 rfl ?_
    refine V_icmpne 120 124 rfl (show decode M_Laws_joined.2.1 117 = .ok (.if_icmp .ne 7, 3) by decide +kernel) rfl ?_ ?_
    · skip
      refine V_iconst 121 rfl (show decode M_Laws_joined.2.1 120 = .ok (.iconst 1, 1) by decide +kernel) (v := 1) rfl ?_
      refine V_goto 125 (show decode M_Laws_joined.2.1 121 = .ok (.goto 4, 3) by decide +kernel) rfl ?_
      exact V_iret rfl (by decide) (by decide) (show decode M_Laws_joined.2.1 125 = .ok (.ireturn, 1) by decide +kernel)
    · skip
      refine V_iconst 125 rfl (show decode M_Laws_joined.2.1 124 = .ok (.iconst 0, 1) by decide +kernel) (v := 0) rfl ?_
      exact V_iret rfl (by decide) (by decide) (show decode M_Laws_joined.2.1 125 = .ok (.ireturn, 1) by decide +kernel)
  refine V_ite (fun hs1_62 => ?_) (fun hs1_62 => ?_)
  · refine V_lsw (off := 125) 126 (show decode M_Laws_joined.2.1 1 = .ok (.lookupswitch 148 #[(38, 89), (42, 144), (43, 136), (45, 140), (60, 103), (61, 114), (62, 125), (124, 75)], 75) by decide +kernel) (by decide) (by rw [hs1_62]; decide) rfl ?_
    refine V_iload_n 127 rfl (show decode M_Laws_joined.2.1 126 = .ok (.iload_n 1, 1) by decide +kernel) 1 rfl ?_
    refine V_iload_n 128 rfl (show decode M_Laws_joined.2.1 127 = .ok (.iload_n 2, 1) by decide +kernel) 2 rfl ?_
    refine V_icmple 131 135 rfl (show decode M_Laws_joined.2.1 128 = .ok (.if_icmp .le 7, 3) by decide +kernel) rfl ?_ ?_
    · skip
      refine V_iconst 132 rfl (show decode M_Laws_joined.2.1 131 = .ok (.iconst 1, 1) by decide +kernel) (v := 1) rfl ?_
      refine V_goto 136 (show decode M_Laws_joined.2.1 132 = .ok (.goto 4, 3) by decide +kernel) rfl ?_
      exact V_iret rfl (by decide) (by decide) (show decode M_Laws_joined.2.1 136 = .ok (.ireturn, 1) by decide +kernel)
    · skip
      refine V_iconst 136 rfl (show decode M_Laws_joined.2.1 135 = .ok (.iconst 0, 1) by decide +kernel) (v := 0) rfl ?_
      exact V_iret rfl (by decide) (by decide) (show decode M_Laws_joined.2.1 136 = .ok (.ireturn, 1) by decide +kernel)
  refine V_ite (fun hs1_124 => ?_) (fun hs1_124 => ?_)
  · refine V_lsw (off := 75) 76 (show decode M_Laws_joined.2.1 1 = .ok (.lookupswitch 148 #[(38, 89), (42, 144), (43, 136), (45, 140), (60, 103), (61, 114), (62, 125), (124, 75)], 75) by decide +kernel) (by decide) (by rw [hs1_124]; decide) rfl ?_
    refine V_iload_n 77 rfl (show decode M_Laws_joined.2.1 76 = .ok (.iload_n 1, 1) by decide +kernel) 1 rfl ?_
    refine V_jn (fun (J84 : Bool → Sto → Rs Int32) => ∀ (b : Bool) (σ : Sto), V M_Laws_joined 1 0 0 0 0 tI (J84 b σ) 84 [] [] b σ) ?_ (fun J84 hJ84 => ?_)
    · intro b σ
      refine V_iconst 85 rfl (show decode M_Laws_joined.2.1 84 = .ok (.iconst 1, 1) by decide +kernel) (v := 1) rfl ?_
      refine V_goto 89 (show decode M_Laws_joined.2.1 85 = .ok (.goto 4, 3) by decide +kernel) rfl ?_
      exact V_iret rfl (by decide) (by decide) (show decode M_Laws_joined.2.1 89 = .ok (.ireturn, 1) by decide +kernel)
    · skip
      refine V_ifne 80 84 rfl (show decode M_Laws_joined.2.1 77 = .ok (.ifCond .ne 7, 3) by decide +kernel) rfl ?_ ?_
      · skip
        refine V_iload_n 81 rfl (show decode M_Laws_joined.2.1 80 = .ok (.iload_n 2, 1) by decide +kernel) 2 rfl ?_
        refine V_ifeq 84 88 rfl (show decode M_Laws_joined.2.1 81 = .ok (.ifCond .eq 7, 3) by decide +kernel) rfl ?_ ?_
        · skip
          refine V_iconst 89 rfl (show decode M_Laws_joined.2.1 88 = .ok (.iconst 0, 1) by decide +kernel) (v := 0) rfl ?_
          exact V_iret rfl (by decide) (by decide) (show decode M_Laws_joined.2.1 89 = .ok (.ireturn, 1) by decide +kernel)
        · skip
          exact V_sub [] rfl (hJ84 b σ)
      · skip
        exact V_sub [] rfl (hJ84 b σ)
  · refine V_lsw (off := 148) 149 (show decode M_Laws_joined.2.1 1 = .ok (.lookupswitch 148 #[(38, 89), (42, 144), (43, 136), (45, 140), (60, 103), (61, 114), (62, 125), (124, 75)], 75) by decide +kernel) (by decide) ((lv_osw hs1_38 rfl).trans ((lv_osw hs1_42 rfl).trans ((lv_osw hs1_43 rfl).trans ((lv_osw hs1_45 rfl).trans ((lv_osw hs1_60 rfl).trans ((lv_osw hs1_61 rfl).trans ((lv_osw hs1_62 rfl).trans ((lv_osw hs1_124 rfl).trans (rfl))))))))) rfl ?_
    refine V_iload_n 150 rfl (show decode M_Laws_joined.2.1 149 = .ok (.iload_n 2, 1) by decide +kernel) 2 rfl ?_
    refine V_ifne 153 157 rfl (show decode M_Laws_joined.2.1 150 = .ok (.ifCond .ne 7, 3) by decide +kernel) rfl ?_ ?_
    · skip
      refine V_iconst 154 rfl (show decode M_Laws_joined.2.1 153 = .ok (.iconst 0, 1) by decide +kernel) (v := 0) rfl ?_
      refine V_goto 160 (show decode M_Laws_joined.2.1 154 = .ok (.goto 6, 3) by decide +kernel) rfl ?_
      exact V_iret rfl (by decide) (by decide) (show decode M_Laws_joined.2.1 160 = .ok (.ireturn, 1) by decide +kernel)
    · skip
      refine V_iload_n 158 rfl (show decode M_Laws_joined.2.1 157 = .ok (.iload_n 1, 1) by decide +kernel) 1 rfl ?_
      refine V_iload_n 159 rfl (show decode M_Laws_joined.2.1 158 = .ok (.iload_n 2, 1) by decide +kernel) 2 rfl ?_
      refine V_idiv 160 rfl (show decode M_Laws_joined.2.1 159 = .ok (.idiv, 1) by decide +kernel) ?_
      exact V_iret rfl (by decide) (by decide) (show decode M_Laws_joined.2.1 160 = .ok (.ireturn, 1) by decide +kernel)
theorem cal_Laws_joined (d mc ms k n : Nat) (h1 : 1 + 1 ≤ d) (h2 : k + 0 ≤ mc) (h3 : n + 0 ≤ ms) : Cal M_Laws_joined 1 0 0 3 d mc ms k n := ⟨wd_1151, wd_173, by decide, h1, by decide, h2, h3⟩
abbrev M_Laws_pop : MD := (⟨"LongTrail$Laws", "pop", "()I"⟩, prog_4_method_11_code, 1, (some FieldType.int))
def f_Laws_pop (h0 : Nat) (b : Bool) (σ : Sto) : Rs Int32 := (if 0 < (SI σ h0 4) then (lt_ (pI σ h0 4 ((SI σ h0 4) - (1 : Int32))) (fun (σ_1 : Sto) => ((SI σ_1 (SR σ_1 h0 3) (ix (SI σ_1 h0 4))), ((((((b && cK σ h0 3) && cK σ h0 3) && cK σ h0 3) && cK σ_1 h0 3) && cK σ_1 h0 3) && cA σ_1 (SR σ_1 h0 3) 21 (SI σ_1 h0 4)), σ_1))) else ((0 : Int32), (b && cK σ h0 3), σ))
set_option maxRecDepth 100000 in
set_option maxHeartbeats 4000000 in
theorem s_Laws_pop : ∀ (h0 : Nat) (b : Bool) (σ : Sto), Snd M_Laws_pop 1 0 0 [vR h0] b σ (tI (f_Laws_pop h0 b σ).1) (f_Laws_pop h0 b σ).2.1 (f_Laws_pop h0 b σ).2.2 := by
  intro h0 b σ
  refine Snd_of (tv := tI) (by decide) (Nat.le_of_ble_eq_true rfl) ?_
  show V M_Laws_pop 1 0 0 0 0 tI (f_Laws_pop h0 b σ) 0 [(0, vR h0)] [] b σ
  unfold f_Laws_pop
  refine V_aload_n 1 rfl (show decode M_Laws_pop.2.1 0 = .ok (.aload_n 0, 1) by decide +kernel) 0 rfl ?_
  refine V_get (j := 4) (v := vI (SI σ h0 4)) 4 rfl ck_Laws (by decide) (by decide) (show decode M_Laws_pop.2.1 1 = .ok (.getfield 62, 3) by decide +kernel) wd_279 rfl ?_
  refine V_ifgt 7 9 rfl (show decode M_Laws_pop.2.1 4 = .ok (.ifCond .gt 5, 3) by decide +kernel) rfl ?_ ?_
  · skip
    refine V_aload_n 10 rfl (show decode M_Laws_pop.2.1 9 = .ok (.aload_n 0, 1) by decide +kernel) 0 rfl ?_
    refine V_dup 11 rfl (show decode M_Laws_pop.2.1 10 = .ok (.dup, 1) by decide +kernel) rfl ?_
    refine V_get (j := 4) (v := vI (SI σ h0 4)) 14 rfl ck_Laws (by decide) (by decide) (show decode M_Laws_pop.2.1 11 = .ok (.getfield 62, 3) by decide +kernel) wd_279 rfl ?_
    refine V_iconst 15 rfl (show decode M_Laws_pop.2.1 14 = .ok (.iconst 1, 1) by decide +kernel) (v := 1) rfl ?_
    refine V_isub 16 rfl (show decode M_Laws_pop.2.1 15 = .ok (.isub, 1) by decide +kernel) ?_
    refine V_putI (j := 4) 19 rfl ck_Laws (by decide) (by decide) (show decode M_Laws_pop.2.1 16 = .ok (.putfield 62, 3) by decide +kernel) wd_279 rfl (fun _ => rfl) rfl rfl (fun σ_1 => ?_)
    refine V_aload_n 20 rfl (show decode M_Laws_pop.2.1 19 = .ok (.aload_n 0, 1) by decide +kernel) 0 rfl ?_
    refine V_get (j := 3) (v := vR (SR σ_1 h0 3)) 23 rfl ck_Laws (by decide) (by decide) (show decode M_Laws_pop.2.1 20 = .ok (.getfield 21, 3) by decide +kernel) wd_278 rfl ?_
    refine V_aload_n 24 rfl (show decode M_Laws_pop.2.1 23 = .ok (.aload_n 0, 1) by decide +kernel) 0 rfl ?_
    refine V_get (j := 4) (v := vI (SI σ_1 h0 4)) 27 rfl ck_Laws (by decide) (by decide) (show decode M_Laws_pop.2.1 24 = .ok (.getfield 62, 3) by decide +kernel) wd_279 rfl ?_
    refine V_ald_int 28 rfl (show decode M_Laws_pop.2.1 27 = .ok (.iaload, 1) by decide +kernel) ?_
    exact V_iret rfl (by decide) (by decide) (show decode M_Laws_pop.2.1 28 = .ok (.ireturn, 1) by decide +kernel)
  · skip
    refine V_iconst 8 rfl (show decode M_Laws_pop.2.1 7 = .ok (.iconst 0, 1) by decide +kernel) (v := 0) rfl ?_
    exact V_iret rfl (by decide) (by decide) (show decode M_Laws_pop.2.1 8 = .ok (.ireturn, 1) by decide +kernel)
theorem cal_Laws_pop (d mc ms k n : Nat) (h1 : 1 + 1 ≤ d) (h2 : k + 0 ≤ mc) (h3 : n + 0 ≤ ms) : Cal M_Laws_pop 1 0 0 0 d mc ms k n := ⟨wd_1148, wd_173, by decide, h1, by decide, h2, h3⟩
abbrev M_Laws_push : MD := (⟨"LongTrail$Laws", "push", "(I)V"⟩, prog_4_method_10_code, 2, (none : Option FieldType))
def f_Laws_push (h0 : Nat) (x1 : Int32) (b : Bool) (σ : Sto) : Rs Unit := (if (SI σ h0 4) < (Int32.ofNat (Sln σ (SR σ h0 3))) then (lt_ (pI σ (SR σ h0 3) (ix (SI σ h0 4)) x1) (fun (σ_1 : Sto) => (lt_ (pI σ_1 h0 4 ((SI σ_1 h0 4) + (1 : Int32))) (fun (σ_2 : Sto) => ((), ((((((((b && cK σ h0 3) && cK σ h0 3) && cK σ (SR σ h0 3) 21) && cK σ h0 3) && cK σ h0 3) && cA σ (SR σ h0 3) 21 (SI σ h0 4)) && cK σ_1 h0 3) && cK σ_1 h0 3), σ_2))))) else ((), (((b && cK σ h0 3) && cK σ h0 3) && cK σ (SR σ h0 3) 21), σ))
set_option maxRecDepth 100000 in
set_option maxHeartbeats 4000000 in
theorem s_Laws_push : ∀ (h0 : Nat) (x1 : Int32) (b : Bool) (σ : Sto), Snd M_Laws_push 1 0 0 [vR h0, vI x1] b σ (tU (f_Laws_push h0 x1 b σ).1) (f_Laws_push h0 x1 b σ).2.1 (f_Laws_push h0 x1 b σ).2.2 := by
  intro h0 x1 b σ
  refine Snd_of (tv := tU) (by decide) (Nat.le_of_ble_eq_true rfl) ?_
  show V M_Laws_push 1 0 0 0 0 tU (f_Laws_push h0 x1 b σ) 0 [(0, vR h0), (1, vI x1)] [] b σ
  unfold f_Laws_push
  refine V_aload_n 1 rfl (show decode M_Laws_push.2.1 0 = .ok (.aload_n 0, 1) by decide +kernel) 0 rfl ?_
  refine V_get (j := 4) (v := vI (SI σ h0 4)) 4 rfl ck_Laws (by decide) (by decide) (show decode M_Laws_push.2.1 1 = .ok (.getfield 62, 3) by decide +kernel) wd_279 rfl ?_
  refine V_aload_n 5 rfl (show decode M_Laws_push.2.1 4 = .ok (.aload_n 0, 1) by decide +kernel) 0 rfl ?_
  refine V_get (j := 3) (v := vR (SR σ h0 3)) 8 rfl ck_Laws (by decide) (by decide) (show decode M_Laws_push.2.1 5 = .ok (.getfield 21, 3) by decide +kernel) wd_278 rfl ?_
  refine V_alen_int 9 rfl (show decode M_Laws_push.2.1 8 = .ok (.arraylength, 1) by decide +kernel) ?_
  refine V_icmpge 12 32 rfl (show decode M_Laws_push.2.1 9 = .ok (.if_icmp .ge 23, 3) by decide +kernel) rfl ?_ ?_
  · skip
    refine V_aload_n 13 rfl (show decode M_Laws_push.2.1 12 = .ok (.aload_n 0, 1) by decide +kernel) 0 rfl ?_
    refine V_get (j := 3) (v := vR (SR σ h0 3)) 16 rfl ck_Laws (by decide) (by decide) (show decode M_Laws_push.2.1 13 = .ok (.getfield 21, 3) by decide +kernel) wd_278 rfl ?_
    refine V_aload_n 17 rfl (show decode M_Laws_push.2.1 16 = .ok (.aload_n 0, 1) by decide +kernel) 0 rfl ?_
    refine V_get (j := 4) (v := vI (SI σ h0 4)) 20 rfl ck_Laws (by decide) (by decide) (show decode M_Laws_push.2.1 17 = .ok (.getfield 62, 3) by decide +kernel) wd_279 rfl ?_
    refine V_iload_n 21 rfl (show decode M_Laws_push.2.1 20 = .ok (.iload_n 1, 1) by decide +kernel) 1 rfl ?_
    refine V_ast_int 22 rfl (show decode M_Laws_push.2.1 21 = .ok (.iastore, 1) by decide +kernel) (fun σ_1 => ?_)
    refine V_aload_n 23 rfl (show decode M_Laws_push.2.1 22 = .ok (.aload_n 0, 1) by decide +kernel) 0 rfl ?_
    refine V_dup 24 rfl (show decode M_Laws_push.2.1 23 = .ok (.dup, 1) by decide +kernel) rfl ?_
    refine V_get (j := 4) (v := vI (SI σ_1 h0 4)) 27 rfl ck_Laws (by decide) (by decide) (show decode M_Laws_push.2.1 24 = .ok (.getfield 62, 3) by decide +kernel) wd_279 rfl ?_
    refine V_iconst 28 rfl (show decode M_Laws_push.2.1 27 = .ok (.iconst 1, 1) by decide +kernel) (v := 1) rfl ?_
    refine V_iadd 29 rfl (show decode M_Laws_push.2.1 28 = .ok (.iadd, 1) by decide +kernel) ?_
    refine V_putI (j := 4) 32 rfl ck_Laws (by decide) (by decide) (show decode M_Laws_push.2.1 29 = .ok (.putfield 62, 3) by decide +kernel) wd_279 rfl (fun _ => rfl) rfl rfl (fun σ_2 => ?_)
    exact V_vret rfl (by decide) (by decide) (show decode M_Laws_push.2.1 32 = .ok (.return_, 1) by decide +kernel)
  · skip
    exact V_vret rfl (by decide) (by decide) (show decode M_Laws_push.2.1 32 = .ok (.return_, 1) by decide +kernel)
theorem cal_Laws_push (d mc ms k n : Nat) (h1 : 1 + 1 ≤ d) (h2 : k + 0 ≤ mc) (h3 : n + 0 ≤ ms) : Cal M_Laws_push 1 0 0 1 d mc ms k n := ⟨wd_1144, wd_173, by decide, h1, by decide, h2, h3⟩
abbrev M_Laws_worthOf : MD := (⟨"LongTrail$Laws", "worthOf", "([I)I"⟩, prog_4_method_9_code, 5, (some FieldType.int))
def b_Laws_worthOf_7 (h0 : Nat) (h1 : Nat) (L7 : Int32 → Bool → Sto → Rs Int32) (x2 : Int32) (b : Bool) (σ : Sto) : Rs Int32 := (if x2 < (Int32.ofNat (Sln σ h1)) then (lt_ (SI σ h1 (ix x2)) (fun (x3_3 : Int32) => (lt_ (fun (b : Bool) (σ : Sto) => (lt_ (x2 + (1 : Int32)) (fun (x2_4 : Int32) => (L7 x2_4 b σ)))) (fun J96 => (if x3_3 < 0 then (if x3_3 < (-4 : Int32) then (if x3_3 = (-33 : Int32) then (bd_ (f_Laws_pop h0 (((b && cK σ h1 21) && cA σ h1 21 x2) && cK σ h0 3) σ) (fun (r_5 : Int32) (b_5 : Bool) (σ_5 : Sto) => (lt_ (fun (s0_69 : Int32) (s1_69 : Nat) (b : Bool) (σ : Sto) => (bd_ (f_Laws_push s1_69 s0_69 (b && cK σ s1_69 3) σ) (fun (r_6 : Unit) (b_6 : Bool) (σ_6 : Sto) => (J96 b_6 σ_6)))) (fun J69 => (if r_5 = 0 then (J69 (1 : Int32) h0 b_5 σ_5) else (J69 (0 : Int32) h0 b_5 σ_5)))))) else (bd_ (f_Laws_pop h0 (((b && cK σ h1 21) && cA σ h1 21 x2) && cK σ h0 3) σ) (fun (r_7 : Int32) (b_7 : Bool) (σ_7 : Sto) => (lt_ r_7 (fun (x4_8 : Int32) => (bd_ (f_Laws_pop h0 (b_7 && cK σ_7 h0 3) σ_7) (fun (r_9 : Int32) (b_9 : Bool) (σ_9 : Sto) => (bd_ (f_Laws_joined (-x3_3) r_9 x4_8 b_9 σ_9) (fun (r_10 : Int32) (b_10 : Bool) (σ_10 : Sto) => (bd_ (f_Laws_push h0 r_10 (b_10 && cK σ_10 h0 3) σ_10) (fun (r_11 : Unit) (b_11 : Bool) (σ_11 : Sto) => (J96 b_11 σ_11)))))))))))) else (bd_ (f_Laws_push h0 (SI σ (SR σ h0 2) (ix ((-1 : Int32) - x3_3))) (((((b && cK σ h1 21) && cA σ h1 21 x2) && cK σ h0 3) && cA σ (SR σ h0 2) 21 ((-1 : Int32) - x3_3)) && cK σ h0 3) σ) (fun (r_12 : Unit) (b_12 : Bool) (σ_12 : Sto) => (J96 b_12 σ_12)))) else (bd_ (f_Laws_push h0 x3_3 (((b && cK σ h1 21) && cA σ h1 21 x2) && cK σ h0 3) σ) (fun (r_13 : Unit) (b_13 : Bool) (σ_13 : Sto) => (J96 b_13 σ_13)))))))) else (bd_ (f_Laws_pop h0 ((b && cK σ h1 21) && cK σ h0 3) σ) (fun (r_14 : Int32) (b_14 : Bool) (σ_14 : Sto) => (r_14, b_14, σ_14))))
def f_Laws_worthOf (h0 : Nat) (h1 : Nat) (b : Bool) (σ : Sto) : Rs Int32 := (lt_ (pI σ h0 4 (0 : Int32)) (fun (σ_1 : Sto) => (lt_ (0 : Int32) (fun (x2_2 : Int32) => (lp_ (b_Laws_worthOf_7 h0 h1) (fun (x2 : Int32) (b : Bool) (σ : Sto) => (0, false, σ)) fuel_ x2_2 (b && cK σ h0 3) σ_1)))))
set_option maxRecDepth 100000 in
set_option maxHeartbeats 4000000 in
theorem s_Laws_worthOf : ∀ (h0 : Nat) (h1 : Nat) (b : Bool) (σ : Sto), Snd M_Laws_worthOf 2 0 0 [vR h0, vR h1] b σ (tI (f_Laws_worthOf h0 h1 b σ).1) (f_Laws_worthOf h0 h1 b σ).2.1 (f_Laws_worthOf h0 h1 b σ).2.2 := by
  intro h0 h1 b σ
  refine Snd_of (tv := tI) (by decide) (Nat.le_of_ble_eq_true rfl) ?_
  show V M_Laws_worthOf 2 0 0 0 0 tI (f_Laws_worthOf h0 h1 b σ) 0 [(0, vR h0), (1, vR h1)] [] b σ
  unfold f_Laws_worthOf
  refine V_aload_n 1 rfl (show decode M_Laws_worthOf.2.1 0 = .ok (.aload_n 0, 1) by decide +kernel) 0 rfl ?_
  refine V_iconst 2 rfl (show decode M_Laws_worthOf.2.1 1 = .ok (.iconst 0, 1) by decide +kernel) (v := 0) rfl ?_
  refine V_putI (j := 4) 5 rfl ck_Laws (by decide) (by decide) (show decode M_Laws_worthOf.2.1 2 = .ok (.putfield 62, 3) by decide +kernel) wd_279 rfl (fun _ => rfl) rfl rfl (fun σ_1 => ?_)
  refine V_iconst 6 rfl (show decode M_Laws_worthOf.2.1 5 = .ok (.iconst 0, 1) by decide +kernel) (v := 0) rfl ?_
  refine V_istore_n (fun x2_2 => [(2, vI x2_2), (0, vR h0), (1, vR h1)]) 7 rfl (show decode M_Laws_worthOf.2.1 6 = .ok (.istore_n 2, 1) by decide +kernel) (by decide) (fun _ => rfl) (fun x2_2 => ?_)
  refine V_sub [1, 2, 0] rfl ?_
  refine lp_P (fun (L7 : Int32 → Bool → Sto → Rs Int32) => ∀ (x2 : Int32) (b : Bool) (σ : Sto), V M_Laws_worthOf 2 0 0 0 0 tI (L7 x2 b σ) 7 [(0, vR h0), (1, vR h1), (2, vI x2)] [] b σ) ?_ ?_ fuel_ x2_2 (b && cK σ h0 3) σ_1
  · intro x2 b σ; exact V_bad
  · intro L7 hL7 x2 b σ
    unfold b_Laws_worthOf_7
    refine V_iload_n 8 rfl (show decode M_Laws_worthOf.2.1 7 = .ok (.iload_n 2, 1) by decide +kernel) 2 rfl ?_
    refine V_aload_n 9 rfl (show decode M_Laws_worthOf.2.1 8 = .ok (.aload_n 1, 1) by decide +kernel) 1 rfl ?_
    refine V_alen_int 10 rfl (show decode M_Laws_worthOf.2.1 9 = .ok (.arraylength, 1) by decide +kernel) ?_
    refine V_icmpge 13 102 rfl (show decode M_Laws_worthOf.2.1 10 = .ok (.if_icmp .ge 92, 3) by decide +kernel) rfl ?_ ?_
    · skip
      refine V_aload_n 14 rfl (show decode M_Laws_worthOf.2.1 13 = .ok (.aload_n 1, 1) by decide +kernel) 1 rfl ?_
      refine V_iload_n 15 rfl (show decode M_Laws_worthOf.2.1 14 = .ok (.iload_n 2, 1) by decide +kernel) 2 rfl ?_
      refine V_ald_int 16 rfl (show decode M_Laws_worthOf.2.1 15 = .ok (.iaload, 1) by decide +kernel) ?_
      refine V_istore_n (fun x3_3 => [(3, vI x3_3), (0, vR h0), (1, vR h1), (2, vI x2)]) 17 rfl (show decode M_Laws_worthOf.2.1 16 = .ok (.istore_n 3, 1) by decide +kernel) (by decide) (fun _ => rfl) (fun x3_3 => ?_)
      refine V_iload_n 18 rfl (show decode M_Laws_worthOf.2.1 17 = .ok (.iload_n 3, 1) by decide +kernel) 0 rfl ?_
      refine V_jn (fun (J96 : Bool → Sto → Rs Int32) => ∀ (b : Bool) (σ : Sto), V M_Laws_worthOf 2 0 0 0 0 tI (J96 b σ) 96 [(0, vR h0), (1, vR h1), (2, vI x2)] [] b σ) ?_ (fun J96 hJ96 => ?_)
      · intro b σ
        refine V_iinc (fun x2_4 => [(2, vI x2_4), (0, vR h0), (1, vR h1)]) 99 rfl (show decode M_Laws_worthOf.2.1 96 = .ok (.iinc 2 1, 3) by decide +kernel) 2 rfl (w := 1) rfl (by decide) (fun _ => rfl) (fun x2_4 => ?_)
        refine V_goto 7 (show decode M_Laws_worthOf.2.1 99 = .ok (.goto (-92), 3) by decide +kernel) rfl ?_
        exact V_sub [1, 2, 0] rfl (hL7 x2_4 b σ)
      · skip
        refine V_iflt 21 29 rfl (show decode M_Laws_worthOf.2.1 18 = .ok (.ifCond .lt 11, 3) by decide +kernel) rfl ?_ ?_
        · skip
          refine V_iload_n 30 rfl (show decode M_Laws_worthOf.2.1 29 = .ok (.iload_n 3, 1) by decide +kernel) 0 rfl ?_
          refine V_bipush 32 rfl (show decode M_Laws_worthOf.2.1 30 = .ok (.bipush (-4), 2) by decide +kernel) (v := -4) rfl ?_
          refine V_icmplt 35 50 rfl (show decode M_Laws_worthOf.2.1 32 = .ok (.if_icmp .lt 18, 3) by decide +kernel) rfl ?_ ?_
          · skip
            refine V_iload_n 51 rfl (show decode M_Laws_worthOf.2.1 50 = .ok (.iload_n 3, 1) by decide +kernel) 0 rfl ?_
            refine V_bipush 53 rfl (show decode M_Laws_worthOf.2.1 51 = .ok (.bipush (-33), 2) by decide +kernel) (v := -33) rfl ?_
            refine V_icmpne 56 75 rfl (show decode M_Laws_worthOf.2.1 53 = .ok (.if_icmp .ne 22, 3) by decide +kernel) rfl ?_ ?_
            · skip
              refine V_aload_n 57 rfl (show decode M_Laws_worthOf.2.1 56 = .ok (.aload_n 0, 1) by decide +kernel) 1 rfl ?_
              refine V_aload_n 58 rfl (show decode M_Laws_worthOf.2.1 57 = .ok (.aload_n 0, 1) by decide +kernel) 1 rfl ?_
              refine V_callV (tb := tI) (as := []) (rest := [vR h0]) (na := 0) 61 rfl ck_Laws (by decide) (s_Laws_pop h0 (((b && cK σ h1 21) && cA σ h1 21 x2) && cK σ h0 3) σ) rfl rfl (Nat.le_of_ble_eq_true rfl) (cal_Laws_pop _ _ _ _ _ (by decide) (by decide) (by decide)) (show decode M_Laws_worthOf.2.1 58 = .ok (.invokevirtual 69, 3) by decide +kernel) wd_1145 wd_1147 wd_58 (fun r_5 b_5 σ_5 => ?_)
              show V M_Laws_worthOf 2 0 0 0 0 tI _ 61 [(3, vI x3_3), (0, vR h0), (1, vR h1), (2, vI x2)] [vI r_5, vR h0] b_5 σ_5
              refine V_jn (fun (J69 : Int32 → Nat → Bool → Sto → Rs Int32) => ∀ (s0_69 : Int32) (s1_69 : Nat) (b : Bool) (σ : Sto), V M_Laws_worthOf 2 0 0 0 0 tI (J69 s0_69 s1_69 b σ) 69 [(0, vR h0), (1, vR h1), (2, vI x2)] [vI s0_69, vR s1_69] b σ) ?_ (fun J69 hJ69 => ?_)
              · intro s0_69 s1_69 b σ
                refine V_callV (tb := tU) (as := [vI s0_69]) (rest := []) (na := 1) 72 rfl ck_Laws (by decide) (s_Laws_push s1_69 s0_69 (b && cK σ s1_69 3) σ) rfl rfl (Nat.le_of_ble_eq_true rfl) (cal_Laws_push _ _ _ _ _ (by decide) (by decide) (by decide)) (show decode M_Laws_worthOf.2.1 69 = .ok (.invokevirtual 65, 3) by decide +kernel) wd_1141 wd_1143 wd_57 (fun r_6 b_6 σ_6 => ?_)
                show V M_Laws_worthOf 2 0 0 0 0 tI _ 72 [(0, vR h0), (1, vR h1), (2, vI x2)] [] b_6 σ_6
                refine V_goto 96 (show decode M_Laws_worthOf.2.1 72 = .ok (.goto 24, 3) by decide +kernel) rfl ?_
                exact V_sub [0, 1, 2] rfl (hJ96 b_6 σ_6)
              · skip
                refine V_ifne 64 68 rfl (show decode M_Laws_worthOf.2.1 61 = .ok (.ifCond .ne 7, 3) by decide +kernel) rfl ?_ ?_
                · skip
                  refine V_iconst 65 rfl (show decode M_Laws_worthOf.2.1 64 = .ok (.iconst 1, 1) by decide +kernel) (v := 1) rfl ?_
                  refine V_goto 69 (show decode M_Laws_worthOf.2.1 65 = .ok (.goto 4, 3) by decide +kernel) rfl ?_
                  exact V_sub [1, 2, 3] rfl (hJ69 (1 : Int32) h0 b_5 σ_5)
                · skip
                  refine V_iconst 69 rfl (show decode M_Laws_worthOf.2.1 68 = .ok (.iconst 0, 1) by decide +kernel) (v := 0) rfl ?_
                  exact V_sub [1, 2, 3] rfl (hJ69 (0 : Int32) h0 b_5 σ_5)
            · skip
              refine V_aload_n 76 rfl (show decode M_Laws_worthOf.2.1 75 = .ok (.aload_n 0, 1) by decide +kernel) 1 rfl ?_
              refine V_callV (tb := tI) (as := []) (rest := []) (na := 0) 79 rfl ck_Laws (by decide) (s_Laws_pop h0 (((b && cK σ h1 21) && cA σ h1 21 x2) && cK σ h0 3) σ) rfl rfl (Nat.le_of_ble_eq_true rfl) (cal_Laws_pop _ _ _ _ _ (by decide) (by decide) (by decide)) (show decode M_Laws_worthOf.2.1 76 = .ok (.invokevirtual 69, 3) by decide +kernel) wd_1145 wd_1147 wd_58 (fun r_7 b_7 σ_7 => ?_)
              show V M_Laws_worthOf 2 0 0 0 0 tI _ 79 [(3, vI x3_3), (0, vR h0), (1, vR h1), (2, vI x2)] [vI r_7] b_7 σ_7
              refine V_istore (fun x4_8 => [(4, vI x4_8), (3, vI x3_3), (0, vR h0), (1, vR h1), (2, vI x2)]) 81 rfl (show decode M_Laws_worthOf.2.1 79 = .ok (.istore 4, 2) by decide +kernel) (by decide) (fun _ => rfl) (fun x4_8 => ?_)
              refine V_aload_n 82 rfl (show decode M_Laws_worthOf.2.1 81 = .ok (.aload_n 0, 1) by decide +kernel) 2 rfl ?_
              refine V_iload_n 83 rfl (show decode M_Laws_worthOf.2.1 82 = .ok (.iload_n 3, 1) by decide +kernel) 1 rfl ?_
              refine V_ineg 84 rfl (show decode M_Laws_worthOf.2.1 83 = .ok (.ineg, 1) by decide +kernel) ?_
              refine V_aload_n 85 rfl (show decode M_Laws_worthOf.2.1 84 = .ok (.aload_n 0, 1) by decide +kernel) 2 rfl ?_
              refine V_callV (tb := tI) (as := []) (rest := [vI (-x3_3), vR h0]) (na := 0) 88 rfl ck_Laws (by decide) (s_Laws_pop h0 (b_7 && cK σ_7 h0 3) σ_7) rfl rfl (Nat.le_of_ble_eq_true rfl) (cal_Laws_pop _ _ _ _ _ (by decide) (by decide) (by decide)) (show decode M_Laws_worthOf.2.1 85 = .ok (.invokevirtual 69, 3) by decide +kernel) wd_1145 wd_1147 wd_58 (fun r_9 b_9 σ_9 => ?_)
              show V M_Laws_worthOf 2 0 0 0 0 tI _ 88 [(4, vI x4_8), (3, vI x3_3), (0, vR h0), (1, vR h1), (2, vI x2)] [vI r_9, vI (-x3_3), vR h0] b_9 σ_9
              refine V_iload 90 rfl (show decode M_Laws_worthOf.2.1 88 = .ok (.iload 4, 2) by decide +kernel) 0 rfl ?_
              refine V_callS (tb := tI) (as := [vI (-x3_3), vI r_9, vI x4_8]) (rest := [vR h0]) (na := 3) 93 rfl (s_Laws_joined (-x3_3) r_9 x4_8 b_9 σ_9) rfl rfl (Nat.le_of_ble_eq_true rfl) (cal_Laws_joined _ _ _ _ _ (by decide) (by decide) (by decide)) (show decode M_Laws_worthOf.2.1 90 = .ok (.invokestatic 73, 3) by decide +kernel) wd_1149 wd_1150 (fun r_10 b_10 σ_10 => ?_)
              show V M_Laws_worthOf 2 0 0 0 0 tI _ 93 [(4, vI x4_8), (3, vI x3_3), (0, vR h0), (1, vR h1), (2, vI x2)] [vI r_10, vR h0] b_10 σ_10
              refine V_callV (tb := tU) (as := [vI r_10]) (rest := []) (na := 1) 96 rfl ck_Laws (by decide) (s_Laws_push h0 r_10 (b_10 && cK σ_10 h0 3) σ_10) rfl rfl (Nat.le_of_ble_eq_true rfl) (cal_Laws_push _ _ _ _ _ (by decide) (by decide) (by decide)) (show decode M_Laws_worthOf.2.1 93 = .ok (.invokevirtual 65, 3) by decide +kernel) wd_1141 wd_1143 wd_57 (fun r_11 b_11 σ_11 => ?_)
              show V M_Laws_worthOf 2 0 0 0 0 tI _ 96 [(4, vI x4_8), (3, vI x3_3), (0, vR h0), (1, vR h1), (2, vI x2)] [] b_11 σ_11
              exact V_sub [2, 3, 4] rfl (hJ96 b_11 σ_11)
          · skip
            refine V_aload_n 36 rfl (show decode M_Laws_worthOf.2.1 35 = .ok (.aload_n 0, 1) by decide +kernel) 1 rfl ?_
            refine V_aload_n 37 rfl (show decode M_Laws_worthOf.2.1 36 = .ok (.aload_n 0, 1) by decide +kernel) 1 rfl ?_
            refine V_get (j := 2) (v := vR (SR σ h0 2)) 40 rfl ck_Laws (by decide) (by decide) (show decode M_Laws_worthOf.2.1 37 = .ok (.getfield 15, 3) by decide +kernel) wd_277 rfl ?_
            refine V_iconst 41 rfl (show decode M_Laws_worthOf.2.1 40 = .ok (.iconst (-1), 1) by decide +kernel) (v := -1) rfl ?_
            refine V_iload_n 42 rfl (show decode M_Laws_worthOf.2.1 41 = .ok (.iload_n 3, 1) by decide +kernel) 0 rfl ?_
            refine V_isub 43 rfl (show decode M_Laws_worthOf.2.1 42 = .ok (.isub, 1) by decide +kernel) ?_
            refine V_ald_int 44 rfl (show decode M_Laws_worthOf.2.1 43 = .ok (.iaload, 1) by decide +kernel) ?_
            refine V_callV (tb := tU) (as := [vI (SI σ (SR σ h0 2) (ix ((-1 : Int32) - x3_3)))]) (rest := []) (na := 1) 47 rfl ck_Laws (by decide) (s_Laws_push h0 (SI σ (SR σ h0 2) (ix ((-1 : Int32) - x3_3))) (((((b && cK σ h1 21) && cA σ h1 21 x2) && cK σ h0 3) && cA σ (SR σ h0 2) 21 ((-1 : Int32) - x3_3)) && cK σ h0 3) σ) rfl rfl (Nat.le_of_ble_eq_true rfl) (cal_Laws_push _ _ _ _ _ (by decide) (by decide) (by decide)) (show decode M_Laws_worthOf.2.1 44 = .ok (.invokevirtual 65, 3) by decide +kernel) wd_1141 wd_1143 wd_57 (fun r_12 b_12 σ_12 => ?_)
            show V M_Laws_worthOf 2 0 0 0 0 tI _ 47 [(3, vI x3_3), (0, vR h0), (1, vR h1), (2, vI x2)] [] b_12 σ_12
            refine V_goto 96 (show decode M_Laws_worthOf.2.1 47 = .ok (.goto 49, 3) by decide +kernel) rfl ?_
            exact V_sub [1, 2, 3] rfl (hJ96 b_12 σ_12)
        · skip
          refine V_aload_n 22 rfl (show decode M_Laws_worthOf.2.1 21 = .ok (.aload_n 0, 1) by decide +kernel) 1 rfl ?_
          refine V_iload_n 23 rfl (show decode M_Laws_worthOf.2.1 22 = .ok (.iload_n 3, 1) by decide +kernel) 0 rfl ?_
          refine V_callV (tb := tU) (as := [vI x3_3]) (rest := []) (na := 1) 26 rfl ck_Laws (by decide) (s_Laws_push h0 x3_3 (((b && cK σ h1 21) && cA σ h1 21 x2) && cK σ h0 3) σ) rfl rfl (Nat.le_of_ble_eq_true rfl) (cal_Laws_push _ _ _ _ _ (by decide) (by decide) (by decide)) (show decode M_Laws_worthOf.2.1 23 = .ok (.invokevirtual 65, 3) by decide +kernel) wd_1141 wd_1143 wd_57 (fun r_13 b_13 σ_13 => ?_)
          show V M_Laws_worthOf 2 0 0 0 0 tI _ 26 [(3, vI x3_3), (0, vR h0), (1, vR h1), (2, vI x2)] [] b_13 σ_13
          refine V_goto 96 (show decode M_Laws_worthOf.2.1 26 = .ok (.goto 70, 3) by decide +kernel) rfl ?_
          exact V_sub [1, 2, 3] rfl (hJ96 b_13 σ_13)
    · skip
      refine V_aload_n 103 rfl (show decode M_Laws_worthOf.2.1 102 = .ok (.aload_n 0, 1) by decide +kernel) 0 rfl ?_
      refine V_callV (tb := tI) (as := []) (rest := []) (na := 0) 106 rfl ck_Laws (by decide) (s_Laws_pop h0 ((b && cK σ h1 21) && cK σ h0 3) σ) rfl rfl (Nat.le_of_ble_eq_true rfl) (cal_Laws_pop _ _ _ _ _ (by decide) (by decide) (by decide)) (show decode M_Laws_worthOf.2.1 103 = .ok (.invokevirtual 69, 3) by decide +kernel) wd_1145 wd_1147 wd_58 (fun r_14 b_14 σ_14 => ?_)
      show V M_Laws_worthOf 2 0 0 0 0 tI _ 106 [(0, vR h0), (1, vR h1), (2, vI x2)] [vI r_14] b_14 σ_14
      exact V_iret rfl (by decide) (by decide) (show decode M_Laws_worthOf.2.1 106 = .ok (.ireturn, 1) by decide +kernel)
theorem cal_Laws_worthOf (d mc ms k n : Nat) (h1 : 2 + 1 ≤ d) (h2 : k + 0 ≤ mc) (h3 : n + 0 ≤ ms) : Cal M_Laws_worthOf 2 0 0 1 d mc ms k n := ⟨wd_1140, wd_173, by decide, h1, by decide, h2, h3⟩
abbrev M_Laws_answerOf : MD := (⟨"LongTrail$Laws", "answerOf", "(IIII)I"⟩, prog_4_method_8_code, 6, (some FieldType.int))
def f_Laws_answerOf (h0 : Nat) (x1 : Int32) (x2 : Int32) (x3 : Int32) (x4 : Int32) (b : Bool) (σ : Sto) : Rs Int32 := (bd_ (f_Laws_countingText h0 x1 x2 x3 (b && cK σ h0 3) σ) (fun (r_1 : Int32) (b_1 : Bool) (σ_1 : Sto) => (bd_ (f_Laws_textOf h0 r_1 (b_1 && cK σ_1 h0 3) σ_1) (fun (r_2 : Nat) (b_2 : Bool) (σ_2 : Sto) => (lt_ r_2 (fun (h5_3 : Nat) => (if h5_3 = 0 then (x4, b_2, σ_2) else (bd_ (f_Laws_worthOf h0 (SR σ_2 h5_3 4) ((b_2 && cK σ_2 h5_3 9) && cK σ_2 h0 3) σ_2) (fun (r_4 : Int32) (b_4 : Bool) (σ_4 : Sto) => (r_4, b_4, σ_4))))))))))
set_option maxRecDepth 100000 in
set_option maxHeartbeats 4000000 in
theorem s_Laws_answerOf : ∀ (h0 : Nat) (x1 : Int32) (x2 : Int32) (x3 : Int32) (x4 : Int32) (b : Bool) (σ : Sto), Snd M_Laws_answerOf 3 0 0 [vR h0, vI x1, vI x2, vI x3, vI x4] b σ (tI (f_Laws_answerOf h0 x1 x2 x3 x4 b σ).1) (f_Laws_answerOf h0 x1 x2 x3 x4 b σ).2.1 (f_Laws_answerOf h0 x1 x2 x3 x4 b σ).2.2 := by
  intro h0 x1 x2 x3 x4 b σ
  refine Snd_of (tv := tI) (by decide) (Nat.le_of_ble_eq_true rfl) ?_
  show V M_Laws_answerOf 3 0 0 0 0 tI (f_Laws_answerOf h0 x1 x2 x3 x4 b σ) 0 [(0, vR h0), (1, vI x1), (2, vI x2), (3, vI x3), (4, vI x4)] [] b σ
  unfold f_Laws_answerOf
  refine V_aload_n 1 rfl (show decode M_Laws_answerOf.2.1 0 = .ok (.aload_n 0, 1) by decide +kernel) 0 rfl ?_
  refine V_aload_n 2 rfl (show decode M_Laws_answerOf.2.1 1 = .ok (.aload_n 0, 1) by decide +kernel) 0 rfl ?_
  refine V_iload_n 3 rfl (show decode M_Laws_answerOf.2.1 2 = .ok (.iload_n 1, 1) by decide +kernel) 1 rfl ?_
  refine V_iload_n 4 rfl (show decode M_Laws_answerOf.2.1 3 = .ok (.iload_n 2, 1) by decide +kernel) 2 rfl ?_
  refine V_iload_n 5 rfl (show decode M_Laws_answerOf.2.1 4 = .ok (.iload_n 3, 1) by decide +kernel) 3 rfl ?_
  refine V_callV (tb := tI) (as := [vI x1, vI x2, vI x3]) (rest := [vR h0]) (na := 3) 8 rfl ck_Laws (by decide) (s_Laws_countingText h0 x1 x2 x3 (b && cK σ h0 3) σ) rfl rfl (Nat.le_of_ble_eq_true rfl) (cal_Laws_countingText _ _ _ _ _ (by decide) (by decide) (by decide)) (show decode M_Laws_answerOf.2.1 5 = .ok (.invokevirtual 47, 3) by decide +kernel) wd_1135 wd_1002 wd_33 (fun r_1 b_1 σ_1 => ?_)
  show V M_Laws_answerOf 3 0 0 0 0 tI _ 8 [(0, vR h0), (1, vI x1), (2, vI x2), (3, vI x3), (4, vI x4)] [vI r_1, vR h0] b_1 σ_1
  refine V_callV (tb := tR) (as := [vI r_1]) (rest := []) (na := 1) 11 rfl ck_Laws (by decide) (s_Laws_textOf h0 r_1 (b_1 && cK σ_1 h0 3) σ_1) rfl rfl (Nat.le_of_ble_eq_true rfl) (cal_Laws_textOf _ _ _ _ _ (by decide) (by decide) (by decide)) (show decode M_Laws_answerOf.2.1 8 = .ok (.invokevirtual 51, 3) by decide +kernel) wd_1136 wd_993 wd_32 (fun r_2 b_2 σ_2 => ?_)
  show V M_Laws_answerOf 3 0 0 0 0 tI _ 11 [(0, vR h0), (1, vI x1), (2, vI x2), (3, vI x3), (4, vI x4)] [vR r_2] b_2 σ_2
  refine V_astore (fun h5_3 => [(5, vR h5_3), (0, vR h0), (1, vI x1), (2, vI x2), (3, vI x3), (4, vI x4)]) 13 rfl (show decode M_Laws_answerOf.2.1 11 = .ok (.astore 5, 2) by decide +kernel) (by decide) (fun _ => rfl) (fun h5_3 => ?_)
  refine V_aload 15 rfl (show decode M_Laws_answerOf.2.1 13 = .ok (.aload 5, 2) by decide +kernel) 0 rfl ?_
  refine V_ifnonnull 18 23 rfl (show decode M_Laws_answerOf.2.1 15 = .ok (.ifnonnull 8, 3) by decide +kernel) rfl ?_ ?_
  · skip
    refine V_iload 20 rfl (show decode M_Laws_answerOf.2.1 18 = .ok (.iload 4, 2) by decide +kernel) 5 rfl ?_
    refine V_goto 32 (show decode M_Laws_answerOf.2.1 20 = .ok (.goto 12, 3) by decide +kernel) rfl ?_
    exact V_iret rfl (by decide) (by decide) (show decode M_Laws_answerOf.2.1 32 = .ok (.ireturn, 1) by decide +kernel)
  · skip
    refine V_aload_n 24 rfl (show decode M_Laws_answerOf.2.1 23 = .ok (.aload_n 0, 1) by decide +kernel) 1 rfl ?_
    refine V_aload 26 rfl (show decode M_Laws_answerOf.2.1 24 = .ok (.aload 5, 2) by decide +kernel) 0 rfl ?_
    refine V_getN (j := 4) (v := vR (SR σ_2 h5_3 4)) 29 rfl ck_Text (by decide) (by decide) (show decode M_Laws_answerOf.2.1 26 = .ok (.getfield 55, 3) by decide +kernel) wd_971 rfl ?_
    refine V_callV (tb := tI) (as := [vR (SR σ_2 h5_3 4)]) (rest := []) (na := 1) 32 rfl ck_Laws (by decide) (s_Laws_worthOf h0 (SR σ_2 h5_3 4) ((b_2 && cK σ_2 h5_3 9) && cK σ_2 h0 3) σ_2) rfl rfl (Nat.le_of_ble_eq_true rfl) (cal_Laws_worthOf _ _ _ _ _ (by decide) (by decide) (by decide)) (show decode M_Laws_answerOf.2.1 29 = .ok (.invokevirtual 58, 3) by decide +kernel) wd_1137 wd_1139 wd_56 (fun r_4 b_4 σ_4 => ?_)
    show V M_Laws_answerOf 3 0 0 0 0 tI _ 32 [(5, vR h5_3), (0, vR h0), (1, vI x1), (2, vI x2), (3, vI x3), (4, vI x4)] [vI r_4] b_4 σ_4
    exact V_iret rfl (by decide) (by decide) (show decode M_Laws_answerOf.2.1 32 = .ok (.ireturn, 1) by decide +kernel)
theorem cal_Laws_answerOf (d mc ms k n : Nat) (h1 : 3 + 1 ≤ d) (h2 : k + 0 ≤ mc) (h3 : n + 0 ≤ ms) : Cal M_Laws_answerOf 3 0 0 4 d mc ms k n := ⟨wd_1134, wd_173, by decide, h1, by decide, h2, h3⟩
abbrev M_Laws_nameTwo : MD := (⟨"LongTrail$Laws", "nameTwo", "(II)V"⟩, prog_4_method_6_code, 3, (none : Option FieldType))
def f_Laws_nameTwo (h0 : Nat) (x1 : Int32) (x2 : Int32) (b : Bool) (σ : Sto) : Rs Unit := (lt_ (pI σ (SR σ h0 2) (ix (0 : Int32)) x1) (fun (σ_1 : Sto) => (lt_ (pI σ_1 (SR σ_1 h0 2) (ix (1 : Int32)) x2) (fun (σ_2 : Sto) => ((), ((((b && cK σ h0 3) && cA σ (SR σ h0 2) 21 (0 : Int32)) && cK σ_1 h0 3) && cA σ_1 (SR σ_1 h0 2) 21 (1 : Int32)), σ_2)))))
set_option maxRecDepth 100000 in
set_option maxHeartbeats 4000000 in
theorem s_Laws_nameTwo : ∀ (h0 : Nat) (x1 : Int32) (x2 : Int32) (b : Bool) (σ : Sto), Snd M_Laws_nameTwo 1 0 0 [vR h0, vI x1, vI x2] b σ (tU (f_Laws_nameTwo h0 x1 x2 b σ).1) (f_Laws_nameTwo h0 x1 x2 b σ).2.1 (f_Laws_nameTwo h0 x1 x2 b σ).2.2 := by
  intro h0 x1 x2 b σ
  refine Snd_of (tv := tU) (by decide) (Nat.le_of_ble_eq_true rfl) ?_
  show V M_Laws_nameTwo 1 0 0 0 0 tU (f_Laws_nameTwo h0 x1 x2 b σ) 0 [(0, vR h0), (1, vI x1), (2, vI x2)] [] b σ
  unfold f_Laws_nameTwo
  refine V_aload_n 1 rfl (show decode M_Laws_nameTwo.2.1 0 = .ok (.aload_n 0, 1) by decide +kernel) 0 rfl ?_
  refine V_get (j := 2) (v := vR (SR σ h0 2)) 4 rfl ck_Laws (by decide) (by decide) (show decode M_Laws_nameTwo.2.1 1 = .ok (.getfield 15, 3) by decide +kernel) wd_277 rfl ?_
  refine V_iconst 5 rfl (show decode M_Laws_nameTwo.2.1 4 = .ok (.iconst 0, 1) by decide +kernel) (v := 0) rfl ?_
  refine V_iload_n 6 rfl (show decode M_Laws_nameTwo.2.1 5 = .ok (.iload_n 1, 1) by decide +kernel) 1 rfl ?_
  refine V_ast_int 7 rfl (show decode M_Laws_nameTwo.2.1 6 = .ok (.iastore, 1) by decide +kernel) (fun σ_1 => ?_)
  refine V_aload_n 8 rfl (show decode M_Laws_nameTwo.2.1 7 = .ok (.aload_n 0, 1) by decide +kernel) 0 rfl ?_
  refine V_get (j := 2) (v := vR (SR σ_1 h0 2)) 11 rfl ck_Laws (by decide) (by decide) (show decode M_Laws_nameTwo.2.1 8 = .ok (.getfield 15, 3) by decide +kernel) wd_277 rfl ?_
  refine V_iconst 12 rfl (show decode M_Laws_nameTwo.2.1 11 = .ok (.iconst 1, 1) by decide +kernel) (v := 1) rfl ?_
  refine V_iload_n 13 rfl (show decode M_Laws_nameTwo.2.1 12 = .ok (.iload_n 2, 1) by decide +kernel) 2 rfl ?_
  refine V_ast_int 14 rfl (show decode M_Laws_nameTwo.2.1 13 = .ok (.iastore, 1) by decide +kernel) (fun σ_2 => ?_)
  exact V_vret rfl (by decide) (by decide) (show decode M_Laws_nameTwo.2.1 14 = .ok (.return_, 1) by decide +kernel)
theorem cal_Laws_nameTwo (d mc ms k n : Nat) (h1 : 1 + 1 ≤ d) (h2 : k + 0 ≤ mc) (h3 : n + 0 ≤ ms) : Cal M_Laws_nameTwo 1 0 0 2 d mc ms k n := ⟨wd_1129, wd_173, by decide, h1, by decide, h2, h3⟩
abbrev M_World_sleepOut : MD := (⟨"LongTrail$World", "sleepOut", "(LLongTrail$Walker;I)V"⟩, prog_12_method_16_code, 3, (none : Option FieldType))
def f_World_sleepOut (h0 : Nat) (h1 : Nat) (x2 : Int32) (b : Bool) (σ : Sto) : Rs Unit := (lt_ (pI σ h1 15 ((SI σ h1 15) + (1 : Int32))) (fun (σ_1 : Sto) => (bd_ (f_Laws_nameTwo (SR σ_1 h0 1) (SI σ_1 h1 6) x2 (((((b && cK σ h1 10) && cK σ h1 10) && cK σ_1 h0 11) && cK σ_1 h1 10) && cK σ_1 (SR σ_1 h0 1) 3) σ_1) (fun (r_2 : Unit) (b_2 : Bool) (σ_2 : Sto) => (bd_ (f_Ground_landOf (SR σ_2 h0 0) (SI σ_2 h1 6) ((((b_2 && cK σ_2 h0 11) && cK σ_2 h0 11) && cK σ_2 h1 10) && cK σ_2 (SR σ_2 h0 0) 2) σ_2) (fun (r_3 : Int32) (b_3 : Bool) (σ_3 : Sto) => (bd_ (f_Laws_answerOf (SR σ_2 h0 1) r_3 (0 : Int32) (SI σ_3 h0 8) (1 : Int32) ((b_3 && cK σ_3 h0 11) && cK σ_3 (SR σ_2 h0 1) 3) σ_3) (fun (r_4 : Int32) (b_4 : Bool) (σ_4 : Sto) => (if r_4 = 0 then (lt_ (pI σ_4 h1 16 ((SI σ_4 h1 16) + (1 : Int32))) (fun (σ_5 : Sto) => ((), ((b_4 && cK σ_4 h1 10) && cK σ_4 h1 10), σ_5))) else ((), b_4, σ_4))))))))))
set_option maxRecDepth 100000 in
set_option maxHeartbeats 4000000 in
theorem s_World_sleepOut : ∀ (h0 : Nat) (h1 : Nat) (x2 : Int32) (b : Bool) (σ : Sto), Snd M_World_sleepOut 4 0 0 [vR h0, vR h1, vI x2] b σ (tU (f_World_sleepOut h0 h1 x2 b σ).1) (f_World_sleepOut h0 h1 x2 b σ).2.1 (f_World_sleepOut h0 h1 x2 b σ).2.2 := by
  intro h0 h1 x2 b σ
  refine Snd_of (tv := tU) (by decide) (Nat.le_of_ble_eq_true rfl) ?_
  show V M_World_sleepOut 4 0 0 0 0 tU (f_World_sleepOut h0 h1 x2 b σ) 0 [(0, vR h0), (1, vR h1), (2, vI x2)] [] b σ
  unfold f_World_sleepOut
  refine V_aload_n 1 rfl (show decode M_World_sleepOut.2.1 0 = .ok (.aload_n 1, 1) by decide +kernel) 1 rfl ?_
  refine V_dup 2 rfl (show decode M_World_sleepOut.2.1 1 = .ok (.dup, 1) by decide +kernel) rfl ?_
  refine V_getN (j := 15) (v := vI (SI σ h1 15)) 5 rfl ck_Walker (by decide) (by decide) (show decode M_World_sleepOut.2.1 2 = .ok (.getfield 241, 3) by decide +kernel) wd_455 rfl ?_
  refine V_iconst 6 rfl (show decode M_World_sleepOut.2.1 5 = .ok (.iconst 1, 1) by decide +kernel) (v := 1) rfl ?_
  refine V_iadd 7 rfl (show decode M_World_sleepOut.2.1 6 = .ok (.iadd, 1) by decide +kernel) ?_
  refine V_putIN (j := 15) 10 rfl ck_Walker (by decide) (by decide) (show decode M_World_sleepOut.2.1 7 = .ok (.putfield 241, 3) by decide +kernel) wd_455 rfl (fun _ => rfl) rfl rfl (fun σ_1 => ?_)
  refine V_aload_n 11 rfl (show decode M_World_sleepOut.2.1 10 = .ok (.aload_n 0, 1) by decide +kernel) 0 rfl ?_
  refine V_get (j := 1) (v := vR (SR σ_1 h0 1)) 14 rfl ck_World (by decide) (by decide) (show decode M_World_sleepOut.2.1 11 = .ok (.getfield 19, 3) by decide +kernel) wd_499 rfl ?_
  refine V_aload_n 15 rfl (show decode M_World_sleepOut.2.1 14 = .ok (.aload_n 1, 1) by decide +kernel) 1 rfl ?_
  refine V_getN (j := 6) (v := vI (SI σ_1 h1 6)) 18 rfl ck_Walker (by decide) (by decide) (show decode M_World_sleepOut.2.1 15 = .ok (.getfield 100, 3) by decide +kernel) wd_434 rfl ?_
  refine V_iload_n 19 rfl (show decode M_World_sleepOut.2.1 18 = .ok (.iload_n 2, 1) by decide +kernel) 2 rfl ?_
  refine V_callVN (tb := tU) (as := [vI (SI σ_1 h1 6), vI x2]) (rest := []) (na := 2) 22 rfl ck_Laws (by decide) (s_Laws_nameTwo (SR σ_1 h0 1) (SI σ_1 h1 6) x2 (((((b && cK σ h1 10) && cK σ h1 10) && cK σ_1 h0 11) && cK σ_1 h1 10) && cK σ_1 (SR σ_1 h0 1) 3) σ_1) rfl rfl (Nat.le_of_ble_eq_true rfl) (cal_Laws_nameTwo _ _ _ _ _ (by decide) (by decide) (by decide)) (show decode M_World_sleepOut.2.1 19 = .ok (.invokevirtual 165, 3) by decide +kernel) wd_1126 wd_1128 wd_54 (fun r_2 b_2 σ_2 => ?_)
  show V M_World_sleepOut 4 0 0 0 0 tU _ 22 [(0, vR h0), (1, vR h1), (2, vI x2)] [] b_2 σ_2
  refine V_aload_n 23 rfl (show decode M_World_sleepOut.2.1 22 = .ok (.aload_n 0, 1) by decide +kernel) 0 rfl ?_
  refine V_get (j := 1) (v := vR (SR σ_2 h0 1)) 26 rfl ck_World (by decide) (by decide) (show decode M_World_sleepOut.2.1 23 = .ok (.getfield 19, 3) by decide +kernel) wd_499 rfl ?_
  refine V_aload_n 27 rfl (show decode M_World_sleepOut.2.1 26 = .ok (.aload_n 0, 1) by decide +kernel) 0 rfl ?_
  refine V_get (j := 0) (v := vR (SR σ_2 h0 0)) 30 rfl ck_World (by decide) (by decide) (show decode M_World_sleepOut.2.1 27 = .ok (.getfield 10, 3) by decide +kernel) wd_497 rfl ?_
  refine V_aload_n 31 rfl (show decode M_World_sleepOut.2.1 30 = .ok (.aload_n 1, 1) by decide +kernel) 1 rfl ?_
  refine V_getN (j := 6) (v := vI (SI σ_2 h1 6)) 34 rfl ck_Walker (by decide) (by decide) (show decode M_World_sleepOut.2.1 31 = .ok (.getfield 100, 3) by decide +kernel) wd_434 rfl ?_
  refine V_callVN (tb := tI) (as := [vI (SI σ_2 h1 6)]) (rest := [vR (SR σ_2 h0 1)]) (na := 1) 37 rfl ck_Ground (by decide) (s_Ground_landOf (SR σ_2 h0 0) (SI σ_2 h1 6) ((((b_2 && cK σ_2 h0 11) && cK σ_2 h0 11) && cK σ_2 h1 10) && cK σ_2 (SR σ_2 h0 0) 2) σ_2) rfl rfl (Nat.le_of_ble_eq_true rfl) (cal_Ground_landOf _ _ _ _ _ (by decide) (by decide) (by decide)) (show decode M_World_sleepOut.2.1 34 = .ok (.invokevirtual 168, 3) by decide +kernel) wd_1130 wd_713 wd_11 (fun r_3 b_3 σ_3 => ?_)
  show V M_World_sleepOut 4 0 0 0 0 tU _ 37 [(0, vR h0), (1, vR h1), (2, vI x2)] [vI r_3, vR (SR σ_2 h0 1)] b_3 σ_3
  refine V_iconst 38 rfl (show decode M_World_sleepOut.2.1 37 = .ok (.iconst 0, 1) by decide +kernel) (v := 0) rfl ?_
  refine V_aload_n 39 rfl (show decode M_World_sleepOut.2.1 38 = .ok (.aload_n 0, 1) by decide +kernel) 0 rfl ?_
  refine V_get (j := 8) (v := vI (SI σ_3 h0 8)) 42 rfl ck_World (by decide) (by decide) (show decode M_World_sleepOut.2.1 39 = .ok (.getfield 84, 3) by decide +kernel) wd_513 rfl ?_
  refine V_iconst 43 rfl (show decode M_World_sleepOut.2.1 42 = .ok (.iconst 1, 1) by decide +kernel) (v := 1) rfl ?_
  refine V_callVN (tb := tI) (as := [vI r_3, vI (0 : Int32), vI (SI σ_3 h0 8), vI (1 : Int32)]) (rest := []) (na := 4) 46 rfl ck_Laws (by decide) (s_Laws_answerOf (SR σ_2 h0 1) r_3 (0 : Int32) (SI σ_3 h0 8) (1 : Int32) ((b_3 && cK σ_3 h0 11) && cK σ_3 (SR σ_2 h0 1) 3) σ_3) rfl rfl (Nat.le_of_ble_eq_true rfl) (cal_Laws_answerOf _ _ _ _ _ (by decide) (by decide) (by decide)) (show decode M_World_sleepOut.2.1 43 = .ok (.invokevirtual 171, 3) by decide +kernel) wd_1131 wd_1133 wd_55 (fun r_4 b_4 σ_4 => ?_)
  show V M_World_sleepOut 4 0 0 0 0 tU _ 46 [(0, vR h0), (1, vR h1), (2, vI x2)] [vI r_4] b_4 σ_4
  refine V_ifne 49 59 rfl (show decode M_World_sleepOut.2.1 46 = .ok (.ifCond .ne 13, 3) by decide +kernel) rfl ?_ ?_
  · skip
    refine V_aload_n 50 rfl (show decode M_World_sleepOut.2.1 49 = .ok (.aload_n 1, 1) by decide +kernel) 1 rfl ?_
    refine V_dup 51 rfl (show decode M_World_sleepOut.2.1 50 = .ok (.dup, 1) by decide +kernel) rfl ?_
    refine V_getN (j := 16) (v := vI (SI σ_4 h1 16)) 54 rfl ck_Walker (by decide) (by decide) (show decode M_World_sleepOut.2.1 51 = .ok (.getfield 244, 3) by decide +kernel) wd_457 rfl ?_
    refine V_iconst 55 rfl (show decode M_World_sleepOut.2.1 54 = .ok (.iconst 1, 1) by decide +kernel) (v := 1) rfl ?_
    refine V_iadd 56 rfl (show decode M_World_sleepOut.2.1 55 = .ok (.iadd, 1) by decide +kernel) ?_
    refine V_putIN (j := 16) 59 rfl ck_Walker (by decide) (by decide) (show decode M_World_sleepOut.2.1 56 = .ok (.putfield 244, 3) by decide +kernel) wd_457 rfl (fun _ => rfl) rfl rfl (fun σ_5 => ?_)
    exact V_vret rfl (by decide) (by decide) (show decode M_World_sleepOut.2.1 59 = .ok (.return_, 1) by decide +kernel)
  · skip
    exact V_vret rfl (by decide) (by decide) (show decode M_World_sleepOut.2.1 59 = .ok (.return_, 1) by decide +kernel)
theorem cal_World_sleepOut (d mc ms k n : Nat) (h1 : 4 + 1 ≤ d) (h2 : k + 0 ≤ mc) (h3 : n + 0 ≤ ms) : Cal M_World_sleepOut 4 0 0 2 d mc ms k n := ⟨wd_1212, wd_171, by decide, h1, by decide, h2, h3⟩
