/-! is; count -/
section OP17
variable {X Y w : Nat} {σ ρ : Sto}
theorem e_toldOf {a : Nat} (hk : Stk σ a = 10) (x : Int32) : f_Walker_toldOf a x true σ = (if x = 0 then SI σ a 5 else if x = 1 then SI σ a 6 else if x = 2 then SI σ a 1 else if x = 3 then SI σ a 7 else if x = 4 then SI σ a 8 else if x = 5 then SI σ a 9 else if x = 6 then SI σ a 10 else if x = 7 then SI σ a 11 else if x = 8 then SI σ a 12 else if x = 9 then SI σ a 13 else if x = 10 then SI σ a 14 else if x = 11 then SI σ a 15 else if x = 12 then SI σ a 16 else SI σ a 17, true, σ) := by
  unfold f_Walker_toldOf
  simp only [cK_of hk, Bool.and_true, if_pair]
theorem bx_pl {S : Nat → Int32} {np nb : Nat} (p1 : np ≤ 16) (p4 : S 2 = nI np) (hB : rB σ w S) (hn : nb ≤ 20) (b3 : S 6 = nI nb) : ∀ i, i < nb → ∃ j, j < 16 ∧ S (341 + 5 * i) = nI j := fun i hi => by
  obtain ⟨nb', q1, q2, q3, q4⟩ := hB
  have e : nb' = nb := (nI_eq (by omega) (by omega)).mp (q3.symm.trans b3)
  subst e
  obtain ⟨x0, x1, x2, x3, x4, x5, x6, x7, x8, -⟩ := q4 i hi
  obtain ⟨j, hj, ej⟩ := in_nat p4 (by omega) x7 (Int32.le_of_lt x8)
  refine ⟨j, ?_, ej⟩
  rw [ej, p4] at x8
  have := (nI_ltI (by omega) (by omega)).mp x8
  omega
theorem bx_neg {S : Nat → Int32} (o : Int32) (i : Nat) : bxM S o (-1) i = opM S o i := by
  unfold bxM
  rw [show decide ((-1 : Int32) < 0) = true from rfl, Bool.true_or, Bool.and_true]
theorem op_16 : Op_16 X Y (REL X Y) := by
  intro a v σ ρ h
  have hX := h.2.2.1
  have hY : LayY Y (stn ρ (Shn σ)) := h.2.2.2.1
  have hW := hX.2.1
  have hG := (REL_now2 h).2.1
  obtain ⟨d1, d2⟩ := (REL_now2 h).1
  obtain ⟨np, nf, p1, p2, p3, p4, p5, p6, p7, p8, p9, p10, p11, p12⟩ := id hG
  obtain ⟨nb, b1, b2, b3, b4⟩ := (REL_now2 h).2.2.2.2.2.1
  obtain ⟨nw, w1, w2, w3, w4⟩ := (REL_now2 h).2.2.2.2.2.2.1
  by_cases ha : (0 : Int32) ≤ a ∧ a ≤ nI nw - 1
  · by_cases hv : (0 : Int32) ≤ v ∧ v ≤ 14
    · obtain ⟨k, hk, rfl⟩ := in_idx (by omega) ha
      obtain ⟨m, hm, rfl⟩ := in_nat (n := 14) rfl (by decide) hv.1 hv.2
      have eC : f_Trail_is X (nI k) (nI m) true σ = if (13 : Int32) < nI m then (cntI (opC σ (X + 1) (nI k)) nb, true, σ) else f_Walker_toldOf (X + 1 + 43 + k) (nI m) true σ := by
        unfold f_Trail_is
        simp only [bd_, lt_, rX_0_0 hX, rW_0_2 hW, rW_0_6 hW, cK_of (kX_0 hX), cK_of (kW_0 hW), cK_of (kW_15 hW), Bool.and_true, e_hasWalker (kW_0 hW), w2, inR_e1 ha, e_within, inR_e1 hv, i10, if_false, e_openOf hW b1 b2, ix_nI (show k < 2 ^ 31 by omega), rW_42 hW (show k < 10 by omega), cA_of (kW_42 hW) (nW_42 hW) (show k < 10 by omega) (by decide), cK_of (kW_w hW (show k < 10 by omega))]
      have eR : f_Model_is Y (nI k) (nI m) true (stn ρ (Shn σ)) = if nI m = 14 then (cntI (bxM (SI ρ (Y + 1)) (nI k) (-1)) nb, true, stn ρ (Shn σ)) else (SI ρ (Y + 1) (130 + 20 * k + m), true, stn ρ (Shn σ)) := by
        unfold f_Model_is
        simp only [bd_, lt_, rY_0 hY, cK_of (kY_0 hY), Bool.and_true, e_isWalker hY, SI_stn, w3, inR_e1 ha, e_isInL (nI m) 0 14 0 14 rfl rfl, inR_e1 hv, i10, if_false, e_boxesAtM hY b1 b3 (bx_pl p1 p4 (REL_now2 h).2.2.2.2.2.1 b1 b3), e_walkerAt, nI_add, cY hY (show 130 + 20 * k + m < 3210 by omega), ix_nI (show 130 + 20 * k + m < 2 ^ 31 by omega)]
      obtain ⟨q15, q2, q16, q17, q18, q0, q1, q3, q4, q5, q6, q7, q8, q9, q10, q11, q12, q13, -⟩ := w4 k hk
      rw [e_toldOf (kW_w hW (show k < 10 by omega))] at eC
      clear hv
      rcases (show m = 0 ∨ m = 1 ∨ m = 2 ∨ m = 3 ∨ m = 4 ∨ m = 5 ∨ m = 6 ∨ m = 7 ∨ m = 8 ∨ m = 9 ∨ m = 10 ∨ m = 11 ∨ m = 12 ∨ m = 13 ∨ m = 14 by omega) with rfl | rfl | rfl | rfl | rfl | rfl | rfl | rfl | rfl | rfl | rfl | rfl | rfl | rfl | rfl
      · exact OpOK_b (SI ρ (Y + 1) (130 + 20 * k)) h (by rw [eC, ← q0]; rfl) (by show f_Model_is Y _ _ true (stn ρ (Shn σ)) = _; rw [eR]; rfl)
      · exact OpOK_b (SI ρ (Y + 1) (130 + 20 * k + 1)) h (by rw [eC, ← q1]; rfl) (by show f_Model_is Y _ _ true (stn ρ (Shn σ)) = _; rw [eR]; rfl)
      · exact OpOK_b (SI ρ (Y + 1) (130 + 20 * k + 2)) h (by rw [eC, ← q2]; rfl) (by show f_Model_is Y _ _ true (stn ρ (Shn σ)) = _; rw [eR]; rfl)
      · exact OpOK_b (SI ρ (Y + 1) (130 + 20 * k + 3)) h (by rw [eC, ← q3]; rfl) (by show f_Model_is Y _ _ true (stn ρ (Shn σ)) = _; rw [eR]; rfl)
      · exact OpOK_b (SI ρ (Y + 1) (130 + 20 * k + 4)) h (by rw [eC, ← q4]; rfl) (by show f_Model_is Y _ _ true (stn ρ (Shn σ)) = _; rw [eR]; rfl)
      · exact OpOK_b (SI ρ (Y + 1) (130 + 20 * k + 5)) h (by rw [eC, ← q5]; rfl) (by show f_Model_is Y _ _ true (stn ρ (Shn σ)) = _; rw [eR]; rfl)
      · exact OpOK_b (SI ρ (Y + 1) (130 + 20 * k + 6)) h (by rw [eC, ← q6]; rfl) (by show f_Model_is Y _ _ true (stn ρ (Shn σ)) = _; rw [eR]; rfl)
      · exact OpOK_b (SI ρ (Y + 1) (130 + 20 * k + 7)) h (by rw [eC, ← q7]; rfl) (by show f_Model_is Y _ _ true (stn ρ (Shn σ)) = _; rw [eR]; rfl)
      · exact OpOK_b (SI ρ (Y + 1) (130 + 20 * k + 8)) h (by rw [eC, ← q8]; rfl) (by show f_Model_is Y _ _ true (stn ρ (Shn σ)) = _; rw [eR]; rfl)
      · exact OpOK_b (SI ρ (Y + 1) (130 + 20 * k + 9)) h (by rw [eC, ← q9]; rfl) (by show f_Model_is Y _ _ true (stn ρ (Shn σ)) = _; rw [eR]; rfl)
      · exact OpOK_b (SI ρ (Y + 1) (130 + 20 * k + 10)) h (by rw [eC, ← q10]; rfl) (by show f_Model_is Y _ _ true (stn ρ (Shn σ)) = _; rw [eR]; rfl)
      · exact OpOK_b (SI ρ (Y + 1) (130 + 20 * k + 11)) h (by rw [eC, ← q11]; rfl) (by show f_Model_is Y _ _ true (stn ρ (Shn σ)) = _; rw [eR]; rfl)
      · exact OpOK_b (SI ρ (Y + 1) (130 + 20 * k + 12)) h (by rw [eC, ← q12]; rfl) (by show f_Model_is Y _ _ true (stn ρ (Shn σ)) = _; rw [eR]; rfl)
      · exact OpOK_b (SI ρ (Y + 1) (130 + 20 * k + 13)) h (by rw [eC, ← q13]; rfl) (by show f_Model_is Y _ _ true (stn ρ (Shn σ)) = _; rw [eR]; rfl)
      · refine OpOK_b (cntI (bxM (SI ρ (Y + 1)) (nI k) (-1)) nb) h ?_ (by show f_Model_is Y _ _ true (stn ρ (Shn σ)) = _; rw [eR]; rfl)
        rw [eC, cntI_congr (d := bxM (SI ρ (Y + 1)) (nI k) (-1)) (fun i hi => by rw [bx_neg, op_same (REL_now2 h).2.2.2.2.2.1 b1 b3 (nI k) i hi])]
        rfl
    · refine OpOK_b (-1000000001) h ?_ ?_
      · unfold f_Trail_is
        simp only [bd_, lt_, rX_0_0 hX, cK_of (kX_0 hX), cK_of (kW_0 hW), Bool.and_true, e_hasWalker (kW_0 hW), w2, inR_e1 ha, e_within, inR_e0 hv, i10, if_false, if_true]
      · show f_Model_is Y a v true (stn ρ (Shn σ)) = _
        unfold f_Model_is
        simp only [bd_, lt_, cK_of (kY_0 hY), Bool.and_true, e_isWalker hY, SI_stn, w3, inR_e1 ha, e_isInL v 0 14 0 14 rfl rfl, inR_e0 hv, i10, if_false, if_true]
  · refine OpOK_b (-1000000001) h ?_ ?_
    · unfold f_Trail_is
      simp only [bd_, lt_, rX_0_0 hX, cK_of (kX_0 hX), cK_of (kW_0 hW), Bool.and_true, e_hasWalker (kW_0 hW), w2, inR_e0 ha, if_true]
    · show f_Model_is Y a v true (stn ρ (Shn σ)) = _
      unfold f_Model_is
      simp only [bd_, lt_, cK_of (kY_0 hY), Bool.and_true, e_isWalker hY, SI_stn, w3, inR_e0 ha, if_true]
theorem e_cnt104 (hY : LayY Y ρ) {nf : Nat} (hn : nf ≤ 6) (p6 : SI ρ (Y + 1) 3 = nI nf) : lp_ (b_Model_count_104 Y) (fun (x2 : Int32) (x3 : Int32) (b : Bool) (σ : Sto) => (0, false, σ)) fuel_ 0 0 true ρ = (cntI (fun i => decide (inR (SI ρ (Y + 1) 0) (SI ρ (Y + 1) (102 + 4 * i)) (SI ρ (Y + 1) (103 + 4 * i)) = 1)) nf, true, ρ) := by
  refine lp_cnt (σ := ρ) nf (fun i => decide (inR (SI ρ (Y + 1) 0) (SI ρ (Y + 1) (102 + 4 * i)) (SI ρ (Y + 1) (103 + 4 * i)) = 1)) (fun x => (x, true, ρ)) (by omega) (fun L i x hi => ?_) (fun L x => ?_)
  · unfold b_Model_count_104
    simp only [bd_, lt_, rY_0 hY, show ix (3 : Int32) = 3 from rfl, p6, cK_of (kY_0 hY), cYk hY 3 (v := 3) rfl (by decide), Bool.and_true, if_pos (show nI i < nI nf from nI_lt hi (by omega)), e_isOnM hY (show i < 6 by omega), decide_eq_true_eq]
    rcases inR_01 (SI ρ (Y + 1) 0) (SI ρ (Y + 1) (102 + 4 * i)) (SI ρ (Y + 1) (103 + 4 * i)) with e | e
    · rw [if_pos e, if_neg (fun z => absurd (e.symm.trans z) (by decide))]
    · rw [if_neg (by rw [e]; decide), if_pos e]
  · unfold b_Model_count_104
    simp only [lt_, rY_0 hY, show ix (3 : Int32) = 3 from rfl, p6, cK_of (kY_0 hY), cYk hY 3 (v := 3) rfl (by decide), Bool.and_true, if_neg (nI_nlt (Nat.le_refl nf) (by omega))]
theorem e_cnt147 (hY : LayY Y ρ) {nw : Nat} (hn : nw ≤ 10) (w3 : SI ρ (Y + 1) 5 = nI nw) (v : Int32) : lp_ (b_Model_count_147 Y v) (fun (x2 : Int32) (x3 : Int32) (b : Bool) (σ : Sto) => (0, false, σ)) fuel_ 0 0 true ρ = (cntI (fun i => decide (SI ρ (Y + 1) (130 + 20 * i) = v - 4)) nw, true, ρ) := by
  refine lp_cnt (σ := ρ) nw (fun i => decide (SI ρ (Y + 1) (130 + 20 * i) = v - 4)) (fun x => (x, true, ρ)) (by omega) (fun L i x hi => ?_) (fun L x => ?_)
  · unfold b_Model_count_147
    simp only [bd_, lt_, rY_0 hY, show ix (5 : Int32) = 5 from rfl, w3, cK_of (kY_0 hY), cYk hY 5 (v := 5) rfl (by decide), Bool.and_true, if_pos (show nI i < nI nw from nI_lt hi (by omega)), e_walkerAt, cY hY (show 130 + 20 * i < 3210 by omega), ix_nI (show 130 + 20 * i < 2 ^ 31 by omega), decide_eq_true_eq]
    split <;> rfl
  · unfold b_Model_count_147
    simp only [lt_, rY_0 hY, show ix (5 : Int32) = 5 from rfl, w3, cK_of (kY_0 hY), cYk hY 5 (v := 5) rfl (by decide), Bool.and_true, if_neg (nI_nlt (Nat.le_refl nw) (by omega))]
theorem e_cnt199 (hY : LayY Y ρ) {nb : Nat} (hn : nb ≤ 20) (b3 : SI ρ (Y + 1) 6 = nI nb) : lp_ (b_Model_count_199 Y) (fun (x2 : Int32) (x3 : Int32) (b : Bool) (σ : Sto) => (0, false, σ)) fuel_ 0 0 true ρ = (cntI (fun i => decide (SI ρ (Y + 1) (344 + 5 * i) = 0)) nb, true, ρ) := by
  refine lp_cnt (σ := ρ) nb (fun i => decide (SI ρ (Y + 1) (344 + 5 * i) = 0)) (fun x => (x, true, ρ)) (by omega) (fun L i x hi => ?_) (fun L x => ?_)
  · unfold b_Model_count_199
    simp only [bd_, lt_, rY_0 hY, show ix (6 : Int32) = 6 from rfl, b3, cK_of (kY_0 hY), cYk hY 6 (v := 6) rfl (by decide), Bool.and_true, if_pos (show nI i < nI nb from nI_lt hi (by omega)), e_boxAt, nI_p4, show 340 + 5 * i + 4 = 344 + 5 * i by omega, cY hY (show 344 + 5 * i < 3210 by omega), ix_nI (show 344 + 5 * i < 2 ^ 31 by omega), decide_eq_true_eq]
    split <;> rfl
  · unfold b_Model_count_199
    simp only [lt_, rY_0 hY, show ix (6 : Int32) = 6 from rfl, b3, cK_of (kY_0 hY), cYk hY 6 (v := 6) rfl (by decide), Bool.and_true, if_neg (nI_nlt (Nat.le_refl nb) (by omega))]
theorem op_44 : Op_44 X Y (REL X Y) := by
  intro v σ ρ h
  have hX := h.2.2.1
  have hY : LayY Y (stn ρ (Shn σ)) := h.2.2.2.1
  have hW := hX.2.1
  have hG := (REL_now2 h).2.1
  obtain ⟨d1, d2⟩ := (REL_now2 h).1
  obtain ⟨np, nf, p1, p2, p3, p4, p5, p6, p7, p8, p9, p10, p11, p12⟩ := id hG
  obtain ⟨nb, b1, b2, b3, b4⟩ := (REL_now2 h).2.2.2.2.2.1
  obtain ⟨nw, w1, w2, w3, w4⟩ := (REL_now2 h).2.2.2.2.2.2.1
  obtain ⟨nq, q1, q2, q3, q4, q5⟩ := (REL_now2 h).2.2.1
  obtain ⟨s1, s2, nr, s3, s4, s5, s6⟩ := (REL_now2 h).2.2.2.1
  obtain ⟨na, a1, a2, a3, a4⟩ := (REL_now2 h).2.2.2.2.1
  obtain ⟨nt, t1, t2, t3, t4, t5⟩ := (REL_now2 h).2.2.2.2.2.2.2
  obtain ⟨ny, y1, y2, y3, y4⟩ := h.2.2.2.2.2.2.2.1
  obtain ⟨nz, z1, z2, z3, z4⟩ := h.2.2.2.2.2.2.2.2.2
  by_cases hv : (0 : Int32) ≤ v ∧ v ≤ 17
  · obtain ⟨m, hm, rfl⟩ := in_nat (n := 17) rfl (by decide) hv.1 hv.2
    clear hv
    rcases (show m = 0 ∨ m = 1 ∨ m = 2 ∨ m = 3 ∨ m = 4 ∨ m = 5 ∨ m = 6 ∨ m = 7 ∨ m = 8 ∨ m = 9 ∨ m = 10 ∨ m = 11 ∨ m = 12 ∨ m = 13 ∨ m = 14 ∨ m = 15 ∨ m = 16 ∨ m = 17 by omega) with rfl | rfl | rfl | rfl | rfl | rfl | rfl | rfl | rfl | rfl | rfl | rfl | rfl | rfl | rfl | rfl | rfl | rfl
    · refine OpOK_b (nI np) h ?_ ?_
      · unfold f_Trail_count
        simp only [bd_, lt_, e_within, rX_0_0 hX, rX_0_3 hX, rW_0_0 hW, rW_0_1 hW, rW_0_2 hW, rW_0_3 hW, rW_0_4 hW, rW_0_5 hW, cK_of (kX_0 hX), cK_of (kX_160 hX), cK_of (kW_0 hW), cK_of (kW_1 hW), cK_of (kW_11 hW), cK_of (kW_15 hW), cK_of (kW_21 hW), cK_of (kW_28 hW), cK_of (kW_35 hW), Bool.and_true, e_firesOn hW p2 p5, e_openInAll hW b1 b2, e_walkState hW w1 w2, i10, if_false, if_true, inR_e0 (show ¬ ((4 : Int32) ≤ nI 0 ∧ nI 0 ≤ 7) by decide), if_pos (show nI 0 = (0 : Int32) from rfl), p3]
      · show f_Model_count Y (nI 0) true (stn ρ (Shn σ)) = _
        unfold f_Model_count
        simp only [bd_, lt_, rY_0 hY, cK_of (kY_0 hY), Bool.and_true, SI_stn, cYk hY 0 (v := 0) rfl (by decide), show ix (0 : Int32) = 0 from rfl, cYk hY 1 (v := 1) rfl (by decide), show ix (1 : Int32) = 1 from rfl, cYk hY 2 (v := 2) rfl (by decide), show ix (2 : Int32) = 2 from rfl, cYk hY 3 (v := 3) rfl (by decide), show ix (3 : Int32) = 3 from rfl, cYk hY 4 (v := 4) rfl (by decide), show ix (4 : Int32) = 4 from rfl, cYk hY 5 (v := 5) rfl (by decide), show ix (5 : Int32) = 5 from rfl, cYk hY 6 (v := 6) rfl (by decide), show ix (6 : Int32) = 6 from rfl, cYk hY 7 (v := 7) rfl (by decide), show ix (7 : Int32) = 7 from rfl, cYk hY 8 (v := 8) rfl (by decide), show ix (8 : Int32) = 8 from rfl, cYk hY 9 (v := 9) rfl (by decide), show ix (9 : Int32) = 9 from rfl, if_pos (show nI 0 = (0 : Int32) from rfl), p4]
    · refine OpOK_b (nI nf) h ?_ ?_
      · unfold f_Trail_count
        simp only [bd_, lt_, e_within, rX_0_0 hX, rX_0_3 hX, rW_0_0 hW, rW_0_1 hW, rW_0_2 hW, rW_0_3 hW, rW_0_4 hW, rW_0_5 hW, cK_of (kX_0 hX), cK_of (kX_160 hX), cK_of (kW_0 hW), cK_of (kW_1 hW), cK_of (kW_11 hW), cK_of (kW_15 hW), cK_of (kW_21 hW), cK_of (kW_28 hW), cK_of (kW_35 hW), Bool.and_true, e_firesOn hW p2 p5, e_openInAll hW b1 b2, e_walkState hW w1 w2, i10, if_false, if_true, inR_e0 (show ¬ ((4 : Int32) ≤ nI 1 ∧ nI 1 ≤ 7) by decide), if_neg (show ¬ nI 1 = (0 : Int32) by decide), if_pos (show nI 1 = (1 : Int32) from rfl), p5]
      · show f_Model_count Y (nI 1) true (stn ρ (Shn σ)) = _
        unfold f_Model_count
        simp only [bd_, lt_, rY_0 hY, cK_of (kY_0 hY), Bool.and_true, SI_stn, cYk hY 0 (v := 0) rfl (by decide), show ix (0 : Int32) = 0 from rfl, cYk hY 1 (v := 1) rfl (by decide), show ix (1 : Int32) = 1 from rfl, cYk hY 2 (v := 2) rfl (by decide), show ix (2 : Int32) = 2 from rfl, cYk hY 3 (v := 3) rfl (by decide), show ix (3 : Int32) = 3 from rfl, cYk hY 4 (v := 4) rfl (by decide), show ix (4 : Int32) = 4 from rfl, cYk hY 5 (v := 5) rfl (by decide), show ix (5 : Int32) = 5 from rfl, cYk hY 6 (v := 6) rfl (by decide), show ix (6 : Int32) = 6 from rfl, cYk hY 7 (v := 7) rfl (by decide), show ix (7 : Int32) = 7 from rfl, cYk hY 8 (v := 8) rfl (by decide), show ix (8 : Int32) = 8 from rfl, cYk hY 9 (v := 9) rfl (by decide), show ix (9 : Int32) = 9 from rfl, if_neg (show ¬ nI 1 = (0 : Int32) by decide), if_pos (show nI 1 = (1 : Int32) from rfl), p6]
    · refine OpOK_b (cntI (fun i => decide (inR (SI ρ (Y + 1) 0) (SI ρ (Y + 1) (102 + 4 * i)) (SI ρ (Y + 1) (103 + 4 * i)) = 1)) nf) h ?_ ?_
      · unfold f_Trail_count
        simp only [bd_, lt_, e_within, rX_0_0 hX, rX_0_3 hX, rW_0_0 hW, rW_0_1 hW, rW_0_2 hW, rW_0_3 hW, rW_0_4 hW, rW_0_5 hW, cK_of (kX_0 hX), cK_of (kX_160 hX), cK_of (kW_0 hW), cK_of (kW_1 hW), cK_of (kW_11 hW), cK_of (kW_15 hW), cK_of (kW_21 hW), cK_of (kW_28 hW), cK_of (kW_35 hW), Bool.and_true, e_firesOn hW p2 p5, e_openInAll hW b1 b2, e_walkState hW w1 w2, i10, if_false, if_true, inR_e0 (show ¬ ((4 : Int32) ≤ nI 2 ∧ nI 2 ≤ 7) by decide), if_neg (show ¬ nI 2 = (0 : Int32) by decide), if_neg (show ¬ nI 2 = (1 : Int32) by decide), if_pos (show nI 2 = (2 : Int32) from rfl)]
        rw [cntI_congr (fun k hk => by rw [d1, (p11 k hk).2.2.1, (p11 k hk).2.2.2.1])]
      · show f_Model_count Y (nI 2) true (stn ρ (Shn σ)) = _
        unfold f_Model_count
        simp only [lt_, if_neg (show ¬ nI 2 = (0 : Int32) by decide), if_neg (show ¬ nI 2 = (1 : Int32) by decide), if_pos (show nI 2 = (2 : Int32) from rfl)]
        exact e_cnt104 hY p2 p6
    · refine OpOK_b (nI nw) h ?_ ?_
      · unfold f_Trail_count
        simp only [bd_, lt_, e_within, rX_0_0 hX, rX_0_3 hX, rW_0_0 hW, rW_0_1 hW, rW_0_2 hW, rW_0_3 hW, rW_0_4 hW, rW_0_5 hW, cK_of (kX_0 hX), cK_of (kX_160 hX), cK_of (kW_0 hW), cK_of (kW_1 hW), cK_of (kW_11 hW), cK_of (kW_15 hW), cK_of (kW_21 hW), cK_of (kW_28 hW), cK_of (kW_35 hW), Bool.and_true, e_firesOn hW p2 p5, e_openInAll hW b1 b2, e_walkState hW w1 w2, i10, if_false, if_true, inR_e0 (show ¬ ((4 : Int32) ≤ nI 3 ∧ nI 3 ≤ 7) by decide), if_neg (show ¬ nI 3 = (0 : Int32) by decide), if_neg (show ¬ nI 3 = (1 : Int32) by decide), if_neg (show ¬ nI 3 = (2 : Int32) by decide), if_pos (show nI 3 = (3 : Int32) from rfl), w2]
      · show f_Model_count Y (nI 3) true (stn ρ (Shn σ)) = _
        unfold f_Model_count
        simp only [bd_, lt_, rY_0 hY, cK_of (kY_0 hY), Bool.and_true, SI_stn, cYk hY 0 (v := 0) rfl (by decide), show ix (0 : Int32) = 0 from rfl, cYk hY 1 (v := 1) rfl (by decide), show ix (1 : Int32) = 1 from rfl, cYk hY 2 (v := 2) rfl (by decide), show ix (2 : Int32) = 2 from rfl, cYk hY 3 (v := 3) rfl (by decide), show ix (3 : Int32) = 3 from rfl, cYk hY 4 (v := 4) rfl (by decide), show ix (4 : Int32) = 4 from rfl, cYk hY 5 (v := 5) rfl (by decide), show ix (5 : Int32) = 5 from rfl, cYk hY 6 (v := 6) rfl (by decide), show ix (6 : Int32) = 6 from rfl, cYk hY 7 (v := 7) rfl (by decide), show ix (7 : Int32) = 7 from rfl, cYk hY 8 (v := 8) rfl (by decide), show ix (8 : Int32) = 8 from rfl, cYk hY 9 (v := 9) rfl (by decide), show ix (9 : Int32) = 9 from rfl, if_neg (show ¬ nI 3 = (0 : Int32) by decide), if_neg (show ¬ nI 3 = (1 : Int32) by decide), if_neg (show ¬ nI 3 = (2 : Int32) by decide), if_pos (show nI 3 = (3 : Int32) from rfl), w3]
    · refine OpOK_b (cntI (fun i => decide (SI ρ (Y + 1) (130 + 20 * i) = nI 4 - 4)) nw) h ?_ ?_
      · unfold f_Trail_count
        simp only [bd_, lt_, e_within, rX_0_0 hX, rX_0_3 hX, rW_0_0 hW, rW_0_1 hW, rW_0_2 hW, rW_0_3 hW, rW_0_4 hW, rW_0_5 hW, cK_of (kX_0 hX), cK_of (kX_160 hX), cK_of (kW_0 hW), cK_of (kW_1 hW), cK_of (kW_11 hW), cK_of (kW_15 hW), cK_of (kW_21 hW), cK_of (kW_28 hW), cK_of (kW_35 hW), Bool.and_true, e_firesOn hW p2 p5, e_openInAll hW b1 b2, e_walkState hW w1 w2, i10, if_false, if_true, inR_e1 (show (4 : Int32) ≤ nI 4 ∧ nI 4 ≤ 7 by decide)]
        rw [cntI_congr (fun k hk => by rw [(w4 k hk).2.2.2.2.2.1])]
      · show f_Model_count Y (nI 4) true (stn ρ (Shn σ)) = _
        unfold f_Model_count
        simp only [lt_, if_neg (show ¬ nI 4 = (0 : Int32) by decide), if_neg (show ¬ nI 4 = (1 : Int32) by decide), if_neg (show ¬ nI 4 = (2 : Int32) by decide), if_neg (show ¬ nI 4 = (3 : Int32) by decide), if_pos (show nI 4 = (4 : Int32) from rfl)]
        exact e_cnt147 hY w1 w3 (nI 4)
    · refine OpOK_b (cntI (fun i => decide (SI ρ (Y + 1) (130 + 20 * i) = nI 5 - 4)) nw) h ?_ ?_
      · unfold f_Trail_count
        simp only [bd_, lt_, e_within, rX_0_0 hX, rX_0_3 hX, rW_0_0 hW, rW_0_1 hW, rW_0_2 hW, rW_0_3 hW, rW_0_4 hW, rW_0_5 hW, cK_of (kX_0 hX), cK_of (kX_160 hX), cK_of (kW_0 hW), cK_of (kW_1 hW), cK_of (kW_11 hW), cK_of (kW_15 hW), cK_of (kW_21 hW), cK_of (kW_28 hW), cK_of (kW_35 hW), Bool.and_true, e_firesOn hW p2 p5, e_openInAll hW b1 b2, e_walkState hW w1 w2, i10, if_false, if_true, inR_e1 (show (4 : Int32) ≤ nI 5 ∧ nI 5 ≤ 7 by decide)]
        rw [cntI_congr (fun k hk => by rw [(w4 k hk).2.2.2.2.2.1])]
      · show f_Model_count Y (nI 5) true (stn ρ (Shn σ)) = _
        unfold f_Model_count
        simp only [lt_, if_neg (show ¬ nI 5 = (0 : Int32) by decide), if_neg (show ¬ nI 5 = (1 : Int32) by decide), if_neg (show ¬ nI 5 = (2 : Int32) by decide), if_neg (show ¬ nI 5 = (3 : Int32) by decide), if_neg (show ¬ nI 5 = (4 : Int32) by decide), if_pos (show nI 5 = (5 : Int32) from rfl)]
        exact e_cnt147 hY w1 w3 (nI 5)
    · refine OpOK_b (cntI (fun i => decide (SI ρ (Y + 1) (130 + 20 * i) = nI 6 - 4)) nw) h ?_ ?_
      · unfold f_Trail_count
        simp only [bd_, lt_, e_within, rX_0_0 hX, rX_0_3 hX, rW_0_0 hW, rW_0_1 hW, rW_0_2 hW, rW_0_3 hW, rW_0_4 hW, rW_0_5 hW, cK_of (kX_0 hX), cK_of (kX_160 hX), cK_of (kW_0 hW), cK_of (kW_1 hW), cK_of (kW_11 hW), cK_of (kW_15 hW), cK_of (kW_21 hW), cK_of (kW_28 hW), cK_of (kW_35 hW), Bool.and_true, e_firesOn hW p2 p5, e_openInAll hW b1 b2, e_walkState hW w1 w2, i10, if_false, if_true, inR_e1 (show (4 : Int32) ≤ nI 6 ∧ nI 6 ≤ 7 by decide)]
        rw [cntI_congr (fun k hk => by rw [(w4 k hk).2.2.2.2.2.1])]
      · show f_Model_count Y (nI 6) true (stn ρ (Shn σ)) = _
        unfold f_Model_count
        simp only [lt_, if_neg (show ¬ nI 6 = (0 : Int32) by decide), if_neg (show ¬ nI 6 = (1 : Int32) by decide), if_neg (show ¬ nI 6 = (2 : Int32) by decide), if_neg (show ¬ nI 6 = (3 : Int32) by decide), if_neg (show ¬ nI 6 = (4 : Int32) by decide), if_neg (show ¬ nI 6 = (5 : Int32) by decide), if_pos (show nI 6 = (6 : Int32) from rfl)]
        exact e_cnt147 hY w1 w3 (nI 6)
    · refine OpOK_b (cntI (fun i => decide (SI ρ (Y + 1) (130 + 20 * i) = nI 7 - 4)) nw) h ?_ ?_
      · unfold f_Trail_count
        simp only [bd_, lt_, e_within, rX_0_0 hX, rX_0_3 hX, rW_0_0 hW, rW_0_1 hW, rW_0_2 hW, rW_0_3 hW, rW_0_4 hW, rW_0_5 hW, cK_of (kX_0 hX), cK_of (kX_160 hX), cK_of (kW_0 hW), cK_of (kW_1 hW), cK_of (kW_11 hW), cK_of (kW_15 hW), cK_of (kW_21 hW), cK_of (kW_28 hW), cK_of (kW_35 hW), Bool.and_true, e_firesOn hW p2 p5, e_openInAll hW b1 b2, e_walkState hW w1 w2, i10, if_false, if_true, inR_e1 (show (4 : Int32) ≤ nI 7 ∧ nI 7 ≤ 7 by decide)]
        rw [cntI_congr (fun k hk => by rw [(w4 k hk).2.2.2.2.2.1])]
      · show f_Model_count Y (nI 7) true (stn ρ (Shn σ)) = _
        unfold f_Model_count
        simp only [lt_, if_neg (show ¬ nI 7 = (0 : Int32) by decide), if_neg (show ¬ nI 7 = (1 : Int32) by decide), if_neg (show ¬ nI 7 = (2 : Int32) by decide), if_neg (show ¬ nI 7 = (3 : Int32) by decide), if_neg (show ¬ nI 7 = (4 : Int32) by decide), if_neg (show ¬ nI 7 = (5 : Int32) by decide), if_neg (show ¬ nI 7 = (6 : Int32) by decide), if_pos (show nI 7 = (7 : Int32) from rfl)]
        exact e_cnt147 hY w1 w3 (nI 7)
    · refine OpOK_b (nI nb) h ?_ ?_
      · unfold f_Trail_count
        simp only [bd_, lt_, e_within, rX_0_0 hX, rX_0_3 hX, rW_0_0 hW, rW_0_1 hW, rW_0_2 hW, rW_0_3 hW, rW_0_4 hW, rW_0_5 hW, cK_of (kX_0 hX), cK_of (kX_160 hX), cK_of (kW_0 hW), cK_of (kW_1 hW), cK_of (kW_11 hW), cK_of (kW_15 hW), cK_of (kW_21 hW), cK_of (kW_28 hW), cK_of (kW_35 hW), Bool.and_true, e_firesOn hW p2 p5, e_openInAll hW b1 b2, e_walkState hW w1 w2, i10, if_false, if_true, inR_e0 (show ¬ ((4 : Int32) ≤ nI 8 ∧ nI 8 ≤ 7) by decide), if_neg (show ¬ nI 8 = (0 : Int32) by decide), if_neg (show ¬ nI 8 = (1 : Int32) by decide), if_neg (show ¬ nI 8 = (2 : Int32) by decide), if_neg (show ¬ nI 8 = (3 : Int32) by decide), if_pos (show nI 8 = (8 : Int32) from rfl), b2]
      · show f_Model_count Y (nI 8) true (stn ρ (Shn σ)) = _
        unfold f_Model_count
        simp only [bd_, lt_, rY_0 hY, cK_of (kY_0 hY), Bool.and_true, SI_stn, cYk hY 0 (v := 0) rfl (by decide), show ix (0 : Int32) = 0 from rfl, cYk hY 1 (v := 1) rfl (by decide), show ix (1 : Int32) = 1 from rfl, cYk hY 2 (v := 2) rfl (by decide), show ix (2 : Int32) = 2 from rfl, cYk hY 3 (v := 3) rfl (by decide), show ix (3 : Int32) = 3 from rfl, cYk hY 4 (v := 4) rfl (by decide), show ix (4 : Int32) = 4 from rfl, cYk hY 5 (v := 5) rfl (by decide), show ix (5 : Int32) = 5 from rfl, cYk hY 6 (v := 6) rfl (by decide), show ix (6 : Int32) = 6 from rfl, cYk hY 7 (v := 7) rfl (by decide), show ix (7 : Int32) = 7 from rfl, cYk hY 8 (v := 8) rfl (by decide), show ix (8 : Int32) = 8 from rfl, cYk hY 9 (v := 9) rfl (by decide), show ix (9 : Int32) = 9 from rfl, if_neg (show ¬ nI 8 = (0 : Int32) by decide), if_neg (show ¬ nI 8 = (1 : Int32) by decide), if_neg (show ¬ nI 8 = (2 : Int32) by decide), if_neg (show ¬ nI 8 = (3 : Int32) by decide), if_neg (show ¬ nI 8 = (4 : Int32) by decide), if_neg (show ¬ nI 8 = (5 : Int32) by decide), if_neg (show ¬ nI 8 = (6 : Int32) by decide), if_neg (show ¬ nI 8 = (7 : Int32) by decide), if_pos (show nI 8 = (8 : Int32) from rfl), b3]
    · refine OpOK_b (cntI (fun i => decide (SI ρ (Y + 1) (344 + 5 * i) = 0)) nb) h ?_ ?_
      · unfold f_Trail_count
        simp only [bd_, lt_, e_within, rX_0_0 hX, rX_0_3 hX, rW_0_0 hW, rW_0_1 hW, rW_0_2 hW, rW_0_3 hW, rW_0_4 hW, rW_0_5 hW, cK_of (kX_0 hX), cK_of (kX_160 hX), cK_of (kW_0 hW), cK_of (kW_1 hW), cK_of (kW_11 hW), cK_of (kW_15 hW), cK_of (kW_21 hW), cK_of (kW_28 hW), cK_of (kW_35 hW), Bool.and_true, e_firesOn hW p2 p5, e_openInAll hW b1 b2, e_walkState hW w1 w2, i10, if_false, if_true, inR_e0 (show ¬ ((4 : Int32) ≤ nI 9 ∧ nI 9 ≤ 7) by decide), if_neg (show ¬ nI 9 = (0 : Int32) by decide), if_neg (show ¬ nI 9 = (1 : Int32) by decide), if_neg (show ¬ nI 9 = (2 : Int32) by decide), if_neg (show ¬ nI 9 = (3 : Int32) by decide), if_neg (show ¬ nI 9 = (8 : Int32) by decide), if_pos (show nI 9 = (9 : Int32) from rfl)]
        rw [cntI_congr (fun k hk => by rw [(b4 k hk).2.2.2.2.1])]
      · show f_Model_count Y (nI 9) true (stn ρ (Shn σ)) = _
        unfold f_Model_count
        simp only [lt_, if_neg (show ¬ nI 9 = (0 : Int32) by decide), if_neg (show ¬ nI 9 = (1 : Int32) by decide), if_neg (show ¬ nI 9 = (2 : Int32) by decide), if_neg (show ¬ nI 9 = (3 : Int32) by decide), if_neg (show ¬ nI 9 = (4 : Int32) by decide), if_neg (show ¬ nI 9 = (5 : Int32) by decide), if_neg (show ¬ nI 9 = (6 : Int32) by decide), if_neg (show ¬ nI 9 = (7 : Int32) by decide), if_neg (show ¬ nI 9 = (8 : Int32) by decide), if_pos (show nI 9 = (9 : Int32) from rfl)]
        exact e_cnt199 hY b1 b3
    · refine OpOK_b (nI nt) h ?_ ?_
      · unfold f_Trail_count
        simp only [bd_, lt_, e_within, rX_0_0 hX, rX_0_3 hX, rW_0_0 hW, rW_0_1 hW, rW_0_2 hW, rW_0_3 hW, rW_0_4 hW, rW_0_5 hW, cK_of (kX_0 hX), cK_of (kX_160 hX), cK_of (kW_0 hW), cK_of (kW_1 hW), cK_of (kW_11 hW), cK_of (kW_15 hW), cK_of (kW_21 hW), cK_of (kW_28 hW), cK_of (kW_35 hW), Bool.and_true, e_firesOn hW p2 p5, e_openInAll hW b1 b2, e_walkState hW w1 w2, i10, if_false, if_true, inR_e0 (show ¬ ((4 : Int32) ≤ nI 10 ∧ nI 10 ≤ 7) by decide), if_neg (show ¬ nI 10 = (0 : Int32) by decide), if_neg (show ¬ nI 10 = (1 : Int32) by decide), if_neg (show ¬ nI 10 = (2 : Int32) by decide), if_neg (show ¬ nI 10 = (3 : Int32) by decide), if_neg (show ¬ nI 10 = (8 : Int32) by decide), if_neg (show ¬ nI 10 = (9 : Int32) by decide), if_pos (show nI 10 = (10 : Int32) from rfl), t2]
      · show f_Model_count Y (nI 10) true (stn ρ (Shn σ)) = _
        unfold f_Model_count
        simp only [bd_, lt_, rY_0 hY, cK_of (kY_0 hY), Bool.and_true, SI_stn, cYk hY 0 (v := 0) rfl (by decide), show ix (0 : Int32) = 0 from rfl, cYk hY 1 (v := 1) rfl (by decide), show ix (1 : Int32) = 1 from rfl, cYk hY 2 (v := 2) rfl (by decide), show ix (2 : Int32) = 2 from rfl, cYk hY 3 (v := 3) rfl (by decide), show ix (3 : Int32) = 3 from rfl, cYk hY 4 (v := 4) rfl (by decide), show ix (4 : Int32) = 4 from rfl, cYk hY 5 (v := 5) rfl (by decide), show ix (5 : Int32) = 5 from rfl, cYk hY 6 (v := 6) rfl (by decide), show ix (6 : Int32) = 6 from rfl, cYk hY 7 (v := 7) rfl (by decide), show ix (7 : Int32) = 7 from rfl, cYk hY 8 (v := 8) rfl (by decide), show ix (8 : Int32) = 8 from rfl, cYk hY 9 (v := 9) rfl (by decide), show ix (9 : Int32) = 9 from rfl, if_neg (show ¬ nI 10 = (0 : Int32) by decide), if_neg (show ¬ nI 10 = (1 : Int32) by decide), if_neg (show ¬ nI 10 = (2 : Int32) by decide), if_neg (show ¬ nI 10 = (3 : Int32) by decide), if_neg (show ¬ nI 10 = (4 : Int32) by decide), if_neg (show ¬ nI 10 = (5 : Int32) by decide), if_neg (show ¬ nI 10 = (6 : Int32) by decide), if_neg (show ¬ nI 10 = (7 : Int32) by decide), if_neg (show ¬ nI 10 = (8 : Int32) by decide), if_neg (show ¬ nI 10 = (9 : Int32) by decide), if_pos (show nI 10 = (10 : Int32) from rfl), t3]
    · refine OpOK_b (nI nq) h ?_ ?_
      · unfold f_Trail_count
        simp only [bd_, lt_, e_within, rX_0_0 hX, rX_0_3 hX, rW_0_0 hW, rW_0_1 hW, rW_0_2 hW, rW_0_3 hW, rW_0_4 hW, rW_0_5 hW, cK_of (kX_0 hX), cK_of (kX_160 hX), cK_of (kW_0 hW), cK_of (kW_1 hW), cK_of (kW_11 hW), cK_of (kW_15 hW), cK_of (kW_21 hW), cK_of (kW_28 hW), cK_of (kW_35 hW), Bool.and_true, e_firesOn hW p2 p5, e_openInAll hW b1 b2, e_walkState hW w1 w2, i10, if_false, if_true, inR_e0 (show ¬ ((4 : Int32) ≤ nI 11 ∧ nI 11 ≤ 7) by decide), if_neg (show ¬ nI 11 = (0 : Int32) by decide), if_neg (show ¬ nI 11 = (1 : Int32) by decide), if_neg (show ¬ nI 11 = (2 : Int32) by decide), if_neg (show ¬ nI 11 = (3 : Int32) by decide), if_neg (show ¬ nI 11 = (8 : Int32) by decide), if_neg (show ¬ nI 11 = (9 : Int32) by decide), if_neg (show ¬ nI 11 = (10 : Int32) by decide), if_pos (show nI 11 = (11 : Int32) from rfl), q2]
      · show f_Model_count Y (nI 11) true (stn ρ (Shn σ)) = _
        unfold f_Model_count
        simp only [bd_, lt_, rY_0 hY, cK_of (kY_0 hY), Bool.and_true, SI_stn, cYk hY 0 (v := 0) rfl (by decide), show ix (0 : Int32) = 0 from rfl, cYk hY 1 (v := 1) rfl (by decide), show ix (1 : Int32) = 1 from rfl, cYk hY 2 (v := 2) rfl (by decide), show ix (2 : Int32) = 2 from rfl, cYk hY 3 (v := 3) rfl (by decide), show ix (3 : Int32) = 3 from rfl, cYk hY 4 (v := 4) rfl (by decide), show ix (4 : Int32) = 4 from rfl, cYk hY 5 (v := 5) rfl (by decide), show ix (5 : Int32) = 5 from rfl, cYk hY 6 (v := 6) rfl (by decide), show ix (6 : Int32) = 6 from rfl, cYk hY 7 (v := 7) rfl (by decide), show ix (7 : Int32) = 7 from rfl, cYk hY 8 (v := 8) rfl (by decide), show ix (8 : Int32) = 8 from rfl, cYk hY 9 (v := 9) rfl (by decide), show ix (9 : Int32) = 9 from rfl, if_neg (show ¬ nI 11 = (0 : Int32) by decide), if_neg (show ¬ nI 11 = (1 : Int32) by decide), if_neg (show ¬ nI 11 = (2 : Int32) by decide), if_neg (show ¬ nI 11 = (3 : Int32) by decide), if_neg (show ¬ nI 11 = (4 : Int32) by decide), if_neg (show ¬ nI 11 = (5 : Int32) by decide), if_neg (show ¬ nI 11 = (6 : Int32) by decide), if_neg (show ¬ nI 11 = (7 : Int32) by decide), if_neg (show ¬ nI 11 = (8 : Int32) by decide), if_neg (show ¬ nI 11 = (9 : Int32) by decide), if_neg (show ¬ nI 11 = (10 : Int32) by decide), if_pos (show nI 11 = (11 : Int32) from rfl), q3]
    · refine OpOK_b (nI nr) h ?_ ?_
      · unfold f_Trail_count
        simp only [bd_, lt_, e_within, rX_0_0 hX, rX_0_3 hX, rW_0_0 hW, rW_0_1 hW, rW_0_2 hW, rW_0_3 hW, rW_0_4 hW, rW_0_5 hW, cK_of (kX_0 hX), cK_of (kX_160 hX), cK_of (kW_0 hW), cK_of (kW_1 hW), cK_of (kW_11 hW), cK_of (kW_15 hW), cK_of (kW_21 hW), cK_of (kW_28 hW), cK_of (kW_35 hW), Bool.and_true, e_firesOn hW p2 p5, e_openInAll hW b1 b2, e_walkState hW w1 w2, i10, if_false, if_true, inR_e0 (show ¬ ((4 : Int32) ≤ nI 12 ∧ nI 12 ≤ 7) by decide), if_neg (show ¬ nI 12 = (0 : Int32) by decide), if_neg (show ¬ nI 12 = (1 : Int32) by decide), if_neg (show ¬ nI 12 = (2 : Int32) by decide), if_neg (show ¬ nI 12 = (3 : Int32) by decide), if_neg (show ¬ nI 12 = (8 : Int32) by decide), if_neg (show ¬ nI 12 = (9 : Int32) by decide), if_neg (show ¬ nI 12 = (10 : Int32) by decide), if_neg (show ¬ nI 12 = (11 : Int32) by decide), if_pos (show nI 12 = (12 : Int32) from rfl), s4]
      · show f_Model_count Y (nI 12) true (stn ρ (Shn σ)) = _
        unfold f_Model_count
        simp only [bd_, lt_, rY_0 hY, cK_of (kY_0 hY), Bool.and_true, SI_stn, cYk hY 0 (v := 0) rfl (by decide), show ix (0 : Int32) = 0 from rfl, cYk hY 1 (v := 1) rfl (by decide), show ix (1 : Int32) = 1 from rfl, cYk hY 2 (v := 2) rfl (by decide), show ix (2 : Int32) = 2 from rfl, cYk hY 3 (v := 3) rfl (by decide), show ix (3 : Int32) = 3 from rfl, cYk hY 4 (v := 4) rfl (by decide), show ix (4 : Int32) = 4 from rfl, cYk hY 5 (v := 5) rfl (by decide), show ix (5 : Int32) = 5 from rfl, cYk hY 6 (v := 6) rfl (by decide), show ix (6 : Int32) = 6 from rfl, cYk hY 7 (v := 7) rfl (by decide), show ix (7 : Int32) = 7 from rfl, cYk hY 8 (v := 8) rfl (by decide), show ix (8 : Int32) = 8 from rfl, cYk hY 9 (v := 9) rfl (by decide), show ix (9 : Int32) = 9 from rfl, if_neg (show ¬ nI 12 = (0 : Int32) by decide), if_neg (show ¬ nI 12 = (1 : Int32) by decide), if_neg (show ¬ nI 12 = (2 : Int32) by decide), if_neg (show ¬ nI 12 = (3 : Int32) by decide), if_neg (show ¬ nI 12 = (4 : Int32) by decide), if_neg (show ¬ nI 12 = (5 : Int32) by decide), if_neg (show ¬ nI 12 = (6 : Int32) by decide), if_neg (show ¬ nI 12 = (7 : Int32) by decide), if_neg (show ¬ nI 12 = (8 : Int32) by decide), if_neg (show ¬ nI 12 = (9 : Int32) by decide), if_neg (show ¬ nI 12 = (10 : Int32) by decide), if_neg (show ¬ nI 12 = (11 : Int32) by decide), if_pos (show nI 12 = (12 : Int32) from rfl), s5]
    · refine OpOK_b (nI na) h ?_ ?_
      · unfold f_Trail_count
        simp only [bd_, lt_, e_within, rX_0_0 hX, rX_0_3 hX, rW_0_0 hW, rW_0_1 hW, rW_0_2 hW, rW_0_3 hW, rW_0_4 hW, rW_0_5 hW, cK_of (kX_0 hX), cK_of (kX_160 hX), cK_of (kW_0 hW), cK_of (kW_1 hW), cK_of (kW_11 hW), cK_of (kW_15 hW), cK_of (kW_21 hW), cK_of (kW_28 hW), cK_of (kW_35 hW), Bool.and_true, e_firesOn hW p2 p5, e_openInAll hW b1 b2, e_walkState hW w1 w2, i10, if_false, if_true, inR_e0 (show ¬ ((4 : Int32) ≤ nI 13 ∧ nI 13 ≤ 7) by decide), if_neg (show ¬ nI 13 = (0 : Int32) by decide), if_neg (show ¬ nI 13 = (1 : Int32) by decide), if_neg (show ¬ nI 13 = (2 : Int32) by decide), if_neg (show ¬ nI 13 = (3 : Int32) by decide), if_neg (show ¬ nI 13 = (8 : Int32) by decide), if_neg (show ¬ nI 13 = (9 : Int32) by decide), if_neg (show ¬ nI 13 = (10 : Int32) by decide), if_neg (show ¬ nI 13 = (11 : Int32) by decide), if_neg (show ¬ nI 13 = (12 : Int32) by decide), if_pos (show nI 13 = (13 : Int32) from rfl), a2]
      · show f_Model_count Y (nI 13) true (stn ρ (Shn σ)) = _
        unfold f_Model_count
        simp only [bd_, lt_, rY_0 hY, cK_of (kY_0 hY), Bool.and_true, SI_stn, cYk hY 0 (v := 0) rfl (by decide), show ix (0 : Int32) = 0 from rfl, cYk hY 1 (v := 1) rfl (by decide), show ix (1 : Int32) = 1 from rfl, cYk hY 2 (v := 2) rfl (by decide), show ix (2 : Int32) = 2 from rfl, cYk hY 3 (v := 3) rfl (by decide), show ix (3 : Int32) = 3 from rfl, cYk hY 4 (v := 4) rfl (by decide), show ix (4 : Int32) = 4 from rfl, cYk hY 5 (v := 5) rfl (by decide), show ix (5 : Int32) = 5 from rfl, cYk hY 6 (v := 6) rfl (by decide), show ix (6 : Int32) = 6 from rfl, cYk hY 7 (v := 7) rfl (by decide), show ix (7 : Int32) = 7 from rfl, cYk hY 8 (v := 8) rfl (by decide), show ix (8 : Int32) = 8 from rfl, cYk hY 9 (v := 9) rfl (by decide), show ix (9 : Int32) = 9 from rfl, if_neg (show ¬ nI 13 = (0 : Int32) by decide), if_neg (show ¬ nI 13 = (1 : Int32) by decide), if_neg (show ¬ nI 13 = (2 : Int32) by decide), if_neg (show ¬ nI 13 = (3 : Int32) by decide), if_neg (show ¬ nI 13 = (4 : Int32) by decide), if_neg (show ¬ nI 13 = (5 : Int32) by decide), if_neg (show ¬ nI 13 = (6 : Int32) by decide), if_neg (show ¬ nI 13 = (7 : Int32) by decide), if_neg (show ¬ nI 13 = (8 : Int32) by decide), if_neg (show ¬ nI 13 = (9 : Int32) by decide), if_neg (show ¬ nI 13 = (10 : Int32) by decide), if_neg (show ¬ nI 13 = (11 : Int32) by decide), if_neg (show ¬ nI 13 = (12 : Int32) by decide), if_pos (show nI 13 = (13 : Int32) from rfl), a3]
    · refine OpOK_b (nI nz) h ?_ ?_
      · unfold f_Trail_count
        simp only [bd_, lt_, e_within, rX_0_0 hX, rX_0_3 hX, rW_0_0 hW, rW_0_1 hW, rW_0_2 hW, rW_0_3 hW, rW_0_4 hW, rW_0_5 hW, cK_of (kX_0 hX), cK_of (kX_160 hX), cK_of (kW_0 hW), cK_of (kW_1 hW), cK_of (kW_11 hW), cK_of (kW_15 hW), cK_of (kW_21 hW), cK_of (kW_28 hW), cK_of (kW_35 hW), Bool.and_true, e_firesOn hW p2 p5, e_openInAll hW b1 b2, e_walkState hW w1 w2, i10, if_false, if_true, inR_e0 (show ¬ ((4 : Int32) ≤ nI 14 ∧ nI 14 ≤ 7) by decide), if_neg (show ¬ nI 14 = (0 : Int32) by decide), if_neg (show ¬ nI 14 = (1 : Int32) by decide), if_neg (show ¬ nI 14 = (2 : Int32) by decide), if_neg (show ¬ nI 14 = (3 : Int32) by decide), if_neg (show ¬ nI 14 = (8 : Int32) by decide), if_neg (show ¬ nI 14 = (9 : Int32) by decide), if_neg (show ¬ nI 14 = (10 : Int32) by decide), if_neg (show ¬ nI 14 = (11 : Int32) by decide), if_neg (show ¬ nI 14 = (12 : Int32) by decide), if_neg (show ¬ nI 14 = (13 : Int32) by decide), if_pos (show nI 14 = (14 : Int32) from rfl), z2]
      · show f_Model_count Y (nI 14) true (stn ρ (Shn σ)) = _
        unfold f_Model_count
        simp only [bd_, lt_, rY_0 hY, cK_of (kY_0 hY), Bool.and_true, SI_stn, cYk hY 0 (v := 0) rfl (by decide), show ix (0 : Int32) = 0 from rfl, cYk hY 1 (v := 1) rfl (by decide), show ix (1 : Int32) = 1 from rfl, cYk hY 2 (v := 2) rfl (by decide), show ix (2 : Int32) = 2 from rfl, cYk hY 3 (v := 3) rfl (by decide), show ix (3 : Int32) = 3 from rfl, cYk hY 4 (v := 4) rfl (by decide), show ix (4 : Int32) = 4 from rfl, cYk hY 5 (v := 5) rfl (by decide), show ix (5 : Int32) = 5 from rfl, cYk hY 6 (v := 6) rfl (by decide), show ix (6 : Int32) = 6 from rfl, cYk hY 7 (v := 7) rfl (by decide), show ix (7 : Int32) = 7 from rfl, cYk hY 8 (v := 8) rfl (by decide), show ix (8 : Int32) = 8 from rfl, cYk hY 9 (v := 9) rfl (by decide), show ix (9 : Int32) = 9 from rfl, if_neg (show ¬ nI 14 = (0 : Int32) by decide), if_neg (show ¬ nI 14 = (1 : Int32) by decide), if_neg (show ¬ nI 14 = (2 : Int32) by decide), if_neg (show ¬ nI 14 = (3 : Int32) by decide), if_neg (show ¬ nI 14 = (4 : Int32) by decide), if_neg (show ¬ nI 14 = (5 : Int32) by decide), if_neg (show ¬ nI 14 = (6 : Int32) by decide), if_neg (show ¬ nI 14 = (7 : Int32) by decide), if_neg (show ¬ nI 14 = (8 : Int32) by decide), if_neg (show ¬ nI 14 = (9 : Int32) by decide), if_neg (show ¬ nI 14 = (10 : Int32) by decide), if_neg (show ¬ nI 14 = (11 : Int32) by decide), if_neg (show ¬ nI 14 = (12 : Int32) by decide), if_neg (show ¬ nI 14 = (13 : Int32) by decide), if_pos (show nI 14 = (14 : Int32) from rfl), z3]
    · refine OpOK_b (nI ny) h ?_ ?_
      · unfold f_Trail_count
        simp only [bd_, lt_, e_within, rX_0_0 hX, rX_0_3 hX, rW_0_0 hW, rW_0_1 hW, rW_0_2 hW, rW_0_3 hW, rW_0_4 hW, rW_0_5 hW, cK_of (kX_0 hX), cK_of (kX_160 hX), cK_of (kW_0 hW), cK_of (kW_1 hW), cK_of (kW_11 hW), cK_of (kW_15 hW), cK_of (kW_21 hW), cK_of (kW_28 hW), cK_of (kW_35 hW), Bool.and_true, e_firesOn hW p2 p5, e_openInAll hW b1 b2, e_walkState hW w1 w2, i10, if_false, if_true, inR_e0 (show ¬ ((4 : Int32) ≤ nI 15 ∧ nI 15 ≤ 7) by decide), if_neg (show ¬ nI 15 = (0 : Int32) by decide), if_neg (show ¬ nI 15 = (1 : Int32) by decide), if_neg (show ¬ nI 15 = (2 : Int32) by decide), if_neg (show ¬ nI 15 = (3 : Int32) by decide), if_neg (show ¬ nI 15 = (8 : Int32) by decide), if_neg (show ¬ nI 15 = (9 : Int32) by decide), if_neg (show ¬ nI 15 = (10 : Int32) by decide), if_neg (show ¬ nI 15 = (11 : Int32) by decide), if_neg (show ¬ nI 15 = (12 : Int32) by decide), if_neg (show ¬ nI 15 = (13 : Int32) by decide), if_neg (show ¬ nI 15 = (14 : Int32) by decide), if_pos (show nI 15 = (15 : Int32) from rfl), y2]
      · show f_Model_count Y (nI 15) true (stn ρ (Shn σ)) = _
        unfold f_Model_count
        simp only [bd_, lt_, rY_0 hY, cK_of (kY_0 hY), Bool.and_true, SI_stn, cYk hY 0 (v := 0) rfl (by decide), show ix (0 : Int32) = 0 from rfl, cYk hY 1 (v := 1) rfl (by decide), show ix (1 : Int32) = 1 from rfl, cYk hY 2 (v := 2) rfl (by decide), show ix (2 : Int32) = 2 from rfl, cYk hY 3 (v := 3) rfl (by decide), show ix (3 : Int32) = 3 from rfl, cYk hY 4 (v := 4) rfl (by decide), show ix (4 : Int32) = 4 from rfl, cYk hY 5 (v := 5) rfl (by decide), show ix (5 : Int32) = 5 from rfl, cYk hY 6 (v := 6) rfl (by decide), show ix (6 : Int32) = 6 from rfl, cYk hY 7 (v := 7) rfl (by decide), show ix (7 : Int32) = 7 from rfl, cYk hY 8 (v := 8) rfl (by decide), show ix (8 : Int32) = 8 from rfl, cYk hY 9 (v := 9) rfl (by decide), show ix (9 : Int32) = 9 from rfl, if_neg (show ¬ nI 15 = (0 : Int32) by decide), if_neg (show ¬ nI 15 = (1 : Int32) by decide), if_neg (show ¬ nI 15 = (2 : Int32) by decide), if_neg (show ¬ nI 15 = (3 : Int32) by decide), if_neg (show ¬ nI 15 = (4 : Int32) by decide), if_neg (show ¬ nI 15 = (5 : Int32) by decide), if_neg (show ¬ nI 15 = (6 : Int32) by decide), if_neg (show ¬ nI 15 = (7 : Int32) by decide), if_neg (show ¬ nI 15 = (8 : Int32) by decide), if_neg (show ¬ nI 15 = (9 : Int32) by decide), if_neg (show ¬ nI 15 = (10 : Int32) by decide), if_neg (show ¬ nI 15 = (11 : Int32) by decide), if_neg (show ¬ nI 15 = (12 : Int32) by decide), if_neg (show ¬ nI 15 = (13 : Int32) by decide), if_neg (show ¬ nI 15 = (14 : Int32) by decide), if_pos (show nI 15 = (15 : Int32) from rfl), y3]
    · refine OpOK_b (SI ρ (Y + 1) 0) h ?_ ?_
      · unfold f_Trail_count
        simp only [bd_, lt_, e_within, rX_0_0 hX, rX_0_3 hX, rW_0_0 hW, rW_0_1 hW, rW_0_2 hW, rW_0_3 hW, rW_0_4 hW, rW_0_5 hW, cK_of (kX_0 hX), cK_of (kX_160 hX), cK_of (kW_0 hW), cK_of (kW_1 hW), cK_of (kW_11 hW), cK_of (kW_15 hW), cK_of (kW_21 hW), cK_of (kW_28 hW), cK_of (kW_35 hW), Bool.and_true, e_firesOn hW p2 p5, e_openInAll hW b1 b2, e_walkState hW w1 w2, i10, if_false, if_true, inR_e0 (show ¬ ((4 : Int32) ≤ nI 16 ∧ nI 16 ≤ 7) by decide), if_neg (show ¬ nI 16 = (0 : Int32) by decide), if_neg (show ¬ nI 16 = (1 : Int32) by decide), if_neg (show ¬ nI 16 = (2 : Int32) by decide), if_neg (show ¬ nI 16 = (3 : Int32) by decide), if_neg (show ¬ nI 16 = (8 : Int32) by decide), if_neg (show ¬ nI 16 = (9 : Int32) by decide), if_neg (show ¬ nI 16 = (10 : Int32) by decide), if_neg (show ¬ nI 16 = (11 : Int32) by decide), if_neg (show ¬ nI 16 = (12 : Int32) by decide), if_neg (show ¬ nI 16 = (13 : Int32) by decide), if_neg (show ¬ nI 16 = (14 : Int32) by decide), if_neg (show ¬ nI 16 = (15 : Int32) by decide), if_pos (show nI 16 = (16 : Int32) from rfl), d1]
      · show f_Model_count Y (nI 16) true (stn ρ (Shn σ)) = _
        unfold f_Model_count
        simp only [bd_, lt_, rY_0 hY, cK_of (kY_0 hY), Bool.and_true, SI_stn, cYk hY 0 (v := 0) rfl (by decide), show ix (0 : Int32) = 0 from rfl, cYk hY 1 (v := 1) rfl (by decide), show ix (1 : Int32) = 1 from rfl, cYk hY 2 (v := 2) rfl (by decide), show ix (2 : Int32) = 2 from rfl, cYk hY 3 (v := 3) rfl (by decide), show ix (3 : Int32) = 3 from rfl, cYk hY 4 (v := 4) rfl (by decide), show ix (4 : Int32) = 4 from rfl, cYk hY 5 (v := 5) rfl (by decide), show ix (5 : Int32) = 5 from rfl, cYk hY 6 (v := 6) rfl (by decide), show ix (6 : Int32) = 6 from rfl, cYk hY 7 (v := 7) rfl (by decide), show ix (7 : Int32) = 7 from rfl, cYk hY 8 (v := 8) rfl (by decide), show ix (8 : Int32) = 8 from rfl, cYk hY 9 (v := 9) rfl (by decide), show ix (9 : Int32) = 9 from rfl, if_neg (show ¬ nI 16 = (0 : Int32) by decide), if_neg (show ¬ nI 16 = (1 : Int32) by decide), if_neg (show ¬ nI 16 = (2 : Int32) by decide), if_neg (show ¬ nI 16 = (3 : Int32) by decide), if_neg (show ¬ nI 16 = (4 : Int32) by decide), if_neg (show ¬ nI 16 = (5 : Int32) by decide), if_neg (show ¬ nI 16 = (6 : Int32) by decide), if_neg (show ¬ nI 16 = (7 : Int32) by decide), if_neg (show ¬ nI 16 = (8 : Int32) by decide), if_neg (show ¬ nI 16 = (9 : Int32) by decide), if_neg (show ¬ nI 16 = (10 : Int32) by decide), if_neg (show ¬ nI 16 = (11 : Int32) by decide), if_neg (show ¬ nI 16 = (12 : Int32) by decide), if_neg (show ¬ nI 16 = (13 : Int32) by decide), if_neg (show ¬ nI 16 = (14 : Int32) by decide), if_neg (show ¬ nI 16 = (15 : Int32) by decide), if_pos (show nI 16 = (16 : Int32) from rfl)]
    · refine OpOK_b (SI ρ (Y + 1) 1) h ?_ ?_
      · unfold f_Trail_count
        simp only [bd_, lt_, e_within, rX_0_0 hX, rX_0_3 hX, rW_0_0 hW, rW_0_1 hW, rW_0_2 hW, rW_0_3 hW, rW_0_4 hW, rW_0_5 hW, cK_of (kX_0 hX), cK_of (kX_160 hX), cK_of (kW_0 hW), cK_of (kW_1 hW), cK_of (kW_11 hW), cK_of (kW_15 hW), cK_of (kW_21 hW), cK_of (kW_28 hW), cK_of (kW_35 hW), Bool.and_true, e_firesOn hW p2 p5, e_openInAll hW b1 b2, e_walkState hW w1 w2, i10, if_false, if_true, inR_e0 (show ¬ ((4 : Int32) ≤ nI 17 ∧ nI 17 ≤ 7) by decide), if_neg (show ¬ nI 17 = (0 : Int32) by decide), if_neg (show ¬ nI 17 = (1 : Int32) by decide), if_neg (show ¬ nI 17 = (2 : Int32) by decide), if_neg (show ¬ nI 17 = (3 : Int32) by decide), if_neg (show ¬ nI 17 = (8 : Int32) by decide), if_neg (show ¬ nI 17 = (9 : Int32) by decide), if_neg (show ¬ nI 17 = (10 : Int32) by decide), if_neg (show ¬ nI 17 = (11 : Int32) by decide), if_neg (show ¬ nI 17 = (12 : Int32) by decide), if_neg (show ¬ nI 17 = (13 : Int32) by decide), if_neg (show ¬ nI 17 = (14 : Int32) by decide), if_neg (show ¬ nI 17 = (15 : Int32) by decide), if_neg (show ¬ nI 17 = (16 : Int32) by decide), if_pos (show nI 17 = (17 : Int32) from rfl), p7]
      · show f_Model_count Y (nI 17) true (stn ρ (Shn σ)) = _
        unfold f_Model_count
        simp only [bd_, lt_, rY_0 hY, cK_of (kY_0 hY), Bool.and_true, SI_stn, cYk hY 0 (v := 0) rfl (by decide), show ix (0 : Int32) = 0 from rfl, cYk hY 1 (v := 1) rfl (by decide), show ix (1 : Int32) = 1 from rfl, cYk hY 2 (v := 2) rfl (by decide), show ix (2 : Int32) = 2 from rfl, cYk hY 3 (v := 3) rfl (by decide), show ix (3 : Int32) = 3 from rfl, cYk hY 4 (v := 4) rfl (by decide), show ix (4 : Int32) = 4 from rfl, cYk hY 5 (v := 5) rfl (by decide), show ix (5 : Int32) = 5 from rfl, cYk hY 6 (v := 6) rfl (by decide), show ix (6 : Int32) = 6 from rfl, cYk hY 7 (v := 7) rfl (by decide), show ix (7 : Int32) = 7 from rfl, cYk hY 8 (v := 8) rfl (by decide), show ix (8 : Int32) = 8 from rfl, cYk hY 9 (v := 9) rfl (by decide), show ix (9 : Int32) = 9 from rfl, if_neg (show ¬ nI 17 = (0 : Int32) by decide), if_neg (show ¬ nI 17 = (1 : Int32) by decide), if_neg (show ¬ nI 17 = (2 : Int32) by decide), if_neg (show ¬ nI 17 = (3 : Int32) by decide), if_neg (show ¬ nI 17 = (4 : Int32) by decide), if_neg (show ¬ nI 17 = (5 : Int32) by decide), if_neg (show ¬ nI 17 = (6 : Int32) by decide), if_neg (show ¬ nI 17 = (7 : Int32) by decide), if_neg (show ¬ nI 17 = (8 : Int32) by decide), if_neg (show ¬ nI 17 = (9 : Int32) by decide), if_neg (show ¬ nI 17 = (10 : Int32) by decide), if_neg (show ¬ nI 17 = (11 : Int32) by decide), if_neg (show ¬ nI 17 = (12 : Int32) by decide), if_neg (show ¬ nI 17 = (13 : Int32) by decide), if_neg (show ¬ nI 17 = (14 : Int32) by decide), if_neg (show ¬ nI 17 = (15 : Int32) by decide), if_neg (show ¬ nI 17 = (16 : Int32) by decide), if_pos (show nI 17 = (17 : Int32) from rfl)]
  · have hv2 : ¬ ((4 : Int32) ≤ v ∧ v ≤ 7) := fun z => hv ⟨Int32.le_trans (by decide) z.1, Int32.le_trans z.2 (by decide)⟩
    refine OpOK_b (-1000000001) h ?_ ?_
    · unfold f_Trail_count
      simp only [bd_, lt_, e_within, inR_e0 hv2, if_true, if_neg (show ¬ v = (0 : Int32) from fun e => hv (by rw [e]; decide)), if_neg (show ¬ v = (1 : Int32) from fun e => hv (by rw [e]; decide)), if_neg (show ¬ v = (2 : Int32) from fun e => hv (by rw [e]; decide)), if_neg (show ¬ v = (3 : Int32) from fun e => hv (by rw [e]; decide)), if_neg (show ¬ v = (8 : Int32) from fun e => hv (by rw [e]; decide)), if_neg (show ¬ v = (9 : Int32) from fun e => hv (by rw [e]; decide)), if_neg (show ¬ v = (10 : Int32) from fun e => hv (by rw [e]; decide)), if_neg (show ¬ v = (11 : Int32) from fun e => hv (by rw [e]; decide)), if_neg (show ¬ v = (12 : Int32) from fun e => hv (by rw [e]; decide)), if_neg (show ¬ v = (13 : Int32) from fun e => hv (by rw [e]; decide)), if_neg (show ¬ v = (14 : Int32) from fun e => hv (by rw [e]; decide)), if_neg (show ¬ v = (15 : Int32) from fun e => hv (by rw [e]; decide)), if_neg (show ¬ v = (16 : Int32) from fun e => hv (by rw [e]; decide)), if_neg (show ¬ v = (17 : Int32) from fun e => hv (by rw [e]; decide))]
    · show f_Model_count Y v true (stn ρ (Shn σ)) = _
      unfold f_Model_count
      simp only [lt_, if_neg (show ¬ v = (0 : Int32) from fun e => hv (by rw [e]; decide)), if_neg (show ¬ v = (1 : Int32) from fun e => hv (by rw [e]; decide)), if_neg (show ¬ v = (2 : Int32) from fun e => hv (by rw [e]; decide)), if_neg (show ¬ v = (3 : Int32) from fun e => hv (by rw [e]; decide)), if_neg (show ¬ v = (4 : Int32) from fun e => hv (by rw [e]; decide)), if_neg (show ¬ v = (5 : Int32) from fun e => hv (by rw [e]; decide)), if_neg (show ¬ v = (6 : Int32) from fun e => hv (by rw [e]; decide)), if_neg (show ¬ v = (7 : Int32) from fun e => hv (by rw [e]; decide)), if_neg (show ¬ v = (8 : Int32) from fun e => hv (by rw [e]; decide)), if_neg (show ¬ v = (9 : Int32) from fun e => hv (by rw [e]; decide)), if_neg (show ¬ v = (10 : Int32) from fun e => hv (by rw [e]; decide)), if_neg (show ¬ v = (11 : Int32) from fun e => hv (by rw [e]; decide)), if_neg (show ¬ v = (12 : Int32) from fun e => hv (by rw [e]; decide)), if_neg (show ¬ v = (13 : Int32) from fun e => hv (by rw [e]; decide)), if_neg (show ¬ v = (14 : Int32) from fun e => hv (by rw [e]; decide)), if_neg (show ¬ v = (15 : Int32) from fun e => hv (by rw [e]; decide)), if_neg (show ¬ v = (16 : Int32) from fun e => hv (by rw [e]; decide)), if_neg (show ¬ v = (17 : Int32) from fun e => hv (by rw [e]; decide))]
end OP17
