/-! the simple calls, on -/
section OP2
variable {X Y : Nat} {σ ρ : Sto}
/-- nobody's number -/
theorem REL_now2 (h : REL X Y σ ρ) : RWd X σ (X + 1) (SI ρ (Y + 1)) := h.2.2.2.2.2.1
theorem i32_bd {v a c : Int32} (h : a ≤ v ∧ v ≤ c) : bd v a.toInt c.toInt := ⟨Int32.le_iff_toInt_le.mp h.1, Int32.le_iff_toInt_le.mp h.2⟩
theorem op_25 : Op_25 X Y (REL X Y) := by
  intro a v σ ρ h
  have hX := h.2.2.1
  have hY := h.2.2.2.1
  have hW := hX.2.1
  by_cases ha : (0 : Int32) ≤ a ∧ a ≤ 6
  · by_cases hv : (0 : Int32) ≤ v ∧ v ≤ 9
    · obtain ⟨j, hj, rfl⟩ := in_nat (n := 6) rfl (by decide) ha.1 ha.2
      obtain ⟨nq, r1, r2, r3, r4, r5⟩ := (REL_now2 h).2.2.1
      refine OpOK_i (SI σ (X + 1 + 22) j) (pI σ (X + 1 + 22) j v) (pI (stn ρ (Shn σ)) (Y + 1) (14 + j) v) ?_ ?_ rfl ?_
      · unfold f_Trail_quota
        simp only [bd_, lt_, e_within, inR_e1 ha, inR_e1 hv, i10, if_false, rX_0_0 hX, rW_0_3 hW, rW_21_0 hW, cK_of (kX_0 hX), cK_of (kW_0 hW), cK_of (kW_21 hW), cA_of (kW_22 hW) (nW_22 hW) (show j < 7 by omega) (by decide), ix_nI (show j < 2 ^ 31 by omega), Bool.and_true]
      · show f_Model_quota Y (nI j) v true (stn ρ (Shn σ)) = _
        have hY2 : LayY Y (stn ρ (Shn σ)) := hY
        unfold f_Model_quota
        simp only [bd_, lt_, e_isInL (nI j) 0 6 0 6 rfl rfl, e_isInL v 0 9 0 9 rfl rfl, inR_e1 ha, inR_e1 hv, i10, if_false, cK_of (kY_0 hY2), Bool.and_true, show (14 : Int32) + nI j = nI (14 + j) from nI_add 14 j, e_becomes hY2 (14 + j) (by omega)]
        rw [(r5 j (by omega)).1]; rfl
      · refine REL_W h rfl (SB_p SB_0 (by omega) (by omega)) (SB_p SB_n (by omega) (by omega)) (RWd_Q (REL_now2 h) (by omega) rfl (SB_p SB_0 (by omega) (by omega)) (fun i hi => up2_nj (by omega)) ?_)
        refine ⟨nq, r1, ?_, ?_, fun k hk => ?_, fun k hk => ?_⟩
        · show up2 (SI σ) (X + 1 + 22) j v (X + 1 + 21) 3 = _
          rw [up2_ne' (by omega)]; exact r2
        · show up2 (SI ρ) (Y + 1) (14 + j) v (Y + 1) 7 = _
          rw [up2_nj (by omega)]; exact r3
        · show up2 (SI σ) (X + 1 + 22) j v (X + 1 + 23) k = up2 (SI ρ) (Y + 1) (14 + j) v (Y + 1) (440 + 2 * k) ∧ up2 (SI σ) (X + 1 + 22) j v (X + 1 + 24) k = up2 (SI ρ) (Y + 1) (14 + j) v (Y + 1) (441 + 2 * k) ∧ bd (up2 (SI ρ) (Y + 1) (14 + j) v (Y + 1) (440 + 2 * k)) 0 999 ∧ bd (up2 (SI ρ) (Y + 1) (14 + j) v (Y + 1) (441 + 2 * k)) 0 9
          rw [up2_ne' (show X + 1 + 23 ≠ X + 1 + 22 by omega), up2_ne' (show X + 1 + 24 ≠ X + 1 + 22 by omega), up2_nj (show 440 + 2 * k ≠ 14 + j by omega), up2_nj (show 441 + 2 * k ≠ 14 + j by omega)]
          exact r4 k hk
        · show up2 (SI σ) (X + 1 + 22) j v (X + 1 + 22) k = up2 (SI ρ) (Y + 1) (14 + j) v (Y + 1) (14 + k) ∧ bd (up2 (SI ρ) (Y + 1) (14 + j) v (Y + 1) (14 + k)) 0 9
          by_cases e : k = j
          · subst e
            rw [up2_s, up2_s]
            exact ⟨rfl, i32_bd hv⟩
          · rw [up2_nj e, up2_nj (by omega)]
            exact r5 k hk
    · refine OpOK_b (-1000000001) h ?_ ?_
      · unfold f_Trail_quota
        simp only [bd_, lt_, e_within, inR_e1 ha, inR_e0 hv, i10, if_false, if_true]
      · show f_Model_quota Y a v true (stn ρ (Shn σ)) = _
        unfold f_Model_quota
        simp only [bd_, lt_, e_isInL a 0 6 0 6 rfl rfl, e_isInL v 0 9 0 9 rfl rfl, inR_e1 ha, inR_e0 hv, i10, if_false, if_true]
  · refine OpOK_b (-1000000001) h ?_ ?_
    · unfold f_Trail_quota
      simp only [bd_, lt_, e_within, inR_e0 ha, if_true]
    · show f_Model_quota Y a v true (stn ρ (Shn σ)) = _
      unfold f_Model_quota
      simp only [bd_, lt_, e_isInL a 0 6 0 6 rfl rfl, inR_e0 ha, if_true]
theorem op_22 : Op_22 X Y (REL X Y) := by
  intro a v σ ρ h
  have hX := h.2.2.1
  have hY : LayY Y (stn ρ (Shn σ)) := h.2.2.2.1
  have hW := hX.2.1
  obtain ⟨nb, r1, r2, r3, r4⟩ := (REL_now2 h).2.2.2.2.2.1
  have r3' : SI (stn ρ (Shn σ)) (Y + 1) 6 = nI nb := r3
  by_cases ha : (0 : Int32) ≤ a ∧ a ≤ nI nb - 1
  · obtain ⟨k, hk, rfl⟩ := in_idx (by omega) ha
    obtain ⟨b0, b1, b2, b3, b4, -⟩ := r4 k hk
    have eC : f_Trail_boxTold X (nI k) v true σ = (if v = 0 then SI σ (X + 1 + 16) k else if v = 1 then SI σ (X + 1 + 17) k else if v = 2 then SI σ (X + 1 + 18) k else if v = 3 then SI σ (X + 1 + 19) k else if v = 4 then SI σ (X + 1 + 20) k else -1000000001, true, σ) := by
      unfold f_Trail_boxTold
      simp only [bd_, lt_, rX_0_0 hX, rW_0_2 hW, cK_of (kX_0 hX), cK_of (kW_0 hW), cK_of (kW_15 hW), Bool.and_true, e_hasBox (kW_15 hW), r2, inR_e1 ha, i10, if_false, rW_15_0 hW, rW_15_1 hW, rW_15_2 hW, rW_15_3 hW, rW_15_4 hW, cA_of (kW_16 hW) (nW_16 hW) (show k < 20 by omega) (by decide), cA_of (kW_17 hW) (nW_17 hW) (show k < 20 by omega) (by decide), cA_of (kW_18 hW) (nW_18 hW) (show k < 20 by omega) (by decide), cA_of (kW_19 hW) (nW_19 hW) (show k < 20 by omega) (by decide), cA_of (kW_20 hW) (nW_20 hW) (show k < 20 by omega) (by decide), ix_nI (show k < 2 ^ 31 by omega)]
      repeat' split
      all_goals rfl
    by_cases hv : (0 : Int32) ≤ v ∧ v ≤ 4
    · obtain ⟨m, hm, rfl⟩ := in_nat (n := 4) rfl (by decide) hv.1 hv.2
      have eR : f_Model_boxTold Y (nI k) (nI m) true (stn ρ (Shn σ)) = (SI ρ (Y + 1) (340 + 5 * k + m), true, stn ρ (Shn σ)) := by
        unfold f_Model_boxTold
        simp only [bd_, lt_, rY_0 hY, cK_of (kY_0 hY), cYk hY 6 (v := 6) rfl (by decide), show ix (6 : Int32) = 6 from rfl, r3', e_isInL (nI k) 0 _ 0 (nI nb - 1) rfl rfl, e_isInL (nI m) 0 4 0 4 rfl rfl, inR_e1 ha, inR_e1 hv, i10, if_false, e_boxAt, nI_add, cY hY (show 340 + 5 * k + m < 3210 by omega), ix_nI (show 340 + 5 * k + m < 2 ^ 31 by omega), Bool.and_true]
        rfl
      refine OpOK_b (SI ρ (Y + 1) (340 + 5 * k + m)) h ?_ eR
      rw [eC]
      clear eC eR hv
      rcases (show m = 0 ∨ m = 1 ∨ m = 2 ∨ m = 3 ∨ m = 4 by omega) with rfl | rfl | rfl | rfl | rfl
      · rw [if_pos (show nI 0 = 0 from rfl), b0]; rfl
      · rw [if_neg (show ¬ nI 1 = 0 by decide), if_pos (show nI 1 = 1 from rfl), b1, show 341 + 5 * k = 340 + 5 * k + 1 by omega]
      · rw [if_neg (show ¬ nI 2 = 0 by decide), if_neg (show ¬ nI 2 = 1 by decide), if_pos (show nI 2 = 2 from rfl), b2, show 342 + 5 * k = 340 + 5 * k + 2 by omega]
      · rw [if_neg (show ¬ nI 3 = 0 by decide), if_neg (show ¬ nI 3 = 1 by decide), if_neg (show ¬ nI 3 = 2 by decide), if_pos (show nI 3 = 3 from rfl), b3, show 343 + 5 * k = 340 + 5 * k + 3 by omega]
      · rw [if_neg (show ¬ nI 4 = 0 by decide), if_neg (show ¬ nI 4 = 1 by decide), if_neg (show ¬ nI 4 = 2 by decide), if_neg (show ¬ nI 4 = 3 by decide), if_pos (show nI 4 = 4 from rfl), b4, show 344 + 5 * k = 340 + 5 * k + 4 by omega]
    · refine OpOK_b (-1000000001) h ?_ ?_
      · rw [eC, if_neg (fun e => hv (by rw [e]; decide)), if_neg (fun e => hv (by rw [e]; decide)), if_neg (fun e => hv (by rw [e]; decide)), if_neg (fun e => hv (by rw [e]; decide)), if_neg (fun e => hv (by rw [e]; decide))]
      · show f_Model_boxTold Y (nI k) v true (stn ρ (Shn σ)) = _
        unfold f_Model_boxTold
        simp only [bd_, lt_, rY_0 hY, cK_of (kY_0 hY), cYk hY 6 (v := 6) rfl (by decide), show ix (6 : Int32) = 6 from rfl, r3', e_isInL (nI k) 0 _ 0 (nI nb - 1) rfl rfl, e_isInL v 0 4 0 4 rfl rfl, inR_e1 ha, inR_e0 hv, i10, if_false, if_true, Bool.and_true]
  · refine OpOK_b (-1000000001) h ?_ ?_
    · unfold f_Trail_boxTold
      simp only [bd_, lt_, rX_0_0 hX, rW_0_2 hW, cK_of (kX_0 hX), cK_of (kW_0 hW), cK_of (kW_15 hW), Bool.and_true, e_hasBox (kW_15 hW), r2, inR_e0 ha, if_true]
    · show f_Model_boxTold Y a v true (stn ρ (Shn σ)) = _
      unfold f_Model_boxTold
      simp only [bd_, lt_, rY_0 hY, cK_of (kY_0 hY), cYk hY 6 (v := 6) rfl (by decide), show ix (6 : Int32) = 6 from rfl, r3', e_isInL a 0 _ 0 (nI nb - 1) rfl rfl, inR_e0 ha, if_true, Bool.and_true]
end OP2
