/-! pictures, texts told, lands -/
section OP6
variable {X Y : Nat} {σ ρ : Sto}
theorem op_34 : Op_34 X Y (REL X Y) := by
  intro a v σ ρ h
  have hX := h.2.2.1
  have hY : LayY Y (stn ρ (Shn σ)) := h.2.2.2.1
  have hW := hX.2.1
  obtain ⟨np, nf, p1, p2, p3, p4, p5, p6, p7, p8, p9, p10, p11, p12⟩ := (REL_now2 h).2.1
  obtain ⟨nq, r1, r2, r3, r4⟩ := (REL_now2 h).2.2.2.2.1
  have r3' : SI (stn ρ (Shn σ)) (Y + 1) 9 = nI nq := r3
  have e1' : SI (stn ρ (Shn σ)) (Y + 1) 1 = SI ρ (Y + 1) 1 := rfl
  by_cases ha : (0 : Int32) ≤ a ∧ a ≤ 999
  · by_cases hv : (0 : Int32) ≤ v ∧ v ≤ SI ρ (Y + 1) 1
    · by_cases hq : nq < 20
      · have hlt : nI nq < (20 : Int32) := nI_lt (b := 20) hq (by decide)
        have hne : ¬ nI nq = (20 : Int32) := fun e => by have := (nI_eq (b := 20) (by omega) (by decide)).mp e; omega
        refine OpOK_i (nI nq) (pI (pI (pI σ (X + 1 + 36) nq a) (X + 1 + 37) nq v) (X + 1 + 35) 2 (nI nq + 1)) (pI (pI (pI (stn ρ (Shn σ)) (Y + 1) (520 + 2 * nq) a) (Y + 1) (520 + 2 * nq + 1) v) (Y + 1) 9 (nI nq + 1)) ?_ ?_ rfl ?_
        · have n1 : X + 1 + 35 ≠ X + 1 + 36 := by omega
          have n2 : X + 1 + 35 ≠ X + 1 + 37 := by omega
          unfold f_Trail_picture f_Album_addPicture
          simp only [bd_, lt_, e_within, inR_e1 ha, i10, if_false, rX_0_0 hX, rW_0_0 hW, rW_0_5 hW, cK_of (kX_0 hX), cK_of (kW_0 hW), cK_of (kW_1 hW), Bool.and_true, e_hasMile (kW_1 hW), p7, inR_e1 hv, r2, if_pos hlt, SR_pI, rW_35_0 hW, rW_35_1 hW, cK_pI, cA_pI, cK_of (kW_35 hW), SI_pI, up2_ne' n1, up2_ne' n2, up2_s, ix_nI (show nq < 2 ^ 31 by omega), cA_of (kW_36 hW) (nW_36 hW) hq (by decide), cA_of (kW_37 hW) (nW_37 hW) hq (by decide), Int32.add_sub_cancel]
        · show f_Model_picture Y a v true (stn ρ (Shn σ)) = _
          have n1 : (9 : Nat) ≠ 520 + 2 * nq := by omega
          have n2 : (9 : Nat) ≠ 520 + 2 * nq + 1 := by omega
          unfold f_Model_picture
          simp only [bd_, lt_, e_isInL a 0 999 0 999 rfl rfl, inR_e1 ha, i10, if_false, cK_of (kY_0 hY), Bool.and_true, e_isMile hY, e1', inR_e1 hv, rY_0 hY, show ix (9 : Int32) = 9 from rfl, r3', if_neg hne, SR_pI, cK_pI, cA_pI, cYk hY 9 (v := 9) rfl (by decide), SI_pI, up2_nj n1, up2_nj n2, up2_s, show (520 : Int32) + 2 * nI nq = nI (520 + 2 * nq) from ar2 520 2 nq, nI_p1 (520 + 2 * nq), ix_nI (show 520 + 2 * nq < 2 ^ 31 by omega), ix_nI (show 520 + 2 * nq + 1 < 2 ^ 31 by omega), cY hY (show 520 + 2 * nq < 3210 by omega), cY hY (show 520 + 2 * nq + 1 < 3210 by omega), Int32.add_sub_cancel]
        · refine REL_W h rfl (SB_p (SB_p (SB_p SB_0 (by omega) (by omega)) (by omega) (by omega)) (by omega) (by omega)) (SB_p (SB_p (SB_p SB_n (by omega) (by omega)) (by omega) (by omega)) (by omega) (by omega)) (RWd_A (REL_now2 h) (by omega) rfl (SB_p (SB_p (SB_p SB_0 (by omega) (by omega)) (by omega) (by omega)) (by omega) (by omega)) (fun i hi => ?_) ?_)
          · rw [SI_pI, up2_nj (by omega), SI_pI, up2_nj (by omega), SI_pI, up2_nj (by omega)]; rfl
          · refine ⟨nq + 1, hq, ?_, ?_, fun k hk => ?_⟩
            · rw [SI_pI, up2_s, nI_1]
            · rw [SI_pI, up2_s, nI_1]
            · have e0 : SI (pI (pI (pI (stn ρ (Shn σ)) (Y + 1) (520 + 2 * nq) a) (Y + 1) (520 + 2 * nq + 1) v) (Y + 1) 9 (nI nq + 1)) (Y + 1) 1 = SI ρ (Y + 1) 1 := by
                rw [SI_pI, up2_nj (by omega), SI_pI, up2_nj (by omega), SI_pI, up2_nj (by omega)]; rfl
              have e1 : SI (pI (pI (pI (stn ρ (Shn σ)) (Y + 1) (520 + 2 * nq) a) (Y + 1) (520 + 2 * nq + 1) v) (Y + 1) 9 (nI nq + 1)) (Y + 1) (520 + 2 * k) = if k = nq then a else SI ρ (Y + 1) (520 + 2 * k) := by
                rw [SI_pI, up2_nj (by omega), SI_pI, up2_nj (by omega), SI_pI]
                by_cases e : k = nq
                · rw [if_pos e, e, up2_s]
                · rw [if_neg e, up2_nj (by omega)]; rfl
              have e2 : SI (pI (pI (pI (stn ρ (Shn σ)) (Y + 1) (520 + 2 * nq) a) (Y + 1) (520 + 2 * nq + 1) v) (Y + 1) 9 (nI nq + 1)) (Y + 1) (521 + 2 * k) = if k = nq then v else SI ρ (Y + 1) (521 + 2 * k) := by
                rw [SI_pI, up2_nj (by omega), SI_pI]
                by_cases e : k = nq
                · rw [if_pos e, e, show 521 + 2 * nq = 520 + 2 * nq + 1 by omega, up2_s]
                · rw [if_neg e, up2_nj (by omega), SI_pI, up2_nj (by omega)]; rfl
              have e3 : SI (pI (pI (pI σ (X + 1 + 36) nq a) (X + 1 + 37) nq v) (X + 1 + 35) 2 (nI nq + 1)) (X + 1 + 36) k = if k = nq then a else SI σ (X + 1 + 36) k := by
                rw [SI_pI, up2_ne' (by omega), SI_pI, up2_ne' (by omega), SI_pI]
                by_cases e : k = nq
                · rw [if_pos e, e, up2_s]
                · rw [if_neg e, up2_nj e]
              have e4 : SI (pI (pI (pI σ (X + 1 + 36) nq a) (X + 1 + 37) nq v) (X + 1 + 35) 2 (nI nq + 1)) (X + 1 + 37) k = if k = nq then v else SI σ (X + 1 + 37) k := by
                rw [SI_pI, up2_ne' (by omega), SI_pI]
                by_cases e : k = nq
                · rw [if_pos e, e, up2_s]
                · rw [if_neg e, up2_nj e, SI_pI, up2_ne' (by omega)]
              rw [e0, e1, e2, e3, e4]
              by_cases e : k = nq
              · simp only [if_pos e]
                exact ⟨trivial, trivial, i32_bd ha, i32_bd hv⟩
              · simp only [if_neg e]
                exact r4 k (by omega)
      · have hq' : nq = 20 := by omega
        subst hq'
        refine OpOK_b (-1000000003) h ?_ ?_
        · unfold f_Trail_picture
          simp only [bd_, lt_, e_within, inR_e1 ha, i10, if_false, rX_0_0 hX, rW_0_0 hW, rW_0_5 hW, cK_of (kX_0 hX), cK_of (kW_0 hW), cK_of (kW_1 hW), cK_of (kW_35 hW), Bool.and_true, e_hasMile (kW_1 hW), p7, inR_e1 hv, r2, if_neg (show ¬ nI 20 < (20 : Int32) by decide)]
        · show f_Model_picture Y a v true (stn ρ (Shn σ)) = _
          unfold f_Model_picture
          simp only [bd_, lt_, e_isInL a 0 999 0 999 rfl rfl, inR_e1 ha, i10, if_false, cK_of (kY_0 hY), Bool.and_true, e_isMile hY, e1', inR_e1 hv, rY_0 hY, show ix (9 : Int32) = 9 from rfl, r3', if_pos (show nI 20 = (20 : Int32) from rfl), cYk hY 9 (v := 9) rfl (by decide)]
    · refine OpOK_b (-1000000001) h ?_ ?_
      · unfold f_Trail_picture
        simp only [bd_, lt_, e_within, inR_e1 ha, i10, if_false, if_true, rX_0_0 hX, rW_0_0 hW, cK_of (kX_0 hX), cK_of (kW_0 hW), cK_of (kW_1 hW), Bool.and_true, e_hasMile (kW_1 hW), p7, inR_e0 hv]
      · show f_Model_picture Y a v true (stn ρ (Shn σ)) = _
        unfold f_Model_picture
        simp only [bd_, lt_, e_isInL a 0 999 0 999 rfl rfl, inR_e1 ha, i10, if_false, if_true, cK_of (kY_0 hY), Bool.and_true, e_isMile hY, e1', inR_e0 hv]
  · refine OpOK_b (-1000000001) h ?_ ?_
    · unfold f_Trail_picture
      simp only [bd_, lt_, e_within, inR_e0 ha, if_true]
    · show f_Model_picture Y a v true (stn ρ (Shn σ)) = _
      unfold f_Model_picture
      simp only [bd_, lt_, e_isInL a 0 999 0 999 rfl rfl, inR_e0 ha, if_true]
theorem op_13 : Op_13 X Y (REL X Y) := by
  intro a v σ ρ h
  have hX := h.2.2.1
  have hY : LayY Y (stn ρ (Shn σ)) := h.2.2.2.1
  have hW := hX.2.1
  obtain ⟨nt, r1, r2, r3, r4, r5⟩ := (REL_now2 h).2.2.2.2.2.2.2
  have r3' : SI (stn ρ (Shn σ)) (Y + 1) 4 = nI nt := r3
  by_cases ha : (0 : Int32) ≤ a ∧ a ≤ nI nt - 1
  · obtain ⟨k, hk, rfl⟩ := in_idx (by omega) ha
    obtain ⟨t1, t2, t3, t4, g0, g1, g2, g3, g4, -⟩ := r5 k hk
    have hne : ¬ SR σ (X + 1 + 12) k = 0 := by omega
    have eC : f_Trail_of X (nI k) v true σ = (if v = 0 then SI σ (SR σ (X + 1 + 12) k) 0 else if v = 1 then SI σ (SR σ (X + 1 + 12) k) 1 else if v = 2 then SI σ (SR σ (X + 1 + 12) k) 2 else if v = 3 then SI σ (SR σ (X + 1 + 12) k) 3 else -1000000001, true, σ) := by
      unfold f_Trail_of f_Laws_textOf
      simp only [bd_, lt_, rX_0_0 hX, rW_0_1 hW, cK_of (kX_0 hX), cK_of (kW_0 hW), cK_of (kW_11 hW), Bool.and_true, e_within, r2, inR_e1 ha, i10, if_false, rW_11_0 hW, cA_of (kW_12 hW) (nW_12 hW) (show k < 12 by omega) (by decide), ix_nI (show k < 2 ^ 31 by omega), if_neg hne, cK_of g0, if_pair]
    by_cases hv : (0 : Int32) ≤ v ∧ v ≤ 3
    · obtain ⟨m, hm, rfl⟩ := in_nat (n := 3) rfl (by decide) hv.1 hv.2
      have eR : f_Model_of Y (nI k) (nI m) true (stn ρ (Shn σ)) = (SI ρ (Y + 1) (600 + 200 * k + m), true, stn ρ (Shn σ)) := by
        unfold f_Model_of
        simp only [bd_, lt_, rY_0 hY, cK_of (kY_0 hY), e_isText hY, r3', e_isInL (nI m) 0 3 0 3 rfl rfl, inR_e1 ha, inR_e1 hv, i10, if_false, e_textAt, nI_add, cY hY (show 600 + 200 * k + m < 3210 by omega), ix_nI (show 600 + 200 * k + m < 2 ^ 31 by omega), Bool.and_true]
        rfl
      refine OpOK_b (SI ρ (Y + 1) (600 + 200 * k + m)) h ?_ eR
      rw [eC]
      clear eC eR hv
      rcases (show m = 0 ∨ m = 1 ∨ m = 2 ∨ m = 3 by omega) with rfl | rfl | rfl | rfl
      · rw [if_pos (show nI 0 = 0 from rfl), g1]; rfl
      · rw [if_neg (show ¬ nI 1 = 0 by decide), if_pos (show nI 1 = 1 from rfl), g2]
      · rw [if_neg (show ¬ nI 2 = 0 by decide), if_neg (show ¬ nI 2 = 1 by decide), if_pos (show nI 2 = 2 from rfl), g3]
      · rw [if_neg (show ¬ nI 3 = 0 by decide), if_neg (show ¬ nI 3 = 1 by decide), if_neg (show ¬ nI 3 = 2 by decide), if_pos (show nI 3 = 3 from rfl), g4]
    · refine OpOK_b (-1000000001) h ?_ ?_
      · rw [eC, if_neg (fun e => hv (by rw [e]; decide)), if_neg (fun e => hv (by rw [e]; decide)), if_neg (fun e => hv (by rw [e]; decide)), if_neg (fun e => hv (by rw [e]; decide))]
      · show f_Model_of Y (nI k) v true (stn ρ (Shn σ)) = _
        unfold f_Model_of
        simp only [bd_, lt_, cK_of (kY_0 hY), e_isText hY, r3', e_isInL v 0 3 0 3 rfl rfl, inR_e1 ha, inR_e0 hv, i10, if_false, if_true, Bool.and_true]
  · refine OpOK_b (-1000000001) h ?_ ?_
    · unfold f_Trail_of f_Laws_textOf
      simp only [bd_, lt_, rX_0_0 hX, rW_0_1 hW, cK_of (kX_0 hX), cK_of (kW_0 hW), cK_of (kW_11 hW), Bool.and_true, e_within, r2, inR_e0 ha, if_true]
    · show f_Model_of Y a v true (stn ρ (Shn σ)) = _
      unfold f_Model_of
      simp only [bd_, lt_, cK_of (kY_0 hY), e_isText hY, r3', inR_e0 ha, if_true, Bool.and_true]
end OP6
