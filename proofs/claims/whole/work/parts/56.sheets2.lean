/-! sheets: marks, copies -/
section SH2
variable {X Y w : Nat} {σ ρ : Sto}
theorem sx8 (x : Int32) : (x <<< (24 &&& 31)) >>> (24 &&& 31) = x.toInt8.toInt32 := by
  rw [show ((24 : Int32) &&& 31) = 24 by decide]
  apply Int32.toBitVec_inj.mp
  rw [Int32.toBitVec_shiftRight, Int32.toBitVec_shiftLeft, Int8.toBitVec_toInt32, Int32.toBitVec_toInt8]
  apply BitVec.eq_of_getLsbD_eq
  intro i hi
  simp [BitVec.getLsbD_sshiftRight, BitVec.getLsbD_signExtend]
  by_cases h : i < 8
  · simp [h, hi, show 24 + i < 32 by omega]
    simp [show ¬ (32 ≤ i) by omega, show ¬ (24 + i < 24) by omega]
  · simp [h, hi, show ¬ (24 + i < 32) by omega, BitVec.msb_eq_getLsbD_last, BitVec.getLsbD_signExtend, BitVec.getMsbD]
    rw [show decide (32 ≤ i) = false from decide_eq_false (by omega), Bool.not_false, Bool.true_and, ← BitVec.getLsbD_eq_getElem, ← BitVec.getLsbD_eq_getElem, BitVec.getLsbD_signExtend]
    rfl
theorem e_markM (hY : LayY Y ρ) {k m j : Nat} (hk : k < 4) (hm : m ≤ 24) (hj : j < m) (q5 : SI ρ (Y + 5) k = nI m) (hn : ¬ SI ρ (Y + 4) k < 0) (ha : (0 : Int32) ≤ nI k ∧ nI k ≤ 3) (hp : 0 ≤ nI j ∧ nI j ≤ nI m - 1) (v : Int32) : f_Model_mark Y (nI k) (nI j) v true ρ = ((SL ρ (Y + 6) (24 * k + j)).toInt32, true, pL ρ (Y + 6) (24 * k + j) (if SI ρ (Y + 4) k = 0 then v.toInt8.toInt32.toInt64 else v.toInt64)) := by
  unfold f_Model_mark
  simp only [bd_, lt_, e_isSheet, inR_e1 ha, i10, if_false, rY_4 hY, rY_5 hY, rY_6 hY, ix_nI (show k < 2 ^ 31 by omega), if_neg hn, q5, e_isInL (nI j) 0 _ 0 (nI m - 1) rfl rfl, inR_e1 hp, show (24 : Int32) * nI k = nI (24 * k) from nI_mul 24 k, nI_add, ix_nI (show 24 * k + j < 2 ^ 31 by omega), cK_of (kY_0 hY), cA_of (kY_4 hY) (nY_4 hY) (show k < 4 by omega) (by decide), cA_of (kY_5 hY) (nY_5 hY) (show k < 4 by omega) (by decide), cA_of (kY_6 hY) (nY_6 hY) (show 24 * k + j < 96 by omega) (by decide), Bool.and_true, sx8]
  by_cases e : SI ρ (Y + 4) k = 0
  · rw [if_pos e, if_pos e]
  · rw [if_neg e, if_neg e]
theorem op_37 : Op_37 X Y (REL X Y) := by
  intro a p v σ ρ h
  have hX := h.2.2.1
  have hY : LayY Y (stn ρ (Shn σ)) := h.2.2.2.1
  by_cases ha : (0 : Int32) ≤ a ∧ a ≤ 3
  · obtain ⟨k, hk, rfl⟩ := in_nat (n := 3) rfl (by decide) ha.1 ha.2
    obtain ⟨q1, q2, m, q3, q4, q5, q6⟩ := h.2.2.2.2.2.2.2.2.1 k (by omega)
    by_cases hm : SI ρ (Y + 4) k < 0
    · refine OpOK_b (-1000000011) h ?_ ?_
      · unfold f_Trail_mark
        simp only [bd_, lt_, e_hasSheet hX, inR_e1 ha, i10, if_false, rX_0_4 hX, ix_nI (show k < 2 ^ 31 by omega), rX_sh hX (show k < 4 by omega), q1, if_pos ((sh_miss q2).mpr hm), cK_of (kX_0 hX), cA_of (kX_163 hX) (nX_163 hX) (show k < 4 by omega) (by decide), cK_of (kX_sh hX (show k < 4 by omega)), Bool.and_true]
      · show f_Model_mark Y (nI k) p v true (stn ρ (Shn σ)) = _
        unfold f_Model_mark
        simp only [bd_, lt_, e_isSheet, inR_e1 ha, i10, if_false, rY_4 hY, SI_stn, ix_nI (show k < 2 ^ 31 by omega), if_pos hm, cK_of (kY_0 hY), cA_of (kY_4 hY) (nY_4 hY) (show k < 4 by omega) (by decide), Bool.and_true]
    · by_cases hp : (0 : Int32) ≤ p ∧ p ≤ nI m - 1
      · obtain ⟨j, hj, rfl⟩ := in_idx (by omega) hp
        have nx : X + 165 + 2 * k ≠ X + 164 + 2 * k := by omega
        refine OpOK_j ((SL ρ (Y + 6) (24 * k + j)).toInt32) (Shn σ) (pL σ (X + 165 + 2 * k) j (if SI ρ (Y + 4) k = 0 then v.toInt8.toInt32.toInt64 else v.toInt64)) (pL (stn ρ (Shn σ)) (Y + 6) (24 * k + j) (if SI ρ (Y + 4) k = 0 then v.toInt8.toInt32.toInt64 else v.toInt64)) ?_ Shn_pL ?_ Shn_pL ?_
        · unfold f_Trail_mark
          simp only [bd_, lt_, e_hasSheet hX, e_within, inR_e1 ha, i10, if_false, rX_0_4 hX, ix_nI (show k < 2 ^ 31 by omega), ix_nI (show j < 2 ^ 31 by omega), rX_sh hX (show k < 4 by omega), rX_sr hX (show k < 4 by omega), q1, q4, inR_e1 hp, if_neg (fun e => hm ((sh_miss q2).mp e)), cK_of (kX_0 hX), cA_of (kX_163 hX) (nX_163 hX) (show k < 4 by omega) (by decide), cK_of (kX_sh hX (show k < 4 by omega)), cA_of (kX_sr hX (show k < 4 by omega)) (nX_sr hX (show k < 4 by omega)) (show j < 24 by omega) (by decide), Bool.and_true, q6 j (by omega)]
          by_cases e : SI ρ (Y + 4) k = 0
          · rw [if_pos e, if_pos e]
          · rw [if_neg e, if_neg e]
        · exact e_markM hY (by omega) q3 hj q5 hm ha hp v
        · have hC : ∀ a, SI (pL σ (X + 165 + 2 * k) j (if SI ρ (Y + 4) k = 0 then v.toInt8.toInt32.toInt64 else v.toInt64)) a = SI σ a := fun a => by rw [SI_pL]
          have hM : ∀ a, SI (pL (stn ρ (Shn σ)) (Y + 6) (24 * k + j) (if SI ρ (Y + 4) k = 0 then v.toInt8.toInt32.toInt64 else v.toInt64)) a = SI ρ a := fun a => by rw [SI_pL]; rfl
          refine REL_g h Shn_pL Stk_pL Sln_pL SR_pL Scs_pL (fun a ha => hC a) (by rw [hC X]) (by rw [Stk_pL, Stk_stn]) (by rw [Sln_pL, Sln_stn]) (by rw [SR_pL, SR_stn]) (hM _) (hM _) (by rw [hM Y]) (rTape_c h.2.2.2.2.2.2.2.1 (hC _) (hC _) (by rw [hM Y]) (hM _)) ?_ (rTell_c h.2.2.2.2.2.2.2.2.2 (by rw [hC X]) (hC _) (by rw [hM Y]) (hM _))
          intro k' hk'
          obtain ⟨s1, s2, m', s3, s4, s5, s6⟩ := h.2.2.2.2.2.2.2.2.1 k' hk'
          rw [hC (X + 164 + 2 * k'), hM (Y + 4), hM (Y + 5)]
          refine ⟨s1, s2, m', s3, s4, s5, fun j' hj' => ?_⟩
          generalize (if SI ρ (Y + 4) k = 0 then v.toInt8.toInt32.toInt64 else v.toInt64) = z
          rw [SL_pL, SL_pL]
          by_cases e : k' = k ∧ j' = j
          · rw [e.1, e.2, up2_s, up2_s]
          · rw [up2_nj (show 24 * k' + j' ≠ 24 * k + j by omega)]
            by_cases e1 : k' = k
            · rw [e1, up2_nj (fun z => e ⟨e1, z⟩)]
              rw [← e1]
              exact s6 j' hj'
            · rw [up2_ne' (by omega)]
              exact s6 j' hj'
      · refine OpOK_b (-1000000013) h ?_ ?_
        · unfold f_Trail_mark
          simp only [bd_, lt_, e_hasSheet hX, e_within, inR_e1 ha, i10, if_false, if_true, rX_0_4 hX, ix_nI (show k < 2 ^ 31 by omega), rX_sh hX (show k < 4 by omega), q1, q4, inR_e0 hp, if_neg (fun e => hm ((sh_miss q2).mp e)), cK_of (kX_0 hX), cA_of (kX_163 hX) (nX_163 hX) (show k < 4 by omega) (by decide), cK_of (kX_sh hX (show k < 4 by omega)), Bool.and_true]
        · show f_Model_mark Y (nI k) p v true (stn ρ (Shn σ)) = _
          unfold f_Model_mark
          simp only [bd_, lt_, e_isSheet, inR_e1 ha, i10, if_false, if_true, rY_4 hY, rY_5 hY, SI_stn, ix_nI (show k < 2 ^ 31 by omega), if_neg hm, q5, e_isInL p 0 _ 0 (nI m - 1) rfl rfl, inR_e0 hp, cK_of (kY_0 hY), cA_of (kY_4 hY) (nY_4 hY) (show k < 4 by omega) (by decide), cA_of (kY_5 hY) (nY_5 hY) (show k < 4 by omega) (by decide), Bool.and_true]
  · refine OpOK_b (-1000000001) h ?_ ?_
    · unfold f_Trail_mark
      simp only [bd_, lt_, e_hasSheet hX, inR_e0 ha, if_true, cK_of (kX_0 hX), Bool.and_true]
    · show f_Model_mark Y a p v true (stn ρ (Shn σ)) = _
      unfold f_Model_mark
      simp only [bd_, lt_, e_isSheet, inR_e0 ha, if_true]
end SH2
