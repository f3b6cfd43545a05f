/-! sheets -/
section SH
variable {X Y w : Nat} {σ ρ : Sto}
theorem e_clearAs (hX : LayX X σ) {k : Nat} (hk : k < 4) (s n : Int32) : f_Sheet_clearAs (X + 164 + 2 * k) s n true σ = ((), true, rL (pI (pI σ (X + 164 + 2 * k) 0 s) (X + 164 + 2 * k) 1 n) (X + 165 + 2 * k) (wf (fun _ => 0) (SL σ (X + 165 + 2 * k)) 0 24)) := by
  unfold f_Sheet_clearAs
  simp only [bd_, lt_, SR_pI, rX_sr hX hk, cK_pI, cK_of (kX_sh hX hk), Bool.and_true]
  rw [e_fillL (n := 24) (by rw [Stk_pI, Stk_pI]; exact kX_sr hX hk) (by rw [Sln_pI, Sln_pI]; exact nX_sr hX hk) (by decide)]
  rfl
theorem e_sheetM (hY : LayY Y ρ) {k : Nat} (hk : k < 4) (z : Int32) (hz : SI ρ (Y + 5) k = z) : lp_ (b_Model_sheet_71 Y (nI k)) (fun (x4 : Int32) (b : Bool) (σ : Sto) => (0, false, σ)) fuel_ 0 true ρ = (z, true, rL ρ (Y + 6) (wf (fun _ => 0) (SL ρ (Y + 6)) (24 * k) 24)) := by
  obtain ⟨τ, p, e⟩ := lp_ex (body := b_Model_sheet_71 Y (nI k)) (bad := fun (x4 : Int32) (b : Bool) (σ : Sto) => (0, false, σ)) 24 (fun i τ => τ = rL ρ (Y + 6) (wf (fun _ => 0) (SL ρ (Y + 6)) (24 * k) i)) (fun τ => (z, true, τ)) (by decide) (fun i τ hi p => by
    subst p
    refine ⟨_, rfl, fun L => ?_⟩
    unfold b_Model_sheet_71
    simp only [lt_, if_pos (show nI i < (24 : Int32) from nI_lt (b := 24) hi (by decide)), SR_rL, rY_6 hY, cK_rL, cA_rL, cK_of (kY_0 hY), show (24 : Int32) * nI k = nI (24 * k) from nI_mul 24 k, nI_add, ix_nI (show 24 * k + i < 2 ^ 31 by omega), cA_of (kY_6 hY) (nY_6 hY) (show 24 * k + i < 96 by omega) (by decide), Bool.and_true, pL_rL]
    rw [← wf_s]) (fun L τ p => by
    subst p
    unfold b_Model_sheet_71
    simp only [lt_, if_neg (show ¬ nI 24 < (24 : Int32) by decide), SR_rL, SI_rL, rY_5 hY, cK_rL, cA_rL, cK_of (kY_0 hY), ix_nI (show k < 2 ^ 31 by omega), cA_of (kY_5 hY) (nY_5 hY) hk (by decide), Bool.and_true, hz]) ρ (by rw [wf_0, rL_id])
  rw [e, p]
theorem REL_sh36 (h : REL X Y σ ρ) {k n : Nat} (hk : k < 4) (hn : n ≤ 24) {s : Int32} (hs : bd s (-1) 2) : REL X Y (rL (pI (pI σ (X + 164 + 2 * k) 0 s) (X + 164 + 2 * k) 1 (nI n)) (X + 165 + 2 * k) (wf (fun _ => 0) (SL σ (X + 165 + 2 * k)) 0 24)) (rL (pI (pI (stn ρ (Shn σ)) (Y + 4) k s) (Y + 5) k (nI n)) (Y + 6) (wf (fun _ => 0) (SL ρ (Y + 6)) (24 * k) 24)) := by
  have hC : ∀ a, a ≠ X + 164 + 2 * k → SI (rL (pI (pI σ (X + 164 + 2 * k) 0 s) (X + 164 + 2 * k) 1 (nI n)) (X + 165 + 2 * k) (wf (fun _ => 0) (SL σ (X + 165 + 2 * k)) 0 24)) a = SI σ a := fun a ha => by
    rw [SI_rL, SI_pI, up2_ne ha, SI_pI, up2_ne ha]
  have hM : ∀ a, a ≠ Y + 4 → a ≠ Y + 5 → SI (rL (pI (pI (stn ρ (Shn σ)) (Y + 4) k s) (Y + 5) k (nI n)) (Y + 6) (wf (fun _ => 0) (SL ρ (Y + 6)) (24 * k) 24)) a = SI ρ a := fun a h1 h2 => by
    rw [SI_rL, SI_pI, up2_ne h2, SI_pI, up2_ne h1]; rfl
  refine REL_g h (by rw [Shn_rL, Shn_pI, Shn_pI]) (by rw [Stk_rL, Stk_pI, Stk_pI]) (by rw [Sln_rL, Sln_pI, Sln_pI]) (by rw [SR_rL, SR_pI, SR_pI]) (by rw [Scs_rL, Scs_pI, Scs_pI]) (fun a ha => hC a (by omega)) (by rw [hC X (by omega)]) (by rw [Stk_rL, Stk_pI, Stk_pI, Stk_stn]) (by rw [Sln_rL, Sln_pI, Sln_pI, Sln_stn]) (by rw [SR_rL, SR_pI, SR_pI, SR_stn]) (hM _ (by omega) (by omega)) (hM _ (by omega) (by omega)) (by rw [hM Y (by omega) (by omega)]) (rTape_c h.2.2.2.2.2.2.2.1 (hC _ (by omega)) (hC _ (by omega)) (by rw [hM Y (by omega) (by omega)]) (hM _ (by omega) (by omega))) ?_ (rTell_c h.2.2.2.2.2.2.2.2.2 (by rw [hC X (by omega)]) (hC _ (by omega)) (by rw [hM Y (by omega) (by omega)]) (hM _ (by omega) (by omega)))
  intro k' hk'
  by_cases e : k' = k
  · subst e
    have c0 : SI (rL (pI (pI σ (X + 164 + 2 * k') 0 s) (X + 164 + 2 * k') 1 (nI n)) (X + 165 + 2 * k') (wf (fun _ => 0) (SL σ (X + 165 + 2 * k')) 0 24)) (X + 164 + 2 * k') 0 = s := by rw [SI_rL, SI_pI, up2_nj (by decide), SI_pI, up2_s]
    have m0 : SI (rL (pI (pI (stn ρ (Shn σ)) (Y + 4) k' s) (Y + 5) k' (nI n)) (Y + 6) (wf (fun _ => 0) (SL ρ (Y + 6)) (24 * k') 24)) (Y + 4) k' = s := by rw [SI_rL, SI_pI, up2_ne' (by omega), SI_pI, up2_s]
    rw [c0, m0]
    refine ⟨rfl, hs, n, hn, by rw [SI_rL, SI_pI, up2_s], by rw [SI_rL, SI_pI, up2_s], fun j hj => ?_⟩
    rw [SL_rL, SL_rL, up1_s, up1_s]
    unfold wf
    rw [if_pos (by omega), if_pos (by omega)]
  · obtain ⟨q1, q2, m, q3, q4, q5, q6⟩ := h.2.2.2.2.2.2.2.2.1 k' hk'
    have m4 : SI (rL (pI (pI (stn ρ (Shn σ)) (Y + 4) k s) (Y + 5) k (nI n)) (Y + 6) (wf (fun _ => 0) (SL ρ (Y + 6)) (24 * k) 24)) (Y + 4) k' = SI ρ (Y + 4) k' := by rw [SI_rL, SI_pI, up2_ne' (by omega), SI_pI, up2_nj e]; rfl
    have m5 : SI (rL (pI (pI (stn ρ (Shn σ)) (Y + 4) k s) (Y + 5) k (nI n)) (Y + 6) (wf (fun _ => 0) (SL ρ (Y + 6)) (24 * k) 24)) (Y + 5) k' = SI ρ (Y + 5) k' := by rw [SI_rL, SI_pI, up2_nj e, SI_pI, up2_ne' (by omega)]; rfl
    rw [hC (X + 164 + 2 * k') (by omega), m4, m5]
    refine ⟨q1, q2, m, q3, q4, q5, fun j hj => ?_⟩
    rw [SL_rL, up1_ne' (by omega), SL_rL, up1_s]
    unfold wf
    rw [if_neg (by omega)]
    exact q6 j hj
theorem op_36 : Op_36 X Y (REL X Y) := by
  intro a s n σ ρ h
  have hX := h.2.2.1
  have hY : LayY Y (stn ρ (Shn σ)) := h.2.2.2.1
  by_cases ha : (0 : Int32) ≤ a ∧ a ≤ 3
  · obtain ⟨k, hk, rfl⟩ := in_nat (n := 3) rfl (by decide) ha.1 ha.2
    by_cases hs : (-1 : Int32) ≤ s ∧ s ≤ 2
    · have hbs : bd s (-1) 2 := by
        have q := i32_bd hs
        rwa [show (-1 : Int32).toInt = -1 by decide, show (2 : Int32).toInt = 2 by decide] at q
      have eM : ∀ z : Int32, lp_ (b_Model_sheet_71 Y (nI k)) (fun (x4 : Int32) (b : Bool) (σ : Sto) => (0, false, σ)) fuel_ 0 true (pI (pI (stn ρ (Shn σ)) (Y + 4) k s) (Y + 5) k z) = (z, true, rL (pI (pI (stn ρ (Shn σ)) (Y + 4) k s) (Y + 5) k z) (Y + 6) (wf (fun _ => 0) (SL ρ (Y + 6)) (24 * k) 24)) := fun z => by
        have hY2 : LayY Y (pI (pI (stn ρ (Shn σ)) (Y + 4) k s) (Y + 5) k z) := LayY_c hY (by rw [Stk_pI, Stk_pI]) (by rw [Sln_pI, Sln_pI]) (by rw [SR_pI, SR_pI])
        have e := e_sheetM hY2 (show k < 4 by omega) z (by rw [SI_pI, up2_s])
        rw [SL_pI, SL_pI, SL_stn] at e
        exact e
      by_cases hm : s = -1
      · refine OpOK_j 0 (Shn σ) _ _ ?_ (by simp only [Shn_rL, Shn_pI]) ?_ ?_ (REL_sh36 h (k := k) (n := 0) (by omega) (by omega) hbs)
        · unfold f_Trail_sheet
          simp only [bd_, lt_, e_hasSheet hX, e_within, inR_e1 ha, inR_e1 hs, i10, if_false, if_pos hm, rX_0_4 hX, ix_nI (show k < 2 ^ 31 by omega), rX_sh hX (show k < 4 by omega), cK_of (kX_0 hX), cA_of (kX_163 hX) (nX_163 hX) (show k < 4 by omega) (by decide), cK_of (kX_sh hX (show k < 4 by omega)), Bool.and_true, e_clearAs hX (show k < 4 by omega)]
          rw [hm, nI_0]
        · show f_Model_sheet Y (nI k) s n true (stn ρ (Shn σ)) = _
          have hs0 : s < 0 := by rw [hm]; decide
          rw [f_Model_sheet, e_isSheet, inR_e1 ha, bd_, lt_, if_neg (show ¬ (1 : Int32) = 0 by decide), e_isInL s (-1) 2 (-1) 2 (by decide) rfl, inR_e1 hs, bd_, if_neg (show ¬ (1 : Int32) = 0 by decide)]
          try dsimp only
          rw [lt_, if_pos hs0]
          try dsimp only
          rw [lt_, if_pos hs0]
          try dsimp only
          rw [lt_]
          try dsimp only
          rw [lt_, if_pos hs0]
          try dsimp only
          rw [lt_]
          try dsimp only
          rw [lt_]
          simp only [SR_pI, rY_4 hY, rY_5 hY, cK_pI, cA_pI, cK_of (kY_0 hY), ix_nI (show k < 2 ^ 31 by omega), cA_of (kY_4 hY) (nY_4 hY) (show k < 4 by omega) (by decide), cA_of (kY_5 hY) (nY_5 hY) (show k < 4 by omega) (by decide), Bool.and_true]
          rw [eM 0, nI_0]
        · simp only [Shn_rL, Shn_pI, Shn_stn]
      · have hs0 : ¬ s < 0 := fun z => hm (Int32.le_antisymm (by
            have h1 := Int32.lt_iff_toInt_lt.mp z
            apply Int32.le_iff_toInt_le.mpr
            have h2 : (-1 : Int32).toInt = -1 := by decide
            have h3 : (0 : Int32).toInt = 0 := by decide
            omega) hs.1)
        by_cases h24 : (24 : Int32) < n
        · refine OpOK_b (-1000000001) h ?_ ?_
          · unfold f_Trail_sheet
            simp only [bd_, lt_, e_hasSheet hX, e_within, inR_e1 ha, inR_e1 hs, i10, if_false, if_neg hm, if_pos h24, cK_of (kX_0 hX), Bool.and_true]
          · show f_Model_sheet Y (nI k) s n true (stn ρ (Shn σ)) = _
            rw [f_Model_sheet, e_isSheet, inR_e1 ha, bd_, lt_, if_neg (show ¬ (1 : Int32) = 0 by decide), e_isInL s (-1) 2 (-1) 2 (by decide) rfl, inR_e1 hs, bd_, if_neg (show ¬ (1 : Int32) = 0 by decide)]
            try dsimp only
            rw [lt_, if_neg hs0, if_pos h24]
        · by_cases h0 : n < 0
          · refine OpOK_b (-1000000014) h ?_ ?_
            · unfold f_Trail_sheet
              simp only [bd_, lt_, e_hasSheet hX, e_within, inR_e1 ha, inR_e1 hs, i10, if_false, if_neg hm, if_neg h24, if_pos h0, cK_of (kX_0 hX), Bool.and_true]
            · show f_Model_sheet Y (nI k) s n true (stn ρ (Shn σ)) = _
              rw [f_Model_sheet, e_isSheet, inR_e1 ha, bd_, lt_, if_neg (show ¬ (1 : Int32) = 0 by decide), e_isInL s (-1) 2 (-1) 2 (by decide) rfl, inR_e1 hs, bd_, if_neg (show ¬ (1 : Int32) = 0 by decide)]
              try dsimp only
              rw [lt_, if_neg hs0, if_neg h24]
              try dsimp only
              rw [lt_, if_neg hs0, if_pos h0]
          · obtain ⟨m, hm', rfl⟩ := in_nat (v := n) (n := 24) rfl (by decide) (Int32.not_lt.mp h0) (Int32.not_lt.mp h24)
            refine OpOK_j (nI m) (Shn σ) _ _ ?_ (by simp only [Shn_rL, Shn_pI]) ?_ ?_ (REL_sh36 h (k := k) (n := m) (by omega) (by omega) hbs)
            · unfold f_Trail_sheet
              simp only [bd_, lt_, e_hasSheet hX, e_within, inR_e1 ha, inR_e1 hs, i10, if_false, if_neg hm, if_neg h24, if_neg h0, rX_0_4 hX, ix_nI (show k < 2 ^ 31 by omega), rX_sh hX (show k < 4 by omega), cK_of (kX_0 hX), cA_of (kX_163 hX) (nX_163 hX) (show k < 4 by omega) (by decide), cK_of (kX_sh hX (show k < 4 by omega)), Bool.and_true, e_clearAs hX (show k < 4 by omega)]
            · show f_Model_sheet Y (nI k) s (nI m) true (stn ρ (Shn σ)) = _
              rw [f_Model_sheet, e_isSheet, inR_e1 ha, bd_, lt_, if_neg (show ¬ (1 : Int32) = 0 by decide), e_isInL s (-1) 2 (-1) 2 (by decide) rfl, inR_e1 hs, bd_, if_neg (show ¬ (1 : Int32) = 0 by decide)]
              try dsimp only
              rw [lt_, if_neg hs0, if_neg h24]
              try dsimp only
              rw [lt_, if_neg hs0, if_neg h0]
              try dsimp only
              rw [lt_]
              try dsimp only
              rw [lt_, if_neg hs0]
              try dsimp only
              rw [lt_]
              try dsimp only
              rw [lt_]
              simp only [SR_pI, rY_4 hY, rY_5 hY, cK_pI, cA_pI, cK_of (kY_0 hY), ix_nI (show k < 2 ^ 31 by omega), cA_of (kY_4 hY) (nY_4 hY) (show k < 4 by omega) (by decide), cA_of (kY_5 hY) (nY_5 hY) (show k < 4 by omega) (by decide), Bool.and_true]
              rw [eM (nI m)]
            · simp only [Shn_rL, Shn_pI, Shn_stn]
    · refine OpOK_b (-1000000001) h ?_ ?_
      · unfold f_Trail_sheet
        simp only [bd_, lt_, e_hasSheet hX, e_within, inR_e1 ha, inR_e0 hs, i10, if_false, if_true, cK_of (kX_0 hX), Bool.and_true]
      · show f_Model_sheet Y (nI k) s n true (stn ρ (Shn σ)) = _
        rw [f_Model_sheet, e_isSheet, inR_e1 ha, bd_, lt_, if_neg (show ¬ (1 : Int32) = 0 by decide), e_isInL s (-1) 2 (-1) 2 (by decide) rfl, inR_e0 hs, bd_, if_pos rfl]
  · refine OpOK_b (-1000000001) h ?_ ?_
    · unfold f_Trail_sheet
      simp only [bd_, lt_, e_hasSheet hX, inR_e0 ha, if_true, cK_of (kX_0 hX), Bool.and_true]
    · show f_Model_sheet Y a s n true (stn ρ (Shn σ)) = _
      rw [f_Model_sheet, e_isSheet, inR_e0 ha, bd_, lt_, if_pos rfl]
/-- a sheet's sort is missing on both sides -/
theorem sh_miss {x : Int32} (h : bd x (-1) 2) : x = -1 ↔ x < 0 := by
  constructor
  · intro e; rw [e]; decide
  · intro z
    have h1 := Int32.lt_iff_toInt_lt.mp z
    have h3 : (0 : Int32).toInt = 0 := by decide
    have h2 : (-1 : Int32).toInt = -1 := by decide
    apply Int32.toInt_inj.mp
    have := h.1
    omega
theorem op_38 : Op_38 X Y (REL X Y) := by
  intro a v σ ρ h
  have hX := h.2.2.1
  have hY : LayY Y (stn ρ (Shn σ)) := h.2.2.2.1
  by_cases ha : (0 : Int32) ≤ a ∧ a ≤ 3
  · obtain ⟨k, hk, rfl⟩ := in_nat (n := 3) rfl (by decide) ha.1 ha.2
    obtain ⟨q1, q2, m, q3, q4, q5, q6⟩ := h.2.2.2.2.2.2.2.2.1 k (by omega)
    by_cases hm : SI ρ (Y + 4) k < 0
    · refine OpOK_b (-1000000011) h ?_ ?_
      · unfold f_Trail_sum
        simp only [bd_, lt_, e_hasSheet hX, inR_e1 ha, i10, if_false, rX_0_4 hX, ix_nI (show k < 2 ^ 31 by omega), rX_sh hX (show k < 4 by omega), q1, if_pos ((sh_miss q2).mpr hm), cK_of (kX_0 hX), cA_of (kX_163 hX) (nX_163 hX) (show k < 4 by omega) (by decide), cK_of (kX_sh hX (show k < 4 by omega)), Bool.and_true]
      · show f_Model_sum Y (nI k) v true (stn ρ (Shn σ)) = _
        unfold f_Model_sum
        simp only [bd_, lt_, e_isSheet, inR_e1 ha, i10, if_false, rY_4 hY, SI_stn, ix_nI (show k < 2 ^ 31 by omega), if_pos hm, cK_of (kY_0 hY), cA_of (kY_4 hY) (nY_4 hY) (show k < 4 by omega) (by decide), Bool.and_true]
    · have eT : f_Sheet_total (X + 164 + 2 * k) true σ = (foldI (fun i (x : Int64) => x + SL σ (X + 165 + 2 * k) i) 0 m 0, true, σ) := by
        unfold f_Sheet_total
        simp only [lt_]
        refine lp_accB (σ := σ) m (fun i (x : Int64) => x + SL σ (X + 165 + 2 * k) i) (fun x => (x, true, σ)) (by omega) (fun L i x hi => ?_) (fun L x => ?_) 0
        · unfold b_Sheet_total_4
          simp only [lt_, q4, if_pos (show nI i < nI m from nI_lt hi (by omega)), rX_sr hX (show k < 4 by omega), ix_nI (show i < 2 ^ 31 by omega), cK_of (kX_sh hX (show k < 4 by omega)), cA_of (kX_sr hX (show k < 4 by omega)) (nX_sr hX (show k < 4 by omega)) (show i < 24 by omega) (by decide), Bool.and_true]
        · unfold b_Sheet_total_4
          simp only [lt_, q4, if_neg (nI_nlt (Nat.le_refl m) (by omega)), cK_of (kX_sh hX (show k < 4 by omega)), Bool.and_true]
      have eF : foldI (fun i (x : Int64) => x + SL σ (X + 165 + 2 * k) i) 0 m 0 = foldI (fun i (x : Int64) => x + SL ρ (Y + 6) (24 * k + i)) 0 m 0 := foldI_congr (fun i x _ hi => by rw [q6 i (by omega)])
      refine OpOK_b ((foldI (fun i (x : Int64) => x + SL ρ (Y + 6) (24 * k + i)) 0 m 0 * v.toInt64).toInt32) h ?_ ?_
      · unfold f_Trail_sum
        simp only [bd_, lt_, e_hasSheet hX, inR_e1 ha, i10, if_false, rX_0_4 hX, ix_nI (show k < 2 ^ 31 by omega), rX_sh hX (show k < 4 by omega), q1, if_neg (fun e => hm ((sh_miss q2).mp e)), cK_of (kX_0 hX), cA_of (kX_163 hX) (nX_163 hX) (show k < 4 by omega) (by decide), cK_of (kX_sh hX (show k < 4 by omega)), Bool.and_true, eT, eF]
      · show f_Model_sum Y (nI k) v true (stn ρ (Shn σ)) = _
        unfold f_Model_sum
        simp only [bd_, lt_, e_isSheet, inR_e1 ha, i10, if_false, rY_4 hY, SI_stn, ix_nI (show k < 2 ^ 31 by omega), if_neg hm, cK_of (kY_0 hY), cA_of (kY_4 hY) (nY_4 hY) (show k < 4 by omega) (by decide), Bool.and_true]
        refine lp_accB (σ := stn ρ (Shn σ)) m (fun i (x : Int64) => x + SL ρ (Y + 6) (24 * k + i)) (fun x => ((x * v.toInt64).toInt32, true, stn ρ (Shn σ))) (by omega) (fun L i x hi => ?_) (fun L x => ?_) 0
        · unfold b_Model_sum_28
          simp only [lt_, rY_5 hY, rY_6 hY, SI_stn, SL_stn, q5, ix_nI (show k < 2 ^ 31 by omega), if_pos (show nI i < nI m from nI_lt hi (by omega)), show (24 : Int32) * nI k = nI (24 * k) from nI_mul 24 k, nI_add, ix_nI (show 24 * k + i < 2 ^ 31 by omega), cK_of (kY_0 hY), cA_of (kY_5 hY) (nY_5 hY) (show k < 4 by omega) (by decide), cA_of (kY_6 hY) (nY_6 hY) (show 24 * k + i < 96 by omega) (by decide), Bool.and_true]
        · unfold b_Model_sum_28
          simp only [lt_, rY_5 hY, SI_stn, q5, ix_nI (show k < 2 ^ 31 by omega), if_neg (nI_nlt (Nat.le_refl m) (by omega)), cK_of (kY_0 hY), cA_of (kY_5 hY) (nY_5 hY) (show k < 4 by omega) (by decide), Bool.and_true]
  · refine OpOK_b (-1000000001) h ?_ ?_
    · unfold f_Trail_sum
      simp only [bd_, lt_, e_hasSheet hX, inR_e0 ha, if_true, cK_of (kX_0 hX), Bool.and_true]
    · show f_Model_sum Y a v true (stn ρ (Shn σ)) = _
      unfold f_Model_sum
      simp only [bd_, lt_, e_isSheet, inR_e0 ha, if_true]
end SH
