/-! boxes sent on; lands told -/
section OP10
variable {X Y : Nat} {σ ρ : Sto}
theorem op_21 : Op_21 X Y (REL X Y) := by
  intro a a2 v σ ρ h
  have hX := h.2.2.1
  have hY : LayY Y (stn ρ (Shn σ)) := h.2.2.2.1
  have hW := hX.2.1
  obtain ⟨d1, d2⟩ := (REL_now2 h).1
  obtain ⟨np, nf, p1, p2, p3, p4, p5, p6, p7, p8, p9, p10, p11, p12⟩ := (REL_now2 h).2.1
  obtain ⟨nb, r1, r2, r3, r4⟩ := (REL_now2 h).2.2.2.2.2.1
  by_cases ha : (0 : Int32) ≤ a ∧ a ≤ nI nb - 1
  · by_cases ha2 : (0 : Int32) ≤ a2 ∧ a2 ≤ nI np - 1
    · by_cases hv : (0 : Int32) ≤ v ∧ v ≤ 99
      · obtain ⟨k1, hk1, rfl⟩ := in_idx (by omega) ha
        obtain ⟨k2, hk2, rfl⟩ := in_idx (by omega) ha2
        obtain ⟨m2, hm2, em2⟩ := bd_nat (n := 5) (p9 k2 hk2).2.2.2.2.1
        have t2 := e_isTown hW (REL_cs h) (show k2 < 16 by omega) hm2 (show SI σ (X + 1 + 2) k2 = nI m2 by rw [(p9 k2 hk2).1, em2])
        have est : SI σ (X + 1 + 20) k1 = SI ρ (Y + 1) (340 + 5 * k1 + 4) := by rw [(r4 k1 hk1).2.2.2.2.1, show 344 + 5 * k1 = 340 + 5 * k1 + 4 by omega]
        by_cases e2 : nI m2 = 3
        · by_cases hs : SI ρ (Y + 1) (340 + 5 * k1 + 4) = 0
          · refine OpOK_i 1 (pI (pI σ (X + 1 + 17) k1 (nI k2)) (X + 1 + 19) k1 (SI ρ (Y + 1) 0 + v)) (pI (pI (stn ρ (Shn σ)) (Y + 1) (340 + 5 * k1 + 1) (nI k2)) (Y + 1) (340 + 5 * k1 + 3) (SI ρ (Y + 1) 0 + v)) ?_ ?_ rfl ?_
            · have n1 : X + 1 ≠ X + 1 + 17 := by omega
              unfold f_Trail_send
              simp only [bd_, lt_, rX_0_0 hX, rW_0_0 hW, rW_0_2 hW, cK_of (kX_0 hX), cK_of (kW_0 hW), cK_of (kW_1 hW), cK_of (kW_15 hW), Bool.and_true, e_hasBox (kW_15 hW), r2, e_hasPlace (kW_1 hW), p3, e_within, i10, if_false, if_true, inR_e1 ha, inR_e1 ha2, inR_e1 hv, t2, bI_t e2, ix_nI (show k1 < 2 ^ 31 by omega), rW_15_1 hW, rW_15_3 hW, rW_15_4 hW, cA_of (kW_17 hW) (nW_17 hW) (show k1 < 20 by omega) (by decide), cA_of (kW_19 hW) (nW_19 hW) (show k1 < 20 by omega) (by decide), cA_of (kW_20 hW) (nW_20 hW) (show k1 < 20 by omega) (by decide), est, if_pos hs, SR_pI, cK_pI, cA_pI, SI_pI, up2_ne' n1, d1]
            · show f_Model_send Y (nI k1) (nI k2) v true (stn ρ (Shn σ)) = _
              have z1 : (0 : Nat) ≠ 340 + 5 * k1 + 1 := by omega
              unfold f_Model_send
              simp only [bd_, lt_, rY_0 hY, cK_of (kY_0 hY), cYk hY 6 (v := 6) rfl (by decide), show ix (6 : Int32) = 6 from rfl, Bool.and_true, SI_stn, r3, e_isInL (nI k1) 0 _ 0 (nI nb - 1) rfl rfl, e_isPlace hY, p4, e_isInL v 0 99 0 99 rfl rfl, i10, if_false, if_true, inR_e1 ha, inR_e1 ha2, inR_e1 hv, e_kindOf hY (show k2 < 700 by omega), em2, e_boxAt, nI_p1 (340 + 5 * k1), nI_p3 (340 + 5 * k1), nI_p4 (340 + 5 * k1), ix_nI (show 340 + 5 * k1 + 1 < 2 ^ 31 by omega), ix_nI (show 340 + 5 * k1 + 3 < 2 ^ 31 by omega), ix_nI (show 340 + 5 * k1 + 4 < 2 ^ 31 by omega), cY hY (show 340 + 5 * k1 + 1 < 3210 by omega), cY hY (show 340 + 5 * k1 + 3 < 3210 by omega), cY hY (show 340 + 5 * k1 + 4 < 3210 by omega), show ix (0 : Int32) = 0 from rfl, cYk hY 0 (v := 0) rfl (by decide), if_pos e2, if_pos hs, SR_pI, cK_pI, cA_pI, SI_pI, up2_nj z1]
            · have hS : ∀ i, i ≠ 340 + 5 * k1 + 1 → i ≠ 340 + 5 * k1 + 3 → SI (pI (pI (stn ρ (Shn σ)) (Y + 1) (340 + 5 * k1 + 1) (nI k2)) (Y + 1) (340 + 5 * k1 + 3) (SI ρ (Y + 1) 0 + v)) (Y + 1) i = SI ρ (Y + 1) i := fun i h1 h2 => by
                rw [SI_pI, up2_nj (by omega), SI_pI, up2_nj (by omega)]; rfl
              have hσ : ∀ b, b ≠ X + 1 + 17 → b ≠ X + 1 + 19 → SI (pI (pI σ (X + 1 + 17) k1 (nI k2)) (X + 1 + 19) k1 (SI ρ (Y + 1) 0 + v)) b = SI σ b := fun b h1 h2 => by
                rw [SI_pI, up2_ne h2, SI_pI, up2_ne h1]
              refine REL_W h rfl (SB_p (SB_p SB_0 (by omega) (by omega)) (by omega) (by omega)) (SB_p (SB_p SB_n (by omega) (by omega)) (by omega) (by omega)) (RWd_B (REL_now2 h) (by omega) rfl (SB_p (SB_p SB_0 (by omega) (by omega)) (by omega) (by omega)) (fun i hi => hS i (by omega) (by omega)) ?_)
              refine ⟨nb, r1, by rw [hσ _ (by omega) (by omega)]; exact r2, by rw [hS 6 (by omega) (by omega)]; exact r3, fun k hk => ?_⟩
              rw [hσ (X + 1 + 16) (by omega) (by omega), hσ (X + 1 + 18) (by omega) (by omega), hσ (X + 1 + 20) (by omega) (by omega), hS 2 (by omega) (by omega), hS 5 (by omega) (by omega), hS (340 + 5 * k) (by omega) (by omega), hS (342 + 5 * k) (by omega) (by omega), hS (344 + 5 * k) (by omega) (by omega)]
              obtain ⟨x0, x1, x2, x3, x4, x5, x6, x7, x8, x9, x10, x11, x12⟩ := r4 k hk
              by_cases e : k = k1
              · have e' := e.symm
                subst e'
                have y1 : SI (pI (pI σ (X + 1 + 17) k1 (nI k2)) (X + 1 + 19) k1 (SI ρ (Y + 1) 0 + v)) (X + 1 + 17) k1 = nI k2 := by rw [SI_pI, up2_ne' (by omega), SI_pI, up2_s]
                have y3 : SI (pI (pI σ (X + 1 + 17) k1 (nI k2)) (X + 1 + 19) k1 (SI ρ (Y + 1) 0 + v)) (X + 1 + 19) k1 = SI ρ (Y + 1) 0 + v := by rw [SI_pI, up2_s]
                have u1 : SI (pI (pI (stn ρ (Shn σ)) (Y + 1) (340 + 5 * k1 + 1) (nI k2)) (Y + 1) (340 + 5 * k1 + 3) (SI ρ (Y + 1) 0 + v)) (Y + 1) (341 + 5 * k1) = nI k2 := by rw [show 341 + 5 * k1 = 340 + 5 * k1 + 1 by omega, SI_pI, up2_nj (by omega), SI_pI, up2_s]
                have u3 : SI (pI (pI (stn ρ (Shn σ)) (Y + 1) (340 + 5 * k1 + 1) (nI k2)) (Y + 1) (340 + 5 * k1 + 3) (SI ρ (Y + 1) 0 + v)) (Y + 1) (343 + 5 * k1) = SI ρ (Y + 1) 0 + v := by rw [show 343 + 5 * k1 = 340 + 5 * k1 + 3 by omega, SI_pI, up2_s]
                rw [y1, y3, u1, u3]
                refine ⟨x0, rfl, x2, rfl, x4, x5, x6, ha2.1, ?_, x9, add_bd d2 (i32_bd hv) (by decide), x11, ?_⟩
                · rw [p4]; exact nI_lt hk2 (by omega)
                · rw [ix_nI (show k2 < 2 ^ 31 by omega), hS (30 + 4 * k2) (by omega) (by omega), em2]; exact e2
              · rw [hS (341 + 5 * k) (by omega) (by omega), hS (343 + 5 * k) (by omega) (by omega)]
                refine ⟨x0, ?_, x2, ?_, x4, x5, x6, x7, x8, x9, x10, x11, ?_⟩
                · rw [SI_pI, up2_ne' (by omega), SI_pI, up2_nj e]; exact x1
                · rw [SI_pI, up2_nj e, SI_pI, up2_ne' (by omega)]; exact x3
                · obtain ⟨j, hj, ej⟩ := in_nat p4 (by omega) x7 (Int32.le_of_lt x8)
                  rw [ej] at x12 ⊢
                  rw [ix_nI (show j < 2 ^ 31 by omega)] at x12 ⊢
                  rw [hS (30 + 4 * j) (by omega) (by omega)]
                  exact x12
          · refine OpOK_b (-1000000002) h ?_ ?_
            · unfold f_Trail_send
              simp only [bd_, lt_, rX_0_0 hX, rW_0_0 hW, rW_0_2 hW, cK_of (kX_0 hX), cK_of (kW_0 hW), cK_of (kW_1 hW), cK_of (kW_15 hW), Bool.and_true, e_hasBox (kW_15 hW), r2, e_hasPlace (kW_1 hW), p3, e_within, i10, if_false, if_true, inR_e1 ha, inR_e1 ha2, inR_e1 hv, t2, bI_t e2, ix_nI (show k1 < 2 ^ 31 by omega), rW_15_1 hW, rW_15_3 hW, rW_15_4 hW, cA_of (kW_17 hW) (nW_17 hW) (show k1 < 20 by omega) (by decide), cA_of (kW_19 hW) (nW_19 hW) (show k1 < 20 by omega) (by decide), cA_of (kW_20 hW) (nW_20 hW) (show k1 < 20 by omega) (by decide), est, if_neg hs]
            · show f_Model_send Y (nI k1) (nI k2) v true (stn ρ (Shn σ)) = _
              unfold f_Model_send
              simp only [bd_, lt_, rY_0 hY, cK_of (kY_0 hY), cYk hY 6 (v := 6) rfl (by decide), show ix (6 : Int32) = 6 from rfl, Bool.and_true, SI_stn, r3, e_isInL (nI k1) 0 _ 0 (nI nb - 1) rfl rfl, e_isPlace hY, p4, e_isInL v 0 99 0 99 rfl rfl, i10, if_false, if_true, inR_e1 ha, inR_e1 ha2, inR_e1 hv, e_kindOf hY (show k2 < 700 by omega), em2, e_boxAt, nI_p1 (340 + 5 * k1), nI_p3 (340 + 5 * k1), nI_p4 (340 + 5 * k1), ix_nI (show 340 + 5 * k1 + 1 < 2 ^ 31 by omega), ix_nI (show 340 + 5 * k1 + 3 < 2 ^ 31 by omega), ix_nI (show 340 + 5 * k1 + 4 < 2 ^ 31 by omega), cY hY (show 340 + 5 * k1 + 1 < 3210 by omega), cY hY (show 340 + 5 * k1 + 3 < 3210 by omega), cY hY (show 340 + 5 * k1 + 4 < 3210 by omega), show ix (0 : Int32) = 0 from rfl, cYk hY 0 (v := 0) rfl (by decide), if_pos e2, if_neg hs]
        · refine OpOK_b (-1000000012) h ?_ ?_
          · unfold f_Trail_send
            simp only [bd_, lt_, rX_0_0 hX, rW_0_0 hW, rW_0_2 hW, cK_of (kX_0 hX), cK_of (kW_0 hW), cK_of (kW_1 hW), cK_of (kW_15 hW), Bool.and_true, e_hasBox (kW_15 hW), r2, e_hasPlace (kW_1 hW), p3, e_within, i10, if_false, if_true, inR_e1 ha, inR_e1 ha2, inR_e1 hv, t2, bI_f e2]
          · show f_Model_send Y (nI k1) (nI k2) v true (stn ρ (Shn σ)) = _
            unfold f_Model_send
            simp only [bd_, lt_, rY_0 hY, cK_of (kY_0 hY), cYk hY 6 (v := 6) rfl (by decide), show ix (6 : Int32) = 6 from rfl, Bool.and_true, SI_stn, r3, e_isInL (nI k1) 0 _ 0 (nI nb - 1) rfl rfl, e_isPlace hY, p4, e_isInL v 0 99 0 99 rfl rfl, i10, if_false, if_true, inR_e1 ha, inR_e1 ha2, inR_e1 hv, e_kindOf hY (show k2 < 700 by omega), em2, if_neg e2]
      · refine OpOK_b (-1000000001) h ?_ ?_
        · unfold f_Trail_send
          simp only [bd_, lt_, rX_0_0 hX, rW_0_0 hW, rW_0_2 hW, cK_of (kX_0 hX), cK_of (kW_0 hW), cK_of (kW_1 hW), cK_of (kW_15 hW), Bool.and_true, e_hasBox (kW_15 hW), r2, e_hasPlace (kW_1 hW), p3, e_within, i10, if_false, if_true, inR_e1 ha, inR_e1 ha2, inR_e0 hv]
        · show f_Model_send Y a a2 v true (stn ρ (Shn σ)) = _
          unfold f_Model_send
          simp only [bd_, lt_, rY_0 hY, cK_of (kY_0 hY), cYk hY 6 (v := 6) rfl (by decide), show ix (6 : Int32) = 6 from rfl, Bool.and_true, SI_stn, r3, e_isInL a 0 _ 0 (nI nb - 1) rfl rfl, e_isPlace hY, p4, e_isInL v 0 99 0 99 rfl rfl, i10, if_false, if_true, inR_e1 ha, inR_e1 ha2, inR_e0 hv]
    · refine OpOK_b (-1000000001) h ?_ ?_
      · unfold f_Trail_send
        simp only [bd_, lt_, rX_0_0 hX, rW_0_0 hW, rW_0_2 hW, cK_of (kX_0 hX), cK_of (kW_0 hW), cK_of (kW_1 hW), cK_of (kW_15 hW), Bool.and_true, e_hasBox (kW_15 hW), r2, e_hasPlace (kW_1 hW), p3, e_within, i10, if_false, if_true, inR_e1 ha, inR_e0 ha2]
      · show f_Model_send Y a a2 v true (stn ρ (Shn σ)) = _
        unfold f_Model_send
        simp only [bd_, lt_, rY_0 hY, cK_of (kY_0 hY), cYk hY 6 (v := 6) rfl (by decide), show ix (6 : Int32) = 6 from rfl, Bool.and_true, SI_stn, r3, e_isInL a 0 _ 0 (nI nb - 1) rfl rfl, e_isPlace hY, p4, e_isInL v 0 99 0 99 rfl rfl, i10, if_false, if_true, inR_e1 ha, inR_e0 ha2]
  · refine OpOK_b (-1000000001) h ?_ ?_
    · unfold f_Trail_send
      simp only [bd_, lt_, rX_0_0 hX, rW_0_0 hW, rW_0_2 hW, cK_of (kX_0 hX), cK_of (kW_0 hW), cK_of (kW_1 hW), cK_of (kW_15 hW), Bool.and_true, e_hasBox (kW_15 hW), r2, e_hasPlace (kW_1 hW), p3, e_within, i10, if_false, if_true, inR_e0 ha]
    · show f_Model_send Y a a2 v true (stn ρ (Shn σ)) = _
      unfold f_Model_send
      simp only [bd_, lt_, rY_0 hY, cK_of (kY_0 hY), cYk hY 6 (v := 6) rfl (by decide), show ix (6 : Int32) = 6 from rfl, Bool.and_true, SI_stn, r3, e_isInL a 0 _ 0 (nI nb - 1) rfl rfl, e_isPlace hY, p4, e_isInL v 0 99 0 99 rfl rfl, i10, if_false, if_true, inR_e0 ha]
theorem e_orNone (x : Int32) (b : Bool) (σ : Sto) : f_Model_orNone x b σ = (if x < 0 then -1000000005 else x, b, σ) := by
  unfold f_Model_orNone
  simp only [if_pair]
theorem orN {x y : Int32} (h : (x = -1 ∧ y = NONE_) ∨ (bd x 0 2000 ∧ y = x)) : (if x < 0 then (-1000000005 : Int32) else x) = y := by
  rcases h with ⟨h1, h2⟩ | ⟨h1, h2⟩
  · rw [h1, h2]; rfl
  · have q : ¬ x < 0 := fun z => by have := Int32.lt_iff_toInt_lt.mp z; have h0 := h1.1; simp at this; omega
    rw [if_neg q, h2]
theorem op_5 : Op_5 X Y (REL X Y) := by
  intro a v σ ρ h
  have hX := h.2.2.1
  have hY : LayY Y (stn ρ (Shn σ)) := h.2.2.2.1
  have hW := hX.2.1
  obtain ⟨np, nf, p1, p2, p3, p4, p5, p6, p7, p8, p9, p10, p11, p12⟩ := (REL_now2 h).2.1
  by_cases ha : (1 : Int32) ≤ a ∧ a ≤ 3
  · obtain ⟨k, hk, rfl⟩ := in_nat (n := 3) rfl (by decide) (Int32.le_trans (by decide) ha.1) ha.2
    have hk1 : 1 ≤ k := by
      have := Int32.le_iff_toInt_le.mp ha.1
      rw [nI_toInt (by omega)] at this
      have h2 : (1 : Int) ≤ (k : Int) := by simpa using this
      omega
    have eo := orN (p12 k hk1 hk)
    by_cases hN : v = -1000000005
    · refine OpOK_i (SI σ (X + 1 + 6) k) (pI σ (X + 1 + 6) k v) (pI (stn ρ (Shn σ)) (Y + 1) (10 + k) (-1)) ?_ ?_ Shn_w ?_
      · unfold f_Trail_land
        simp only [bd_, lt_, rX_0_0 hX, rW_0_0 hW, cK_of (kX_0 hX), cK_of (kW_0 hW), cK_of (kW_1 hW), Bool.and_true, e_within, e_hasMile (kW_1 hW), p7, i10, if_false, if_true, inR_e1 ha, if_pos hN, rW_1_4 hW, ix_nI (show k < 2 ^ 31 by omega), cA_of (kW_6 hW) (nW_6 hW) (show k < 4 by omega) (by decide)]
      · show f_Model_land Y (nI k) v true (stn ρ (Shn σ)) = _
        unfold f_Model_land
        simp only [bd_, lt_, cK_of (kY_0 hY), Bool.and_true, e_isInL (nI k) 1 3 1 3 rfl rfl, e_isMile hY, SI_stn, i10, if_false, if_true, inR_e1 ha, if_pos hN, show (10 : Int32) + nI k = nI (10 + k) from nI_add 10 k, e_becomes hY (10 + k) (by omega), e_orNone, eo]
      · have hS : ∀ j, j ≠ 10 + k → SI (pI (stn ρ (Shn σ)) (Y + 1) (10 + k) (-1)) (Y + 1) j = SI ρ (Y + 1) j := fun j hj => up2_nj hj
        have hσ : ∀ b, b ≠ X + 1 + 6 → SI (pI σ (X + 1 + 6) k v) b = SI σ b := fun b hb => up2_ne hb
        refine REL_W h Shn_pI (SB_p SB_0 (by omega) (by omega)) (SB_p SB_n (by omega) (by omega)) (RWd_G (REL_now2 h) (by omega) Shn_pI (SB_p SB_0 (by omega) (by omega)) (fun i hi => hS i (by omega)) (by rw [hS 2 (by omega)]; exact Int32.le_refl _) (fun k' np' _ _ _ => hS _ (by omega)) ?_)
        refine ⟨np, nf, p1, p2, by rw [hσ _ (by omega)]; exact p3, by rw [hS _ (by omega)]; exact p4, by rw [hσ _ (by omega)]; exact p5, by rw [hS _ (by omega)]; exact p6, by rw [hσ _ (by omega), hS _ (by omega)]; exact p7, by rw [hS _ (by omega)]; exact p8, fun k' hk' => ?_, fun i i' hi hi' => ?_, fun k' hk' => ?_, fun k' h1 h2 => ?_⟩
        · rw [hσ (X + 1 + 2) (by omega), hσ (X + 1 + 3) (by omega), hσ (X + 1 + 4) (by omega), hσ (X + 1 + 5) (by omega), hS (30 + 4 * k') (by omega), hS (31 + 4 * k') (by omega), hS (32 + 4 * k') (by omega), hS (33 + 4 * k') (by omega), hS 1 (by omega)]
          exact p9 k' hk'
        · rw [hS (31 + 4 * i) (by omega), hS (31 + 4 * i') (by omega)]
          exact p10 i i' hi hi'
        · rw [hσ (X + 1 + 7) (by omega), hσ (X + 1 + 8) (by omega), hσ (X + 1 + 9) (by omega), hσ (X + 1 + 10) (by omega), hS (100 + 4 * k') (by omega), hS (101 + 4 * k') (by omega), hS (102 + 4 * k') (by omega), hS (103 + 4 * k') (by omega), hS 1 (by omega)]
          exact p11 k' hk'
        · by_cases ekk : k' = k
          · subst ekk
            rw [SI_pI, up2_s, SI_pI, up2_s]
            exact Or.inl ⟨rfl, hN⟩
          · rw [hS (10 + k') (by omega), SI_pI, up2_nj ekk]
            exact p12 k' h1 h2
    · by_cases hv : (0 : Int32) ≤ v ∧ v ≤ SI ρ (Y + 1) 1
      · refine OpOK_i (SI σ (X + 1 + 6) k) (pI σ (X + 1 + 6) k v) (pI (stn ρ (Shn σ)) (Y + 1) (10 + k) v) ?_ ?_ Shn_w ?_
        · unfold f_Trail_land
          simp only [bd_, lt_, rX_0_0 hX, rW_0_0 hW, cK_of (kX_0 hX), cK_of (kW_0 hW), cK_of (kW_1 hW), Bool.and_true, e_within, e_hasMile (kW_1 hW), p7, i10, if_false, if_true, inR_e1 ha, if_neg hN, inR_e1 hv, rW_1_4 hW, ix_nI (show k < 2 ^ 31 by omega), cA_of (kW_6 hW) (nW_6 hW) (show k < 4 by omega) (by decide)]
        · show f_Model_land Y (nI k) v true (stn ρ (Shn σ)) = _
          unfold f_Model_land
          simp only [bd_, lt_, cK_of (kY_0 hY), Bool.and_true, e_isInL (nI k) 1 3 1 3 rfl rfl, e_isMile hY, SI_stn, i10, if_false, if_true, inR_e1 ha, if_neg hN, inR_e1 hv, show (10 : Int32) + nI k = nI (10 + k) from nI_add 10 k, e_becomes hY (10 + k) (by omega), e_orNone, eo]
        · have hS : ∀ j, j ≠ 10 + k → SI (pI (stn ρ (Shn σ)) (Y + 1) (10 + k) v) (Y + 1) j = SI ρ (Y + 1) j := fun j hj => up2_nj hj
          have hσ : ∀ b, b ≠ X + 1 + 6 → SI (pI σ (X + 1 + 6) k v) b = SI σ b := fun b hb => up2_ne hb
          refine REL_W h Shn_pI (SB_p SB_0 (by omega) (by omega)) (SB_p SB_n (by omega) (by omega)) (RWd_G (REL_now2 h) (by omega) Shn_pI (SB_p SB_0 (by omega) (by omega)) (fun i hi => hS i (by omega)) (by rw [hS 2 (by omega)]; exact Int32.le_refl _) (fun k' np' _ _ _ => hS _ (by omega)) ?_)
          refine ⟨np, nf, p1, p2, by rw [hσ _ (by omega)]; exact p3, by rw [hS _ (by omega)]; exact p4, by rw [hσ _ (by omega)]; exact p5, by rw [hS _ (by omega)]; exact p6, by rw [hσ _ (by omega), hS _ (by omega)]; exact p7, by rw [hS _ (by omega)]; exact p8, fun k' hk' => ?_, fun i i' hi hi' => ?_, fun k' hk' => ?_, fun k' h1 h2 => ?_⟩
          · rw [hσ (X + 1 + 2) (by omega), hσ (X + 1 + 3) (by omega), hσ (X + 1 + 4) (by omega), hσ (X + 1 + 5) (by omega), hS (30 + 4 * k') (by omega), hS (31 + 4 * k') (by omega), hS (32 + 4 * k') (by omega), hS (33 + 4 * k') (by omega), hS 1 (by omega)]
            exact p9 k' hk'
          · rw [hS (31 + 4 * i) (by omega), hS (31 + 4 * i') (by omega)]
            exact p10 i i' hi hi'
          · rw [hσ (X + 1 + 7) (by omega), hσ (X + 1 + 8) (by omega), hσ (X + 1 + 9) (by omega), hσ (X + 1 + 10) (by omega), hS (100 + 4 * k') (by omega), hS (101 + 4 * k') (by omega), hS (102 + 4 * k') (by omega), hS (103 + 4 * k') (by omega), hS 1 (by omega)]
            exact p11 k' hk'
          · by_cases ekk : k' = k
            · subst ekk
              rw [SI_pI, up2_s, SI_pI, up2_s]
              exact Or.inr ⟨⟨(i32_bd hv).1, Int.le_trans (i32_bd hv).2 p8.2⟩, rfl⟩
            · rw [hS (10 + k') (by omega), SI_pI, up2_nj ekk]
              exact p12 k' h1 h2
      · refine OpOK_b (-1000000001) h ?_ ?_
        · unfold f_Trail_land
          simp only [bd_, lt_, rX_0_0 hX, rW_0_0 hW, cK_of (kX_0 hX), cK_of (kW_0 hW), cK_of (kW_1 hW), Bool.and_true, e_within, e_hasMile (kW_1 hW), p7, i10, if_false, if_true, inR_e1 ha, if_neg hN, inR_e0 hv]
        · show f_Model_land Y (nI k) v true (stn ρ (Shn σ)) = _
          unfold f_Model_land
          simp only [bd_, lt_, cK_of (kY_0 hY), Bool.and_true, e_isInL (nI k) 1 3 1 3 rfl rfl, e_isMile hY, SI_stn, i10, if_false, if_true, inR_e1 ha, if_neg hN, inR_e0 hv]
  · refine OpOK_b (-1000000001) h ?_ ?_
    · unfold f_Trail_land
      simp only [bd_, lt_, rX_0_0 hX, rW_0_0 hW, cK_of (kX_0 hX), cK_of (kW_0 hW), cK_of (kW_1 hW), Bool.and_true, e_within, e_hasMile (kW_1 hW), p7, i10, if_false, if_true, inR_e0 ha]
    · show f_Model_land Y a v true (stn ρ (Shn σ)) = _
      unfold f_Model_land
      simp only [bd_, lt_, cK_of (kY_0 hY), Bool.and_true, e_isInL a 1 3 1 3 rfl rfl, e_isMile hY, SI_stn, i10, if_false, if_true, inR_e0 ha]
end OP10
