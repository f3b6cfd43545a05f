/-! fires told -/
section OP15
variable {X Y w : Nat} {σ ρ : Sto}
theorem op_7 : Op_7 X Y (REL X Y) := by
  intro a a2 v σ ρ h
  have hX := h.2.2.1
  have hY : LayY Y (stn ρ (Shn σ)) := h.2.2.2.1
  have hW := hX.2.1
  have hG := (REL_now2 h).2.1
  obtain ⟨np, nf, p1, p2, p3, p4, p5, p6, p7, p8, p9, p10, p11, p12⟩ := id hG
  by_cases ha : (0 : Int32) ≤ a ∧ a ≤ SI ρ (Y + 1) 1
  · by_cases ha2 : (0 : Int32) ≤ a2 ∧ a2 ≤ SI ρ (Y + 1) 1
    · by_cases hl : a < a2
      · by_cases hv : (0 : Int32) ≤ v ∧ v ≤ 999999
        · obtain ⟨m, hm, rfl⟩ := in_nat (n := 999999) rfl (by decide) hv.1 hv.2
          have v0 : ¬ nI m < 0 := nI_pos (by omega)
          have ed : nI m / 1000 = nI (m / 1000) := nI_div (d := 1000) (by omega) (by decide)
          have em : nI m - nI (m / 1000) * 1000 = nI (m % 1000) := by rw [← ed]; exact nI_mod (d := 1000) (by omega) (by decide)
          have h9 : ¬ (999 : Int32) < nI (m / 1000) := nI_nlt (a := 999) (by omega) (by decide)
          by_cases hd : nI (m % 1000) < nI (m / 1000)
          · refine OpOK_b (-1000000001) h ?_ ?_
            · unfold f_Trail_fire
              simp only [bd_, lt_, rX_0_0 hX, rW_0_0 hW, cK_of (kX_0 hX), cK_of (kW_0 hW), cK_of (kW_1 hW), Bool.and_true, e_hasMile (kW_1 hW), p7, e_within, i10, if_false, if_true, show (!decide ((1000 : Int32) = 0)) = true from rfl, inR_e1 ha, inR_e1 ha2, if_pos hl, inR_e1 hv, ed, em, if_pos hd]
            · show f_Model_fire Y a a2 (nI m) true (stn ρ (Shn σ)) = _
              unfold f_Model_fire
              simp only [bd_, lt_, rY_0 hY, cK_of (kY_0 hY), Bool.and_true, SI_stn, e_isMile hY, i10, if_false, if_true, show ix (3 : Int32) = 3 from rfl, p6, cYk hY 3 (v := 3) rfl (by decide), show (!decide ((1000 : Int32) = 0)) = true from rfl, inR_e1 ha, inR_e1 ha2, if_pos hl, if_neg v0, ed, em, if_pos hd]
          · by_cases hq : nf < 6
            · have hlt : nI nf < (6 : Int32) := nI_lt (b := 6) hq (by decide)
              have hne : ¬ nI nf = (6 : Int32) := fun e => by have := (nI_eq (b := 6) (by omega) (by decide)).mp e; omega
              refine OpOK_i (nI nf) (pI (pI (pI (pI (pI σ (X + 1 + 7) nf a) (X + 1 + 8) nf a2) (X + 1 + 9) nf (nI (m / 1000))) (X + 1 + 10) nf (nI (m % 1000))) (X + 1 + 1) 11 (nI nf + 1)) (pI (pI (pI (pI (pI (stn ρ (Shn σ)) (Y + 1) (100 + 4 * nf) a) (Y + 1) (100 + 4 * nf + 1) a2) (Y + 1) (100 + 4 * nf + 2) (nI (m / 1000))) (Y + 1) (100 + 4 * nf + 3) (nI (m % 1000))) (Y + 1) 3 (nI nf + 1)) ?_ ?_ rfl ?_
              · have n1 : X + 1 + 1 ≠ X + 1 + 7 := by omega
                have n2 : X + 1 + 1 ≠ X + 1 + 8 := by omega
                have n3 : X + 1 + 1 ≠ X + 1 + 9 := by omega
                have n4 : X + 1 + 1 ≠ X + 1 + 10 := by omega
                unfold f_Trail_fire f_Ground_addFire
                simp only [bd_, lt_, rX_0_0 hX, rW_0_0 hW, cK_of (kX_0 hX), cK_of (kW_0 hW), cK_of (kW_1 hW), Bool.and_true, e_hasMile (kW_1 hW), p7, e_within, i10, if_false, if_true, show (!decide ((1000 : Int32) = 0)) = true from rfl, inR_e1 ha, inR_e1 ha2, if_pos hl, inR_e1 hv, ed, em, if_neg hd, p5, if_pos hlt, SR_pI, rW_1_5 hW, rW_1_6 hW, rW_1_7 hW, rW_1_8 hW, cK_pI, cA_pI, SI_pI, up2_ne' n1, up2_ne' n2, up2_ne' n3, up2_ne' n4, up2_s, ix_nI (show nf < 2 ^ 31 by omega), cA_of (kW_7 hW) (nW_7 hW) hq (by decide), cA_of (kW_8 hW) (nW_8 hW) hq (by decide), cA_of (kW_9 hW) (nW_9 hW) hq (by decide), cA_of (kW_10 hW) (nW_10 hW) hq (by decide), Int32.add_sub_cancel]
              · show f_Model_fire Y a a2 (nI m) true (stn ρ (Shn σ)) = _
                have n0 : (3 : Nat) ≠ 100 + 4 * nf := by omega
                have n1 : (3 : Nat) ≠ 100 + 4 * nf + 1 := by omega
                have n2 : (3 : Nat) ≠ 100 + 4 * nf + 2 := by omega
                have n3 : (3 : Nat) ≠ 100 + 4 * nf + 3 := by omega
                unfold f_Model_fire
                simp only [bd_, lt_, rY_0 hY, cK_of (kY_0 hY), Bool.and_true, SI_stn, e_isMile hY, i10, if_false, if_true, show ix (3 : Int32) = 3 from rfl, p6, cYk hY 3 (v := 3) rfl (by decide), show (!decide ((1000 : Int32) = 0)) = true from rfl, inR_e1 ha, inR_e1 ha2, if_pos hl, if_neg v0, ed, em, if_neg hd, if_neg h9, if_neg hne, e_fireAt, show nI (100 + 4 * nf) + 0 = nI (100 + 4 * nf) from nI_add _ 0, nI_p1 (100 + 4 * nf), nI_p2 (100 + 4 * nf), nI_p3 (100 + 4 * nf), SR_pI, cK_pI, cA_pI, SI_pI, up2_nj n0, up2_nj n1, up2_nj n2, up2_nj n3, up2_s, ix_nI (show 100 + 4 * nf < 2 ^ 31 by omega), ix_nI (show 100 + 4 * nf + 1 < 2 ^ 31 by omega), ix_nI (show 100 + 4 * nf + 2 < 2 ^ 31 by omega), ix_nI (show 100 + 4 * nf + 3 < 2 ^ 31 by omega), cY hY (show 100 + 4 * nf < 3210 by omega), cY hY (show 100 + 4 * nf + 1 < 3210 by omega), cY hY (show 100 + 4 * nf + 2 < 3210 by omega), cY hY (show 100 + 4 * nf + 3 < 3210 by omega), Int32.add_sub_cancel]
              · have hS : ∀ i, i ≠ 3 → i < 100 ∨ 124 ≤ i → SI (pI (pI (pI (pI (pI (stn ρ (Shn σ)) (Y + 1) (100 + 4 * nf) a) (Y + 1) (100 + 4 * nf + 1) a2) (Y + 1) (100 + 4 * nf + 2) (nI (m / 1000))) (Y + 1) (100 + 4 * nf + 3) (nI (m % 1000))) (Y + 1) 3 (nI nf + 1)) (Y + 1) i = SI ρ (Y + 1) i := fun i h1 h2 => by
                  rw [SI_pI, up2_nj (by omega), SI_pI, up2_nj (by omega), SI_pI, up2_nj (by omega), SI_pI, up2_nj (by omega), SI_pI, up2_nj (by omega)]; rfl
                have hσ : ∀ b, b ≠ X + 1 + 1 → b ≠ X + 1 + 7 → b ≠ X + 1 + 8 → b ≠ X + 1 + 9 → b ≠ X + 1 + 10 → SI (pI (pI (pI (pI (pI σ (X + 1 + 7) nf a) (X + 1 + 8) nf a2) (X + 1 + 9) nf (nI (m / 1000))) (X + 1 + 10) nf (nI (m % 1000))) (X + 1 + 1) 11 (nI nf + 1)) b = SI σ b := fun b h0 h1 h2 h3 h4 => by
                  rw [SI_pI, up2_ne h0, SI_pI, up2_ne h4, SI_pI, up2_ne h3, SI_pI, up2_ne h2, SI_pI, up2_ne h1]
                have hσ1 : ∀ j, j ≠ 11 → SI (pI (pI (pI (pI (pI σ (X + 1 + 7) nf a) (X + 1 + 8) nf a2) (X + 1 + 9) nf (nI (m / 1000))) (X + 1 + 10) nf (nI (m % 1000))) (X + 1 + 1) 11 (nI nf + 1)) (X + 1 + 1) j = SI σ (X + 1 + 1) j := fun j hj => by
                  rw [SI_pI, up2_nj hj, SI_pI, up2_ne' (by omega), SI_pI, up2_ne' (by omega), SI_pI, up2_ne' (by omega), SI_pI, up2_ne' (by omega)]
                refine REL_W h rfl (SB_p (SB_p (SB_p (SB_p (SB_p SB_0 (by omega) (by omega)) (by omega) (by omega)) (by omega) (by omega)) (by omega) (by omega)) (by omega) (by omega)) (SB_p (SB_p (SB_p (SB_p (SB_p SB_n (by omega) (by omega)) (by omega) (by omega)) (by omega) (by omega)) (by omega) (by omega)) (by omega) (by omega)) (RWd_G (REL_now2 h) (by omega) rfl (SB_p (SB_p (SB_p (SB_p (SB_p SB_0 (by omega) (by omega)) (by omega) (by omega)) (by omega) (by omega)) (by omega) (by omega)) (by omega) (by omega)) (fun i hi => hS i (by omega) (by omega)) (by rw [hS 2 (by omega) (by omega)]; exact Int32.le_refl _) (fun k np' hk _ h16 => hS _ (by omega) (by omega)) ?_)
                refine ⟨np, nf + 1, p1, hq, by rw [hσ1 10 (by omega)]; exact p3, by rw [hS 2 (by omega) (by omega)]; exact p4, by rw [SI_pI, up2_s, nI_1], by rw [SI_pI, up2_s, nI_1], by rw [hσ1 9 (by omega), hS 1 (by omega) (by omega)]; exact p7, by rw [hS 1 (by omega) (by omega)]; exact p8, fun k hk => ?_, fun i j hi hj => ?_, fun k hk => ?_, fun k k1 k2 => ?_⟩
                · rw [hσ (X + 1 + 2) (by omega) (by omega) (by omega) (by omega) (by omega), hσ (X + 1 + 3) (by omega) (by omega) (by omega) (by omega) (by omega), hσ (X + 1 + 4) (by omega) (by omega) (by omega) (by omega) (by omega), hσ (X + 1 + 5) (by omega) (by omega) (by omega) (by omega) (by omega), hS (30 + 4 * k) (by omega) (by omega), hS (31 + 4 * k) (by omega) (by omega), hS (32 + 4 * k) (by omega) (by omega), hS (33 + 4 * k) (by omega) (by omega), hS 1 (by omega) (by omega)]
                  exact p9 k hk
                · rw [hS (31 + 4 * i) (by omega) (by omega), hS (31 + 4 * j) (by omega) (by omega)]
                  exact p10 i j hi hj
                · rw [hS 1 (by omega) (by omega)]
                  have c0 : SI (pI (pI (pI (pI (pI σ (X + 1 + 7) nf a) (X + 1 + 8) nf a2) (X + 1 + 9) nf (nI (m / 1000))) (X + 1 + 10) nf (nI (m % 1000))) (X + 1 + 1) 11 (nI nf + 1)) (X + 1 + 7) k = if k = nf then a else SI σ (X + 1 + 7) k := by
                    rw [SI_pI, up2_ne' (by omega), SI_pI, up2_ne' (by omega), SI_pI, up2_ne' (by omega), SI_pI, up2_ne' (by omega), SI_pI]
                    by_cases e : k = nf
                    · rw [if_pos e, e, up2_s]
                    · rw [if_neg e, up2_nj e]
                  have m0 : SI (pI (pI (pI (pI (pI (stn ρ (Shn σ)) (Y + 1) (100 + 4 * nf) a) (Y + 1) (100 + 4 * nf + 1) a2) (Y + 1) (100 + 4 * nf + 2) (nI (m / 1000))) (Y + 1) (100 + 4 * nf + 3) (nI (m % 1000))) (Y + 1) 3 (nI nf + 1)) (Y + 1) (100 + 4 * k) = if k = nf then a else SI ρ (Y + 1) (100 + 4 * k) := by
                    rw [SI_pI, up2_nj (by omega), SI_pI, up2_nj (by omega), SI_pI, up2_nj (by omega), SI_pI, up2_nj (by omega), SI_pI]
                    by_cases e : k = nf
                    · rw [if_pos e, e, up2_s]
                    · rw [if_neg e, up2_nj (by omega)]; rfl
                  have c1 : SI (pI (pI (pI (pI (pI σ (X + 1 + 7) nf a) (X + 1 + 8) nf a2) (X + 1 + 9) nf (nI (m / 1000))) (X + 1 + 10) nf (nI (m % 1000))) (X + 1 + 1) 11 (nI nf + 1)) (X + 1 + 8) k = if k = nf then a2 else SI σ (X + 1 + 8) k := by
                    rw [SI_pI, up2_ne' (by omega), SI_pI, up2_ne' (by omega), SI_pI, up2_ne' (by omega), SI_pI]
                    by_cases e : k = nf
                    · rw [if_pos e, e, up2_s]
                    · rw [if_neg e, up2_nj e, SI_pI, up2_ne' (by omega)]
                  have m1 : SI (pI (pI (pI (pI (pI (stn ρ (Shn σ)) (Y + 1) (100 + 4 * nf) a) (Y + 1) (100 + 4 * nf + 1) a2) (Y + 1) (100 + 4 * nf + 2) (nI (m / 1000))) (Y + 1) (100 + 4 * nf + 3) (nI (m % 1000))) (Y + 1) 3 (nI nf + 1)) (Y + 1) (101 + 4 * k) = if k = nf then a2 else SI ρ (Y + 1) (101 + 4 * k) := by
                    rw [SI_pI, up2_nj (by omega), SI_pI, up2_nj (by omega), SI_pI, up2_nj (by omega), SI_pI]
                    by_cases e : k = nf
                    · rw [if_pos e, e, show 101 + 4 * nf = 100 + 4 * nf + 1 by omega, up2_s]
                    · rw [if_neg e, up2_nj (by omega), SI_pI, up2_nj (by omega)]; rfl
                  have c2 : SI (pI (pI (pI (pI (pI σ (X + 1 + 7) nf a) (X + 1 + 8) nf a2) (X + 1 + 9) nf (nI (m / 1000))) (X + 1 + 10) nf (nI (m % 1000))) (X + 1 + 1) 11 (nI nf + 1)) (X + 1 + 9) k = if k = nf then (nI (m / 1000)) else SI σ (X + 1 + 9) k := by
                    rw [SI_pI, up2_ne' (by omega), SI_pI, up2_ne' (by omega), SI_pI]
                    by_cases e : k = nf
                    · rw [if_pos e, e, up2_s]
                    · rw [if_neg e, up2_nj e, SI_pI, up2_ne' (by omega), SI_pI, up2_ne' (by omega)]
                  have m2 : SI (pI (pI (pI (pI (pI (stn ρ (Shn σ)) (Y + 1) (100 + 4 * nf) a) (Y + 1) (100 + 4 * nf + 1) a2) (Y + 1) (100 + 4 * nf + 2) (nI (m / 1000))) (Y + 1) (100 + 4 * nf + 3) (nI (m % 1000))) (Y + 1) 3 (nI nf + 1)) (Y + 1) (102 + 4 * k) = if k = nf then (nI (m / 1000)) else SI ρ (Y + 1) (102 + 4 * k) := by
                    rw [SI_pI, up2_nj (by omega), SI_pI, up2_nj (by omega), SI_pI]
                    by_cases e : k = nf
                    · rw [if_pos e, e, show 102 + 4 * nf = 100 + 4 * nf + 2 by omega, up2_s]
                    · rw [if_neg e, up2_nj (by omega), SI_pI, up2_nj (by omega), SI_pI, up2_nj (by omega)]; rfl
                  have c3 : SI (pI (pI (pI (pI (pI σ (X + 1 + 7) nf a) (X + 1 + 8) nf a2) (X + 1 + 9) nf (nI (m / 1000))) (X + 1 + 10) nf (nI (m % 1000))) (X + 1 + 1) 11 (nI nf + 1)) (X + 1 + 10) k = if k = nf then (nI (m % 1000)) else SI σ (X + 1 + 10) k := by
                    rw [SI_pI, up2_ne' (by omega), SI_pI]
                    by_cases e : k = nf
                    · rw [if_pos e, e, up2_s]
                    · rw [if_neg e, up2_nj e, SI_pI, up2_ne' (by omega), SI_pI, up2_ne' (by omega), SI_pI, up2_ne' (by omega)]
                  have m3 : SI (pI (pI (pI (pI (pI (stn ρ (Shn σ)) (Y + 1) (100 + 4 * nf) a) (Y + 1) (100 + 4 * nf + 1) a2) (Y + 1) (100 + 4 * nf + 2) (nI (m / 1000))) (Y + 1) (100 + 4 * nf + 3) (nI (m % 1000))) (Y + 1) 3 (nI nf + 1)) (Y + 1) (103 + 4 * k) = if k = nf then (nI (m % 1000)) else SI ρ (Y + 1) (103 + 4 * k) := by
                    rw [SI_pI, up2_nj (by omega), SI_pI]
                    by_cases e : k = nf
                    · rw [if_pos e, e, show 103 + 4 * nf = 100 + 4 * nf + 3 by omega, up2_s]
                    · rw [if_neg e, up2_nj (by omega), SI_pI, up2_nj (by omega), SI_pI, up2_nj (by omega), SI_pI, up2_nj (by omega)]; rfl
                  rw [c0, c1, c2, c3, m0, m1, m2, m3]
                  by_cases e : k = nf
                  · simp only [if_pos e]
                    exact ⟨trivial, trivial, trivial, trivial, ⟨(i32_bd ha).1, Int.le_trans (i32_bd ha).2 p8.2⟩, i32_bd ha2, hl, by constructor <;> rw [nI_toInt (by omega)] <;> omega, by constructor <;> rw [nI_toInt (by omega)] <;> omega⟩
                  · simp only [if_neg e]
                    exact p11 k (by omega)
                · rw [hσ (X + 1 + 6) (by omega) (by omega) (by omega) (by omega) (by omega), hS (10 + k) (by omega) (by omega)]
                  exact p12 k k1 k2
            · have hq' : nf = 6 := by omega
              subst hq'
              refine OpOK_b (-1000000003) h ?_ ?_
              · unfold f_Trail_fire
                simp only [bd_, lt_, rX_0_0 hX, rW_0_0 hW, cK_of (kX_0 hX), cK_of (kW_0 hW), cK_of (kW_1 hW), Bool.and_true, e_hasMile (kW_1 hW), p7, e_within, i10, if_false, if_true, show (!decide ((1000 : Int32) = 0)) = true from rfl, inR_e1 ha, inR_e1 ha2, if_pos hl, inR_e1 hv, ed, em, if_neg hd, p5, if_neg (show ¬ nI 6 < (6 : Int32) by decide)]
              · show f_Model_fire Y a a2 (nI m) true (stn ρ (Shn σ)) = _
                unfold f_Model_fire
                simp only [bd_, lt_, rY_0 hY, cK_of (kY_0 hY), Bool.and_true, SI_stn, e_isMile hY, i10, if_false, if_true, show ix (3 : Int32) = 3 from rfl, p6, cYk hY 3 (v := 3) rfl (by decide), show (!decide ((1000 : Int32) = 0)) = true from rfl, inR_e1 ha, inR_e1 ha2, if_pos hl, if_neg v0, ed, em, if_neg hd, if_neg h9, if_pos (show nI 6 = (6 : Int32) from rfl)]
        · refine OpOK_b (-1000000001) h ?_ ?_
          · unfold f_Trail_fire
            simp only [bd_, lt_, rX_0_0 hX, rW_0_0 hW, cK_of (kX_0 hX), cK_of (kW_0 hW), cK_of (kW_1 hW), Bool.and_true, e_hasMile (kW_1 hW), p7, e_within, i10, if_false, if_true, show (!decide ((1000 : Int32) = 0)) = true from rfl, inR_e1 ha, inR_e1 ha2, if_pos hl, inR_e0 hv]
          · show f_Model_fire Y a a2 v true (stn ρ (Shn σ)) = _
            unfold f_Model_fire
            simp only [bd_, lt_, rY_0 hY, cK_of (kY_0 hY), Bool.and_true, SI_stn, e_isMile hY, i10, if_false, if_true, show ix (3 : Int32) = 3 from rfl, p6, cYk hY 3 (v := 3) rfl (by decide), show (!decide ((1000 : Int32) = 0)) = true from rfl, inR_e1 ha, inR_e1 ha2, if_pos hl]
            by_cases v0 : v < 0
            · rw [if_pos v0]
            · rw [if_neg v0]
              obtain ⟨m, hm, rfl⟩ : ∃ m : Nat, m < 2 ^ 31 ∧ v = nI m := by
                have hb : bd v 0 (2147483647 : Nat) := ⟨by simpa using Int32.le_iff_toInt_le.mp (Int32.not_lt.mp v0), by have := v.toInt_lt; omega⟩
                obtain ⟨m, hm, e⟩ := bd_nat hb
                exact ⟨m, by omega, e⟩
              have hm2 : 999999 < m := Nat.lt_of_not_le (fun z => hv ⟨Int32.not_lt.mp v0, nI_le (b := 999999) z (by decide)⟩)
              have ed : nI m / 1000 = nI (m / 1000) := nI_div (d := 1000) (by omega) (by decide)
              have h9 : (999 : Int32) < nI (m / 1000) := nI_lt (a := 999) (by omega) (by omega)
              simp only [ed, if_pos h9]
              split <;> rfl
      · refine OpOK_b (-1000000001) h ?_ ?_
        · unfold f_Trail_fire
          simp only [bd_, lt_, rX_0_0 hX, rW_0_0 hW, cK_of (kX_0 hX), cK_of (kW_0 hW), cK_of (kW_1 hW), Bool.and_true, e_hasMile (kW_1 hW), p7, e_within, i10, if_false, if_true, show (!decide ((1000 : Int32) = 0)) = true from rfl, inR_e1 ha, inR_e1 ha2, if_neg hl]
        · show f_Model_fire Y a a2 v true (stn ρ (Shn σ)) = _
          unfold f_Model_fire
          simp only [bd_, lt_, rY_0 hY, cK_of (kY_0 hY), Bool.and_true, SI_stn, e_isMile hY, i10, if_false, if_true, show ix (3 : Int32) = 3 from rfl, p6, cYk hY 3 (v := 3) rfl (by decide), show (!decide ((1000 : Int32) = 0)) = true from rfl, inR_e1 ha, inR_e1 ha2, if_neg hl]
    · refine OpOK_b (-1000000001) h ?_ ?_
      · unfold f_Trail_fire
        simp only [bd_, lt_, rX_0_0 hX, rW_0_0 hW, cK_of (kX_0 hX), cK_of (kW_0 hW), cK_of (kW_1 hW), Bool.and_true, e_hasMile (kW_1 hW), p7, e_within, i10, if_false, if_true, show (!decide ((1000 : Int32) = 0)) = true from rfl, inR_e1 ha, inR_e0 ha2]
      · show f_Model_fire Y a a2 v true (stn ρ (Shn σ)) = _
        unfold f_Model_fire
        simp only [bd_, lt_, rY_0 hY, cK_of (kY_0 hY), Bool.and_true, SI_stn, e_isMile hY, i10, if_false, if_true, show ix (3 : Int32) = 3 from rfl, p6, cYk hY 3 (v := 3) rfl (by decide), show (!decide ((1000 : Int32) = 0)) = true from rfl, inR_e1 ha, inR_e0 ha2]
  · refine OpOK_b (-1000000001) h ?_ ?_
    · unfold f_Trail_fire
      simp only [bd_, lt_, rX_0_0 hX, rW_0_0 hW, cK_of (kX_0 hX), cK_of (kW_0 hW), cK_of (kW_1 hW), Bool.and_true, e_hasMile (kW_1 hW), p7, e_within, i10, if_false, if_true, show (!decide ((1000 : Int32) = 0)) = true from rfl, inR_e0 ha]
    · show f_Model_fire Y a a2 v true (stn ρ (Shn σ)) = _
      unfold f_Model_fire
      simp only [bd_, lt_, rY_0 hY, cK_of (kY_0 hY), Bool.and_true, SI_stn, e_isMile hY, i10, if_false, if_true, show ix (3 : Int32) = 3 from rfl, p6, cYk hY 3 (v := 3) rfl (by decide), show (!decide ((1000 : Int32) = 0)) = true from rfl, inR_e0 ha]
end OP15
