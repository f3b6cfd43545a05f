/-! wishes, the tape's end, lands -/
section OP4
variable {X Y : Nat} {σ ρ : Sto}
theorem cK_pI {a j x k : Nat} {v : Int32} : cK (pI σ a j v) x k = cK σ x k := rfl
theorem cA_pI {a j x k : Nat} {v i : Int32} : cA (pI σ a j v) x k i = cA σ x k i := rfl
theorem op_26 : Op_26 X Y (REL X Y) := by
  intro a v σ ρ h
  have hX := h.2.2.1
  have hY : LayY Y (stn ρ (Shn σ)) := h.2.2.2.1
  have hW := hX.2.1
  obtain ⟨nq, r1, r2, r3, r4, r5⟩ := (REL_now2 h).2.2.1
  have r3' : SI (stn ρ (Shn σ)) (Y + 1) 7 = nI nq := r3
  by_cases ha : (0 : Int32) ≤ a ∧ a ≤ 999
  · by_cases hv : (0 : Int32) ≤ v ∧ v ≤ 9
    · by_cases hq : nq < 16
      · have hlt : nI nq < (16 : Int32) := nI_lt (b := 16) hq (by decide)
        have hne : ¬ nI nq = (16 : Int32) := fun e => by have := (nI_eq (b := 16) (by omega) (by decide)).mp e; omega
        refine OpOK_i (nI nq) (pI (pI (pI σ (X + 1 + 23) nq a) (X + 1 + 24) nq v) (X + 1 + 21) 3 (nI nq + 1)) (pI (pI (pI (stn ρ (Shn σ)) (Y + 1) (440 + 2 * nq) a) (Y + 1) (440 + 2 * nq + 1) v) (Y + 1) 7 (nI nq + 1)) ?_ ?_ rfl ?_
        · have n1 : X + 1 + 21 ≠ X + 1 + 23 := by omega
          have n2 : X + 1 + 21 ≠ X + 1 + 24 := by omega
          unfold f_Trail_wish f_Permits_addWish
          simp only [bd_, lt_, e_within, inR_e1 ha, inR_e1 hv, i10, if_false, rX_0_0 hX, rW_0_3 hW, r2, if_pos hlt, SR_pI, rW_21_1 hW, rW_21_2 hW, cK_pI, cA_pI, cK_of (kX_0 hX), cK_of (kW_0 hW), cK_of (kW_21 hW), SI_pI, up2_ne' n1, up2_ne' n2, up2_s, ix_nI (show nq < 2 ^ 31 by omega), cA_of (kW_23 hW) (nW_23 hW) hq (by decide), cA_of (kW_24 hW) (nW_24 hW) hq (by decide), Bool.and_true, Int32.add_sub_cancel]
        · show f_Model_wish Y a v true (stn ρ (Shn σ)) = _
          have n1 : (7 : Nat) ≠ 440 + 2 * nq := by omega
          have n2 : (7 : Nat) ≠ 440 + 2 * nq + 1 := by omega
          unfold f_Model_wish
          simp only [bd_, lt_, e_isInL a 0 999 0 999 rfl rfl, e_isInL v 0 9 0 9 rfl rfl, inR_e1 ha, inR_e1 hv, i10, if_false, rY_0 hY, show ix (7 : Int32) = 7 from rfl, r3', if_neg hne, SR_pI, cK_pI, cA_pI, cK_of (kY_0 hY), cYk hY 7 (v := 7) rfl (by decide), SI_pI, up2_nj n1, up2_nj n2, up2_s, show (440 : Int32) + 2 * nI nq = nI (440 + 2 * nq) from ar2 440 2 nq, nI_p1 (440 + 2 * nq), ix_nI (show 440 + 2 * nq < 2 ^ 31 by omega), ix_nI (show 440 + 2 * nq + 1 < 2 ^ 31 by omega), cY hY (show 440 + 2 * nq < 3210 by omega), cY hY (show 440 + 2 * nq + 1 < 3210 by omega), Bool.and_true, Int32.add_sub_cancel]
        · refine REL_W h rfl (SB_p (SB_p (SB_p SB_0 (by omega) (by omega)) (by omega) (by omega)) (by omega) (by omega)) (SB_p (SB_p (SB_p SB_n (by omega) (by omega)) (by omega) (by omega)) (by omega) (by omega)) (RWd_Q (REL_now2 h) (by omega) rfl (SB_p (SB_p (SB_p SB_0 (by omega) (by omega)) (by omega) (by omega)) (by omega) (by omega)) (fun i hi => ?_) ?_)
          · rw [SI_pI, up2_nj (by omega), SI_pI, up2_nj (by omega), SI_pI, up2_nj (by omega)]; rfl
          · refine ⟨nq + 1, hq, ?_, ?_, fun k hk => ?_, fun k hk => ?_⟩
            · rw [SI_pI, up2_s, nI_1]
            · rw [SI_pI, up2_s, nI_1]
            · have e1 : SI (pI (pI (pI (stn ρ (Shn σ)) (Y + 1) (440 + 2 * nq) a) (Y + 1) (440 + 2 * nq + 1) v) (Y + 1) 7 (nI nq + 1)) (Y + 1) (440 + 2 * k) = if k = nq then a else SI ρ (Y + 1) (440 + 2 * k) := by
                rw [SI_pI, up2_nj (by omega), SI_pI, up2_nj (by omega), SI_pI]
                by_cases e : k = nq
                · rw [if_pos e, e, up2_s]
                · rw [if_neg e, up2_nj (by omega)]; rfl
              have e2 : SI (pI (pI (pI (stn ρ (Shn σ)) (Y + 1) (440 + 2 * nq) a) (Y + 1) (440 + 2 * nq + 1) v) (Y + 1) 7 (nI nq + 1)) (Y + 1) (441 + 2 * k) = if k = nq then v else SI ρ (Y + 1) (441 + 2 * k) := by
                rw [SI_pI, up2_nj (by omega), SI_pI]
                by_cases e : k = nq
                · rw [if_pos e, e, show 441 + 2 * nq = 440 + 2 * nq + 1 by omega, up2_s]
                · rw [if_neg e, up2_nj (by omega), SI_pI, up2_nj (by omega)]; rfl
              have e3 : SI (pI (pI (pI σ (X + 1 + 23) nq a) (X + 1 + 24) nq v) (X + 1 + 21) 3 (nI nq + 1)) (X + 1 + 23) k = if k = nq then a else SI σ (X + 1 + 23) k := by
                rw [SI_pI, up2_ne' (by omega), SI_pI, up2_ne' (by omega), SI_pI]
                by_cases e : k = nq
                · rw [if_pos e, e, up2_s]
                · rw [if_neg e, up2_nj e]
              have e4 : SI (pI (pI (pI σ (X + 1 + 23) nq a) (X + 1 + 24) nq v) (X + 1 + 21) 3 (nI nq + 1)) (X + 1 + 24) k = if k = nq then v else SI σ (X + 1 + 24) k := by
                rw [SI_pI, up2_ne' (by omega), SI_pI]
                by_cases e : k = nq
                · rw [if_pos e, e, up2_s]
                · rw [if_neg e, up2_nj e, SI_pI, up2_ne' (by omega)]
              rw [e1, e2, e3, e4]
              by_cases e : k = nq
              · simp only [if_pos e]
                exact ⟨trivial, trivial, i32_bd ha, i32_bd hv⟩
              · simp only [if_neg e]
                exact r4 k (by omega)
            · rw [SI_pI, up2_ne' (by omega), SI_pI, up2_ne' (by omega), SI_pI, up2_ne' (by omega), SI_pI, up2_nj (by omega), SI_pI, up2_nj (by omega), SI_pI, up2_nj (by omega)]
              exact r5 k hk
      · have hq' : nq = 16 := by omega
        subst hq'
        refine OpOK_b (-1000000003) h ?_ ?_
        · unfold f_Trail_wish
          simp only [bd_, lt_, e_within, inR_e1 ha, inR_e1 hv, i10, if_false, rX_0_0 hX, rW_0_3 hW, r2, if_neg (show ¬ nI 16 < (16 : Int32) by decide), cK_of (kX_0 hX), cK_of (kW_0 hW), cK_of (kW_21 hW), Bool.and_true]
        · show f_Model_wish Y a v true (stn ρ (Shn σ)) = _
          unfold f_Model_wish
          simp only [bd_, lt_, e_isInL a 0 999 0 999 rfl rfl, e_isInL v 0 9 0 9 rfl rfl, inR_e1 ha, inR_e1 hv, i10, if_false, rY_0 hY, show ix (7 : Int32) = 7 from rfl, r3', if_pos (show nI 16 = (16 : Int32) from rfl), cK_of (kY_0 hY), cYk hY 7 (v := 7) rfl (by decide), Bool.and_true]
    · refine OpOK_b (-1000000001) h ?_ ?_
      · unfold f_Trail_wish
        simp only [bd_, lt_, e_within, inR_e1 ha, inR_e0 hv, i10, if_false, if_true]
      · show f_Model_wish Y a v true (stn ρ (Shn σ)) = _
        unfold f_Model_wish
        simp only [bd_, lt_, e_isInL a 0 999 0 999 rfl rfl, e_isInL v 0 9 0 9 rfl rfl, inR_e1 ha, inR_e0 hv, i10, if_false, if_true]
  · refine OpOK_b (-1000000001) h ?_ ?_
    · unfold f_Trail_wish
      simp only [bd_, lt_, e_within, inR_e0 ha, if_true]
    · show f_Model_wish Y a v true (stn ρ (Shn σ)) = _
      unfold f_Model_wish
      simp only [bd_, lt_, e_isInL a 0 999 0 999 rfl rfl, inR_e0 ha, if_true]
/-- the tape has changed, nothing else -/
theorem REL_T {σ' ρ' : Sto} (h : REL X Y σ ρ) (h0 : Shn σ' = Shn σ) (hb : SameBut σ σ' (X + 160) (X + 162)) (k1 : Stk ρ' = Stk ρ) (k2 : Sln ρ' = Sln ρ) (k3 : SR ρ' = SR ρ) (k4 : SL ρ' = SL ρ) (k6 : ∀ a, a ≠ Y → a ≠ Y + 7 → SI ρ' a = SI ρ a) (k7 : SI ρ' Y 3 = SI ρ Y 3 ∧ SI ρ' Y 33 = SI ρ Y 33) (ht : rTape X Y σ' ρ') : REL X Y σ' ρ' := by
  obtain ⟨g1, g2, g3, g4, g5, g6, g7, g8, g9, g10⟩ := h
  obtain ⟨q1, q2, q3, q4, q5, q6⟩ := hb
  refine ⟨g1, by rw [h0]; exact g2, LayX_c g3 q1 q2 q3, LayY_c g4 k1 k2 k3, by rw [q5]; exact g5, RWd_c g6 h0 q1 q2 q3 (fun b hb => q6 _ (by omega)) (fun j _ => by rw [k6 (Y + 1) (by omega) (by omega)]), ?_, ht, rSh_c g9 (fun b _ _ => ⟨q6 _ (by omega), by rw [q4]⟩) (k6 _ (by omega) (by omega)) (k6 _ (by omega) (by omega)) (by rw [k4]), rTell_c g10 (by rw [q6 X (by omega)]) (q6 _ (by omega)) k7.2 (k6 _ (by omega) (by omega))⟩
  rw [q6 X (by omega), k7.1, k6 (Y + 2) (by omega) (by omega)]
  rcases g7 with q | ⟨z1, z2, z3⟩
  · exact Or.inl q
  · exact Or.inr ⟨z1, z2, RWd_c z3 h0 q1 q2 q3 (fun b hb => q6 _ (by omega)) (fun _ _ => rfl)⟩
theorem op_11 : Op_11 X Y (REL X Y) := by
  intro a σ ρ h
  have hX := h.2.2.1
  have hY : LayY Y (stn ρ (Shn σ)) := h.2.2.2.1
  obtain ⟨n, r1, r2, r3, r4⟩ := h.2.2.2.2.2.2.2.1
  have r3' : SI (stn ρ (Shn σ)) Y 8 = nI n := r3
  by_cases ha : (0 : Int32) ≤ a ∧ a ≤ nI n
  · obtain ⟨j, hj, rfl⟩ := in_nat rfl (by omega) ha.1 ha.2
    refine OpOK_i (nI j) (pI σ (X + 160) 1 (nI j)) (pI (stn ρ (Shn σ)) Y 8 (nI j)) ?_ ?_ rfl ?_
    · unfold f_Trail_trim
      simp only [bd_, lt_, e_within, rX_0_3 hX, r2, inR_e1 ha, i10, if_false, cK_of (kX_0 hX), cK_of (kX_160 hX), Bool.and_true]
    · show f_Model_trim Y (nI j) true (stn ρ (Shn σ)) = _
      unfold f_Model_trim
      simp only [bd_, lt_, r3', e_isInL (nI j) 0 _ 0 (nI n) rfl rfl, inR_e1 ha, i10, if_false, cK_of (kY_0 hY), Bool.and_true]
    · refine REL_T h rfl (SB_p SB_0 (by omega) (by omega)) rfl rfl rfl rfl (fun b h1 h2 => up2_ne h1) ⟨up2_nj (by omega), up2_nj (by omega)⟩ ⟨j, by omega, up2_s, up2_s, fun k hk => ?_⟩
      rw [SI_pI, up2_ne' (by omega), SI_pI, up2_ne' (by omega)]
      exact r4 k (by omega)
  · refine OpOK_b (-1000000001) h ?_ ?_
    · unfold f_Trail_trim
      simp only [bd_, lt_, e_within, rX_0_3 hX, r2, inR_e0 ha, if_true, cK_of (kX_0 hX), cK_of (kX_160 hX), Bool.and_true]
    · show f_Model_trim Y a true (stn ρ (Shn σ)) = _
      unfold f_Model_trim
      simp only [bd_, lt_, r3', e_isInL a 0 _ 0 (nI n) rfl rfl, inR_e0 ha, if_true, cK_of (kY_0 hY), Bool.and_true]
end OP4
