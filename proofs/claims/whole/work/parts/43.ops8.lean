/-! rides, boxes -/
section OP8
variable {X Y : Nat} {σ ρ : Sto}
theorem add_bd {x y : Int32} {a c : Int} (hx : bd x 0 a) (hy : bd y 0 c) (h : a + c < 2 ^ 31) : bd (x + y) 0 (a + c) := by
  obtain ⟨x1, x2⟩ := hx
  obtain ⟨y1, y2⟩ := hy
  have e : (x + y).toInt = x.toInt + y.toInt := by
    rw [Int32.toInt_add]
    exact Int.bmod_eq_of_le (by omega) (by omega)
  exact ⟨by omega, by omega⟩
theorem op_31 : Op_31 X Y (REL X Y) := by
  intro a a2 v σ ρ h
  have hX := h.2.2.1
  have hY : LayY Y (stn ρ (Shn σ)) := h.2.2.2.1
  have hW := hX.2.1
  obtain ⟨np, nf, p1, p2, p3, p4, p5, p6, p7, p8, p9, p10, p11, p12⟩ := (REL_now2 h).2.1
  obtain ⟨s1, s2, nr, r1, r2, r3, r4⟩ := (REL_now2 h).2.2.2.1
  have p4' : SI (stn ρ (Shn σ)) (Y + 1) 2 = nI np := p4
  have r3' : SI (stn ρ (Shn σ)) (Y + 1) 8 = nI nr := r3
  by_cases ha : (0 : Int32) ≤ a ∧ a ≤ nI np - 1
  · by_cases ha2 : (0 : Int32) ≤ a2 ∧ a2 ≤ nI np - 1
    · by_cases hd : a = a2
      · refine OpOK_b (-1000000001) h ?_ ?_
        · unfold f_Trail_ride
          simp only [bd_, lt_, rX_0_0 hX, rW_0_0 hW, cK_of (kX_0 hX), cK_of (kW_0 hW), cK_of (kW_1 hW), Bool.and_true, e_hasPlace (kW_1 hW), p3, inR_e1 ha, inR_e1 ha2, i10, if_false, if_pos hd]
        · show f_Model_ride Y a a2 v true (stn ρ (Shn σ)) = _
          unfold f_Model_ride
          simp only [bd_, lt_, cK_of (kY_0 hY), Bool.and_true, e_isPlace hY, p4', inR_e1 ha, inR_e1 ha2, i10, if_false, if_pos hd]
      · by_cases hv : (1 : Int32) ≤ v ∧ v ≤ 999
        · obtain ⟨k1, hk1, rfl⟩ := in_idx (by omega) ha
          obtain ⟨k2, hk2, rfl⟩ := in_idx (by omega) ha2
          obtain ⟨m1, hm1, em1⟩ := bd_nat (n := 5) (p9 k1 hk1).2.2.2.2.1
          obtain ⟨m2, hm2, em2⟩ := bd_nat (n := 5) (p9 k2 hk2).2.2.2.2.1
          have t1 := e_isTown hW (REL_cs h) (show k1 < 16 by omega) hm1 (show SI σ (X + 1 + 2) k1 = nI m1 by rw [(p9 k1 hk1).1, em1])
          have t2 := e_isTown hW (REL_cs h) (show k2 < 16 by omega) hm2 (show SI σ (X + 1 + 2) k2 = nI m2 by rw [(p9 k2 hk2).1, em2])
          have em1' : SI (stn ρ (Shn σ)) (Y + 1) (30 + 4 * k1) = nI m1 := em1
          have em2' : SI (stn ρ (Shn σ)) (Y + 1) (30 + 4 * k2) = nI m2 := em2
          by_cases e1 : nI m1 = 3
          · by_cases e2 : nI m2 = 3
            · by_cases hq : nr < 12
              · have hlt : nI nr < (12 : Int32) := nI_lt (b := 12) hq (by decide)
                have hne : ¬ nI nr = (12 : Int32) := fun e => by have := (nI_eq (b := 12) (by omega) (by decide)).mp e; omega
                refine OpOK_i (nI nr) (pI (pI (pI (pI σ (X + 1 + 29) nr (nI k1)) (X + 1 + 30) nr (nI k2)) (X + 1 + 31) nr v) (X + 1 + 28) 4 (nI nr + 1)) (pI (pI (pI (pI (stn ρ (Shn σ)) (Y + 1) (480 + 3 * nr) (nI k1)) (Y + 1) (480 + 3 * nr + 1) (nI k2)) (Y + 1) (480 + 3 * nr + 2) v) (Y + 1) 8 (nI nr + 1)) ?_ ?_ rfl ?_
                · have n1 : X + 1 + 28 ≠ X + 1 + 29 := by omega
                  have n2 : X + 1 + 28 ≠ X + 1 + 30 := by omega
                  have n3 : X + 1 + 28 ≠ X + 1 + 31 := by omega
                  unfold f_Trail_ride f_Supply_addRide
                  simp only [bd_, lt_, rX_0_0 hX, rW_0_0 hW, rW_0_4 hW, cK_of (kX_0 hX), cK_of (kW_0 hW), cK_of (kW_1 hW), Bool.and_true, e_hasPlace (kW_1 hW), p3, inR_e1 ha, inR_e1 ha2, i10, if_false, if_neg hd, e_within, inR_e1 hv, t1, t2, bI_t e1, bI_t e2, r2, if_pos hlt, SR_pI, rW_28_1 hW, rW_28_2 hW, rW_28_3 hW, cK_pI, cA_pI, cK_of (kW_28 hW), SI_pI, up2_ne' n1, up2_ne' n2, up2_ne' n3, up2_s, ix_nI (show nr < 2 ^ 31 by omega), cA_of (kW_29 hW) (nW_29 hW) hq (by decide), cA_of (kW_30 hW) (nW_30 hW) hq (by decide), cA_of (kW_31 hW) (nW_31 hW) hq (by decide), Int32.add_sub_cancel]
                · show f_Model_ride Y (nI k1) (nI k2) v true (stn ρ (Shn σ)) = _
                  have n1 : (8 : Nat) ≠ 480 + 3 * nr := by omega
                  have n2 : (8 : Nat) ≠ 480 + 3 * nr + 1 := by omega
                  have n3 : (8 : Nat) ≠ 480 + 3 * nr + 2 := by omega
                  unfold f_Model_ride
                  simp only [bd_, lt_, cK_of (kY_0 hY), Bool.and_true, e_isPlace hY, p4', inR_e1 ha, inR_e1 ha2, i10, if_false, if_neg hd, e_isInL v 1 999 1 999 rfl rfl, inR_e1 hv, e_kindOf hY (show k1 < 700 by omega), e_kindOf hY (show k2 < 700 by omega), em1', em2', if_pos e1, if_pos e2, rY_0 hY, show ix (8 : Int32) = 8 from rfl, r3', if_neg hne, SR_pI, cK_pI, cA_pI, cYk hY 8 (v := 8) rfl (by decide), SI_pI, up2_nj n1, up2_nj n2, up2_nj n3, up2_s, show (480 : Int32) + 3 * nI nr = nI (480 + 3 * nr) from ar2 480 3 nr, nI_p1 (480 + 3 * nr), nI_p2 (480 + 3 * nr), ix_nI (show 480 + 3 * nr < 2 ^ 31 by omega), ix_nI (show 480 + 3 * nr + 1 < 2 ^ 31 by omega), ix_nI (show 480 + 3 * nr + 2 < 2 ^ 31 by omega), cY hY (show 480 + 3 * nr < 3210 by omega), cY hY (show 480 + 3 * nr + 1 < 3210 by omega), cY hY (show 480 + 3 * nr + 2 < 3210 by omega), Int32.add_sub_cancel]
                · have hS : ∀ i, i ≠ 8 → i < 480 ∨ 516 ≤ i → SI (pI (pI (pI (pI (stn ρ (Shn σ)) (Y + 1) (480 + 3 * nr) (nI k1)) (Y + 1) (480 + 3 * nr + 1) (nI k2)) (Y + 1) (480 + 3 * nr + 2) v) (Y + 1) 8 (nI nr + 1)) (Y + 1) i = SI ρ (Y + 1) i := fun i h1 h2 => by
                    rw [SI_pI, up2_nj (by omega), SI_pI, up2_nj (by omega), SI_pI, up2_nj (by omega), SI_pI, up2_nj (by omega)]; rfl
                  refine REL_W h rfl (SB_p (SB_p (SB_p (SB_p SB_0 (by omega) (by omega)) (by omega) (by omega)) (by omega) (by omega)) (by omega) (by omega)) (SB_p (SB_p (SB_p (SB_p SB_n (by omega) (by omega)) (by omega) (by omega)) (by omega) (by omega)) (by omega) (by omega)) (RWd_S (REL_now2 h) (by omega) rfl (SB_p (SB_p (SB_p (SB_p SB_0 (by omega) (by omega)) (by omega) (by omega)) (by omega) (by omega)) (by omega) (by omega)) (fun i hi => hS i (by omega) (by omega)) ?_)
                  refine ⟨?_, ?_, nr + 1, hq, ?_, ?_, fun k hk => ?_⟩
                  · rw [hS 10 (by omega) (by omega), SI_pI, up2_nj (by omega), SI_pI, up2_ne' (by omega), SI_pI, up2_ne' (by omega), SI_pI, up2_ne' (by omega)]; exact s1
                  · rw [hS 10 (by omega) (by omega)]; exact s2
                  · rw [SI_pI, up2_s, nI_1]
                  · rw [SI_pI, up2_s, nI_1]
                  · rw [hS 2 (by omega) (by omega)]
                    have c0 : SI (pI (pI (pI (pI σ (X + 1 + 29) nr (nI k1)) (X + 1 + 30) nr (nI k2)) (X + 1 + 31) nr v) (X + 1 + 28) 4 (nI nr + 1)) (X + 1 + 29) k = if k = nr then (nI k1) else SI σ (X + 1 + 29) k := by
                      rw [SI_pI, up2_ne' (by omega), SI_pI, up2_ne' (by omega), SI_pI, up2_ne' (by omega), SI_pI]
                      by_cases e : k = nr
                      · rw [if_pos e, e, up2_s]
                      · rw [if_neg e, up2_nj e]
                    have m0 : SI (pI (pI (pI (pI (stn ρ (Shn σ)) (Y + 1) (480 + 3 * nr) (nI k1)) (Y + 1) (480 + 3 * nr + 1) (nI k2)) (Y + 1) (480 + 3 * nr + 2) v) (Y + 1) 8 (nI nr + 1)) (Y + 1) (480 + 3 * k) = if k = nr then (nI k1) else SI ρ (Y + 1) (480 + 3 * k) := by
                      rw [SI_pI, up2_nj (by omega), SI_pI, up2_nj (by omega), SI_pI, up2_nj (by omega), SI_pI]
                      by_cases e : k = nr
                      · rw [if_pos e, e, up2_s]
                      · rw [if_neg e, up2_nj (by omega)]; rfl
                    have c1 : SI (pI (pI (pI (pI σ (X + 1 + 29) nr (nI k1)) (X + 1 + 30) nr (nI k2)) (X + 1 + 31) nr v) (X + 1 + 28) 4 (nI nr + 1)) (X + 1 + 30) k = if k = nr then (nI k2) else SI σ (X + 1 + 30) k := by
                      rw [SI_pI, up2_ne' (by omega), SI_pI, up2_ne' (by omega), SI_pI]
                      by_cases e : k = nr
                      · rw [if_pos e, e, up2_s]
                      · rw [if_neg e, up2_nj e, SI_pI, up2_ne' (by omega)]
                    have m1' : SI (pI (pI (pI (pI (stn ρ (Shn σ)) (Y + 1) (480 + 3 * nr) (nI k1)) (Y + 1) (480 + 3 * nr + 1) (nI k2)) (Y + 1) (480 + 3 * nr + 2) v) (Y + 1) 8 (nI nr + 1)) (Y + 1) (481 + 3 * k) = if k = nr then (nI k2) else SI ρ (Y + 1) (481 + 3 * k) := by
                      rw [SI_pI, up2_nj (by omega), SI_pI, up2_nj (by omega), SI_pI]
                      by_cases e : k = nr
                      · rw [if_pos e, e, show 481 + 3 * nr = 480 + 3 * nr + 1 by omega, up2_s]
                      · rw [if_neg e, up2_nj (by omega), SI_pI, up2_nj (by omega)]; rfl
                    have c2 : SI (pI (pI (pI (pI σ (X + 1 + 29) nr (nI k1)) (X + 1 + 30) nr (nI k2)) (X + 1 + 31) nr v) (X + 1 + 28) 4 (nI nr + 1)) (X + 1 + 31) k = if k = nr then v else SI σ (X + 1 + 31) k := by
                      rw [SI_pI, up2_ne' (by omega), SI_pI]
                      by_cases e : k = nr
                      · rw [if_pos e, e, up2_s]
                      · rw [if_neg e, up2_nj e, SI_pI, up2_ne' (by omega), SI_pI, up2_ne' (by omega)]
                    have m2' : SI (pI (pI (pI (pI (stn ρ (Shn σ)) (Y + 1) (480 + 3 * nr) (nI k1)) (Y + 1) (480 + 3 * nr + 1) (nI k2)) (Y + 1) (480 + 3 * nr + 2) v) (Y + 1) 8 (nI nr + 1)) (Y + 1) (482 + 3 * k) = if k = nr then v else SI ρ (Y + 1) (482 + 3 * k) := by
                      rw [SI_pI, up2_nj (by omega), SI_pI]
                      by_cases e : k = nr
                      · rw [if_pos e, e, show 482 + 3 * nr = 480 + 3 * nr + 2 by omega, up2_s]
                      · rw [if_neg e, up2_nj (by omega), SI_pI, up2_nj (by omega), SI_pI, up2_nj (by omega)]; rfl
                    rw [c0, c1, c2, m0, m1', m2']
                    by_cases e : k = nr
                    · simp only [if_pos e]
                      refine ⟨trivial, trivial, trivial, ha.1, ?_, ha2.1, ?_, i32_bd hv⟩
                      · rw [p4]; exact nI_lt hk1 (by omega)
                      · rw [p4]; exact nI_lt hk2 (by omega)
                    · simp only [if_neg e]
                      exact r4 k (by omega)
              · have hq' : nr = 12 := by omega
                subst hq'
                refine OpOK_b (-1000000003) h ?_ ?_
                · unfold f_Trail_ride
                  simp only [bd_, lt_, rX_0_0 hX, rW_0_0 hW, rW_0_4 hW, cK_of (kX_0 hX), cK_of (kW_0 hW), cK_of (kW_1 hW), cK_of (kW_28 hW), Bool.and_true, e_hasPlace (kW_1 hW), p3, inR_e1 ha, inR_e1 ha2, i10, if_false, if_neg hd, e_within, inR_e1 hv, t1, t2, bI_t e1, bI_t e2, r2, if_neg (show ¬ nI 12 < (12 : Int32) by decide)]
                · show f_Model_ride Y (nI k1) (nI k2) v true (stn ρ (Shn σ)) = _
                  unfold f_Model_ride
                  simp only [bd_, lt_, cK_of (kY_0 hY), Bool.and_true, e_isPlace hY, p4', inR_e1 ha, inR_e1 ha2, i10, if_false, if_neg hd, e_isInL v 1 999 1 999 rfl rfl, inR_e1 hv, e_kindOf hY (show k1 < 700 by omega), e_kindOf hY (show k2 < 700 by omega), em1', em2', if_pos e1, if_pos e2, rY_0 hY, show ix (8 : Int32) = 8 from rfl, r3', if_pos (show nI 12 = (12 : Int32) from rfl), cYk hY 8 (v := 8) rfl (by decide)]
            · refine OpOK_b (-1000000012) h ?_ ?_
              · unfold f_Trail_ride
                simp only [bd_, lt_, rX_0_0 hX, rW_0_0 hW, cK_of (kX_0 hX), cK_of (kW_0 hW), cK_of (kW_1 hW), Bool.and_true, e_hasPlace (kW_1 hW), p3, inR_e1 ha, inR_e1 ha2, i10, if_false, if_true, if_neg hd, e_within, inR_e1 hv, t1, t2, bI_t e1, bI_f e2]
              · show f_Model_ride Y (nI k1) (nI k2) v true (stn ρ (Shn σ)) = _
                unfold f_Model_ride
                simp only [bd_, lt_, cK_of (kY_0 hY), Bool.and_true, e_isPlace hY, p4', inR_e1 ha, inR_e1 ha2, i10, if_false, if_neg hd, e_isInL v 1 999 1 999 rfl rfl, inR_e1 hv, e_kindOf hY (show k1 < 700 by omega), e_kindOf hY (show k2 < 700 by omega), em1', em2', if_pos e1, if_neg e2]
          · refine OpOK_b (-1000000012) h ?_ ?_
            · unfold f_Trail_ride
              simp only [bd_, lt_, rX_0_0 hX, rW_0_0 hW, cK_of (kX_0 hX), cK_of (kW_0 hW), cK_of (kW_1 hW), Bool.and_true, e_hasPlace (kW_1 hW), p3, inR_e1 ha, inR_e1 ha2, i10, if_false, if_true, if_neg hd, e_within, inR_e1 hv, t1, bI_f e1]
            · show f_Model_ride Y (nI k1) (nI k2) v true (stn ρ (Shn σ)) = _
              unfold f_Model_ride
              simp only [bd_, lt_, cK_of (kY_0 hY), Bool.and_true, e_isPlace hY, p4', inR_e1 ha, inR_e1 ha2, i10, if_false, if_neg hd, e_isInL v 1 999 1 999 rfl rfl, inR_e1 hv, e_kindOf hY (show k1 < 700 by omega), em1', if_neg e1]
        · refine OpOK_b (-1000000001) h ?_ ?_
          · unfold f_Trail_ride
            simp only [bd_, lt_, rX_0_0 hX, rW_0_0 hW, cK_of (kX_0 hX), cK_of (kW_0 hW), cK_of (kW_1 hW), Bool.and_true, e_hasPlace (kW_1 hW), p3, inR_e1 ha, inR_e1 ha2, i10, if_false, if_true, if_neg hd, e_within, inR_e0 hv]
          · show f_Model_ride Y a a2 v true (stn ρ (Shn σ)) = _
            unfold f_Model_ride
            simp only [bd_, lt_, cK_of (kY_0 hY), Bool.and_true, e_isPlace hY, p4', inR_e1 ha, inR_e1 ha2, i10, if_false, if_true, if_neg hd, e_isInL v 1 999 1 999 rfl rfl, inR_e0 hv]
    · refine OpOK_b (-1000000001) h ?_ ?_
      · unfold f_Trail_ride
        simp only [bd_, lt_, rX_0_0 hX, rW_0_0 hW, cK_of (kX_0 hX), cK_of (kW_0 hW), cK_of (kW_1 hW), Bool.and_true, e_hasPlace (kW_1 hW), p3, inR_e1 ha, inR_e0 ha2, i10, if_false, if_true]
      · show f_Model_ride Y a a2 v true (stn ρ (Shn σ)) = _
        unfold f_Model_ride
        simp only [bd_, lt_, cK_of (kY_0 hY), Bool.and_true, e_isPlace hY, p4', inR_e1 ha, inR_e0 ha2, i10, if_false, if_true]
  · refine OpOK_b (-1000000001) h ?_ ?_
    · unfold f_Trail_ride
      simp only [bd_, lt_, rX_0_0 hX, rW_0_0 hW, cK_of (kX_0 hX), cK_of (kW_0 hW), cK_of (kW_1 hW), Bool.and_true, e_hasPlace (kW_1 hW), p3, inR_e0 ha, if_true]
    · show f_Model_ride Y a a2 v true (stn ρ (Shn σ)) = _
      unfold f_Model_ride
      simp only [bd_, lt_, cK_of (kY_0 hY), Bool.and_true, e_isPlace hY, p4', inR_e0 ha, if_true]
end OP8
