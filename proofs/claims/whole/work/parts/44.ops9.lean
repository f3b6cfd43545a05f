/-! boxes -/
section OP9
variable {X Y : Nat} {σ ρ : Sto}
theorem e_hasEnded {a t : Nat} (hk : Stk σ a = 10) (ht : t ≤ 3) (e : SI σ a 5 = nI t) : f_Walker_hasEnded a true σ = (bI (¬ nI t < 2), true, σ) := by
  unfold f_Walker_hasEnded
  simp only [lt_, e, cK_of hk, Bool.and_true, if_pair]
  rcases (show t = 0 ∨ t = 1 ∨ t = 2 ∨ t = 3 by omega) with rfl | rfl | rfl | rfl <;> rfl
theorem op_20 : Op_20 X Y (REL X Y) := by
  intro a a2 f v σ ρ h
  have hX := h.2.2.1
  have hY : LayY Y (stn ρ (Shn σ)) := h.2.2.2.1
  have hW := hX.2.1
  obtain ⟨d1, d2⟩ := (REL_now2 h).1
  obtain ⟨np, nf, p1, p2, p3, p4, p5, p6, p7, p8, p9, p10, p11, p12⟩ := (REL_now2 h).2.1
  obtain ⟨nb, r1, r2, r3, r4⟩ := (REL_now2 h).2.2.2.2.2.1
  obtain ⟨nw, w1, w2, w3, w4⟩ := (REL_now2 h).2.2.2.2.2.2.1
  by_cases ha : (0 : Int32) ≤ a ∧ a ≤ nI nw - 1
  · by_cases ha2 : (0 : Int32) ≤ a2 ∧ a2 ≤ nI np - 1
    · by_cases hf : (1 : Int32) ≤ f ∧ f ≤ 20
      · by_cases hv : (0 : Int32) ≤ v ∧ v ≤ 99
        · obtain ⟨k1, hk1, rfl⟩ := in_idx (by omega) ha
          obtain ⟨k2, hk2, rfl⟩ := in_idx (by omega) ha2
          obtain ⟨m2, hm2, em2⟩ := bd_nat (n := 5) (p9 k2 hk2).2.2.2.2.1
          have t2 := e_isTown hW (REL_cs h) (show k2 < 16 by omega) hm2 (show SI σ (X + 1 + 2) k2 = nI m2 by rw [(p9 k2 hk2).1, em2])
          obtain ⟨q0, q1, q2, q3, q4, q5, q6, q7, q8, q9, q10, q11, q12, q13, q14, q15, q16, q17, b0, -⟩ := w4 k1 hk1
          obtain ⟨t, ht, et⟩ := bd_nat (n := 3) b0
          have e5 := e_hasEnded (kW_w hW (show k1 < 10 by omega)) ht (show SI σ (X + 1 + 43 + k1) 5 = nI t by rw [q5, et])
          by_cases e2 : nI m2 = 3
          · by_cases hs : nI t < 2
            · by_cases hq : nb < 20
              · have hlt : nI nb < (20 : Int32) := nI_lt (b := 20) hq (by decide)
                have hne : ¬ nI nb = (20 : Int32) := fun e => by have := (nI_eq (b := 20) (by omega) (by decide)).mp e; omega
                refine OpOK_i (nI nb) (pI (pI (pI (pI (pI (pI σ (X + 1 + 16) nb (nI k1)) (X + 1 + 17) nb (nI k2)) (X + 1 + 18) nb f) (X + 1 + 19) nb (SI ρ (Y + 1) 0 + v)) (X + 1 + 20) nb 0) (X + 1 + 15) 5 (nI nb + 1)) (pI (pI (pI (pI (pI (pI (stn ρ (Shn σ)) (Y + 1) (340 + 5 * nb) (nI k1)) (Y + 1) (340 + 5 * nb + 1) (nI k2)) (Y + 1) (340 + 5 * nb + 2) f) (Y + 1) (340 + 5 * nb + 3) (SI ρ (Y + 1) 0 + v)) (Y + 1) (340 + 5 * nb + 4) 0) (Y + 1) 6 (nI nb + 1)) ?_ ?_ rfl ?_
                · have n0 : X + 1 + 15 ≠ X + 1 + 16 := by omega
                  have n1 : X + 1 + 15 ≠ X + 1 + 17 := by omega
                  have n2 : X + 1 + 15 ≠ X + 1 + 18 := by omega
                  have n3 : X + 1 + 15 ≠ X + 1 + 19 := by omega
                  have n4 : X + 1 + 15 ≠ X + 1 + 20 := by omega
                  unfold f_Trail_box f_Post_addBox
                  simp only [bd_, lt_, rX_0_0 hX, rW_0_0 hW, rW_0_2 hW, rW_0_6 hW, cK_of (kX_0 hX), cK_of (kW_0 hW), cK_of (kW_1 hW), cK_of (kW_15 hW), Bool.and_true, e_hasWalker (kW_0 hW), w2, e_hasPlace (kW_1 hW), p3, e_within, i10, if_false, if_true, inR_e1 ha, inR_e1 ha2, inR_e1 hf, inR_e1 hv, t2, bI_t e2, ix_nI (show k1 < 2 ^ 31 by omega), rW_42 hW (show k1 < 10 by omega), cK_of (kW_w hW (show k1 < 10 by omega)), cA_of (kW_42 hW) (nW_42 hW) (show k1 < 10 by omega) (by decide), e5, bI_f (show ¬ ¬ nI t < 2 from fun z => z hs), d1, r2, if_pos hlt, SR_pI, rW_15_0 hW, rW_15_1 hW, rW_15_2 hW, rW_15_3 hW, rW_15_4 hW, cK_pI, cA_pI, SI_pI, up2_ne' n0, up2_ne' n1, up2_ne' n2, up2_ne' n3, up2_ne' n4, up2_s, ix_nI (show nb < 2 ^ 31 by omega), cA_of (kW_16 hW) (nW_16 hW) hq (by decide), cA_of (kW_17 hW) (nW_17 hW) hq (by decide), cA_of (kW_18 hW) (nW_18 hW) hq (by decide), cA_of (kW_19 hW) (nW_19 hW) hq (by decide), cA_of (kW_20 hW) (nW_20 hW) hq (by decide), Int32.add_sub_cancel]
                · show f_Model_box Y (nI k1) (nI k2) f v true (stn ρ (Shn σ)) = _
                  have n0 : (6 : Nat) ≠ 340 + 5 * nb := by omega
                  have n1 : (6 : Nat) ≠ 340 + 5 * nb + 1 := by omega
                  have n2 : (6 : Nat) ≠ 340 + 5 * nb + 2 := by omega
                  have n3 : (6 : Nat) ≠ 340 + 5 * nb + 3 := by omega
                  have n4 : (6 : Nat) ≠ 340 + 5 * nb + 4 := by omega
                  have z0 : (0 : Nat) ≠ 340 + 5 * nb := by omega
                  have z1 : (0 : Nat) ≠ 340 + 5 * nb + 1 := by omega
                  have z2 : (0 : Nat) ≠ 340 + 5 * nb + 2 := by omega
                  unfold f_Model_box
                  simp only [bd_, lt_, cK_of (kY_0 hY), Bool.and_true, e_isWalker hY, e_isPlace hY, SI_stn, w3, p4, e_isInL f 1 20 1 20 rfl rfl, e_isInL v 0 99 0 99 rfl rfl, i10, if_false, if_true, inR_e1 ha, inR_e1 ha2, inR_e1 hf, inR_e1 hv, e_kindOf hY (show k2 < 700 by omega), em2, e_walkerAt, rY_0 hY, ix_nI (show 130 + 20 * k1 < 2 ^ 31 by omega), cY hY (show 130 + 20 * k1 < 3210 by omega), et, if_pos e2, if_pos hs, show ix (6 : Int32) = 6 from rfl, show ix (0 : Int32) = 0 from rfl, r3, if_neg hne, e_boxAt, show ∀ a, nI a + (0 : Int32) = nI a from fun a => Int32.add_zero _, nI_p1 (340 + 5 * nb), nI_p2 (340 + 5 * nb), nI_p3 (340 + 5 * nb), nI_p4 (340 + 5 * nb), SR_pI, cK_pI, cA_pI, cYk hY 6 (v := 6) rfl (by decide), cYk hY 0 (v := 0) rfl (by decide), SI_pI, up2_nj n0, up2_nj n1, up2_nj n2, up2_nj n3, up2_nj n4, up2_nj z0, up2_nj z1, up2_nj z2, up2_s, ix_nI (show 340 + 5 * nb < 2 ^ 31 by omega), ix_nI (show 340 + 5 * nb + 1 < 2 ^ 31 by omega), ix_nI (show 340 + 5 * nb + 2 < 2 ^ 31 by omega), ix_nI (show 340 + 5 * nb + 3 < 2 ^ 31 by omega), ix_nI (show 340 + 5 * nb + 4 < 2 ^ 31 by omega), cY hY (show 340 + 5 * nb < 3210 by omega), cY hY (show 340 + 5 * nb + 1 < 3210 by omega), cY hY (show 340 + 5 * nb + 2 < 3210 by omega), cY hY (show 340 + 5 * nb + 3 < 3210 by omega), cY hY (show 340 + 5 * nb + 4 < 3210 by omega), Int32.add_sub_cancel]
                · have hS : ∀ i, i ≠ 6 → i < 340 ∨ 440 ≤ i → SI (pI (pI (pI (pI (pI (pI (stn ρ (Shn σ)) (Y + 1) (340 + 5 * nb) (nI k1)) (Y + 1) (340 + 5 * nb + 1) (nI k2)) (Y + 1) (340 + 5 * nb + 2) f) (Y + 1) (340 + 5 * nb + 3) (SI ρ (Y + 1) 0 + v)) (Y + 1) (340 + 5 * nb + 4) 0) (Y + 1) 6 (nI nb + 1)) (Y + 1) i = SI ρ (Y + 1) i := fun i h1 h2 => by
                    rw [SI_pI, up2_nj (by omega), SI_pI, up2_nj (by omega), SI_pI, up2_nj (by omega), SI_pI, up2_nj (by omega), SI_pI, up2_nj (by omega), SI_pI, up2_nj (by omega)]; rfl
                  refine REL_W h rfl (SB_p (SB_p (SB_p (SB_p (SB_p (SB_p SB_0 (by omega) (by omega)) (by omega) (by omega)) (by omega) (by omega)) (by omega) (by omega)) (by omega) (by omega)) (by omega) (by omega)) (SB_p (SB_p (SB_p (SB_p (SB_p (SB_p SB_n (by omega) (by omega)) (by omega) (by omega)) (by omega) (by omega)) (by omega) (by omega)) (by omega) (by omega)) (by omega) (by omega)) (RWd_B (REL_now2 h) (by omega) rfl (SB_p (SB_p (SB_p (SB_p (SB_p (SB_p SB_0 (by omega) (by omega)) (by omega) (by omega)) (by omega) (by omega)) (by omega) (by omega)) (by omega) (by omega)) (by omega) (by omega)) (fun i hi => hS i (by omega) (by omega)) ?_)
                  refine ⟨nb + 1, hq, ?_, ?_, fun k hk => ?_⟩
                  · rw [SI_pI, up2_s, nI_1]
                  · rw [SI_pI, up2_s, nI_1]
                  · rw [hS 2 (by omega) (by omega), hS 5 (by omega) (by omega)]
                    have c0 : SI (pI (pI (pI (pI (pI (pI σ (X + 1 + 16) nb (nI k1)) (X + 1 + 17) nb (nI k2)) (X + 1 + 18) nb f) (X + 1 + 19) nb (SI ρ (Y + 1) 0 + v)) (X + 1 + 20) nb 0) (X + 1 + 15) 5 (nI nb + 1)) (X + 1 + 16) k = if k = nb then (nI k1) else SI σ (X + 1 + 16) k := by
                      rw [SI_pI, up2_ne' (by omega), SI_pI, up2_ne' (by omega), SI_pI, up2_ne' (by omega), SI_pI, up2_ne' (by omega), SI_pI, up2_ne' (by omega), SI_pI]
                      by_cases e : k = nb
                      · rw [if_pos e, e, up2_s]
                      · rw [if_neg e, up2_nj e]
                    have y0 : SI (pI (pI (pI (pI (pI (pI (stn ρ (Shn σ)) (Y + 1) (340 + 5 * nb) (nI k1)) (Y + 1) (340 + 5 * nb + 1) (nI k2)) (Y + 1) (340 + 5 * nb + 2) f) (Y + 1) (340 + 5 * nb + 3) (SI ρ (Y + 1) 0 + v)) (Y + 1) (340 + 5 * nb + 4) 0) (Y + 1) 6 (nI nb + 1)) (Y + 1) (340 + 5 * k) = if k = nb then (nI k1) else SI ρ (Y + 1) (340 + 5 * k) := by
                      rw [SI_pI, up2_nj (by omega), SI_pI, up2_nj (by omega), SI_pI, up2_nj (by omega), SI_pI, up2_nj (by omega), SI_pI, up2_nj (by omega), SI_pI]
                      by_cases e : k = nb
                      · rw [if_pos e, e, up2_s]
                      · rw [if_neg e, up2_nj (by omega)]; rfl
                    have c1 : SI (pI (pI (pI (pI (pI (pI σ (X + 1 + 16) nb (nI k1)) (X + 1 + 17) nb (nI k2)) (X + 1 + 18) nb f) (X + 1 + 19) nb (SI ρ (Y + 1) 0 + v)) (X + 1 + 20) nb 0) (X + 1 + 15) 5 (nI nb + 1)) (X + 1 + 17) k = if k = nb then (nI k2) else SI σ (X + 1 + 17) k := by
                      rw [SI_pI, up2_ne' (by omega), SI_pI, up2_ne' (by omega), SI_pI, up2_ne' (by omega), SI_pI, up2_ne' (by omega), SI_pI]
                      by_cases e : k = nb
                      · rw [if_pos e, e, up2_s]
                      · rw [if_neg e, up2_nj e, SI_pI, up2_ne' (by omega)]
                    have y1 : SI (pI (pI (pI (pI (pI (pI (stn ρ (Shn σ)) (Y + 1) (340 + 5 * nb) (nI k1)) (Y + 1) (340 + 5 * nb + 1) (nI k2)) (Y + 1) (340 + 5 * nb + 2) f) (Y + 1) (340 + 5 * nb + 3) (SI ρ (Y + 1) 0 + v)) (Y + 1) (340 + 5 * nb + 4) 0) (Y + 1) 6 (nI nb + 1)) (Y + 1) (341 + 5 * k) = if k = nb then (nI k2) else SI ρ (Y + 1) (341 + 5 * k) := by
                      rw [SI_pI, up2_nj (by omega), SI_pI, up2_nj (by omega), SI_pI, up2_nj (by omega), SI_pI, up2_nj (by omega), SI_pI]
                      by_cases e : k = nb
                      · rw [if_pos e, e, show 341 + 5 * nb = 340 + 5 * nb + 1 by omega, up2_s]
                      · rw [if_neg e, up2_nj (by omega), SI_pI, up2_nj (by omega)]; rfl
                    have c2 : SI (pI (pI (pI (pI (pI (pI σ (X + 1 + 16) nb (nI k1)) (X + 1 + 17) nb (nI k2)) (X + 1 + 18) nb f) (X + 1 + 19) nb (SI ρ (Y + 1) 0 + v)) (X + 1 + 20) nb 0) (X + 1 + 15) 5 (nI nb + 1)) (X + 1 + 18) k = if k = nb then f else SI σ (X + 1 + 18) k := by
                      rw [SI_pI, up2_ne' (by omega), SI_pI, up2_ne' (by omega), SI_pI, up2_ne' (by omega), SI_pI]
                      by_cases e : k = nb
                      · rw [if_pos e, e, up2_s]
                      · rw [if_neg e, up2_nj e, SI_pI, up2_ne' (by omega), SI_pI, up2_ne' (by omega)]
                    have y2 : SI (pI (pI (pI (pI (pI (pI (stn ρ (Shn σ)) (Y + 1) (340 + 5 * nb) (nI k1)) (Y + 1) (340 + 5 * nb + 1) (nI k2)) (Y + 1) (340 + 5 * nb + 2) f) (Y + 1) (340 + 5 * nb + 3) (SI ρ (Y + 1) 0 + v)) (Y + 1) (340 + 5 * nb + 4) 0) (Y + 1) 6 (nI nb + 1)) (Y + 1) (342 + 5 * k) = if k = nb then f else SI ρ (Y + 1) (342 + 5 * k) := by
                      rw [SI_pI, up2_nj (by omega), SI_pI, up2_nj (by omega), SI_pI, up2_nj (by omega), SI_pI]
                      by_cases e : k = nb
                      · rw [if_pos e, e, show 342 + 5 * nb = 340 + 5 * nb + 2 by omega, up2_s]
                      · rw [if_neg e, up2_nj (by omega), SI_pI, up2_nj (by omega), SI_pI, up2_nj (by omega)]; rfl
                    have c3 : SI (pI (pI (pI (pI (pI (pI σ (X + 1 + 16) nb (nI k1)) (X + 1 + 17) nb (nI k2)) (X + 1 + 18) nb f) (X + 1 + 19) nb (SI ρ (Y + 1) 0 + v)) (X + 1 + 20) nb 0) (X + 1 + 15) 5 (nI nb + 1)) (X + 1 + 19) k = if k = nb then (SI ρ (Y + 1) 0 + v) else SI σ (X + 1 + 19) k := by
                      rw [SI_pI, up2_ne' (by omega), SI_pI, up2_ne' (by omega), SI_pI]
                      by_cases e : k = nb
                      · rw [if_pos e, e, up2_s]
                      · rw [if_neg e, up2_nj e, SI_pI, up2_ne' (by omega), SI_pI, up2_ne' (by omega), SI_pI, up2_ne' (by omega)]
                    have y3 : SI (pI (pI (pI (pI (pI (pI (stn ρ (Shn σ)) (Y + 1) (340 + 5 * nb) (nI k1)) (Y + 1) (340 + 5 * nb + 1) (nI k2)) (Y + 1) (340 + 5 * nb + 2) f) (Y + 1) (340 + 5 * nb + 3) (SI ρ (Y + 1) 0 + v)) (Y + 1) (340 + 5 * nb + 4) 0) (Y + 1) 6 (nI nb + 1)) (Y + 1) (343 + 5 * k) = if k = nb then (SI ρ (Y + 1) 0 + v) else SI ρ (Y + 1) (343 + 5 * k) := by
                      rw [SI_pI, up2_nj (by omega), SI_pI, up2_nj (by omega), SI_pI]
                      by_cases e : k = nb
                      · rw [if_pos e, e, show 343 + 5 * nb = 340 + 5 * nb + 3 by omega, up2_s]
                      · rw [if_neg e, up2_nj (by omega), SI_pI, up2_nj (by omega), SI_pI, up2_nj (by omega), SI_pI, up2_nj (by omega)]; rfl
                    have c4 : SI (pI (pI (pI (pI (pI (pI σ (X + 1 + 16) nb (nI k1)) (X + 1 + 17) nb (nI k2)) (X + 1 + 18) nb f) (X + 1 + 19) nb (SI ρ (Y + 1) 0 + v)) (X + 1 + 20) nb 0) (X + 1 + 15) 5 (nI nb + 1)) (X + 1 + 20) k = if k = nb then 0 else SI σ (X + 1 + 20) k := by
                      rw [SI_pI, up2_ne' (by omega), SI_pI]
                      by_cases e : k = nb
                      · rw [if_pos e, e, up2_s]
                      · rw [if_neg e, up2_nj e, SI_pI, up2_ne' (by omega), SI_pI, up2_ne' (by omega), SI_pI, up2_ne' (by omega), SI_pI, up2_ne' (by omega)]
                    have y4 : SI (pI (pI (pI (pI (pI (pI (stn ρ (Shn σ)) (Y + 1) (340 + 5 * nb) (nI k1)) (Y + 1) (340 + 5 * nb + 1) (nI k2)) (Y + 1) (340 + 5 * nb + 2) f) (Y + 1) (340 + 5 * nb + 3) (SI ρ (Y + 1) 0 + v)) (Y + 1) (340 + 5 * nb + 4) 0) (Y + 1) 6 (nI nb + 1)) (Y + 1) (344 + 5 * k) = if k = nb then 0 else SI ρ (Y + 1) (344 + 5 * k) := by
                      rw [SI_pI, up2_nj (by omega), SI_pI]
                      by_cases e : k = nb
                      · rw [if_pos e, e, show 344 + 5 * nb = 340 + 5 * nb + 4 by omega, up2_s]
                      · rw [if_neg e, up2_nj (by omega), SI_pI, up2_nj (by omega), SI_pI, up2_nj (by omega), SI_pI, up2_nj (by omega), SI_pI, up2_nj (by omega)]; rfl
                    rw [c0, c1, c2, c3, c4, y0, y1, y2, y3, y4]
                    by_cases e : k = nb
                    · simp only [if_pos e]
                      refine ⟨trivial, trivial, trivial, trivial, trivial, ha.1, ?_, ha2.1, ?_, i32_bd hf, add_bd d2 (i32_bd hv) (by decide), ⟨by decide, by decide⟩, ?_⟩
                      · rw [w3]; exact nI_lt hk1 (by omega)
                      · rw [p4]; exact nI_lt hk2 (by omega)
                      · rw [ix_nI (show k2 < 2 ^ 31 by omega), hS (30 + 4 * k2) (by omega) (by omega), em2]; exact e2
                    · simp only [if_neg e]
                      obtain ⟨x0, x1, x2, x3, x4, x5, x6, x7, x8, x9, x10, x11, x12⟩ := r4 k (by omega)
                      refine ⟨x0, x1, x2, x3, x4, x5, x6, x7, x8, x9, x10, x11, ?_⟩
                      obtain ⟨j, hj, ej⟩ := in_nat p4 (by omega) x7 (Int32.le_of_lt x8)
                      rw [ej] at x12 ⊢
                      rw [ix_nI (show j < 2 ^ 31 by omega)] at x12 ⊢
                      rw [hS (30 + 4 * j) (by omega) (by omega)]
                      exact x12
              · have hq' : nb = 20 := by omega
                subst hq'
                refine OpOK_b (-1000000003) h ?_ ?_
                · unfold f_Trail_box
                  simp only [bd_, lt_, rX_0_0 hX, rW_0_0 hW, rW_0_2 hW, rW_0_6 hW, cK_of (kX_0 hX), cK_of (kW_0 hW), cK_of (kW_1 hW), cK_of (kW_15 hW), Bool.and_true, e_hasWalker (kW_0 hW), w2, e_hasPlace (kW_1 hW), p3, e_within, i10, if_false, if_true, inR_e1 ha, inR_e1 ha2, inR_e1 hf, inR_e1 hv, t2, bI_t e2, ix_nI (show k1 < 2 ^ 31 by omega), rW_42 hW (show k1 < 10 by omega), cK_of (kW_w hW (show k1 < 10 by omega)), cA_of (kW_42 hW) (nW_42 hW) (show k1 < 10 by omega) (by decide), e5, bI_f (show ¬ ¬ nI t < 2 from fun z => z hs), r2, if_neg (show ¬ nI 20 < (20 : Int32) by decide)]
                · show f_Model_box Y (nI k1) (nI k2) f v true (stn ρ (Shn σ)) = _
                  unfold f_Model_box
                  simp only [bd_, lt_, cK_of (kY_0 hY), Bool.and_true, e_isWalker hY, e_isPlace hY, SI_stn, w3, p4, e_isInL f 1 20 1 20 rfl rfl, e_isInL v 0 99 0 99 rfl rfl, i10, if_false, if_true, inR_e1 ha, inR_e1 ha2, inR_e1 hf, inR_e1 hv, e_kindOf hY (show k2 < 700 by omega), em2, e_walkerAt, rY_0 hY, ix_nI (show 130 + 20 * k1 < 2 ^ 31 by omega), cY hY (show 130 + 20 * k1 < 3210 by omega), et, if_pos e2, if_pos hs, show ix (6 : Int32) = 6 from rfl, r3, if_pos (show nI 20 = (20 : Int32) from rfl), cYk hY 6 (v := 6) rfl (by decide)]
            · refine OpOK_b (-1000000002) h ?_ ?_
              · unfold f_Trail_box
                simp only [bd_, lt_, rX_0_0 hX, rW_0_0 hW, rW_0_2 hW, rW_0_6 hW, cK_of (kX_0 hX), cK_of (kW_0 hW), cK_of (kW_1 hW), cK_of (kW_15 hW), Bool.and_true, e_hasWalker (kW_0 hW), w2, e_hasPlace (kW_1 hW), p3, e_within, i10, if_false, if_true, inR_e1 ha, inR_e1 ha2, inR_e1 hf, inR_e1 hv, t2, bI_t e2, ix_nI (show k1 < 2 ^ 31 by omega), rW_42 hW (show k1 < 10 by omega), cK_of (kW_w hW (show k1 < 10 by omega)), cA_of (kW_42 hW) (nW_42 hW) (show k1 < 10 by omega) (by decide), e5, bI_t hs]
              · show f_Model_box Y (nI k1) (nI k2) f v true (stn ρ (Shn σ)) = _
                unfold f_Model_box
                simp only [bd_, lt_, cK_of (kY_0 hY), Bool.and_true, e_isWalker hY, e_isPlace hY, SI_stn, w3, p4, e_isInL f 1 20 1 20 rfl rfl, e_isInL v 0 99 0 99 rfl rfl, i10, if_false, if_true, inR_e1 ha, inR_e1 ha2, inR_e1 hf, inR_e1 hv, e_kindOf hY (show k2 < 700 by omega), em2, e_walkerAt, rY_0 hY, ix_nI (show 130 + 20 * k1 < 2 ^ 31 by omega), cY hY (show 130 + 20 * k1 < 3210 by omega), et, if_pos e2, if_neg hs]
          · refine OpOK_b (-1000000012) h ?_ ?_
            · unfold f_Trail_box
              simp only [bd_, lt_, rX_0_0 hX, rW_0_0 hW, rW_0_2 hW, rW_0_6 hW, cK_of (kX_0 hX), cK_of (kW_0 hW), cK_of (kW_1 hW), cK_of (kW_15 hW), Bool.and_true, e_hasWalker (kW_0 hW), w2, e_hasPlace (kW_1 hW), p3, e_within, i10, if_false, if_true, inR_e1 ha, inR_e1 ha2, inR_e1 hf, inR_e1 hv, t2, bI_f e2]
            · show f_Model_box Y (nI k1) (nI k2) f v true (stn ρ (Shn σ)) = _
              unfold f_Model_box
              simp only [bd_, lt_, cK_of (kY_0 hY), Bool.and_true, e_isWalker hY, e_isPlace hY, SI_stn, w3, p4, e_isInL f 1 20 1 20 rfl rfl, e_isInL v 0 99 0 99 rfl rfl, i10, if_false, if_true, inR_e1 ha, inR_e1 ha2, inR_e1 hf, inR_e1 hv, e_kindOf hY (show k2 < 700 by omega), em2, if_neg e2]
        · refine OpOK_b (-1000000001) h ?_ ?_
          · unfold f_Trail_box
            simp only [bd_, lt_, rX_0_0 hX, rW_0_0 hW, rW_0_2 hW, rW_0_6 hW, cK_of (kX_0 hX), cK_of (kW_0 hW), cK_of (kW_1 hW), cK_of (kW_15 hW), Bool.and_true, e_hasWalker (kW_0 hW), w2, e_hasPlace (kW_1 hW), p3, e_within, i10, if_false, if_true, inR_e1 ha, inR_e1 ha2, inR_e1 hf, inR_e0 hv]
          · show f_Model_box Y a a2 f v true (stn ρ (Shn σ)) = _
            unfold f_Model_box
            simp only [bd_, lt_, cK_of (kY_0 hY), Bool.and_true, e_isWalker hY, e_isPlace hY, SI_stn, w3, p4, e_isInL f 1 20 1 20 rfl rfl, e_isInL v 0 99 0 99 rfl rfl, i10, if_false, if_true, inR_e1 ha, inR_e1 ha2, inR_e1 hf, inR_e0 hv]
      · refine OpOK_b (-1000000001) h ?_ ?_
        · unfold f_Trail_box
          simp only [bd_, lt_, rX_0_0 hX, rW_0_0 hW, rW_0_2 hW, rW_0_6 hW, cK_of (kX_0 hX), cK_of (kW_0 hW), cK_of (kW_1 hW), cK_of (kW_15 hW), Bool.and_true, e_hasWalker (kW_0 hW), w2, e_hasPlace (kW_1 hW), p3, e_within, i10, if_false, if_true, inR_e1 ha, inR_e1 ha2, inR_e0 hf]
        · show f_Model_box Y a a2 f v true (stn ρ (Shn σ)) = _
          unfold f_Model_box
          simp only [bd_, lt_, cK_of (kY_0 hY), Bool.and_true, e_isWalker hY, e_isPlace hY, SI_stn, w3, p4, e_isInL f 1 20 1 20 rfl rfl, e_isInL v 0 99 0 99 rfl rfl, i10, if_false, if_true, inR_e1 ha, inR_e1 ha2, inR_e0 hf]
    · refine OpOK_b (-1000000001) h ?_ ?_
      · unfold f_Trail_box
        simp only [bd_, lt_, rX_0_0 hX, rW_0_0 hW, rW_0_2 hW, rW_0_6 hW, cK_of (kX_0 hX), cK_of (kW_0 hW), cK_of (kW_1 hW), cK_of (kW_15 hW), Bool.and_true, e_hasWalker (kW_0 hW), w2, e_hasPlace (kW_1 hW), p3, e_within, i10, if_false, if_true, inR_e1 ha, inR_e0 ha2]
      · show f_Model_box Y a a2 f v true (stn ρ (Shn σ)) = _
        unfold f_Model_box
        simp only [bd_, lt_, cK_of (kY_0 hY), Bool.and_true, e_isWalker hY, e_isPlace hY, SI_stn, w3, p4, e_isInL f 1 20 1 20 rfl rfl, e_isInL v 0 99 0 99 rfl rfl, i10, if_false, if_true, inR_e1 ha, inR_e0 ha2]
  · refine OpOK_b (-1000000001) h ?_ ?_
    · unfold f_Trail_box
      simp only [bd_, lt_, rX_0_0 hX, rW_0_0 hW, rW_0_2 hW, rW_0_6 hW, cK_of (kX_0 hX), cK_of (kW_0 hW), cK_of (kW_1 hW), cK_of (kW_15 hW), Bool.and_true, e_hasWalker (kW_0 hW), w2, e_hasPlace (kW_1 hW), p3, e_within, i10, if_false, if_true, inR_e0 ha]
    · show f_Model_box Y a a2 f v true (stn ρ (Shn σ)) = _
      unfold f_Model_box
      simp only [bd_, lt_, cK_of (kY_0 hY), Bool.and_true, e_isWalker hY, e_isPlace hY, SI_stn, w3, p4, e_isInL f 1 20 1 20 rfl rfl, e_isInL v 0 99 0 99 rfl rfl, i10, if_false, if_true, inR_e0 ha]
end OP9
