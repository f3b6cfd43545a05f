/-! calls upon walkers -/
section OP3
variable {X Y : Nat} {σ ρ : Sto}
theorem rW1_9 {σ σ' : Sto} {a r : Nat} {S S' : Nat → Int32} {v : Int32} (h : rW1 σ a S r) (e1 : ∀ j, j ≠ 13 → SI σ' a j = SI σ a j) (e2 : SI σ' a 13 = v) (f1 : ∀ j, j ≠ r + 9 → S' j = S j) (f2 : S' (r + 9) = v) (hr : 1 < r) (hv : bd v 0 9) : rW1 σ' a S' r := by
  unfold rW1 at h ⊢
  simp only [e1 0 (by omega), e1 1 (by omega), e1 2 (by omega), e1 3 (by omega), e1 4 (by omega), e1 5 (by omega), e1 6 (by omega), e1 7 (by omega), e1 8 (by omega), e1 9 (by omega), e1 10 (by omega), e1 11 (by omega), e1 12 (by omega), e1 14 (by omega), e1 15 (by omega), e1 16 (by omega), e1 17 (by omega), e2, f1 r (by omega), f1 (r + 1) (by omega), f1 (r + 2) (by omega), f1 (r + 3) (by omega), f1 (r + 4) (by omega), f1 (r + 5) (by omega), f1 (r + 6) (by omega), f1 (r + 7) (by omega), f1 (r + 8) (by omega), f1 (r + 10) (by omega), f1 (r + 11) (by omega), f1 (r + 12) (by omega), f1 (r + 13) (by omega), f1 (r + 15) (by omega), f1 (r + 16) (by omega), f1 (r + 17) (by omega), f1 (r + 18) (by omega), f2, f1 1 (by omega)]
  obtain ⟨q0, q1, q2, q3, q4, q5, q6, q7, q8, q9, q10, q11, q12, q13, q14, q15, q16, q17, b0, b1, b2, b3, b9, b15, b16, b17, b18, z⟩ := h
  exact ⟨q0, q1, q2, q3, q4, q5, q6, q7, q8, q9, q10, q11, q12, trivial, q14, q15, q16, q17, b0, b1, b2, b3, hv, b15, b16, b17, b18, z⟩
theorem rW1_3 {σ σ' : Sto} {a r : Nat} {S S' : Nat → Int32} {v : Int32} (h : rW1 σ a S r) (e1 : ∀ j, j ≠ 7 → SI σ' a j = SI σ a j) (e2 : SI σ' a 7 = v) (f1 : ∀ j, j ≠ r + 3 → S' j = S j) (f2 : S' (r + 3) = v) (hr : 1 < r) (hv : bd v 0 20) : rW1 σ' a S' r := by
  unfold rW1 at h ⊢
  simp only [e1 0 (by omega), e1 1 (by omega), e1 2 (by omega), e1 3 (by omega), e1 4 (by omega), e1 5 (by omega), e1 6 (by omega), e1 8 (by omega), e1 9 (by omega), e1 10 (by omega), e1 11 (by omega), e1 12 (by omega), e1 13 (by omega), e1 14 (by omega), e1 15 (by omega), e1 16 (by omega), e1 17 (by omega), e2, f1 r (by omega), f1 (r + 1) (by omega), f1 (r + 2) (by omega), f1 (r + 4) (by omega), f1 (r + 5) (by omega), f1 (r + 6) (by omega), f1 (r + 7) (by omega), f1 (r + 8) (by omega), f1 (r + 9) (by omega), f1 (r + 10) (by omega), f1 (r + 11) (by omega), f1 (r + 12) (by omega), f1 (r + 13) (by omega), f1 (r + 15) (by omega), f1 (r + 16) (by omega), f1 (r + 17) (by omega), f1 (r + 18) (by omega), f2, f1 1 (by omega)]
  obtain ⟨q0, q1, q2, q3, q4, q5, q6, q7, q8, q9, q10, q11, q12, q13, q14, q15, q16, q17, b0, b1, b2, b3, b9, b15, b16, b17, b18, z⟩ := h
  exact ⟨q0, q1, q2, q3, q4, q5, q6, trivial, q8, q9, q10, q11, q12, q13, q14, q15, q16, q17, b0, b1, b2, hv, b9, b15, b16, b17, b18, z⟩
theorem rW1_8 {σ σ' : Sto} {a r : Nat} {S S' : Nat → Int32} {v : Int32} (h : rW1 σ a S r) (e1 : ∀ j, j ≠ 12 → SI σ' a j = SI σ a j) (e2 : SI σ' a 12 = v) (f1 : ∀ j, j ≠ r + 8 → S' j = S j) (f2 : S' (r + 8) = v) (hr : 1 < r) : rW1 σ' a S' r := by
  unfold rW1 at h ⊢
  simp only [e1 0 (by omega), e1 1 (by omega), e1 2 (by omega), e1 3 (by omega), e1 4 (by omega), e1 5 (by omega), e1 6 (by omega), e1 7 (by omega), e1 8 (by omega), e1 9 (by omega), e1 10 (by omega), e1 11 (by omega), e1 13 (by omega), e1 14 (by omega), e1 15 (by omega), e1 16 (by omega), e1 17 (by omega), e2, f1 r (by omega), f1 (r + 1) (by omega), f1 (r + 2) (by omega), f1 (r + 3) (by omega), f1 (r + 4) (by omega), f1 (r + 5) (by omega), f1 (r + 6) (by omega), f1 (r + 7) (by omega), f1 (r + 9) (by omega), f1 (r + 10) (by omega), f1 (r + 11) (by omega), f1 (r + 12) (by omega), f1 (r + 13) (by omega), f1 (r + 15) (by omega), f1 (r + 16) (by omega), f1 (r + 17) (by omega), f1 (r + 18) (by omega), f2, f1 1 (by omega)]
  obtain ⟨q0, q1, q2, q3, q4, q5, q6, q7, q8, q9, q10, q11, q12, q13, q14, q15, q16, q17, b0, b1, b2, b3, b9, b15, b16, b17, b18, z⟩ := h
  exact ⟨q0, q1, q2, q3, q4, q5, q6, q7, q8, q9, q10, q11, trivial, q13, q14, q15, q16, q17, b0, b1, b2, b3, b9, b15, b16, b17, b18, z⟩
theorem mnI_lt (x y : Int32) : (if x < y then x else y) = mnI x y := by
  unfold mnI
  by_cases h : x < y
  · rw [if_pos h, if_neg (Int32.not_lt.mpr (Int32.le_of_lt h))]
  · by_cases h2 : y < x
    · rw [if_neg h, if_pos h2]
    · rw [if_neg h, if_neg h2]
      exact Int32.le_antisymm (Int32.not_lt.mp h) (Int32.not_lt.mp h2)
theorem mnI_bd {x y v : Int32} (hx : bd x 1 20) (hy : bd y 0 20) (hv : bd v 1 20) : bd (mnI x (y + v)) 0 20 := by
  unfold mnI
  obtain ⟨x1, x2⟩ := hx
  obtain ⟨y1, y2⟩ := hy
  obtain ⟨v1, v2⟩ := hv
  have e : (y + v).toInt = y.toInt + v.toInt := by
    rw [Int32.toInt_add]
    exact Int.bmod_eq_of_le (by omega) (by omega)
  split
  · next h =>
    have := Int32.lt_iff_toInt_lt.mp h
    exact ⟨by omega, by omega⟩
  · exact ⟨by omega, by omega⟩
theorem op_18 : Op_18 X Y (REL X Y) := by
  intro a v σ ρ h
  have hX := h.2.2.1
  have hY : LayY Y (stn ρ (Shn σ)) := h.2.2.2.1
  have hW := hX.2.1
  obtain ⟨nw, r1, r2, r3, r4⟩ := (REL_now2 h).2.2.2.2.2.2.1
  have r3' : SI (stn ρ (Shn σ)) (Y + 1) 5 = nI nw := r3
  by_cases ha : (0 : Int32) ≤ a ∧ a ≤ nI nw - 1
  · obtain ⟨k, hk, rfl⟩ := in_idx (by omega) ha
    by_cases hv : (0 : Int32) ≤ v ∧ v ≤ 9
    · have eC : f_Trail_zero X (nI k) v true σ = if SI σ (X + 1 + 43 + k) 5 = 1 then (SI σ (X + 1 + 43 + k) 13, true, pI σ (X + 1 + 43 + k) 13 v) else (-1000000002, true, σ) := by
        unfold f_Trail_zero
        simp only [bd_, lt_, rX_0_0 hX, rW_0_6 hW, cK_of (kX_0 hX), cK_of (kW_0 hW), Bool.and_true, e_hasWalker (kW_0 hW), r2, inR_e1 ha, inR_e1 hv, e_within, i10, if_false, ix_nI (show k < 2 ^ 31 by omega), rW_42 hW (show k < 10 by omega), cK_of (kW_w hW (show k < 10 by omega)), cA_of (kW_42 hW) (nW_42 hW) (show k < 10 by omega) (by decide)]
      have eR : f_Model_zero Y (nI k) v true (stn ρ (Shn σ)) = if SI ρ (Y + 1) (130 + 20 * k) = 1 then (SI ρ (Y + 1) (130 + 20 * k + 9), true, pI (stn ρ (Shn σ)) (Y + 1) (130 + 20 * k + 9) v) else (-1000000002, true, stn ρ (Shn σ)) := by
        unfold f_Model_zero
        simp only [bd_, lt_, cK_of (kY_0 hY), Bool.and_true, e_isWalker hY, r3', inR_e1 ha, inR_e1 hv, e_isInL v 0 9 0 9 rfl rfl, i10, if_false, e_walks hY (show k < 100 by omega), e_walkerAt, show ∀ a, nI a + (9 : Int32) = nI (a + 9) from fun a => nI_add a 9, e_becomes hY (130 + 20 * k + 9) (by omega)]
        unfold bI
        by_cases e : SI ρ (Y + 1) (130 + 20 * k) = 1
        · rw [if_pos e]; simp only [SI_stn, e, if_true, i10, if_false]
        · rw [if_neg e]; simp only [SI_stn, e, if_true, if_false]
      have hst : SI σ (X + 1 + 43 + k) 5 = SI ρ (Y + 1) (130 + 20 * k) := (r4 k hk).2.2.2.2.2.1
      have hz : SI σ (X + 1 + 43 + k) 13 = SI ρ (Y + 1) (130 + 20 * k + 9) := (r4 k hk).2.2.2.2.2.2.2.2.2.2.2.2.2.1
      by_cases e : SI ρ (Y + 1) (130 + 20 * k) = 1
      · refine OpOK_i _ (pI σ (X + 1 + 43 + k) 13 v) (pI (stn ρ (Shn σ)) (Y + 1) (130 + 20 * k + 9) v) (by rw [eC, if_pos (by rw [hst]; exact e), hz]) ?_ rfl ?_
        · show f_Model_zero Y (nI k) v true (stn ρ (Shn σ)) = _
          rw [eR, if_pos e]
        · refine REL_W h rfl (SB_p SB_0 (by omega) (by omega)) (SB_p SB_n (by omega) (by omega)) (RWd_W (REL_now2 h) (by omega) rfl (SB_p SB_0 (by omega) (by omega)) (fun i hi => up2_nj (by omega)) ?_)
          intro nw' k' n1 n2 hk' hq
          by_cases ek : k' = k
          · subst ek
            exact rW1_9 hq (fun j hj => up2_nj hj) up2_s (fun j hj => up2_nj hj) up2_s (by omega) (i32_bd hv)
          · exact rW1_c hq (up2_ne (by omega)) (fun j hj => up2_nj (by omega))
      · refine OpOK_b (-1000000002) h (by rw [eC, if_neg (by rw [hst]; exact e)]) ?_
        show f_Model_zero Y (nI k) v true (stn ρ (Shn σ)) = _
        rw [eR, if_neg e]
    · refine OpOK_b (-1000000001) h ?_ ?_
      · unfold f_Trail_zero
        simp only [bd_, lt_, rX_0_0 hX, cK_of (kX_0 hX), cK_of (kW_0 hW), Bool.and_true, e_hasWalker (kW_0 hW), r2, inR_e1 ha, inR_e0 hv, e_within, i10, if_false, if_true]
      · show f_Model_zero Y (nI k) v true (stn ρ (Shn σ)) = _
        unfold f_Model_zero
        simp only [bd_, lt_, cK_of (kY_0 hY), Bool.and_true, e_isWalker hY, r3', inR_e1 ha, inR_e0 hv, e_isInL v 0 9 0 9 rfl rfl, i10, if_false, if_true]
  · refine OpOK_b (-1000000001) h ?_ ?_
    · unfold f_Trail_zero
      simp only [bd_, lt_, rX_0_0 hX, cK_of (kX_0 hX), cK_of (kW_0 hW), Bool.and_true, e_hasWalker (kW_0 hW), r2, inR_e0 ha, if_true]
    · show f_Model_zero Y a v true (stn ρ (Shn σ)) = _
      unfold f_Model_zero
      simp only [bd_, lt_, cK_of (kY_0 hY), Bool.and_true, e_isWalker hY, r3', inR_e0 ha, if_true]
theorem e_least (x y : Int32) (b : Bool) (σ : Sto) : f_Model_least x y b σ = (if x < y then x else y, b, σ) := by
  unfold f_Model_least
  split <;> rfl
theorem e19C (hX : LayX X σ) {k nw : Nat} {v : Int32} (r1 : nw ≤ 10) (hk : k < nw) (r2 : SI σ (X + 1) 7 = nI nw) (ha : 0 ≤ nI k ∧ nI k ≤ nI nw - 1) (hv : 1 ≤ v ∧ v ≤ 20) : f_Trail_finds X (nI k) v true σ = if SI σ (X + 1 + 43 + k) 5 = 1 then (mnI (SI σ (X + 1 + 43 + k) 3) (SI σ (X + 1 + 43 + k) 7 + v), true, pI σ (X + 1 + 43 + k) 7 (mnI (SI σ (X + 1 + 43 + k) 3) (SI σ (X + 1 + 43 + k) 7 + v))) else (-1000000002, true, σ) := by
  have hW := hX.2.1
  unfold f_Trail_finds f_Walker_packFood
  simp only [bd_, lt_, rX_0_0 hX, rW_0_6 hW, cK_of (kX_0 hX), cK_of (kW_0 hW), Bool.and_true, e_hasWalker (kW_0 hW), r2, inR_e1 ha, inR_e1 hv, e_within, i10, if_false, ix_nI (show k < 2 ^ 31 by omega), rW_42 hW (show k < 10 by omega), cK_of (kW_w hW (show k < 10 by omega)), cA_of (kW_42 hW) (nW_42 hW) (show k < 10 by omega) (by decide), SI_pI, up2_s, show ∀ u w x, cK (pI σ u w x) (X + 1 + 43 + k) 10 = true from fun _ _ _ => cK_of (kW_w hW (show k < 10 by omega))]
theorem e19E {z : Nat} (hY : LayY Y (stn ρ z)) {k : Nat} {v : Int32} (hk : k < 10) : f_Model_eats Y (nI k) v true (stn ρ z) = ((), true, pI (stn ρ z) (Y + 1) (130 + 20 * k + 3) (mnI (SI ρ (Y + 1) (130 + 20 * k + 17)) (SI ρ (Y + 1) (130 + 20 * k + 3) + v))) := by
  unfold f_Model_eats
  simp only [bd_, lt_, cK_of (kY_0 hY), Bool.and_true, e_walkerAt, rY_0 hY, nI_p3, show ∀ a, nI a + (17 : Int32) = nI (a + 17) from fun a => nI_add a 17, cY hY (show 130 + 20 * k + 3 < 3210 by omega), cY hY (show 130 + 20 * k + 17 < 3210 by omega), ix_nI (show 130 + 20 * k + 3 < 2 ^ 31 by omega), ix_nI (show 130 + 20 * k + 17 < 2 ^ 31 by omega), e_least, SI_stn, mnI_lt]
theorem e19R {z : Nat} (hY : LayY Y (stn ρ z)) {k nw : Nat} {v : Int32} (r1 : nw ≤ 10) (hk : k < nw) (r3' : SI (stn ρ z) (Y + 1) 5 = nI nw) (ha : 0 ≤ nI k ∧ nI k ≤ nI nw - 1) (hv : 1 ≤ v ∧ v ≤ 20) : f_Model_finds Y (nI k) v true (stn ρ z) = if SI ρ (Y + 1) (130 + 20 * k) = 1 then (mnI (SI ρ (Y + 1) (130 + 20 * k + 17)) (SI ρ (Y + 1) (130 + 20 * k + 3) + v), true, pI (stn ρ z) (Y + 1) (130 + 20 * k + 3) (mnI (SI ρ (Y + 1) (130 + 20 * k + 17)) (SI ρ (Y + 1) (130 + 20 * k + 3) + v))) else (-1000000002, true, stn ρ z) := by
  have hY3 : ∀ u w x, LayY Y (pI (stn ρ z) u w x) := fun _ _ _ => hY
  unfold f_Model_finds
  simp only [bd_, lt_, cK_of (kY_0 hY), Bool.and_true, e_isWalker hY, r3', inR_e1 ha, inR_e1 hv, e_isInL v 1 20 1 20 rfl rfl, i10, if_false, e_walks hY (show k < 100 by omega), e19E hY (show k < 10 by omega), e_walkerAt, nI_p3, cK_of (kY_0 (hY3 _ _ _)), rY_0 (hY3 _ _ _), rY_0 hY, cY (hY3 _ _ _) (show 130 + 20 * k + 3 < 3210 by omega), ix_nI (show 130 + 20 * k + 3 < 2 ^ 31 by omega), SI_pI, up2_s]
  unfold bI
  by_cases e : SI ρ (Y + 1) (130 + 20 * k) = 1
  · rw [if_pos e]; simp only [SI_stn, e, if_true, i10, if_false]
  · rw [if_neg e]; simp only [SI_stn, e, if_true, if_false]
theorem Shn_w {a j a' j' : Nat} {v v' : Int32} : Shn (pI (stn ρ (Shn σ)) a j v) = Shn (pI σ a' j' v') := rfl
theorem op_19 : Op_19 X Y (REL X Y) := by
  intro a v σ ρ h
  have hX := h.2.2.1
  have hY : LayY Y (stn ρ (Shn σ)) := h.2.2.2.1
  have hW := hX.2.1
  obtain ⟨nw, r1, r2, r3, r4⟩ := (REL_now2 h).2.2.2.2.2.2.1
  have r3' : SI (stn ρ (Shn σ)) (Y + 1) 5 = nI nw := r3
  by_cases ha : (0 : Int32) ≤ a ∧ a ≤ nI nw - 1
  · obtain ⟨k, hk, rfl⟩ := in_idx (by omega) ha
    by_cases hv : (1 : Int32) ≤ v ∧ v ≤ 20
    · have eC := e19C hX r1 hk r2 ha hv
      have eR := e19R hY r1 hk r3' ha hv
      obtain ⟨q0, q1, q2, q3, q4, q5, q6, q7, -, -, -, -, -, -, -, -, -, -, -, -, -, b3, -, -, -, b17, -⟩ := r4 k hk
      have hm : SI σ (X + 1 + 43 + k) 3 = SI ρ (Y + 1) (130 + 20 * k + 17) := q3
      by_cases e : SI ρ (Y + 1) (130 + 20 * k) = 1
      · refine OpOK_i _ (pI σ (X + 1 + 43 + k) 7 (mnI (SI σ (X + 1 + 43 + k) 3) (SI σ (X + 1 + 43 + k) 7 + v))) (pI (stn ρ (Shn σ)) (Y + 1) (130 + 20 * k + 3) (mnI (SI ρ (Y + 1) (130 + 20 * k + 17)) (SI ρ (Y + 1) (130 + 20 * k + 3) + v))) (by rw [eC, if_pos (by rw [q5]; exact e)]) ?_ Shn_w ?_
        · show f_Model_finds Y (nI k) v true (stn ρ (Shn σ)) = _
          rw [eR, if_pos e, q3, q7]
        · refine REL_W h rfl (SB_p SB_0 (by omega) (by omega)) (SB_p SB_n (by omega) (by omega)) (RWd_W (REL_now2 h) (by omega) rfl (SB_p SB_0 (by omega) (by omega)) (fun i hi => up2_nj (by omega)) ?_)
          intro nw' k' n1 n2 hk' hq
          by_cases ek : k' = k
          · subst ek
            refine rW1_3 hq (fun j hj => up2_nj hj) up2_s (fun j hj => up2_nj hj) (by rw [q3, q7]; exact up2_s) (by omega) ?_
            rw [q3, q7]
            exact mnI_bd b17 b3 (i32_bd hv)
          · exact rW1_c hq (up2_ne (by omega)) (fun j hj => up2_nj (by omega))
      · refine OpOK_b (-1000000002) h (by rw [eC, if_neg (by rw [q5]; exact e)]) ?_
        show f_Model_finds Y (nI k) v true (stn ρ (Shn σ)) = _
        rw [eR, if_neg e]
    · refine OpOK_b (-1000000001) h ?_ ?_
      · unfold f_Trail_finds
        simp only [bd_, lt_, rX_0_0 hX, cK_of (kX_0 hX), cK_of (kW_0 hW), Bool.and_true, e_hasWalker (kW_0 hW), r2, inR_e1 ha, inR_e0 hv, e_within, i10, if_false, if_true]
      · show f_Model_finds Y (nI k) v true (stn ρ (Shn σ)) = _
        unfold f_Model_finds
        simp only [bd_, lt_, cK_of (kY_0 hY), Bool.and_true, e_isWalker hY, r3', inR_e1 ha, inR_e0 hv, e_isInL v 1 20 1 20 rfl rfl, i10, if_false, if_true]
  · refine OpOK_b (-1000000001) h ?_ ?_
    · unfold f_Trail_finds
      simp only [bd_, lt_, rX_0_0 hX, cK_of (kX_0 hX), cK_of (kW_0 hW), Bool.and_true, e_hasWalker (kW_0 hW), r2, inR_e0 ha, if_true]
    · show f_Model_finds Y a v true (stn ρ (Shn σ)) = _
      unfold f_Model_finds
      simp only [bd_, lt_, cK_of (kY_0 hY), Bool.and_true, e_isWalker hY, r3', inR_e0 ha, if_true]
end OP3
