/-! calls upon places and pictures -/
section OP5
variable {X Y : Nat} {σ ρ : Sto}
theorem bI_t {p : Prop} [Decidable p] (h : p) : bI p = 1 := if_pos h
theorem bI_f {p : Prop} [Decidable p] (h : ¬ p) : bI p = 0 := if_neg h
theorem REL_cs (h : REL X Y σ ρ) : Scs σ 0 ≠ 0 := h.2.2.2.2.1.1 0 (by omega)
theorem op_4 : Op_4 X Y (REL X Y) := by
  intro a v σ ρ h
  have hX := h.2.2.1
  have hY : LayY Y (stn ρ (Shn σ)) := h.2.2.2.1
  have hW := hX.2.1
  obtain ⟨np, nf, p1, p2, p3, p4, p5, p6, p7, p8, p9, p10, p11, p12⟩ := (REL_now2 h).2.1
  have p4' : SI (stn ρ (Shn σ)) (Y + 1) 2 = nI np := p4
  by_cases ha : (0 : Int32) ≤ a ∧ a ≤ nI np - 1
  · obtain ⟨k, hk, rfl⟩ := in_idx (by omega) ha
    by_cases hv : (0 : Int32) ≤ v ∧ v ≤ 127
    · obtain ⟨c1, c2, c3, c4, c5, c6, c7, c8, c9⟩ := p9 k hk
      obtain ⟨m, hm, em⟩ := bd_nat (n := 5) c5
      have ek : SI σ (X + 1 + 2) k = nI m := by rw [c1, em]
      have ek' : SI (stn ρ (Shn σ)) (Y + 1) (30 + 4 * k) = nI m := em
      have eC : f_Trail_shut X (nI k) v true σ = if bI (nI m = 3) = 0 then (-1000000012, true, σ) else (SI σ (X + 1 + 5) k, true, pI σ (X + 1 + 5) k v) := by
        unfold f_Trail_shut
        simp only [bd_, lt_, rX_0_0 hX, rW_0_0 hW, cK_of (kX_0 hX), cK_of (kW_0 hW), cK_of (kW_1 hW), Bool.and_true, e_hasPlace (kW_1 hW), p3, inR_e1 ha, inR_e1 hv, e_within, i10, if_false, e_isTown hW (REL_cs h) (show k < 16 by omega) hm ek, rW_1_3 hW, ix_nI (show k < 2 ^ 31 by omega), cA_of (kW_5 hW) (nW_5 hW) (show k < 16 by omega) (by decide)]
      have eR : f_Model_shut Y (nI k) v true (stn ρ (Shn σ)) = if nI m = 3 then (SI ρ (Y + 1) (30 + 4 * k + 3), true, pI (stn ρ (Shn σ)) (Y + 1) (30 + 4 * k + 3) v) else (-1000000012, true, stn ρ (Shn σ)) := by
        unfold f_Model_shut
        simp only [bd_, lt_, cK_of (kY_0 hY), Bool.and_true, e_isPlace hY, p4', inR_e1 ha, inR_e1 hv, e_isInL v 0 127 0 127 rfl rfl, i10, if_false, e_kindOf hY (show k < 700 by omega), ek', e_placeAt, nI_p3, e_becomes hY (30 + 4 * k + 3) (by omega)]
        rfl
      by_cases e3 : nI m = 3
      · refine OpOK_i (SI σ (X + 1 + 5) k) (pI σ (X + 1 + 5) k v) (pI (stn ρ (Shn σ)) (Y + 1) (30 + 4 * k + 3) v) ?_ ?_ Shn_w ?_
        · rw [eC, bI_t e3, if_neg (by decide)]
        · show f_Model_shut Y (nI k) v true (stn ρ (Shn σ)) = _
          rw [eR, if_pos e3, c4, show 33 + 4 * k = 30 + 4 * k + 3 by omega]
        · have hS : ∀ j, j ≠ 33 + 4 * k → SI (pI (stn ρ (Shn σ)) (Y + 1) (30 + 4 * k + 3) v) (Y + 1) j = SI ρ (Y + 1) j := fun j hj => up2_nj (by omega)
          have hσ : ∀ b, b ≠ X + 1 + 5 → SI (pI σ (X + 1 + 5) k v) b = SI σ b := fun b hb => up2_ne hb
          refine REL_W h Shn_pI (SB_p SB_0 (by omega) (by omega)) (SB_p SB_n (by omega) (by omega)) (RWd_G (REL_now2 h) (by omega) Shn_pI (SB_p SB_0 (by omega) (by omega)) (fun i hi => hS i (by omega)) (by rw [hS 2 (by omega)]; exact Int32.le_refl _) (fun k' np' _ _ _ => hS _ (by omega)) ?_)
          refine ⟨np, nf, p1, p2, ?_, ?_, ?_, ?_, ?_, ?_, fun k' hk' => ?_, fun i i' hi hi' => ?_, fun k' hk' => ?_, fun k' h1 h2 => ?_⟩
          · rw [hσ _ (by omega)]; exact p3
          · rw [hS _ (by omega)]; exact p4
          · rw [hσ _ (by omega)]; exact p5
          · rw [hS _ (by omega)]; exact p6
          · rw [hσ _ (by omega), hS _ (by omega)]; exact p7
          · rw [hS _ (by omega)]; exact p8
          · rw [hσ (X + 1 + 2) (by omega), hσ (X + 1 + 3) (by omega), hσ (X + 1 + 4) (by omega), hS (30 + 4 * k') (by omega), hS (31 + 4 * k') (by omega), hS (32 + 4 * k') (by omega), hS 1 (by omega)]
            obtain ⟨d1, d2, d3, d4, d5, d6, d7, d8, d9⟩ := p9 k' hk'
            by_cases ekk : k' = k
            · subst ekk
              refine ⟨d1, d2, d3, ?_, d5, d6, d7, ?_, d9⟩
              · rw [SI_pI, up2_s, SI_pI, show 33 + 4 * k' = 30 + 4 * k' + 3 by omega, up2_s]
              · rw [SI_pI, show 33 + 4 * k' = 30 + 4 * k' + 3 by omega, up2_s]; exact i32_bd hv
            · refine ⟨d1, d2, d3, ?_, d5, d6, d7, ?_, d9⟩
              · rw [hS (33 + 4 * k') (by omega), SI_pI, up2_nj ekk]; exact d4
              · rw [hS (33 + 4 * k') (by omega)]; exact d8
          · rw [hS (31 + 4 * i) (by omega), hS (31 + 4 * i') (by omega)]
            exact p10 i i' hi hi'
          · rw [hσ (X + 1 + 7) (by omega), hσ (X + 1 + 8) (by omega), hσ (X + 1 + 9) (by omega), hσ (X + 1 + 10) (by omega), hS (100 + 4 * k') (by omega), hS (101 + 4 * k') (by omega), hS (102 + 4 * k') (by omega), hS (103 + 4 * k') (by omega), hS 1 (by omega)]
            exact p11 k' hk'
          · rw [hσ (X + 1 + 6) (by omega), hS (10 + k') (by omega)]
            exact p12 k' h1 h2
      · refine OpOK_b (-1000000012) h ?_ ?_
        · rw [eC, bI_f e3, if_pos rfl]
        · show f_Model_shut Y (nI k) v true (stn ρ (Shn σ)) = _
          rw [eR, if_neg e3]
    · refine OpOK_b (-1000000001) h ?_ ?_
      · unfold f_Trail_shut
        simp only [bd_, lt_, rX_0_0 hX, rW_0_0 hW, cK_of (kX_0 hX), cK_of (kW_0 hW), cK_of (kW_1 hW), Bool.and_true, e_hasPlace (kW_1 hW), p3, inR_e1 ha, inR_e0 hv, e_within, i10, if_false, if_true]
      · show f_Model_shut Y (nI k) v true (stn ρ (Shn σ)) = _
        unfold f_Model_shut
        simp only [bd_, lt_, cK_of (kY_0 hY), Bool.and_true, e_isPlace hY, p4', inR_e1 ha, inR_e0 hv, e_isInL v 0 127 0 127 rfl rfl, i10, if_false, if_true]
  · refine OpOK_b (-1000000001) h ?_ ?_
    · unfold f_Trail_shut
      simp only [bd_, lt_, rX_0_0 hX, rW_0_0 hW, cK_of (kX_0 hX), cK_of (kW_0 hW), cK_of (kW_1 hW), Bool.and_true, e_hasPlace (kW_1 hW), p3, inR_e0 ha, if_true]
    · show f_Model_shut Y a v true (stn ρ (Shn σ)) = _
      unfold f_Model_shut
      simp only [bd_, lt_, cK_of (kY_0 hY), Bool.and_true, e_isPlace hY, p4', inR_e0 ha, if_true]
def isWat (x : Int32) : Int32 := if x = 0 then 0 else if x = 4 then 0 else 1
theorem e_isWater (x : Int32) (b : Bool) (σ : Sto) : f_Model_isWater x b σ = (isWat x, b, σ) := by
  unfold f_Model_isWater isWat
  simp only [lt_, if_pair]
theorem e_asR {ρ : Sto} (hY : LayY Y ρ) {k m q np : Nat} (hnp : np ≤ 16) (hk : k < np) (hm : m ≤ 5) (hq : q ≤ 5) (p4 : SI ρ (Y + 1) 2 = nI np) (em : SI ρ (Y + 1) (30 + 4 * k) = nI m) : f_Model_as Y (nI k) (nI q) true ρ = if isOfR m (nI q) = 0 then (-1000000012, true, ρ) else (SI ρ (Y + 1) (30 + 4 * k + 2), true, ρ) := by
  have ha := idx_in (by omega) hk
  have hv : (0 : Int32) ≤ nI q ∧ nI q ≤ 5 := ⟨Int32.not_lt.mp (nI_pos (by omega)), nI_le (b := 5) hq (by decide)⟩
  unfold f_Model_as
  simp only [bd_, lt_, cK_of (kY_0 hY), Bool.and_true, e_isPlace hY, p4, inR_e1 ha, inR_e1 hv, e_isInL (nI q) 0 5 0 5 rfl rfl, i10, if_false, e_kindOf hY (show k < 700 by omega), em, e_isWater, e_placeAt, nI_p2, rY_0 hY, cY hY (show 30 + 4 * k + 2 < 3210 by omega), ix_nI (show 30 + 4 * k + 2 < 2 ^ 31 by omega)]
  clear em p4 ha hv
  generalize SI ρ (Y + 1) (30 + 4 * k + 2) = z
  rcases (show m = 0 ∨ m = 1 ∨ m = 2 ∨ m = 3 ∨ m = 4 ∨ m = 5 by omega) with rfl | rfl | rfl | rfl | rfl | rfl <;>
  rcases (show q = 0 ∨ q = 1 ∨ q = 2 ∨ q = 3 ∨ q = 4 ∨ q = 5 by omega) with rfl | rfl | rfl | rfl | rfl | rfl <;> rfl
theorem op_3 : Op_3 X Y (REL X Y) := by
  intro a v σ ρ h
  have hX := h.2.2.1
  have hY : LayY Y (stn ρ (Shn σ)) := h.2.2.2.1
  have hW := hX.2.1
  obtain ⟨np, nf, p1, p2, p3, p4, p5, p6, p7, p8, p9, p10, p11, p12⟩ := (REL_now2 h).2.1
  have p4' : SI (stn ρ (Shn σ)) (Y + 1) 2 = nI np := p4
  by_cases ha : (0 : Int32) ≤ a ∧ a ≤ nI np - 1
  · obtain ⟨k, hk, rfl⟩ := in_idx (by omega) ha
    by_cases hv : (0 : Int32) ≤ v ∧ v ≤ 5
    · obtain ⟨c1, c2, c3, c4, c5, c6, c7, c8, c9⟩ := p9 k hk
      obtain ⟨m, hm, em⟩ := bd_nat (n := 5) c5
      obtain ⟨q, hq, rfl⟩ := in_nat (n := 5) rfl (by decide) hv.1 hv.2
      have ek : SI σ (X + 1 + 2) k = nI m := by rw [c1, em]
      have eR := e_asR hY p1 hk hm hq p4' (show SI (stn ρ (Shn σ)) (Y + 1) (30 + 4 * k) = nI m from em)
      have eC : f_Trail_as X (nI k) (nI q) true σ = if isOfR m (nI q) = 0 then (-1000000012, true, σ) else (SI σ (X + 1 + 4) k, true, σ) := by
        unfold f_Trail_as
        simp only [bd_, lt_, rX_0_0 hX, rW_0_0 hW, cK_of (kX_0 hX), cK_of (kW_0 hW), cK_of (kW_1 hW), Bool.and_true, e_hasPlace (kW_1 hW), p3, inR_e1 ha, inR_e1 hv, e_within, i10, if_false, e_isOf hW (REL_cs h) (show k < 16 by omega) hm ek, rW_1_2 hW, ix_nI (show k < 2 ^ 31 by omega), cA_of (kW_4 hW) (nW_4 hW) (show k < 16 by omega) (by decide)]
      by_cases e0 : isOfR m (nI q) = 0
      · refine OpOK_b (-1000000012) h (by rw [eC, if_pos e0]) ?_
        show f_Model_as Y (nI k) (nI q) true (stn ρ (Shn σ)) = _
        rw [eR, if_pos e0]
      · refine OpOK_b (SI σ (X + 1 + 4) k) h (by rw [eC, if_neg e0]) ?_
        show f_Model_as Y (nI k) (nI q) true (stn ρ (Shn σ)) = _
        rw [eR, if_neg e0, c3, show 32 + 4 * k = 30 + 4 * k + 2 by omega]
        rfl
    · refine OpOK_b (-1000000001) h ?_ ?_
      · unfold f_Trail_as
        simp only [bd_, lt_, rX_0_0 hX, rW_0_0 hW, cK_of (kX_0 hX), cK_of (kW_0 hW), cK_of (kW_1 hW), Bool.and_true, e_hasPlace (kW_1 hW), p3, inR_e1 ha, inR_e0 hv, e_within, i10, if_false, if_true]
      · show f_Model_as Y (nI k) v true (stn ρ (Shn σ)) = _
        unfold f_Model_as
        simp only [bd_, lt_, cK_of (kY_0 hY), Bool.and_true, e_isPlace hY, p4', inR_e1 ha, inR_e0 hv, e_isInL v 0 5 0 5 rfl rfl, i10, if_false, if_true]
  · refine OpOK_b (-1000000001) h ?_ ?_
    · unfold f_Trail_as
      simp only [bd_, lt_, rX_0_0 hX, rW_0_0 hW, cK_of (kX_0 hX), cK_of (kW_0 hW), cK_of (kW_1 hW), Bool.and_true, e_hasPlace (kW_1 hW), p3, inR_e0 ha, if_true]
    · show f_Model_as Y a v true (stn ρ (Shn σ)) = _
      unfold f_Model_as
      simp only [bd_, lt_, cK_of (kY_0 hY), Bool.and_true, e_isPlace hY, p4', inR_e0 ha, if_true]
end OP5
