/-! a day: one walker's -/
section SD
variable {X Y w : Nat} {σ ρ : Sto}
/-- the reference's walk, its fire first -/
theorem walk_form (hY : LayY Y ρ) {k : Nat} (hk : k < 10) : f_Model_walk Y (nI k) true ρ = bd_ (f_Model_fireAhead Y (SI ρ (Y + 1) (131 + 20 * k)) true ρ) (fun r_4 b_4 σ_4 => lt_ r_4 (fun (x4_5 : Int32) => (if 0 < x4_5 then (bd_ (f_Model_skips Y (SI ρ (Y + 1) (131 + 20 * k)) x4_5 (SI σ_4 (SR σ_4 Y 0) (ix (nI (130 + 20 * k) + 3))) (((b_4 && cK σ_4 Y 13) && cA σ_4 (SR σ_4 Y 0) 21 (nI (130 + 20 * k) + 3)) && cK σ_4 Y 13) σ_4) (fun (r_20 : Int32) (b_20 : Bool) (σ_20 : Sto) => (if r_20 = 0 then ((fun b σ => walk83 Y (nI k) (nI (130 + 20 * k)) (SI ρ (Y + 1) (131 + 20 * k)) (fun b σ => walkTail Y (nI k) (nI (130 + 20 * k)) b σ) b σ) b_20 σ_20) else (lt_ (pI σ_20 (SR σ_20 Y 0) (ix (nI (130 + 20 * k) + 13)) ((SI σ_20 (SR σ_20 Y 0) (ix (nI (130 + 20 * k) + 13))) + x4_5)) (fun (σ_21 : Sto) => (bd_ (f_Model_least (SI σ_21 (SR σ_21 Y 0) (ix 1)) ((SI ρ (Y + 1) (131 + 20 * k)) + x4_5) ((((((b_20 && cK σ_20 Y 13) && cA σ_20 (SR σ_20 Y 0) 21 (nI (130 + 20 * k) + 13)) && cA σ_20 (SR σ_20 Y 0) 21 (nI (130 + 20 * k) + 13)) && cK σ_21 Y 13) && cK σ_21 Y 13) && cA σ_21 (SR σ_21 Y 0) 21 1) σ_21) (fun (r_22 : Int32) (b_22 : Bool) (σ_22 : Sto) => (lt_ (pI σ_22 (SR σ_21 Y 0) (ix (nI (130 + 20 * k) + 1)) r_22) (fun (σ_23 : Sto) => ((fun b σ => walkTail Y (nI k) (nI (130 + 20 * k)) b σ) (b_22 && cA σ_22 (SR σ_21 Y 0) 21 (nI (130 + 20 * k) + 1)) σ_23)))))))))) else ((fun b σ => walk83 Y (nI k) (nI (130 + 20 * k)) (SI ρ (Y + 1) (131 + 20 * k)) (fun b σ => walkTail Y (nI k) (nI (130 + 20 * k)) b σ) b σ) b_4 σ_4)))) := by
  have i1 : nI (130 + 20 * k) + 1 = nI (131 + 20 * k) := by rw [show nI (130 + 20 * k) + 1 = nI (130 + 20 * k + 1) from nI_add _ 1]; congr 1; omega
  have e1 : SI ρ (SR ρ Y 0) (ix (nI (130 + 20 * k) + 1)) = SI ρ (Y + 1) (131 + 20 * k) := by rw [rY_0 hY, i1, ix_nI (by omega)]
  have e2 : cA ρ (SR ρ Y 0) 21 (nI (130 + 20 * k) + 1) = true := by rw [rY_0 hY, i1]; exact cY hY (by omega)
  rw [walk_eq, e_walkerAt, bd_]
  dsimp only
  rw [lt_, e1, e2, cK_of (kY_0 hY), lt_]
  rfl
theorem spend_both (h : DayI X Y w σ ρ) {nw k : Nat} (hn : nw ≤ 10) (hk : k < nw) (w3 : SI ρ (Y + 1) 5 = nI nw) (hs : SI ρ (Y + 1) (130 + 20 * k) = 1) : ∃ τ υ, FrC w σ τ ∧ FrR Y ρ υ ∧ DayI X Y w τ υ ∧ SI υ (Y + 1) 5 = nI nw ∧ f_World_spendDay w (nI k) true σ = ((), true, τ) ∧ f_Model_walkerDay Y (nI k) true ρ = ((), true, υ) := by
  obtain ⟨h1, h2, hW, hY, h5, h6, hG, hB, hWW, hT⟩ := id h
  obtain ⟨hE, hBd, w2⟩ := DayI_k h hn hk w3
  have k10 : k < 10 := by omega
  have e13 : SI σ (w + 43 + k) 13 = SI ρ (Y + 1) (139 + 20 * k) := rE_at hE (by decide) (j := 9) rfl (by omega)
  have i1 : nI (130 + 20 * k) + 1 = nI (131 + 20 * k) := by rw [show nI (130 + 20 * k) + 1 = nI (130 + 20 * k + 1) from nI_add _ 1]; congr 1; omega
  have i9 : nI (130 + 20 * k) + 9 = nI (139 + 20 * k) := by rw [show nI (130 + 20 * k) + 9 = nI (130 + 20 * k + 9) from nI_add _ 9]; congr 1; omega
  have i10 : nI (130 + 20 * k) + 10 = nI (140 + 20 * k) := by rw [show nI (130 + 20 * k) + 10 = nI (130 + 20 * k + 10) from nI_add _ 10]; congr 1; omega
  by_cases hz : 0 < SI ρ (Y + 1) (139 + 20 * k)
  · have bz : bd (SI ρ (Y + 1) (139 + 20 * k) - 1) 0 9 := by
      have b9 := hBd.2.2.2.2.1
      rw [show 130 + 20 * k + 9 = 139 + 20 * k by omega] at b9
      obtain ⟨z, hz', ez⟩ := bd_nat (n := 9) b9
      rw [ez] at hz ⊢
      have hz1 : 1 ≤ z := by
        rcases Nat.eq_zero_or_pos z with q | q
        · rw [q] at hz; exact absurd hz (by decide)
        · exact q
      rw [show nI z - 1 = nI (z - 1) from nI_sub (b := 1) hz1]
      exact ⟨by rw [nI_toInt (by omega)]; omega, by rw [nI_toInt (by omega)]; omega⟩
    have g := DayI_w (i := 13) (v := SI ρ (Y + 1) (139 + 20 * k) - 1) h hn hk w3 (by decide) (wBd_9 hBd (by omega) bz)
    rw [show 130 + 20 * k + co 13 = 139 + 20 * k from by show 130 + 20 * k + 9 = _; omega] at g
    refine ⟨_, _, FrC_p FrC_0 (by omega), FrR_p FrR_0 (by unfold dy; omega), g, by rw [SI_pI, up2_nj (by omega)]; exact w3, ?_, ?_⟩
    · unfold f_World_spendDay
      rw [lt_, rW_0_6 hW, ix_nI (show k < 2 ^ 31 by omega), rW_42 hW k10, e13, if_pos hz, lt_, cK_of (kW_0 hW), cA_of (kW_42 hW) (nW_42 hW) k10 (by decide), cK_of (kW_w hW k10)]
      rfl
    · unfold f_Model_walkerDay
      rw [e_walkerAt, bd_, lt_, i9, rY_0 hY, ix_nI (show 139 + 20 * k < 2 ^ 31 by omega), if_pos hz, lt_, cK_of (kY_0 hY), cY hY (show 139 + 20 * k < 3210 by omega)]
      rfl
  · obtain ⟨x, τ1, υ1, x01, fC1, fR1, hD1, hs1, eC1, eM1⟩ := hold_both h hn hk w3
    have w31 : SI υ1 (Y + 1) 5 = nI nw := by rw [fR1.2.2.2.2.2.2.2.2 5 (ndy (by omega))]; exact w3
    rw [hs] at hs1
    have hW1 := hD1.2.2.1
    have hY1 := hD1.2.2.2.1
    have eC0 : f_World_spendDay w (nI k) true σ = (if x = 0 then (lt_ (pI τ1 (w + 43 + k) 14 0) (fun (σ_4 : Sto) => (bd_ (f_World_skipsFire w (w + 43 + k) true σ_4) (fun r_5 b_5 σ_5 => (lt_ (fun (b : Bool) (σ : Sto) => (bd_ (f_Walker_endWalk (w + 43 + k) (b && cK σ (w + 43 + k) 10) σ) (fun (r_6 : Unit) (b_6 : Bool) (σ_6 : Sto) => (bd_ (f_World_endIfDue w (nI k) (b_6 && cK σ_6 w 11) σ_6) (fun (r_7 : Unit) (b_7 : Bool) (σ_7 : Sto) => ((), b_7, σ_7)))))) (fun J52 => (if r_5 = 0 then (bd_ (f_World_walkOn w (nI k) (b_5 && cK σ_5 w 11) σ_5) (fun (r_8 : Unit) (b_8 : Bool) (σ_8 : Sto) => (J52 b_8 σ_8))) else (J52 b_5 σ_5)))))))) else ((), true, τ1)) := by
      unfold f_World_spendDay
      rw [lt_, rW_0_6 hW, ix_nI (show k < 2 ^ 31 by omega), rW_42 hW k10, e13, if_neg hz, cK_of (kW_0 hW), cA_of (kW_42 hW) (nW_42 hW) k10 (by decide), cK_of (kW_w hW k10)]
      simp only [Bool.and_true]
      rw [eC1, bd_]
      by_cases c : x = 0
      · rw [if_pos c, if_pos c, lt_, lt_, cK_of (kW_w hW1 k10), cK_pI, cK_of (kW_0 hW1)]
        rfl
      · rw [if_neg c, if_neg c]
    have eM0 : f_Model_walkerDay Y (nI k) true ρ = (if x = 0 then (bd_ (f_Model_walk Y (nI k) true (pI υ1 (Y + 1) (140 + 20 * k) 0)) (fun (r_6 : Unit) (b_6 : Bool) (σ_6 : Sto) => ((), b_6, σ_6))) else ((), true, υ1)) := by
      unfold f_Model_walkerDay
      rw [e_walkerAt, bd_, lt_, i9, rY_0 hY, ix_nI (show 139 + 20 * k < 2 ^ 31 by omega), if_neg hz, cK_of (kY_0 hY), cY hY (show 139 + 20 * k < 3210 by omega)]
      simp only [Bool.and_true]
      rw [eM1, bd_]
      by_cases c : x = 0
      · rw [if_pos c, if_pos c, lt_, i10, rY_0 hY1, ix_nI (show 140 + 20 * k < 2 ^ 31 by omega), cK_of (kY_0 hY1), cY hY1 (show 140 + 20 * k < 3210 by omega), cK_pI, cK_of (kY_0 hY1)]
        rfl
      · rw [if_neg c, if_neg c]
    by_cases c : x = 0
    · rw [if_pos c, lt_] at eC0
      rw [if_pos c] at eM0
      have g := DayI_w (i := 14) (v := 0) hD1 hn hk w31 (by decide) (wBd_f (DayI_k hD1 hn hk w31).2.1 (by omega) (show (10 : Nat) = 4 ∨ 10 = 5 ∨ 10 = 6 ∨ 10 = 7 ∨ 10 = 8 ∨ 10 = 10 ∨ 10 = 11 ∨ 10 = 12 ∨ 10 = 13 by omega))
      rw [show 130 + 20 * k + co 14 = 140 + 20 * k from by show 130 + 20 * k + 10 = _; omega] at g
      have fC2 : FrC w σ (pI τ1 (w + 43 + k) 14 0) := FrC_p fC1 (by omega)
      have fR2 : FrR Y ρ (pI υ1 (Y + 1) (140 + 20 * k) 0) := FrR_p fR1 (by unfold dy; omega)
      have w32 : SI (pI υ1 (Y + 1) (140 + 20 * k) 0) (Y + 1) 5 = nI nw := by rw [SI_pI, up2_nj (by omega)]; exact w31
      have hs2 : SI (pI υ1 (Y + 1) (140 + 20 * k) 0) (Y + 1) (130 + 20 * k) = 1 := by rw [SI_pI, up2_nj (by omega)]; exact hs1
      generalize pI τ1 (w + 43 + k) 14 0 = τ2 at *
      generalize pI υ1 (Y + 1) (140 + 20 * k) 0 = υ2 at *
      have hY2 := g.2.2.2.1
      obtain ⟨x', τ3, υ3, x01', fC3, fR3, hD3, hs3, w33, hsame, eC3, eM3⟩ := skip_both g hn hk w32 hs2
      have eW : f_Model_walk Y (nI k) true υ2 = if x' = 0 then walk83 Y (nI k) (nI (130 + 20 * k)) (SI υ2 (Y + 1) (131 + 20 * k)) (fun b σ => walkTail Y (nI k) (nI (130 + 20 * k)) b σ) true υ3 else walkTail Y (nI k) (nI (130 + 20 * k)) true υ3 := by
        rw [walk_form hY2 k10]
        exact eM3 (fun b σ => walk83 Y (nI k) (nI (130 + 20 * k)) (SI υ2 (Y + 1) (131 + 20 * k)) (fun b σ => walkTail Y (nI k) (nI (130 + 20 * k)) b σ) b σ) (fun b σ => walkTail Y (nI k) (nI (130 + 20 * k)) b σ)
      have hW3 := hD3.2.2.1
      have fC3' := FrC_t fC2 fC3
      have fR3' := FrR_t fR2 fR3
      have fin : ∀ τ υ, FrC w σ τ → FrR Y ρ υ → DayI X Y w τ υ → SI υ (Y + 1) (130 + 20 * k) = 1 → SI υ (Y + 1) 5 = nI nw → (f_World_spendDay w (nI k) true σ = bd_ (f_Walker_endWalk (w + 43 + k) true τ) (fun (r_6 : Unit) (b_6 : Bool) (σ_6 : Sto) => (bd_ (f_World_endIfDue w (nI k) (b_6 && cK σ_6 w 11) σ_6) (fun (r_7 : Unit) (b_7 : Bool) (σ_7 : Sto) => ((), b_7, σ_7))))) → f_Model_walk Y (nI k) true υ2 = walkTail Y (nI k) (nI (130 + 20 * k)) true υ → ∃ τ υ, FrC w σ τ ∧ FrR Y ρ υ ∧ DayI X Y w τ υ ∧ SI υ (Y + 1) 5 = nI nw ∧ f_World_spendDay w (nI k) true σ = ((), true, τ) ∧ f_Model_walkerDay Y (nI k) true ρ = ((), true, υ) := by
        intro τ υ a1 a2 a3 a4 a5 a6 a7
        obtain ⟨τ4, υ4, c1, c2, c3, c4, c5, c6, c7⟩ := after_both a3 hn hk a5 a4
        obtain ⟨τ5, υ5, d1, d2, d3, d4, d5, d6⟩ := quit_both c3 hn hk c5 c4
        refine ⟨τ5, υ5, FrC_t (FrC_t a1 c1) d1, FrR_t (FrR_t a2 c2) d2, d3, d4, ?_, ?_⟩
        · rw [a6, c6, bd_, cK_of (kW_0 c3.2.2.1), Bool.and_true, d5]
          rfl
        · rw [eM0, a7, c7, d6]
          rfl
      by_cases cx : x' = 0
      · rw [if_pos cx] at eW
        obtain ⟨τ4, υ4, c1, c2, c3, c4, c5, c6, c7⟩ := go_both hD3 hn hk w33 hs3
        refine fin τ4 υ4 (FrC_t fC3' c1) (FrR_t fR3' c2) c3 c4 c5 ?_ ?_
        · rw [eC0, eC3, bd_, lt_, if_pos cx, cK_of (kW_0 hW3)]
          simp only [Bool.and_true]
          rw [c6, bd_]
          dsimp only
          rw [cK_of (kW_w c3.2.2.1 k10)]
          rfl
        · rw [eW, ← hsame cx]
          exact c7 _
      · rw [if_neg cx] at eW
        refine fin τ3 υ3 fC3' fR3' hD3 hs3 w33 ?_ eW
        rw [eC0, eC3, bd_, lt_, if_neg cx]
        dsimp only
        rw [cK_of (kW_w hW3 k10)]
        rfl
    · rw [if_neg c] at eC0 eM0
      exact ⟨τ1, υ1, fC1, fR1, hD1, w31, eC0, eM0⟩
/-- a walker that has waited sets out, on both sides -/
theorem setout_both (h : DayI X Y w σ ρ) {nw k : Nat} (hn : nw ≤ 10) (hk : k < nw) (w3 : SI ρ (Y + 1) 5 = nI nw) : ∃ τ υ, FrC w σ τ ∧ FrR Y ρ υ ∧ DayI X Y w τ υ ∧ SI υ (Y + 1) 5 = nI nw ∧ (∀ L, b_World_passDay_2 w L (nI k) true σ = L (nI k + 1) true τ) ∧ ∀ L, b_Model_oneDay_2 Y L (nI k) true ρ = L (nI k + 1) true υ := by
  obtain ⟨h1, h2, hW, hY, h5, h6, hG, hB, hWW, hT⟩ := id h
  obtain ⟨hE, hBd, w2⟩ := DayI_k h hn hk w3
  have k10 : k < 10 := by omega
  have e5 : SI σ (w + 43 + k) 5 = SI ρ (Y + 1) (130 + 20 * k) := rE_at hE (by decide) (j := 0) rfl (by omega)
  have e0 : SI σ (w + 43 + k) 0 = SI ρ (Y + 1) (145 + 20 * k) := rE_at hE (by decide) (j := 15) rfl (by omega)
  have e3 : SI σ (w + 43 + k) 3 = SI ρ (Y + 1) (147 + 20 * k) := rE_at hE (by decide) (j := 17) rfl (by omega)
  have e6 : SI σ (w + 43 + k) 6 = SI ρ (Y + 1) (131 + 20 * k) := rE_at hE (by decide) (j := 1) rfl (by omega)
  have i3 : nI (130 + 20 * k) + 3 = nI (133 + 20 * k) := by rw [show nI (130 + 20 * k) + 3 = nI (130 + 20 * k + 3) from nI_add _ 3]; congr 1; omega
  have i15 : nI (130 + 20 * k) + 15 = nI (145 + 20 * k) := by rw [show nI (130 + 20 * k) + 15 = nI (130 + 20 * k + 15) from nI_add _ 15]; congr 1; omega
  have i17 : nI (130 + 20 * k) + 17 = nI (147 + 20 * k) := by rw [show nI (130 + 20 * k) + 17 = nI (130 + 20 * k + 17) from nI_add _ 17]; congr 1; omega
  have bodyC : ∀ L, b_World_passDay_2 w L (nI k) true σ = bd_ (f_Walker_setOutOn (w + 43 + k) (SI ρ (Y + 1) 0) true σ) (fun (r_2 : Unit) (b_2 : Bool) (σ_2 : Sto) => L (nI k + 1) b_2 σ_2) := fun L => by
    unfold b_World_passDay_2
    rw [w2, if_pos (show nI k < nI nw from nI_lt hk (by omega)), rW_0_6 hW, ix_nI (show k < 2 ^ 31 by omega), rW_42 hW k10, h6, cK_of (kW_0 hW), cA_of (kW_42 hW) (nW_42 hW) k10 (by decide), cK_of (kW_w hW k10)]
    rfl
  have n17 : 147 + 20 * k ≠ 130 + 20 * k := by omega
  have bodyM : ∀ L, b_Model_oneDay_2 Y L (nI k) true ρ = if SI ρ (Y + 1) (130 + 20 * k) = 0 then (if SI ρ (Y + 1) 0 < SI ρ (Y + 1) (145 + 20 * k) then L (nI k + 1) true ρ else L (nI k + 1) true (pI (pI ρ (Y + 1) (130 + 20 * k) 1) (Y + 1) (133 + 20 * k) (SI ρ (Y + 1) (147 + 20 * k)))) else L (nI k + 1) true ρ := fun L => by
    unfold b_Model_oneDay_2
    rw [rY_0 hY, show ix (5 : Int32) = 5 from rfl, w3, if_pos (show nI k < nI nw from nI_lt hk (by omega))]
    simp only [bd_, lt_, e_walkerAt, i3, i15, i17, SR_pI, cK_pI, cA_pI, rY_0 hY, cK_of (kY_0 hY), cYk hY 5 (v := 5) rfl (by decide), cYk hY 0 (v := 0) rfl (by decide), show ix (0 : Int32) = 0 from rfl, ix_nI (show 133 + 20 * k < 2 ^ 31 by omega), cY hY (show 133 + 20 * k < 3210 by omega), ix_nI (show 145 + 20 * k < 2 ^ 31 by omega), cY hY (show 145 + 20 * k < 3210 by omega), ix_nI (show 147 + 20 * k < 2 ^ 31 by omega), cY hY (show 147 + 20 * k < 3210 by omega), ix_nI (show 130 + 20 * k < 2 ^ 31 by omega), cY hY (show 130 + 20 * k < 3210 by omega), SI_pI, up2_nj n17, Bool.and_true]
  by_cases c1 : SI ρ (Y + 1) (130 + 20 * k) = 0
  · by_cases c2 : SI ρ (Y + 1) 0 < SI ρ (Y + 1) (145 + 20 * k)
    · refine ⟨σ, ρ, FrC_0, FrR_0, h, w3, fun L => ?_, fun L => by rw [bodyM, if_pos c1, if_pos c2]⟩
      rw [bodyC]
      unfold f_Walker_setOutOn
      rw [e5, if_pos c1, e0, if_pos c2, cK_of (kW_w hW k10)]
      rfl
    · have m0 : SI ρ (Y + 1) (131 + 20 * k) = 0 := by
        have := hBd.2.2.2.2.2.2.2.2.2 c1
        rw [show 130 + 20 * k + 1 = 131 + 20 * k by omega] at this
        exact this
      have hw0 := wBd_0 (v := 1) hBd (by omega) ⟨by decide, by decide⟩ (by decide)
      have g1 := DayI_w (i := 5) (v := 1) h hn hk w3 (by decide) hw0
      rw [show 130 + 20 * k + co 5 = 130 + 20 * k from rfl] at g1
      have y1 : SI (pI ρ (Y + 1) (130 + 20 * k) 1) (Y + 1) 5 = nI nw := by rw [SI_pI, up2_nj (by omega)]; exact w3
      have b17 : bd (SI ρ (Y + 1) (147 + 20 * k)) 0 20 := by
        have := hBd.2.2.2.2.2.2.2.1
        rw [show 130 + 20 * k + 17 = 147 + 20 * k by omega] at this
        exact ⟨Int.le_trans (by decide) this.1, this.2⟩
      have g2 := DayI_w (i := 7) (v := SI ρ (Y + 1) (147 + 20 * k)) g1 hn hk y1 (by decide) (wBd_3 (DayI_k g1 hn hk y1).2.1 (by omega) b17)
      rw [show 130 + 20 * k + co 7 = 133 + 20 * k from by show 130 + 20 * k + 3 = _; omega] at g2
      refine ⟨_, _, FrC_p (FrC_p FrC_0 (show w + 43 + k = w + 13 ∨ w + 43 + k = w + 14 ∨ w + 43 + k = w + 20 ∨ (w + 43 ≤ w + 43 + k ∧ w + 43 + k ≤ w + 52) by omega)) (by omega), FrR_p (FrR_p FrR_0 (by unfold dy; omega)) (by unfold dy; omega), g2, by rw [SI_pI, up2_nj (by omega)]; exact y1, fun L => ?_, fun L => by rw [bodyM, if_pos c1, if_neg c2]⟩
      rw [bodyC]
      have n6 : (6 : Nat) ≠ 5 := by decide
      unfold f_Walker_setOutOn
      rw [e5, if_pos c1, e0, if_neg c2]
      simp only [lt_, cK_pI, cK_of (kW_w hW k10), Bool.and_true]
      rw [pI_id (show SI (pI σ (w + 43 + k) 5 1) (w + 43 + k) 6 = 0 by rw [SI_pI, up2_nj (by decide), e6]; exact m0), SI_pI, up2_nj (by decide), e3]
      rfl
  · refine ⟨σ, ρ, FrC_0, FrR_0, h, w3, fun L => ?_, fun L => by rw [bodyM, if_neg c1]⟩
    rw [bodyC]
    unfold f_Walker_setOutOn
    rw [e5, if_neg c1, cK_of (kW_w hW k10)]
    rfl
end SD
