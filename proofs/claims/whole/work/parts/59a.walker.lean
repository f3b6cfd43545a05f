/-! walkers told -/
section WK
variable {X Y w : Nat} {σ ρ : Sto}
theorem e_comeNew {A : Nat} (hk : Stk σ A = 10) (a p g c k : Int32) : f_Walker_comeNew A a p g c k true σ = ((), true, (pI (pI (pI (pI (pI (pI (pI (pI (pI (pI (pI (pI (pI (pI (pI (pI (pI (pI σ A 0 a) A 1 p) A 2 g) A 3 c) A 4 k) A 5 0) A 6 0) A 7 0) A 8 0) A 9 0) A 10 0) A 11 0) A 12 0) A 13 0) A 14 0) A 15 0) A 16 0) A 17 0)) := by
  unfold f_Walker_comeNew
  simp only [lt_, cK_pI, cK_of hk, Bool.and_true]
theorem e_walkM (hY : LayY Y ρ) {nw : Nat} (hn : nw < 10) (w3 : SI ρ (Y + 1) 5 = nI nw) (a p g c k : Int32) : lp_ (b_Model_walker_100 Y a p g c k (nI (130 + 20 * nw))) (fun (x7 : Int32) (b : Bool) (σ : Sto) => (0, false, σ)) fuel_ 0 true ρ = (nI nw, true, (pI (pI (pI (pI (pI (pI (rI ρ (Y + 1) (wf (fun _ => 0) (SI ρ (Y + 1)) (130 + 20 * nw) 20)) (Y + 1) (130 + 20 * nw + 2) p) (Y + 1) (130 + 20 * nw + 15) a) (Y + 1) (130 + 20 * nw + 16) g) (Y + 1) (130 + 20 * nw + 17) c) (Y + 1) (130 + 20 * nw + 18) k) (Y + 1) 5 (nI nw + 1))) := by
  obtain ⟨τ, q, e⟩ := lp_ex (body := b_Model_walker_100 Y a p g c k (nI (130 + 20 * nw))) (bad := fun (x7 : Int32) (b : Bool) (σ : Sto) => (0, false, σ)) 20 (fun i τ => τ = rI ρ (Y + 1) (wf (fun _ => 0) (SI ρ (Y + 1)) (130 + 20 * nw) i)) (fun τ => (nI nw, true, (pI (pI (pI (pI (pI (pI τ (Y + 1) (130 + 20 * nw + 2) p) (Y + 1) (130 + 20 * nw + 15) a) (Y + 1) (130 + 20 * nw + 16) g) (Y + 1) (130 + 20 * nw + 17) c) (Y + 1) (130 + 20 * nw + 18) k) (Y + 1) 5 (nI nw + 1)))) (by decide) (fun i τ hi q => by
    subst q
    refine ⟨_, rfl, fun L => ?_⟩
    unfold b_Model_walker_100
    rw [if_pos (show nI i < (20 : Int32) from nI_lt (b := 20) hi (by decide))]
    simp only [lt_, SR_rI, rY_0 hY, cK_rI, cA_rI, cK_of (kY_0 hY), nI_add, ix_nI (show 130 + 20 * nw + i < 2 ^ 31 by omega), cY hY (show 130 + 20 * nw + i < 3210 by omega), Bool.and_true, pI_rI]
    rw [← wf_s]) (fun L τ q => by
    have hY2 : LayY Y τ := by rw [q]; exact LayY_c hY Stk_rI Sln_rI SR_rI
    have w3' : SI τ (Y + 1) 5 = nI nw := by
      rw [q, SI_rI, up1_s]
      unfold wf
      rw [if_neg (by omega)]
      exact w3
    have n2 : (5 : Nat) ≠ 130 + 20 * nw + 2 := by omega
    have n15 : (5 : Nat) ≠ 130 + 20 * nw + 15 := by omega
    have n16 : (5 : Nat) ≠ 130 + 20 * nw + 16 := by omega
    have n17 : (5 : Nat) ≠ 130 + 20 * nw + 17 := by omega
    have n18 : (5 : Nat) ≠ 130 + 20 * nw + 18 := by omega
    unfold b_Model_walker_100
    rw [if_neg (show ¬ nI 20 < (20 : Int32) by decide)]
    simp only [lt_, SR_pI, rY_0 hY2, cK_pI, cA_pI, SI_pI, cK_of (kY_0 hY2), nI_p2 (130 + 20 * nw), show nI (130 + 20 * nw) + 15 = nI (130 + 20 * nw + 15) from nI_add _ 15, show nI (130 + 20 * nw) + 16 = nI (130 + 20 * nw + 16) from nI_add _ 16, show nI (130 + 20 * nw) + 17 = nI (130 + 20 * nw + 17) from nI_add _ 17, show nI (130 + 20 * nw) + 18 = nI (130 + 20 * nw + 18) from nI_add _ 18, ix_nI (show 130 + 20 * nw + 2 < 2 ^ 31 by omega), cY hY2 (show 130 + 20 * nw + 2 < 3210 by omega), up2_nj n2, ix_nI (show 130 + 20 * nw + 15 < 2 ^ 31 by omega), cY hY2 (show 130 + 20 * nw + 15 < 3210 by omega), up2_nj n15, ix_nI (show 130 + 20 * nw + 16 < 2 ^ 31 by omega), cY hY2 (show 130 + 20 * nw + 16 < 3210 by omega), up2_nj n16, ix_nI (show 130 + 20 * nw + 17 < 2 ^ 31 by omega), cY hY2 (show 130 + 20 * nw + 17 < 3210 by omega), up2_nj n17, ix_nI (show 130 + 20 * nw + 18 < 2 ^ 31 by omega), cY hY2 (show 130 + 20 * nw + 18 < 3210 by omega), up2_nj n18, show ix (5 : Int32) = 5 from rfl, cYk hY2 5 (v := 5) rfl (by decide), w3', up2_s, Int32.add_sub_cancel, Bool.and_true]) ρ (by rw [wf_0, rI_id])
  rw [e, q]
theorem op_15 : Op_15 X Y (REL X Y) := by
  intro a p g c k σ ρ h
  have hX := h.2.2.1
  have hY : LayY Y (stn ρ (Shn σ)) := h.2.2.2.1
  have hW := hX.2.1
  obtain ⟨d1, d2⟩ := (REL_now2 h).1
  obtain ⟨nw, w1, w2, w3, w4⟩ := (REL_now2 h).2.2.2.2.2.2.1
  by_cases ha : (SI ρ (Y + 1) 0 : Int32) ≤ a ∧ a ≤ 999
  · by_cases hp : (1 : Int32) ≤ p ∧ p ≤ 40
    · by_cases hg : (0 : Int32) ≤ g ∧ g ≤ 5
      · by_cases hc : (1 : Int32) ≤ c ∧ c ≤ 20
        · by_cases hk : (1 : Int32) ≤ k ∧ k ≤ 99
          · by_cases hq : nw < 10
            · have hlt : nI nw < (10 : Int32) := nI_lt (b := 10) hq (by decide)
              have hne : ¬ nI nw = (10 : Int32) := fun e => by have := (nI_eq (b := 10) (by omega) (by decide)).mp e; omega
              have eM := e_walkM hY hq w3 a p g c k
              rw [SI_stn] at eM
              generalize hσ' : (pI (pI (pI (pI (pI (pI (pI (pI (pI (pI (pI (pI (pI (pI (pI (pI (pI (pI (pI σ (X + 1 + 43 + nw) 0 a) (X + 1 + 43 + nw) 1 p) (X + 1 + 43 + nw) 2 g) (X + 1 + 43 + nw) 3 c) (X + 1 + 43 + nw) 4 k) (X + 1 + 43 + nw) 5 0) (X + 1 + 43 + nw) 6 0) (X + 1 + 43 + nw) 7 0) (X + 1 + 43 + nw) 8 0) (X + 1 + 43 + nw) 9 0) (X + 1 + 43 + nw) 10 0) (X + 1 + 43 + nw) 11 0) (X + 1 + 43 + nw) 12 0) (X + 1 + 43 + nw) 13 0) (X + 1 + 43 + nw) 14 0) (X + 1 + 43 + nw) 15 0) (X + 1 + 43 + nw) 16 0) (X + 1 + 43 + nw) 17 0) (X + 1) 7 (nI nw + 1)) = σ'
              generalize hρ' : (pI (pI (pI (pI (pI (pI (rI (stn ρ (Shn σ)) (Y + 1) (wf (fun _ => 0) (SI ρ (Y + 1)) (130 + 20 * nw) 20)) (Y + 1) (130 + 20 * nw + 2) p) (Y + 1) (130 + 20 * nw + 15) a) (Y + 1) (130 + 20 * nw + 16) g) (Y + 1) (130 + 20 * nw + 17) c) (Y + 1) (130 + 20 * nw + 18) k) (Y + 1) 5 (nI nw + 1)) = ρ' at eM
              have fS : Shn σ' = Shn σ ∧ Stk σ' = Stk σ ∧ Sln σ' = Sln σ ∧ SR σ' = SR σ ∧ SL σ' = SL σ ∧ Scs σ' = Scs σ := by
                rw [← hσ']
                exact ⟨by simp only [Shn_pI], by simp only [Stk_pI], by simp only [Sln_pI], by simp only [SR_pI], by simp only [SL_pI], by simp only [Scs_pI]⟩
              obtain ⟨g0, g1, g2, g3, g4, g5⟩ := fS
              have fR : Shn ρ' = Shn σ ∧ Stk ρ' = Stk ρ ∧ Sln ρ' = Sln ρ ∧ SR ρ' = SR ρ ∧ SL ρ' = SL ρ ∧ Scs ρ' = Scs ρ := by
                rw [← hρ']
                exact ⟨by simp only [Shn_pI, Shn_rI, Shn_stn], by simp only [Stk_pI, Stk_rI, Stk_stn], by simp only [Sln_pI, Sln_rI, Sln_stn], by simp only [SR_pI, SR_rI, SR_stn], by simp only [SL_pI, SL_rI, SL_stn], by simp only [Scs_pI, Scs_rI, Scs_stn]⟩
              obtain ⟨q0, q1, q2, q3, q4, q5⟩ := fR
              have hσ : ∀ b, b ≠ X + 1 → b ≠ X + 1 + 43 + nw → SI σ' b = SI σ b := fun b h1 h2 => by
                rw [← hσ']
                simp only [SI_pI, up2_ne h1, up2_ne h2]
              have hσw : ∀ j, j ≠ 7 → SI σ' (X + 1) j = SI σ (X + 1) j := fun j hj => by
                have nn : X + 1 ≠ X + 1 + 43 + nw := by omega
                rw [← hσ']
                simp only [SI_pI, up2_nj hj, up2_ne' nn]
              have hσ7 : SI σ' (X + 1) 7 = nI (nw + 1) := by rw [← hσ', SI_pI, up2_s, nI_1]
              have hρ : ∀ x, x ≠ Y + 1 → SI ρ' x = SI ρ x := fun x hx => by
                rw [← hρ']
                simp only [SI_pI, up2_ne hx, SI_rI]
                rw [up1_ne' hx]; rfl
              have hS : ∀ i, i ≠ 5 → i < 130 + 20 * nw ∨ 130 + 20 * nw + 20 ≤ i → SI ρ' (Y + 1) i = SI ρ (Y + 1) i := fun i h1 h2 => by
                rw [← hρ', SI_pI, up2_nj h1, SI_pI, up2_nj (by omega), SI_pI, up2_nj (by omega), SI_pI, up2_nj (by omega), SI_pI, up2_nj (by omega), SI_pI, up2_nj (by omega), SI_rI, up1_s]
                unfold wf
                rw [if_neg (by omega)]
              have hS5 : SI ρ' (Y + 1) 5 = nI (nw + 1) := by rw [← hρ', SI_pI, up2_s, nI_1]
              have hS0 : ∀ i, 130 + 20 * nw ≤ i → i < 130 + 20 * nw + 20 → i ≠ 130 + 20 * nw + 2 → i ≠ 130 + 20 * nw + 15 → i ≠ 130 + 20 * nw + 16 → i ≠ 130 + 20 * nw + 17 → i ≠ 130 + 20 * nw + 18 → SI ρ' (Y + 1) i = 0 := fun i h1 h2 e2 e15 e16 e17 e18 => by
                rw [← hρ', SI_pI, up2_nj (by omega), SI_pI, up2_nj e18, SI_pI, up2_nj e17, SI_pI, up2_nj e16, SI_pI, up2_nj e15, SI_pI, up2_nj e2, SI_rI, up1_s]
                unfold wf
                rw [if_pos (by omega)]
              have hS2 : SI ρ' (Y + 1) (130 + 20 * nw + 2) = p := by rw [← hρ', SI_pI, up2_nj (by omega), SI_pI, up2_nj (by omega), SI_pI, up2_nj (by omega), SI_pI, up2_nj (by omega), SI_pI, up2_nj (by omega), SI_pI, up2_s]
              have hS15 : SI ρ' (Y + 1) (130 + 20 * nw + 15) = a := by rw [← hρ', SI_pI, up2_nj (by omega), SI_pI, up2_nj (by omega), SI_pI, up2_nj (by omega), SI_pI, up2_nj (by omega), SI_pI, up2_s]
              have hS16 : SI ρ' (Y + 1) (130 + 20 * nw + 16) = g := by rw [← hρ', SI_pI, up2_nj (by omega), SI_pI, up2_nj (by omega), SI_pI, up2_nj (by omega), SI_pI, up2_s]
              have hS17 : SI ρ' (Y + 1) (130 + 20 * nw + 17) = c := by rw [← hρ', SI_pI, up2_nj (by omega), SI_pI, up2_nj (by omega), SI_pI, up2_s]
              have hS18 : SI ρ' (Y + 1) (130 + 20 * nw + 18) = k := by rw [← hρ', SI_pI, up2_nj (by omega), SI_pI, up2_s]
              have c0 : SI σ' (X + 1 + 43 + nw) 0 = a := by rw [← hσ', SI_pI, up2_ne' (by omega), SI_pI, up2_nj (by decide), SI_pI, up2_nj (by decide), SI_pI, up2_nj (by decide), SI_pI, up2_nj (by decide), SI_pI, up2_nj (by decide), SI_pI, up2_nj (by decide), SI_pI, up2_nj (by decide), SI_pI, up2_nj (by decide), SI_pI, up2_nj (by decide), SI_pI, up2_nj (by decide), SI_pI, up2_nj (by decide), SI_pI, up2_nj (by decide), SI_pI, up2_nj (by decide), SI_pI, up2_nj (by decide), SI_pI, up2_nj (by decide), SI_pI, up2_nj (by decide), SI_pI, up2_nj (by decide), SI_pI, up2_s]
              have c1 : SI σ' (X + 1 + 43 + nw) 1 = p := by rw [← hσ', SI_pI, up2_ne' (by omega), SI_pI, up2_nj (by decide), SI_pI, up2_nj (by decide), SI_pI, up2_nj (by decide), SI_pI, up2_nj (by decide), SI_pI, up2_nj (by decide), SI_pI, up2_nj (by decide), SI_pI, up2_nj (by decide), SI_pI, up2_nj (by decide), SI_pI, up2_nj (by decide), SI_pI, up2_nj (by decide), SI_pI, up2_nj (by decide), SI_pI, up2_nj (by decide), SI_pI, up2_nj (by decide), SI_pI, up2_nj (by decide), SI_pI, up2_nj (by decide), SI_pI, up2_nj (by decide), SI_pI, up2_s]
              have c2 : SI σ' (X + 1 + 43 + nw) 2 = g := by rw [← hσ', SI_pI, up2_ne' (by omega), SI_pI, up2_nj (by decide), SI_pI, up2_nj (by decide), SI_pI, up2_nj (by decide), SI_pI, up2_nj (by decide), SI_pI, up2_nj (by decide), SI_pI, up2_nj (by decide), SI_pI, up2_nj (by decide), SI_pI, up2_nj (by decide), SI_pI, up2_nj (by decide), SI_pI, up2_nj (by decide), SI_pI, up2_nj (by decide), SI_pI, up2_nj (by decide), SI_pI, up2_nj (by decide), SI_pI, up2_nj (by decide), SI_pI, up2_nj (by decide), SI_pI, up2_s]
              have c3 : SI σ' (X + 1 + 43 + nw) 3 = c := by rw [← hσ', SI_pI, up2_ne' (by omega), SI_pI, up2_nj (by decide), SI_pI, up2_nj (by decide), SI_pI, up2_nj (by decide), SI_pI, up2_nj (by decide), SI_pI, up2_nj (by decide), SI_pI, up2_nj (by decide), SI_pI, up2_nj (by decide), SI_pI, up2_nj (by decide), SI_pI, up2_nj (by decide), SI_pI, up2_nj (by decide), SI_pI, up2_nj (by decide), SI_pI, up2_nj (by decide), SI_pI, up2_nj (by decide), SI_pI, up2_nj (by decide), SI_pI, up2_s]
              have c4 : SI σ' (X + 1 + 43 + nw) 4 = k := by rw [← hσ', SI_pI, up2_ne' (by omega), SI_pI, up2_nj (by decide), SI_pI, up2_nj (by decide), SI_pI, up2_nj (by decide), SI_pI, up2_nj (by decide), SI_pI, up2_nj (by decide), SI_pI, up2_nj (by decide), SI_pI, up2_nj (by decide), SI_pI, up2_nj (by decide), SI_pI, up2_nj (by decide), SI_pI, up2_nj (by decide), SI_pI, up2_nj (by decide), SI_pI, up2_nj (by decide), SI_pI, up2_nj (by decide), SI_pI, up2_s]
              have c5 : SI σ' (X + 1 + 43 + nw) 5 = 0 := by rw [← hσ', SI_pI, up2_ne' (by omega), SI_pI, up2_nj (by decide), SI_pI, up2_nj (by decide), SI_pI, up2_nj (by decide), SI_pI, up2_nj (by decide), SI_pI, up2_nj (by decide), SI_pI, up2_nj (by decide), SI_pI, up2_nj (by decide), SI_pI, up2_nj (by decide), SI_pI, up2_nj (by decide), SI_pI, up2_nj (by decide), SI_pI, up2_nj (by decide), SI_pI, up2_nj (by decide), SI_pI, up2_s]
              have c6 : SI σ' (X + 1 + 43 + nw) 6 = 0 := by rw [← hσ', SI_pI, up2_ne' (by omega), SI_pI, up2_nj (by decide), SI_pI, up2_nj (by decide), SI_pI, up2_nj (by decide), SI_pI, up2_nj (by decide), SI_pI, up2_nj (by decide), SI_pI, up2_nj (by decide), SI_pI, up2_nj (by decide), SI_pI, up2_nj (by decide), SI_pI, up2_nj (by decide), SI_pI, up2_nj (by decide), SI_pI, up2_nj (by decide), SI_pI, up2_s]
              have c7 : SI σ' (X + 1 + 43 + nw) 7 = 0 := by rw [← hσ', SI_pI, up2_ne' (by omega), SI_pI, up2_nj (by decide), SI_pI, up2_nj (by decide), SI_pI, up2_nj (by decide), SI_pI, up2_nj (by decide), SI_pI, up2_nj (by decide), SI_pI, up2_nj (by decide), SI_pI, up2_nj (by decide), SI_pI, up2_nj (by decide), SI_pI, up2_nj (by decide), SI_pI, up2_nj (by decide), SI_pI, up2_s]
              have c8 : SI σ' (X + 1 + 43 + nw) 8 = 0 := by rw [← hσ', SI_pI, up2_ne' (by omega), SI_pI, up2_nj (by decide), SI_pI, up2_nj (by decide), SI_pI, up2_nj (by decide), SI_pI, up2_nj (by decide), SI_pI, up2_nj (by decide), SI_pI, up2_nj (by decide), SI_pI, up2_nj (by decide), SI_pI, up2_nj (by decide), SI_pI, up2_nj (by decide), SI_pI, up2_s]
              have c9 : SI σ' (X + 1 + 43 + nw) 9 = 0 := by rw [← hσ', SI_pI, up2_ne' (by omega), SI_pI, up2_nj (by decide), SI_pI, up2_nj (by decide), SI_pI, up2_nj (by decide), SI_pI, up2_nj (by decide), SI_pI, up2_nj (by decide), SI_pI, up2_nj (by decide), SI_pI, up2_nj (by decide), SI_pI, up2_nj (by decide), SI_pI, up2_s]
              have c10 : SI σ' (X + 1 + 43 + nw) 10 = 0 := by rw [← hσ', SI_pI, up2_ne' (by omega), SI_pI, up2_nj (by decide), SI_pI, up2_nj (by decide), SI_pI, up2_nj (by decide), SI_pI, up2_nj (by decide), SI_pI, up2_nj (by decide), SI_pI, up2_nj (by decide), SI_pI, up2_nj (by decide), SI_pI, up2_s]
              have c11 : SI σ' (X + 1 + 43 + nw) 11 = 0 := by rw [← hσ', SI_pI, up2_ne' (by omega), SI_pI, up2_nj (by decide), SI_pI, up2_nj (by decide), SI_pI, up2_nj (by decide), SI_pI, up2_nj (by decide), SI_pI, up2_nj (by decide), SI_pI, up2_nj (by decide), SI_pI, up2_s]
              have c12 : SI σ' (X + 1 + 43 + nw) 12 = 0 := by rw [← hσ', SI_pI, up2_ne' (by omega), SI_pI, up2_nj (by decide), SI_pI, up2_nj (by decide), SI_pI, up2_nj (by decide), SI_pI, up2_nj (by decide), SI_pI, up2_nj (by decide), SI_pI, up2_s]
              have c13 : SI σ' (X + 1 + 43 + nw) 13 = 0 := by rw [← hσ', SI_pI, up2_ne' (by omega), SI_pI, up2_nj (by decide), SI_pI, up2_nj (by decide), SI_pI, up2_nj (by decide), SI_pI, up2_nj (by decide), SI_pI, up2_s]
              have c14 : SI σ' (X + 1 + 43 + nw) 14 = 0 := by rw [← hσ', SI_pI, up2_ne' (by omega), SI_pI, up2_nj (by decide), SI_pI, up2_nj (by decide), SI_pI, up2_nj (by decide), SI_pI, up2_s]
              have c15 : SI σ' (X + 1 + 43 + nw) 15 = 0 := by rw [← hσ', SI_pI, up2_ne' (by omega), SI_pI, up2_nj (by decide), SI_pI, up2_nj (by decide), SI_pI, up2_s]
              have c16 : SI σ' (X + 1 + 43 + nw) 16 = 0 := by rw [← hσ', SI_pI, up2_ne' (by omega), SI_pI, up2_nj (by decide), SI_pI, up2_s]
              have c17 : SI σ' (X + 1 + 43 + nw) 17 = 0 := by rw [← hσ', SI_pI, up2_ne' (by omega), SI_pI, up2_s]
              have z0 : SI ρ' (Y + 1) (130 + 20 * nw) = 0 := hS0 _ (by omega) (by omega) (by omega) (by omega) (by omega) (by omega) (by omega)
              have z1 : SI ρ' (Y + 1) (130 + 20 * nw + 1) = 0 := hS0 _ (by omega) (by omega) (by omega) (by omega) (by omega) (by omega) (by omega)
              have z3 : SI ρ' (Y + 1) (130 + 20 * nw + 3) = 0 := hS0 _ (by omega) (by omega) (by omega) (by omega) (by omega) (by omega) (by omega)
              have z4 : SI ρ' (Y + 1) (130 + 20 * nw + 4) = 0 := hS0 _ (by omega) (by omega) (by omega) (by omega) (by omega) (by omega) (by omega)
              have z5 : SI ρ' (Y + 1) (130 + 20 * nw + 5) = 0 := hS0 _ (by omega) (by omega) (by omega) (by omega) (by omega) (by omega) (by omega)
              have z6 : SI ρ' (Y + 1) (130 + 20 * nw + 6) = 0 := hS0 _ (by omega) (by omega) (by omega) (by omega) (by omega) (by omega) (by omega)
              have z7 : SI ρ' (Y + 1) (130 + 20 * nw + 7) = 0 := hS0 _ (by omega) (by omega) (by omega) (by omega) (by omega) (by omega) (by omega)
              have z8 : SI ρ' (Y + 1) (130 + 20 * nw + 8) = 0 := hS0 _ (by omega) (by omega) (by omega) (by omega) (by omega) (by omega) (by omega)
              have z9 : SI ρ' (Y + 1) (130 + 20 * nw + 9) = 0 := hS0 _ (by omega) (by omega) (by omega) (by omega) (by omega) (by omega) (by omega)
              have z10 : SI ρ' (Y + 1) (130 + 20 * nw + 10) = 0 := hS0 _ (by omega) (by omega) (by omega) (by omega) (by omega) (by omega) (by omega)
              have z11 : SI ρ' (Y + 1) (130 + 20 * nw + 11) = 0 := hS0 _ (by omega) (by omega) (by omega) (by omega) (by omega) (by omega) (by omega)
              have z12 : SI ρ' (Y + 1) (130 + 20 * nw + 12) = 0 := hS0 _ (by omega) (by omega) (by omega) (by omega) (by omega) (by omega) (by omega)
              have z13 : SI ρ' (Y + 1) (130 + 20 * nw + 13) = 0 := hS0 _ (by omega) (by omega) (by omega) (by omega) (by omega) (by omega) (by omega)
              refine OpOK_j (nI nw) (Shn σ) σ' ρ' ?_ g0 ?_ q0 ?_
              · have nn : X + 1 ≠ X + 1 + 43 + nw := by omega
                rw [← hσ']
                unfold f_Trail_walker
                simp only [bd_, lt_, rX_0_0 hX, rW_0_6 hW, cK_of (kX_0 hX), cK_of (kW_0 hW), Bool.and_true, e_within, i10, if_false, if_true, d1, inR_e1 ha, inR_e1 hp, inR_e1 hg, inR_e1 hc, inR_e1 hk, w2, if_pos hlt, ix_nI (show nw < 2 ^ 31 by omega), rW_42 hW hq, cA_of (kW_42 hW) (nW_42 hW) hq (by decide), cK_of (kW_w hW hq), e_comeNew (kW_w hW hq), SR_pI, cK_pI, SI_pI, up2_ne' nn, up2_s, Int32.add_sub_cancel]
              · show f_Model_walker Y a p g c k true (stn ρ (Shn σ)) = _
                unfold f_Model_walker
                simp only [bd_, lt_, rY_0 hY, cK_of (kY_0 hY), Bool.and_true, SI_stn, show ix (0 : Int32) = 0 from rfl, cYk hY 0 (v := 0) rfl (by decide), show ix (5 : Int32) = 5 from rfl, cYk hY 5 (v := 5) rfl (by decide), w3, i10, if_false, if_true, e_isInL a (SI ρ (Y + 1) 0).toInt64 999 (SI ρ (Y + 1) 0) 999 rfl rfl, e_isInL p 1 40 1 40 rfl rfl, e_isInL g 0 5 0 5 rfl rfl, e_isInL c 1 20 1 20 rfl rfl, e_isInL k 1 99 1 99 rfl rfl, inR_e1 ha, inR_e1 hp, inR_e1 hg, inR_e1 hc, inR_e1 hk, if_neg hne, e_walkerAt]
                exact eM
              · refine REL_W h g0 ⟨g1, g2, g3, g4, g5, fun b hb => hσ b (by omega) (by omega)⟩ ⟨q1, q2, q3, q4, q5, fun x hx => hρ x (by omega)⟩ ?_
                obtain ⟨y1, y2, y3, y4, y5, y6, y7, y8⟩ := REL_now2 h
                obtain ⟨np, nf, p1, p2, p3, p4, -⟩ := id y2
                refine ⟨⟨by rw [hσw 8 (by decide), hS 0 (by omega) (by omega)]; exact d1, by rw [hS 0 (by omega) (by omega)]; exact d2⟩, rG_c y2 (fun a _ _ => hσ a (by omega) (by omega)) (fun j hj => hS j (by omega) (by omega)), rQ_c y3 (fun a _ _ => hσ a (by omega) (by omega)) (fun j hj => hS j (by omega) (by omega)), rS_c y4 (fun a _ _ => hσ a (by omega) (by omega)) (fun j hj => hS j (by omega) (by omega)) (by rw [hS 2 (by omega) (by omega)]; exact Int32.le_refl _), rA_c y5 (fun a _ _ => hσ a (by omega) (by omega)) (fun j hj => hS j (by omega) (by omega)), rB_c y6 p1 p4 (fun a _ _ => hσ a (by omega) (by omega)) (fun j hj => hS j (by omega) (by omega)) (fun k hk => hS _ (by omega) (by omega)) (by rw [hS 2 (by omega) (by omega)]; exact Int32.le_refl _) (by rw [hS5, w3]; exact nI_le (by omega) (by omega)), ?_, rT_c y8 g0 g1 g2 g3 (fun a ha => hσ a (by omega) (by omega)) (fun j hj => hS j (by omega) (by omega))⟩
                refine ⟨nw + 1, hq, hσ7, hS5, fun i hi => ?_⟩
                by_cases e : i = nw
                · subst e
                  unfold rW1
                  rw [c0, c1, c2, c3, c4, c5, c6, c7, c8, c9, c10, c11, c12, c13, c14, c15, c16, c17, z0, z1, z3, z4, z5, z6, z7, z8, z9, z10, z11, z12, z13, hS2, hS15, hS16, hS17, hS18, hS 1 (by omega) (by omega)]
                  have sl : 0 ≤ (SI ρ (Y + 1) 1).toInt := by
                    obtain ⟨np', nf', -, -, -, -, -, -, -, p8, -⟩ := y2
                    have := p8.1
                    omega
                  have b15 : bd a 0 999 := ⟨Int.le_trans d2.1 (i32_bd ha).1, (i32_bd ha).2⟩
                  exact ⟨rfl, rfl, rfl, rfl, rfl, rfl, rfl, rfl, rfl, rfl, rfl, rfl, rfl, rfl, rfl, rfl, rfl, rfl, ⟨by decide, by decide⟩, ⟨by decide, by rw [Int32.toInt_zero]; exact sl⟩, i32_bd hp, ⟨by decide, by decide⟩, ⟨by decide, by decide⟩, b15, i32_bd hg, i32_bd hc, i32_bd hk, fun _ => rfl⟩
                · exact rW1_c (w4 i (by omega)) (hσ _ (by omega) (by omega)) (fun j hj => hS j (by omega) (by omega))
            · have hq' : nw = 10 := by omega
              subst hq'
              refine OpOK_b (-1000000003) h ?_ ?_
              · unfold f_Trail_walker
                simp only [bd_, lt_, rX_0_0 hX, rW_0_6 hW, cK_of (kX_0 hX), cK_of (kW_0 hW), Bool.and_true, e_within, i10, if_false, if_true, d1, inR_e1 ha, inR_e1 hp, inR_e1 hg, inR_e1 hc, inR_e1 hk, w2, if_neg (show ¬ nI 10 < (10 : Int32) by decide)]
              · show f_Model_walker Y a p g c k true (stn ρ (Shn σ)) = _
                unfold f_Model_walker
                simp only [bd_, lt_, rY_0 hY, cK_of (kY_0 hY), Bool.and_true, SI_stn, show ix (0 : Int32) = 0 from rfl, cYk hY 0 (v := 0) rfl (by decide), show ix (5 : Int32) = 5 from rfl, cYk hY 5 (v := 5) rfl (by decide), w3, i10, if_false, if_true, e_isInL a (SI ρ (Y + 1) 0).toInt64 999 (SI ρ (Y + 1) 0) 999 rfl rfl, e_isInL p 1 40 1 40 rfl rfl, e_isInL g 0 5 0 5 rfl rfl, e_isInL c 1 20 1 20 rfl rfl, e_isInL k 1 99 1 99 rfl rfl, inR_e1 ha, inR_e1 hp, inR_e1 hg, inR_e1 hc, inR_e1 hk, if_pos (show nI 10 = (10 : Int32) from rfl)]
          · refine OpOK_b (-1000000001) h ?_ ?_
            · unfold f_Trail_walker
              simp only [bd_, lt_, rX_0_0 hX, rW_0_6 hW, cK_of (kX_0 hX), cK_of (kW_0 hW), Bool.and_true, e_within, i10, if_false, if_true, d1, inR_e1 ha, inR_e1 hp, inR_e1 hg, inR_e1 hc, inR_e0 hk]
            · show f_Model_walker Y a p g c k true (stn ρ (Shn σ)) = _
              unfold f_Model_walker
              simp only [bd_, lt_, rY_0 hY, cK_of (kY_0 hY), Bool.and_true, SI_stn, show ix (0 : Int32) = 0 from rfl, cYk hY 0 (v := 0) rfl (by decide), show ix (5 : Int32) = 5 from rfl, cYk hY 5 (v := 5) rfl (by decide), w3, i10, if_false, if_true, e_isInL a (SI ρ (Y + 1) 0).toInt64 999 (SI ρ (Y + 1) 0) 999 rfl rfl, e_isInL p 1 40 1 40 rfl rfl, e_isInL g 0 5 0 5 rfl rfl, e_isInL c 1 20 1 20 rfl rfl, e_isInL k 1 99 1 99 rfl rfl, inR_e1 ha, inR_e1 hp, inR_e1 hg, inR_e1 hc, inR_e0 hk]
        · refine OpOK_b (-1000000001) h ?_ ?_
          · unfold f_Trail_walker
            simp only [bd_, lt_, rX_0_0 hX, rW_0_6 hW, cK_of (kX_0 hX), cK_of (kW_0 hW), Bool.and_true, e_within, i10, if_false, if_true, d1, inR_e1 ha, inR_e1 hp, inR_e1 hg, inR_e0 hc]
          · show f_Model_walker Y a p g c k true (stn ρ (Shn σ)) = _
            unfold f_Model_walker
            simp only [bd_, lt_, rY_0 hY, cK_of (kY_0 hY), Bool.and_true, SI_stn, show ix (0 : Int32) = 0 from rfl, cYk hY 0 (v := 0) rfl (by decide), show ix (5 : Int32) = 5 from rfl, cYk hY 5 (v := 5) rfl (by decide), w3, i10, if_false, if_true, e_isInL a (SI ρ (Y + 1) 0).toInt64 999 (SI ρ (Y + 1) 0) 999 rfl rfl, e_isInL p 1 40 1 40 rfl rfl, e_isInL g 0 5 0 5 rfl rfl, e_isInL c 1 20 1 20 rfl rfl, e_isInL k 1 99 1 99 rfl rfl, inR_e1 ha, inR_e1 hp, inR_e1 hg, inR_e0 hc]
      · refine OpOK_b (-1000000001) h ?_ ?_
        · unfold f_Trail_walker
          simp only [bd_, lt_, rX_0_0 hX, rW_0_6 hW, cK_of (kX_0 hX), cK_of (kW_0 hW), Bool.and_true, e_within, i10, if_false, if_true, d1, inR_e1 ha, inR_e1 hp, inR_e0 hg]
        · show f_Model_walker Y a p g c k true (stn ρ (Shn σ)) = _
          unfold f_Model_walker
          simp only [bd_, lt_, rY_0 hY, cK_of (kY_0 hY), Bool.and_true, SI_stn, show ix (0 : Int32) = 0 from rfl, cYk hY 0 (v := 0) rfl (by decide), show ix (5 : Int32) = 5 from rfl, cYk hY 5 (v := 5) rfl (by decide), w3, i10, if_false, if_true, e_isInL a (SI ρ (Y + 1) 0).toInt64 999 (SI ρ (Y + 1) 0) 999 rfl rfl, e_isInL p 1 40 1 40 rfl rfl, e_isInL g 0 5 0 5 rfl rfl, e_isInL c 1 20 1 20 rfl rfl, e_isInL k 1 99 1 99 rfl rfl, inR_e1 ha, inR_e1 hp, inR_e0 hg]
    · refine OpOK_b (-1000000001) h ?_ ?_
      · unfold f_Trail_walker
        simp only [bd_, lt_, rX_0_0 hX, rW_0_6 hW, cK_of (kX_0 hX), cK_of (kW_0 hW), Bool.and_true, e_within, i10, if_false, if_true, d1, inR_e1 ha, inR_e0 hp]
      · show f_Model_walker Y a p g c k true (stn ρ (Shn σ)) = _
        unfold f_Model_walker
        simp only [bd_, lt_, rY_0 hY, cK_of (kY_0 hY), Bool.and_true, SI_stn, show ix (0 : Int32) = 0 from rfl, cYk hY 0 (v := 0) rfl (by decide), show ix (5 : Int32) = 5 from rfl, cYk hY 5 (v := 5) rfl (by decide), w3, i10, if_false, if_true, e_isInL a (SI ρ (Y + 1) 0).toInt64 999 (SI ρ (Y + 1) 0) 999 rfl rfl, e_isInL p 1 40 1 40 rfl rfl, e_isInL g 0 5 0 5 rfl rfl, e_isInL c 1 20 1 20 rfl rfl, e_isInL k 1 99 1 99 rfl rfl, inR_e1 ha, inR_e0 hp]
  · refine OpOK_b (-1000000001) h ?_ ?_
    · unfold f_Trail_walker
      simp only [bd_, lt_, rX_0_0 hX, rW_0_6 hW, cK_of (kX_0 hX), cK_of (kW_0 hW), Bool.and_true, e_within, i10, if_false, if_true, d1, inR_e0 ha]
    · show f_Model_walker Y a p g c k true (stn ρ (Shn σ)) = _
      unfold f_Model_walker
      simp only [bd_, lt_, rY_0 hY, cK_of (kY_0 hY), Bool.and_true, SI_stn, show ix (0 : Int32) = 0 from rfl, cYk hY 0 (v := 0) rfl (by decide), show ix (5 : Int32) = 5 from rfl, cYk hY 5 (v := 5) rfl (by decide), w3, i10, if_false, if_true, e_isInL a (SI ρ (Y + 1) 0).toInt64 999 (SI ρ (Y + 1) 0) 999 rfl rfl, e_isInL p 1 40 1 40 rfl rfl, e_isInL g 0 5 0 5 rfl rfl, e_isInL c 1 20 1 20 rfl rfl, e_isInL k 1 99 1 99 rfl rfl, inR_e0 ha]
end WK
