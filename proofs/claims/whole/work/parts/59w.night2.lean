/-! a night 2 -/
section NI1
variable {X Y w : Nat} {σ ρ : Sto}
/-- what the model does for a walker without a bed -/
def outM (Y k : Nat) (q : Int32) (J : Bool → Sto → Rs Unit) (ρ2 : Sto) : Rs Unit := if q < 0 then J (cA ρ2 (Y + 1) 21 (nI (142 + 20 * k))) (pI ρ2 (Y + 1) (142 + 20 * k) (SI ρ2 (Y + 1) (142 + 20 * k) + 0)) else bd_ (f_Model_worked Y q true ρ2) (fun r_27 b_27 σ_27 => if r_27 = 0 then J (b_27 && cA σ_27 (Y + 1) 21 (nI (142 + 20 * k))) (pI σ_27 (Y + 1) (142 + 20 * k) (SI ρ2 (Y + 1) (142 + 20 * k) + 1)) else J (b_27 && cA σ_27 (Y + 1) 21 (nI (142 + 20 * k))) (pI σ_27 (Y + 1) (142 + 20 * k) (SI ρ2 (Y + 1) (142 + 20 * k) + 0)))
theorem nightE_out {ρc : Sto} (hY : LayY Y ρ) (hD : DayI X Y w σ ρc) {mile all bel beds : Int32} {k nt : Nat} (hρc : pI ρ Y 21 (mxI (SI ρ Y 21) all) = ρc) (eSc : SI ρc (Y + 1) = SI ρ (Y + 1)) (k10 : k < 10) (hnt : nt ≤ 12) (t3 : SI ρ (Y + 1) 4 = nI nt) (cb : ¬ bel < beds) (J : Bool → Sto → Rs Unit) : nightE Y (nI k) mile beds all J bel true ρ = outM Y k (cntT (SI ρ (Y + 1)) (lnM ρ Y mile) 0 nt) J (pI (pI (pI ρc (Y + 1) (141 + 20 * k) (SI ρ (Y + 1) (141 + 20 * k) + 1)) (Y + 8) 109 mile) (Y + 8) 110 all) := by
  have hyc := hD.2.2.2.1
  obtain ⟨ec, -⟩ := e_countsM hyc hnt (by rw [eSc]; exact t3) (lnM ρ Y mile) 0
  rw [eSc] at ec
  have el : f_Model_landOf Y mile true ρc = (lnM ρ Y mile, true, ρc) := by rw [land_M hD, lnM_c eSc]
  have hcomm : pI (pI (pI ρc (Y + 8) 109 mile) (Y + 8) 110 all) (Y + 1) (141 + 20 * k) (SI ρ (Y + 1) (141 + 20 * k) + 1) = pI (pI (pI ρc (Y + 1) (141 + 20 * k) (SI ρ (Y + 1) (141 + 20 * k) + 1)) (Y + 8) 109 mile) (Y + 8) 110 all := by
    rw [pI_comm (show ¬ (Y + 8 = Y + 1 ∧ 110 = 141 + 20 * k) by omega), pI_comm (σ := ρc) (show ¬ (Y + 8 = Y + 1 ∧ 109 = 141 + 20 * k) by omega)]
  have hy1 : LayY Y (pI ρc (Y + 8) 109 mile) := LayY_c hyc (by rw [Stk_pI]) (by rw [Sln_pI]) (by rw [SR_pI])
  have hYn : LayY Y (pI (pI ρc (Y + 8) 109 mile) (Y + 8) 110 all) := LayY_c hyc (by rw [Stk_pI, Stk_pI]) (by rw [Sln_pI, Sln_pI]) (by rw [SR_pI, SR_pI])
  have hy2 : LayY Y (pI (pI (pI ρc (Y + 1) (141 + 20 * k) (SI ρ (Y + 1) (141 + 20 * k) + 1)) (Y + 8) 109 mile) (Y + 8) 110 all) := LayY_c hyc (by rw [Stk_pI, Stk_pI, Stk_pI]) (by rw [Sln_pI, Sln_pI, Sln_pI]) (by rw [SR_pI, SR_pI, SR_pI])
  have e11n : SI (pI (pI ρc (Y + 8) 109 mile) (Y + 8) 110 all) (Y + 1) (141 + 20 * k) = SI ρ (Y + 1) (141 + 20 * k) := by rw [SI_pI, up2_ne' (by omega), SI_pI, up2_ne' (by omega), eSc]
  have i11 : nI (130 + 20 * k) + 11 = nI (141 + 20 * k) := by rw [show nI (130 + 20 * k) + 11 = nI (130 + 20 * k + 11) from nI_add _ 11]; congr 1; omega
  have i12 : nI (130 + 20 * k) + 12 = nI (142 + 20 * k) := by rw [show nI (130 + 20 * k) + 12 = nI (130 + 20 * k + 12) from nI_add _ 12]; congr 1; omega
  have cw : cA (pI (pI (pI ρc (Y + 1) (141 + 20 * k) (SI ρ (Y + 1) (141 + 20 * k) + 1)) (Y + 8) 109 mile) (Y + 8) 110 all) (Y + 1) 21 (nI (142 + 20 * k)) = true := cY hy2 (show 142 + 20 * k < 3210 by omega)
  unfold outM
  rw [cw]
  clear cw
  generalize cntT (SI ρ (Y + 1)) (lnM ρ Y mile) 0 nt = q at *
  generalize hρ2 : pI (pI (pI ρc (Y + 1) (141 + 20 * k) (SI ρ (Y + 1) (141 + 20 * k) + 1)) (Y + 8) 109 mile) (Y + 8) 110 all = ρ2 at *
  unfold nightE
  rw [lt_]
  by_cases d : SI ρ Y 21 < all
  · have hv : pI ρ Y 21 all = ρc := by rw [← hρc]; unfold mxI; rw [if_pos d]
    rw [if_pos d]
    dsimp only
    rw [hv, lt_, if_neg cb, cK_of (kY_0 hY), cK_of (kY_0 hyc)]
    simp only [Bool.and_true]
    rw [el, bd_]
    dsimp only
    rw [cK_of (kY_0 hyc), Bool.and_true, ec, bd_]
    dsimp only
    rw [lt_, lt_, rY_19 hyc, show ix (109 : Int32) = 109 from rfl, cK_of (kY_0 hyc), show cA _ (Y + 8) 21 (109 : Int32) = true from cA_of (i := 109) (kY_8 hyc) (nY_8 hyc) (by decide) (by decide)]
    rw [lt_, rY_19 hy1, show ix (110 : Int32) = 110 from rfl, cK_of (kY_0 hy1), show cA _ (Y + 8) 21 (110 : Int32) = true from cA_of (i := 110) (kY_8 hy1) (nY_8 hy1) (by decide) (by decide), cK_of (kY_0 hYn)]
    simp only [Bool.and_true]
    rw [e_walkerAt, bd_]
    dsimp only
    rw [lt_, i11, rY_0 hYn, ix_nI (show 141 + 20 * k < 2 ^ 31 by omega), cY hYn (show 141 + 20 * k < 3210 by omega), e11n, hcomm, cK_of (kY_0 hy2)]
    simp only [Bool.and_true]
    rw [e_walkerAt, bd_]
    dsimp only
    rw [lt_, lt_]
    rw [i12, rY_0 hy2, ix_nI (show 142 + 20 * k < 2 ^ 31 by omega), cY hy2 (show 142 + 20 * k < 3210 by omega), cK_of (kY_0 hy2)]
    simp only [Bool.and_true, Bool.true_and, lt_, ix_nI (show 142 + 20 * k < 2 ^ 31 by omega), cY hy2 (show 142 + 20 * k < 3210 by omega)]
  · have hv : pI ρ Y 21 (SI ρ Y 21) = ρc := by rw [← hρc]; unfold mxI; rw [if_neg d]
    rw [if_neg d]
    dsimp only
    rw [hv, lt_, if_neg cb, cK_of (kY_0 hY), cK_of (kY_0 hyc)]
    simp only [Bool.and_true]
    rw [el, bd_]
    dsimp only
    rw [cK_of (kY_0 hyc), Bool.and_true, ec, bd_]
    dsimp only
    rw [lt_, lt_, rY_19 hyc, show ix (109 : Int32) = 109 from rfl, cK_of (kY_0 hyc), show cA _ (Y + 8) 21 (109 : Int32) = true from cA_of (i := 109) (kY_8 hyc) (nY_8 hyc) (by decide) (by decide)]
    rw [lt_, rY_19 hy1, show ix (110 : Int32) = 110 from rfl, cK_of (kY_0 hy1), show cA _ (Y + 8) 21 (110 : Int32) = true from cA_of (i := 110) (kY_8 hy1) (nY_8 hy1) (by decide) (by decide), cK_of (kY_0 hYn)]
    simp only [Bool.and_true]
    rw [e_walkerAt, bd_]
    dsimp only
    rw [lt_, i11, rY_0 hYn, ix_nI (show 141 + 20 * k < 2 ^ 31 by omega), cY hYn (show 141 + 20 * k < 3210 by omega), e11n, hcomm, cK_of (kY_0 hy2)]
    simp only [Bool.and_true]
    rw [e_walkerAt, bd_]
    dsimp only
    rw [lt_, lt_]
    rw [i12, rY_0 hy2, ix_nI (show 142 + 20 * k < 2 ^ 31 by omega), cY hy2 (show 142 + 20 * k < 3210 by omega), cK_of (kY_0 hy2)]
    simp only [Bool.and_true, Bool.true_and, lt_, ix_nI (show 142 + 20 * k < 2 ^ 31 by omega), cY hy2 (show 142 + 20 * k < 3210 by omega)]
end NI1
