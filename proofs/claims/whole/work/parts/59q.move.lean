/-! a day: the walk -/
section MV
variable {X Y w : Nat} {σ ρ : Sto}
/-- the land of a mile -/
def lnM (ρ : Sto) (Y : Nat) (mile : Int32) : Int32 := if ldM ρ Y mile 3 then 3 else if ldM ρ Y mile 2 then 2 else if ldM ρ Y mile 1 then 1 else 0
theorem land_C (h : DayI X Y w σ ρ) (mile : Int32) : f_Ground_landOf (w + 1) mile true σ = (lnM ρ Y mile, true, σ) := by
  have hG := h.2.2.2.2.2.2.1
  unfold lnM
  rw [e_landC h.2.2.1 mile, if_iff (ld_iff hG rfl mile (k := 3) (by decide) (by decide)), if_iff (ld_iff hG rfl mile (k := 2) (by decide) (by decide)), if_iff (ld_iff hG rfl mile (k := 1) (by decide) (by decide))]
theorem land_M (h : DayI X Y w σ ρ) (mile : Int32) : f_Model_landOf Y mile true ρ = (lnM ρ Y mile, true, ρ) := e_landM h.2.2.2.1 mile
theorem lnM_c {ρ' : Sto} (e : SI ρ' (Y + 1) = SI ρ (Y + 1)) (mile : Int32) : lnM ρ' Y mile = lnM ρ Y mile := by
  unfold lnM ldM
  rw [e]
/-- two names on both sides -/
theorem names2 (h : DayI X Y w σ ρ) (x y : Int32) (i j : Nat) : FrC w σ (pI (pI σ (w + 13) 0 x) (w + 13) 1 y) ∧ FrR Y ρ (pI (pI ρ (Y + 8) i x) (Y + 8) j y) ∧ DayI X Y w (pI (pI σ (w + 13) 0 x) (w + 13) 1 y) (pI (pI ρ (Y + 8) i x) (Y + 8) j y) ∧ SI (pI (pI ρ (Y + 8) i x) (Y + 8) j y) (Y + 1) = SI ρ (Y + 1) := by
  have f1 : FrC w σ (pI (pI σ (w + 13) 0 x) (w + 13) 1 y) := FrC_p (FrC_p FrC_0 (by omega)) (by omega)
  have f2 : FrR Y ρ (pI (pI ρ (Y + 8) i x) (Y + 8) j y) := FrR_8 (FrR_8 FrR_0)
  have e : SI (pI (pI ρ (Y + 8) i x) (Y + 8) j y) (Y + 1) = SI ρ (Y + 1) := by rw [SI_pI, up2_ne (by omega), SI_pI, up2_ne (by omega)]
  exact ⟨f1, f2, DayI_n h f1 f2 (fun z hz => by rw [SI_pI, up2_ne (by omega), SI_pI, up2_ne (by omega)]) e, e⟩
/-- evaluation changes nothing that is told -/
theorem DayI_ev {τ υ : Sto} (h : DayI X Y w σ ρ) (f : FrW w σ τ) (g : FrM Y ρ υ) : DayI X Y w τ υ := DayI_n h (FrC_w f) (FrR_m g) (fun x hx => f.2.2.2.2.2.2.1 x (by omega) (by omega)) (g.2.2.2.2.2.2 (Y + 1) (by omega))
theorem rE_at {k : Nat} (hE : rE σ (w + 43 + k) (SI ρ (Y + 1)) (130 + 20 * k)) {i j : Nat} (hi : i < 18) (e : co i = j) {q : Nat} (hq : q = 130 + 20 * k + j) : SI σ (w + 43 + k) i = SI ρ (Y + 1) q := by
  rw [hE i hi, e, hq]
/-- a fire skipped, or not -/
theorem skip_both (h : DayI X Y w σ ρ) {nw k : Nat} (hn : nw ≤ 10) (hk : k < nw) (w3 : SI ρ (Y + 1) 5 = nI nw) (hs : SI ρ (Y + 1) (130 + 20 * k) = 1) : ∃ x τ υ, (x = 0 ∨ x = 1) ∧ FrC w σ τ ∧ FrR Y ρ υ ∧ DayI X Y w τ υ ∧ SI υ (Y + 1) (130 + 20 * k) = 1 ∧ SI υ (Y + 1) 5 = nI nw ∧ (x = 0 → SI υ (Y + 1) = SI ρ (Y + 1)) ∧ f_World_skipsFire w (w + 43 + k) true σ = (x, true, τ) ∧ ∀ J83 J134 : Bool → Sto → Rs Unit, bd_ (f_Model_fireAhead Y (SI ρ (Y + 1) (131 + 20 * k)) true ρ) (fun r_4 b_4 σ_4 => lt_ r_4 (fun (x4_5 : Int32) => (if 0 < x4_5 then (bd_ (f_Model_skips Y (SI ρ (Y + 1) (131 + 20 * k)) x4_5 (SI σ_4 (SR σ_4 Y 0) (ix (nI (130 + 20 * k) + 3))) (((b_4 && cK σ_4 Y 13) && cA σ_4 (SR σ_4 Y 0) 21 (nI (130 + 20 * k) + 3)) && cK σ_4 Y 13) σ_4) (fun (r_20 : Int32) (b_20 : Bool) (σ_20 : Sto) => (if r_20 = 0 then (J83 b_20 σ_20) else (lt_ (pI σ_20 (SR σ_20 Y 0) (ix (nI (130 + 20 * k) + 13)) ((SI σ_20 (SR σ_20 Y 0) (ix (nI (130 + 20 * k) + 13))) + x4_5)) (fun (σ_21 : Sto) => (bd_ (f_Model_least (SI σ_21 (SR σ_21 Y 0) (ix 1)) ((SI ρ (Y + 1) (131 + 20 * k)) + x4_5) ((((((b_20 && cK σ_20 Y 13) && cA σ_20 (SR σ_20 Y 0) 21 (nI (130 + 20 * k) + 13)) && cA σ_20 (SR σ_20 Y 0) 21 (nI (130 + 20 * k) + 13)) && cK σ_21 Y 13) && cK σ_21 Y 13) && cA σ_21 (SR σ_21 Y 0) 21 1) σ_21) (fun (r_22 : Int32) (b_22 : Bool) (σ_22 : Sto) => (lt_ (pI σ_22 (SR σ_21 Y 0) (ix (nI (130 + 20 * k) + 1)) r_22) (fun (σ_23 : Sto) => (J134 (b_22 && cA σ_22 (SR σ_21 Y 0) 21 (nI (130 + 20 * k) + 1)) σ_23)))))))))) else (J83 b_4 σ_4)))) = if x = 0 then J83 true υ else J134 true υ := by
  obtain ⟨h1, h2, hW, hY, h5, h6, hG, hB, hWW, hT⟩ := id h
  obtain ⟨np, nf, nb, nw', nt, hp, hf, hnb, -, hnt, p3, p4, p5, p6, b2, b3, -, -, t2, t3⟩ := DayI_nb h
  obtain ⟨hE, hBd, w2⟩ := DayI_k h hn hk w3
  have k10 : k < 10 := by omega
  have p8 : bd (SI ρ (Y + 1) 1) 20 2000 := by
    obtain ⟨np2, nf2, q1, q2, q3, q4, q5, q6, q7, q8, -⟩ := hG
    exact q8
  have e6 : SI σ (w + 43 + k) 6 = SI ρ (Y + 1) (131 + 20 * k) := rE_at hE (by decide) (j := 1) rfl (by omega)
  have e7 : SI σ (w + 43 + k) 7 = SI ρ (Y + 1) (133 + 20 * k) := rE_at hE (by decide) (j := 3) rfl (by omega)
  have i1 : nI (130 + 20 * k) + 1 = nI (131 + 20 * k) := by rw [show nI (130 + 20 * k) + 1 = nI (130 + 20 * k + 1) from nI_add _ 1]; congr 1; omega
  have i3 : nI (130 + 20 * k) + 3 = nI (133 + 20 * k) := by rw [show nI (130 + 20 * k) + 3 = nI (130 + 20 * k + 3) from nI_add _ 3]; congr 1; omega
  have i13 : nI (130 + 20 * k) + 13 = nI (143 + 20 * k) := by rw [show nI (130 + 20 * k) + 13 = nI (130 + 20 * k + 13) from nI_add _ 13]; congr 1; omega
  have bm : bd (SI ρ (Y + 1) (131 + 20 * k)) 0 (SI ρ (Y + 1) 1).toInt := by
    have := hBd.2.1
    rw [show 130 + 20 * k + 1 = 131 + 20 * k by omega] at this
    exact this
  obtain ⟨m0, hm0, em0⟩ := bd_nat (n := 2000) (show bd (SI ρ (Y + 1) (131 + 20 * k)) 0 2000 from ⟨bm.1, Int.le_trans bm.2 p8.2⟩)
  have eFC := e_farEnd hW hf p5 (SI ρ (Y + 1) (131 + 20 * k)) (SI σ w 8)
  have eFM := e_fireAhead hY hf p6 (SI ρ (Y + 1) (131 + 20 * k))
  rw [em0] at eFC eFM
  rcases fire_same hG (SI σ w 8) h6 hm0 hf p6 with ⟨r1, r2⟩ | ⟨e, l1, l2, l3, r1, r2⟩
  · rw [r1] at eFC
    rw [r2] at eFM
    refine ⟨0, σ, ρ, Or.inl rfl, FrC_0, FrR_0, h, hs, w3, fun _ => rfl, ?_, fun J83 J134 => ?_⟩
    · unfold f_World_skipsFire
      simp only [bd_, lt_, rW_0_0 hW, e6, em0, cK_of (kW_0 hW), cK_of (kW_w hW k10), cK_of (kW_1 hW), Bool.and_true, eFC, if_pos (show (-1 : Int32) < 0 by decide)]
    · rw [em0, eFM, bd_, lt_, if_pos rfl, if_neg (show ¬ (0 : Int32) < 0 by decide)]
  · rw [r1] at eFC
    rw [r2] at eFM
    obtain ⟨f1, f2, hD1, eS1⟩ := names2 h (nI (e - m0)) (SI ρ (Y + 1) (133 + 20 * k)) 108 102
    have hW1 := hD1.2.2.1
    have hY1 := hD1.2.2.2.1
    have hT1 := hD1.2.2.2.2.2.2.2.2.2
    have hnm : nmOK 1 (SI (pI (pI σ (w + 13) 0 (nI (e - m0))) (w + 13) 1 (SI ρ (Y + 1) (133 + 20 * k))) (w + 13)) (fun v => SI (pI (pI ρ (Y + 8) 108 (nI (e - m0))) (Y + 8) 102 (SI ρ (Y + 1) (133 + 20 * k))) (Y + 8) (ix v)) := by
      refine Or.inr (Or.inl ⟨rfl, ?_, ?_⟩)
      · show _ = SI _ (Y + 8) 108
        rw [SI_pI, up2_nj (by decide), SI_pI, up2_s, SI_pI, up2_nj (by decide), SI_pI, up2_s]
      · show _ = SI _ (Y + 8) 102
        rw [SI_pI, up2_s, SI_pI, up2_s]
    generalize hσ1 : pI (pI σ (w + 13) 0 (nI (e - m0))) (w + 13) 1 (SI ρ (Y + 1) (133 + 20 * k)) = σ1 at *
    generalize hρ1 : pI (pI ρ (Y + 8) 108 (nI (e - m0))) (Y + 8) 102 (SI ρ (Y + 1) (133 + 20 * k)) = ρ1 at *
    have pos : (0 : Int32) < nI (e - m0) := nI_lt (a := 0) (by omega) (by omega)
    have ewk : SI σ1 (w + 43 + k) = SI σ (w + 43 + k) := by rw [← hσ1, SI_pI, up2_ne (by omega), SI_pI, up2_ne (by omega)]
    have ew : SI σ1 w = SI σ w := by rw [← hσ1, SI_pI, up2_ne (by omega), SI_pI, up2_ne (by omega)]
    have eC : f_World_skipsFire w (w + 43 + k) true σ = bd_ (f_Laws_answerOf (w + 11) (lnM ρ Y (nI m0)) 1 (SI ρ1 (Y + 1) 0) 0 true σ1) (fun (r_6 : Int32) (b_6 : Bool) (σ_6 : Sto) => (if r_6 = 0 then ((0 : Int32), b_6, σ_6) else (lt_ (pI σ_6 (w + 43 + k) 17 ((SI σ_6 (w + 43 + k) 17) + nI (e - m0))) (fun (σ_7 : Sto) => (lt_ (pI σ_7 (w + 43 + k) 6 (nI e)) (fun (σ_8 : Sto) => (1, (((b_6 && cK σ_6 (w + 43 + k) 10) && cK σ_6 (w + 43 + k) 10) && cK σ_7 (w + 43 + k) 10), σ_8))))))) := by
      have el := land_C hD1 (nI m0)
      rw [lnM_c eS1] at el
      unfold f_World_skipsFire
      rw [rW_0_0 hW, e6, em0, cK_of (kW_0 hW), cK_of (kW_w hW k10), cK_of (kW_1 hW)]
      simp only [Bool.and_true]
      rw [eFC, bd_, lt_, if_neg (nI_pos (show e < 2 ^ 31 by omega)), lt_, e6, em0, e7, nI_sub (by omega), rW_0_1 hW, cK_of (kW_w hW k10), cK_of (kW_0 hW), cK_of (kW_11 hW)]
      simp only [Bool.and_true]
      rw [e_nameTwo hW, hσ1, bd_, rW_0_0 hW1, rW_0_1 hW1, ewk, e6, em0, cK_of (kW_0 hW1), cK_of (kW_w hW1 k10), cK_of (kW_1 hW1)]
      simp only [Bool.and_true]
      rw [el, bd_, ew, h6, ← eS1, cK_of (kW_0 hW1), cK_of (kW_11 hW1)]
      simp only [Bool.and_true]
    have eSk : f_Model_skips Y (nI m0) (nI (e - m0)) (SI ρ (Y + 1) (133 + 20 * k)) true ρ = if cntT (SI ρ (Y + 1)) (lnM ρ Y (nI m0)) 1 nt < 0 then (0, true, ρ1) else bd_ (f_Model_worked Y (cntT (SI ρ (Y + 1)) (lnM ρ Y (nI m0)) 1 nt) true ρ1) (fun r_6 b_6 σ_6 => if r_6 = 0 then (0, b_6, σ_6) else (1, b_6, σ_6)) := by
      obtain ⟨ec, -⟩ := e_countsM hY hnt t3 (lnM ρ Y (nI m0)) 1
      unfold f_Model_skips
      simp only [bd_, lt_, cK_of (kY_0 hY), Bool.and_true, land_M h, ec, SR_pI, cK_pI, cA_pI, rY_19 hY, show ix (108 : Int32) = 108 from rfl, show ix (102 : Int32) = 102 from rfl, show cA ρ (Y + 8) 21 108 = true from cA_of (i := 108) (kY_8 hY) (nY_8 hY) (by decide) (by decide), show cA ρ (Y + 8) 21 102 = true from cA_of (i := 102) (kY_8 hY) (nY_8 hY) (by decide) (by decide), hρ1, cK_of (kY_0 hY1), Bool.and_self]
    have eM : ∀ J83 J134 : Bool → Sto → Rs Unit, bd_ (f_Model_fireAhead Y (SI ρ (Y + 1) (131 + 20 * k)) true ρ) (fun r_4 b_4 σ_4 => lt_ r_4 (fun (x4_5 : Int32) => (if 0 < x4_5 then (bd_ (f_Model_skips Y (SI ρ (Y + 1) (131 + 20 * k)) x4_5 (SI σ_4 (SR σ_4 Y 0) (ix (nI (130 + 20 * k) + 3))) (((b_4 && cK σ_4 Y 13) && cA σ_4 (SR σ_4 Y 0) 21 (nI (130 + 20 * k) + 3)) && cK σ_4 Y 13) σ_4) (fun (r_20 : Int32) (b_20 : Bool) (σ_20 : Sto) => (if r_20 = 0 then (J83 b_20 σ_20) else (lt_ (pI σ_20 (SR σ_20 Y 0) (ix (nI (130 + 20 * k) + 13)) ((SI σ_20 (SR σ_20 Y 0) (ix (nI (130 + 20 * k) + 13))) + x4_5)) (fun (σ_21 : Sto) => (bd_ (f_Model_least (SI σ_21 (SR σ_21 Y 0) (ix 1)) ((SI ρ (Y + 1) (131 + 20 * k)) + x4_5) ((((((b_20 && cK σ_20 Y 13) && cA σ_20 (SR σ_20 Y 0) 21 (nI (130 + 20 * k) + 13)) && cA σ_20 (SR σ_20 Y 0) 21 (nI (130 + 20 * k) + 13)) && cK σ_21 Y 13) && cK σ_21 Y 13) && cA σ_21 (SR σ_21 Y 0) 21 1) σ_21) (fun (r_22 : Int32) (b_22 : Bool) (σ_22 : Sto) => (lt_ (pI σ_22 (SR σ_21 Y 0) (ix (nI (130 + 20 * k) + 1)) r_22) (fun (σ_23 : Sto) => (J134 (b_22 && cA σ_22 (SR σ_21 Y 0) 21 (nI (130 + 20 * k) + 1)) σ_23)))))))))) else (J83 b_4 σ_4)))) = bd_ (f_Model_skips Y (nI m0) (nI (e - m0)) (SI ρ (Y + 1) (133 + 20 * k)) true ρ) (fun (r_20 : Int32) (b_20 : Bool) (σ_20 : Sto) => (if r_20 = 0 then (J83 b_20 σ_20) else (lt_ (pI σ_20 (SR σ_20 Y 0) (ix (nI (143 + 20 * k))) ((SI σ_20 (SR σ_20 Y 0) (ix (nI (143 + 20 * k)))) + nI (e - m0))) (fun (σ_21 : Sto) => (bd_ (f_Model_least (SI σ_21 (SR σ_21 Y 0) (ix 1)) (nI m0 + nI (e - m0)) ((((((b_20 && cK σ_20 Y 13) && cA σ_20 (SR σ_20 Y 0) 21 (nI (143 + 20 * k))) && cA σ_20 (SR σ_20 Y 0) 21 (nI (143 + 20 * k))) && cK σ_21 Y 13) && cK σ_21 Y 13) && cA σ_21 (SR σ_21 Y 0) 21 1) σ_21) (fun (r_22 : Int32) (b_22 : Bool) (σ_22 : Sto) => (lt_ (pI σ_22 (SR σ_21 Y 0) (ix (nI (131 + 20 * k))) r_22) (fun (σ_23 : Sto) => (J134 (b_22 && cA σ_22 (SR σ_21 Y 0) 21 (nI (131 + 20 * k))) σ_23))))))))) := fun J83 J134 => by
      rw [em0, eFM, bd_, lt_, if_pos pos, i3, i13, i1, rY_0 hY, ix_nI (show 133 + 20 * k < 2 ^ 31 by omega), cK_of (kY_0 hY), cY hY (show 133 + 20 * k < 3210 by omega)]
      rfl
    rcases e_answer h1 hW1 h2 hY1 hT1 hnt (by rw [eS1]; exact t3) (lnM ρ Y (nI m0)) 1 0 hnm with ⟨c1, c2⟩ | ⟨j, hj, c1, ⟨τ, c2, c3⟩, υ, c4, c5⟩
    · rw [eS1] at c1
      refine ⟨0, σ1, ρ1, Or.inl rfl, f1, f2, hD1, by rw [eS1]; exact hs, by rw [eS1]; exact w3, fun _ => eS1, ?_, fun J83 J134 => ?_⟩
      · rw [eC, c2, bd_, if_pos rfl]
      · rw [eM, eSk, c1, if_pos (by decide), bd_, if_pos rfl, if_pos rfl]
    · rw [eS1] at c1
      have hD2 := DayI_ev hD1 c3 c5
      have fC2 := FrC_t f1 (FrC_w c3)
      have fR2 := FrR_t f2 (FrR_m c5)
      have eS2 : SI υ (Y + 1) = SI ρ (Y + 1) := by rw [c5.2.2.2.2.2.2 (Y + 1) (by omega), eS1]
      have hcn : ¬ cntT (SI ρ (Y + 1)) (lnM ρ Y (nI m0)) 1 nt < 0 := by rw [c1]; exact nI_pos (by omega)
      by_cases v0 : ev (SI ρ1 (Y + 1)) (fun v => SI ρ1 (Y + 8) (ix v)) j = 0
      · refine ⟨0, τ, υ, Or.inl rfl, fC2, fR2, hD2, by rw [eS2]; exact hs, by rw [eS2]; exact w3, fun _ => eS2, ?_, fun J83 J134 => ?_⟩
        · rw [eC, c2, bd_, if_pos v0, v0]
        · rw [eM, eSk, if_neg hcn, c1, c4, bd_, bd_, if_pos v0, if_pos rfl, if_pos rfl]
      · have w3u : SI υ (Y + 1) 5 = nI nw := by rw [eS2]; exact w3
        obtain ⟨hE2, hBd2, -⟩ := DayI_k hD2 hn hk w3u
        have hsu : SI υ (Y + 1) (130 + 20 * k) = 1 := by rw [eS2]; exact hs
        have e17 : SI τ (w + 43 + k) 17 = SI υ (Y + 1) (143 + 20 * k) := rE_at hE2 (by decide) (j := 13) rfl (by omega)
        have g1 := DayI_w (i := 17) (v := SI τ (w + 43 + k) 17 + nI (e - m0)) hD2 hn hk w3u (by decide) (wBd_f hBd2 (by omega) (by omega : (13 : Nat) = 4 ∨ 13 = 5 ∨ 13 = 6 ∨ 13 = 7 ∨ 13 = 8 ∨ 13 = 10 ∨ 13 = 11 ∨ 13 = 12 ∨ 13 = 13))
        rw [show 130 + 20 * k + co 17 = 143 + 20 * k from by show 130 + 20 * k + 13 = _; omega] at g1
        have w3v : SI (pI υ (Y + 1) (143 + 20 * k) (SI τ (w + 43 + k) 17 + nI (e - m0))) (Y + 1) 5 = nI nw := by rw [SI_pI, up2_nj (by omega)]; exact w3u
        obtain ⟨hE3, hBd3, -⟩ := DayI_k g1 hn hk w3v
        have l2' : bd (nI e) 0 (SI (pI υ (Y + 1) (143 + 20 * k) (SI τ (w + 43 + k) 17 + nI (e - m0))) (Y + 1) 1).toInt := by
          rw [SI_pI, up2_nj (by omega), eS2]
          exact l2
        have g2 := DayI_w (i := 6) (v := nI e) g1 hn hk w3v (by decide) (wBd_1 hBd3 (by omega) l2' (by rw [SI_pI, up2_nj (by omega), hsu]; decide))
        rw [show 130 + 20 * k + co 6 = 131 + 20 * k from by show 130 + 20 * k + 1 = _; omega] at g2
        refine ⟨1, _, _, Or.inr rfl, FrC_p (FrC_p fC2 (show w + 43 + k = w + 13 ∨ w + 43 + k = w + 14 ∨ w + 43 + k = w + 20 ∨ (w + 43 ≤ w + 43 + k ∧ w + 43 + k ≤ w + 52) by omega)) (by omega), FrR_p (FrR_p fR2 (by unfold dy; omega)) (by unfold dy; omega), g2, by rw [SI_pI, up2_nj (by omega), SI_pI, up2_nj (by omega)]; exact hsu, by rw [SI_pI, up2_nj (by omega), SI_pI, up2_nj (by omega)]; exact w3u, fun z => absurd z (by decide), ?_, fun J83 J134 => ?_⟩
        · have hWt := hD2.2.2.1
          rw [eC, c2, bd_, if_neg v0, lt_, lt_, cK_pI, cK_of (kW_w hWt k10)]
          rfl
        · have hYt := hD2.2.2.2.1
          have hmn : mnI (SI ρ (Y + 1) 1) (nI m0 + nI (e - m0)) = nI e := by
            rw [nI_add, show m0 + (e - m0) = e by omega]
            unfold mnI
            by_cases z : nI e < SI ρ (Y + 1) 1
            · rw [if_pos z]
            · rw [if_neg z]
              exact Int32.le_antisymm (Int32.not_lt.mp z) (Int32.le_iff_toInt_le.mpr l2.2)
          rw [eM, eSk, if_neg hcn, c1, c4, bd_, bd_, if_neg v0, if_neg (show ¬ (1 : Int32) = 0 by decide), lt_, if_neg (show ¬ (1 : Int32) = 0 by decide)]
          simp only [SR_pI, rY_0 hYt, cK_pI, cA_pI, cK_of (kY_0 hYt), ix_nI (show 143 + 20 * k < 2 ^ 31 by omega), ix_nI (show 131 + 20 * k < 2 ^ 31 by omega), cY hYt (show 143 + 20 * k < 3210 by omega), cY hYt (show 131 + 20 * k < 3210 by omega), show ix (1 : Int32) = 1 from rfl, cYk hYt 1 (v := 1) rfl (by decide), e_least, least_mn, bd_, lt_, Bool.and_true, SI_pI, up2_nj (show 1 ≠ 143 + 20 * k by omega), eS2, hmn, e17]
end MV
