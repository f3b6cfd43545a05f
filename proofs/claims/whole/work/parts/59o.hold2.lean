/-! a day: held, or not -/
section HD2
variable {X Y w : Nat} {σ ρ : Sto}
theorem DayI_bx {τ υ : Sto} (h : DayI X Y w σ ρ) {k : Nat} (hk : k < 10) (hC : BC w σ τ) (hX : BX Y (133 + 20 * k) ρ υ) (he : SI υ (Y + 1) (133 + 20 * k) = SI ρ (Y + 1) (133 + 20 * k)) (hB : rB τ w (SI υ (Y + 1))) : DayI X Y w τ υ := by
  have hR : BR Y ρ υ := ⟨hX.1, hX.2.1, hX.2.2.1, hX.2.2.2.1, hX.2.2.2.2.1, hX.2.2.2.2.2.1, hX.2.2.2.2.2.2.1, fun j hj => by
    by_cases e : j = 133 + 20 * k
    · rw [e]; exact he
    · exact hX.2.2.2.2.2.2.2 j hj e⟩
  exact DayI_b h hC hR hB
/-- the walker waits one day more, or gives on -/
theorem stay_end (h : DayI X Y w σ ρ) {np nw k t : Nat} (hp : np ≤ 16) (p4 : SI ρ (Y + 1) 2 = nI np) (hn : nw ≤ 10) (hk : k < nw) (w3 : SI ρ (Y + 1) 5 = nI nw) (ht : t < np) : ∃ x τ υ, (x = 0 ∨ x = 1) ∧ FrC w σ τ ∧ FrR Y ρ υ ∧ DayI X Y w τ υ ∧ SI υ (Y + 1) (130 + 20 * k) = SI ρ (Y + 1) (130 + 20 * k) ∧ (if 3 < SI (pI σ (w + 43 + k) 14 (SI σ (w + 43 + k) 14 + 1)) (w + 43 + k) 14 then bd_ (f_Post_giveOnAt (w + 15) (nI k) (nI t) true (pI σ (w + 43 + k) 14 (SI σ (w + 43 + k) 14 + 1))) (fun _ b s => ((0 : Int32), b, s)) else ((1 : Int32), true, pI σ (w + 43 + k) 14 (SI σ (w + 43 + k) 14 + 1))) = (x, true, τ) ∧ heldEnd Y k (SI ρ (Y + 1) (31 + 4 * t)) 0 ρ = (x, true, υ) := by
  obtain ⟨hE, hBd, w2⟩ := DayI_k h hn hk w3
  have e14 : SI σ (w + 43 + k) 14 = SI ρ (Y + 1) (140 + 20 * k) := by rw [hE 14 (by decide), show 140 + 20 * k = 130 + 20 * k + co 14 from by show _ = 130 + 20 * k + 10; omega]
  have h1 := DayI_w (i := 14) (v := SI σ (w + 43 + k) 14 + 1) h hn hk w3 (by decide) (wBd_f hBd (by omega) (Or.inr (Or.inr (Or.inr (Or.inr (Or.inr (Or.inl rfl)))))))
  have f1 : FrC w σ (pI σ (w + 43 + k) 14 (SI σ (w + 43 + k) 14 + 1)) := FrC_p FrC_0 (by omega)
  rw [show 130 + 20 * k + co 14 = 140 + 20 * k from by show 130 + 20 * k + 10 = _; omega] at h1
  have f2 : FrR Y ρ (pI ρ (Y + 1) (140 + 20 * k) (SI σ (w + 43 + k) 14 + 1)) := FrR_p FrR_0 (by unfold dy; omega)
  unfold heldEnd
  rw [if_neg (show ¬ (0 : Int32) < 0 by decide), ← e14, SI_pI, up2_s]
  by_cases c : 3 < SI σ (w + 43 + k) 14 + 1
  · rw [if_pos c, if_pos c]
    obtain ⟨τ, υ, q1, q2, q3, e1, e2⟩ := give_at h1 (nI k) hp (t := t) (by rw [SI_pI, up2_nj (by omega)]; exact p4) ht
    rw [SI_pI, up2_nj (show 31 + 4 * t ≠ 140 + 20 * k by omega)] at e2
    refine ⟨0, τ, υ, Or.inl rfl, FrC_t f1 (BC_C q1), FrR_t f2 (BR_R q2), q3, by rw [q2.2.2.2.2.2.2.2 _ (by omega), SI_pI, up2_nj (by omega)], by rw [e1]; rfl, by rw [e2]; rfl⟩
  · rw [if_neg c, if_neg c]
    exact ⟨1, _, _, Or.inr rfl, f1, f2, h1, by rw [SI_pI, up2_nj (by omega)], rfl, rfl⟩
theorem hold_both (h : DayI X Y w σ ρ) {nw k : Nat} (hn : nw ≤ 10) (hk : k < nw) (w3 : SI ρ (Y + 1) 5 = nI nw) : ∃ x τ υ, (x = 0 ∨ x = 1) ∧ FrC w σ τ ∧ FrR Y ρ υ ∧ DayI X Y w τ υ ∧ SI υ (Y + 1) (130 + 20 * k) = SI ρ (Y + 1) (130 + 20 * k) ∧ f_World_staysForBoxes w (nI k) true σ = (x, true, τ) ∧ f_Model_isHeld Y (nI k) true ρ = (x, true, υ) := by
  obtain ⟨h1, h2, hW, hY, h5, h6, hG, hB, hWW, hT⟩ := id h
  obtain ⟨np, nf, nb, nw', nt, hp, hf, hnb, -, hnt, p3, p4, p5, p6, b2, b3, -, -, t2, t3⟩ := DayI_nb h
  obtain ⟨hE, hBd, w2⟩ := DayI_k h hn hk w3
  obtain ⟨np2, nf2, q1, q2, q3, q4, q5, q6, q7, q8, q9, q10, q11, q12⟩ := id hG
  have en : np2 = np := (nI_eq (by omega) (by omega)).mp (q4.symm.trans p4)
  subst en
  have e6 : SI σ (w + 43 + k) 6 = SI ρ (Y + 1) (131 + 20 * k) := by rw [hE 6 (by decide), show 131 + 20 * k = 130 + 20 * k + co 6 from by show _ = 130 + 20 * k + 1; omega]
  have e1 : nI (130 + 20 * k) + 1 = nI (131 + 20 * k) := by rw [nI_p1]; congr 1; omega
  have hpl := bx_pl (σ := σ) (w := w) hp p4 hB hnb b3
  have hplC : plAt (SI σ (w + 3)) (SI ρ (Y + 1) (131 + 20 * k)) np2 = plAt (fun i => SI ρ (Y + 1) (31 + 4 * i)) (SI ρ (Y + 1) (131 + 20 * k)) np2 := plAt_congr (fun i hi => (q9 i hi).2.1)
  have hm0 : ¬ SI ρ (Y + 1) (131 + 20 * k) < 0 := by
    rw [lt0_i]
    have := hBd.2.1.1
    rw [show 130 + 20 * k + 1 = 131 + 20 * k by omega] at this
    omega
  have k10 : k < 10 := by omega
  -- the class up to its boxes
  have eC : f_World_staysForBoxes w (nI k) true σ = (fun p : Int32 => if p < 0 then ((0 : Int32), true, σ) else (if cntI (fun i => opC σ w (nI k) i && decide (SI σ (w + 17) i = p)) nb = 0 then (0, true, σ) else (bd_ (f_Ground_isShutOn (w + 1) p (SI σ w 8) true σ) (fun r_5 b_5 σ_5 => lt_ (fun (s0_69 : Int32) (b : Bool) (σ : Sto) => (lt_ s0_69 (fun (x4_6 : Int32) => (if 0 < x4_6 then (bd_ (f_Walker_packFood (w + 43 + k) x4_6 (b && cK σ (w + 43 + k) 10) σ) (fun (r_7 : Unit) (b_7 : Bool) (σ_7 : Sto) => ((0 : Int32), b_7, σ_7))) else (lt_ (pI σ (w + 43 + k) 14 ((SI σ (w + 43 + k) 14) + 1)) (fun (σ_8 : Sto) => (if 3 < (SI σ_8 (w + 43 + k) 14) then (bd_ (f_Post_giveOnAt (SR σ_8 w 2) (nI k) p (((((b && cK σ (w + 43 + k) 10) && cK σ (w + 43 + k) 10) && cK σ_8 (w + 43 + k) 10) && cK σ_8 w 11) && cK σ_8 (SR σ_8 w 2) 5) σ_8) (fun (r_9 : Unit) (b_9 : Bool) (σ_9 : Sto) => ((0 : Int32), b_9, σ_9))) else (1, (((b && cK σ (w + 43 + k) 10) && cK σ (w + 43 + k) 10) && cK σ_8 (w + 43 + k) 10), σ_8)))))))) (fun J69 => (if r_5 = 0 then (bd_ (f_Post_takeBoxes (SR σ_5 w 2) (nI k) p (SI σ_5 w 8) (((b_5 && cK σ_5 w 11) && cK σ_5 w 11) && cK σ_5 (SR σ_5 w 2) 5) σ_5) (fun (r_10 : Int32) (b_10 : Bool) (σ_10 : Sto) => (J69 r_10 b_10 σ_10))) else (J69 0 b_5 σ_5))))))) (plAt (fun i => SI ρ (Y + 1) (31 + 4 * i)) (SI ρ (Y + 1) (131 + 20 * k)) np2) := by
    have ep := e_placeAtC hW hp p3 (SI ρ (Y + 1) (131 + 20 * k))
    rw [hplC] at ep
    generalize plAt (fun i => SI ρ (Y + 1) (31 + 4 * i)) (SI ρ (Y + 1) (131 + 20 * k)) np2 = p at ep
    rw [f_World_staysForBoxes, lt_, rW_0_6 hW, ix_nI (show k < 2 ^ 31 by omega), rW_42 hW k10, rW_0_0 hW, e6, cK_of (kW_0 hW), cA_of (kW_42 hW) (nW_42 hW) k10 (by decide), cK_of (kW_w hW k10), cK_of (kW_1 hW)]
    simp only [Bool.and_true]
    rw [ep, bd_, lt_, lt_]
    by_cases c : p < 0
    · simp only [if_pos c]
    · simp only [if_neg c, rW_0_2 hW, cK_of (kW_0 hW), cK_of (kW_15 hW), Bool.and_true, e_openAt hW hnb b2]
      rw [bd_]
      simp only [rW_0_0 hW, cK_of (kW_0 hW), cK_of (kW_1 hW), Bool.and_true]
  -- the reference up to its boxes
  have eM : f_Model_isHeld Y (nI k) true ρ = if cntI (bxM (SI ρ (Y + 1)) (nI k) (SI ρ (Y + 1) (131 + 20 * k))) nb = 0 then (0, true, ρ) else (fun p : Int32 => bd_ (f_Model_placeAt Y p true ρ) (fun r_6 b_6 σ_6 => lt_ (fun (s0_62 : Int32) (b : Bool) (σ : Sto) => (lt_ s0_62 (fun (x4_7 : Int32) => (lt_ (0 : Int32) (fun (x5_8 : Int32) => (lt_ (0 : Int32) (fun (x6_9 : Int32) => (lp_ (b_Model_isHeld_70 Y (nI k) (nI (130 + 20 * k)) (SI ρ (Y + 1) (131 + 20 * k)) x4_7) (fun (x5 : Int32) (x6 : Int32) (b : Bool) (σ : Sto) => (0, false, σ)) fuel_ x5_8 x6_9 b σ)))))))) (fun J62 => (if (((SI σ_6 (Y + 1) (ix (r_6 + 3))) >>> (((SI σ_6 (SR σ_6 Y 0) (ix 0)) - (SI σ_6 (SR σ_6 Y 0) (ix 0)) / 7 * 7) &&& 31)) &&& 1) = 0 then (J62 1 ((((b_6 && cA σ_6 (Y + 1) 21 (r_6 + 3)) && cK σ_6 Y 13) && cA σ_6 (SR σ_6 Y 0) 21 0) && !decide ((7 : Int32) = 0)) σ_6) else (J62 0 ((((b_6 && cA σ_6 (Y + 1) 21 (r_6 + 3)) && cK σ_6 Y 13) && cA σ_6 (SR σ_6 Y 0) 21 0) && !decide ((7 : Int32) = 0)) σ_6))))) (plAt (fun i => SI ρ (Y + 1) (31 + 4 * i)) (SI ρ (Y + 1) (131 + 20 * k)) np2) := by
    have ep := e_placeOnM hY hp p4 q10 (SI ρ (Y + 1) (131 + 20 * k))
    have eb := e_boxesAtM hY hnb b3 hpl (nI k) (SI ρ (Y + 1) (131 + 20 * k))
    generalize plAt (fun i => SI ρ (Y + 1) (31 + 4 * i)) (SI ρ (Y + 1) (131 + 20 * k)) np2 = p at ep
    rw [f_Model_isHeld, e_walkerAt, bd_, lt_, lt_, e1, rY_0 hY, ix_nI (show 131 + 20 * k < 2 ^ 31 by omega), cK_of (kY_0 hY), cY hY (show 131 + 20 * k < 3210 by omega)]
    simp only [Bool.and_true]
    rw [eb, bd_]
    by_cases c : cntI (bxM (SI ρ (Y + 1)) (nI k) (SI ρ (Y + 1) (131 + 20 * k))) nb = 0
    · rw [if_pos c, if_pos c]
    · rw [if_neg c, if_neg c, cK_of (kY_0 hY)]
      simp only [Bool.and_true]
      rw [ep, bd_, cK_of (kY_0 hY), rY_0 hY]
      simp only [Bool.and_true]
  rcases plAt_cases (fun i => SI ρ (Y + 1) (31 + 4 * i)) (SI ρ (Y + 1) (131 + 20 * k)) np2 with ⟨hl, hno⟩ | ⟨t, ht, hmt, hl⟩
  · refine ⟨0, σ, ρ, Or.inl rfl, FrC_0, FrR_0, h, rfl, ?_, ?_⟩
    · rw [eC, hl]
      show (if (-1 : Int32) < 0 then _ else _) = _
      rw [if_pos (by decide)]
    · rw [eM, if_pos ((cntI_eq0 (by omega)).mpr (fun i hi => ?_))]
      obtain ⟨nb2, r1, r2, r3, r4⟩ := id hB
      have eb2 : nb2 = nb := (nI_eq (by omega) (by omega)).mp (r3.symm.trans b3)
      subst eb2
      obtain ⟨x0, x1, x2, x3, x4, x5, x6, x7, x8, -⟩ := r4 i hi
      obtain ⟨j, hj, ej⟩ := in_nat p4 (by omega) x7 (Int32.le_of_lt x8)
      rw [ej, p4] at x8
      have hj' := (nI_ltI (by omega) (by omega)).mp x8
      unfold bxM
      rw [ej, ix_nI (by omega), decide_eq_false hm0, decide_eq_false (hno j hj')]
      simp
  · rw [hl] at eC eM
    have hmt' : SI ρ (Y + 1) (31 + 4 * t) = SI ρ (Y + 1) (131 + 20 * k) := hmt
    have ecnt : cntI (fun i => opC σ w (nI k) i && decide (SI σ (w + 17) i = nI t)) nb = cntI (bxM (SI ρ (Y + 1)) (nI k) (SI ρ (Y + 1) (131 + 20 * k))) nb := cntI_congr (fun i hi => by
      obtain ⟨j, hj, ej, ej2, hiff⟩ := bx_town hG hB hp hnb p4 b3 ht hi
      unfold bxM
      rw [op_same hB hnb b3 (nI k) i hi, ej2, ej, ix_nI (by omega), decide_eq_false hm0, Bool.false_or, ← hmt']
      congr 1
      exact decide_eq_decide.mpr hiff)
    by_cases c0 : cntI (bxM (SI ρ (Y + 1)) (nI k) (SI ρ (Y + 1) (131 + 20 * k))) nb = 0
    · refine ⟨0, σ, ρ, Or.inl rfl, FrC_0, FrR_0, h, rfl, ?_, ?_⟩
      · rw [eC]
        show (if nI t < 0 then _ else _) = _
        rw [if_neg (nI_pos (by omega)), ecnt, if_pos c0]
      · rw [eM, if_pos c0]
    · have y5 : SI σ (w + 5) t = SI ρ (Y + 1) (33 + 4 * t) := (q9 t ht).2.2.2.1
      have i3 : nI (30 + 4 * t) + 3 = nI (33 + 4 * t) := by rw [nI_p3]; congr 1; omega
      have eM2 : f_Model_isHeld Y (nI k) true ρ = (if ((SI ρ (Y + 1) (33 + 4 * t) >>> ((SI ρ (Y + 1) 0 - SI ρ (Y + 1) 0 / 7 * 7) &&& 31)) &&& 1) = 0 then lp_ (b_Model_isHeld_70 Y (nI k) (nI (130 + 20 * k)) (SI ρ (Y + 1) (131 + 20 * k)) 1) (fun (x5 : Int32) (x6 : Int32) (b : Bool) (σ : Sto) => (0, false, σ)) fuel_ 0 0 true ρ else lp_ (b_Model_isHeld_70 Y (nI k) (nI (130 + 20 * k)) (SI ρ (Y + 1) (131 + 20 * k)) 0) (fun (x5 : Int32) (x6 : Int32) (b : Bool) (σ : Sto) => (0, false, σ)) fuel_ 0 0 true ρ) := by
        rw [eM, if_neg c0]
        dsimp only
        rw [e_placeAt, bd_, lt_, i3, ix_nI (show 33 + 4 * t < 2 ^ 31 by omega), rY_0 hY, show ix (0 : Int32) = 0 from rfl, cK_of (kY_0 hY), cYk hY 0 (v := 0) rfl (by decide), cY hY (show 33 + 4 * t < 3210 by omega)]
        rfl
      have eC2 : f_World_staysForBoxes w (nI k) true σ = (fun J : Int32 → Bool → Sto → Rs Int32 => if ((SI ρ (Y + 1) (33 + 4 * t) >>> ((SI ρ (Y + 1) 0 - SI ρ (Y + 1) 0 / 7 * 7) &&& 31)) &&& 1) = 1 then J 0 true σ else bd_ (f_Post_takeBoxes (w + 15) (nI k) (nI t) (SI ρ (Y + 1) 0) true σ) (fun r b s => J r b s)) (fun (x4_6 : Int32) (b : Bool) (σ : Sto) => (if 0 < x4_6 then (bd_ (f_Walker_packFood (w + 43 + k) x4_6 (b && cK σ (w + 43 + k) 10) σ) (fun (r_7 : Unit) (b_7 : Bool) (σ_7 : Sto) => ((0 : Int32), b_7, σ_7))) else (lt_ (pI σ (w + 43 + k) 14 ((SI σ (w + 43 + k) 14) + 1)) (fun (σ_8 : Sto) => (if 3 < (SI σ_8 (w + 43 + k) 14) then (bd_ (f_Post_giveOnAt (SR σ_8 w 2) (nI k) (nI t) (((((b && cK σ (w + 43 + k) 10) && cK σ (w + 43 + k) 10) && cK σ_8 (w + 43 + k) 10) && cK σ_8 w 11) && cK σ_8 (SR σ_8 w 2) 5) σ_8) (fun (r_9 : Unit) (b_9 : Bool) (σ_9 : Sto) => ((0 : Int32), b_9, σ_9))) else (1, (((b && cK σ (w + 43 + k) 10) && cK σ (w + 43 + k) 10) && cK σ_8 (w + 43 + k) 10), σ_8)))))) := by
        rw [eC]
        dsimp only
        rw [if_neg (nI_pos (show t < 2 ^ 31 by omega)), ecnt, if_neg c0, e_shutOn hW (by omega), bd_, lt_, y5, h6]
        by_cases s : ((SI ρ (Y + 1) (33 + 4 * t) >>> ((SI ρ (Y + 1) 0 - SI ρ (Y + 1) 0 / 7 * 7) &&& 31)) &&& 1) = 1
        · rw [if_pos s, if_pos s, if_neg (show ¬ (1 : Int32) = 0 by decide)]
          rfl
        · rw [if_neg s, if_neg s, if_pos rfl, rW_0_2 hW, cK_of (kW_0 hW), cK_of (kW_15 hW)]
          rfl
      have tail : ∀ τ υ, DayI X Y w τ υ → SI υ (Y + 1) 2 = nI np2 → SI υ (Y + 1) 5 = nI nw → SI υ (Y + 1) (31 + 4 * t) = SI ρ (Y + 1) (131 + 20 * k) → ∃ x τ' υ', (x = 0 ∨ x = 1) ∧ FrC w τ τ' ∧ FrR Y υ υ' ∧ DayI X Y w τ' υ' ∧ SI υ' (Y + 1) (130 + 20 * k) = SI υ (Y + 1) (130 + 20 * k) ∧ (lt_ (pI τ (w + 43 + k) 14 ((SI τ (w + 43 + k) 14) + 1)) (fun (σ_8 : Sto) => (if 3 < (SI σ_8 (w + 43 + k) 14) then (bd_ (f_Post_giveOnAt (SR σ_8 w 2) (nI k) (nI t) (((((true && cK τ (w + 43 + k) 10) && cK τ (w + 43 + k) 10) && cK σ_8 (w + 43 + k) 10) && cK σ_8 w 11) && cK σ_8 (SR σ_8 w 2) 5) σ_8) (fun (r_9 : Unit) (b_9 : Bool) (σ_9 : Sto) => ((0 : Int32), b_9, σ_9))) else ((1 : Int32), (((true && cK τ (w + 43 + k) 10) && cK τ (w + 43 + k) 10) && cK σ_8 (w + 43 + k) 10), σ_8)))) = (x, true, τ') ∧ heldEnd Y k (SI ρ (Y + 1) (131 + 20 * k)) 0 υ = (x, true, υ') := by
        intro τ υ hD z2 z5 zm
        obtain ⟨x, τ', υ', s1, s2, s3, s4, s5, s6, s7⟩ := stay_end hD hp z2 hn hk z5 ht
        have hWt := hD.2.2.1
        refine ⟨x, τ', υ', s1, s2, s3, s4, s5, ?_, by rw [← zm]; exact s7⟩
        rw [lt_, SR_pI, rW_0_2 hWt, cK_pI, cK_pI, cK_pI, cK_of (kW_w hWt k10), cK_of (kW_0 hWt), cK_of (kW_15 hWt)]
        exact s6
      rcases and1 (SI ρ (Y + 1) (33 + 4 * t) >>> ((SI ρ (Y + 1) 0 - SI ρ (Y + 1) 0 / 7 * 7) &&& 31)) with sh | sh
      · -- open
        obtain ⟨c17, hc17, ec17⟩ := bd_nat (n := 20) (show bd (SI ρ (Y + 1) (147 + 20 * k)) 0 20 from by
          have := hBd.2.2.2.2.2.2.2.1
          rw [show 130 + 20 * k + 17 = 147 + 20 * k by omega] at this
          exact ⟨Int.le_trans (by decide) this.1, this.2⟩)
        obtain ⟨g, hg, eg⟩ := bd_nat (n := 20) (show bd (SI ρ (Y + 1) (133 + 20 * k)) 0 20 from by
          have := hBd.2.2.2.1
          rw [show 130 + 20 * k + 3 = 133 + 20 * k by omega] at this
          exact this)
        obtain ⟨f, c, τ, υ, z1, z2, z3, z4, z5, z6, z7, z8, z9⟩ := take_both h hp hnb hn hk p4 b2 b3 ht hg hc17 eg ec17
        rw [hmt'] at z9
        rw [sh] at eC2 eM2
        dsimp only at eC2
        rw [if_neg (show ¬ (0 : Int32) = 1 by decide), z8, bd_] at eC2
        rw [if_pos rfl, z9] at eM2
        have hWt : LayW w τ := LayT_c hW z4.2.1 z4.2.2.1 z4.2.2.2.1
        by_cases hf0 : f = 0
        · have hc0 : c = 0 := z3.mp hf0
          rw [if_pos hf0] at z6
          have hD := DayI_bx h k10 z4 z5 (by rw [z6, eg]) z7
          obtain ⟨x, τ', υ', s1, s2, s3, s4, s5, s6, s7⟩ := tail τ υ hD (by rw [z5.2.2.2.2.2.2.2 2 (by omega) (by omega)]; exact p4) (by rw [z5.2.2.2.2.2.2.2 5 (by omega) (by omega)]; exact w3) (by rw [z5.2.2.2.2.2.2.2 _ (by omega) (by omega)]; exact hmt')
          have hR : FrR Y ρ υ := BR_R ⟨z5.1, z5.2.1, z5.2.2.1, z5.2.2.2.1, z5.2.2.2.2.1, z5.2.2.2.2.2.1, z5.2.2.2.2.2.2.1, fun j hj => by
            by_cases e : j = 133 + 20 * k
            · rw [e, z6, eg]
            · exact z5.2.2.2.2.2.2.2 j hj e⟩
          refine ⟨x, τ', υ', s1, FrC_t (BC_C z4) s2, FrR_t hR s3, s4, by rw [s5, z5.2.2.2.2.2.2.2 _ (by omega) (by omega)], ?_, ?_⟩
          · rw [eC2, hf0]
            show (if (0 : Int32) < nI 0 then _ else _) = _
            rw [if_neg (by decide)]
            exact s6
          · rw [eM2, hc0]
            exact s7
        · have hc0 : 0 < c := Nat.pos_of_ne_zero (fun e => hf0 (z3.mpr e))
          rw [if_neg hf0] at z6
          have e7 : SI τ (w + 43 + k) 7 = nI g := by
            rw [z4.2.2.2.2.2.2 _ (by omega), hE 7 (by decide), show 130 + 20 * k + co 7 = 133 + 20 * k from by show 130 + 20 * k + 3 = _; omega]
            exact eg
          have e3 : SI τ (w + 43 + k) 3 = nI c17 := by
            rw [z4.2.2.2.2.2.2 _ (by omega), hE 3 (by decide), show 130 + 20 * k + co 3 = 147 + 20 * k from by show 130 + 20 * k + 17 = _; omega]
            exact ec17
          have hS : ∀ j, ¬ (340 ≤ j ∧ j < 440 ∧ (j - 340) % 5 = 4) → j ≠ 133 + 20 * k → SI υ (Y + 1) j = SI ρ (Y + 1) j := z5.2.2.2.2.2.2.2
          have fR : FrR Y ρ υ := ⟨z5.1, z5.2.1, z5.2.2.1, z5.2.2.2.1, z5.2.2.2.2.1, z5.2.2.2.2.2.1, fun x _ b _ _ => z5.2.2.2.2.2.2.1 x b, fun j _ => by rw [z5.2.2.2.2.2.2.1 Y (by omega)], fun j hj => hS j (fun z => hj (by unfold dy; omega)) (fun z => hj (by unfold dy; omega))⟩
          refine ⟨0, pI τ (w + 43 + k) 7 (nI (min c17 (g + f))), υ, Or.inl rfl, FrC_p (BC_C z4) (by omega), fR, ?_, hS _ (by omega) (by omega), ?_, ?_⟩
          · refine DayI_mk h (FrC_p (BC_C z4) (by omega)) fR (by rw [SI_pI, up2_ne' (by omega), z4.2.2.2.2.2.2 w (by omega), hS 0 (by omega) (by omega)]; exact h6) (rB_c z7 (np := np2) hp (by rw [hS 2 (by omega) (by omega)]; exact p4) (fun a _ _ => by rw [SI_pI, up2_ne (by omega)]) (fun _ _ => rfl) (fun _ _ => rfl) (Int32.le_refl _) (Int32.le_refl _)) ?_
            obtain ⟨nw2, n1, n2, n3, n4⟩ := hWW
            have e : nw2 = nw := (nI_eq (by omega) (by omega)).mp (n3.symm.trans w3)
            subst e
            refine ⟨nw2, n1, by rw [SI_pI, up2_ne' (by omega), z4.2.2.2.2.2.2 w (by omega)]; exact n2, by rw [hS 5 (by omega) (by omega)]; exact n3, fun q hq => ?_⟩
            by_cases eq : q = k
            · subst eq
              refine rW1_iff.mpr ⟨fun i hi => ?_, ?_⟩
              · rw [SI_pI]
                by_cases ei : i = 7
                · rw [ei, up2_s, show 130 + 20 * q + co 7 = 133 + 20 * q from by show 130 + 20 * q + 3 = _; omega]
                  exact z6.symm
                · have hc := co_lt i hi
                  have hne : co i ≠ 3 := fun z => ei (co_inj i hi 7 (by decide) z)
                  rw [up2_nj ei, z4.2.2.2.2.2.2 _ (by omega), hS _ (by omega) (by omega)]
                  exact hE i hi
              · obtain ⟨b0, b1, b2', b3', b9, b15, b16, b17, b18, z⟩ := hBd
                unfold wBd
                rw [hS 1 (by omega) (by omega), hS (130 + 20 * q) (by omega) (by omega), hS (130 + 20 * q + 1) (by omega) (by omega), hS (130 + 20 * q + 2) (by omega) (by omega), hS (130 + 20 * q + 9) (by omega) (by omega), hS (130 + 20 * q + 15) (by omega) (by omega), hS (130 + 20 * q + 16) (by omega) (by omega), hS (130 + 20 * q + 17) (by omega) (by omega), hS (130 + 20 * q + 18) (by omega) (by omega), show 130 + 20 * q + 3 = 133 + 20 * q by omega, z6]
                exact ⟨b0, b1, b2', ⟨by rw [nI_toInt (by omega)]; omega, by rw [nI_toInt (by omega)]; omega⟩, b9, b15, b16, b17, b18, z⟩
            · exact rW1_c (n4 q hq) (by rw [SI_pI, up2_ne (by omega), z4.2.2.2.2.2.2 _ (by omega)]) (fun j hj => hS j (by omega) (by omega))
          · rw [eC2]
            show (if (0 : Int32) < nI f then _ else _) = _
            rw [if_pos (show (0 : Int32) < nI f from nI_lt (a := 0) (by omega) (by omega))]
            unfold f_Walker_packFood
            simp only [bd_, lt_, cK_of (kW_w hWt k10), Bool.and_true, e7, e3, nI_add, mnI_n (show c17 < 2 ^ 31 by omega) (show g + f < 2 ^ 31 by omega)]
          · rw [eM2]
            unfold heldEnd
            rw [if_pos (show (0 : Int32) < nI c from nI_lt (a := 0) hc0 (by omega))]
      · -- shut
        rw [sh] at eC2 eM2
        dsimp only at eC2
        rw [if_pos rfl] at eC2
        rw [if_neg (show ¬ (1 : Int32) = 0 by decide), e_heldShut hY k10 hnb b3] at eM2
        obtain ⟨x, τ', υ', s1, s2, s3, s4, s5, s6, s7⟩ := tail σ ρ h p4 w3 hmt'
        refine ⟨x, τ', υ', s1, s2, s3, s4, s5, ?_, ?_⟩
        · rw [eC2, if_neg (show ¬ (0 : Int32) < 0 by decide)]
          exact s6
        · rw [eM2]
          exact s7
end HD2
