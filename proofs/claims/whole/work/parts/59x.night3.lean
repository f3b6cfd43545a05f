/-! a night 2 -/
section NI2
variable {X Y w : Nat} {σ ρ : Sto}
/-- what a day leaves, the crowd aside -/
def FrN (Y : Nat) (ρ ρ' : Sto) : Prop := Shn ρ' = Shn ρ ∧ Stk ρ' = Stk ρ ∧ Sln ρ' = Sln ρ ∧ SR ρ' = SR ρ ∧ SL ρ' = SL ρ ∧ Scs ρ' = Scs ρ ∧ (∀ x, x ≠ Y → x ≠ Y + 1 → x ≠ Y + 8 → x ≠ Y + 9 → SI ρ' x = SI ρ x) ∧ (∀ j, j ≠ 21 ∧ j ≠ 99 → SI ρ' Y j = SI ρ Y j) ∧ (∀ j, ¬ dy j → j ≠ 0 → SI ρ' (Y + 1) j = SI ρ (Y + 1) j)
theorem FrN_r {ρ' : Sto} (h : FrR Y ρ ρ') : FrN Y ρ ρ' := ⟨h.1, h.2.1, h.2.2.1, h.2.2.2.1, h.2.2.2.2.1, h.2.2.2.2.2.1, h.2.2.2.2.2.2.1, fun j hj => h.2.2.2.2.2.2.2.1 j hj.2, fun j hj _ => h.2.2.2.2.2.2.2.2 j hj⟩
theorem FrN_t {ρ' ρ'' : Sto} (h : FrN Y ρ ρ') (g : FrN Y ρ' ρ'') : FrN Y ρ ρ'' :=
  ⟨g.1.trans h.1, g.2.1.trans h.2.1, g.2.2.1.trans h.2.2.1, g.2.2.2.1.trans h.2.2.2.1, g.2.2.2.2.1.trans h.2.2.2.2.1, g.2.2.2.2.2.1.trans h.2.2.2.2.2.1, fun x a b c d => (g.2.2.2.2.2.2.1 x a b c d).trans (h.2.2.2.2.2.2.1 x a b c d), fun j hj => (g.2.2.2.2.2.2.2.1 j hj).trans (h.2.2.2.2.2.2.2.1 j hj), fun j hj h0 => (g.2.2.2.2.2.2.2.2 j hj h0).trans (h.2.2.2.2.2.2.2.2 j hj h0)⟩
theorem FrN_21 {v : Int32} : FrN Y ρ (pI ρ Y 21 v) := ⟨Shn_pI, Stk_pI, Sln_pI, SR_pI, SL_pI, Scs_pI, fun x hx _ _ _ => by rw [SI_pI, up2_ne hx], fun j hj => by rw [SI_pI, up2_nj hj.1], fun j _ _ => by rw [SI_pI, up2_ne' (by omega)]⟩
theorem DayI_21 {v : Int32} (h : DayI X Y w σ ρ) : DayI X Y w σ (pI ρ Y 21 v) := by
  obtain ⟨h1, h2, h3, h4, h5, h6, h7, h8, h9, h10⟩ := h
  have e : SI (pI ρ Y 21 v) (Y + 1) = SI ρ (Y + 1) := by rw [SI_pI, up2_ne (by omega)]
  refine ⟨h1, h2, h3, LayY_c h4 Stk_pI Sln_pI SR_pI, h5, ?_, ?_, ?_, ?_, ?_⟩ <;> rw [e] <;> assumption
/-- one walker's night, both sides -/
theorem sleep_both (h : DayI X Y w σ ρ) {nw k : Nat} (hn : nw ≤ 10) (hk : k < nw) (w3 : SI ρ (Y + 1) 5 = nI nw) (Q : Prop) (a c0 : Int32) (hc : Q → SI ρ Y 21 = mxI c0 a) : ∃ a' τ υ, FrC w σ τ ∧ FrN Y ρ υ ∧ DayI X Y w τ υ ∧ SI υ (Y + 1) 5 = nI nw ∧ SI υ (Y + 1) 0 = SI ρ (Y + 1) 0 ∧ (Q → SI υ Y 21 = mxI c0 a') ∧ (∀ L, b_World_sleepAll_4 w L a (nI k) true σ = L a' (nI k + 1) true τ) ∧ ∀ L, b_Model_night_2 Y L (nI k) true ρ = L (nI k + 1) true υ := by
  obtain ⟨h1, h2, hW, hY, h5, h6, hG, hB, hWW, hT⟩ := id h
  obtain ⟨np, nf, nb, nw', nt, hp, hf, hnb, -, hnt, p3, p4, p5, p6, b2, b3, -, -, t2, t3⟩ := DayI_nb h
  obtain ⟨hE, hBd, w2⟩ := DayI_k h hn hk w3
  have k10 : k < 10 := by omega
  obtain ⟨np2, nf2, q1, q2, q3, q4, q5, q6, q7, q8, q9, q10, q11, q12⟩ := id hG
  have en : np2 = np := (nI_eq (by omega) (by omega)).mp (q4.symm.trans p4)
  subst en
  have e5 : SI σ (w + 43 + k) 5 = SI ρ (Y + 1) (130 + 20 * k) := rE_at hE (by decide) (j := 0) rfl (by omega)
  have e6 : SI σ (w + 43 + k) 6 = SI ρ (Y + 1) (131 + 20 * k) := rE_at hE (by decide) (j := 1) rfl (by omega)
  have e15 : SI σ (w + 43 + k) 15 = SI ρ (Y + 1) (141 + 20 * k) := rE_at hE (by decide) (j := 11) rfl (by omega)
  have i1 : nI (130 + 20 * k) + 1 = nI (131 + 20 * k) := by rw [show nI (130 + 20 * k) + 1 = nI (130 + 20 * k + 1) from nI_add _ 1]; congr 1; omega
  have i11 : nI (130 + 20 * k) + 11 = nI (141 + 20 * k) := by rw [show nI (130 + 20 * k) + 11 = nI (130 + 20 * k + 11) from nI_add _ 11]; congr 1; omega
  have i12 : nI (130 + 20 * k) + 12 = nI (142 + 20 * k) := by rw [show nI (130 + 20 * k) + 12 = nI (130 + 20 * k + 12) from nI_add _ 12]; congr 1; omega
  have ew : f_Model_walks Y (nI k) true ρ = (bI (SI ρ (Y + 1) (130 + 20 * k) = 1), true, ρ) := e_walks hY (by omega)
  by_cases hs : SI ρ (Y + 1) (130 + 20 * k) = 1
  · have hwk : ∀ mile, ∀ i, i < nw → wkC σ w mile i = wkM (SI ρ (Y + 1)) mile i := by
      obtain ⟨nw2, n1, n2, n3, n4⟩ := id hWW
      have e : nw2 = nw := (nI_eq (by omega) (by omega)).mp (n3.symm.trans w3)
      subst e
      exact fun mile i hi => wk_same n4 mile i hi
    generalize hmile : SI ρ (Y + 1) (131 + 20 * k) = mile at *
    have ecall : cntI (wkC σ w mile) nw = cntI (wkM (SI ρ (Y + 1)) mile) nw := cntI_congr (hwk mile)
    have ecbel : cntI (wkC σ w mile) k = cntI (wkM (SI ρ (Y + 1)) mile) k := cntI_congr (fun i hi => hwk mile i (by omega))
    generalize hall : cntI (wkM (SI ρ (Y + 1)) mile) nw = all at *
    generalize hbel : cntI (wkM (SI ρ (Y + 1)) mile) k = bel at *
    have eC : ∀ L, b_World_sleepAll_4 w L a (nI k) true σ = if bel < bedM (SI ρ (Y + 1)) mile np2 then L (mxI a all) (nI k + 1) true σ else bd_ (f_World_sleepOut w (w + 43 + k) all true σ) (fun (r_10 : Unit) (b_10 : Bool) (σ_10 : Sto) => L (mxI a all) (nI k + 1) b_10 σ_10) := fun L => by
      unfold b_World_sleepAll_4
      rw [w2, if_pos (show nI k < nI nw from nI_lt hk (by omega)), lt_, lt_, rW_0_6 hW, ix_nI (show k < 2 ^ 31 by omega), rW_42 hW k10, e5, if_pos hs, e6, cK_of (kW_0 hW), cA_of (kW_42 hW) (nW_42 hW) k10 (by decide), cK_of (kW_w hW k10)]
      simp only [Bool.and_true]
      rw [e_walkAt hW hn w2, ecall, bd_, lt_, lt_]
      dsimp only
      rw [e6, cK_of (kW_w hW k10), cK_of (kW_0 hW)]
      simp only [Bool.and_true]
      rw [e_walkBelow hW (show k ≤ 10 by omega), ecbel, bd_]
      dsimp only
      rw [rW_0_0 hW, e6, cK_of (kW_0 hW), cK_of (kW_w hW k10), cK_of (kW_1 hW)]
      simp only [Bool.and_true]
      rw [beds_C h hp p3 p4, bd_]
      dsimp only
      rw [cK_of (kW_0 hW)]
      rfl
    have eM : ∀ L, b_Model_night_2 Y L (nI k) true ρ = nightE Y (nI k) mile (bedM (SI ρ (Y + 1)) mile np2) all (fun b σ => L (nI k + 1) b σ) bel true ρ := fun L => by
      have ep := e_placeOnM hY hp p4 q10 mile
      have eb := beds_M h hp p4 mile (fun (s0_73 : Int32) (b : Bool) (σ : Sto) => (lt_ s0_73 (fun (x4_8 : Int32) => (bd_ (f_Model_walkersOn Y mile (b && cK σ Y 13) σ) (fun (r_9 : Int32) (b_9 : Bool) (σ_9 : Sto) => (lt_ r_9 (fun (x5_10 : Int32) => (lt_ (0 : Int32) (fun (x6_11 : Int32) => (lt_ (0 : Int32) (fun (x7_12 : Int32) => (lp_ (b_Model_night_88 Y (nI k) mile x4_8 x5_10 (fun b σ => L (nI k + 1) b σ)) (fun (x6 : Int32) (x7 : Int32) (b : Bool) (σ : Sto) => ((), false, σ)) fuel_ x6_11 x7_12 b_9 σ_9))))))))))))
      have e2 : b_Model_night_2 Y L (nI k) true ρ = (fun (s0_73 : Int32) (b : Bool) (σ : Sto) => (lt_ s0_73 (fun (x4_8 : Int32) => (bd_ (f_Model_walkersOn Y mile (b && cK σ Y 13) σ) (fun (r_9 : Int32) (b_9 : Bool) (σ_9 : Sto) => (lt_ r_9 (fun (x5_10 : Int32) => (lt_ (0 : Int32) (fun (x6_11 : Int32) => (lt_ (0 : Int32) (fun (x7_12 : Int32) => (lp_ (b_Model_night_88 Y (nI k) mile x4_8 x5_10 (fun b σ => L (nI k + 1) b σ)) (fun (x6 : Int32) (x7 : Int32) (b : Bool) (σ : Sto) => ((), false, σ)) fuel_ x6_11 x7_12 b_9 σ_9)))))))))))) (bedM (SI ρ (Y + 1)) mile np2) true ρ := by
        refine Eq.trans ?_ eb
        unfold b_Model_night_2
        rw [rY_0 hY, show ix (5 : Int32) = 5 from rfl, w3, if_pos (show nI k < nI nw from nI_lt hk (by omega)), cK_of (kY_0 hY), cYk hY 5 (v := 5) rfl (by decide)]
        simp only [Bool.and_true]
        rw [ew, bd_]
        dsimp only
        rw [lt_, bI_t hs, if_neg (show ¬ (1 : Int32) = 0 by decide), e_walkerAt, bd_]
        dsimp only
        rw [lt_, i1, rY_0 hY, ix_nI (show 131 + 20 * k < 2 ^ 31 by omega), hmile, cK_of (kY_0 hY), cY hY (show 131 + 20 * k < 3210 by omega)]
        simp only [Bool.and_true]
        rw [ep, bd_]
        dsimp only
        rw [lt_, lt_, cK_of (kY_0 hY), Bool.and_true]
        rfl
      rw [e2]
      dsimp only
      rw [lt_, cK_of (kY_0 hY), Bool.and_true, e_walkersOnM hY hn w3, hall, bd_]
      dsimp only
      rw [lt_, lt_, lt_, ← hbel]
      refine lp_cnt (σ := ρ) k (wkM (SI ρ (Y + 1)) mile) (fun x => nightE Y (nI k) mile (bedM (SI ρ (Y + 1)) mile np2) all (fun b σ => L (nI k + 1) b σ) x true ρ) (by omega) (fun L88 i x hi => ?_) (fun L88 x => night88_end _ _ _ _ _ _ _ _ _ _ _ (nI_nlt (Nat.le_refl k) (by omega)))
      have ewi : f_Model_walks Y (nI i) true ρ = (bI (SI ρ (Y + 1) (130 + 20 * i) = 1), true, ρ) := e_walks hY (by omega)
      have i1i : nI (130 + 20 * i) + 1 = nI (131 + 20 * i) := by rw [nI_p1]; congr 1; omega
      unfold b_Model_night_88 wkM
      rw [if_pos (show nI i < nI k from nI_lt hi (by omega)), cK_of (kY_0 hY), Bool.and_true, ewi, bd_]
      dsimp only
      rw [lt_, lt_]
      by_cases c : SI ρ (Y + 1) (130 + 20 * i) = 1
      · rw [bI_t c, if_neg (show ¬ (1 : Int32) = 0 by decide), e_walkerAt, bd_]
        dsimp only
        rw [i1i, rY_0 hY, ix_nI (show 131 + 20 * i < 2 ^ 31 by omega), cK_of (kY_0 hY), cY hY (show 131 + 20 * i < 3210 by omega)]
        by_cases d : SI ρ (Y + 1) (131 + 20 * i) = mile
        · rw [if_pos d, if_pos (decide_eq_true ⟨c, d⟩)]
          rfl
        · rw [if_neg d, if_neg (fun z => d (of_decide_eq_true z).2)]
          rfl
      · rw [bI_f c, if_pos rfl, if_neg (fun z => c (of_decide_eq_true z).1)]
        rfl
    -- the crowd
    have fRc : FrN Y ρ (pI ρ Y 21 (mxI (SI ρ Y 21) all)) := FrN_21
    have eSc : SI (pI ρ Y 21 (mxI (SI ρ Y 21) all)) (Y + 1) = SI ρ (Y + 1) := by rw [SI_pI, up2_ne (by omega)]
    have hDc : DayI X Y w σ (pI ρ Y 21 (mxI (SI ρ Y 21) all)) := DayI_21 h
    have e21 : Q → SI (pI ρ Y 21 (mxI (SI ρ Y 21) all)) Y 21 = mxI c0 (mxI a all) := fun qq => by rw [SI_pI, up2_s, hc qq, mxI_assoc]
    have hEn : ∀ J, nightE Y (nI k) mile (bedM (SI ρ (Y + 1)) mile np2) all J bel true ρ = if bel < bedM (SI ρ (Y + 1)) mile np2 then J true (pI ρ Y 21 (mxI (SI ρ Y 21) all)) else nightE Y (nI k) mile (bedM (SI ρ (Y + 1)) mile np2) all J bel true ρ := fun J => by
      by_cases c : bel < bedM (SI ρ (Y + 1)) mile np2
      · rw [if_pos c]
        unfold nightE mxI
        rw [lt_]
        by_cases d : SI ρ Y 21 < all
        · rw [if_pos d, if_pos d]
          dsimp only
          rw [lt_, if_pos c, cK_of (kY_0 hY)]
          rfl
        · rw [if_neg d, if_neg d]
          dsimp only
          rw [lt_, if_pos c, cK_of (kY_0 hY)]
          rfl
      · rw [if_neg c]
    by_cases cb : bel < bedM (SI ρ (Y + 1)) mile np2
    · refine ⟨mxI a all, σ, pI ρ Y 21 (mxI (SI ρ Y 21) all), FrC_0, fRc, hDc, by rw [eSc]; exact w3, by rw [eSc], e21, fun L => by rw [eC, if_pos cb], fun L => by rw [eM, hEn, if_pos cb]⟩
    · generalize hρc : pI ρ Y 21 (mxI (SI ρ Y 21) all) = ρc at *
      have w3c : SI ρc (Y + 1) 5 = nI nw := by rw [eSc]; exact w3
      have g := DayI_w (i := 15) (v := SI σ (w + 43 + k) 15 + 1) hDc hn hk w3c (by decide) (wBd_f (DayI_k hDc hn hk w3c).2.1 (by omega) (show (11 : Nat) = 4 ∨ 11 = 5 ∨ 11 = 6 ∨ 11 = 7 ∨ 11 = 8 ∨ 11 = 10 ∨ 11 = 11 ∨ 11 = 12 ∨ 11 = 13 by omega))
      rw [show 130 + 20 * k + co 15 = 141 + 20 * k from by show 130 + 20 * k + 11 = _; omega, e15] at g
      obtain ⟨f1, f2, hD1, eS1⟩ := names2 g mile all 109 110
      have hyc := hDc.2.2.2.1
      have hW1 := hD1.2.2.1
      have hY1 := hD1.2.2.2.1
      have hT1 := hD1.2.2.2.2.2.2.2.2.2
      have fCa : FrC w σ (pI σ (w + 43 + k) 15 (SI ρ (Y + 1) (141 + 20 * k) + 1)) := FrC_p FrC_0 (by omega)
      have fRa : FrN Y ρ (pI ρc (Y + 1) (141 + 20 * k) (SI ρ (Y + 1) (141 + 20 * k) + 1)) := FrN_t fRc (FrN_r (FrR_p FrR_0 (by unfold dy; omega)))
      have eSS : ∀ j, j ≠ 141 + 20 * k → SI (pI (pI (pI ρc (Y + 1) (141 + 20 * k) (SI ρ (Y + 1) (141 + 20 * k) + 1)) (Y + 8) 109 mile) (Y + 8) 110 all) (Y + 1) j = SI ρ (Y + 1) j := fun j hj => by rw [eS1, SI_pI, up2_nj hj, eSc]
      have hnm : nmOK 0 (SI (pI (pI (pI σ (w + 43 + k) 15 (SI ρ (Y + 1) (141 + 20 * k) + 1)) (w + 13) 0 mile) (w + 13) 1 all) (w + 13)) (fun v => SI (pI (pI (pI ρc (Y + 1) (141 + 20 * k) (SI ρ (Y + 1) (141 + 20 * k) + 1)) (Y + 8) 109 mile) (Y + 8) 110 all) (Y + 8) (ix v)) := by
        refine Or.inl ⟨rfl, ?_, ?_⟩
        · show _ = SI _ (Y + 8) 109
          rw [SI_pI, up2_nj (by decide), SI_pI, up2_s, SI_pI, up2_nj (by decide), SI_pI, up2_s]
        · show _ = SI _ (Y + 8) 110
          rw [SI_pI, up2_s, SI_pI, up2_s]
      have e21b : Q → SI (pI (pI (pI ρc (Y + 1) (141 + 20 * k) (SI ρ (Y + 1) (141 + 20 * k) + 1)) (Y + 8) 109 mile) (Y + 8) 110 all) Y 21 = mxI c0 (mxI a all) := fun qq => by rw [SI_pI, up2_ne' (by omega), SI_pI, up2_ne' (by omega), SI_pI, up2_ne' (by omega)]; exact e21 qq
      have eC2 : f_World_sleepOut w (w + 43 + k) all true σ = bd_ (f_Laws_answerOf (w + 11) (lnM ρ Y mile) 0 (SI (pI (pI (pI ρc (Y + 1) (141 + 20 * k) (SI ρ (Y + 1) (141 + 20 * k) + 1)) (Y + 8) 109 mile) (Y + 8) 110 all) (Y + 1) 0) 1 true (pI (pI (pI σ (w + 43 + k) 15 (SI ρ (Y + 1) (141 + 20 * k) + 1)) (w + 13) 0 mile) (w + 13) 1 all)) (fun (r_4 : Int32) (b_4 : Bool) (σ_4 : Sto) => (if r_4 = 0 then (lt_ (pI σ_4 (w + 43 + k) 16 ((SI σ_4 (w + 43 + k) 16) + 1)) (fun (σ_5 : Sto) => ((), ((b_4 && cK σ_4 (w + 43 + k) 10) && cK σ_4 (w + 43 + k) 10), σ_5))) else ((), b_4, σ_4))) := by
        have hWa := g.2.2.1
        have el := land_C hD1 mile
        have eln : lnM (pI (pI (pI ρc (Y + 1) (141 + 20 * k) (SI ρ (Y + 1) (141 + 20 * k) + 1)) (Y + 8) 109 mile) (Y + 8) 110 all) Y mile = lnM ρ Y mile := by
          unfold lnM ldM
          rw [eSS (10 + 3) (by omega), eSS (10 + 2) (by omega), eSS (10 + 1) (by omega)]
        rw [eln] at el
        have e6a : SI (pI σ (w + 43 + k) 15 (SI ρ (Y + 1) (141 + 20 * k) + 1)) (w + 43 + k) 6 = mile := by rw [SI_pI, up2_nj (by decide)]; exact e6
        have e6b : SI (pI (pI (pI σ (w + 43 + k) 15 (SI ρ (Y + 1) (141 + 20 * k) + 1)) (w + 13) 0 mile) (w + 13) 1 all) (w + 43 + k) 6 = mile := by rw [SI_pI, up2_ne' (by omega), SI_pI, up2_ne' (by omega)]; exact e6a
        have e8b := hD1.2.2.2.2.2.1
        unfold f_World_sleepOut
        rw [lt_, e15, cK_of (kW_w hW k10)]
        generalize hσa : pI σ (w + 43 + k) 15 (SI ρ (Y + 1) (141 + 20 * k) + 1) = σa at *
        rw [rW_0_1 hWa, e6a, cK_of (kW_0 hWa), cK_of (kW_w hWa k10), cK_of (kW_11 hWa)]
        simp only [Bool.and_true, Bool.and_self]
        rw [e_nameTwo hWa, bd_]
        dsimp only
        generalize hσb : pI (pI σa (w + 13) 0 mile) (w + 13) 1 all = σb at *
        rw [rW_0_0 hW1, rW_0_1 hW1, e6b, cK_of (kW_0 hW1), cK_of (kW_w hW1 k10), cK_of (kW_1 hW1)]
        simp only [Bool.and_true]
        rw [el, bd_]
        dsimp only
        rw [e8b, cK_of (kW_0 hW1), cK_of (kW_11 hW1)]
        simp only [Bool.and_true]
      have ecT : cntT (SI (pI (pI (pI ρc (Y + 1) (141 + 20 * k) (SI ρ (Y + 1) (141 + 20 * k) + 1)) (Y + 8) 109 mile) (Y + 8) 110 all) (Y + 1)) (lnM ρ Y mile) 0 nt = cntT (SI ρ (Y + 1)) (lnM ρ Y mile) 0 nt := cntT_c (fun j hj => eSS j (by omega)) _ _ _
      have eN : ∀ J : Bool → Sto → Rs Unit, nightE Y (nI k) mile (bedM (SI ρ (Y + 1)) mile np2) all J bel true ρ = outM Y k (cntT (SI ρ (Y + 1)) (lnM ρ Y mile) 0 nt) J (pI (pI (pI ρc (Y + 1) (141 + 20 * k) (SI ρ (Y + 1) (141 + 20 * k) + 1)) (Y + 8) 109 mile) (Y + 8) 110 all) := fun J => nightE_out hY hDc hρc eSc k10 hnt t3 cb J
      have fC2 := FrC_t fCa f1
      have fR2 := FrN_t fRa (FrN_r f2)
      have w32 : SI (pI (pI (pI ρc (Y + 1) (141 + 20 * k) (SI ρ (Y + 1) (141 + 20 * k) + 1)) (Y + 8) 109 mile) (Y + 8) 110 all) (Y + 1) 5 = nI nw := by rw [eSS 5 (by omega)]; exact w3
      have t32 : SI (pI (pI (pI ρc (Y + 1) (141 + 20 * k) (SI ρ (Y + 1) (141 + 20 * k) + 1)) (Y + 8) 109 mile) (Y + 8) 110 all) (Y + 1) 4 = nI nt := by rw [eSS 4 (by omega)]; exact t3
      have d0 : SI (pI (pI (pI ρc (Y + 1) (141 + 20 * k) (SI ρ (Y + 1) (141 + 20 * k) + 1)) (Y + 8) 109 mile) (Y + 8) 110 all) (Y + 1) 0 = SI ρ (Y + 1) 0 := eSS 0 (by omega)
      clear hEn eS1 eSS f1 f2 fCa fRa g
      generalize hσ2 : pI (pI (pI σ (w + 43 + k) 15 (SI ρ (Y + 1) (141 + 20 * k) + 1)) (w + 13) 0 mile) (w + 13) 1 all = σ2 at *
      generalize hρ2 : pI (pI (pI ρc (Y + 1) (141 + 20 * k) (SI ρ (Y + 1) (141 + 20 * k) + 1)) (Y + 8) 109 mile) (Y + 8) 110 all = ρ2 at *
      rcases e_answer h1 hW1 h2 hY1 hT1 hnt t32 (lnM ρ Y mile) 0 1 hnm with ⟨c1, c2⟩ | ⟨j, hj, c1, ⟨τ, c2, c3⟩, υ, c4, c5⟩
      · rw [ecT] at c1
        have z0 : pI ρ2 (Y + 1) (142 + 20 * k) (SI ρ2 (Y + 1) (142 + 20 * k) + 0) = ρ2 := pI_id (Int32.add_zero _).symm
        refine ⟨mxI a all, σ2, ρ2, fC2, fR2, hD1, w32, d0, e21b, fun L => ?_, fun L => ?_⟩
        · rw [eC, if_neg cb, eC2, c2, bd_, bd_]
          dsimp only
          rw [if_neg (show ¬ (1 : Int32) = 0 by decide)]
        · rw [eM, eN]
          unfold outM
          rw [c1, if_pos (by decide), z0, cY hY1 (show 142 + 20 * k < 3210 by omega)]
      · rw [ecT] at c1
        have hD2 := DayI_ev hD1 c3 c5
        have eS2 : SI υ (Y + 1) = SI ρ2 (Y + 1) := c5.2.2.2.2.2.2 (Y + 1) (by omega)
        have w33 : SI υ (Y + 1) 5 = nI nw := by rw [eS2]; exact w32
        have e21c : Q → SI υ Y 21 = mxI c0 (mxI a all) := fun qq => by rw [c5.2.2.2.2.2.2 Y (by omega)]; exact e21b qq
        have fC3 := FrC_t fC2 (FrC_w c3)
        have fR3 := FrN_t fR2 (FrN_r (FrR_m c5))
        have hE2 := (DayI_k hD2 hn hk w33).1
        have e16 : SI τ (w + 43 + k) 16 = SI υ (Y + 1) (142 + 20 * k) := rE_at hE2 (by decide) (j := 12) rfl (by omega)
        have hW2 := hD2.2.2.1
        have hY2 := hD2.2.2.2.1
        have hcn : ¬ cntT (SI ρ (Y + 1)) (lnM ρ Y mile) 0 nt < 0 := by rw [c1]; exact nI_pos (by omega)
        by_cases c : ev (SI ρ2 (Y + 1)) (fun v => SI ρ2 (Y + 8) (ix v)) j = 0
        · have g := DayI_w (i := 16) (v := SI τ (w + 43 + k) 16 + 1) hD2 hn hk w33 (by decide) (wBd_f (DayI_k hD2 hn hk w33).2.1 (by omega) (show (12 : Nat) = 4 ∨ 12 = 5 ∨ 12 = 6 ∨ 12 = 7 ∨ 12 = 8 ∨ 12 = 10 ∨ 12 = 11 ∨ 12 = 12 ∨ 12 = 13 by omega))
          rw [show 130 + 20 * k + co 16 = 142 + 20 * k from by show 130 + 20 * k + 12 = _; omega, e16] at g
          refine ⟨mxI a all, pI τ (w + 43 + k) 16 (SI υ (Y + 1) (142 + 20 * k) + 1), pI υ (Y + 1) (142 + 20 * k) (SI υ (Y + 1) (142 + 20 * k) + 1), FrC_t fC3 (FrC_p FrC_0 (by omega)), FrN_t fR3 (FrN_r (FrR_p FrR_0 (by unfold dy; omega))), g, ?_, ?_, ?_, fun L => ?_, fun L => ?_⟩
          · rw [SI_pI, up2_nj (by omega)]; exact w33
          · rw [SI_pI, up2_nj (by omega), eS2]; exact d0
          · rw [SI_pI, up2_ne' (by omega)]; exact e21c
          · rw [eC, if_neg cb, eC2, c2, bd_, bd_]
            dsimp only
            rw [if_pos c, lt_, e16, cK_of (kW_w hW2 k10)]
            rfl
          · rw [eM, eN]
            unfold outM
            rw [if_neg hcn, c1, c4, bd_]
            dsimp only
            rw [if_pos c, cY hY2 (show 142 + 20 * k < 3210 by omega), ← eS2]
            rfl
        · refine ⟨mxI a all, τ, υ, fC3, fR3, hD2, w33, by rw [eS2]; exact d0, e21c, fun L => ?_, fun L => ?_⟩
          · rw [eC, if_neg cb, eC2, c2, bd_, bd_]
            dsimp only
            rw [if_neg c]
          · have z0 : pI υ (Y + 1) (142 + 20 * k) (SI ρ2 (Y + 1) (142 + 20 * k) + 0) = υ := by rw [← eS2]; exact pI_id (Int32.add_zero _).symm
            rw [eM, eN]
            unfold outM
            rw [if_neg hcn, c1, c4, bd_]
            dsimp only
            rw [if_neg c, cY hY2 (show 142 + 20 * k < 3210 by omega), z0]
            rfl
  · refine ⟨a, σ, ρ, FrC_0, FrN_r FrR_0, h, w3, rfl, hc, fun L => ?_, fun L => ?_⟩
    · unfold b_World_sleepAll_4
      rw [w2, if_pos (show nI k < nI nw from nI_lt hk (by omega)), lt_, lt_, rW_0_6 hW, ix_nI (show k < 2 ^ 31 by omega), rW_42 hW k10, e5, if_neg hs, cK_of (kW_0 hW), cA_of (kW_42 hW) (nW_42 hW) k10 (by decide), cK_of (kW_w hW k10)]
      rfl
    · unfold b_Model_night_2
      rw [rY_0 hY, show ix (5 : Int32) = 5 from rfl, w3, if_pos (show nI k < nI nw from nI_lt hk (by omega)), cK_of (kY_0 hY), cYk hY 5 (v := 5) rfl (by decide)]
      simp only [Bool.and_true]
      rw [ew, bd_]
      dsimp only
      rw [lt_, bI_f hs, if_pos rfl]
      rfl
end NI2
