/-! a day: quitting, done -/
section QT
variable {X Y w : Nat} {σ ρ : Sto}
theorem pace_bd {p g : Int32} (hp : bd p 1 40) (hg : bd g 0 5) : bd (mnI 40 (p + g)) 1 40 := by
  obtain ⟨a, ha, ea⟩ := bd_nat (n := 40) (show bd p 0 40 from ⟨Int.le_trans (by decide) hp.1, hp.2⟩)
  obtain ⟨b, hb, eb⟩ := bd_nat (n := 5) hg
  have h1 : 1 ≤ a := by
    have := hp.1
    rw [ea, nI_toInt (by omega)] at this
    omega
  rw [ea, eb, nI_add, show (40 : Int32) = nI 40 from rfl, mnI_n (by decide) (by omega)]
  exact ⟨by rw [nI_toInt (by omega)]; omega, by rw [nI_toInt (by omega)]; omega⟩
/-- what a walk does, on both sides -/
theorem after_both (h : DayI X Y w σ ρ) {nw k : Nat} (hn : nw ≤ 10) (hk : k < nw) (w3 : SI ρ (Y + 1) 5 = nI nw) (hs : SI ρ (Y + 1) (130 + 20 * k) = 1) : ∃ τ υ, FrC w σ τ ∧ FrR Y ρ υ ∧ DayI X Y w τ υ ∧ SI υ (Y + 1) (130 + 20 * k) = 1 ∧ SI υ (Y + 1) 5 = nI nw ∧ f_Walker_endWalk (w + 43 + k) true σ = ((), true, τ) ∧ walkTail Y (nI k) (nI (130 + 20 * k)) true ρ = bd_ (f_Model_quits Y (nI k) true υ) (fun r b s => walkEnd Y (nI k) (nI (130 + 20 * k)) r b s) := by
  obtain ⟨hE, hBd, w2⟩ := DayI_k h hn hk w3
  have k10 : k < 10 := by omega
  obtain ⟨b0, b1, b2, b3, b9, b15, b16, b17, b18, z⟩ := id hBd
  have bf : bd (SI ρ (Y + 1) (133 + 20 * k)) 0 20 := by rw [show 133 + 20 * k = 130 + 20 * k + 3 by omega]; exact b3
  have bp : bd (SI ρ (Y + 1) (132 + 20 * k)) 1 40 := by rw [show 132 + 20 * k = 130 + 20 * k + 2 by omega]; exact b2
  have bg : bd (SI ρ (Y + 1) (146 + 20 * k)) 0 5 := by rw [show 146 + 20 * k = 130 + 20 * k + 16 by omega]; exact b16
  have eC := e_endWalk h.2.2.1 k10 hE bf
  have eM := e_walkTail h.2.2.2.1 k10
  have vf : bd (SI ρ (Y + 1) (133 + 20 * k) - (if 0 < SI ρ (Y + 1) (133 + 20 * k) then 1 else 0)) 0 20 := by
    obtain ⟨fo, hfo, efo⟩ := bd_nat (n := 20) bf
    rw [efo]
    by_cases q : fo = 0
    · rw [q]; exact ⟨by decide, by decide⟩
    · rw [if_pos (show (0 : Int32) < nI fo from nI_lt (a := 0) (by omega) (by omega)), show nI fo - 1 = nI (fo - 1) from nI_sub (b := 1) (by omega)]
      exact ⟨by rw [nI_toInt (by omega)]; omega, by rw [nI_toInt (by omega)]; omega⟩
  have vp : bd (if SI ρ (Y + 1) (137 + 20 * k) + 1 - (SI ρ (Y + 1) (137 + 20 * k) + 1) / 7 * 7 = 0 then mnI 40 (SI ρ (Y + 1) (132 + 20 * k) + SI ρ (Y + 1) (146 + 20 * k)) else SI ρ (Y + 1) (132 + 20 * k)) 1 40 := by
    by_cases q : SI ρ (Y + 1) (137 + 20 * k) + 1 - (SI ρ (Y + 1) (137 + 20 * k) + 1) / 7 * 7 = 0
    · rw [if_pos q]; exact pace_bd bp bg
    · rw [if_neg q]; exact bp
  generalize (if SI ρ (Y + 1) (133 + 20 * k) = 0 then SI ρ (Y + 1) (134 + 20 * k) + 1 else 0) = vH at *
  generalize (if SI ρ (Y + 1) (137 + 20 * k) + 1 - (SI ρ (Y + 1) (137 + 20 * k) + 1) / 7 * 7 = 0 then mnI 40 (SI ρ (Y + 1) (132 + 20 * k) + SI ρ (Y + 1) (146 + 20 * k)) else SI ρ (Y + 1) (132 + 20 * k)) = vP at *
  generalize (SI ρ (Y + 1) (135 + 20 * k) + (if SI ρ (Y + 1) (148 + 20 * k) < SI ρ (Y + 1) (136 + 20 * k) then 1 else 0)) = vT at *
  generalize (SI ρ (Y + 1) (137 + 20 * k) + 1) = vW at *
  generalize (SI ρ (Y + 1) (133 + 20 * k) - (if 0 < SI ρ (Y + 1) (133 + 20 * k) then 1 else 0)) = vF at *
  have g0 := DayI_w (i := 8) (v := vH) h hn hk w3 (by decide) (wBd_f hBd (by omega) (show (4 : Nat) = 4 ∨ 4 = 5 ∨ 4 = 6 ∨ 4 = 7 ∨ 4 = 8 ∨ 4 = 10 ∨ 4 = 11 ∨ 4 = 12 ∨ 4 = 13 by omega))
  rw [show 130 + 20 * k + co 8 = 134 + 20 * k from by show 130 + 20 * k + 4 = _; omega] at g0
  have y0 : SI (pI ρ (Y + 1) (134 + 20 * k) vH) (Y + 1) 5 = nI nw := by rw [SI_pI, up2_nj (by omega)]; exact w3
  have z0 := (DayI_k g0 hn hk y0).2.1
  have g1 := DayI_w (i := 7) (v := vF) g0 hn hk y0 (by decide) (wBd_3 z0 (by omega) vf)
  rw [show 130 + 20 * k + co 7 = 133 + 20 * k from by show 130 + 20 * k + 3 = _; omega] at g1
  have y1 : SI (pI (pI ρ (Y + 1) (134 + 20 * k) vH) (Y + 1) (133 + 20 * k) vF) (Y + 1) 5 = nI nw := by rw [SI_pI, up2_nj (by omega)]; exact y0
  have z1 := (DayI_k g1 hn hk y1).2.1
  have g2 := DayI_w (i := 11) (v := vW) g1 hn hk y1 (by decide) (wBd_f z1 (by omega) (show (7 : Nat) = 4 ∨ 7 = 5 ∨ 7 = 6 ∨ 7 = 7 ∨ 7 = 8 ∨ 7 = 10 ∨ 7 = 11 ∨ 7 = 12 ∨ 7 = 13 by omega))
  rw [show 130 + 20 * k + co 11 = 137 + 20 * k from by show 130 + 20 * k + 7 = _; omega] at g2
  have y2 : SI (pI (pI (pI ρ (Y + 1) (134 + 20 * k) vH) (Y + 1) (133 + 20 * k) vF) (Y + 1) (137 + 20 * k) vW) (Y + 1) 5 = nI nw := by rw [SI_pI, up2_nj (by omega)]; exact y1
  have z2 := (DayI_k g2 hn hk y2).2.1
  have g3 := DayI_w (i := 1) (v := vP) g2 hn hk y2 (by decide) (wBd_2 z2 (by omega) vp)
  rw [show 130 + 20 * k + co 1 = 132 + 20 * k from by show 130 + 20 * k + 2 = _; omega] at g3
  have y3 : SI (pI (pI (pI (pI ρ (Y + 1) (134 + 20 * k) vH) (Y + 1) (133 + 20 * k) vF) (Y + 1) (137 + 20 * k) vW) (Y + 1) (132 + 20 * k) vP) (Y + 1) 5 = nI nw := by rw [SI_pI, up2_nj (by omega)]; exact y2
  have z3 := (DayI_k g3 hn hk y3).2.1
  have g4 := DayI_w (i := 9) (v := vT) g3 hn hk y3 (by decide) (wBd_f z3 (by omega) (show (5 : Nat) = 4 ∨ 5 = 5 ∨ 5 = 6 ∨ 5 = 7 ∨ 5 = 8 ∨ 5 = 10 ∨ 5 = 11 ∨ 5 = 12 ∨ 5 = 13 by omega))
  rw [show 130 + 20 * k + co 9 = 135 + 20 * k from by show 130 + 20 * k + 5 = _; omega] at g4
  have y4 : SI (pI (pI (pI (pI (pI ρ (Y + 1) (134 + 20 * k) vH) (Y + 1) (133 + 20 * k) vF) (Y + 1) (137 + 20 * k) vW) (Y + 1) (132 + 20 * k) vP) (Y + 1) (135 + 20 * k) vT) (Y + 1) 5 = nI nw := by rw [SI_pI, up2_nj (by omega)]; exact y3
  have z4 := (DayI_k g4 hn hk y4).2.1
  refine ⟨_, _, (FrC_p (FrC_p (FrC_p (FrC_p (FrC_p FrC_0 (show w + 43 + k = w + 13 ∨ w + 43 + k = w + 14 ∨ w + 43 + k = w + 20 ∨ (w + 43 ≤ w + 43 + k ∧ w + 43 + k ≤ w + 52) by omega)) (show w + 43 + k = w + 13 ∨ w + 43 + k = w + 14 ∨ w + 43 + k = w + 20 ∨ (w + 43 ≤ w + 43 + k ∧ w + 43 + k ≤ w + 52) by omega)) (show w + 43 + k = w + 13 ∨ w + 43 + k = w + 14 ∨ w + 43 + k = w + 20 ∨ (w + 43 ≤ w + 43 + k ∧ w + 43 + k ≤ w + 52) by omega)) (show w + 43 + k = w + 13 ∨ w + 43 + k = w + 14 ∨ w + 43 + k = w + 20 ∨ (w + 43 ≤ w + 43 + k ∧ w + 43 + k ≤ w + 52) by omega)) (show w + 43 + k = w + 13 ∨ w + 43 + k = w + 14 ∨ w + 43 + k = w + 20 ∨ (w + 43 ≤ w + 43 + k ∧ w + 43 + k ≤ w + 52) by omega)), (FrR_p (FrR_p (FrR_p (FrR_p (FrR_p FrR_0 (by unfold dy; omega)) (by unfold dy; omega)) (by unfold dy; omega)) (by unfold dy; omega)) (by unfold dy; omega)), g4, ?_, y4, eC, eM⟩
  rw [SI_pI, up2_nj (by omega), SI_pI, up2_nj (by omega), SI_pI, up2_nj (by omega), SI_pI, up2_nj (by omega), SI_pI, up2_nj (by omega)]
  exact hs
theorem e_nameFour (hW : LayW w σ) (a b c d : Int32) : f_Laws_nameFour (w + 11) a b c d true σ = ((), true, pI (pI (pI (pI σ (w + 13) 0 a) (w + 13) 1 b) (w + 13) 2 c) (w + 13) 3 d) := by
  have hW1 : LayW w (pI (pI σ (w + 13) 0 a) (w + 13) 1 b) := LayT_c hW (by rw [Stk_pI, Stk_pI]) (by rw [Sln_pI, Sln_pI]) (by rw [SR_pI, SR_pI])
  unfold f_Laws_nameFour
  rw [cK_of (kW_11 hW), Bool.and_true, e_nameTwo hW, bd_]
  simp only [lt_, SR_pI, rW_11_2 hW, cK_pI, cA_pI, cK_of (kW_11 hW), show ix (2 : Int32) = 2 from rfl, show ix (3 : Int32) = 3 from rfl, show cA σ (w + 13) 21 2 = true from cA_of (i := 2) (kW_13 hW) (nW_13 hW) (by decide) (by decide), show cA σ (w + 13) 21 3 = true from cA_of (i := 3) (kW_13 hW) (nW_13 hW) (by decide) (by decide), Bool.and_true]
/-- a state written, and the boxes given on -/
theorem ends_both (h : DayI X Y w σ ρ) {nw k : Nat} (hn : nw ≤ 10) (hk : k < nw) (w3 : SI ρ (Y + 1) 5 = nI nw) {t : Nat} (ht : t = 2 ∨ t = 3) : ∃ τ υ, FrC w σ τ ∧ FrR Y ρ υ ∧ DayI X Y w τ υ ∧ SI υ (Y + 1) 5 = nI nw ∧ bd_ (f_Walker_hasEnded (w + 43 + k) true (pI σ (w + 43 + k) 5 (nI t))) (fun r_6 b_6 σ_6 => (if r_6 = 0 then ((), b_6, σ_6) else (bd_ (f_Post_giveOnAll (SR σ_6 w 2) (nI k) ((b_6 && cK σ_6 w 11) && cK σ_6 (SR σ_6 w 2) 5) σ_6) (fun (r_7 : Unit) (b_7 : Bool) (σ_7 : Sto) => ((), b_7, σ_7))))) = ((), true, τ) ∧ f_Model_giveOn Y (nI k) (-1) true (pI ρ (Y + 1) (130 + 20 * k) (nI t)) = ((), true, υ) := by
  obtain ⟨hE, hBd, w2⟩ := DayI_k h hn hk w3
  have k10 : k < 10 := by omega
  have g := DayI_w (i := 5) (v := nI t) h hn hk w3 (by decide) (wBd_0 hBd (by omega) (by rcases ht with rfl | rfl <;> exact ⟨by decide, by decide⟩) (by rcases ht with rfl | rfl <;> decide))
  rw [show 130 + 20 * k + co 5 = 130 + 20 * k from rfl] at g
  obtain ⟨τ, υ, q1, q2, q3, e1, e2⟩ := give_all g (nI k)
  have hWt := g.2.2.1
  refine ⟨τ, υ, FrC_t (FrC_p FrC_0 (by omega)) (BC_C q1), FrR_t (FrR_p FrR_0 (by unfold dy; omega)) (BR_R q2), q3, by rw [q2.2.2.2.2.2.2.2 5 (by omega), SI_pI, up2_nj (by omega)]; exact w3, ?_, e2⟩
  rw [e_hasEnded (kW_w hWt k10) (show t ≤ 3 by omega) (by rw [SI_pI, up2_s]), bd_, bI_t (show ¬ nI t < 2 by rcases ht with rfl | rfl <;> decide), if_neg (show ¬ (1 : Int32) = 0 by decide), rW_0_2 hWt, cK_of (kW_0 hWt), cK_of (kW_15 hWt)]
  simp only [Bool.and_true]
  rw [e1]
  rfl
theorem quit_both (h : DayI X Y w σ ρ) {nw k : Nat} (hn : nw ≤ 10) (hk : k < nw) (w3 : SI ρ (Y + 1) 5 = nI nw) (hs : SI ρ (Y + 1) (130 + 20 * k) = 1) : ∃ τ υ, FrC w σ τ ∧ FrR Y ρ υ ∧ DayI X Y w τ υ ∧ SI υ (Y + 1) 5 = nI nw ∧ f_World_endIfDue w (nI k) true σ = ((), true, τ) ∧ bd_ (f_Model_quits Y (nI k) true ρ) (fun r b s => walkEnd Y (nI k) (nI (130 + 20 * k)) r b s) = ((), true, υ) := by
  obtain ⟨h1, h2, hW, hY, h5, h6, hG, hB, hWW, hT⟩ := id h
  obtain ⟨np, nf, nb, nw', nt, hp, hf, hnb, -, hnt, p3, p4, p5, p6, b2, b3, -, -, t2, t3⟩ := DayI_nb h
  obtain ⟨hE, hBd, w2⟩ := DayI_k h hn hk w3
  have k10 : k < 10 := by omega
  have p7 : SI σ (w + 1) 9 = SI ρ (Y + 1) 1 := by
    obtain ⟨np2, nf2, q1, q2, q3, q4, q5, q6, q7, q8, -⟩ := hG
    exact q7
  have e6 : SI σ (w + 43 + k) 6 = SI ρ (Y + 1) (131 + 20 * k) := rE_at hE (by decide) (j := 1) rfl (by omega)
  have e8 : SI σ (w + 43 + k) 8 = SI ρ (Y + 1) (134 + 20 * k) := rE_at hE (by decide) (j := 4) rfl (by omega)
  have e9 : SI σ (w + 43 + k) 9 = SI ρ (Y + 1) (135 + 20 * k) := rE_at hE (by decide) (j := 5) rfl (by omega)
  have e12 : SI σ (w + 43 + k) 12 = SI ρ (Y + 1) (138 + 20 * k) := rE_at hE (by decide) (j := 8) rfl (by omega)
  have e11 : SI σ (w + 43 + k) 11 = SI ρ (Y + 1) (137 + 20 * k) := rE_at hE (by decide) (j := 7) rfl (by omega)
  have e5 : SI σ (w + 43 + k) 5 = nI 1 := by rw [hE 5 (by decide)]; exact hs
  have bm : bd (SI ρ (Y + 1) (131 + 20 * k)) 0 (SI ρ (Y + 1) 1).toInt := by
    have := hBd.2.1
    rw [show 130 + 20 * k + 1 = 131 + 20 * k by omega] at this
    exact this
  have i1 : nI (130 + 20 * k) + 1 = nI (131 + 20 * k) := by rw [show nI (130 + 20 * k) + 1 = nI (130 + 20 * k + 1) from nI_add _ 1]; congr 1; omega
  have i4 : nI (130 + 20 * k) + 4 = nI (134 + 20 * k) := by rw [show nI (130 + 20 * k) + 4 = nI (130 + 20 * k + 4) from nI_add _ 4]; congr 1; omega
  have i5 : nI (130 + 20 * k) + 5 = nI (135 + 20 * k) := by rw [show nI (130 + 20 * k) + 5 = nI (130 + 20 * k + 5) from nI_add _ 5]; congr 1; omega
  have i7 : nI (130 + 20 * k) + 7 = nI (137 + 20 * k) := by rw [show nI (130 + 20 * k) + 7 = nI (130 + 20 * k + 7) from nI_add _ 7]; congr 1; omega
  have i8 : nI (130 + 20 * k) + 8 = nI (138 + 20 * k) := by rw [show nI (130 + 20 * k) + 8 = nI (130 + 20 * k + 8) from nI_add _ 8]; congr 1; omega
  generalize hσ1 : (pI (pI (pI (pI σ (w + 13) 0 (SI ρ (Y + 1) (134 + 20 * k))) (w + 13) 1 (SI ρ (Y + 1) (135 + 20 * k))) (w + 13) 2 (SI ρ (Y + 1) (138 + 20 * k))) (w + 13) 3 (SI ρ (Y + 1) (137 + 20 * k))) = σ1
  generalize hρ1 : (pI (pI (pI (pI ρ (Y + 8) 104 (SI ρ (Y + 1) (134 + 20 * k))) (Y + 8) 116 (SI ρ (Y + 1) (135 + 20 * k))) (Y + 8) 115 (SI ρ (Y + 1) (138 + 20 * k))) (Y + 8) 119 (SI ρ (Y + 1) (137 + 20 * k))) = ρ1
  have f1 : FrC w σ σ1 := by rw [← hσ1]; exact FrC_p (FrC_p (FrC_p (FrC_p FrC_0 (by omega)) (by omega)) (by omega)) (by omega)
  have f2 : FrR Y ρ ρ1 := by rw [← hρ1]; exact FrR_8 (FrR_8 (FrR_8 (FrR_8 FrR_0)))
  have eS1 : SI ρ1 (Y + 1) = SI ρ (Y + 1) := by rw [← hρ1, SI_pI, up2_ne (by omega), SI_pI, up2_ne (by omega), SI_pI, up2_ne (by omega), SI_pI, up2_ne (by omega)]
  have ex : ∀ x, x ≠ w + 13 → SI σ1 x = SI σ x := fun x hx => by rw [← hσ1, SI_pI, up2_ne hx, SI_pI, up2_ne hx, SI_pI, up2_ne hx, SI_pI, up2_ne hx]
  have hD1 : DayI X Y w σ1 ρ1 := DayI_n h f1 f2 (fun x hx => ex x (by omega)) eS1
  have hW1 := hD1.2.2.1
  have hY1 := hD1.2.2.2.1
  have hT1 := hD1.2.2.2.2.2.2.2.2.2
  have hnm : nmOK 2 (SI σ1 (w + 13)) (fun v => SI ρ1 (Y + 8) (ix v)) := by
    refine Or.inr (Or.inr (Or.inl ⟨rfl, ?_, ?_, ?_, ?_⟩))
    · show _ = SI ρ1 (Y + 8) 104
      rw [← hσ1, ← hρ1, SI_pI, up2_nj (by decide), SI_pI, up2_nj (by decide), SI_pI, up2_nj (by decide), SI_pI, up2_s, SI_pI, up2_nj (by decide), SI_pI, up2_nj (by decide), SI_pI, up2_nj (by decide), SI_pI, up2_s]
    · show _ = SI ρ1 (Y + 8) 116
      rw [← hσ1, ← hρ1, SI_pI, up2_nj (by decide), SI_pI, up2_nj (by decide), SI_pI, up2_s, SI_pI, up2_nj (by decide), SI_pI, up2_nj (by decide), SI_pI, up2_s]
    · show _ = SI ρ1 (Y + 8) 115
      rw [← hσ1, ← hρ1, SI_pI, up2_nj (by decide), SI_pI, up2_s, SI_pI, up2_nj (by decide), SI_pI, up2_s]
    · show _ = SI ρ1 (Y + 8) 119
      rw [← hσ1, ← hρ1, SI_pI, up2_s, SI_pI, up2_s]
  generalize hmile : SI ρ (Y + 1) (131 + 20 * k) = mile at *
  have eC : f_World_endIfDue w (nI k) true σ = bd_ (f_Laws_answerOf (w + 11) (lnM ρ Y mile) 2 (SI ρ1 (Y + 1) 0) (if 2 < SI ρ (Y + 1) (134 + 20 * k) then 1 else 0) true σ1) (fun (r_5 : Int32) (b_5 : Bool) (σ_5 : Sto) => (lt_ (fun (b : Bool) (σ : Sto) => (bd_ (f_Walker_hasEnded (w + 43 + k) (b && cK σ (w + 43 + k) 10) σ) (fun (r_6 : Int32) (b_6 : Bool) (σ_6 : Sto) => (if r_6 = 0 then ((), b_6, σ_6) else (bd_ (f_Post_giveOnAll (SR σ_6 w 2) (nI k) ((b_6 && cK σ_6 w 11) && cK σ_6 (SR σ_6 w 2) 5) σ_6) (fun (r_7 : Unit) (b_7 : Bool) (σ_7 : Sto) => ((), b_7, σ_7))))))) (fun J98 => (if r_5 = 0 then (if (SI σ_5 (w + 43 + k) 6) < (SI σ_5 (SR σ_5 w 0) 9) then (J98 (((b_5 && cK σ_5 (w + 43 + k) 10) && cK σ_5 w 11) && cK σ_5 (SR σ_5 w 0) 2) σ_5) else (lt_ (pI σ_5 (w + 43 + k) 5 (3 : Int32)) (fun (σ_8 : Sto) => (J98 ((((b_5 && cK σ_5 (w + 43 + k) 10) && cK σ_5 w 11) && cK σ_5 (SR σ_5 w 0) 2) && cK σ_5 (w + 43 + k) 10) σ_8)))) else (lt_ (pI σ_5 (w + 43 + k) 5 (2 : Int32)) (fun (σ_9 : Sto) => (J98 (b_5 && cK σ_5 (w + 43 + k) 10) σ_9))))))) := by
    have el := land_C hD1 mile
    rw [lnM_c eS1] at el
    unfold f_World_endIfDue
    rw [lt_, rW_0_6 hW, ix_nI (show k < 2 ^ 31 by omega), rW_42 hW k10, rW_0_1 hW, e8, e9, e12, e11, cK_of (kW_0 hW), cA_of (kW_42 hW) (nW_42 hW) k10 (by decide), cK_of (kW_w hW k10), cK_of (kW_11 hW)]
    simp only [Bool.and_true]
    rw [e_nameFour hW, hσ1, bd_, lt_, ex (w + 43 + k) (by omega), e8, cK_of (kW_w hW1 k10)]
    have e6' : SI σ1 (w + 43 + k) 6 = mile := by rw [ex (w + 43 + k) (by omega), e6]
    have e0' : SI σ1 w 8 = SI ρ1 (Y + 1) 0 := hD1.2.2.2.2.2.1
    by_cases c : 2 < SI ρ (Y + 1) (134 + 20 * k)
    · rw [if_pos c, if_pos c]
      simp only [lt_, rW_0_0 hW1, rW_0_1 hW1, e6', cK_of (kW_0 hW1), cK_of (kW_w hW1 k10), cK_of (kW_1 hW1), Bool.and_true]
      rw [el, bd_, e0', cK_of (kW_0 hW1), cK_of (kW_11 hW1)]
      rfl
    · rw [if_neg c, if_neg c]
      simp only [lt_, rW_0_0 hW1, rW_0_1 hW1, e6', cK_of (kW_0 hW1), cK_of (kW_w hW1 k10), cK_of (kW_1 hW1), Bool.and_true]
      rw [el, bd_, e0', cK_of (kW_0 hW1), cK_of (kW_11 hW1)]
      rfl
  have eQ : f_Model_quits Y (nI k) true ρ = if cntT (SI ρ (Y + 1)) (lnM ρ Y mile) 2 nt < 0 then (if 2 < SI ρ (Y + 1) (134 + 20 * k) then (1, true, ρ1) else (0, true, ρ1)) else bd_ (f_Model_worked Y (cntT (SI ρ (Y + 1)) (lnM ρ Y mile) 2 nt) true ρ1) (fun r_6 b_6 σ_6 => if r_6 = 0 then (0, b_6, σ_6) else (1, b_6, σ_6)) := by
    obtain ⟨ec, -⟩ := e_countsM hY hnt t3 (lnM ρ Y mile) 2
    have ny : Y + 1 ≠ Y + 8 := by omega
    have eR1 : SI ρ1 (Y + 1) (134 + 20 * k) = SI ρ (Y + 1) (134 + 20 * k) := by rw [eS1]
    unfold f_Model_quits
    simp only [bd_, lt_, e_walkerAt, i1, i4, i5, i7, i8, rY_0 hY, cK_of (kY_0 hY), ix_nI (show 131 + 20 * k < 2 ^ 31 by omega), cY hY (show 131 + 20 * k < 3210 by omega), ix_nI (show 134 + 20 * k < 2 ^ 31 by omega), cY hY (show 134 + 20 * k < 3210 by omega), ix_nI (show 135 + 20 * k < 2 ^ 31 by omega), cY hY (show 135 + 20 * k < 3210 by omega), ix_nI (show 137 + 20 * k < 2 ^ 31 by omega), cY hY (show 137 + 20 * k < 3210 by omega), ix_nI (show 138 + 20 * k < 2 ^ 31 by omega), cY hY (show 138 + 20 * k < 3210 by omega), Bool.and_true, hmile, land_M h, ec, SR_pI, cK_pI, cA_pI, rY_19 hY, SI_pI, up2_ne' ny, show ix (104 : Int32) = 104 from rfl, show ix (116 : Int32) = 116 from rfl, show ix (115 : Int32) = 115 from rfl, show ix (119 : Int32) = 119 from rfl, show cA ρ (Y + 8) 21 104 = true from cA_of (i := 104) (kY_8 hY) (nY_8 hY) (by decide) (by decide), show cA ρ (Y + 8) 21 116 = true from cA_of (i := 116) (kY_8 hY) (nY_8 hY) (by decide) (by decide), show cA ρ (Y + 8) 21 115 = true from cA_of (i := 115) (kY_8 hY) (nY_8 hY) (by decide) (by decide), show cA ρ (Y + 8) 21 119 = true from cA_of (i := 119) (kY_8 hY) (nY_8 hY) (by decide) (by decide), hρ1, eR1, cK_of (kY_0 hY1), rY_0 hY1, rY_19 hY1, cY hY1 (show 134 + 20 * k < 3210 by omega), Bool.and_self]
  have fin : ∀ (τ υ : Sto) (c q : Int32), FrC w σ τ → FrR Y ρ υ → DayI X Y w τ υ → SI υ (Y + 1) = SI ρ (Y + 1) → (c = 0 ↔ q = 0) → f_Laws_answerOf (w + 11) (lnM ρ Y mile) 2 (SI ρ1 (Y + 1) 0) (if 2 < SI ρ (Y + 1) (134 + 20 * k) then 1 else 0) true σ1 = (c, true, τ) → f_Model_quits Y (nI k) true ρ = (q, true, υ) → ∃ τ' υ', FrC w σ τ' ∧ FrR Y ρ υ' ∧ DayI X Y w τ' υ' ∧ SI υ' (Y + 1) 5 = nI nw ∧ f_World_endIfDue w (nI k) true σ = ((), true, τ') ∧ bd_ (f_Model_quits Y (nI k) true ρ) (fun r b s => walkEnd Y (nI k) (nI (130 + 20 * k)) r b s) = ((), true, υ') := by
    intro τ υ c q fC fR hD eS hcq hA hQ
    have hWt := hD.2.2.1
    have hYt := hD.2.2.2.1
    have w3t : SI υ (Y + 1) 5 = nI nw := by rw [eS]; exact w3
    have hst : SI υ (Y + 1) (130 + 20 * k) = 1 := by rw [eS]; exact hs
    obtain ⟨hEt, hBdt, -⟩ := DayI_k hD hn hk w3t
    have e6t : SI τ (w + 43 + k) 6 = mile := by rw [rE_at hEt (by decide) (j := 1) (q := 131 + 20 * k) rfl (by omega), eS]; exact hmile
    have e9t : SI τ (w + 1) 9 = SI ρ (Y + 1) 1 := by
      obtain ⟨np2, nf2, q1, q2, q3, q4, q5, q6, q7, q8, -⟩ := hD.2.2.2.2.2.2.1
      rw [q7, eS]
    rw [eC, hA, hQ, bd_, bd_]
    by_cases c0 : c = 0
    · have q0 := hcq.mp c0
      by_cases cm : mile < SI ρ (Y + 1) 1
      · refine ⟨τ, υ, fC, fR, hD, w3t, ?_, ?_⟩
        · rw [lt_, if_pos c0, rW_0_0 hWt, e6t, e9t, if_pos cm, cK_of (kW_w hWt k10), cK_of (kW_0 hWt), cK_of (kW_1 hWt)]
          simp only [Bool.and_true, cK_of (kW_w hWt k10), Bool.and_self]
          rw [e_hasEnded (kW_w hWt k10) (show 1 ≤ 3 by decide) (by rw [rE_at hEt (by decide) (j := 0) (q := 130 + 20 * k) rfl (by omega), hst]; rfl), bd_, bI_f (by decide), if_pos rfl]
        · unfold walkEnd
          rw [lt_, lt_, if_pos q0, i1, rY_0 hYt, ix_nI (show 131 + 20 * k < 2 ^ 31 by omega), show ix (1 : Int32) = 1 from rfl, eS, hmile, if_neg (fun z => absurd cm (by rw [z]; exact Int32.lt_irrefl)), cK_of (kY_0 hYt), cY hYt (show 131 + 20 * k < 3210 by omega), cYk hYt 1 (v := 1) rfl (by decide)]
          rfl
      · have em : mile = SI ρ (Y + 1) 1 := Int32.le_antisymm (Int32.le_iff_toInt_le.mpr bm.2) (Int32.not_lt.mp cm)
        obtain ⟨τ', υ', s1, s2, s3, s4, s5, s6⟩ := ends_both hD hn hk w3t (t := 3) (Or.inr rfl)
        refine ⟨τ', υ', FrC_t fC s1, FrR_t fR s2, s3, s4, ?_, ?_⟩
        · rw [← s5, lt_, if_pos c0, rW_0_0 hWt, e6t, e9t, if_neg cm, lt_, cK_of (kW_w hWt k10), cK_of (kW_0 hWt), cK_of (kW_1 hWt)]
          dsimp only
          rw [cK_pI, cK_of (kW_w hWt k10)]
          rfl
        · unfold walkEnd
          rw [lt_, lt_, if_pos q0, i1, rY_0 hYt, ix_nI (show 131 + 20 * k < 2 ^ 31 by omega), show ix (1 : Int32) = 1 from rfl, eS, hmile, if_pos em]
          dsimp only
          rw [lt_, if_pos q0]
          dsimp only
          rw [lt_, rY_0 hYt, ix_nI (show 130 + 20 * k < 2 ^ 31 by omega), cK_of (kY_0 hYt), cY hYt (show 131 + 20 * k < 3210 by omega), cYk hYt 1 (v := 1) rfl (by decide), cY hYt (show 130 + 20 * k < 3210 by omega), cK_pI, cK_of (kY_0 hYt)]
          simp only [Bool.and_true]
          rw [show (3 : Int32) = nI 3 from rfl, s6]
          rfl
    · have q0 : ¬ q = 0 := fun z => c0 (hcq.mpr z)
      obtain ⟨τ', υ', s1, s2, s3, s4, s5, s6⟩ := ends_both hD hn hk w3t (t := 2) (Or.inl rfl)
      refine ⟨τ', υ', FrC_t fC s1, FrR_t fR s2, s3, s4, ?_, ?_⟩
      · rw [← s5, lt_, if_neg c0, lt_, cK_of (kW_w hWt k10)]
        dsimp only
        rw [cK_pI, cK_of (kW_w hWt k10)]
        rfl
      · unfold walkEnd
        rw [lt_, lt_, if_neg q0]
        dsimp only
        rw [lt_, if_neg q0]
        dsimp only
        rw [lt_, rY_0 hYt, ix_nI (show 130 + 20 * k < 2 ^ 31 by omega), cK_of (kY_0 hYt), cY hYt (show 130 + 20 * k < 3210 by omega), cK_pI, cK_of (kY_0 hYt)]
        simp only [Bool.and_true]
        rw [show (2 : Int32) = nI 2 from rfl, s6]
        rfl
  rcases e_answer h1 hW1 h2 hY1 hT1 hnt (by rw [eS1]; exact t3) (lnM ρ Y mile) 2 (if 2 < SI ρ (Y + 1) (134 + 20 * k) then 1 else 0) hnm with ⟨c1, c2⟩ | ⟨j, hj, c1, ⟨τ, c2, c3⟩, υ, c4, c5⟩
  · rw [eS1] at c1
    refine fin σ1 ρ1 _ (if 2 < SI ρ (Y + 1) (134 + 20 * k) then 1 else 0) f1 f2 hD1 eS1 Iff.rfl c2 ?_
    rw [eQ, c1, if_pos (by decide)]
    by_cases c : 2 < SI ρ (Y + 1) (134 + 20 * k)
    · rw [if_pos c, if_pos c]
    · rw [if_neg c, if_neg c]
  · rw [eS1] at c1
    refine fin τ υ _ (if ev (SI ρ1 (Y + 1)) (fun v => SI ρ1 (Y + 8) (ix v)) j = 0 then 0 else 1) (FrC_t f1 (FrC_w c3)) (FrR_t f2 (FrR_m c5)) (DayI_ev hD1 c3 c5) (by rw [c5.2.2.2.2.2.2 (Y + 1) (by omega), eS1]) ?_ c2 ?_
    · by_cases c : ev (SI ρ1 (Y + 1)) (fun v => SI ρ1 (Y + 8) (ix v)) j = 0
      · rw [if_pos c]; exact ⟨fun _ => rfl, fun _ => c⟩
      · rw [if_neg c]; exact ⟨fun z => absurd z c, fun z => absurd z (by decide)⟩
    · rw [eQ, c1, if_neg (nI_pos (by omega)), c4, bd_]
      by_cases c : ev (SI ρ1 (Y + 1)) (fun v => SI ρ1 (Y + 8) (ix v)) j = 0
      · rw [if_pos c, if_pos c]
      · rw [if_neg c, if_neg c]
end QT
