/-! a day: walking on, and what a walk does -/
section GO
variable {X Y w : Nat} {σ ρ : Sto}
theorem e_goes (hY : LayY Y ρ) {np k : Nat} (hk : k < 10) (hp : np ≤ 16) (p4 : SI ρ (Y + 1) 2 = nI np) (to : Int32) : f_Model_goes Y (nI k) to true ρ = ((), true, pI (pI (pI ρ (Y + 1) (131 + 20 * k) to) (Y + 1) (138 + 20 * k) (SI ρ (Y + 1) (138 + 20 * k) + (to - SI ρ (Y + 1) (131 + 20 * k)))) (Y + 1) (136 + 20 * k) (if foldI (lwF (fun i => SI ρ (Y + 1) (30 + 4 * i)) (fun i => SI ρ (Y + 1) (31 + 4 * i)) (SI ρ (Y + 1) (131 + 20 * k)) to) 0 np (-1) < 0 then SI ρ (Y + 1) (136 + 20 * k) + to - SI ρ (Y + 1) (131 + 20 * k) else to - foldI (lwF (fun i => SI ρ (Y + 1) (30 + 4 * i)) (fun i => SI ρ (Y + 1) (31 + 4 * i)) (SI ρ (Y + 1) (131 + 20 * k)) to) 0 np (-1))) := by
  have i1 : nI (130 + 20 * k) + 1 = nI (131 + 20 * k) := by rw [show nI (130 + 20 * k) + 1 = nI (130 + 20 * k + 1) from nI_add _ 1]; congr 1; omega
  have i6 : nI (130 + 20 * k) + 6 = nI (136 + 20 * k) := by rw [show nI (130 + 20 * k) + 6 = nI (130 + 20 * k + 6) from nI_add _ 6]; congr 1; omega
  have i8 : nI (130 + 20 * k) + 8 = nI (138 + 20 * k) := by rw [show nI (130 + 20 * k) + 8 = nI (130 + 20 * k + 8) from nI_add _ 8]; congr 1; omega
  have n8_1 : 138 + 20 * k ≠ 131 + 20 * k := by omega
  have n6_1 : 136 + 20 * k ≠ 131 + 20 * k := by omega
  have n6_8 : 136 + 20 * k ≠ 138 + 20 * k := by omega
  unfold f_Model_goes
  simp only [bd_, lt_, e_walkerAt, i1, rY_0 hY, cK_of (kY_0 hY), ix_nI (show 131 + 20 * k < 2 ^ 31 by omega), cY hY (show 131 + 20 * k < 3210 by omega), Bool.and_true]
  refine (lp_acc (σ := ρ) np (lwF (fun i => SI ρ (Y + 1) (30 + 4 * i)) (fun i => SI ρ (Y + 1) (31 + 4 * i)) (SI ρ (Y + 1) (131 + 20 * k)) to) (fun x => ((), true, pI (pI (pI ρ (Y + 1) (131 + 20 * k) to) (Y + 1) (138 + 20 * k) (SI ρ (Y + 1) (138 + 20 * k) + (to - SI ρ (Y + 1) (131 + 20 * k)))) (Y + 1) (136 + 20 * k) (if x < 0 then SI ρ (Y + 1) (136 + 20 * k) + to - SI ρ (Y + 1) (131 + 20 * k) else to - x))) (by omega) (fun L i x hi => ?_) (fun L x => ?_) 0 (-1) (Nat.zero_le _)).trans ?_
  · unfold b_Model_goes_22 lwF
    simp only [bd_, lt_, rY_0 hY, show ix (2 : Int32) = 2 from rfl, p4, cK_of (kY_0 hY), cYk hY 2 (v := 2) rfl (by decide), Bool.and_true, if_pos (show nI i < nI np from nI_lt hi (by omega)), e_mileOf hY (show i < 700 by omega), e_kindOf hY (show i < 700 by omega), e_isWater]
    rcases isWat_01 (SI ρ (Y + 1) (30 + 4 * i)) with e | e
    · rw [if_pos e, if_neg (fun z => absurd (e.symm.trans z.1.2.2) (by decide))]
    · rw [if_neg (by rw [e]; decide)]
      by_cases a : SI ρ (Y + 1) (131 + 20 * k) < SI ρ (Y + 1) (31 + 4 * i)
      · rw [if_pos a]
        by_cases b : to < SI ρ (Y + 1) (31 + 4 * i)
        · rw [if_pos b, if_neg (fun z => z.1.2.1 b)]
        · rw [if_neg b]
          by_cases c : x < SI ρ (Y + 1) (31 + 4 * i)
          · rw [if_pos c, if_pos ⟨⟨a, b, e⟩, c⟩]
          · rw [if_neg c, if_neg (fun z => c z.2)]
      · rw [if_neg a, if_neg (fun z => a z.1.1)]
  · unfold b_Model_goes_22
    rw [rY_0 hY, show ix (2 : Int32) = 2 from rfl, p4, if_neg (nI_nlt (Nat.le_refl np) (by omega))]
    simp only [lt_, SR_pI, rY_0 hY, cK_pI, cA_pI, cK_of (kY_0 hY), i1, i6, i8, ix_nI (show 131 + 20 * k < 2 ^ 31 by omega), cY hY (show 131 + 20 * k < 3210 by omega), ix_nI (show 136 + 20 * k < 2 ^ 31 by omega), cY hY (show 136 + 20 * k < 3210 by omega), ix_nI (show 138 + 20 * k < 2 ^ 31 by omega), cY hY (show 138 + 20 * k < 3210 by omega), cYk hY 2 (v := 2) rfl (by decide), Bool.and_true, SI_pI, up2_nj n8_1, up2_nj n6_1, up2_nj n6_8]
    by_cases c : x < 0
    · simp only [if_pos c]
    · simp only [if_neg c]
  · rw [Nat.sub_zero]
theorem i32_as (a b c : Int32) : a + b - c = a + (b - c) := by rw [Int32.sub_eq_add_neg, Int32.sub_eq_add_neg, Int32.add_assoc]
theorem go_both (h : DayI X Y w σ ρ) {nw k : Nat} (hn : nw ≤ 10) (hk : k < nw) (w3 : SI ρ (Y + 1) 5 = nI nw) (hs : SI ρ (Y + 1) (130 + 20 * k) = 1) : ∃ τ υ, FrC w σ τ ∧ FrR Y ρ υ ∧ DayI X Y w τ υ ∧ SI υ (Y + 1) (130 + 20 * k) = 1 ∧ SI υ (Y + 1) 5 = nI nw ∧ f_World_walkOn w (nI k) true σ = ((), true, τ) ∧ ∀ J134 : Bool → Sto → Rs Unit, walk83 Y (nI k) (nI (130 + 20 * k)) (SI ρ (Y + 1) (131 + 20 * k)) J134 true ρ = J134 true υ := by
  obtain ⟨h1, h2, hW, hY, h5, h6, hG, hB, hWW, hT⟩ := id h
  obtain ⟨np, nf, nb, nw', nt, hp, hf, hnb, -, hnt, p3, p4, p5, p6, b2, b3, -, -, t2, t3⟩ := DayI_nb h
  obtain ⟨hE, hBd, w2⟩ := DayI_k h hn hk w3
  have k10 : k < 10 := by omega
  obtain ⟨np2, nf2, q1, q2, q3, q4, q5, q6, p7, p8, q9, q10, q11, q12⟩ := id hG
  have en : np2 = np := (nI_eq (by omega) (by omega)).mp (q4.symm.trans p4)
  subst en
  have hbk : ∀ i, i < np2 → bd (SI σ (w + 2) i) 0 5 := fun i hi => by rw [(q9 i hi).1]; exact (q9 i hi).2.2.2.2.1
  have hpl := bx_pl (σ := σ) (w := w) hp p4 hB hnb b3
  have hplC : ∀ i, i < nb → ∃ j, j < 16 ∧ SI σ (w + 17) i = nI j := fun i hi => by
    obtain ⟨j, hj, ej⟩ := hpl i hi
    obtain ⟨nb2, r1, r2, r3, r4⟩ := id hB
    have eb2 : nb2 = nb := (nI_eq (by omega) (by omega)).mp (r3.symm.trans b3)
    subst eb2
    exact ⟨j, hj, by rw [(r4 i hi).2.1, ej]⟩
  have e6 : SI σ (w + 43 + k) 6 = SI ρ (Y + 1) (131 + 20 * k) := rE_at hE (by decide) (j := 1) rfl (by omega)
  have e7 : SI σ (w + 43 + k) 7 = SI ρ (Y + 1) (133 + 20 * k) := rE_at hE (by decide) (j := 3) rfl (by omega)
  have e1' : SI σ (w + 43 + k) 1 = SI ρ (Y + 1) (132 + 20 * k) := rE_at hE (by decide) (j := 2) rfl (by omega)
  have e12 : SI σ (w + 43 + k) 12 = SI ρ (Y + 1) (138 + 20 * k) := rE_at hE (by decide) (j := 8) rfl (by omega)
  have e10 : SI σ (w + 43 + k) 10 = SI ρ (Y + 1) (136 + 20 * k) := rE_at hE (by decide) (j := 6) rfl (by omega)
  have i1 : nI (130 + 20 * k) + 1 = nI (131 + 20 * k) := by rw [show nI (130 + 20 * k) + 1 = nI (130 + 20 * k + 1) from nI_add _ 1]; congr 1; omega
  have i2 : nI (130 + 20 * k) + 2 = nI (132 + 20 * k) := by rw [show nI (130 + 20 * k) + 2 = nI (130 + 20 * k + 2) from nI_add _ 2]; congr 1; omega
  have i3 : nI (130 + 20 * k) + 3 = nI (133 + 20 * k) := by rw [show nI (130 + 20 * k) + 3 = nI (130 + 20 * k + 3) from nI_add _ 3]; congr 1; omega
  have bm : bd (SI ρ (Y + 1) (131 + 20 * k)) 0 (SI ρ (Y + 1) 1).toInt := by
    have := hBd.2.1
    rw [show 130 + 20 * k + 1 = 131 + 20 * k by omega] at this
    exact this
  have bf : bd (SI ρ (Y + 1) (133 + 20 * k)) 0 20 := by
    have := hBd.2.2.2.1
    rw [show 130 + 20 * k + 3 = 133 + 20 * k by omega] at this
    exact this
  have bp : bd (SI ρ (Y + 1) (132 + 20 * k)) 1 40 := by
    have := hBd.2.2.1
    rw [show 130 + 20 * k + 2 = 132 + 20 * k by omega] at this
    exact this
  obtain ⟨m0, hm0, em0⟩ := bd_nat (n := 2000) (show bd (SI ρ (Y + 1) (131 + 20 * k)) 0 2000 from ⟨bm.1, Int.le_trans bm.2 p8.2⟩)
  obtain ⟨fo, hfo, efo⟩ := bd_nat (n := 20) bf
  obtain ⟨pa, hpa, epa⟩ := bd_nat (n := 40) (show bd (SI ρ (Y + 1) (132 + 20 * k)) 0 40 from ⟨Int.le_trans (by decide) bp.1, bp.2⟩)
  obtain ⟨st, hst, est⟩ : ∃ st : Nat, st ≤ 40 ∧ nI st = (if fo = 0 then nI pa / 2 else nI pa) := by
    by_cases z : fo = 0
    · exact ⟨pa / 2, by omega, by rw [if_pos z]; exact (nI_div (d := 2) (by omega) (by decide)).symm⟩
    · exact ⟨pa, hpa, by rw [if_neg z]⟩
  have hle : nI m0 ≤ nI m0 + nI st := by rw [nI_add]; exact nI_le (by omega) (by omega)
  obtain ⟨s1, s2, s3⟩ := end_same (k := k) hG hB hp hf hnb p4 p6 b3 (SI σ w 8) h6 (by rw [← em0]; exact bm) hm0 (nI m0 + nI st) hle
  generalize hto : mnI (foldI (mnF (fiM (SI ρ (Y + 1)) (nI m0)) (fun i => SI ρ (Y + 1) (100 + 4 * i))) 0 nf (foldI (mnF (plM (SI ρ (Y + 1)) (nI k) (nI m0) nb) (fun i => SI ρ (Y + 1) (31 + 4 * i))) 0 np2 (SI ρ (Y + 1) 1))) (nI m0 + nI st) = to at s1 s2 s3
  have bto : bd to 0 (SI ρ (Y + 1) 1).toInt := ⟨by have := Int32.le_iff_toInt_le.mp s2; rw [nI_toInt (by omega)] at this; omega, Int32.le_iff_toInt_le.mp s3⟩
  have elw : foldI (lwF (SI σ (w + 2)) (SI σ (w + 3)) (nI m0) to) 0 np2 (-1) = foldI (lwF (fun i => SI ρ (Y + 1) (30 + 4 * i)) (fun i => SI ρ (Y + 1) (31 + 4 * i)) (nI m0) to) 0 np2 (-1) := foldI_congr (fun i x _ hi => by
    unfold lwF
    rw [(q9 i (by omega)).1, (q9 i (by omega)).2.1])
  generalize hlw : foldI (lwF (fun i => SI ρ (Y + 1) (30 + 4 * i)) (fun i => SI ρ (Y + 1) (31 + 4 * i)) (nI m0) to) 0 np2 (-1) = lw at elw
  have eC : f_World_walkOn w (nI k) true σ = ((), true, pI (pI (pI σ (w + 43 + k) 12 (SI ρ (Y + 1) (138 + 20 * k) + (to - nI m0))) (w + 43 + k) 10 (if lw < 0 then SI ρ (Y + 1) (136 + 20 * k) + (to - nI m0) else to - lw)) (w + 43 + k) 6 to) := by
    have n1012 : (10 : Nat) ≠ 12 := by decide
    have ew : ∀ b, f_Walker_walkTo (w + 43 + k) to lw b σ = ((), b, pI (pI (pI σ (w + 43 + k) 12 (SI ρ (Y + 1) (138 + 20 * k) + (to - nI m0))) (w + 43 + k) 10 (if lw < 0 then SI ρ (Y + 1) (136 + 20 * k) + (to - nI m0) else to - lw)) (w + 43 + k) 6 to) := fun b => by
      unfold f_Walker_walkTo
      simp only [lt_, cK_pI, cK_of (kW_w hW k10), Bool.and_true, e6, em0, e12, SI_pI, up2_nj n1012, e10]
      by_cases c : lw < 0
      · simp only [if_pos c]
      · simp only [if_neg c]
    have eend : ∀ z, z = nI st → mnI (mnI (mnI (mnI (nI m0 + z) (SI σ (w + 1) 9)) (foldI (mnF (snC σ w (nI m0) (SI σ w 8)) (SI σ (w + 3))) 0 np2 (SI σ (w + 1) 9))) (foldI (mnF (fiC σ w (nI m0) (SI σ w 8)) (SI σ (w + 7))) 0 nf (SI σ (w + 1) 9))) (foldI (mnF (twC σ w (nI k) (nI m0)) (fun i => SI σ (w + 3) (ix (SI σ (w + 17) i)))) 0 nb (SI σ (w + 1) 9)) = to := fun z hz => by rw [hz]; exact s1
    unfold f_World_walkOn
    simp only [bd_, lt_, rW_0_6 hW, ix_nI (show k < 2 ^ 31 by omega), rW_42 hW k10, rW_0_0 hW, rW_0_2 hW, e6, em0, e7, efo, e1', epa, cK_of (kW_0 hW), cK_of (kW_w hW k10), cK_of (kW_1 hW), cK_of (kW_15 hW), cA_of (kW_42 hW) (nW_42 hW) k10 (by decide), show (!decide ((2 : Int32) = 0)) = true from rfl, Bool.and_true, e_snow hW h5 hp p3 hbk, e_fires hW hf p5, e_townBeyond hW hnb b2 hplC]
    by_cases z : fo = 0
    · rw [if_neg (show ¬ (0 : Int32) < nI fo by rw [z]; decide), eend _ (by rw [est, if_pos z])]
      simp only [e_lastWater hW h5 hp p3 hbk, elw, ew, cK_of (kW_w hW k10), Bool.and_self]
    · rw [if_pos (show (0 : Int32) < nI fo from nI_lt (a := 0) (by omega) (by omega)), eend _ (by rw [est, if_neg z])]
      simp only [e_lastWater hW h5 hp p3 hbk, elw, ew, cK_of (kW_w hW k10), Bool.and_self]
  have eM : ∀ J134 : Bool → Sto → Rs Unit, walk83 Y (nI k) (nI (130 + 20 * k)) (SI ρ (Y + 1) (131 + 20 * k)) J134 true ρ = J134 true (pI (pI (pI ρ (Y + 1) (138 + 20 * k) (SI ρ (Y + 1) (138 + 20 * k) + (to - nI m0))) (Y + 1) (136 + 20 * k) (if lw < 0 then SI ρ (Y + 1) (136 + 20 * k) + (to - nI m0) else to - lw)) (Y + 1) (131 + 20 * k) to) := fun J134 => by
    have eb := e_bound hY k10 hp hf hnb p4 p6 b3 hpl
    rw [em0] at eb
    have eg := e_goes hY k10 hp p4 to
    rw [em0, hlw, i32_as] at eg
    have et : ∀ z, z = nI st → mnI (foldI (mnF (fiM (SI ρ (Y + 1)) (nI m0)) (fun i => SI ρ (Y + 1) (100 + 4 * i))) 0 nf (foldI (mnF (plM (SI ρ (Y + 1)) (nI k) (nI m0) nb) (fun i => SI ρ (Y + 1) (31 + 4 * i))) 0 np2 (SI ρ (Y + 1) 1))) (nI m0 + z) = to := fun z hz => by rw [hz]; exact hto
    unfold walk83
    rw [em0, cK_of (kY_0 hY)]
    simp only [Bool.and_true]
    rw [eb, bd_, lt_, i3, i2, rY_0 hY, ix_nI (show 133 + 20 * k < 2 ^ 31 by omega), ix_nI (show 132 + 20 * k < 2 ^ 31 by omega), efo, epa, cK_of (kY_0 hY), cY hY (show 133 + 20 * k < 3210 by omega), cY hY (show 132 + 20 * k < 3210 by omega)]
    simp only [Bool.and_true, show (!decide ((2 : Int32) = 0)) = true from rfl]
    rw [pI_comm (show ¬ (Y + 1 = Y + 1 ∧ 131 + 20 * k = 138 + 20 * k) by omega), pI_comm (σ := pI ρ (Y + 1) (138 + 20 * k) (SI ρ (Y + 1) (138 + 20 * k) + (to - nI m0))) (show ¬ (Y + 1 = Y + 1 ∧ 131 + 20 * k = 136 + 20 * k) by omega)] at eg
    by_cases z : fo = 0
    · rw [if_pos (show nI fo = 0 by rw [z]; rfl), e_least, least_mn, et _ (by rw [est, if_pos z]), bd_, lt_, cK_of (kY_0 hY), Bool.and_true, eg]
      rfl
    · rw [if_neg (show ¬ nI fo = 0 from nI_ne0 (by omega) (by omega)), e_least, least_mn, et _ (by rw [est, if_neg z]), bd_, lt_, cK_of (kY_0 hY), Bool.and_true, eg]
      rfl
  have g1 := DayI_w (i := 12) (v := SI ρ (Y + 1) (138 + 20 * k) + (to - nI m0)) h hn hk w3 (by decide) (wBd_f hBd (by omega) (show (8 : Nat) = 4 ∨ 8 = 5 ∨ 8 = 6 ∨ 8 = 7 ∨ 8 = 8 ∨ 8 = 10 ∨ 8 = 11 ∨ 8 = 12 ∨ 8 = 13 by omega))
  rw [show 130 + 20 * k + co 12 = 138 + 20 * k from by show 130 + 20 * k + 8 = _; omega] at g1
  have w31 : SI (pI ρ (Y + 1) (138 + 20 * k) (SI ρ (Y + 1) (138 + 20 * k) + (to - nI m0))) (Y + 1) 5 = nI nw := by rw [SI_pI, up2_nj (by omega)]; exact w3
  have g2 := DayI_w (i := 10) (v := if lw < 0 then SI ρ (Y + 1) (136 + 20 * k) + (to - nI m0) else to - lw) g1 hn hk w31 (by decide) (wBd_f (DayI_k g1 hn hk w31).2.1 (by omega) (show (6 : Nat) = 4 ∨ 6 = 5 ∨ 6 = 6 ∨ 6 = 7 ∨ 6 = 8 ∨ 6 = 10 ∨ 6 = 11 ∨ 6 = 12 ∨ 6 = 13 by omega))
  rw [show 130 + 20 * k + co 10 = 136 + 20 * k from by show 130 + 20 * k + 6 = _; omega] at g2
  generalize hv6 : (if lw < 0 then SI ρ (Y + 1) (136 + 20 * k) + (to - nI m0) else to - lw) = v6 at *
  generalize hv8 : SI ρ (Y + 1) (138 + 20 * k) + (to - nI m0) = v8 at *
  have w32 : SI (pI (pI ρ (Y + 1) (138 + 20 * k) v8) (Y + 1) (136 + 20 * k) v6) (Y + 1) 5 = nI nw := by rw [SI_pI, up2_nj (by omega), SI_pI, up2_nj (by omega)]; exact w3
  have g3 := DayI_w (i := 6) (v := to) g2 hn hk w32 (by decide) (wBd_1 (DayI_k g2 hn hk w32).2.1 (by omega) (by rw [SI_pI, up2_nj (by omega), SI_pI, up2_nj (by omega)]; exact bto) (by rw [SI_pI, up2_nj (by omega), SI_pI, up2_nj (by omega), hs]; decide))
  rw [show 130 + 20 * k + co 6 = 131 + 20 * k from by show 130 + 20 * k + 1 = _; omega] at g3
  refine ⟨_, _, FrC_p (FrC_p (FrC_p FrC_0 (show w + 43 + k = w + 13 ∨ w + 43 + k = w + 14 ∨ w + 43 + k = w + 20 ∨ (w + 43 ≤ w + 43 + k ∧ w + 43 + k ≤ w + 52) by omega)) (by omega)) (by omega), FrR_p (FrR_p (FrR_p FrR_0 (by unfold dy; omega)) (by unfold dy; omega)) (by unfold dy; omega), g3, ?_, ?_, eC, eM⟩
  · rw [SI_pI, up2_nj (by omega), SI_pI, up2_nj (by omega), SI_pI, up2_nj (by omega)]; exact hs
  · rw [SI_pI, up2_nj (by omega), SI_pI, up2_nj (by omega), SI_pI, up2_nj (by omega)]; exact w3
end GO
