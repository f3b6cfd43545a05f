/-! crowd -/
section CW
variable {X Y : Nat} {σ ρ : Sto}
/-- nothing but the trial world and the rows of a day has changed -/
theorem REL_trial {τ υ : Sto} (h : REL X Y σ ρ) (h0 : Shn τ = Shn σ) (h1 : Stk τ = Stk σ) (h2 : Sln τ = Sln σ) (h3 : ∀ x, x ≠ X + 107 + 12 → SR τ x = SR σ x) (h4 : SL τ = SL σ) (h5 : Scs τ = Scs σ) (h6 : ∀ x, x < X + 107 ∨ X + 159 < x → SI τ x = SI σ x) (k1 : Stk υ = Stk ρ) (k2 : Sln υ = Sln ρ) (k3 : SR υ = SR ρ) (k4 : SL υ = SL ρ) (ky : ∀ j, j ≠ 21 ∧ j ≠ 99 → SI υ Y j = SI ρ Y j) (ks : ∀ j, j < 3010 → SI υ (Y + 1) j = SI ρ (Y + 1) j) (kx : ∀ x, x ≠ Y → x ≠ Y + 1 → x ≠ Y + 3 → x ≠ Y + 8 → x ≠ Y + 9 → x ≠ Y + 21 → SI υ x = SI ρ x) : REL X Y τ υ := by
  obtain ⟨g1, g2, g3, g4, g5, g6, g7, g8, g9, g10⟩ := h
  refine ⟨g1, by rw [h0]; exact g2, LayX_c2 g3 h1 h2 (fun x _ _ q => h3 x q), LayY_c g4 k1 k2 k3, by rw [h5]; exact g5, RWd_c2 g6 h0 h1 h2 (fun x hx => h3 x (by omega)) (fun a ha => h6 a (by omega)) ks, ?_, rTape_c g8 (h6 _ (by omega)) (h6 _ (by omega)) (ky 8 (by decide)) (kx _ (by omega) (by omega) (by omega) (by omega) (by omega) (by omega)), rSh_c g9 (fun b _ _ => ⟨h6 b (by omega), by rw [h4]⟩) (kx _ (by omega) (by omega) (by omega) (by omega) (by omega) (by omega)) (kx _ (by omega) (by omega) (by omega) (by omega) (by omega) (by omega)) (by rw [k4]), rTell_c g10 (by rw [h6 X (by omega)]) (h6 _ (by omega)) (ky 33 (by decide)) (kx _ (by omega) (by omega) (by omega) (by omega) (by omega) (by omega))⟩
  rw [h6 X (by omega), ky 3 (by decide), kx (Y + 2) (by omega) (by omega) (by omega) (by omega) (by omega) (by omega)]
  rcases g7 with q | ⟨z1, z2, z3⟩
  · exact Or.inl q
  · exact Or.inr ⟨z1, z2, RWd_c2 z3 h0 h1 h2 (fun x hx => h3 x (by omega)) (fun a ha => h6 a (by omega)) (fun _ _ => rfl)⟩
theorem mxI_le {a c : Int32} (h : ¬ a < 0) : ¬ mxI a c < 0 := by
  unfold mxI
  by_cases q : a < c
  · rw [if_pos q]
    exact fun z => h (Int32.lt_trans q z)
  · rw [if_neg q]
    exact h
theorem op_24 : Op_24 X Y (REL X Y) := by
  intro v σ ρ h
  have hX := h.2.2.1
  have hY : LayY Y (stn ρ (Shn σ)) := h.2.2.2.1
  have hW := hX.2.1
  rcases days_cases h v with ⟨n, m, n1, n2, rfl, em, hmn, er, hv, c⟩ | ⟨hv, c, er⟩ | ⟨hv, er⟩
  · have gN := REL_now2 h
    obtain ⟨nw, w1, w2, w3, w4⟩ := gN.2.2.2.2.2.2.1
    obtain ⟨nt, t1, t2, t3, t4, t5⟩ := gN.2.2.2.2.2.2.2
    obtain ⟨σ1, eb, mv⟩ := mv_World (d := X + 107) (s := X + 1) (σ := σ) (by omega) hX.2.2.2 hW (fun k hk => (t4 k hk).imp id (fun z => z.2.2)) w1 w2
    have hcp := RWd_copy gN (by omega) (by omega) w1 w2 mv
    obtain ⟨m0, m1, m2, m3, m4, m5, m6, m7, m8⟩ := mv
    have hX1 : LayX X σ1 := LayX_c2 hX m1 m2 (fun x _ _ q => m7 x q)
    generalize hρa : rI (stn ρ (Shn σ)) (Y + 3) (wf (SI ρ (Y + 1)) (SI ρ (Y + 3)) 0 3210) = ρa
    have es : f_Model_setAside Y (Y + 1) (Y + 3) true (stn ρ (Shn σ)) = ((), true, ρa) := by
      rw [e_setAside (by omega) (kY_1 hY) (nY_1 hY) (kY_3 hY) (nY_3 hY), ← hρa]
      rfl
    have fa : Shn ρa = Shn σ ∧ Stk ρa = Stk ρ ∧ Sln ρa = Sln ρ ∧ SR ρa = SR ρ ∧ SL ρa = SL ρ := by
      rw [← hρa]
      exact ⟨by rw [Shn_rI, Shn_stn], by rw [Stk_rI, Stk_stn], by rw [Sln_rI, Sln_stn], by rw [SR_rI, SR_stn], by rw [SL_rI, SL_stn]⟩
    have qa3 : SI ρa (Y + 3) = wf (SI ρ (Y + 1)) (SI ρ (Y + 3)) 0 3210 := by rw [← hρa, SI_rI, up1_s]
    have qax : ∀ x, x ≠ Y + 3 → SI ρa x = SI ρ x := fun x h2 => by rw [← hρa, SI_rI, up1_ne' h2]; rfl
    obtain ⟨a0, a1, a2, a3, a4⟩ := fa
    clear hρa
    have hYa : LayY Y ρa := LayY_c h.2.2.2.1 a1 a2 a3
    generalize hρ1 : pI ρa Y 21 0 = ρ1
    have e21 : SI ρ1 Y 21 = 0 := by rw [← hρ1, SI_pI, up2_s]
    have ey1 : ∀ j, j ≠ 21 → SI ρ1 Y j = SI ρ Y j := fun j hj => by rw [← hρ1, SI_pI, up2_nj hj, qax Y (by omega)]
    have ex1 : ∀ x, x ≠ Y → SI ρ1 x = SI ρa x := fun x hx => by rw [← hρ1, SI_pI, up2_ne hx]
    have f1 : Shn ρ1 = Shn σ ∧ Stk ρ1 = Stk ρ ∧ Sln ρ1 = Sln ρ ∧ SR ρ1 = SR ρ ∧ SL ρ1 = SL ρ := by
      rw [← hρ1]
      exact ⟨by rw [Shn_pI, a0], by rw [Stk_pI, a1], by rw [Sln_pI, a2], by rw [SR_pI, a3], by rw [SL_pI, a4]⟩
    obtain ⟨b0, b1, b2, b3, b4⟩ := f1
    have hY1 : LayY Y ρ1 := LayY_c h.2.2.2.1 b1 b2 b3
    have eS1 : SI ρ1 (Y + 1) = SI ρ (Y + 1) := by rw [ex1 _ (by omega), qax _ (by omega)]
    have hD1 : DayI X Y (X + 107) σ1 ρ1 := by
      obtain ⟨y1, y2, y3, y4, y5, y6, y7, y8⟩ := hcp
      refine ⟨h.1, by omega, hX1.2.2.2, hY1, by rw [m4]; exact h.2.2.2.2.1.1 0 (by decide), ?_, ?_, ?_, ?_, ?_⟩ <;> rw [eS1]
      · exact y1.1
      · exact y2
      · exact y6
      · exact y7
      · exact y8
    have lyX : ∀ τ, FrC (X + 107) σ1 τ → LayX X τ := fun τ f => LayX_c hX1 f.2.1 f.2.2.1 f.2.2.2.1
    have lyY : ∀ υ, FrN Y ρ1 υ → LayY Y υ := fun υ f => LayY_c hY1 f.2.1 f.2.2.1 f.2.2.2.1
    obtain ⟨a, τ, υ, ⟨p1, p2, p3, p4, p5⟩, e1, e2⟩ := lp_ex2C (body := b_Trail_crowd_28 X (nI n)) (bad := fun (x3 : Int32) (x4 : Int32) (b : Bool) (σ : Sto) => (0, false, σ)) (body' := b_Model_crowd_51 Y (nI n)) (bad' := fun (x2 : Int32) (b : Bool) (σ : Sto) => (0, false, σ)) n
      (fun i a τ υ => FrC (X + 107) σ1 τ ∧ FrN Y ρ1 υ ∧ DayI X Y (X + 107) τ υ ∧ SI υ Y 21 = a ∧ ¬ a < 0) (fun a τ => (a, true, τ)) (fun υ => (SI υ Y 21, true, rI υ (Y + 1) (wf (SI υ (Y + 3)) (SI υ (Y + 1)) 0 3210))) (by omega)
      (fun i a τ υ hi ⟨q1, q2, q3, q4, q5⟩ => by
        obtain ⟨a', τ', υ', r1, r2, r3, r4, r5, r6, r7⟩ := day_both q3
        have hXt := lyX τ q1
        refine ⟨mxI a a', τ', υ', ⟨FrC_t q1 r1, FrN_t q2 r2, r3, by rw [r5 (by rw [q4]; exact q5), q4], mxI_le q5⟩, fun L => ?_, fun L => ?_⟩
        · unfold b_Trail_crowd_28
          rw [if_pos (nI_lt hi (by omega)), rX_0_2 hXt, cK_of (kX_0 hXt), cK_of (kW_0 hXt.2.2.2)]
          simp only [Bool.and_true]
          rw [r6, bd_]
          rfl
        · unfold b_Model_crowd_51
          rw [if_pos (nI_lt hi (by omega)), cK_of (kY_0 (lyY υ q2)), Bool.and_true, r7, bd_]
          rfl)
      (fun L a τ υ ⟨q1, q2, q3, q4, q5⟩ => by
        unfold b_Trail_crowd_28
        rw [if_neg (nI_nlt (Nat.le_refl n) (by omega))])
      (fun L a τ υ ⟨q1, q2, q3, q4, q5⟩ => by
        have hYt := lyY υ q2
        have hYt2 : LayY Y (rI υ (Y + 1) (wf (SI υ (Y + 3)) (SI υ (Y + 1)) 0 3210)) := LayY_c hYt Stk_rI Sln_rI SR_rI
        unfold b_Model_crowd_51
        rw [if_neg (nI_nlt (Nat.le_refl n) (by omega)), rY_0 hYt, rY_2 hYt, cK_of (kY_0 hYt)]
        simp only [Bool.and_true]
        rw [e_setAside (by omega) (kY_3 hYt) (nY_3 hYt) (kY_1 hYt) (nY_1 hYt), bd_]
        dsimp only
        rw [cK_of (kY_0 hYt2), SI_rI, up1_ne' (by omega)]
        rfl)
      0 σ1 ρ1 ⟨FrC_0, FrN_0, hD1, e21, by decide⟩
    refine OpOK_j a (Shn σ) τ (rI υ (Y + 1) (wf (SI υ (Y + 3)) (SI υ (Y + 1)) 0 3210)) ?_ (by rw [p1.1, m0]) ?_ (by rw [Shn_rI, p2.1, b0]) ?_
    · unfold f_Trail_crowd
      rw [cK_of (kX_0 hX), Bool.and_true, er, bd_]
      dsimp only
      rw [lt_, if_pos rfl, rX_0_0 hX, rX_0_2 hX, cK_of (kX_0 hX), cK_of (kW_0 hX.2.2.2)]
      simp only [Bool.and_true]
      rw [eb, bd_]
      dsimp only
      rw [lt_, lt_]
      exact e1
    · show f_Model_crowd Y (nI n) true (stn ρ (Shn σ)) = _
      unfold f_Model_crowd
      rw [e_isInL (nI n) 1 60 1 60 rfl rfl, bd_]
      dsimp only
      rw [inR_e1 hv, if_neg (show ¬ (1 : Int32) = 0 by decide), rY_0 hY, show ix (0 : Int32) = 0 from rfl, if_neg (show ¬ (999 : Int32) < SI (stn ρ (Shn σ)) (Y + 1) 0 + nI n from c), rY_2 hY, cK_of (kY_0 hY), cYk hY 0 (v := 0) rfl (by decide)]
      simp only [Bool.and_true]
      rw [es, bd_]
      dsimp only
      rw [lt_, lt_, hρ1, cK_of (kY_0 hYa), Bool.and_true, e2, p4]
    · refine REL_trial h (by rw [p1.1, m0]) (by rw [p1.2.1, m1]) (by rw [p1.2.2.1, m2]) (fun x hx => by rw [p1.2.2.2.1]; exact m7 x hx) (by rw [p1.2.2.2.2.1, m3]) (by rw [p1.2.2.2.2.2.1, m4]) (fun x hx => by rw [p1.2.2.2.2.2.2.1 x (by omega), m5 x (by omega)]) (by rw [Stk_rI, p2.2.1, b1]) (by rw [Sln_rI, p2.2.2.1, b2]) (by rw [SR_rI, p2.2.2.2.1, b3]) (by rw [SL_rI, p2.2.2.2.2.1, b4]) (fun j hj => by rw [SI_rI, up1_ne' (by omega), p2.2.2.2.2.2.2.2.1 j hj, ey1 j hj.1]) (fun j hj => ?_) (fun x x0 x1 x3 x8 x9 _ => by rw [SI_rI, up1_ne' x1, p2.2.2.2.2.2.2.1 x x0 x1 x8 x9, ex1 x x0, qax x x3])
      rw [SI_rI, up1_s, wf_in (by omega), p2.2.2.2.2.2.2.1 (Y + 3) (by omega) (by omega) (by omega) (by omega), ex1 _ (by omega), qa3, wf_in (by omega)]
  · refine OpOK_b (-1000000003) h ?_ ?_
    · unfold f_Trail_crowd
      rw [cK_of (kX_0 hX), Bool.and_true, er, bd_]
      rfl
    · show f_Model_crowd Y v true (stn ρ (Shn σ)) = _
      unfold f_Model_crowd
      rw [e_isInL v 1 60 1 60 rfl rfl, bd_]
      dsimp only
      rw [inR_e1 hv, if_neg (show ¬ (1 : Int32) = 0 by decide), rY_0 hY, show ix (0 : Int32) = 0 from rfl, if_pos (show (999 : Int32) < SI (stn ρ (Shn σ)) (Y + 1) 0 + v from c), cK_of (kY_0 hY), cYk hY 0 (v := 0) rfl (by decide)]
      rfl
  · refine OpOK_b (-1000000001) h ?_ ?_
    · unfold f_Trail_crowd
      rw [cK_of (kX_0 hX), Bool.and_true, er, bd_]
      rfl
    · show f_Model_crowd Y v true (stn ρ (Shn σ)) = _
      unfold f_Model_crowd
      rw [e_isInL v 1 60 1 60 rfl rfl, bd_]
      dsimp only
      rw [inR_e0 hv, if_pos rfl]
end CW
