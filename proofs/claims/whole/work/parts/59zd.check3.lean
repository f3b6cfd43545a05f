/-! check 3 -/
section CH3
variable {X Y w : Nat} {σ ρ : Sto}
theorem REL_told {z : Nat} (h : REL X Y σ ρ) : REL X Y (pI σ X 6 0) (pI (stn ρ z) Y 33 0) := by
  obtain ⟨g1, g2, g3, g4, g5, g6, g7, g8, g9, g10⟩ := id h
  have hx : ∀ x, x ≠ X → SI (pI σ X 6 0) x = SI σ x := fun x hx => by rw [SI_pI, up2_ne hx]
  have hy : ∀ x, x ≠ Y → SI (pI (stn ρ z) Y 33 0) x = SI ρ x := fun x hx => by rw [SI_pI, up2_ne hx]; rfl
  have hj : ∀ j, j ≠ 33 → SI (pI (stn ρ z) Y 33 0) Y j = SI ρ Y j := fun j hj => by rw [SI_pI, up2_nj hj]; rfl
  refine REL_g h Shn_pI Stk_pI Sln_pI SR_pI Scs_pI (fun a ha => hx a (by omega)) (by rw [SI_pI, up2_nj (by decide)]) (by rw [Stk_pI, Stk_stn]) (by rw [Sln_pI, Sln_stn]) (by rw [SR_pI, SR_stn]) (hy _ (by omega)) (hy _ (by omega)) (hj 3 (by decide)) (rTape_c g8 (hx _ (by omega)) (hx _ (by omega)) (hj 8 (by decide)) (hy _ (by omega))) (rSh_c g9 (fun b _ _ => ⟨hx b (by omega), by rw [SL_pI]⟩) (hy _ (by omega)) (hy _ (by omega)) (by rw [SL_pI, SL_stn])) ⟨0, by decide, by rw [SI_pI, up2_s]; rfl, by rw [SI_pI, up2_s]; rfl, fun k hk => absurd hk (by omega)⟩
theorem ck_180 (hY : LayY Y ρ) {n q : Nat} (hn : n ≤ 30) (hq : q ≤ 60) : lp_ (b_Model_check_180 Y (nI n) (nI q)) (fun (x3 : Int32) (b : Bool) (σ : Sto) => (0, false, σ)) fuel_ 0 true ρ = (match findI (ckC (SI ρ (Y + 20)) (SI ρ (Y + 21)) q) 0 (2 * n) with | some j => (1 + nI j, true, ρ) | none => (if nI (2 * n) = nI q then 0 else 1 + nI (2 * n), true, ρ)) := by
  have m2 : (2 : Int32) * nI n = nI (2 * n) := nI_mul 2 n
  refine lp_find (σ := ρ) (2 * n) (ckC (SI ρ (Y + 20)) (SI ρ (Y + 21)) q) (fun j => (1 + nI j, true, ρ)) (if nI (2 * n) = nI q then 0 else 1 + nI (2 * n), true, ρ) (by omega) (fun L j hj => ?_) (fun L => ?_) 0 (by omega)
  · have n2 : ¬ nI j = nI (2 * n) := fun z => by have := (nI_eq (by omega) (by omega)).mp z; omega
    unfold b_Model_check_180
    rw [m2, lt_]
    dsimp only
    by_cases c : j < q
    · rw [if_pos (show nI j < nI q from nI_lt c (by omega)), if_pos (show nI j < nI (2 * n) from nI_lt hj (by omega)), rY_32 hY, rY_34 hY, ix_nI (show j < 2 ^ 31 by omega), cK_of (kY_0 hY), cA_of (kY_20 hY) (nY_20 hY) (show j < 60 by omega) (by decide), cA_of (kY_21 hY) (nY_21 hY) (show j < 60 by omega) (by decide)]
      by_cases d : SI ρ (Y + 20) j = SI ρ (Y + 21) j
      · rw [if_pos d, if_neg (ckC_f c d)]
        rfl
      · rw [if_neg d, if_pos (ckC_t (fun z => d z.2)), lt_]
        dsimp only
        rw [if_neg (show ¬ nI j = nI q from fun z => by have := (nI_eq (by omega) (by omega)).mp z; omega)]
        rfl
    · rw [if_neg (nI_nlt (by omega) (by omega)), if_pos (ckC_t (fun z => c z.1)), lt_]
      dsimp only
      by_cases e : nI j = nI q
      · rw [if_pos e, if_neg n2]
      · rw [if_neg e]
  · unfold b_Model_check_180
    rw [m2, lt_]
    dsimp only
    have key : ∀ (b : Bool), b = true → lt_ (fun (b : Bool) (σ : Sto) => ((1 + nI (2 * n) : Int32), b, σ)) (fun J229 => if nI (2 * n) = nI q then (if nI (2 * n) = nI (2 * n) then ((0 : Int32), b, ρ) else J229 b ρ) else J229 b ρ) = ((if nI (2 * n) = nI q then 0 else 1 + nI (2 * n) : Int32), true, ρ) := fun b hb => by
      subst hb
      rw [lt_]
      by_cases e : nI (2 * n) = nI q
      · rw [if_pos e, if_pos e, if_pos rfl]
      · rw [if_neg e, if_neg e]
    by_cases c : nI (2 * n) < nI q
    · rw [if_pos c, if_neg (nI_nlt (Nat.le_refl _) (by omega))]
      exact key true rfl
    · rw [if_neg c]
      exact key true rfl
theorem ckC_congr {W W' D D' : Nat → Int32} {q j : Nat} (h : j < q → W j = W' j) (h' : D j = D' j) : ckC W D q j = ckC W' D' q j := by
  by_cases c : j < q
  · by_cases d : W j = D j
    · rw [Bool.eq_false_iff.mpr (ckC_f c d), Bool.eq_false_iff.mpr (ckC_f c (by rw [← h c, ← h', d]))]
    · rw [ckC_t (fun z => d z.2), ckC_t (fun z => d (by rw [h c, h']; exact z.2))]
  · rw [ckC_t (fun z => c z.1), ckC_t (fun z => c z.1)]
/-- the answer of both -/
theorem ck_ans {W W' D D' : Nat → Int32} {n q : Nat} (hn : n ≤ 30) (hq : q ≤ 60) (h : ∀ j, j < q → W j = W' j) (h' : ∀ j, D j = D' j) {τ : Sto} : (match findI (ckC W' D' q) 0 (2 * n) with | some j => ((1 + nI j : Int32), true, τ) | none => ((if nI (2 * n) = nI q then 0 else 1 + nI (2 * n) : Int32), true, τ)) = (ckA n q (findI (ckC W D q) 0 (2 * n)), true, τ) := by
  rw [findI_congr (c := ckC W D q) (d := ckC W' D' q) (fun j _ _ => ckC_congr (h j) (h' j))]
  cases hf : findI (ckC W' D' q) 0 (2 * n) with
  | some j => rfl
  | none =>
    have g := findI_none hf
    show _ = (if 2 * n < q then 1 + nI (2 * n) else 0, true, τ)
    have le : 2 * n ≤ q := by
      rcases Nat.lt_or_ge q (2 * n) with z | z
      · have := g q (by omega) (by omega)
        rw [ckC_t (fun y => absurd y.1 (by omega))] at this
        exact absurd this (by decide)
      · exact z
    dsimp only
    by_cases c : 2 * n < q
    · rw [if_pos c, if_neg (fun z => by have := (nI_eq (by omega) (by omega)).mp z; omega)]
    · rw [if_neg c, if_pos (by rw [show q = 2 * n by omega])]
theorem op_41 : Op_41 X Y (REL X Y) := by
  intro v σ ρ h
  have hR := REL_told (z := Shn σ) h
  obtain ⟨q, tq, t1, t2, t3⟩ := h.2.2.2.2.2.2.2.2.2
  have hX0 := h.2.2.1
  have hY0 : LayY Y (stn ρ (Shn σ)) := h.2.2.2.1
  have z0 : Shn (pI σ X 6 0) = Shn σ := Shn_pI
  have z1 : Shn (pI (stn ρ (Shn σ)) Y 33 0) = Shn σ := by rw [Shn_pI, Shn_stn]
  have w20 : ∀ k, k < q → SI (pI σ X 6 0) (X + 172) k = SI (pI (stn ρ (Shn σ)) Y 33 0) (Y + 20) k := fun k hk => by
    rw [SI_pI, up2_ne' (by omega), SI_pI, up2_ne' (by omega)]
    exact t3 k hk
  have eC : f_Trail_check X v true σ = (if inR v 1 30 = 0 then (-1000000001, true, pI σ X 6 0) else if SI (pI σ X 6 0) X 7 = 0 then (-1000000002, true, pI σ X 6 0) else bd_ (f_World_become (X + 107) (X + 54) true (pI σ X 6 0)) (fun (r_4 : Unit) (b_4 : Bool) (σ_4 : Sto) => (lp_ (b_Trail_check_46 X v (nI q)) (fun (x3 : Int32) (b : Bool) (σ : Sto) => (0, false, σ)) fuel_ 0 b_4 σ_4))) := by
    have hX := hR.2.2.1
    unfold f_Trail_check
    rw [lt_, lt_, t1, cK_of (kX_0 hX0)]
    simp only [Bool.and_true]
    generalize pI σ X 6 0 = σ0 at *
    rw [e_within, bd_]
    dsimp only
    rw [rX_0_1 hX, rX_0_2 hX, cK_of (kX_0 hX), cK_of (kW_0 hX.2.2.2)]
    rfl
  have t2' : SI (stn ρ (Shn σ)) Y 33 = nI q := t2
  have eR : f_Model_check Y v true (stn ρ (Shn σ)) = (if inR v 1 30 = 0 then (-1000000001, true, pI (stn ρ (Shn σ)) Y 33 0) else if SI (pI (stn ρ (Shn σ)) Y 33 0) Y 3 = 0 then (-1000000002, true, pI (stn ρ (Shn σ)) Y 33 0) else bd_ (f_Model_setAside Y (Y + 1) (Y + 3) true (pI (stn ρ (Shn σ)) Y 33 0)) (fun (r_4 : Unit) (b_4 : Bool) (σ_4 : Sto) => (bd_ (f_Model_setAside Y (SR σ_4 Y 1) (SR σ_4 Y 0) (((b_4 && cK σ_4 Y 13) && cK σ_4 Y 13) && cK σ_4 Y 13) σ_4) (fun (r_5 : Unit) (b_5 : Bool) (σ_5 : Sto) => (lp_ (b_Model_check_61 Y v (nI q)) (fun (x3 : Int32) (b : Bool) (σ : Sto) => (0, false, σ)) fuel_ 0 b_5 σ_5))))) := by
    have hY := hR.2.2.2.1
    unfold f_Model_check
    rw [lt_, lt_, t2', cK_of (kY_0 hY0)]
    simp only [Bool.and_true]
    generalize pI (stn ρ (Shn σ)) Y 33 0 = ρ0 at *
    rw [e_isInL v 1 30 1 30 rfl rfl, bd_]
    dsimp only
    rw [rY_0 hY, rY_2 hY, cK_of (kY_0 hY)]
    rfl
  clear t3 t1 t2 t2'
  generalize hσ0 : pI σ X 6 0 = σ0 at *
  generalize hρ0 : pI (stn ρ (Shn σ)) Y 33 0 = ρ0 at *
  have hX := hR.2.2.1
  have hY := hR.2.2.2.1
  by_cases hv : (1 : Int32) ≤ v ∧ v ≤ 30
  · rcases hR.2.2.2.2.2.2.1 with ⟨k1, k2⟩ | ⟨k1, k2, gI⟩
    · refine OpOK_j (-1000000002) (Shn σ) σ0 ρ0 ?_ z0 ?_ z1 hR
      · rw [eC, inR_e1 hv, if_neg (show ¬ (1 : Int32) = 0 by decide), if_pos k1]
      · show f_Model_check Y v true (stn ρ (Shn σ)) = _
        rw [eR, inR_e1 hv, if_neg (show ¬ (1 : Int32) = 0 by decide), if_pos k2]
    · obtain ⟨n, hn, rfl⟩ := in_nat (n := 30) rfl (by decide) (Int32.le_trans (by decide) hv.1) hv.2
      obtain ⟨nw, w1, w2, w3, w4⟩ := gI.2.2.2.2.2.2.1
      obtain ⟨nt, u1, u2, u3, u4, u5⟩ := gI.2.2.2.2.2.2.2
      obtain ⟨σ1, eb, mv⟩ := mv_World (d := X + 107) (s := X + 54) (σ := σ0) (by omega) hX.2.2.2 hX.2.2.1 (fun k hk => (u4 k hk).imp id (fun z => z.2.2)) w1 w2
      have hcp := RWd_copy gI (by omega) (by omega) w1 w2 mv
      obtain ⟨m0, m1, m2, m3, m4, m5, m6, m7, m8⟩ := mv
      have hX1 : LayX X σ1 := LayX_c2 hX m1 m2 (fun x _ _ q => m7 x q)
      -- set aside
      have es := e_setAside (Y := Y) (ρ := ρ0) (a := Y + 1) (b := Y + 3) (by omega) (kY_1 hY) (nY_1 hY) (kY_3 hY) (nY_3 hY)
      generalize hρa : rI ρ0 (Y + 3) (wf (SI ρ0 (Y + 1)) (SI ρ0 (Y + 3)) 0 3210) = ρa at *
      have fa : Shn ρa = Shn ρ0 ∧ Stk ρa = Stk ρ0 ∧ Sln ρa = Sln ρ0 ∧ SR ρa = SR ρ0 ∧ SL ρa = SL ρ0 := by
        rw [← hρa]
        exact ⟨Shn_rI, Stk_rI, Sln_rI, SR_rI, SL_rI⟩
      have qa3 : ∀ j, j < 3210 → SI ρa (Y + 3) j = SI ρ0 (Y + 1) j := fun j hj => by rw [← hρa, SI_rI, up1_s, wf_in (by omega)]
      have qax : ∀ x, x ≠ Y + 3 → SI ρa x = SI ρ0 x := fun x h2 => by rw [← hρa, SI_rI, up1_ne' h2]
      clear hρa
      obtain ⟨a0, a1, a2, a3, a4⟩ := fa
      have hYa : LayY Y ρa := LayY_c hY a1 a2 a3
      have es2 := e_setAside (Y := Y) (ρ := ρa) (a := Y + 2) (b := Y + 1) (by omega) (kY_2 hYa) (nY_2 hYa) (kY_1 hYa) (nY_1 hYa)
      generalize hρb : rI ρa (Y + 1) (wf (SI ρa (Y + 2)) (SI ρa (Y + 1)) 0 3210) = ρb at *
      have fb : Shn ρb = Shn ρa ∧ Stk ρb = Stk ρa ∧ Sln ρb = Sln ρa ∧ SR ρb = SR ρa ∧ SL ρb = SL ρa := by
        rw [← hρb]
        exact ⟨Shn_rI, Stk_rI, Sln_rI, SR_rI, SL_rI⟩
      have qb1 : ∀ j, j < 3210 → SI ρb (Y + 1) j = SI ρ0 (Y + 2) j := fun j hj => by rw [← hρb, SI_rI, up1_s, wf_in (by omega), qax _ (by omega)]
      have qbx : ∀ x, x ≠ Y + 1 → SI ρb x = SI ρa x := fun x h2 => by rw [← hρb, SI_rI, up1_ne' h2]
      clear hρb
      obtain ⟨b0, b1, b2, b3, b4⟩ := fb
      have hYb : LayY Y ρb := LayY_c hYa b1 b2 b3
      have hcp2 : RWd X σ1 (X + 107) (SI ρb (Y + 1)) := RWd_c2 hcp rfl rfl rfl (fun _ _ => rfl) (fun _ _ => rfl) (fun j hj => qb1 j (by omega))
      have hD1 : DayI X Y (X + 107) σ1 ρb := by
        obtain ⟨y1, y2, y3, y4, y5, y6, y7, y8⟩ := hcp2
        exact ⟨h.1, by omega, hX1.2.2.2, hYb, by rw [m4]; exact hR.2.2.2.2.1.1 0 (by decide), y1.1, y2, y6, y7, y8⟩
      have hW1 : SI σ1 (X + 172) = SI σ0 (X + 172) := m5 _ (by omega)
      obtain ⟨τf, υf, f1, f2, e1, e2⟩ := ck_both (X := X) (Y := Y) hn tq (SI σ0 (X + 172)) n 0 σ1 ρb fuel_ fuel_ (fun (x3 : Int32) (b : Bool) (σ : Sto) => (0, false, σ)) (fun (x3 : Int32) (b : Bool) (σ : Sto) => (0, false, σ)) (by omega) (by show n < 70000; omega) (by show 2 * n < 70000; omega) hX1 hD1 hW1
      have hYf : LayY Y υf := LayY_c hYb f2.2.1 f2.2.2.1 f2.2.2.2.1
      have es3 := e_setAside (Y := Y) (ρ := υf) (a := Y + 3) (b := Y + 1) (by omega) (kY_3 hYf) (nY_3 hYf) (kY_1 hYf) (nY_1 hYf)
      generalize hρg : rI υf (Y + 1) (wf (SI υf (Y + 3)) (SI υf (Y + 1)) 0 3210) = ρg at *
      have fg : Shn ρg = Shn υf ∧ Stk ρg = Stk υf ∧ Sln ρg = Sln υf ∧ SR ρg = SR υf ∧ SL ρg = SL υf := by
        rw [← hρg]
        exact ⟨Shn_rI, Stk_rI, Sln_rI, SR_rI, SL_rI⟩
      have qg1 : ∀ j, j < 3210 → SI ρg (Y + 1) j = SI υf (Y + 3) j := fun j hj => by rw [← hρg, SI_rI, up1_s, wf_in (by omega)]
      have qgx : ∀ x, x ≠ Y + 1 → SI ρg x = SI υf x := fun x h2 => by rw [← hρg, SI_rI, up1_ne' h2]
      clear hρg
      obtain ⟨c0, c1, c2, c3, c4⟩ := fg
      have hYg : LayY Y ρg := LayY_c hYf c1 c2 c3
      have kx : ∀ x, x ≠ Y → x ≠ Y + 1 → x ≠ Y + 3 → x ≠ Y + 8 → x ≠ Y + 9 → x ≠ Y + 21 → SI ρg x = SI ρ0 x := fun x x0 x1 x3 x8 x9 x21 => by
        rw [qgx x x1, f2.2.2.2.2.2.1 x x0 x1 x8 x9 x21, qbx x x1, qax x x3]
      refine OpOK_j (ckA n q (findI (ckC (SI σ0 (X + 172)) (SI υf (Y + 21)) q) 0 (2 * n))) (Shn σ) τf ρg ?_ (by rw [f1.1, m0, z0]) ?_ (by rw [c0, f2.1, b0, a0, z1]) ?_
      · rw [eC, inR_e1 hv, if_neg (show ¬ (1 : Int32) = 0 by decide), if_neg (show ¬ SI σ0 X 7 = 0 by rw [k1]; decide), eb, bd_]
        exact e2
      · show f_Model_check Y (nI n) true (stn ρ (Shn σ)) = _
        rw [eR, inR_e1 hv, if_neg (show ¬ (1 : Int32) = 0 by decide), if_neg (show ¬ SI ρ0 Y 3 = 0 by rw [k2]; decide), es, bd_]
        dsimp only
        rw [rY_0 hYa, rY_1 hYa, cK_of (kY_0 hYa)]
        simp only [Bool.and_true]
        rw [es2, bd_]
        dsimp only
        refine e1.trans ?_
        rw [es3, bd_]
        dsimp only
        rw [ck_180 hYg hn tq]
        exact ck_ans hn tq (fun j hj => by rw [w20 j hj, kx (Y + 20) (by omega) (by omega) (by omega) (by omega) (by omega) (by omega)]) (fun j => by rw [qgx (Y + 21) (by omega)])
      · refine REL_trial hR (by rw [f1.1, m0]) (by rw [f1.2.1, m1]) (by rw [f1.2.2.1, m2]) (fun x hx => by rw [f1.2.2.2.1]; exact m7 x hx) (by rw [f1.2.2.2.2.1, m3]) (by rw [f1.2.2.2.2.2.1, m4]) (fun x hx => by rw [f1.2.2.2.2.2.2.1 x (by omega), m5 x (by omega)]) (by rw [c1, f2.2.1, b1, a1]) (by rw [c2, f2.2.2.1, b2, a2]) (by rw [c3, f2.2.2.2.1, b3, a3]) (by rw [c4, f2.2.2.2.2.1, b4, a4]) (fun j hj => by rw [qgx Y (by omega), f2.2.2.2.2.2.2.1 j hj, qbx Y (by omega), qax Y (by omega)]) (fun j hj => ?_) kx
        rw [qg1 j (by omega), f2.2.2.2.2.2.1 (Y + 3) (by omega) (by omega) (by omega) (by omega) (by omega), qbx _ (by omega), qa3 j (by omega)]
  · refine OpOK_j (-1000000001) (Shn σ) σ0 ρ0 ?_ z0 ?_ z1 hR
    · rw [eC, inR_e0 hv, if_pos rfl]
    · show f_Model_check Y v true (stn ρ (Shn σ)) = _
      rw [eR, inR_e0 hv, if_pos rfl]
end CH3
