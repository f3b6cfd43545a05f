/-! sheets: copies -/
section SH3
variable {X Y w : Nat} {σ ρ : Sto}
abbrev stP (m : Nat) (p z : Int32) : Prop := 0 ≤ p.toInt ∧ 0 ≤ z.toInt ∧ p.toInt + z.toInt ≤ (m : Int)
theorem lt0_i (x : Int32) : x < 0 ↔ x.toInt < 0 := by
  rw [Int32.lt_iff_toInt_lt, Int32.toInt_zero]
theorem e_hasStretch {a m : Nat} (hk : Stk σ a = 6) (hm : m ≤ 24) (q : SI σ a 1 = nI m) (p z : Int32) : f_Sheet_hasStretch a p z true σ = (bI (stP m p z), true, σ) := by
  have em : (nI m).toInt = (m : Int) := nI_toInt (by omega)
  unfold f_Sheet_hasStretch bI
  simp only [lt_, q, cK_of hk, Bool.and_true]
  by_cases h1 : p < 0
  · rw [if_pos h1, if_neg (fun y => by have := (lt0_i p).mp h1; have := y.1; omega)]
  · rw [if_neg h1]
    have h1' : 0 ≤ p.toInt := by have := mt (lt0_i p).mpr h1; omega
    by_cases h2 : z < 0
    · rw [if_pos h2, if_neg (fun y => by have := (lt0_i z).mp h2; have := y.2.1; omega)]
    · rw [if_neg h2]
      have h2' : 0 ≤ z.toInt := by have := mt (lt0_i z).mpr h2; omega
      by_cases h3 : nI m < p
      · have h3' := Int32.lt_iff_toInt_lt.mp h3
        rw [em] at h3'
        rw [if_pos h3, if_neg (fun y => by have := y.2.2; omega)]
      · rw [if_neg h3]
        have h3' := mt Int32.lt_iff_toInt_lt.mpr h3
        rw [em] at h3'
        have es : (nI m - p).toInt = (m : Int) - p.toInt := by
          rw [Int32.toInt_sub, em]
          exact Int.bmod_eq_of_le (by omega) (by omega)
        by_cases h4 : nI m - p < z
        · have h4' := Int32.lt_iff_toInt_lt.mp h4
          rw [es] at h4'
          rw [if_pos h4, if_neg (fun y => by have := y.2.2; omega)]
        · have h4' := mt Int32.lt_iff_toInt_lt.mpr h4
          rw [es] at h4'
          rw [if_neg h4, if_pos ⟨h1', h2', by omega⟩]
theorem lgs (x y z : Int32) : 0 < lg_cmp (x.toInt64 + y.toInt64) z.toInt64 ↔ z.toInt < x.toInt + y.toInt := by
  have hx := x.toInt_lt
  have hx' := x.le_toInt
  have hy := y.toInt_lt
  have hy' := y.le_toInt
  rw [lg_pos, Int64.lt_iff_toInt_lt, Int64.toInt_add, Int32.toInt_toInt64, Int32.toInt_toInt64, Int32.toInt_toInt64, Int.bmod_eq_of_le (by omega) (by omega)]
theorem e_copy2 (hY : LayY Y ρ) {k t z : Nat} (hk : k < 4) (hz : t + z ≤ 24) : lp_ (b_Model_copy_150 Y (nI k) (nI t) (nI z)) (fun (x6 : Int32) (b : Bool) (σ : Sto) => (0, false, σ)) fuel_ 0 true ρ = (nI z, true, rL ρ (Y + 6) (wf (fun j => SL ρ (Y + 19) (j - (24 * k + t))) (SL ρ (Y + 6)) (24 * k + t) z)) := by
  obtain ⟨τ, p, e⟩ := lp_ex (body := b_Model_copy_150 Y (nI k) (nI t) (nI z)) (bad := fun (x6 : Int32) (b : Bool) (σ : Sto) => (0, false, σ)) z (fun i τ => τ = rL ρ (Y + 6) (wf (fun j => SL ρ (Y + 19) (j - (24 * k + t))) (SL ρ (Y + 6)) (24 * k + t) i)) (fun τ => (nI z, true, τ)) (by omega) (fun i τ hi p => by
    subst p
    refine ⟨_, rfl, fun L => ?_⟩
    have n1 : Y + 19 ≠ Y + 6 := by omega
    unfold b_Model_copy_150
    simp only [lt_, if_pos (show nI i < nI z from nI_lt hi (by omega)), SR_rL, rY_6 hY, rY_31 hY, cK_rL, cA_rL, cK_of (kY_0 hY), show (24 : Int32) * nI k = nI (24 * k) from nI_mul 24 k, nI_add, ix_nI (show 24 * k + t + i < 2 ^ 31 by omega), ix_nI (show i < 2 ^ 31 by omega), cA_of (kY_6 hY) (nY_6 hY) (show 24 * k + t + i < 96 by omega) (by decide), cA_of (kY_19 hY) (nY_19 hY) (show i < 24 by omega) (by decide), Bool.and_true, pL_rL, SL_rL, up1_ne' n1]
    rw [← wf_s, show 24 * k + t + i - (24 * k + t) = i by omega]) (fun L τ p => by
    unfold b_Model_copy_150
    rw [if_neg (nI_nlt (Nat.le_refl z) (by omega))]) ρ (by rw [wf_0, rL_id])
  rw [e, p]
theorem e_copy1 (hY : LayY Y ρ) {k p k2 t z : Nat} (hk : k < 4) (hk2 : k2 < 4) (hp : p + z ≤ 24) (hz : t + z ≤ 24) : lp_ (b_Model_copy_113 Y (nI k) (nI p) (nI k2) (nI t) (nI z)) (fun (x6 : Int32) (b : Bool) (σ : Sto) => (0, false, σ)) fuel_ 0 true ρ = (nI z, true, rL (rL ρ (Y + 19) (wf (fun j => SL ρ (Y + 6) (24 * k + p + j)) (SL ρ (Y + 19)) 0 z)) (Y + 6) (wf (fun j => wf (fun j => SL ρ (Y + 6) (24 * k + p + j)) (SL ρ (Y + 19)) 0 z (j - (24 * k2 + t))) (SL ρ (Y + 6)) (24 * k2 + t) z)) := by
  obtain ⟨τ, q, e⟩ := lp_ex (body := b_Model_copy_113 Y (nI k) (nI p) (nI k2) (nI t) (nI z)) (bad := fun (x6 : Int32) (b : Bool) (σ : Sto) => (0, false, σ)) z (fun i τ => τ = rL ρ (Y + 19) (wf (fun j => SL ρ (Y + 6) (24 * k + p + j)) (SL ρ (Y + 19)) 0 i)) (fun τ => (nI z, true, rL τ (Y + 6) (wf (fun j => SL τ (Y + 19) (j - (24 * k2 + t))) (SL τ (Y + 6)) (24 * k2 + t) z))) (by omega) (fun i τ hi q => by
    subst q
    refine ⟨_, rfl, fun L => ?_⟩
    have n1 : Y + 6 ≠ Y + 19 := by omega
    unfold b_Model_copy_113
    rw [if_pos (show nI i < nI z from nI_lt hi (by omega))]
    simp only [lt_, SR_rL, rY_6 hY, rY_31 hY, cK_rL, cA_rL, cK_of (kY_0 hY), show (24 : Int32) * nI k = nI (24 * k) from nI_mul 24 k, nI_add, ix_nI (show 24 * k + p + i < 2 ^ 31 by omega), ix_nI (show i < 2 ^ 31 by omega), cA_of (kY_6 hY) (nY_6 hY) (show 24 * k + p + i < 96 by omega) (by decide), cA_of (kY_19 hY) (nY_19 hY) (show i < 24 by omega) (by decide), Bool.and_true, pL_rL, SL_rL, up1_ne' n1]
    rw [← wf_s, Nat.zero_add]) (fun L τ q => by
    subst q
    unfold b_Model_copy_113
    rw [if_neg (nI_nlt (Nat.le_refl z) (by omega)), lt_]
    exact e_copy2 (LayY_c hY Stk_rL Sln_rL SR_rL) hk2 hz) ρ (by rw [wf_0, rL_id])
  have n1 : Y + 6 ≠ Y + 19 := by omega
  rw [e, q, SL_rL, up1_s, up1_ne' n1]
theorem e_copyM (hY : LayY Y ρ) {k1 k2 m1 m2 : Nat} (h1 : k1 < 4) (h2 : k2 < 4) (ha : (0 : Int32) ≤ nI k1 ∧ nI k1 ≤ 3) (ha2 : (0 : Int32) ≤ nI k2 ∧ nI k2 ≤ 3) (n1 : ¬ SI ρ (Y + 4) k1 < 0) (n2 : ¬ SI ρ (Y + 4) k2 < 0) (e : SI ρ (Y + 4) k1 = SI ρ (Y + 4) k2) (hm1 : m1 ≤ 24) (hm2 : m2 ≤ 24) (q1 : SI ρ (Y + 5) k1 = nI m1) (q2 : SI ρ (Y + 5) k2 = nI m2) (p t z : Int32) : f_Model_copy Y (nI k1) p (nI k2) t z true ρ = if stP m1 p z ∧ stP m2 t z then lp_ (b_Model_copy_113 Y (nI k1) p (nI k2) t z) (fun (x6 : Int32) (b : Bool) (σ : Sto) => (0, false, σ)) fuel_ 0 true ρ else (-1000000013, true, ρ) := by
  rw [f_Model_copy, e_isSheet, inR_e1 ha, bd_, lt_, if_neg (show ¬ (1 : Int32) = 0 by decide), e_isSheet, inR_e1 ha2, bd_, if_neg (show ¬ (1 : Int32) = 0 by decide), lt_]
  simp only [rY_4 hY, rY_5 hY, ix_nI (show k1 < 2 ^ 31 by omega), ix_nI (show k2 < 2 ^ 31 by omega), cK_of (kY_0 hY), cA_of (kY_4 hY) (nY_4 hY) h1 (by decide), cA_of (kY_4 hY) (nY_4 hY) h2 (by decide), cA_of (kY_5 hY) (nY_5 hY) h1 (by decide), cA_of (kY_5 hY) (nY_5 hY) h2 (by decide), Bool.and_true]
  rw [if_neg n1, if_neg n2, if_pos e, lt_, lt_, q1, q2]
  have em1 : (nI m1).toInt = (m1 : Int) := nI_toInt (by omega)
  have em2 : (nI m2).toInt = (m2 : Int) := nI_toInt (by omega)
  by_cases g1 : p < 0
  · rw [if_pos g1, if_neg (fun y => by have := (lt0_i p).mp g1; have := y.1.1; omega)]
  · rw [if_neg g1]
    have g1' := mt (lt0_i p).mpr g1
    by_cases g2 : t < 0
    · rw [if_pos g2, if_neg (fun y => by have := (lt0_i t).mp g2; have := y.2.1; omega)]
    · rw [if_neg g2]
      have g2' := mt (lt0_i t).mpr g2
      by_cases g3 : z < 0
      · rw [if_pos g3, if_neg (fun y => by have := (lt0_i z).mp g3; have := y.2.2.1; omega)]
      · rw [if_neg g3]
        have g3' := mt (lt0_i z).mpr g3
        by_cases g4 : 0 < lg_cmp (p.toInt64 + z.toInt64) (nI m1).toInt64
        · have g4' := (lgs _ _ _).mp g4
          rw [em1] at g4'
          rw [if_pos g4, if_neg (fun y => by have := y.1.2.2; omega)]
        · have g4' := mt (lgs _ _ _).mpr g4
          rw [em1] at g4'
          rw [if_neg g4]
          by_cases g5 : 0 < lg_cmp (t.toInt64 + z.toInt64) (nI m2).toInt64
          · have g5' := (lgs _ _ _).mp g5
            rw [em2] at g5'
            rw [if_pos g5, if_neg (fun y => by have := y.2.2.2; omega)]
          · have g5' := mt (lgs _ _ _).mpr g5
            rw [em2] at g5'
            rw [if_neg g5, if_pos ⟨⟨by omega, by omega, by omega⟩, ⟨by omega, by omega, by omega⟩⟩]
theorem st_nat {m : Nat} {p z : Int32} (hm : m ≤ 24) (h : stP m p z) : ∃ p' z' : Nat, p = nI p' ∧ z = nI z' ∧ p' + z' ≤ m := by
  obtain ⟨p', hp', e1⟩ := bd_nat (v := p) (n := 24) ⟨h.1, by have := h.2.1; have := h.2.2; omega⟩
  obtain ⟨z', hz', e2⟩ := bd_nat (v := z) (n := 24) ⟨h.2.1, by have := h.1; have := h.2.2; omega⟩
  refine ⟨p', z', e1, e2, ?_⟩
  have h3 := h.2.2
  rw [e1, e2, nI_toInt (by omega), nI_toInt (by omega)] at h3
  omega
theorem op_39 : Op_39 X Y (REL X Y) := by
  intro a p a2 t z σ ρ h
  have hX := h.2.2.1
  have hY : LayY Y (stn ρ (Shn σ)) := h.2.2.2.1
  by_cases ha : (0 : Int32) ≤ a ∧ a ≤ 3
  · by_cases ha2 : (0 : Int32) ≤ a2 ∧ a2 ≤ 3
    · obtain ⟨k1, hk1, rfl⟩ := in_nat (n := 3) rfl (by decide) ha.1 ha.2
      obtain ⟨k2, hk2, rfl⟩ := in_nat (n := 3) rfl (by decide) ha2.1 ha2.2
      obtain ⟨q1, q2, m1, q3, q4, q5, q6⟩ := h.2.2.2.2.2.2.2.2.1 k1 (by omega)
      obtain ⟨r1, r2, m2, r3, r4, r5, r6⟩ := h.2.2.2.2.2.2.2.2.1 k2 (by omega)
      have hk1' : k1 < 4 := by omega
      have hk2' : k2 < 4 := by omega
      by_cases n1 : SI ρ (Y + 4) k1 < 0
      · refine OpOK_b (-1000000011) h ?_ ?_
        · unfold f_Trail_copy
          simp only [bd_, lt_, e_hasSheet hX, inR_e1 ha, inR_e1 ha2, i10, if_false, rX_0_4 hX, ix_nI (show k1 < 2 ^ 31 by omega), ix_nI (show k2 < 2 ^ 31 by omega), rX_sh hX hk1', rX_sh hX hk2', q1, r1, if_pos ((sh_miss q2).mpr n1), cK_of (kX_0 hX), cA_of (kX_163 hX) (nX_163 hX) hk1' (by decide), cA_of (kX_163 hX) (nX_163 hX) hk2' (by decide), cK_of (kX_sh hX hk1'), cK_of (kX_sh hX hk2'), Bool.and_true]
        · show f_Model_copy Y (nI k1) p (nI k2) t z true (stn ρ (Shn σ)) = _
          rw [f_Model_copy, e_isSheet, inR_e1 ha, bd_, lt_, if_neg (show ¬ (1 : Int32) = 0 by decide), e_isSheet, inR_e1 ha2, bd_, if_neg (show ¬ (1 : Int32) = 0 by decide), lt_]
          simp only [rY_4 hY, SI_stn, ix_nI (show k1 < 2 ^ 31 by omega), cK_of (kY_0 hY), cA_of (kY_4 hY) (nY_4 hY) hk1' (by decide), Bool.and_true]
          rw [if_pos n1]
      · by_cases n2 : SI ρ (Y + 4) k2 < 0
        · refine OpOK_b (-1000000011) h ?_ ?_
          · unfold f_Trail_copy
            simp only [bd_, lt_, e_hasSheet hX, inR_e1 ha, inR_e1 ha2, i10, if_false, rX_0_4 hX, ix_nI (show k1 < 2 ^ 31 by omega), ix_nI (show k2 < 2 ^ 31 by omega), rX_sh hX hk1', rX_sh hX hk2', q1, r1, if_neg (fun e => n1 ((sh_miss q2).mp e)), if_pos ((sh_miss r2).mpr n2), cK_of (kX_0 hX), cA_of (kX_163 hX) (nX_163 hX) hk1' (by decide), cA_of (kX_163 hX) (nX_163 hX) hk2' (by decide), cK_of (kX_sh hX hk1'), cK_of (kX_sh hX hk2'), Bool.and_true]
          · show f_Model_copy Y (nI k1) p (nI k2) t z true (stn ρ (Shn σ)) = _
            rw [f_Model_copy, e_isSheet, inR_e1 ha, bd_, lt_, if_neg (show ¬ (1 : Int32) = 0 by decide), e_isSheet, inR_e1 ha2, bd_, if_neg (show ¬ (1 : Int32) = 0 by decide), lt_]
            simp only [rY_4 hY, SI_stn, ix_nI (show k1 < 2 ^ 31 by omega), ix_nI (show k2 < 2 ^ 31 by omega), cK_of (kY_0 hY), cA_of (kY_4 hY) (nY_4 hY) hk1' (by decide), cA_of (kY_4 hY) (nY_4 hY) hk2' (by decide), Bool.and_true]
            rw [if_neg n1, if_pos n2]
        · have c1 : ¬ SI ρ (Y + 4) k1 = -1 := fun e => n1 ((sh_miss q2).mp e)
          have c2 : ¬ SI ρ (Y + 4) k2 = -1 := fun e => n2 ((sh_miss r2).mp e)
          by_cases e : SI ρ (Y + 4) k1 = SI ρ (Y + 4) k2
          · have eM := e_copyM hY hk1' hk2' ha ha2 n1 n2 e q3 r3 q5 r5 p t z
            by_cases hs1 : stP m1 p z
            · by_cases hs2 : stP m2 t z
              · rw [if_pos ⟨hs1, hs2⟩] at eM
                obtain ⟨p', z', rfl, rfl, hp'⟩ := st_nat q3 hs1
                obtain ⟨t', z'', rfl, ez, ht'⟩ := st_nat r3 hs2
                have ez' : z'' = z' := by
                  have hz1 := hs1.2.2
                  have b1 : z' ≤ 24 := by omega
                  have b2 : z'' ≤ 24 := by omega
                  exact ((nI_eq (by omega) (by omega)).mp ez).symm
                subst ez'
                rw [e_copy1 hY hk1' hk2' (by omega) (by omega)] at eM
                refine OpOK_j (nI z'') (Shn σ) (rL σ (X + 165 + 2 * k2) (va_cpy (SL σ (X + 165 + 2 * k1)) (SL σ (X + 165 + 2 * k2)) p' t' z'')) _ ?_ Shn_rL eM (by rw [Shn_rL, Shn_rL, Shn_stn]) ?_
                · have f1 : (!decide (nI p' < 0)) = true := by rw [decide_eq_false (nI_pos (by omega))]; rfl
                  have f2 : (!decide (nI t' < 0)) = true := by rw [decide_eq_false (nI_pos (by omega))]; rfl
                  have f3 : (!decide (nI z'' < 0)) = true := by rw [decide_eq_false (nI_pos (by omega))]; rfl
                  have f4 : decide (p' + z'' ≤ 24) = true := decide_eq_true (by omega)
                  have f5 : decide (t' + z'' ≤ 24) = true := decide_eq_true (by omega)
                  unfold f_Trail_copy
                  simp only [bd_, lt_, e_hasSheet hX, inR_e1 ha, inR_e1 ha2, i10, if_false, rX_0_4 hX, ix_nI (show k1 < 2 ^ 31 by omega), ix_nI (show k2 < 2 ^ 31 by omega), ix_nI (show p' < 2 ^ 31 by omega), ix_nI (show t' < 2 ^ 31 by omega), ix_nI (show z'' < 2 ^ 31 by omega), rX_sh hX hk1', rX_sh hX hk2', rX_sr hX hk1', rX_sr hX hk2', q1, r1, if_neg c1, if_neg c2, if_pos e, e_hasStretch (kX_sh hX hk1') q3 q4, e_hasStretch (kX_sh hX hk2') r3 r4, bI_t hs1, bI_t hs2, cpc, nX_sr hX hk1', nX_sr hX hk2', cK_of (kX_sr hX hk1'), cK_of (kX_sr hX hk2'), f1, f2, f3, f4, f5, cK_of (kX_0 hX), cA_of (kX_163 hX) (nX_163 hX) hk1' (by decide), cA_of (kX_163 hX) (nX_163 hX) hk2' (by decide), cK_of (kX_sh hX hk1'), cK_of (kX_sh hX hk2'), Bool.and_true]
                · generalize hσ' : rL σ (X + 165 + 2 * k2) (va_cpy (SL σ (X + 165 + 2 * k1)) (SL σ (X + 165 + 2 * k2)) p' t' z'') = σ'
                  generalize hρ' : rL (rL (stn ρ (Shn σ)) (Y + 19) (wf (fun j => SL (stn ρ (Shn σ)) (Y + 6) (24 * k1 + p' + j)) (SL (stn ρ (Shn σ)) (Y + 19)) 0 z'')) (Y + 6) (wf (fun j => wf (fun j => SL (stn ρ (Shn σ)) (Y + 6) (24 * k1 + p' + j)) (SL (stn ρ (Shn σ)) (Y + 19)) 0 z'' (j - (24 * k2 + t'))) (SL (stn ρ (Shn σ)) (Y + 6)) (24 * k2 + t') z'') = ρ'
                  have hC : SI σ' = SI σ := by rw [← hσ', SI_rL]
                  have hM : SI ρ' = SI ρ := by rw [← hρ', SI_rL, SI_rL, SI_stn]
                  have hM6 : ∀ j, SL ρ' (Y + 6) j = if 24 * k2 + t' ≤ j ∧ j < 24 * k2 + t' + z'' then SL ρ (Y + 6) (24 * k1 + p' + (j - (24 * k2 + t'))) else SL ρ (Y + 6) j := fun j => by
                    rw [← hρ', SL_rL, up1_s]
                    unfold wf
                    by_cases y : 24 * k2 + t' ≤ j ∧ j < 24 * k2 + t' + z''
                    · rw [if_pos y, if_pos y]
                      show (if 0 ≤ j - (24 * k2 + t') ∧ j - (24 * k2 + t') < 0 + z'' then _ else _) = _
                      rw [if_pos (by omega)]; rfl
                    · rw [if_neg y, if_neg y]; rfl
                  refine REL_g h (by rw [← hσ', Shn_rL]) (by rw [← hσ', Stk_rL]) (by rw [← hσ', Sln_rL]) (by rw [← hσ', SR_rL]) (by rw [← hσ', Scs_rL]) (fun a _ => by rw [hC]) (by rw [hC]) (by rw [← hρ', Stk_rL, Stk_rL, Stk_stn]) (by rw [← hρ', Sln_rL, Sln_rL, Sln_stn]) (by rw [← hρ', SR_rL, SR_rL, SR_stn]) (by rw [hM]) (by rw [hM]) (by rw [hM]) (rTape_c h.2.2.2.2.2.2.2.1 (by rw [hC]) (by rw [hC]) (by rw [hM]) (by rw [hM])) ?_ (rTell_c h.2.2.2.2.2.2.2.2.2 (by rw [hC]) (by rw [hC]) (by rw [hM]) (by rw [hM]))
                  intro k' hk'
                  obtain ⟨s1, s2, m', s3, s4, s5, s6⟩ := h.2.2.2.2.2.2.2.2.1 k' hk'
                  rw [hC, hM]
                  refine ⟨s1, s2, m', s3, s4, s5, fun j hj => ?_⟩
                  rw [hM6]
                  by_cases ek : k' = k2
                  · subst ek
                    rw [← hσ', SL_rL, up1_s]
                    unfold va_cpy
                    by_cases y : t' ≤ j ∧ j < t' + z''
                    · rw [if_pos y, if_pos (by omega), q6 _ (by omega)]
                      congr 1
                      omega
                    · rw [if_neg y, if_neg (by omega)]
                      exact s6 j hj
                  · rw [← hσ', SL_rL, up1_ne' (by omega), if_neg (by omega)]
                    exact s6 j hj
              · rw [if_neg (fun y => hs2 y.2)] at eM
                refine OpOK_b (-1000000013) h ?_ eM
                unfold f_Trail_copy
                simp only [bd_, lt_, e_hasSheet hX, inR_e1 ha, inR_e1 ha2, i10, if_false, if_true, rX_0_4 hX, ix_nI (show k1 < 2 ^ 31 by omega), ix_nI (show k2 < 2 ^ 31 by omega), rX_sh hX hk1', rX_sh hX hk2', q1, r1, if_neg c1, if_neg c2, if_pos e, e_hasStretch (kX_sh hX hk1') q3 q4, e_hasStretch (kX_sh hX hk2') r3 r4, bI_t hs1, bI_f hs2, cK_of (kX_0 hX), cA_of (kX_163 hX) (nX_163 hX) hk1' (by decide), cA_of (kX_163 hX) (nX_163 hX) hk2' (by decide), cK_of (kX_sh hX hk1'), cK_of (kX_sh hX hk2'), Bool.and_true]
            · rw [if_neg (fun y => hs1 y.1)] at eM
              refine OpOK_b (-1000000013) h ?_ eM
              unfold f_Trail_copy
              simp only [bd_, lt_, e_hasSheet hX, inR_e1 ha, inR_e1 ha2, i10, if_false, if_true, rX_0_4 hX, ix_nI (show k1 < 2 ^ 31 by omega), ix_nI (show k2 < 2 ^ 31 by omega), rX_sh hX hk1', rX_sh hX hk2', q1, r1, if_neg c1, if_neg c2, if_pos e, e_hasStretch (kX_sh hX hk1') q3 q4, bI_f hs1, cK_of (kX_0 hX), cA_of (kX_163 hX) (nX_163 hX) hk1' (by decide), cA_of (kX_163 hX) (nX_163 hX) hk2' (by decide), cK_of (kX_sh hX hk1'), cK_of (kX_sh hX hk2'), Bool.and_true]
          · refine OpOK_b (-1000000012) h ?_ ?_
            · unfold f_Trail_copy
              simp only [bd_, lt_, e_hasSheet hX, inR_e1 ha, inR_e1 ha2, i10, if_false, rX_0_4 hX, ix_nI (show k1 < 2 ^ 31 by omega), ix_nI (show k2 < 2 ^ 31 by omega), rX_sh hX hk1', rX_sh hX hk2', q1, r1, if_neg c1, if_neg c2, if_neg e, cK_of (kX_0 hX), cA_of (kX_163 hX) (nX_163 hX) hk1' (by decide), cA_of (kX_163 hX) (nX_163 hX) hk2' (by decide), cK_of (kX_sh hX hk1'), cK_of (kX_sh hX hk2'), Bool.and_true]
            · show f_Model_copy Y (nI k1) p (nI k2) t z true (stn ρ (Shn σ)) = _
              rw [f_Model_copy, e_isSheet, inR_e1 ha, bd_, lt_, if_neg (show ¬ (1 : Int32) = 0 by decide), e_isSheet, inR_e1 ha2, bd_, if_neg (show ¬ (1 : Int32) = 0 by decide), lt_]
              simp only [rY_4 hY, SI_stn, ix_nI (show k1 < 2 ^ 31 by omega), ix_nI (show k2 < 2 ^ 31 by omega), cK_of (kY_0 hY), cA_of (kY_4 hY) (nY_4 hY) hk1' (by decide), cA_of (kY_4 hY) (nY_4 hY) hk2' (by decide), Bool.and_true]
              rw [if_neg n1, if_neg n2, if_neg e]
    · refine OpOK_b (-1000000001) h ?_ ?_
      · unfold f_Trail_copy
        simp only [bd_, lt_, e_hasSheet hX, inR_e1 ha, inR_e0 ha2, i10, if_false, if_true, cK_of (kX_0 hX), Bool.and_true]
      · show f_Model_copy Y a p a2 t z true (stn ρ (Shn σ)) = _
        rw [f_Model_copy, e_isSheet, inR_e1 ha, bd_, lt_, if_neg (show ¬ (1 : Int32) = 0 by decide), e_isSheet, inR_e0 ha2, bd_, if_pos rfl]
  · refine OpOK_b (-1000000001) h ?_ ?_
    · unfold f_Trail_copy
      simp only [bd_, lt_, e_hasSheet hX, inR_e0 ha, if_true, cK_of (kX_0 hX), Bool.and_true]
    · show f_Model_copy Y a p a2 t z true (stn ρ (Shn σ)) = _
      rw [f_Model_copy, e_isSheet, inR_e0 ha, bd_, lt_, if_pos rfl]
end SH3
