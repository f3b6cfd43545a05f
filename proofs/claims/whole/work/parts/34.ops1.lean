/-! the calls, one by one: the simple ones -/
theorem e_isInL (x : Int32) (a c : Int64) (a' c' : Int32) (ha : a = a'.toInt64) (hc : c = c'.toInt64) (b : Bool) (σ : Sto) : f_Model_isIn x.toInt64 a c b σ = (inR x a' c', b, σ) := by
  rw [ha, hc]; exact e_isIn x a' c' b σ
section OP
variable {X Y : Nat} {σ ρ : Sto}
theorem e_becomes (hY : LayY Y ρ) (j : Nat) (hj : j < 3210) (v : Int32) : f_Model_becomes Y (nI j) v true ρ = (SI ρ (Y + 1) j, true, pI ρ (Y + 1) j v) := by
  unfold f_Model_becomes lt_
  simp only [rY_0 hY, cK_of (kY_0 hY), cA_of (kY_1 hY) (nY_1 hY) hj (by decide), ix_nI (show j < 2 ^ 31 by omega), Bool.and_true]
theorem LayY_c {ρ' : Sto} (h : LayY Y ρ) (h1 : Stk ρ' = Stk ρ) (h2 : Sln ρ' = Sln ρ) (h3 : SR ρ' = SR ρ) : LayY Y ρ' := LayT_c h h1 h2 h3
theorem rTape_c {σ' ρ' : Sto} (h : rTape X Y σ ρ) (h1 : SI σ' (X + 160) = SI σ (X + 160)) (h2 : SI σ' (X + 161) = SI σ (X + 161)) (h3 : SI ρ' Y 8 = SI ρ Y 8) (h4 : SI ρ' (Y + 7) = SI ρ (Y + 7)) : rTape X Y σ' ρ' := by
  unfold rTape; rw [h1, h2, h3, h4]; exact h
theorem rSh_c {σ' ρ' : Sto} (h : rSh X Y σ ρ) (h1 : ∀ a, X + 164 ≤ a → a ≤ X + 171 → SI σ' a = SI σ a ∧ SL σ' a = SL σ a) (h3 : SI ρ' (Y + 4) = SI ρ (Y + 4)) (h4 : SI ρ' (Y + 5) = SI ρ (Y + 5)) (h5 : SL ρ' (Y + 6) = SL ρ (Y + 6)) : rSh X Y σ' ρ' := by
  intro k hk
  rw [(h1 (X + 164 + 2 * k) (by omega) (by omega)).1, (h1 (X + 165 + 2 * k) (by omega) (by omega)).2, h3, h4, h5]
  exact h k hk
theorem rTell_c {σ' ρ' : Sto} (h : rTell X Y σ ρ) (h1 : SI σ' X 6 = SI σ X 6) (h2 : SI σ' (X + 172) = SI σ (X + 172)) (h3 : SI ρ' Y 33 = SI ρ Y 33) (h4 : SI ρ' (Y + 20) = SI ρ (Y + 20)) : rTell X Y σ' ρ' := by
  unfold rTell; rw [h1, h2, h3, h4]; exact h
/-- a write into the world that is now, and into the reference's row -/
theorem REL_now {a j j' : Nat} {v v' : Int32} {z : Nat} (h : REL X Y σ ρ) (ha : X + 1 ≤ a ∧ a ≤ X + 53) (hw : RWd X (pI σ a j v) (X + 1) (up2 (SI ρ) (Y + 1) j' v' (Y + 1))) : REL X Y (pI σ a j v) (pI (stn ρ z) (Y + 1) j' v') := by
  obtain ⟨g1, g2, g3, g4, g5, g6, g7, g8, g9, g10⟩ := h
  refine ⟨g1, g2, LayX_c g3 rfl rfl rfl, LayY_c g4 rfl rfl rfl, g5, hw, ?_, rTape_c g8 (up2_ne (by omega)) (up2_ne (by omega)) (up2_ne' (by omega)) (up2_ne (by omega)), rSh_c g9 (fun b _ _ => ⟨up2_ne (by omega), rfl⟩) (up2_ne (by omega)) (up2_ne (by omega)) rfl, rTell_c g10 (up2_ne' (by omega)) (up2_ne (by omega)) (up2_ne' (by omega)) (up2_ne (by omega))⟩
  rw [show SI (pI σ a j v) X 7 = SI σ X 7 from up2_ne' (by omega), show SI (pI (stn ρ z) (Y + 1) j' v') Y 3 = SI ρ Y 3 from up2_ne' (by omega), show SI (pI (stn ρ z) (Y + 1) j' v') (Y + 2) = SI ρ (Y + 2) from up2_ne (by omega)]
  rcases g7 with q | ⟨q1, q2, q3⟩
  · exact Or.inl q
  · exact Or.inr ⟨q1, q2, RWd_c q3 rfl rfl rfl rfl (fun b hb => up2_ne (by omega)) (fun _ _ => rfl)⟩
theorem OpOK_i {Rel : Sto → Sto → Prop} {C : Rs Int32} {R : Sto → Rs Int32} (c : Int32) (σ' ρ' : Sto) (hC : C = (c, true, σ')) (hR : R (stn ρ (Shn σ')) = (c, true, ρ')) (hn : Shn ρ' = Shn σ') (hr : Rel σ' ρ') : OpOK Rel C R ρ := by
  subst hC
  unfold OpOK
  rw [hR]
  exact ⟨rfl, rfl, rfl, hn, hr⟩
/-- nothing is written -/
theorem REL_same {z : Nat} (h : REL X Y σ ρ) : REL X Y σ (stn ρ z) := h
theorem op_29 : Op_29 X Y (REL X Y) := by
  intro v σ ρ h
  have hX := h.2.2.1
  have hY := h.2.2.2.1
  have eC : f_Trail_cost X v true σ = if 0 ≤ v ∧ v ≤ 99 then (SI σ (X + 1 + 28) 0, true, pI σ (X + 1 + 28) 0 v) else (-1000000001, true, σ) := by
    unfold f_Trail_cost
    simp only [bd_, lt_, e_within, rX_0_0 hX, rW_0_4 hX.2.1, cK_of (kX_0 hX), cK_of (kW_0 hX.2.1), cK_of (kW_28 hX.2.1), Bool.and_true]
    by_cases hv : (0 : Int32) ≤ v ∧ v ≤ 99
    · rw [if_neg (fun z => (inR_0.mp z) hv), if_pos hv]
    · rw [if_pos (inR_0.mpr hv), if_neg hv]
  have eR : ∀ ρ : Sto, LayY Y ρ → f_Model_cost Y v true ρ = if 0 ≤ v ∧ v ≤ 99 then (SI ρ (Y + 1) 10, true, pI ρ (Y + 1) 10 v) else (-1000000001, true, ρ) := by
    intro ρ hY
    unfold f_Model_cost
    rw [e_isInL v 0 99 0 99 rfl rfl]
    simp only [bd_, cK_of (kY_0 hY), Bool.and_true]
    by_cases hv : (0 : Int32) ≤ v ∧ v ≤ 99
    · rw [if_neg (fun z => (inR_0.mp z) hv), if_pos hv, show (10 : Int32) = nI 10 from rfl, e_becomes hY 10 (by decide)]
    · rw [if_pos (inR_0.mpr hv), if_neg hv]
  by_cases hv : (0 : Int32) ≤ v ∧ v ≤ 99
  · refine OpOK_i (SI σ (X + 1 + 28) 0) (pI σ (X + 1 + 28) 0 v) (pI (stn ρ (Shn σ)) (Y + 1) 10 v) (by rw [eC, if_pos hv]) ?_ rfl (REL_now h ⟨by omega, by omega⟩ ?_)
    · show f_Model_cost Y v true (stn ρ (Shn σ)) = _
      rw [eR (stn ρ (Shn σ)) hY, if_pos hv, show SI (stn ρ (Shn σ)) (Y + 1) 10 = SI σ (X + 1 + 28) 0 from h.2.2.2.2.2.1.2.2.2.1.1.symm]
    obtain ⟨g1, g2, g3, g4, g5, g6, g7, g8⟩ := h.2.2.2.2.2.1
    have hS : ∀ j, j ≠ 10 → up2 (SI ρ) (Y + 1) 10 v (Y + 1) j = SI ρ (Y + 1) j := fun j hj => up2_nj hj
    have hσ : ∀ a, a ≠ X + 1 + 28 → SI (pI σ (X + 1 + 28) 0 v) a = SI σ a := fun a ha => up2_ne ha
    obtain ⟨np, nf, hp, -, -, hp2, -⟩ := id g2
    refine ⟨rDay_c g1 (hσ _ (by omega)) (hS 0 (by omega)), rG_c g2 (fun a _ _ => hσ a (by omega)) (fun j hj => hS j (by omega)), rQ_c g3 (fun a _ _ => hσ a (by omega)) (fun j hj => hS j (by omega)), ?_, rA_c g5 (fun a _ _ => hσ a (by omega)) (fun j hj => hS j (by omega)), rB_c g6 hp hp2 (fun a _ _ => hσ a (by omega)) (fun j hj => hS j (by omega)) (fun k hk => hS _ (by omega)) (by rw [hS 2 (by omega)]; exact Int32.le_refl _) (by rw [hS 5 (by omega)]; exact Int32.le_refl _), rW_c g7 (fun a _ => hσ a (by omega)) (fun j hj => hS j (by omega)), rT_c g8 rfl rfl rfl rfl (fun a ha => hσ a (by omega)) (fun j hj => hS j (by omega))⟩
    obtain ⟨q1, q2, nr, q3, q4, q5, q6⟩ := g4
    refine ⟨?_, ?_, nr, q3, ?_, ?_, fun k hk => ?_⟩
    · show up2 (SI σ) (X + 1 + 28) 0 v (X + 1 + 28) 0 = up2 (SI ρ) (Y + 1) 10 v (Y + 1) 10
      rw [up2_s, up2_s]
    · show bd (up2 (SI ρ) (Y + 1) 10 v (Y + 1) 10) 0 99
      rw [up2_s]
      exact ⟨by simpa using Int32.le_iff_toInt_le.mp hv.1, by simpa using Int32.le_iff_toInt_le.mp hv.2⟩
    · show up2 (SI σ) (X + 1 + 28) 0 v (X + 1 + 28) 4 = _
      rw [up2_nj (by omega)]; exact q4
    · rw [hS 8 (by omega)]; exact q5
    · rw [hσ (X + 1 + 29) (by omega), hσ (X + 1 + 30) (by omega), hσ (X + 1 + 31) (by omega), hS (480 + 3 * k) (by omega), hS (481 + 3 * k) (by omega), hS (482 + 3 * k) (by omega), hS 2 (by omega)]
      exact q6 k hk
  · exact OpOK_i _ σ (stn ρ (Shn σ)) (by rw [eC, if_neg hv]) (show f_Model_cost Y v true (stn ρ (Shn σ)) = _ by rw [eR (stn ρ (Shn σ)) hY, if_neg hv]) rfl (REL_same h)
end OP
