/-! proved, the call -/
section PR2
variable {X Y w : Nat} {σ ρ : Sto} {S : Nat → Int32}
theorem fbP_congr2 {M E M' E' ml ml' : Nat → Int32} : ∀ {k : Nat}, (∀ b, b < k → M b = M' b ∧ E b = E' b ∧ ml b = ml' b) → fbP M E ml k = fbP M' E' ml' k
  | 0, _ => rfl
  | k + 1, h => by
    have ih := fbP_congr2 (k := k) (fun b hb => h b (by omega))
    unfold fbP
    rw [ih]
    cases hb : fbP M' E' ml' k with
    | none => rfl
    | some y =>
      have hy := fbP_in hb
      dsimp only
      rw [(h y (by omega)).1, (h y (by omega)).2.1, (h y (by omega)).2.2, (h k (by omega)).1, (h k (by omega)).2.1, (h k (by omega)).2.2]
theorem op_35 : Op_35 X Y (REL X Y) := by
  intro v x2 σ ρ h
  have hX := h.2.2.1
  have hY : LayY Y (stn ρ (Shn σ)) := h.2.2.2.1
  have hW := hX.2.1
  obtain ⟨n, a1, a2, a3, a4⟩ := (REL_now2 h).2.2.2.2.1
  by_cases hv : (1 : Int32) ≤ v ∧ v ≤ 99
  · by_cases hx : x2 < 0
    · refine OpOK_b (-1000000001) h ?_ ?_
      · unfold f_Trail_proved
        simp only [bd_, lt_, e_within, inR_e1 hv, i10, if_false, if_pos hx]
      · show f_Model_proved Y v x2 true (stn ρ (Shn σ)) = _
        unfold f_Model_proved
        simp only [bd_, lt_, e_isInL v 1 99 1 99 rfl rfl, inR_e1 hv, i10, if_false, if_pos hx]
    · have hb : ∀ k, k < n → bd (SI ρ (Y + 1) (520 + 2 * k)) 0 999 := fun k hk => (a4 k hk).2.2.1
      obtain ⟨τ1, τ, f1, f2, sC, eC⟩ := C_rows (S := SI ρ (Y + 1)) (v := v) hW a1 a2 (fun k hk => ⟨(a4 k hk).1, (a4 k hk).2.1⟩) hb
      have hS0 : SI (stn ρ (Shn σ)) (Y + 1) = SI ρ (Y + 1) := rfl
      have z0 : Shn (stn ρ (Shn σ)) = Shn σ := rfl
      have y1 : Stk (stn ρ (Shn σ)) = Stk ρ := rfl
      have y2 : Sln (stn ρ (Shn σ)) = Sln ρ := rfl
      have y3 : SR (stn ρ (Shn σ)) = SR ρ := rfl
      have y4 : SL (stn ρ (Shn σ)) = SL ρ := rfl
      have yx : ∀ x, SI (stn ρ (Shn σ)) x = SI ρ x := fun _ => rfl
      generalize hρ0 : stn ρ (Shn σ) = ρ0 at *
      obtain ⟨υ, f3, sM, eM⟩ := M_rows (v := v) hY hS0 a1 a3 hb
      have hL : LayX X τ := LayX_c hX (by rw [f2.2.1, f1.2.1]) (by rw [f2.2.2.1, f1.2.2.1]) (by rw [f2.2.2.2.1, f1.2.2.2.1])
      have hWt := hL.2.1
      have hYu : LayY Y υ := LayY_c hY f3.2.1 f3.2.2.1 f3.2.2.2.1
      have hSu : SI υ (Y + 1) = SI ρ (Y + 1) := by rw [f3.2.2.2.2.2.2 _ (by omega), hS0]
      have cx : ∀ x, ¬ (X + 1 + 38 ≤ x ∧ x ≤ X + 1 + 41) → SI τ x = SI σ x := fun x hx => by rw [f2.2.2.2.2.2.2 x (by omega), f1.2.2.2.2.2.2 x (by omega)]
      have R : REL X Y τ υ := REL_row h (by rw [f2.1, f1.1]) (by rw [f2.2.1, f1.2.1]) (by rw [f2.2.2.1, f1.2.2.1]) (by rw [f2.2.2.2.1, f1.2.2.2.1]) (fun x _ _ => by rw [f2.2.2.2.2.1, f1.2.2.2.2.1]) (by rw [f2.2.2.2.2.2.1, f1.2.2.2.2.2.1]) (fun x hx => cx x (by omega)) (by rw [f3.2.1, y1]) (by rw [f3.2.2.1, y2]) (by rw [f3.2.2.2.1, y3]) (by rw [f3.2.2.2.2.1, y4]) (fun x hx => by rw [f3.2.2.2.2.2.2 x (by omega), yx])
      have same := spA_one (dy := fun a => (SI ρ (Y + 1) (520 + 2 * a)).toInt) (K := 2 ^ 31) (fun a b hf => fw_day hb hf) (fun a => Int.le_of_lt (Int32.toInt_lt _)) sC (fun a ha => (sM a ha).1)
      have lM := lnP_of sM
      have lC : lnP (SI τ (X + 1 + 39)) (SI τ (X + 1 + 41)) n := fun a ha => by
        obtain ⟨c, c1, c2, c3⟩ := lM a ha
        refine ⟨c, c1, by rw [(same a ha).1]; exact c2, c3.imp (fun z => ⟨z.1, by rw [(same a ha).2.2]; exact z.2⟩) (fun ⟨x, x1, x2, x3, x4, x5⟩ => ⟨x, x1, by rw [(same a ha).2.2]; exact x2, x3, by rw [(same x x1).1]; exact x4, x5⟩)⟩
      have bC := C_best hWt a1 (show SI τ (X + 1 + 35) 2 = nI n by rw [cx _ (by omega)]; exact a2)
      have bM := M_best hYu hSu a1 a3 x2
      have m37 : ∀ k, k < n → SI τ (X + 1 + 37) k = SI ρ (Y + 1) (521 + 2 * k) := fun k hk => by rw [cx _ (by omega)]; exact (a4 k hk).2.1
      rw [fbP_congr2 (M' := SI υ (Y + 15)) (E' := SI υ (Y + 16)) (ml' := fun k => SI ρ (Y + 1) (521 + 2 * k)) (fun b hbn => ⟨(same b hbn).1, (same b hbn).2.1, m37 b hbn⟩)] at bC
      have eM2 : f_Model_proved Y v x2 true ρ0 = pvK Y x2 (cdO (fbP (SI υ (Y + 15)) (SI υ (Y + 16)) (fun k => SI ρ (Y + 1) (521 + 2 * k)) n)) (match fbP (SI υ (Y + 15)) (SI υ (Y + 16)) (fun k => SI ρ (Y + 1) (521 + 2 * k)) n with | none => 0 | some x => SI υ (Y + 16) x - SI ρ (Y + 1) (521 + 2 * x)) υ := by
        unfold f_Model_proved
        rw [e_isInL v 1 99 1 99 rfl rfl, bd_]
        dsimp only
        rw [lt_, inR_e1 hv, if_neg (show ¬ (1 : Int32) = 0 by decide), if_neg hx, cK_of (kY_0 hY), Bool.and_true, eM, bd_]
        dsimp only
        rw [lt_, lt_, lt_]
        exact bM
      have eC2 : f_Trail_proved X v x2 true σ = (fun x3_3 : Int32 => (if x2 = 0 then (if x3_3 < 0 then ((0 : Int32), true, τ) else (SI τ (X + 1 + 39) (ix x3_3), cA τ (X + 1 + 39) 21 x3_3, τ)) else (if x2 = 1 then (if x3_3 < 0 then (0, true, τ) else f_Album_rowMiles (X + 1 + 35) x3_3 true τ) else f_Album_pictureOfRow (X + 1 + 35) x3_3 (x2 - 2) true τ))) (cdO (fbP (SI υ (Y + 15)) (SI υ (Y + 16)) (fun k => SI ρ (Y + 1) (521 + 2 * k)) n)) := by
        unfold f_Trail_proved
        rw [e_within, bd_]
        dsimp only
        rw [lt_, inR_e1 hv, if_neg (show ¬ (1 : Int32) = 0 by decide), if_neg hx, rX_0_0 hX, rW_0_5 hW, cK_of (kX_0 hX), cK_of (kW_0 hW), cK_of (kW_35 hW)]
        simp only [Bool.and_true]
        rw [eC.trans bC, bd_]
        dsimp only
        rw [lt_, rX_0_0 hL, rW_0_5 hWt, rW_35_4 hWt, cK_of (kX_0 hL), cK_of (kW_0 hWt), cK_of (kW_35 hWt)]
        rfl
      clear bC bM eC eM
      have hz : Shn τ = Shn σ := by rw [f2.1, f1.1]
      have hz' : Shn υ = Shn σ := by rw [f3.1, z0]
      cases hf : fbP (SI υ (Y + 15)) (SI υ (Y + 16)) (fun k => SI ρ (Y + 1) (521 + 2 * k)) n with
      | none =>
        rw [hf] at eC2 eM2
        have d0 : cdO none < 0 := by decide
        by_cases c0 : x2 = 0
        · refine OpOK_j 0 (Shn σ) τ υ ?_ hz ?_ hz' R
          · rw [eC2]; dsimp only; rw [if_pos c0, if_pos d0]
          · show f_Model_proved Y v x2 true (stn ρ (Shn σ)) = _
            rw [hρ0, eM2, pvK, if_pos (by rw [c0]; decide), if_pos d0]
        · by_cases c1 : x2 = 1
          · refine OpOK_j 0 (Shn σ) τ υ ?_ hz ?_ hz' R
            · rw [eC2]; dsimp only; rw [if_neg c0, if_pos c1, if_pos d0]
            · show f_Model_proved Y v x2 true (stn ρ (Shn σ)) = _
              rw [hρ0, eM2, pvK, if_pos (by rw [c1]; decide), if_pos d0]
          · obtain ⟨W, hWW, rfl⟩ := in_nat (v := x2) (n := 2 ^ 31 - 1) (N := nI (2 ^ 31 - 1)) rfl (by decide) (Int32.not_lt.mp hx) (by rw [Int32.le_iff_toInt_le, nI_toInt (by decide)]; have := Int32.toInt_lt x2; omega)
            have n2 : 2 ≤ W := by
              rcases (show W = 0 ∨ W = 1 ∨ 2 ≤ W by omega) with z | z | z
              · rw [z] at c0; exact absurd rfl c0
              · rw [z] at c1; exact absurd rfl c1
              · exact z
            refine OpOK_j (-1000000005) (Shn σ) τ υ ?_ hz ?_ hz' R
            · rw [eC2]; dsimp only; rw [if_neg c0, if_neg c1]
              unfold f_Album_pictureOfRow
              rw [lt_, if_pos d0]
            · show f_Model_proved Y v (nI W) true (stn ρ (Shn σ)) = _
              rw [hρ0, eM2, pvK, if_neg (show ¬ nI W < 2 from nI_nlt (b := 2) n2 (by omega))]
              show lp_ (b_Model_proved_160 Y (nI W)) _ (69999 + 1) (-1) 2 true υ = _
              rw [lp_S]
              generalize lp_ (b_Model_proved_160 Y (nI W)) (fun (x5 : Int32) (x6 : Int32) (b : Bool) (σ : Sto) => ((0 : Int32), false, σ)) 69999 = G
              unfold b_Model_proved_160
              rw [lt_]
              by_cases z : (2 : Int32) < nI W
              · rw [if_pos z, if_pos (show (-1 : Int32) < 0 by decide)]
                dsimp only
                rw [e_orNone, bd_, if_pos (show (-1 : Int32) < 0 by decide)]
              · rw [if_neg z]
                dsimp only
                rw [e_orNone, bd_, if_pos (show (-1 : Int32) < 0 by decide)]
      | some x =>
        have hxn := fbP_in hf
        rw [hf] at eC2 eM2
        dsimp only at eC2 eM2
        rw [show cdO (some x) = nI x from rfl] at eC2 eM2
        have d0 : ¬ nI x < 0 := nI_pos (by omega)
        have ixx : ix (nI x) = x := ix_nI (by omega)
        obtain ⟨sx1, sx2, sx3⟩ := same x hxn
        obtain ⟨c, c1', c2', -⟩ := lM x hxn
        by_cases c0 : x2 = 0
        · refine OpOK_j (SI υ (Y + 15) x) (Shn σ) τ υ ?_ hz ?_ hz' R
          · rw [eC2, if_pos c0, if_neg d0, ixx, sx1, cA_of (kW_39 hWt) (nW_39 hWt) (show x < 20 by omega) (by decide)]
          · show f_Model_proved Y v x2 true (stn ρ (Shn σ)) = _
            rw [hρ0, eM2, pvK, if_pos (by rw [c0]; decide), if_neg d0, if_pos c0, ixx, cA_of (kY_15 hYu) (nY_15 hYu) (show x < 20 by omega) (by decide)]
            rfl
        · by_cases c1 : x2 = 1
          · refine OpOK_j (SI υ (Y + 16) x - SI ρ (Y + 1) (521 + 2 * x)) (Shn σ) τ υ ?_ hz ?_ hz' R
            · rw [eC2, if_neg c0, if_pos c1, if_neg d0, C_rm hWt (show x < 20 by omega), sx2, m37 x hxn]
            · show f_Model_proved Y v x2 true (stn ρ (Shn σ)) = _
              rw [hρ0, eM2, pvK, if_pos (by rw [c1]; decide), if_neg d0, if_neg c0]
          · obtain ⟨W, hWW, rfl⟩ := in_nat (v := x2) (n := 2 ^ 31 - 1) (N := nI (2 ^ 31 - 1)) rfl (by decide) (Int32.not_lt.mp hx) (by rw [Int32.le_iff_toInt_le, nI_toInt (by decide)]; have := Int32.toInt_lt x2; omega)
            have n2 : 2 ≤ W := by
              rcases (show W = 0 ∨ W = 1 ∨ 2 ≤ W by omega) with z | z | z
              · rw [z] at c0; exact absurd rfl c0
              · rw [z] at c1; exact absurd rfl c1
              · exact z
            have wM := M_walk hYu a1 lM (fun (x5 : Int32) (x6 : Int32) (b : Bool) (σ : Sto) => ((0 : Int32), false, σ)) c (W - 2) x 2 fuel_ hxn (by show c + 1 < 70000; omega) (by omega) c2' c1'
            rw [show 2 + (W - 2) = W by omega] at wM
            refine OpOK_j (if W - 2 < c then nI (wkP (SI υ (Y + 17)) (W - 2) x) else -1000000005) (Shn σ) τ υ ?_ hz ?_ hz' R
            · rw [eC2, if_neg c0, if_neg c1, show nI W - 2 = nI (W - 2) from nI_sub n2]
              unfold f_Album_pictureOfRow
              rw [lt_, if_neg d0, if_neg (nI_pos (by omega)), rW_35_4 hWt, ixx, sx1, c2', cK_of (kW_35 hWt), cA_of (kW_39 hWt) (nW_39 hWt) (show x < 20 by omega) (by decide)]
              by_cases z : W - 2 < c
              · rw [if_pos z, if_pos (nI_lt z (by omega)), lt_, lt_, ← wkP_congr lC (fun a ha => (same a ha).2.2) a1 (W - 2) x c hxn (by rw [sx1]; exact c2') c1' z]
                have := C_walk hWt a1 lC (fun (x3 : Int32) (x4 : Int32) (b : Bool) (σ : Sto) => ((0 : Int32), false, σ)) (W - 2) x c 0 fuel_ hxn (by show W - 2 < 70000; omega) (by omega) (by rw [sx1]; exact c2') z c1'
                rw [Nat.zero_add] at this
                exact this
              · rw [if_neg z, if_neg (nI_nlt (by omega) (by omega))]
                rfl
            · show f_Model_proved Y v (nI W) true (stn ρ (Shn σ)) = _
              rw [hρ0, eM2, pvK, if_neg (show ¬ nI W < 2 from nI_nlt (b := 2) n2 (by omega))]
              exact wM
  · refine OpOK_b (-1000000001) h ?_ ?_
    · unfold f_Trail_proved
      simp only [bd_, lt_, e_within, inR_e0 hv, if_true]
    · show f_Model_proved Y v x2 true (stn ρ (Shn σ)) = _
      unfold f_Model_proved
      simp only [bd_, lt_, e_isInL v 1 99 1 99 rfl rfl, inR_e0 hv, if_true]
end PR2
