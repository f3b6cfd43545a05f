/-! places told; shoes -/
section OP18
variable {X Y w : Nat} {σ ρ : Sto}
def bedsI (x : Int32) : Int32 := if x = 2 then 1 else if x = 3 then 1 else if x = 5 then 1 else 0
theorem e_bedsM (x : Int32) (b : Bool) (σ : Sto) : f_Model_hasBeds x b σ = (bedsI x, b, σ) := by
  unfold f_Model_hasBeds bedsI
  simp only [lt_, if_pair]
/-- which number suits a kind -/
def fitI (x v : Int32) : Int32 := if bedsI x = 0 then (if x = 4 then inR v 0 142 else if v = 0 then 1 else 0) else inR v 1 9
theorem e_suits {m : Nat} (hm : m ≤ 5) (v : Int32) (b : Bool) (σ : Sto) : f_Ground_suits (nI m) v b σ = (fitI (nI m) v, b, σ) := by
  unfold f_Ground_suits fitI
  simp only [lt_, bd_, e_within, inR_zok, Bool.and_true]
  rcases (show m = 0 ∨ m = 1 ∨ m = 2 ∨ m = 3 ∨ m = 4 ∨ m = 5 by omega) with rfl | rfl | rfl | rfl | rfl | rfl
  · rw [if_pos (show nI 0 = 0 from rfl), if_pos (show bedsI (nI 0) = 0 by decide), if_neg (show ¬ nI 0 = 4 by decide), if_pair]
  · rw [if_neg (show ¬ nI 1 = 0 by decide), if_pos (show nI 1 = 1 from rfl), if_pos (show bedsI (nI 1) = 0 by decide), if_neg (show ¬ nI 1 = 4 by decide), if_pair]
  · rw [if_neg (show ¬ nI 2 = 0 by decide), if_neg (show ¬ nI 2 = 1 by decide), if_neg (show ¬ nI 2 = 4 by decide), if_neg (show ¬ bedsI (nI 2) = 0 by decide)]
  · rw [if_neg (show ¬ nI 3 = 0 by decide), if_neg (show ¬ nI 3 = 1 by decide), if_neg (show ¬ nI 3 = 4 by decide), if_neg (show ¬ bedsI (nI 3) = 0 by decide)]
  · rw [if_neg (show ¬ nI 4 = 0 by decide), if_neg (show ¬ nI 4 = 1 by decide), if_pos (show nI 4 = 4 from rfl), if_pos (show bedsI (nI 4) = 0 by decide), if_pos (show nI 4 = 4 from rfl)]
  · rw [if_neg (show ¬ nI 5 = 0 by decide), if_neg (show ¬ nI 5 = 1 by decide), if_neg (show ¬ nI 5 = 4 by decide), if_neg (show ¬ bedsI (nI 5) = 0 by decide)]
theorem fit_bd {m : Nat} (hm : m ≤ 5) {v : Int32} (h : fitI (nI m) v = 1) : bd v 0 142 ∧ (nI m = 1 → v = 0) := by
  unfold fitI at h
  rcases (show m = 0 ∨ m = 1 ∨ m = 2 ∨ m = 3 ∨ m = 4 ∨ m = 5 by omega) with rfl | rfl | rfl | rfl | rfl | rfl
  · rw [if_pos (show bedsI (nI 0) = 0 by decide), if_neg (show ¬ nI 0 = 4 by decide)] at h
    by_cases e : v = 0
    · subst e; exact ⟨⟨by decide, by decide⟩, fun _ => rfl⟩
    · rw [if_neg e] at h; exact absurd h (by decide)
  · rw [if_pos (show bedsI (nI 1) = 0 by decide), if_neg (show ¬ nI 1 = 4 by decide)] at h
    by_cases e : v = 0
    · subst e; exact ⟨⟨by decide, by decide⟩, fun _ => rfl⟩
    · rw [if_neg e] at h; exact absurd h (by decide)
  · rw [if_neg (show ¬ bedsI (nI 2) = 0 by decide)] at h
    have := i32_bd (inR_1.mp h)
    exact ⟨⟨Int.le_trans (by decide) this.1, Int.le_trans this.2 (by decide)⟩, fun z => absurd z (by decide)⟩
  · rw [if_neg (show ¬ bedsI (nI 3) = 0 by decide)] at h
    have := i32_bd (inR_1.mp h)
    exact ⟨⟨Int.le_trans (by decide) this.1, Int.le_trans this.2 (by decide)⟩, fun z => absurd z (by decide)⟩
  · rw [if_pos (show bedsI (nI 4) = 0 by decide), if_pos (show nI 4 = 4 from rfl)] at h
    exact ⟨i32_bd (inR_1.mp h), fun z => absurd z (by decide)⟩
  · rw [if_neg (show ¬ bedsI (nI 5) = 0 by decide)] at h
    have := i32_bd (inR_1.mp h)
    exact ⟨⟨Int.le_trans (by decide) this.1, Int.le_trans this.2 (by decide)⟩, fun z => absurd z (by decide)⟩
theorem fit_01 (x v : Int32) : fitI x v = 0 ∨ fitI x v = 1 := by
  unfold fitI
  split
  · split
    · exact inR_01 _ _ _
    · split
      · exact Or.inr rfl
      · exact Or.inl rfl
  · exact inR_01 _ _ _
theorem e_placeM (hY : LayY Y ρ) {np : Nat} (hn : np ≤ 16) (p4 : SI ρ (Y + 1) 2 = nI np) (hd : ∀ j k, j < np → k < np → SI ρ (Y + 1) (31 + 4 * j) = SI ρ (Y + 1) (31 + 4 * k) → j = k) (a a2 v : Int32) : f_Model_place Y a a2 v true ρ = if inR a 0 5 = 0 then (-1000000001, true, ρ) else if inR a2 0 (SI ρ (Y + 1) 1) = 0 then (-1000000001, true, ρ) else if fitI a v = 0 then (-1000000001, true, ρ) else if plAt (fun i => SI ρ (Y + 1) (31 + 4 * i)) a2 np < 0 then (if nI np = 16 then (-1000000003, true, ρ) else (nI np, true, (pI (pI (pI (pI (pI ρ (Y + 1) (30 + 4 * np) a) (Y + 1) (30 + 4 * np + 1) a2) (Y + 1) (30 + 4 * np + 2) v) (Y + 1) (30 + 4 * np + 3) 0) (Y + 1) 2 (nI np + 1)))) else (-1000000002, true, ρ) := by
  have n0 : (2 : Nat) ≠ 30 + 4 * np := by omega
  have n1 : (2 : Nat) ≠ 30 + 4 * np + 1 := by omega
  have n2 : (2 : Nat) ≠ 30 + 4 * np + 2 := by omega
  have n3 : (2 : Nat) ≠ 30 + 4 * np + 3 := by omega
  unfold f_Model_place fitI
  simp only [bd_, lt_, rY_0 hY, cK_of (kY_0 hY), Bool.and_true, e_isMile hY, show ix (2 : Int32) = 2 from rfl, p4, cYk hY 2 (v := 2) rfl (by decide), e_bedsM, e_isInL a 0 5 0 5 rfl rfl, e_isInL v 0 142 0 142 rfl rfl, e_isInL v 1 9 1 9 rfl rfl, e_placeOnM hY hn p4 hd, e_placeAt, nI_p1 (30 + 4 * np), nI_p2 (30 + 4 * np), nI_p3 (30 + 4 * np), SR_pI, cK_pI, cA_pI, SI_pI, up2_nj n0, up2_nj n1, up2_nj n2, up2_nj n3, up2_s, ix_nI (show 30 + 4 * np < 2 ^ 31 by omega), ix_nI (show 30 + 4 * np + 1 < 2 ^ 31 by omega), ix_nI (show 30 + 4 * np + 2 < 2 ^ 31 by omega), ix_nI (show 30 + 4 * np + 3 < 2 ^ 31 by omega), cY hY (show 30 + 4 * np < 3210 by omega), cY hY (show 30 + 4 * np + 1 < 3210 by omega), cY hY (show 30 + 4 * np + 2 < 3210 by omega), cY hY (show 30 + 4 * np + 3 < 3210 by omega), Int32.add_sub_cancel]
  by_cases hb : bedsI a = 0
  · simp only [if_pos hb]
    by_cases h4 : a = 4
    · simp only [if_pos h4]
    · simp only [if_neg h4]
      by_cases h0 : v = 0
      · simp only [if_pos h0]
      · simp only [if_neg h0]
  · simp only [if_neg hb]
theorem op_1 : Op_1 X Y (REL X Y) := by
  intro a a2 v σ ρ h
  have hX := h.2.2.1
  have hY : LayY Y (stn ρ (Shn σ)) := h.2.2.2.1
  have hW := hX.2.1
  have hG := (REL_now2 h).2.1
  obtain ⟨np, nf, p1, p2, p3, p4, p5, p6, p7, p8, p9, p10, p11, p12⟩ := id hG
  have eM := e_placeM hY p1 p4 p10 a a2 v
  simp only [SI_stn] at eM
  by_cases ha : (0 : Int32) ≤ a ∧ a ≤ 5
  · obtain ⟨m, hm, rfl⟩ := in_nat (n := 5) rfl (by decide) ha.1 ha.2
    by_cases ha2 : (0 : Int32) ≤ a2 ∧ a2 ≤ SI ρ (Y + 1) 1
    · rcases fit_01 (nI m) v with hf | hf
      · refine OpOK_b (-1000000001) h ?_ ?_
        · unfold f_Trail_place
          simp only [bd_, lt_, rX_0_0 hX, rW_0_0 hW, cK_of (kX_0 hX), cK_of (kW_0 hW), cK_of (kW_1 hW), Bool.and_true, e_hasMile (kW_1 hW), p7, e_within, i10, if_false, if_true, e_placeAtC hW p1 p3, inR_e1 ha, inR_e1 ha2, e_suits hm, hf]
        · show f_Model_place Y (nI m) a2 v true (stn ρ (Shn σ)) = _
          rw [eM]
          simp only [inR_e1 ha, inR_e1 ha2, i10, if_false, hf, if_true]
      · have hpl : plAt (SI σ (X + 1 + 3)) a2 np = plAt (fun i => SI ρ (Y + 1) (31 + 4 * i)) a2 np := plAt_congr (fun k hk => (p9 k hk).2.1)
        rcases plAt_cases (fun i => SI ρ (Y + 1) (31 + 4 * i)) a2 np with ⟨hl, hno⟩ | ⟨j, hj, -, hl⟩
        · by_cases hq : np < 16
          · have hlt : nI np < (16 : Int32) := nI_lt (b := 16) hq (by decide)
            have hne : ¬ nI np = (16 : Int32) := fun e => by have := (nI_eq (b := 16) (by omega) (by decide)).mp e; omega
            obtain ⟨hbv, hbw⟩ := fit_bd hm hf
            refine OpOK_i (nI np) (pI (pI (pI (pI (pI σ (X + 1 + 2) np (nI m)) (X + 1 + 3) np a2) (X + 1 + 4) np v) (X + 1 + 5) np 0) (X + 1 + 1) 10 (nI np + 1)) (pI (pI (pI (pI (pI (stn ρ (Shn σ)) (Y + 1) (30 + 4 * np) (nI m)) (Y + 1) (30 + 4 * np + 1) a2) (Y + 1) (30 + 4 * np + 2) v) (Y + 1) (30 + 4 * np + 3) 0) (Y + 1) 2 (nI np + 1)) ?_ ?_ rfl ?_
            · have n1 : X + 1 + 1 ≠ X + 1 + 2 := by omega
              have n2 : X + 1 + 1 ≠ X + 1 + 3 := by omega
              have n3 : X + 1 + 1 ≠ X + 1 + 4 := by omega
              have n4 : X + 1 + 1 ≠ X + 1 + 5 := by omega
              unfold f_Trail_place f_Ground_addPlace
              simp only [bd_, lt_, rX_0_0 hX, rW_0_0 hW, cK_of (kX_0 hX), cK_of (kW_0 hW), cK_of (kW_1 hW), Bool.and_true, e_hasMile (kW_1 hW), p7, e_within, i10, if_false, if_true, e_placeAtC hW p1 p3, inR_e1 ha, inR_e1 ha2, e_suits hm, hf, hpl, hl, if_pos (show (-1 : Int32) < 0 by decide), p3, if_pos hlt, SR_pI, rW_1_0 hW, rW_1_1 hW, rW_1_2 hW, rW_1_3 hW, cK_pI, cA_pI, SI_pI, up2_ne' n1, up2_ne' n2, up2_ne' n3, up2_ne' n4, up2_s, ix_nI (show np < 2 ^ 31 by omega), cA_of (kW_2 hW) (nW_2 hW) hq (by decide), cA_of (kW_3 hW) (nW_3 hW) hq (by decide), cA_of (kW_4 hW) (nW_4 hW) hq (by decide), cA_of (kW_5 hW) (nW_5 hW) hq (by decide), Int32.add_sub_cancel]
            · show f_Model_place Y (nI m) a2 v true (stn ρ (Shn σ)) = _
              rw [eM]
              simp only [inR_e1 ha, inR_e1 ha2, i10, if_false, hf, hl, if_pos (show (-1 : Int32) < 0 by decide), if_neg hne]
            · have hS : ∀ i, i ≠ 2 → i < 30 + 4 * np ∨ 94 ≤ i → SI (pI (pI (pI (pI (pI (stn ρ (Shn σ)) (Y + 1) (30 + 4 * np) (nI m)) (Y + 1) (30 + 4 * np + 1) a2) (Y + 1) (30 + 4 * np + 2) v) (Y + 1) (30 + 4 * np + 3) 0) (Y + 1) 2 (nI np + 1)) (Y + 1) i = SI ρ (Y + 1) i := fun i h1 h2 => by
                rw [SI_pI, up2_nj (by omega), SI_pI, up2_nj (by omega), SI_pI, up2_nj (by omega), SI_pI, up2_nj (by omega), SI_pI, up2_nj (by omega)]; rfl
              have hS2 : SI (pI (pI (pI (pI (pI (stn ρ (Shn σ)) (Y + 1) (30 + 4 * np) (nI m)) (Y + 1) (30 + 4 * np + 1) a2) (Y + 1) (30 + 4 * np + 2) v) (Y + 1) (30 + 4 * np + 3) 0) (Y + 1) 2 (nI np + 1)) (Y + 1) 2 = nI (np + 1) := by rw [SI_pI, up2_s, nI_1]
              have hσ : ∀ b, b ≠ X + 1 + 1 → b ≠ X + 1 + 2 → b ≠ X + 1 + 3 → b ≠ X + 1 + 4 → b ≠ X + 1 + 5 → SI (pI (pI (pI (pI (pI σ (X + 1 + 2) np (nI m)) (X + 1 + 3) np a2) (X + 1 + 4) np v) (X + 1 + 5) np 0) (X + 1 + 1) 10 (nI np + 1)) b = SI σ b := fun b h0 h1 h2 h3 h4 => by
                rw [SI_pI, up2_ne h0, SI_pI, up2_ne h4, SI_pI, up2_ne h3, SI_pI, up2_ne h2, SI_pI, up2_ne h1]
              have hσ1 : ∀ j, j ≠ 10 → SI (pI (pI (pI (pI (pI σ (X + 1 + 2) np (nI m)) (X + 1 + 3) np a2) (X + 1 + 4) np v) (X + 1 + 5) np 0) (X + 1 + 1) 10 (nI np + 1)) (X + 1 + 1) j = SI σ (X + 1 + 1) j := fun j hj => by
                rw [SI_pI, up2_nj hj, SI_pI, up2_ne' (by omega), SI_pI, up2_ne' (by omega), SI_pI, up2_ne' (by omega), SI_pI, up2_ne' (by omega)]
              refine REL_W h rfl (SB_p (SB_p (SB_p (SB_p (SB_p SB_0 (by omega) (by omega)) (by omega) (by omega)) (by omega) (by omega)) (by omega) (by omega)) (by omega) (by omega)) (SB_p (SB_p (SB_p (SB_p (SB_p SB_n (by omega) (by omega)) (by omega) (by omega)) (by omega) (by omega)) (by omega) (by omega)) (by omega) (by omega)) (RWd_G (REL_now2 h) (by omega) rfl (SB_p (SB_p (SB_p (SB_p (SB_p SB_0 (by omega) (by omega)) (by omega) (by omega)) (by omega) (by omega)) (by omega) (by omega)) (by omega) (by omega)) (fun i hi => hS i (by omega) (by omega)) (by rw [hS2, p4]; exact nI_le (by omega) (by omega)) (fun k np' hk e h16 => hS _ (by omega) (by have := (nI_eq (by omega) (by omega)).mp (p4.symm.trans e); omega)) ?_)
              have hall : ∀ k, k < np + 1 → SI (pI (pI (pI (pI (pI σ (X + 1 + 2) np (nI m)) (X + 1 + 3) np a2) (X + 1 + 4) np v) (X + 1 + 5) np 0) (X + 1 + 1) 10 (nI np + 1)) (X + 1 + 2) k = (if k = np then nI m else SI σ (X + 1 + 2) k) ∧ SI (pI (pI (pI (pI (pI σ (X + 1 + 2) np (nI m)) (X + 1 + 3) np a2) (X + 1 + 4) np v) (X + 1 + 5) np 0) (X + 1 + 1) 10 (nI np + 1)) (X + 1 + 3) k = (if k = np then a2 else SI σ (X + 1 + 3) k) ∧ SI (pI (pI (pI (pI (pI σ (X + 1 + 2) np (nI m)) (X + 1 + 3) np a2) (X + 1 + 4) np v) (X + 1 + 5) np 0) (X + 1 + 1) 10 (nI np + 1)) (X + 1 + 4) k = (if k = np then v else SI σ (X + 1 + 4) k) ∧ SI (pI (pI (pI (pI (pI σ (X + 1 + 2) np (nI m)) (X + 1 + 3) np a2) (X + 1 + 4) np v) (X + 1 + 5) np 0) (X + 1 + 1) 10 (nI np + 1)) (X + 1 + 5) k = (if k = np then 0 else SI σ (X + 1 + 5) k) ∧ SI (pI (pI (pI (pI (pI (stn ρ (Shn σ)) (Y + 1) (30 + 4 * np) (nI m)) (Y + 1) (30 + 4 * np + 1) a2) (Y + 1) (30 + 4 * np + 2) v) (Y + 1) (30 + 4 * np + 3) 0) (Y + 1) 2 (nI np + 1)) (Y + 1) (30 + 4 * k) = (if k = np then nI m else SI ρ (Y + 1) (30 + 4 * k)) ∧ SI (pI (pI (pI (pI (pI (stn ρ (Shn σ)) (Y + 1) (30 + 4 * np) (nI m)) (Y + 1) (30 + 4 * np + 1) a2) (Y + 1) (30 + 4 * np + 2) v) (Y + 1) (30 + 4 * np + 3) 0) (Y + 1) 2 (nI np + 1)) (Y + 1) (31 + 4 * k) = (if k = np then a2 else SI ρ (Y + 1) (31 + 4 * k)) ∧ SI (pI (pI (pI (pI (pI (stn ρ (Shn σ)) (Y + 1) (30 + 4 * np) (nI m)) (Y + 1) (30 + 4 * np + 1) a2) (Y + 1) (30 + 4 * np + 2) v) (Y + 1) (30 + 4 * np + 3) 0) (Y + 1) 2 (nI np + 1)) (Y + 1) (32 + 4 * k) = (if k = np then v else SI ρ (Y + 1) (32 + 4 * k)) ∧ SI (pI (pI (pI (pI (pI (stn ρ (Shn σ)) (Y + 1) (30 + 4 * np) (nI m)) (Y + 1) (30 + 4 * np + 1) a2) (Y + 1) (30 + 4 * np + 2) v) (Y + 1) (30 + 4 * np + 3) 0) (Y + 1) 2 (nI np + 1)) (Y + 1) (33 + 4 * k) = (if k = np then 0 else SI ρ (Y + 1) (33 + 4 * k)) := by
                intro k hk
                have c0 : SI (pI (pI (pI (pI (pI σ (X + 1 + 2) np (nI m)) (X + 1 + 3) np a2) (X + 1 + 4) np v) (X + 1 + 5) np 0) (X + 1 + 1) 10 (nI np + 1)) (X + 1 + 2) k = if k = np then (nI m) else SI σ (X + 1 + 2) k := by
                  rw [SI_pI, up2_ne' (by omega), SI_pI, up2_ne' (by omega), SI_pI, up2_ne' (by omega), SI_pI, up2_ne' (by omega), SI_pI]
                  by_cases e : k = np
                  · rw [if_pos e, e, up2_s]
                  · rw [if_neg e, up2_nj e]
                have m0 : SI (pI (pI (pI (pI (pI (stn ρ (Shn σ)) (Y + 1) (30 + 4 * np) (nI m)) (Y + 1) (30 + 4 * np + 1) a2) (Y + 1) (30 + 4 * np + 2) v) (Y + 1) (30 + 4 * np + 3) 0) (Y + 1) 2 (nI np + 1)) (Y + 1) (30 + 4 * k) = if k = np then (nI m) else SI ρ (Y + 1) (30 + 4 * k) := by
                  rw [SI_pI, up2_nj (by omega), SI_pI, up2_nj (by omega), SI_pI, up2_nj (by omega), SI_pI, up2_nj (by omega), SI_pI]
                  by_cases e : k = np
                  · rw [if_pos e, e, up2_s]
                  · rw [if_neg e, up2_nj (by omega)]; rfl
                have c1 : SI (pI (pI (pI (pI (pI σ (X + 1 + 2) np (nI m)) (X + 1 + 3) np a2) (X + 1 + 4) np v) (X + 1 + 5) np 0) (X + 1 + 1) 10 (nI np + 1)) (X + 1 + 3) k = if k = np then a2 else SI σ (X + 1 + 3) k := by
                  rw [SI_pI, up2_ne' (by omega), SI_pI, up2_ne' (by omega), SI_pI, up2_ne' (by omega), SI_pI]
                  by_cases e : k = np
                  · rw [if_pos e, e, up2_s]
                  · rw [if_neg e, up2_nj e, SI_pI, up2_ne' (by omega)]
                have m1 : SI (pI (pI (pI (pI (pI (stn ρ (Shn σ)) (Y + 1) (30 + 4 * np) (nI m)) (Y + 1) (30 + 4 * np + 1) a2) (Y + 1) (30 + 4 * np + 2) v) (Y + 1) (30 + 4 * np + 3) 0) (Y + 1) 2 (nI np + 1)) (Y + 1) (31 + 4 * k) = if k = np then a2 else SI ρ (Y + 1) (31 + 4 * k) := by
                  rw [SI_pI, up2_nj (by omega), SI_pI, up2_nj (by omega), SI_pI, up2_nj (by omega), SI_pI]
                  by_cases e : k = np
                  · rw [if_pos e, e, show 31 + 4 * np = 30 + 4 * np + 1 by omega, up2_s]
                  · rw [if_neg e, up2_nj (by omega), SI_pI, up2_nj (by omega)]; rfl
                have c2 : SI (pI (pI (pI (pI (pI σ (X + 1 + 2) np (nI m)) (X + 1 + 3) np a2) (X + 1 + 4) np v) (X + 1 + 5) np 0) (X + 1 + 1) 10 (nI np + 1)) (X + 1 + 4) k = if k = np then v else SI σ (X + 1 + 4) k := by
                  rw [SI_pI, up2_ne' (by omega), SI_pI, up2_ne' (by omega), SI_pI]
                  by_cases e : k = np
                  · rw [if_pos e, e, up2_s]
                  · rw [if_neg e, up2_nj e, SI_pI, up2_ne' (by omega), SI_pI, up2_ne' (by omega)]
                have m2 : SI (pI (pI (pI (pI (pI (stn ρ (Shn σ)) (Y + 1) (30 + 4 * np) (nI m)) (Y + 1) (30 + 4 * np + 1) a2) (Y + 1) (30 + 4 * np + 2) v) (Y + 1) (30 + 4 * np + 3) 0) (Y + 1) 2 (nI np + 1)) (Y + 1) (32 + 4 * k) = if k = np then v else SI ρ (Y + 1) (32 + 4 * k) := by
                  rw [SI_pI, up2_nj (by omega), SI_pI, up2_nj (by omega), SI_pI]
                  by_cases e : k = np
                  · rw [if_pos e, e, show 32 + 4 * np = 30 + 4 * np + 2 by omega, up2_s]
                  · rw [if_neg e, up2_nj (by omega), SI_pI, up2_nj (by omega), SI_pI, up2_nj (by omega)]; rfl
                have c3 : SI (pI (pI (pI (pI (pI σ (X + 1 + 2) np (nI m)) (X + 1 + 3) np a2) (X + 1 + 4) np v) (X + 1 + 5) np 0) (X + 1 + 1) 10 (nI np + 1)) (X + 1 + 5) k = if k = np then 0 else SI σ (X + 1 + 5) k := by
                  rw [SI_pI, up2_ne' (by omega), SI_pI]
                  by_cases e : k = np
                  · rw [if_pos e, e, up2_s]
                  · rw [if_neg e, up2_nj e, SI_pI, up2_ne' (by omega), SI_pI, up2_ne' (by omega), SI_pI, up2_ne' (by omega)]
                have m3 : SI (pI (pI (pI (pI (pI (stn ρ (Shn σ)) (Y + 1) (30 + 4 * np) (nI m)) (Y + 1) (30 + 4 * np + 1) a2) (Y + 1) (30 + 4 * np + 2) v) (Y + 1) (30 + 4 * np + 3) 0) (Y + 1) 2 (nI np + 1)) (Y + 1) (33 + 4 * k) = if k = np then 0 else SI ρ (Y + 1) (33 + 4 * k) := by
                  rw [SI_pI, up2_nj (by omega), SI_pI]
                  by_cases e : k = np
                  · rw [if_pos e, e, show 33 + 4 * np = 30 + 4 * np + 3 by omega, up2_s]
                  · rw [if_neg e, up2_nj (by omega), SI_pI, up2_nj (by omega), SI_pI, up2_nj (by omega), SI_pI, up2_nj (by omega)]; rfl
                exact ⟨c0, c1, c2, c3, m0, m1, m2, m3⟩
              refine ⟨np + 1, nf, hq, p2, by rw [SI_pI, up2_s, nI_1], hS2, by rw [hσ1 11 (by omega)]; exact p5, by rw [hS 3 (by omega) (by omega)]; exact p6, by rw [hσ1 9 (by omega), hS 1 (by omega) (by omega)]; exact p7, by rw [hS 1 (by omega) (by omega)]; exact p8, fun k hk => ?_, fun i j hi hj e => ?_, fun k hk => ?_, fun k k1 k2 => ?_⟩
              · obtain ⟨c0, c1, c2, c3, m0, m1, m2, m3⟩ := hall k hk
                rw [c0, c1, c2, c3, m0, m1, m2, m3, hS 1 (by omega) (by omega)]
                by_cases e : k = np
                · simp only [if_pos e]
                  exact ⟨trivial, trivial, trivial, trivial, ⟨by rw [nI_toInt (by omega)]; omega, by rw [nI_toInt (by omega)]; omega⟩, i32_bd ha2, hbv, ⟨by decide, by decide⟩, hbw⟩
                · simp only [if_neg e]
                  exact p9 k (by omega)
              · obtain ⟨-, -, -, -, -, m1, -, -⟩ := hall i hi
                obtain ⟨-, -, -, -, -, m1', -, -⟩ := hall j hj
                rw [m1, m1'] at e
                by_cases ei : i = np
                · by_cases ej : j = np
                  · omega
                  · rw [if_pos ei, if_neg ej] at e
                    exact absurd e.symm (hno j (by omega))
                · by_cases ej : j = np
                  · rw [if_neg ei, if_pos ej] at e
                    exact absurd e (hno i (by omega))
                  · rw [if_neg ei, if_neg ej] at e
                    exact p10 i j (by omega) (by omega) e
              · rw [hσ (X + 1 + 7) (by omega) (by omega) (by omega) (by omega) (by omega), hσ (X + 1 + 8) (by omega) (by omega) (by omega) (by omega) (by omega), hσ (X + 1 + 9) (by omega) (by omega) (by omega) (by omega) (by omega), hσ (X + 1 + 10) (by omega) (by omega) (by omega) (by omega) (by omega), hS (100 + 4 * k) (by omega) (by omega), hS (101 + 4 * k) (by omega) (by omega), hS (102 + 4 * k) (by omega) (by omega), hS (103 + 4 * k) (by omega) (by omega), hS 1 (by omega) (by omega)]
                exact p11 k hk
              · rw [hσ (X + 1 + 6) (by omega) (by omega) (by omega) (by omega) (by omega), hS (10 + k) (by omega) (by omega)]
                exact p12 k k1 k2
          · have hq' : np = 16 := by omega
            subst hq'
            refine OpOK_b (-1000000003) h ?_ ?_
            · unfold f_Trail_place
              simp only [bd_, lt_, rX_0_0 hX, rW_0_0 hW, cK_of (kX_0 hX), cK_of (kW_0 hW), cK_of (kW_1 hW), Bool.and_true, e_hasMile (kW_1 hW), p7, e_within, i10, if_false, if_true, e_placeAtC hW p1 p3, inR_e1 ha, inR_e1 ha2, e_suits hm, hf, hpl, hl, if_pos (show (-1 : Int32) < 0 by decide), p3, if_neg (show ¬ nI 16 < (16 : Int32) by decide)]
            · show f_Model_place Y (nI m) a2 v true (stn ρ (Shn σ)) = _
              rw [eM]
              simp only [inR_e1 ha, inR_e1 ha2, i10, if_false, hf, hl, if_pos (show (-1 : Int32) < 0 by decide), if_pos (show nI 16 = (16 : Int32) from rfl)]
        · refine OpOK_b (-1000000002) h ?_ ?_
          · unfold f_Trail_place
            simp only [bd_, lt_, rX_0_0 hX, rW_0_0 hW, cK_of (kX_0 hX), cK_of (kW_0 hW), cK_of (kW_1 hW), Bool.and_true, e_hasMile (kW_1 hW), p7, e_within, i10, if_false, if_true, e_placeAtC hW p1 p3, inR_e1 ha, inR_e1 ha2, e_suits hm, hf, hpl, hl, if_neg (nI_pos (show j < 2 ^ 31 by omega))]
          · show f_Model_place Y (nI m) a2 v true (stn ρ (Shn σ)) = _
            rw [eM]
            simp only [inR_e1 ha, inR_e1 ha2, i10, if_false, hf, hl, if_neg (nI_pos (show j < 2 ^ 31 by omega))]
    · refine OpOK_b (-1000000001) h ?_ ?_
      · unfold f_Trail_place
        simp only [bd_, lt_, rX_0_0 hX, rW_0_0 hW, cK_of (kX_0 hX), cK_of (kW_0 hW), cK_of (kW_1 hW), Bool.and_true, e_hasMile (kW_1 hW), p7, e_within, i10, if_false, if_true, e_placeAtC hW p1 p3, inR_e1 ha, inR_e0 ha2]
      · show f_Model_place Y (nI m) a2 v true (stn ρ (Shn σ)) = _
        rw [eM]
        simp only [inR_e1 ha, inR_e0 ha2, i10, if_false, if_true]
  · refine OpOK_b (-1000000001) h ?_ ?_
    · unfold f_Trail_place
      simp only [bd_, lt_, rX_0_0 hX, rW_0_0 hW, cK_of (kX_0 hX), cK_of (kW_0 hW), cK_of (kW_1 hW), Bool.and_true, e_hasMile (kW_1 hW), p7, e_within, i10, if_false, if_true, e_placeAtC hW p1 p3, inR_e0 ha]
    · show f_Model_place Y a a2 v true (stn ρ (Shn σ)) = _
      rw [eM]
      simp only [inR_e0 ha, if_true]
theorem op_17 : Op_17 X Y (REL X Y) := by
  intro a σ ρ h
  have hX := h.2.2.1
  have hY : LayY Y (stn ρ (Shn σ)) := h.2.2.2.1
  have hW := hX.2.1
  have hG := (REL_now2 h).2.1
  obtain ⟨np, nf, p1, p2, p3, p4, p5, p6, p7, p8, p9, p10, p11, p12⟩ := id hG
  obtain ⟨nw, w1, w2, w3, w4⟩ := (REL_now2 h).2.2.2.2.2.2.1
  by_cases ha : (0 : Int32) ≤ a ∧ a ≤ nI nw - 1
  · obtain ⟨k, hk, rfl⟩ := in_idx (by omega) ha
    have hw1 := w4 k hk
    have es : SI σ (X + 1 + 43 + k) 5 = SI ρ (Y + 1) (130 + 20 * k) := hw1.2.2.2.2.2.1
    have em : SI σ (X + 1 + 43 + k) 6 = SI ρ (Y + 1) (130 + 20 * k + 1) := hw1.2.2.2.2.2.2.1
    have eh : SI σ (X + 1 + 43 + k) 12 = SI ρ (Y + 1) (130 + 20 * k + 8) := hw1.2.2.2.2.2.2.2.2.2.2.2.2.1
    have hpl : plAt (SI σ (X + 1 + 3)) (SI ρ (Y + 1) (130 + 20 * k + 1)) np = plAt (fun i => SI ρ (Y + 1) (31 + 4 * i)) (SI ρ (Y + 1) (130 + 20 * k + 1)) np := plAt_congr (fun k hk => (p9 k hk).2.1)
    have ew : f_Model_walks Y (nI k) true (stn ρ (Shn σ)) = (bI (SI ρ (Y + 1) (130 + 20 * k) = 1), true, stn ρ (Shn σ)) := e_walks hY (by omega)
    by_cases h1 : SI ρ (Y + 1) (130 + 20 * k) = 1
    · rcases plAt_cases (fun i => SI ρ (Y + 1) (31 + 4 * i)) (SI ρ (Y + 1) (130 + 20 * k + 1)) np with ⟨hl, -⟩ | ⟨j, hj, -, hl⟩
      · refine OpOK_b (-1000000002) h ?_ ?_
        · unfold f_Trail_shoes
          simp only [bd_, lt_, rX_0_0 hX, rW_0_0 hW, rW_0_6 hW, cK_of (kX_0 hX), cK_of (kW_0 hW), cK_of (kW_1 hW), Bool.and_true, e_hasWalker (kW_0 hW), w2, i10, if_false, if_true, inR_e1 ha, ix_nI (show k < 2 ^ 31 by omega), rW_42 hW (show k < 10 by omega), cA_of (kW_42 hW) (nW_42 hW) (show k < 10 by omega) (by decide), cK_of (kW_w hW (show k < 10 by omega)), e_placeAtC hW p1 p3, em, es, hpl, if_pos h1, hl, if_pos (show (-1 : Int32) < 0 by decide)]
        · show f_Model_shoes Y (nI k) true (stn ρ (Shn σ)) = _
          unfold f_Model_shoes
          simp only [bd_, lt_, rY_0 hY, cK_of (kY_0 hY), Bool.and_true, SI_stn, e_isWalker hY, w3, i10, if_false, if_true, inR_e1 ha, e_walkerAt, nI_p1 (130 + 20 * k), show nI (130 + 20 * k) + 8 = nI (130 + 20 * k + 8) from nI_add _ 8, cY hY (show 130 + 20 * k + 1 < 3210 by omega), ix_nI (show 130 + 20 * k + 1 < 2 ^ 31 by omega), e_placeOnM hY p1 p4 p10, ew, e_becomes hY (130 + 20 * k + 8) (by omega), bI_t h1, hl, if_pos (show (-1 : Int32) < 0 by decide)]
      · have hn0 : ¬ nI j < 0 := nI_pos (by omega)
        have hbj : bd (SI σ (X + 1 + 2) j) 0 5 := by rw [(p9 j hj).1]; exact (p9 j hj).2.2.2.2.1
        by_cases h3 : SI ρ (Y + 1) (30 + 4 * j) = 3
        · refine OpOK_i (SI ρ (Y + 1) (130 + 20 * k + 8)) (pI σ (X + 1 + 43 + k) 12 0) (pI (stn ρ (Shn σ)) (Y + 1) (130 + 20 * k + 8) 0) ?_ ?_ Shn_w ?_
          · unfold f_Trail_shoes
            simp only [bd_, lt_, rX_0_0 hX, rW_0_0 hW, rW_0_6 hW, cK_of (kX_0 hX), cK_of (kW_0 hW), cK_of (kW_1 hW), Bool.and_true, e_hasWalker (kW_0 hW), w2, i10, if_false, if_true, inR_e1 ha, ix_nI (show k < 2 ^ 31 by omega), rW_42 hW (show k < 10 by omega), cA_of (kW_42 hW) (nW_42 hW) (show k < 10 by omega) (by decide), cK_of (kW_w hW (show k < 10 by omega)), e_placeAtC hW p1 p3, em, es, hpl, if_pos h1, hl, if_neg hn0, e_isTownC hW (REL_cs h) (show j < 16 by omega) hbj, (p9 j hj).1, bI_t h3, eh]
          · show f_Model_shoes Y (nI k) true (stn ρ (Shn σ)) = _
            unfold f_Model_shoes
            simp only [bd_, lt_, rY_0 hY, cK_of (kY_0 hY), Bool.and_true, SI_stn, e_isWalker hY, w3, i10, if_false, if_true, inR_e1 ha, e_walkerAt, nI_p1 (130 + 20 * k), show nI (130 + 20 * k) + 8 = nI (130 + 20 * k + 8) from nI_add _ 8, cY hY (show 130 + 20 * k + 1 < 3210 by omega), ix_nI (show 130 + 20 * k + 1 < 2 ^ 31 by omega), e_placeOnM hY p1 p4 p10, ew, e_becomes hY (130 + 20 * k + 8) (by omega), bI_t h1, hl, if_neg hn0, e_kindOf hY (show j < 700 by omega), if_pos h3]
          · refine REL_W h Shn_pI (SB_p SB_0 (by omega) (by omega)) (SB_p SB_n (by omega) (by omega)) (RWd_W (REL_now2 h) (by omega) Shn_pI (SB_p SB_0 (by omega) (by omega)) (fun i hi => up2_nj (by omega)) (fun n' k' hn' e5 hk' hr => ?_))
            by_cases e : k' = k
            · subst e
              exact rW1_8 hr (fun j hj => up2_nj hj) up2_s (fun j hj => up2_nj hj) up2_s (by omega)
            · exact rW1_c hr (up2_ne (by omega)) (fun j hj => up2_nj (by omega))
        · refine OpOK_b (-1000000002) h ?_ ?_
          · unfold f_Trail_shoes
            simp only [bd_, lt_, rX_0_0 hX, rW_0_0 hW, rW_0_6 hW, cK_of (kX_0 hX), cK_of (kW_0 hW), cK_of (kW_1 hW), Bool.and_true, e_hasWalker (kW_0 hW), w2, i10, if_false, if_true, inR_e1 ha, ix_nI (show k < 2 ^ 31 by omega), rW_42 hW (show k < 10 by omega), cA_of (kW_42 hW) (nW_42 hW) (show k < 10 by omega) (by decide), cK_of (kW_w hW (show k < 10 by omega)), e_placeAtC hW p1 p3, em, es, hpl, if_pos h1, hl, if_neg hn0, e_isTownC hW (REL_cs h) (show j < 16 by omega) hbj, (p9 j hj).1, bI_f h3]
          · show f_Model_shoes Y (nI k) true (stn ρ (Shn σ)) = _
            unfold f_Model_shoes
            simp only [bd_, lt_, rY_0 hY, cK_of (kY_0 hY), Bool.and_true, SI_stn, e_isWalker hY, w3, i10, if_false, if_true, inR_e1 ha, e_walkerAt, nI_p1 (130 + 20 * k), show nI (130 + 20 * k) + 8 = nI (130 + 20 * k + 8) from nI_add _ 8, cY hY (show 130 + 20 * k + 1 < 3210 by omega), ix_nI (show 130 + 20 * k + 1 < 2 ^ 31 by omega), e_placeOnM hY p1 p4 p10, ew, e_becomes hY (130 + 20 * k + 8) (by omega), bI_t h1, hl, if_neg hn0, e_kindOf hY (show j < 700 by omega), if_neg h3]
    · refine OpOK_b (-1000000002) h ?_ ?_
      · unfold f_Trail_shoes
        simp only [bd_, lt_, rX_0_0 hX, rW_0_0 hW, rW_0_6 hW, cK_of (kX_0 hX), cK_of (kW_0 hW), cK_of (kW_1 hW), Bool.and_true, e_hasWalker (kW_0 hW), w2, i10, if_false, if_true, inR_e1 ha, ix_nI (show k < 2 ^ 31 by omega), rW_42 hW (show k < 10 by omega), cA_of (kW_42 hW) (nW_42 hW) (show k < 10 by omega) (by decide), cK_of (kW_w hW (show k < 10 by omega)), e_placeAtC hW p1 p3, em, es, hpl, if_neg h1]
      · show f_Model_shoes Y (nI k) true (stn ρ (Shn σ)) = _
        unfold f_Model_shoes
        simp only [bd_, lt_, rY_0 hY, cK_of (kY_0 hY), Bool.and_true, SI_stn, e_isWalker hY, w3, i10, if_false, if_true, inR_e1 ha, e_walkerAt, nI_p1 (130 + 20 * k), show nI (130 + 20 * k) + 8 = nI (130 + 20 * k + 8) from nI_add _ 8, cY hY (show 130 + 20 * k + 1 < 3210 by omega), ix_nI (show 130 + 20 * k + 1 < 2 ^ 31 by omega), e_placeOnM hY p1 p4 p10, ew, e_becomes hY (130 + 20 * k + 8) (by omega), bI_f h1]
  · refine OpOK_b (-1000000001) h ?_ ?_
    · unfold f_Trail_shoes
      simp only [bd_, lt_, rX_0_0 hX, rW_0_0 hW, rW_0_6 hW, cK_of (kX_0 hX), cK_of (kW_0 hW), cK_of (kW_1 hW), Bool.and_true, e_hasWalker (kW_0 hW), w2, i10, if_false, if_true, inR_e0 ha]
    · show f_Model_shoes Y a true (stn ρ (Shn σ)) = _
      unfold f_Model_shoes
      simp only [bd_, lt_, rY_0 hY, cK_of (kY_0 hY), Bool.and_true, SI_stn, e_isWalker hY, w3, i10, if_false, if_true, inR_e0 ha]
end OP18
