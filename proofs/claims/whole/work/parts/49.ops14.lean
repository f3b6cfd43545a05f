/-! the length; fires told -/
theorem anyI_0 {c : Nat → Bool} {n : Nat} (h : anyI c n = 0) : ∀ k, k < n → c k = false := by
  unfold anyI at h
  cases hq : findI c 0 n with
  | none => exact fun k hk => findI_none hq k (Nat.zero_le _) (by omega)
  | some j =>
    rw [hq] at h
    exact absurd h (show ¬ ((1 : Int32) = 0) by decide)
section OP14
variable {X Y w : Nat} {σ ρ : Sto}
theorem e_albumBeyond (hW : LayW w σ) {n : Nat} (hn : n ≤ 20) (q : SI σ (w + 35) 2 = nI n) (v : Int32) : f_Album_reachesBeyond (w + 35) v true σ = (anyI (fun i => decide (v < SI σ (w + 37) i)) n, true, σ) := by
  unfold f_Album_reachesBeyond anyI
  simp only [lt_]
  refine (lp_find (σ := σ) n (fun i => decide (v < SI σ (w + 37) i)) (fun _ => (1, true, σ)) (0, true, σ) (by omega) (fun L i hi => ?_) (fun L => ?_) 0 (Nat.zero_le _)).trans ?_
  · unfold b_Album_reachesBeyond_2
    simp only [lt_, q, rW_35_1 hW, cK_of (kW_35 hW), ix_nI (show i < 2 ^ 31 by omega), cA_of (kW_37 hW) (nW_37 hW) (show i < 20 by omega) (by decide), Bool.and_true, if_pos (show nI i < nI n from nI_lt hi (by omega)), decide_eq_true_eq]
  · unfold b_Album_reachesBeyond_2
    simp only [lt_, q, cK_of (kW_35 hW), Bool.and_true, if_neg (nI_nlt (Nat.le_refl n) (by omega))]
  · rw [Nat.sub_zero]
    cases findI (fun i => decide (v < SI σ (w + 37) i)) 0 n <;> rfl
theorem e_groundBeyond (hW : LayW w σ) {np nf : Nat} (hn : np ≤ 16) (hf : nf ≤ 6) (q : SI σ (w + 1) 10 = nI np) (q' : SI σ (w + 1) 11 = nI nf) (v : Int32) : f_Ground_reachesBeyond (w + 1) v true σ = (if anyI (fun i => decide (v < SI σ (w + 3) i)) np = 0 then anyI (fun i => decide (v < SI σ (w + 8) i)) nf else 1, true, σ) := by
  have e2 : lp_ (b_Ground_reachesBeyond_30 (w + 1) v) (fun (x2 : Int32) (b : Bool) (σ : Sto) => (0, false, σ)) fuel_ 0 true σ = (anyI (fun i => decide (v < SI σ (w + 8) i)) nf, true, σ) := by
    unfold anyI
    refine (lp_find (σ := σ) nf (fun i => decide (v < SI σ (w + 8) i)) (fun _ => (1, true, σ)) (0, true, σ) (by omega) (fun L i hi => ?_) (fun L => ?_) 0 (Nat.zero_le _)).trans ?_
    · unfold b_Ground_reachesBeyond_30
      simp only [lt_, q', rW_1_6 hW, cK_of (kW_1 hW), ix_nI (show i < 2 ^ 31 by omega), cA_of (kW_8 hW) (nW_8 hW) (show i < 6 by omega) (by decide), Bool.and_true, if_pos (show nI i < nI nf from nI_lt hi (by omega)), decide_eq_true_eq]
    · unfold b_Ground_reachesBeyond_30
      simp only [lt_, q', cK_of (kW_1 hW), Bool.and_true, if_neg (nI_nlt (Nat.le_refl nf) (by omega))]
    · rw [Nat.sub_zero]
      cases findI (fun i => decide (v < SI σ (w + 8) i)) 0 nf <;> rfl
  unfold f_Ground_reachesBeyond
  simp only [lt_]
  refine (lp_find (σ := σ) np (fun i => decide (v < SI σ (w + 3) i)) (fun _ => (1, true, σ)) (anyI (fun i => decide (v < SI σ (w + 8) i)) nf, true, σ) (by omega) (fun L i hi => ?_) (fun L => ?_) 0 (Nat.zero_le _)).trans ?_
  · unfold b_Ground_reachesBeyond_2
    simp only [lt_, q, rW_1_1 hW, cK_of (kW_1 hW), ix_nI (show i < 2 ^ 31 by omega), cA_of (kW_3 hW) (nW_3 hW) (show i < 16 by omega) (by decide), Bool.and_true, if_pos (show nI i < nI np from nI_lt hi (by omega)), decide_eq_true_eq]
  · unfold b_Ground_reachesBeyond_2
    simp only [lt_, q, cK_of (kW_1 hW), Bool.and_true, if_neg (nI_nlt (Nat.le_refl np) (by omega))]
    exact e2
  · rw [Nat.sub_zero]
    unfold anyI
    cases findI (fun i => decide (v < SI σ (w + 3) i)) 0 np <;> rfl
def orG (c : Nat → Bool) (k : Nat) (x : Int32) : Int32 := if x = 0 then (if c k = true then 1 else 0) else 1
theorem orG_01 {c : Nat → Bool} {n : Nat} {x : Int32} (hx : x = 0 ∨ x = 1) : foldI (orG c) 0 n x = 0 ∨ foldI (orG c) 0 n x = 1 := by
  have e : foldI (orG c) 0 n x = if x = 0 then anyI c n else 1 := fold_orI hx
  rw [e]
  split
  · exact anyI_01 c n
  · exact Or.inr rfl
abbrev lenEnd (ρ : Sto) (Y : Nat) (v x : Int32) : Rs Int32 := if x = 0 then (SI ρ (Y + 1) 1, true, pI ρ (Y + 1) 1 v) else (-1000000002, true, ρ)
theorem e_len3 (hY : LayY Y ρ) {n : Nat} (hn : n ≤ 20) (q : SI ρ (Y + 1) 9 = nI n) (v x : Int32) : lp_ (b_Model_length_115 Y v) (fun (x2 : Int32) (x3 : Int32) (b : Bool) (σ : Sto) => (0, false, σ)) fuel_ x 0 true ρ = lenEnd ρ Y v (foldI (orG (fun i => decide (v < SI ρ (Y + 1) (521 + 2 * i)))) 0 n x) := by
  refine (lp_acc (σ := ρ) n (orG (fun i => decide (v < SI ρ (Y + 1) (521 + 2 * i)))) (fun x => lenEnd ρ Y v x) (by omega) (fun L i x hi => ?_) (fun L x => ?_) 0 x (Nat.zero_le _)).trans ?_
  · unfold b_Model_length_115 orG
    simp only [bd_, lt_, rY_0 hY, show ix (9 : Int32) = 9 from rfl, q, cK_of (kY_0 hY), cYk hY 9 (v := 9) rfl (by decide), Bool.and_true, if_pos (show nI i < nI n from nI_lt hi (by omega)), show (520 : Int32) + 2 * nI i = nI (520 + 2 * i) from ar2 520 2 i, nI_p1, show 520 + 2 * i + 1 = 521 + 2 * i by omega, cY hY (show 521 + 2 * i < 3210 by omega), ix_nI (show 521 + 2 * i < 2 ^ 31 by omega), decide_eq_true_eq]
    by_cases hx : x = 0
    · rw [if_pos hx, if_pos hx]
      split <;> rfl
    · rw [if_neg hx, if_neg hx]
  · unfold b_Model_length_115 lenEnd
    simp only [bd_, lt_, rY_0 hY, show ix (9 : Int32) = 9 from rfl, q, cK_of (kY_0 hY), cYk hY 9 (v := 9) rfl (by decide), Bool.and_true, if_neg (nI_nlt (Nat.le_refl n) (by omega)), show (1 : Int32) = nI 1 from rfl, e_becomes hY 1 (by decide)]
  · rw [Nat.sub_zero]
theorem e_len2 (hY : LayY Y ρ) {n nf : Nat} (hn : n ≤ 20) (hf : nf ≤ 6) (q : SI ρ (Y + 1) 9 = nI n) (q' : SI ρ (Y + 1) 3 = nI nf) (v x : Int32) : lp_ (b_Model_length_71 Y v) (fun (x2 : Int32) (x3 : Int32) (b : Bool) (σ : Sto) => (0, false, σ)) fuel_ x 0 true ρ = lenEnd ρ Y v (foldI (orG (fun i => decide (v < SI ρ (Y + 1) (521 + 2 * i)))) 0 n (foldI (orG (fun i => decide (v < SI ρ (Y + 1) (101 + 4 * i)))) 0 nf x)) := by
  refine (lp_acc (σ := ρ) nf (orG (fun i => decide (v < SI ρ (Y + 1) (101 + 4 * i)))) (fun x => lenEnd ρ Y v (foldI (orG (fun i => decide (v < SI ρ (Y + 1) (521 + 2 * i)))) 0 n x)) (by omega) (fun L i x hi => ?_) (fun L x => ?_) 0 x (Nat.zero_le _)).trans ?_
  · unfold b_Model_length_71 orG
    simp only [bd_, lt_, rY_0 hY, show ix (3 : Int32) = 3 from rfl, q', cK_of (kY_0 hY), cYk hY 3 (v := 3) rfl (by decide), Bool.and_true, if_pos (show nI i < nI nf from nI_lt hi (by omega)), e_fireAt, nI_p1, show 100 + 4 * i + 1 = 101 + 4 * i by omega, cY hY (show 101 + 4 * i < 3210 by omega), ix_nI (show 101 + 4 * i < 2 ^ 31 by omega), decide_eq_true_eq]
    by_cases hx : x = 0
    · rw [if_pos hx, if_pos hx]
      split <;> rfl
    · rw [if_neg hx, if_neg hx]
  · unfold b_Model_length_71
    simp only [bd_, lt_, rY_0 hY, show ix (3 : Int32) = 3 from rfl, q', cK_of (kY_0 hY), cYk hY 3 (v := 3) rfl (by decide), Bool.and_true, if_neg (nI_nlt (Nat.le_refl nf) (by omega))]
    exact e_len3 hY hn q v x
  · rw [Nat.sub_zero]
theorem e_len1 (hY : LayY Y ρ) {n nf np : Nat} (hn : n ≤ 20) (hf : nf ≤ 6) (hp : np ≤ 16) (q : SI ρ (Y + 1) 9 = nI n) (q' : SI ρ (Y + 1) 3 = nI nf) (q'' : SI ρ (Y + 1) 2 = nI np) (v x : Int32) : lp_ (b_Model_length_34 Y v) (fun (x2 : Int32) (x3 : Int32) (b : Bool) (σ : Sto) => (0, false, σ)) fuel_ x 0 true ρ = lenEnd ρ Y v (foldI (orG (fun i => decide (v < SI ρ (Y + 1) (521 + 2 * i)))) 0 n (foldI (orG (fun i => decide (v < SI ρ (Y + 1) (101 + 4 * i)))) 0 nf (foldI (orG (fun i => decide (v < SI ρ (Y + 1) (31 + 4 * i)))) 0 np x))) := by
  refine (lp_acc (σ := ρ) np (orG (fun i => decide (v < SI ρ (Y + 1) (31 + 4 * i)))) (fun x => lenEnd ρ Y v (foldI (orG (fun i => decide (v < SI ρ (Y + 1) (521 + 2 * i)))) 0 n (foldI (orG (fun i => decide (v < SI ρ (Y + 1) (101 + 4 * i)))) 0 nf x))) (by omega) (fun L i x hi => ?_) (fun L x => ?_) 0 x (Nat.zero_le _)).trans ?_
  · unfold b_Model_length_34 orG
    simp only [bd_, lt_, rY_0 hY, show ix (2 : Int32) = 2 from rfl, q'', cK_of (kY_0 hY), cYk hY 2 (v := 2) rfl (by decide), Bool.and_true, if_pos (show nI i < nI np from nI_lt hi (by omega)), e_mileOf hY (show i < 700 by omega), decide_eq_true_eq]
    by_cases hx : x = 0
    · rw [if_pos hx, if_pos hx]
      split <;> rfl
    · rw [if_neg hx, if_neg hx]
  · unfold b_Model_length_34
    simp only [bd_, lt_, rY_0 hY, show ix (2 : Int32) = 2 from rfl, q'', cK_of (kY_0 hY), cYk hY 2 (v := 2) rfl (by decide), Bool.and_true, if_neg (nI_nlt (Nat.le_refl np) (by omega))]
    exact e_len2 hY hn hf q q' v x
  · rw [Nat.sub_zero]
theorem op_0 : Op_0 X Y (REL X Y) := by
  intro v σ ρ h
  have hX := h.2.2.1
  have hY : LayY Y (stn ρ (Shn σ)) := h.2.2.2.1
  have hW := hX.2.1
  have hG := (REL_now2 h).2.1
  obtain ⟨np, nf, p1, p2, p3, p4, p5, p6, p7, p8, p9, p10, p11, p12⟩ := id hG
  obtain ⟨na, a1, a2, a3, a4⟩ := (REL_now2 h).2.2.2.2.1
  obtain ⟨nw, w1, w2, w3, w4⟩ := (REL_now2 h).2.2.2.2.2.2.1
  by_cases hv : (20 : Int32) ≤ v ∧ v ≤ 2000
  · have c1 : anyI (fun i => decide (v < SI σ (X + 1 + 3) i)) np = anyI (fun i => decide (v < SI ρ (Y + 1) (31 + 4 * i))) np := anyI_congr (fun k hk => by rw [(p9 k hk).2.1])
    have c2 : anyI (fun i => decide (v < SI σ (X + 1 + 8) i)) nf = anyI (fun i => decide (v < SI ρ (Y + 1) (101 + 4 * i))) nf := anyI_congr (fun k hk => by rw [(p11 k hk).2.1])
    have c3 : anyI (fun i => decide (v < SI σ (X + 1 + 37) i)) na = anyI (fun i => decide (v < SI ρ (Y + 1) (521 + 2 * i))) na := anyI_congr (fun k hk => by rw [(a4 k hk).2.1])
    have f1 : ∀ x : Int32, x = 0 ∨ x = 1 → foldI (orG (fun i => decide (v < SI ρ (Y + 1) (31 + 4 * i)))) 0 np x = if x = 0 then anyI (fun i => decide (v < SI ρ (Y + 1) (31 + 4 * i))) np else 1 := fun x hx => fold_orI hx
    have f2 : ∀ x : Int32, x = 0 ∨ x = 1 → foldI (orG (fun i => decide (v < SI ρ (Y + 1) (101 + 4 * i)))) 0 nf x = if x = 0 then anyI (fun i => decide (v < SI ρ (Y + 1) (101 + 4 * i))) nf else 1 := fun x hx => fold_orI hx
    have f3 : ∀ x : Int32, x = 0 ∨ x = 1 → foldI (orG (fun i => decide (v < SI ρ (Y + 1) (521 + 2 * i)))) 0 na x = if x = 0 then anyI (fun i => decide (v < SI ρ (Y + 1) (521 + 2 * i))) na else 1 := fun x hx => fold_orI hx
    have eL : ∀ x, lp_ (b_Model_length_34 Y v) (fun (x2 : Int32) (x3 : Int32) (b : Bool) (σ : Sto) => (0, false, σ)) fuel_ x 0 true (stn ρ (Shn σ)) = lenEnd (stn ρ (Shn σ)) Y v (foldI (orG (fun i => decide (v < SI ρ (Y + 1) (521 + 2 * i)))) 0 na (foldI (orG (fun i => decide (v < SI ρ (Y + 1) (101 + 4 * i)))) 0 nf (foldI (orG (fun i => decide (v < SI ρ (Y + 1) (31 + 4 * i)))) 0 np x))) := fun x => e_len1 hY a1 p2 p1 a3 p6 p4 v x
    by_cases hn : nw = 0
    · subst hn
      have z0 : ¬ (0 : Int32) < nI 0 := by decide
      rcases anyI_01 (fun i => decide (v < SI ρ (Y + 1) (31 + 4 * i))) np with g1 | g1
      · rcases anyI_01 (fun i => decide (v < SI ρ (Y + 1) (101 + 4 * i))) nf with g2 | g2
        · rcases anyI_01 (fun i => decide (v < SI ρ (Y + 1) (521 + 2 * i))) na with g3 | g3
          · refine OpOK_i (SI ρ (Y + 1) 1) (pI σ (X + 1 + 1) 9 v) (pI (stn ρ (Shn σ)) (Y + 1) 1 v) ?_ ?_ Shn_w ?_
            · unfold f_Trail_length
              simp only [bd_, lt_, rX_0_0 hX, rW_0_0 hW, rW_0_5 hW, cK_of (kX_0 hX), cK_of (kW_0 hW), cK_of (kW_1 hW), cK_of (kW_35 hW), Bool.and_true, e_within, i10, if_false, if_true, w2, e_groundBeyond hW p1 p2 p3 p5, e_albumBeyond hW a1 a2, inR_e1 hv, if_neg z0, c1, c2, c3, g1, g2, g3, p7]
            · show f_Model_length Y v true (stn ρ (Shn σ)) = _
              unfold f_Model_length
              simp only [bd_, lt_, rY_0 hY, cK_of (kY_0 hY), Bool.and_true, SI_stn, i10, if_false, if_true, cYk hY 5 (v := 5) rfl (by decide), show ix (5 : Int32) = 5 from rfl, w3, e_isInL v 20 2000 20 2000 rfl rfl, inR_e1 hv, if_neg z0]
              rw [eL 0, f1 0 (Or.inl rfl), if_pos rfl, g1, f2 0 (Or.inl rfl), if_pos rfl, g2, f3 0 (Or.inl rfl), if_pos rfl, g3]
              rfl
            · have hS : ∀ j, j ≠ 1 → SI (pI (stn ρ (Shn σ)) (Y + 1) 1 v) (Y + 1) j = SI ρ (Y + 1) j := fun j hj => up2_nj hj
              have hS1 : SI (pI (stn ρ (Shn σ)) (Y + 1) 1 v) (Y + 1) 1 = v := up2_s
              have hσ : ∀ b, b ≠ X + 1 + 1 → SI (pI σ (X + 1 + 1) 9 v) b = SI σ b := fun b hb => up2_ne hb
              have hσ1 : ∀ j, j ≠ 9 → SI (pI σ (X + 1 + 1) 9 v) (X + 1 + 1) j = SI σ (X + 1 + 1) j := fun j hj => up2_nj hj
              have hbv := i32_bd hv
              refine REL_W h Shn_pI (SB_p SB_0 (by omega) (by omega)) (SB_p SB_n (by omega) (by omega)) ?_
              obtain ⟨g1', g2', g3', g4', g5', g6', g7', g8'⟩ := REL_now2 h
              refine ⟨rDay_c g1' (hσ _ (by omega)) (hS 0 (by omega)), ?_, rQ_c g3' (fun a _ _ => hσ a (by omega)) (fun j hj => hS j (by omega)), rS_c g4' (fun a _ _ => hσ a (by omega)) (fun j hj => hS j (by omega)) (by rw [hS 2 (by omega)]; exact Int32.le_refl _), ?_, rB_c g6' p1 p4 (fun a _ _ => hσ a (by omega)) (fun j hj => hS j (by omega)) (fun k hk => hS _ (by omega)) (by rw [hS 2 (by omega)]; exact Int32.le_refl _) (by rw [hS 5 (by omega)]; exact Int32.le_refl _), ⟨0, by omega, by rw [hσ _ (by omega)]; exact w2, by rw [hS 5 (by omega)]; exact w3, fun k hk => absurd hk (by omega)⟩, rT_c g8' Shn_pI rfl rfl rfl (fun a ha => hσ a (by omega)) (fun j hj => hS j (by omega))⟩
              · refine ⟨np, nf, p1, p2, by rw [hσ1 10 (by omega)]; exact p3, by rw [hS 2 (by omega)]; exact p4, by rw [hσ1 11 (by omega)]; exact p5, by rw [hS 3 (by omega)]; exact p6, by rw [hS1]; exact up2_s, by rw [hS1]; exact hbv, fun k hk => ?_, fun i j hi hj => ?_, fun k hk => ?_, fun k k1 k2 => ?_⟩
                · rw [hσ (X + 1 + 2) (by omega), hσ (X + 1 + 3) (by omega), hσ (X + 1 + 4) (by omega), hσ (X + 1 + 5) (by omega), hS (30 + 4 * k) (by omega), hS (31 + 4 * k) (by omega), hS (32 + 4 * k) (by omega), hS (33 + 4 * k) (by omega), hS1]
                  obtain ⟨b0, b1, b2, b3, b4, b5, b6, b7, b8⟩ := p9 k hk
                  exact ⟨b0, b1, b2, b3, b4, ⟨b5.1, Int32.le_iff_toInt_le.mp (Int32.not_lt.mp (of_decide_eq_false (anyI_0 g1 k hk)))⟩, b6, b7, b8⟩
                · rw [hS (31 + 4 * i) (by omega), hS (31 + 4 * j) (by omega)]
                  exact p10 i j hi hj
                · rw [hσ (X + 1 + 7) (by omega), hσ (X + 1 + 8) (by omega), hσ (X + 1 + 9) (by omega), hσ (X + 1 + 10) (by omega), hS (100 + 4 * k) (by omega), hS (101 + 4 * k) (by omega), hS (102 + 4 * k) (by omega), hS (103 + 4 * k) (by omega), hS1]
                  obtain ⟨b0, b1, b2, b3, b4, b5, b6, b7, b8⟩ := p11 k hk
                  exact ⟨b0, b1, b2, b3, b4, ⟨b5.1, Int32.le_iff_toInt_le.mp (Int32.not_lt.mp (of_decide_eq_false (anyI_0 g2 k hk)))⟩, b6, b7, b8⟩
                · rw [hσ (X + 1 + 6) (by omega), hS (10 + k) (by omega)]
                  exact p12 k k1 k2
              · refine ⟨na, a1, by rw [hσ _ (by omega)]; exact a2, by rw [hS 9 (by omega)]; exact a3, fun k hk => ?_⟩
                rw [hσ (X + 1 + 36) (by omega), hσ (X + 1 + 37) (by omega), hS (520 + 2 * k) (by omega), hS (521 + 2 * k) (by omega), hS1]
                obtain ⟨b0, b1, b2, b3⟩ := a4 k hk
                exact ⟨b0, b1, b2, ⟨b3.1, Int32.le_iff_toInt_le.mp (Int32.not_lt.mp (of_decide_eq_false (anyI_0 g3 k hk)))⟩⟩
          · refine OpOK_b (-1000000002) h ?_ ?_
            · unfold f_Trail_length
              simp only [bd_, lt_, rX_0_0 hX, rW_0_0 hW, rW_0_5 hW, cK_of (kX_0 hX), cK_of (kW_0 hW), cK_of (kW_1 hW), cK_of (kW_35 hW), Bool.and_true, e_within, i10, if_false, if_true, w2, e_groundBeyond hW p1 p2 p3 p5, e_albumBeyond hW a1 a2, inR_e1 hv, if_neg z0, c1, c2, c3, g1, g2, g3]
            · show f_Model_length Y v true (stn ρ (Shn σ)) = _
              unfold f_Model_length
              simp only [bd_, lt_, rY_0 hY, cK_of (kY_0 hY), Bool.and_true, SI_stn, i10, if_false, if_true, cYk hY 5 (v := 5) rfl (by decide), show ix (5 : Int32) = 5 from rfl, w3, e_isInL v 20 2000 20 2000 rfl rfl, inR_e1 hv, if_neg z0]
              rw [eL 0, f1 0 (Or.inl rfl), if_pos rfl, g1, f2 0 (Or.inl rfl), if_pos rfl, g2, f3 0 (Or.inl rfl), if_pos rfl, g3]
              rfl
        · refine OpOK_b (-1000000002) h ?_ ?_
          · unfold f_Trail_length
            simp only [bd_, lt_, rX_0_0 hX, rW_0_0 hW, rW_0_5 hW, cK_of (kX_0 hX), cK_of (kW_0 hW), cK_of (kW_1 hW), cK_of (kW_35 hW), Bool.and_true, e_within, i10, if_false, if_true, w2, e_groundBeyond hW p1 p2 p3 p5, e_albumBeyond hW a1 a2, inR_e1 hv, if_neg z0, c1, c2, c3, g1, g2]
          · show f_Model_length Y v true (stn ρ (Shn σ)) = _
            unfold f_Model_length
            simp only [bd_, lt_, rY_0 hY, cK_of (kY_0 hY), Bool.and_true, SI_stn, i10, if_false, if_true, cYk hY 5 (v := 5) rfl (by decide), show ix (5 : Int32) = 5 from rfl, w3, e_isInL v 20 2000 20 2000 rfl rfl, inR_e1 hv, if_neg z0]
            rw [eL 0, f1 0 (Or.inl rfl), if_pos rfl, g1, f2 0 (Or.inl rfl), if_pos rfl, g2, f3 1 (Or.inr rfl)]
            rfl
      · refine OpOK_b (-1000000002) h ?_ ?_
        · unfold f_Trail_length
          simp only [bd_, lt_, rX_0_0 hX, rW_0_0 hW, rW_0_5 hW, cK_of (kX_0 hX), cK_of (kW_0 hW), cK_of (kW_1 hW), cK_of (kW_35 hW), Bool.and_true, e_within, i10, if_false, if_true, w2, e_groundBeyond hW p1 p2 p3 p5, e_albumBeyond hW a1 a2, inR_e1 hv, if_neg z0, c1, c2, c3, g1]
        · show f_Model_length Y v true (stn ρ (Shn σ)) = _
          unfold f_Model_length
          simp only [bd_, lt_, rY_0 hY, cK_of (kY_0 hY), Bool.and_true, SI_stn, i10, if_false, if_true, cYk hY 5 (v := 5) rfl (by decide), show ix (5 : Int32) = 5 from rfl, w3, e_isInL v 20 2000 20 2000 rfl rfl, inR_e1 hv, if_neg z0]
          rw [eL 0, f1 0 (Or.inl rfl), if_pos rfl, g1, f2 1 (Or.inr rfl), if_neg (by decide), f3 1 (Or.inr rfl)]
          rfl
    · have z0 : (0 : Int32) < nI nw := nI_lt (a := 0) (by omega) (by omega)
      refine OpOK_b (-1000000002) h ?_ ?_
      · unfold f_Trail_length
        simp only [bd_, lt_, rX_0_0 hX, rW_0_0 hW, rW_0_5 hW, cK_of (kX_0 hX), cK_of (kW_0 hW), cK_of (kW_1 hW), cK_of (kW_35 hW), Bool.and_true, e_within, i10, if_false, if_true, w2, e_groundBeyond hW p1 p2 p3 p5, e_albumBeyond hW a1 a2, inR_e1 hv, if_pos z0]
      · show f_Model_length Y v true (stn ρ (Shn σ)) = _
        unfold f_Model_length
        simp only [bd_, lt_, rY_0 hY, cK_of (kY_0 hY), Bool.and_true, SI_stn, i10, if_false, if_true, cYk hY 5 (v := 5) rfl (by decide), show ix (5 : Int32) = 5 from rfl, w3, e_isInL v 20 2000 20 2000 rfl rfl, inR_e1 hv, if_pos z0]
        rw [eL 1, f1 1 (Or.inr rfl), if_neg (by decide), f2 1 (Or.inr rfl), if_neg (by decide), f3 1 (Or.inr rfl)]
        rfl
  · refine OpOK_b (-1000000001) h ?_ ?_
    · unfold f_Trail_length
      simp only [bd_, lt_, rX_0_0 hX, rW_0_0 hW, rW_0_5 hW, cK_of (kX_0 hX), cK_of (kW_0 hW), cK_of (kW_1 hW), cK_of (kW_35 hW), Bool.and_true, e_within, i10, if_false, if_true, w2, e_groundBeyond hW p1 p2 p3 p5, e_albumBeyond hW a1 a2, inR_e0 hv]
    · show f_Model_length Y v true (stn ρ (Shn σ)) = _
      unfold f_Model_length
      simp only [bd_, lt_, rY_0 hY, cK_of (kY_0 hY), Bool.and_true, SI_stn, i10, if_false, if_true, cYk hY 5 (v := 5) rfl (by decide), show ix (5 : Int32) = 5 from rfl, w3, e_isInL v 20 2000 20 2000 rfl rfl, inR_e0 hv]
end OP14
