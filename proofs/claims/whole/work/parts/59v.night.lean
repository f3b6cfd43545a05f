/-! a night -/
set_option maxRecDepth 100000 in
def nightE (h0 : Nat) (x1 : Int32) (x2_5 : Int32) (x4_8 : Int32) (x5_10 : Int32) (J246 : Bool → Sto → Rs Unit) (x6 : Int32) (b : Bool) (σ : Sto) : Rs Unit := (lt_ (fun (s0_155 : Int32) (s1_155 : Nat) (b : Bool) (σ : Sto) => (lt_ (pI σ s1_155 21 s0_155) (fun (σ_17 : Sto) => (if x6 < x4_8 then (J246 (b && cK σ s1_155 13) σ_17) else (bd_ (f_Model_landOf h0 x2_5 ((b && cK σ s1_155 13) && cK σ_17 h0 13) σ_17) (fun (r_18 : Int32) (b_18 : Bool) (σ_18 : Sto) => (bd_ (f_Model_counts h0 r_18 (0 : Int32) (b_18 && cK σ_18 h0 13) σ_18) (fun (r_19 : Int32) (b_19 : Bool) (σ_19 : Sto) => (lt_ r_19 (fun (x7_20 : Int32) => (lt_ (pI σ_19 (SR σ_19 h0 19) (ix (109 : Int32)) x2_5) (fun (σ_21 : Sto) => (lt_ (pI σ_21 (SR σ_21 h0 19) (ix (110 : Int32)) x5_10) (fun (σ_22 : Sto) => (bd_ (f_Model_walkerAt h0 x1 ((((((b_19 && cK σ_19 h0 13) && cA σ_19 (SR σ_19 h0 19) 21 (109 : Int32)) && cK σ_21 h0 13) && cA σ_21 (SR σ_21 h0 19) 21 (110 : Int32)) && cK σ_22 h0 13) && cK σ_22 h0 13) σ_22) (fun (r_23 : Int32) (b_23 : Bool) (σ_23 : Sto) => (lt_ (pI σ_23 (SR σ_22 h0 0) (ix (r_23 + (11 : Int32))) ((SI σ_23 (SR σ_22 h0 0) (ix (r_23 + (11 : Int32)))) + (1 : Int32))) (fun (σ_24 : Sto) => (bd_ (f_Model_walkerAt h0 x1 ((((b_23 && cA σ_23 (SR σ_22 h0 0) 21 (r_23 + (11 : Int32))) && cA σ_23 (SR σ_22 h0 0) 21 (r_23 + (11 : Int32))) && cK σ_24 h0 13) && cK σ_24 h0 13) σ_24) (fun (r_25 : Int32) (b_25 : Bool) (σ_25 : Sto) => (lt_ (fun (s0_244 : Int32) (s1_244 : Int32) (s2_244 : Int32) (s3_244 : Nat) (b : Bool) (σ : Sto) => (lt_ (pI σ s3_244 (ix s2_244) (s1_244 + s0_244)) (fun (σ_26 : Sto) => (J246 (b && cA σ s3_244 21 s2_244) σ_26)))) (fun J244 => (lt_ (fun (s0_243 : Int32) (s1_243 : Int32) (s2_243 : Nat) (b : Bool) (σ : Sto) => (J244 (0 : Int32) s0_243 s1_243 s2_243 b σ)) (fun J243 => (if x7_20 < 0 then (J243 (SI σ_25 (SR σ_24 h0 0) (ix (r_25 + (12 : Int32)))) (r_25 + (12 : Int32)) (SR σ_24 h0 0) (b_25 && cA σ_25 (SR σ_24 h0 0) 21 (r_25 + (12 : Int32))) σ_25) else (bd_ (f_Model_worked h0 x7_20 ((b_25 && cA σ_25 (SR σ_24 h0 0) 21 (r_25 + (12 : Int32))) && cK σ_25 h0 13) σ_25) (fun (r_27 : Int32) (b_27 : Bool) (σ_27 : Sto) => (if r_27 = 0 then (J244 (1 : Int32) (SI σ_25 (SR σ_24 h0 0) (ix (r_25 + (12 : Int32)))) (r_25 + (12 : Int32)) (SR σ_24 h0 0) b_27 σ_27) else (J243 (SI σ_25 (SR σ_24 h0 0) (ix (r_25 + (12 : Int32)))) (r_25 + (12 : Int32)) (SR σ_24 h0 0) b_27 σ_27))))))))))))))))))))))))))))) (fun J155 => (if (SI σ h0 21) < x5_10 then (J155 x5_10 h0 (b && cK σ h0 13) σ) else (J155 (SI σ h0 21) h0 ((b && cK σ h0 13) && cK σ h0 13) σ))))
theorem night88_end (h0 : Nat) (x1 x2_5 x4_8 x5_10 : Int32) (J246 : Bool → Sto → Rs Unit) (L88 : Int32 → Int32 → Bool → Sto → Rs Unit) (x6 x7 : Int32) (b : Bool) (σ : Sto) (h : ¬ x7 < x1) : b_Model_night_88 h0 x1 x2_5 x4_8 x5_10 J246 L88 x6 x7 b σ = nightE h0 x1 x2_5 x4_8 x5_10 J246 x6 b σ := by
  unfold b_Model_night_88 nightE
  rw [if_neg h]
section NI
variable {X Y w : Nat} {σ ρ : Sto}
theorem mxI_assoc (a b c : Int32) : mxI a (mxI b c) = mxI (mxI a b) c := by
  unfold mxI
  by_cases h1 : b < c
  · rw [if_pos h1]
    by_cases h2 : a < b
    · rw [if_pos h2, if_pos h1, if_pos (Int32.lt_trans h2 h1)]
    · rw [if_neg h2]
  · rw [if_neg h1]
    by_cases h2 : a < b
    · rw [if_pos h2, if_neg h1]
    · rw [if_neg h2]
      have : ¬ a < c := fun z => h1 (Int32.lt_of_le_of_lt (Int32.not_lt.mp h2) z)
      rw [if_neg this]
theorem cntT_c {S S' : Nat → Int32} (h : ∀ j, j = 0 ∨ 600 ≤ j → S' j = S j) (land key : Int32) (nt : Nat) : cntT S' land key nt = cntT S land key nt := by
  unfold cntT
  refine foldI_congr (fun k x _ _ => ?_)
  unfold ctM
  rw [h 0 (by omega), h (600 + 200 * k) (by omega), h (601 + 200 * k) (by omega), h (602 + 200 * k) (by omega), h (602 + 200 * ix x) (by omega)]
/-- the beds at a mile -/
def bedM (S : Nat → Int32) (mile : Int32) (np : Nat) : Int32 := match findI (fun i => decide (S (31 + 4 * i) = mile)) 0 np with | some j => (if bedsI (S (30 + 4 * j)) = 0 then 0 else S (32 + 4 * j)) | none => 0
theorem beds_C (h : DayI X Y w σ ρ) {np : Nat} (hp : np ≤ 16) (p3 : SI σ (w + 1) 10 = nI np) (p4 : SI ρ (Y + 1) 2 = nI np) (mile : Int32) : f_Ground_bedsAt (w + 1) mile true σ = (bedM (SI ρ (Y + 1)) mile np, true, σ) := by
  obtain ⟨h1, h2, hW, hY, h5, h6, hG, -⟩ := id h
  obtain ⟨np2, nf2, q1, q2, q3, q4, q5, q6, q7, q8, q9, q10, q11, q12⟩ := id hG
  have en : np2 = np := (nI_eq (by omega) (by omega)).mp (q4.symm.trans p4)
  subst en
  have ep := e_placeAtC hW hp p3 mile
  rw [plAt_congr (g := fun i => SI ρ (Y + 1) (31 + 4 * i)) (fun i hi => (q9 i hi).2.1)] at ep
  unfold plAt at ep
  unfold bedM f_Ground_bedsAt
  rw [cK_of (kW_1 hW), Bool.and_true, ep, bd_, lt_, lt_]
  cases hf : findI (fun i => decide (SI ρ (Y + 1) (31 + 4 * i) = mile)) 0 np2 with
  | none =>
    dsimp only
    rw [if_pos (show (-1 : Int32) < 0 by decide)]
  | some j =>
    obtain ⟨z1, z2, z3, -⟩ := findI_some hf
    have hj : j < np2 := by omega
    obtain ⟨y0, y1, y2, y3, y4, y5, y6, y7, y8⟩ := q9 j hj
    have hb : bd (SI σ (w + 2) j) 0 5 := by rw [y0]; exact y4
    dsimp only
    rw [if_neg (nI_pos (show j < 2 ^ 31 by omega)), cK_of (kW_1 hW), Bool.and_true, e_isWatC hW h5 (show j < 16 by omega) hb, bd_]
    dsimp only
    rw [y0, rW_1_2 hW, ix_nI (show j < 2 ^ 31 by omega), y2, cK_of (kW_1 hW), cA_of (kW_4 hW) (nW_4 hW) (show j < 16 by omega) (by decide)]
    obtain ⟨m, hm, em⟩ := bd_nat (n := 5) y4
    rw [em]
    rcases (show m = 0 ∨ m = 1 ∨ m = 2 ∨ m = 3 ∨ m = 4 ∨ m = 5 by omega) with rfl | rfl | rfl | rfl | rfl | rfl
    · rfl
    · rw [y8 em]; rfl
    · rfl
    · rfl
    · rfl
    · rfl
theorem beds_M (h : DayI X Y w σ ρ) {np : Nat} (hp : np ≤ 16) (p4 : SI ρ (Y + 1) 2 = nI np) (mile : Int32) (J : Int32 → Bool → Sto → Rs Unit) : (fun x3_7 : Int32 => (lt_ (fun (b : Bool) (σ : Sto) => (J (0 : Int32) b σ)) (fun J72 => (if x3_7 < 0 then (J72 true ρ) else (bd_ (f_Model_kindOf Y x3_7 (true && cK ρ Y 13) ρ) (fun (r_28 : Int32) (b_28 : Bool) (σ_28 : Sto) => (bd_ (f_Model_hasBeds r_28 b_28 σ_28) (fun (r_29 : Int32) (b_29 : Bool) (σ_29 : Sto) => (if r_29 = 0 then (J72 b_29 σ_29) else (bd_ (f_Model_placeAt Y x3_7 ((b_29 && cK σ_29 Y 13) && cK σ_29 Y 13) σ_29) (fun (r_30 : Int32) (b_30 : Bool) (σ_30 : Sto) => (J (SI σ_30 (SR σ_29 Y 0) (ix (r_30 + (2 : Int32)))) (b_30 && cA σ_30 (SR σ_29 Y 0) 21 (r_30 + (2 : Int32))) σ_30)))))))))))) (plAt (fun i => SI ρ (Y + 1) (31 + 4 * i)) mile np) = J (bedM (SI ρ (Y + 1)) mile np) true ρ := by
  have hY := h.2.2.2.1
  unfold plAt bedM
  cases hf : findI (fun i => decide (SI ρ (Y + 1) (31 + 4 * i) = mile)) 0 np with
  | none =>
    dsimp only
    rw [lt_, if_pos (show (-1 : Int32) < 0 by decide)]
  | some j =>
    obtain ⟨z1, z2, z3, -⟩ := findI_some hf
    have hj : j < np := by omega
    have i2 : nI (30 + 4 * j) + 2 = nI (32 + 4 * j) := by rw [nI_p2]; congr 1; omega
    dsimp only
    rw [lt_, if_neg (nI_pos (show j < 2 ^ 31 by omega)), cK_of (kY_0 hY), Bool.and_true, e_kindOf hY (show j < 700 by omega), bd_, e_bedsM, bd_]
    dsimp only
    by_cases c : bedsI (SI ρ (Y + 1) (30 + 4 * j)) = 0
    · rw [if_pos c, if_pos c]
    · rw [if_neg c, if_neg c, e_placeAt, bd_]
      dsimp only
      rw [i2, rY_0 hY, ix_nI (show 32 + 4 * j < 2 ^ 31 by omega), cK_of (kY_0 hY), cY hY (show 32 + 4 * j < 3210 by omega)]
      rfl
end NI
