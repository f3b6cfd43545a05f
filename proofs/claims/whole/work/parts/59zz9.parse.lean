/-! texts: the whole of a text on both sides -/
section TXA
variable {h Y n : Nat} {g : Nat → Nat} {σ ρ : Sto}
theorem tS_id : tS σ h (SI σ h) (SI σ (h + 2)) = σ := by
  unfold tS
  rw [rI_id, rI_id]
theorem mS_id : mS ρ Y (SI ρ Y) (SI ρ (Y + 1)) = ρ := by
  unfold mS
  rw [rI_id, rI_id]
theorem kw_1 {b e k i j : Nat} (hi : i < 4) (hj : j < 4) (h1 : kwW g b e k i) (h2 : kwW g b e k j) : i = j := by
  have d : ∀ i, i < 4 → ∀ j, j < 4 → kwC i 0 = kwC j 0 → i = j := by decide
  exact d i hi j hj (h1.2.2.1.symm.trans h2.2.2.1)
/-- what reading gives -/
def PG (κ m n A : Nat) (f t F s : Nat → Int32) : Prop := κ < 4 ∧ m < 96 ∧ f 11 = -1 ∧ f 7 = nI κ ∧ f 9 = nI m ∧ F 16 = nI m ∧ f 10 = F 18 ∧ (∀ j, j < m → rStep (nI κ) (t j) (s (A + 2 * j)) (s (A + 2 * j + 1))) ∧ pileOK s A m 1
theorem e_skipL (hT : TC h n g σ) {f t : Nat → Int32} (hf : ¬ f 11 < 0) : f_Tape_readLevel h 0 0 0 true (tS σ h f t) = ((), true, tS σ h f t) := by
  obtain ⟨D, hD⟩ : ∃ D, dep_ = D + 1 := ⟨119, rfl⟩
  unfold f_Tape_readLevel
  rw [hD]
  show fb_Tape_readLevel (fx_Tape D).1 (fx_Tape D).2 h 0 0 0 true (tS σ h f t) = _
  unfold fb_Tape_readLevel
  rw [tS_f, if_neg hf, tS_k hT]
  rfl
/-- the end of the class's reading -/
theorem e_endT (hT : TC h n g σ) {f t : Nat → Int32} : lt_ (fun (b : Bool) (σ : Sto) => ((SI σ h 11), (b && cK σ h 8), σ)) (fun J52 => (if (SI (tS σ h f t) h 4) = (5 : Int32) then (J52 (true && cK (tS σ h f t) h 8) (tS σ h f t)) else (bd_ (f_Tape_noteFault h ((true && cK (tS σ h f t) h 8) && cK (tS σ h f t) h 8) (tS σ h f t)) (fun (r_9 : Unit) (b_9 : Bool) (σ_9 : Sto) => (J52 b_9 σ_9))))) = (if f 4 = 5 then (f 11, true, tS σ h f t) else (if f 11 < 0 then (f 2, true, tS σ h (up1 f 11 (f 2)) t) else (f 11, true, tS σ h f t))) := by
  rw [lt_, tS_f, tS_k hT]
  by_cases c : f 4 = 5
  · rw [if_pos c, if_pos c]
    dsimp only
    rw [tS_f, tS_k hT]
    rfl
  · rw [if_neg c, if_neg c]
    simp only [Bool.and_true]
    rw [e_note hT, bd_]
    dsimp only
    by_cases d : f 11 < 0
    · rw [if_pos d, if_pos d, tS_f, up1_s, tS_k hT]
      rfl
    · rw [if_neg d, if_neg d, tS_f, tS_k hT]
      rfl
theorem e_rt0 (hT : TC h n g σ) {f t f0 : Nat → Int32} (hf0 : up1 (up1 (up1 (up1 (up1 f 11 (-1)) 9 0) 10 0) 3 0) 4 0 = f0) : f_Tape_readText h true (tS σ h f t) = (bd_ (f_Tape_nextWord h true (tS σ h f0 t)) (fun (r_6 : Unit) (b_6 : Bool) (σ_6 : Sto) => (bd_ (f_Tape_readKey h (b_6 && cK σ_6 h 8) σ_6) (fun (r_7 : Unit) (b_7 : Bool) (σ_7 : Sto) => (bd_ (f_Tape_readLevel h (0 : Int32) (0 : Int32) (0 : Int32) (b_7 && cK σ_7 h 8) σ_7) (fun (r_8 : Unit) (b_8 : Bool) (σ_8 : Sto) => (lt_ (fun (b : Bool) (σ : Sto) => ((SI σ h 11), (b && cK σ h 8), σ)) (fun J52 => (if (SI σ_8 h 4) = (5 : Int32) then (J52 (b_8 && cK σ_8 h 8) σ_8) else (bd_ (f_Tape_noteFault h ((b_8 && cK σ_8 h 8) && cK σ_8 h 8) σ_8) (fun (r_9 : Unit) (b_9 : Bool) (σ_9 : Sto) => (J52 b_9 σ_9)))))))))))) := by
  unfold f_Tape_readText
  rw [lt_, tS_p, lt_, tS_p, lt_, tS_p, lt_, tS_p, lt_, tS_p, hf0]
  simp only [tS_k hT, Bool.and_true]
theorem e_ps0 (hM : TM Y n g ρ) {F s F0 : Nat → Int32} {nt : Nat} (hnt : nt ≤ 12) (s4 : s 4 = nI nt) {A : Nat} (hA : A = if nt < 12 then 605 + 200 * nt else 3010) (hF0 : up1 (up1 (up1 (up1 (up1 (up1 (up1 F 10 0) 11 3) 14 0) 15 0) 16 0) 18 0) 17 (nI A) = F0) : f_Model_parse Y true (mS ρ Y F s) = (bd_ (f_Model_next Y true (mS ρ Y F0 s)) (fun (r_8 : Unit) (b_8 : Bool) (σ_8 : Sto) => (bd_ (f_Model_key Y (b_8 && cK σ_8 Y 13) σ_8) (fun (r_9 : Int32) (b_9 : Bool) (σ_9 : Sto) => (lt_ r_9 (fun (x1_10 : Int32) => (lt_ (fun (s0_81 : Int32) (b : Bool) (σ : Sto) => (lt_ s0_81 (fun (x2_11 : Int32) => (lt_ (fun (x2_111 : Int32) (b : Bool) (σ : Sto) => (lt_ (pI σ Y 8 (0 : Int32)) (fun (σ_12 : Sto) => (if x2_111 = 0 then ((-1 : Int32), (b && cK σ Y 13), σ_12) else (x1_10, (b && cK σ Y 13), σ_12))))) (fun J111 => (if x2_11 = 0 then (J111 x2_11 b σ) else (bd_ (f_Model_next Y (b && cK σ Y 13) σ) (fun (r_13 : Unit) (b_13 : Bool) (σ_13 : Sto) => (bd_ (f_Model_either Y x1_10 (b_13 && cK σ_13 Y 13) σ_13) (fun (r_14 : Int32) (b_14 : Bool) (σ_14 : Sto) => (lt_ (fun (s0_110 : Int32) (b : Bool) (σ : Sto) => (lt_ s0_110 (fun (x2_15 : Int32) => (J111 x2_15 b σ)))) (fun J110 => (lt_ (fun (b : Bool) (σ : Sto) => (J110 (0 : Int32) b σ)) (fun J109 => (if r_14 = 0 then (J109 b_14 σ_14) else (if (SI σ_14 Y 11) = 0 then (J110 (1 : Int32) (b_14 && cK σ_14 Y 13) σ_14) else (J109 (b_14 && cK σ_14 Y 13) σ_14))))))))))))))))) (fun J81 => (if x1_10 < 0 then (J81 (0 : Int32) b_9 σ_9) else (J81 (1 : Int32) b_9 σ_9)))))))))) := by
  unfold f_Model_parse
  rw [lt_, mS_p, lt_, mS_p, lt_, mS_p, lt_, mS_p, lt_, mS_p, lt_, mS_p]
  simp only [mS_k hM, mS_0 hM, mS_s, Bool.and_true, show ix (4 : Int32) = 4 from rfl]
  rw [lt_, s4]
  by_cases c : nt < 12
  · have eA : nI (600 + 200 * nt) + 5 = nI A := by
      rw [hA, if_pos c]
      show nI (600 + 200 * nt) + nI 5 = _
      rw [nI_add]
      congr 1
      omega
    have c4 : ∀ F' s', cA (mS ρ Y F' s') (Y + 1) 21 4 = true := fun F' s' => mS_a1 hM (i := 4) (by decide)
    rw [if_pos (show nI nt < 12 from nI_lt (b := 12) c (by decide)), c4]
    simp only [Bool.and_true]
    rw [e_textAt, bd_]
    dsimp only
    rw [eA, lt_, mS_p, hF0, mS_k hM, mS_k hM]
    rfl
  · have eA : (3010 : Int32) = nI A := by
      rw [hA, if_neg c]
      rfl
    have c4 : ∀ F' s', cA (mS ρ Y F' s') (Y + 1) 21 4 = true := fun F' s' => mS_a1 hM (i := 4) (by decide)
    rw [if_neg (show ¬ nI nt < 12 from nI_nlt (b := 12) (by omega) (by omega)), c4]
    dsimp only
    rw [eA, lt_, mS_p, hF0, mS_k hM, mS_k hM]
    rfl
end TXA
