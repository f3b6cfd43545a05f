/-! texts: a part -/
section TX8
variable {h Y n κ A : Nat} {g : Nat → Nat} {σ ρ : Sto} {s0 F0 f t F s : Nat → Int32} {op no b e k m hh : Nat}
def ptK (g_Model_either : Nat → Int32 → Bool → Sto → Rs Int32) (h0 : Nat) (x1 : Int32) (b : Bool) (σ : Sto) : Rs Int32 := (bd_ (f_Model_isSign h0 (40 : Int32) (b && cK σ h0 13) σ) (fun (r_5 : Int32) (b_5 : Bool) (σ_5 : Sto) => (lt_ (fun (b : Bool) (σ : Sto) => ((0 : Int32), b, σ)) (fun J163 => (if r_5 = 0 then (J163 b_5 σ_5) else (if (SI σ_5 h0 14) = (8 : Int32) then (J163 (b_5 && cK σ_5 h0 13) σ_5) else (lt_ (pI σ_5 h0 14 ((SI σ_5 h0 14) + (1 : Int32))) (fun (σ_6 : Sto) => (bd_ (f_Model_next h0 ((((b_5 && cK σ_5 h0 13) && cK σ_5 h0 13) && cK σ_5 h0 13) && cK σ_6 h0 13) σ_6) (fun (r_7 : Unit) (b_7 : Bool) (σ_7 : Sto) => (bd_ (g_Model_either h0 x1 (b_7 && cK σ_7 h0 13) σ_7) (fun (r_8 : Int32) (b_8 : Bool) (σ_8 : Sto) => (lt_ (fun (b : Bool) (σ : Sto) => ((0 : Int32), b, σ)) (fun J196 => (if r_8 = 0 then (J196 b_8 σ_8) else (bd_ (f_Model_isSign h0 (41 : Int32) (b_8 && cK σ_8 h0 13) σ_8) (fun (r_9 : Int32) (b_9 : Bool) (σ_9 : Sto) => (if r_9 = 0 then (J196 b_9 σ_9) else (lt_ (pI σ_9 h0 14 ((SI σ_9 h0 14) - (1 : Int32))) (fun (σ_10 : Sto) => (bd_ (f_Model_next h0 (((b_9 && cK σ_9 h0 13) && cK σ_9 h0 13) && cK σ_10 h0 13) σ_10) (fun (r_11 : Unit) (b_11 : Bool) (σ_11 : Sto) => ((1 : Int32), b_11, σ_11)))))))))))))))))))))))
theorem e_closing (hT : TC h n g σ) : f_Tape_readClosing h true (tS σ h f t) = if f 5 = 41 ∧ f 11 < 0 then f_Tape_nextWord h true (tS σ h f t) else f_Tape_noteFault h true (tS σ h f t) := by
  unfold f_Tape_readClosing
  simp only [bd_id]
  rw [lt_, tS_f, tS_k hT]
  by_cases c1 : f 5 = 41
  · rw [if_pos c1]
    by_cases c2 : f 11 < 0
    · rw [if_pos c2, if_pos ⟨c1, c2⟩]
      rfl
    · rw [if_neg c2, if_neg (fun z => c2 z.2)]
      dsimp only
      rw [tS_k hT]
      rfl
  · rw [if_neg c1, if_neg (fun z => c1 z.1)]
    dsimp only
    rw [tS_k hT]
    rfl
theorem sim_par (hG : GE h Y n κ A g σ ρ) (hop : op ≤ 8) {gL : Nat → Int32 → Int32 → Int32 → Bool → Sto → Rs Unit} {gE : Nat → Int32 → Bool → Sto → Rs Int32} (hE : op < 8 → SimOK h Y n κ A g σ ρ s0 F0 (op + 1) no (fun b σ => gL h 0 (nI (op + 1)) (nI no) b σ) (fun b σ => gE Y (nI κ) b σ)) (hP : PS g n κ A s0 F0 op no b e k m hh f t F s) (hm : m < b) :
    ∃ f' t' F' s' r, ptC gL h (nI op) (nI no) true (tS σ h f t) = ((), true, tS σ h f' t') ∧ ptK gE Y (nI κ) true (mS ρ Y F s) = (r, true, mS ρ Y F' s') ∧ Res g n κ A s0 F0 op no b m (hh + 1) f' t' F' s' r := by
  have hn := hG.1.2.2.2.1
  have hT := hG.1
  have hM := hG.2.1
  have hg : ∀ j, j < n → g j < 256 := fun j hj => (hM.2.2 j hj).2
  have F14 := hP.2.2.1.1
  have hk := hP.1
  obtain ⟨-, -, -, -, -, -, a13, a14, a15, a16⟩ := id hk
  by_cases c : k = 3 ∧ g b = 40
  · have cC : f 5 = 40 := (sgC_iff hG hk (c := 40) (by decide) (by decide)).mpr c
    have cM : F 11 = 3 ∧ F 13 = 40 := (sg_iff hk hg (c := 40) (by decide)).mpr c
    have hbe := a16 (by omega)
    by_cases c8 : op < 8
    · have hP1 := PS_14 hP (op + 1)
      obtain ⟨f1, F2, b1, e1, k1, q1, q2, q3, q4⟩ := PS_next hG hP1
      obtain ⟨f2, t2, F3, s3, r, u1, u2, u3⟩ := hE c8 f1 t F2 s b1 e1 k1 m hh q3 (by omega)
      have u1' : gL h 0 (nI (op + 1)) (nI no) true (tS σ h f1 t) = ((), true, tS σ h f2 t2) := u1
      have u2' : gE Y (nI κ) true (mS ρ Y F2 s) = (r, true, mS ρ Y F3 s3) := u2
      have eC : ptC gL h (nI op) (nI no) true (tS σ h f t) = f_Tape_readClosing h true (tS σ h f2 t2) := by
        unfold ptC
        rw [lt_, tS_f, if_pos cC, if_pos (show nI op < 8 from nI_lt (b := 8) c8 (by decide)), tS_k hT]
        simp only [Bool.and_true]
        rw [q1, bd_]
        dsimp only
        rw [tS_k hT, Bool.and_true, nI_1, u1', bd_]
        dsimp only
        rw [tS_k hT, Bool.and_true, bd_id]
      have eM : ptK gE Y (nI κ) true (mS ρ Y F s) = if r = 0 then ((0 : Int32), true, mS ρ Y F3 s3) else if F3 11 = 3 ∧ F3 13 = 41 then bd_ (f_Model_next Y true (mS ρ Y (up1 F3 14 (F3 14 - 1)) s3)) (fun (r_11 : Unit) (b_11 : Bool) (σ_11 : Sto) => ((1 : Int32), b_11, σ_11)) else ((0 : Int32), true, mS ρ Y F3 s3) := by
        unfold ptK
        rw [mS_k hM, Bool.and_true, e_isSign hM, if_pos cM, bd_]
        dsimp only
        rw [lt_, if_neg (show ¬ (1 : Int32) = 0 by decide), mS_f, F14, if_neg (show ¬ nI op = 8 from fun z => absurd ((nI_eq (b := 8) (by omega) (by decide)).mp z) (by omega)), lt_, nI_1, mS_p, mS_k hM, mS_k hM]
        simp only [Bool.and_true]
        rw [q2, bd_]
        dsimp only
        rw [mS_k hM, Bool.and_true, u2', bd_]
        dsimp only
        rw [lt_]
        by_cases r0 : r = 0
        · rw [if_pos r0, if_pos r0]
        · rw [if_neg r0, if_neg r0, mS_k hM, Bool.and_true, e_isSign hM, bd_]
          dsimp only
          by_cases c41 : F3 11 = 3 ∧ F3 13 = 41
          · rw [if_pos c41, if_neg (show ¬ (1 : Int32) = 0 by decide), if_pos c41, lt_, mS_f, mS_p, mS_k hM, mS_k hM]
            rfl
          · rw [if_neg c41, if_pos rfl, if_neg c41]
      rw [eC, eM, e_closing hT]
      rcases u3 with ⟨rfl, b2, e2, k2, m2, w1, w2, w3⟩ | ⟨rfl, w1⟩
      · rw [if_neg (show ¬ (1 : Int32) = 0 by decide)]
        obtain ⟨-, -, -, -, -, -, d13, d14, d15, d16⟩ := id w1.1
        by_cases c41 : k2 = 3 ∧ g b2 = 41
        · have dC : f2 5 = 41 := (sgC_iff hG w1.1 (c := 41) (by decide) (by decide)).mpr c41
          have dM : F3 11 = 3 ∧ F3 13 = 41 := (sg_iff w1.1 hg (c := 41) (by decide)).mpr c41
          rw [if_pos ⟨dC, by rw [w1.2.1.2.2.1]; decide⟩, if_pos dM, w1.2.2.1.1, nI_s1]
          obtain ⟨f4, F5, b4, e4, k4, z1, z2, z3, z4⟩ := PS_next hG (PS_14 w1 op)
          refine ⟨f4, t2, F5, s3, 1, z1, by rw [z2]; rfl, Or.inl ⟨rfl, b4, e4, k4, m2, z3, by omega, by omega⟩⟩
        · have dM : ¬ (F3 11 = 3 ∧ F3 13 = 41) := fun z => c41 ((sg_iff w1.1 hg (c := 41) (by decide)).mp z)
          rw [if_neg (fun z => c41 ((sgC_iff hG w1.1 (c := 41) (by decide) (by decide)).mp z.1)), if_neg dM]
          obtain ⟨f4, z1, z2⟩ := PS_note hG w1 (by omega)
          exact ⟨f4, t2, F3, s3, 0, z1, rfl, Or.inr ⟨rfl, z2⟩⟩
      · rw [if_pos rfl, if_neg (fun z => FL_neg hn w1 z.2), note_FL hT w1]
        exact ⟨f2, t2, F3, s3, 0, rfl, rfl, Or.inr ⟨rfl, w1⟩⟩
    · obtain ⟨f4, z1, z2⟩ := PS_note hG hP hm
      refine ⟨f4, t, F, s, 0, ?_, ?_, Or.inr ⟨rfl, z2⟩⟩
      · unfold ptC
        rw [lt_, tS_f, if_pos cC, if_neg (show ¬ nI op < 8 from nI_nlt (b := 8) (by omega) (by omega)), tS_k hT]
        dsimp only
        rw [tS_k hT, bd_id]
        exact z1
      · unfold ptK
        rw [mS_k hM, Bool.and_true, e_isSign hM, if_pos cM, bd_]
        dsimp only
        rw [lt_, if_neg (show ¬ (1 : Int32) = 0 by decide), mS_f, F14, if_pos (show nI op = 8 by rw [show op = 8 by omega]; rfl), mS_k hM]
        rfl
  · obtain ⟨f4, z1, z2⟩ := PS_note hG hP hm
    refine ⟨f4, t, F, s, 0, ?_, ?_, Or.inr ⟨rfl, z2⟩⟩
    · unfold ptC
      rw [lt_, tS_f, if_neg (show ¬ f 5 = 40 from fun z => c ((sgC_iff hG hk (c := 40) (by decide) (by decide)).mp z)), tS_k hT]
      dsimp only
      rw [tS_k hT, bd_id]
      exact z1
    · unfold ptK
      rw [mS_k hM, Bool.and_true, e_isSign hM, if_neg (show ¬ (F 11 = 3 ∧ F 13 = 40) from fun z => c ((sg_iff hk hg (c := 40) (by decide)).mp z)), bd_]
      dsimp only
      rw [lt_, if_pos rfl]
theorem e_ptJ (hM : TM Y n g ρ) {gE gQ : Nat → Int32 → Bool → Sto → Rs Int32} (hc : ¬ (F 11 = 3 ∧ F 13 = 33)) : ptJ gE gQ Y (nI κ) true (mS ρ Y F s) = ptK gE Y (nI κ) true (mS ρ Y F s) := by
  unfold ptJ
  rw [mS_k hM, Bool.and_true, e_isSign hM, if_neg hc, bd_]
  dsimp only
  rw [lt_, if_pos rfl]
  rfl
theorem sim_part (hG : GE h Y n κ A g σ ρ) (hop : op ≤ 8) (hno : no ≤ 8) {gL : Nat → Int32 → Int32 → Int32 → Bool → Sto → Rs Unit} {gP : Nat → Int32 → Int32 → Bool → Sto → Rs Unit} {gE g2 g3 g4 g5 gQ : Nat → Int32 → Bool → Sto → Rs Int32} (hE : op < 8 → SimOK h Y n κ A g σ ρ s0 F0 (op + 1) no (fun b σ => gL h 0 (nI (op + 1)) (nI no) b σ) (fun b σ => gE Y (nI κ) b σ)) (hQ : no < 8 → SimOK h Y n κ A g σ ρ s0 F0 op (no + 1) (fun b σ => gP h (nI op) (nI (no + 1)) b σ) (fun b σ => gQ Y (nI κ) b σ)) :
    SimOK h Y n κ A g σ ρ s0 F0 op no (fun b σ => fb_Tape_readPart gL gP h (nI op) (nI no) b σ) (fun b σ => fb_Model_part0 gE g2 g3 g4 g5 gQ Y (nI κ) b σ) := by
  intro f t F s b e k m hh hP hm
  have hn := hG.1.2.2.2.1
  have hT := hG.1
  have hM := hG.2.1
  have hκ := hG.2.2.2.1
  have hA := hG.2.2.2.2
  have hg : ∀ j, j < n → g j < 256 := fun j hj => (hM.2.2 j hj).2
  have hk := hP.1
  obtain ⟨⟨-, -⟩, ⟨a3, a4, a5, a6⟩, ⟨a7, a8, a9⟩, a10, a11, a12, a13, a14, a15, a16⟩ := id hk
  have e1 : ∀ k, k < 5 → (nI k = 1 ↔ k = 1) ∧ (nI k = 2 ↔ k = 2) := by decide
  have F11_1 : F 11 = 1 ↔ k = 1 := by rw [a9]; exact (e1 k a13).1
  have F11_2 : F 11 = 2 ↔ k = 2 := by rw [a9]; exact (e1 k a13).2
  have f4_1 : f 4 = 1 ↔ k = 1 := by rw [a5]; exact cdK_1 k a13
  have f4_2 : f 4 = 2 ↔ k = 2 := by rw [a5]; exact cdK_2 k a13
  show ∃ f' t' F' s' r, fb_Tape_readPart gL gP h (nI op) (nI no) true (tS σ h f t) = ((), true, tS σ h f' t') ∧ fb_Model_part0 gE g2 g3 g4 g5 gQ Y (nI κ) true (mS ρ Y F s) = (r, true, mS ρ Y F' s') ∧ Res g n κ A s0 F0 op no b m (hh + 1) f' t' F' s' r
  by_cases k2 : k = 2
  · obtain ⟨v, v1, v2, v3⟩ := a12 k2
    have hr : rStep (nI κ) (nI v) 0 (nI v) := Or.inl ⟨rfl, rfl, by rw [nI_toInt (by omega)]; omega, by rw [nI_toInt (by omega)]; omega⟩
    obtain ⟨f', F', t', s', q1, q2, q3⟩ := sim_oper hG hP hm (by omega) hr (by decide)
    refine ⟨f', t', F', s', 1, ?_, ?_, q3⟩
    · unfold fb_Tape_readPart
      rw [tS_k hT, Bool.and_true, e_nameHere0 hT (fun z => absurd (f4_1.mp z) (by omega)), bd_]
      dsimp only
      rw [lt_, tS_f, if_pos (f4_2.mpr k2), tS_k hT, v2, bd_id]
      exact q1
    · unfold fb_Model_part0
      rw [mS_f, if_pos (F11_2.mpr k2), mS_k hM, v3]
      simp only [Bool.and_true]
      exact q2
  · by_cases k1 : k = 1
    · obtain ⟨d1, d2⟩ := a11 k1
      have hbe := a16 (by omega)
      have b2 := hg b (by omega)
      have en : ¬ (F 11 = 3 ∧ F 13 = 33) := fun z => absurd ((sg_iff hk hg (c := 33) (by decide)).mp z).1 (by omega)
      have en2 : ¬ (F 11 = 3 ∧ F 13 = 40) := fun z => absurd ((sg_iff hk hg (c := 40) (by decide)).mp z).1 (by omega)
      have eJ : ptJ gE gQ Y (nI κ) true (mS ρ Y F s) = ((0 : Int32), true, mS ρ Y F s) := by
        rw [e_ptJ hM en]
        unfold ptK
        rw [mS_k hM, Bool.and_true, e_isSign hM, if_neg en2, bd_]
        dsimp only
        rw [lt_, if_pos rfl]
      have s33 : ¬ f 5 = 33 := fun z => absurd ((sgC_iff hG hk (c := 33) (by decide) (by decide)).mp z).1 (by omega)
      have s40 : ¬ f 5 = 40 := fun z => absurd ((sgC_iff hG hk (c := 40) (by decide) (by decide)).mp z).1 (by omega)
      have eN : ∀ w : Int32, f_Tape_nameHere h true (tS σ h f t) = (w, true, tS σ h f t) → fb_Tape_readPart gL gP h (nI op) (nI no) true (tS σ h f t) = if w < 0 then f_Tape_noteFault h true (tS σ h f t) else f_Tape_addOperand h (-1 - w) true (tS σ h f t) := by
        intro w hw
        unfold fb_Tape_readPart
        rw [tS_k hT, Bool.and_true, hw, bd_]
        dsimp only
        rw [lt_, tS_f, if_neg (fun z => k2 (f4_2.mp z)), tS_k hT]
        by_cases w0 : w < 0
        · rw [if_pos w0, if_pos w0, lt_, if_neg s33]
          show ptC gL h (nI op) (nI no) true (tS σ h f t) = _
          unfold ptC
          rw [lt_, tS_f, if_neg s40, tS_k hT]
          dsimp only
          rw [tS_k hT, bd_id]
          rfl
        · rw [if_neg w0, if_neg w0, bd_id]
          rfl
      have eC : fb_Tape_readPart gL gP h (nI op) (nI no) true (tS σ h f t) = (if e - b = 1 then (if nmF (1 + κ) (g b) < 0 then f_Tape_noteFault h true (tS σ h f t) else f_Tape_addOperand h (-1 - nmF (1 + κ) (g b)) true (tS σ h f t)) else f_Tape_noteFault h true (tS σ h f t)) := by
        rw [eN _ (e_nameHere hT hG.2.2.1 hκ hP.2.1.1 a3 a4 (f4_1.mpr k1) hbe a15 d2)]
        by_cases c1 : e - b = 1
        · rw [if_pos c1, if_pos c1]
        · rw [if_neg c1, if_neg c1, if_pos (show (-1 : Int32) < 0 by decide)]
      have nF := PS_note hG hP hm
      rw [eC]
      by_cases c1 : e - b = 1
      · rw [if_pos c1]
        rw [if_pos c1] at d1
        have nz : ¬ nI (g b) = 0 := fun z => (ch_L _ b2 d2).2 ((nI_eq (b := 0) (by omega) (by decide)).mp z)
        rcases nm_all κ hκ (g b) b2 with ⟨x1, x2⟩ | ⟨x1, x2, x3⟩
        · rw [if_pos x1]
          obtain ⟨f4, z1, z2⟩ := nF
          refine ⟨f4, t, F, s, 0, z1, ?_, Or.inr ⟨rfl, z2⟩⟩
          unfold fb_Model_part0
          rw [mS_f, if_neg (fun z => k2 (F11_2.mp z)), lt_, if_pos (F11_1.mpr k1), d1, if_neg nz, mS_k hM, e_isName, x2, bd_]
          show (if (0 : Int32) = 0 then ptJ gE gQ Y (nI κ) true (mS ρ Y F s) else _) = _
          rw [if_pos rfl]
          exact eJ
        · rw [if_neg x1]
          obtain ⟨f', F', t', s', q1, q2, q3⟩ := sim_oper hG hP hm (z := -1 - nmF (1 + κ) (g b)) (w := 1) (v := nI (g b)) (by omega) (Or.inr (Or.inl ⟨rfl, x3⟩)) (by decide)
          refine ⟨f', t', F', s', 1, q1, ?_, q3⟩
          unfold fb_Model_part0
          rw [mS_f, if_neg (fun z => k2 (F11_2.mp z)), lt_, if_pos (F11_1.mpr k1), d1, if_neg nz, mS_k hM, e_isName, x2, bd_]
          dsimp only
          rw [if_neg (show ¬ (1 : Int32) = 0 by decide), mS_f, d1, mS_k hM]
          simp only [Bool.and_true]
          exact q2
      · rw [if_neg c1]
        rw [if_neg c1] at d1
        obtain ⟨f4, z1, z2⟩ := nF
        refine ⟨f4, t, F, s, 0, z1, ?_, Or.inr ⟨rfl, z2⟩⟩
        unfold fb_Model_part0
        rw [mS_f, if_neg (fun z => k2 (F11_2.mp z)), lt_, if_pos (F11_1.mpr k1), d1, if_pos rfl, mS_k hM]
        exact eJ
    · have eM : fb_Model_part0 gE g2 g3 g4 g5 gQ Y (nI κ) true (mS ρ Y F s) = ptJ gE gQ Y (nI κ) true (mS ρ Y F s) := by
        unfold fb_Model_part0
        rw [mS_f, if_neg (fun z => k2 (F11_2.mp z)), lt_, if_neg (fun z => k1 (F11_1.mp z)), mS_k hM]
        rfl
      rw [eM]
      by_cases c : k = 3 ∧ g b = 33
      · have cC : f 5 = 33 := (sgC_iff hG hk (c := 33) (by decide) (by decide)).mpr c
        have cM : F 11 = 3 ∧ F 13 = 33 := (sg_iff hk hg (c := 33) (by decide)).mpr c
        have hbe := a16 (by omega)
        have F15 := hP.2.2.1.2.1
        by_cases c8 : no < 8
        · have hP1 := PS_15 hP (no + 1)
          obtain ⟨f1, F2, b1, e1', k1', q1, q2, q3, q4⟩ := PS_next hG hP1
          obtain ⟨f2, t2, F3, s3, r, u1, u2, u3⟩ := hQ c8 f1 t F2 s b1 e1' k1' m hh q3 (by omega)
          have u1' : gP h (nI op) (nI (no + 1)) true (tS σ h f1 t) = ((), true, tS σ h f2 t2) := u1
          have u2' : gQ Y (nI κ) true (mS ρ Y F2 s) = (r, true, mS ρ Y F3 s3) := u2
          have eC : fb_Tape_readPart gL gP h (nI op) (nI no) true (tS σ h f t) = f_Tape_addStep h (-33) true (tS σ h f2 t2) := by
            unfold fb_Tape_readPart
            rw [tS_k hT, Bool.and_true, e_nameHere0 hT (fun z => k1 (f4_1.mp z)), bd_]
            dsimp only
            rw [lt_, tS_f, if_neg (fun z => k2 (f4_2.mp z)), if_pos (show (-1 : Int32) < 0 by decide), lt_, if_pos cC, if_pos (show nI no < 8 from nI_lt (b := 8) c8 (by decide)), tS_k hT]
            simp only [Bool.and_true]
            rw [q1, bd_]
            dsimp only
            rw [tS_k hT, Bool.and_true, nI_1, u1', bd_]
            dsimp only
            rw [tS_k hT, Bool.and_true, bd_id]
          have eJ : ptJ gE gQ Y (nI κ) true (mS ρ Y F s) = if r = 0 then ((0 : Int32), true, mS ρ Y F3 s3) else bd_ (f_Model_step Y 2 33 true (mS ρ Y (up1 F3 15 (F3 15 - 1)) s3)) (fun (r_16 : Unit) (b_16 : Bool) (σ_16 : Sto) => ((1 : Int32), b_16, σ_16)) := by
            unfold ptJ
            rw [mS_k hM, Bool.and_true, e_isSign hM, if_pos cM, bd_]
            dsimp only
            rw [lt_, if_neg (show ¬ (1 : Int32) = 0 by decide), mS_f, F15, if_pos (show nI no < 8 from nI_lt (b := 8) c8 (by decide)), lt_, nI_1, mS_p, mS_k hM, mS_k hM]
            simp only [Bool.and_true]
            rw [q2, bd_]
            dsimp only
            rw [mS_k hM, Bool.and_true, u2', bd_]
            dsimp only
            by_cases r0 : r = 0
            · rw [if_pos r0, if_pos r0]
            · rw [if_neg r0, if_neg r0, lt_, mS_f, mS_p, mS_k hM, mS_k hM]
              rfl
          rw [eC, eJ]
          rcases u3 with ⟨rfl, b2, e2, k2', m2, w1, w2, w3⟩ | ⟨rfl, w1⟩
          · obtain ⟨-, -, -, -, -, -, d13, d14, d15, d16⟩ := id w1.1
            have hm2 : m2 < 96 := by omega
            have w4 := PS_step (PS_15 w1 no) (z := -33) (w := 2) (v := 33) (hh' := hh + 1) (Or.inr (Or.inr ⟨rfl, rfl, Or.inl rfl⟩)) (Or.inr (Or.inl ⟨rfl, rfl, by omega, rfl⟩)) hm2
            rw [if_neg (show ¬ (1 : Int32) = 0 by decide), w1.2.2.1.2.1, nI_s1, e_addStep hT (by omega) w1.2.1.2.1, if_pos hm2, e_step hM (m := m2) (A := A) (by omega) (by rw [up1_ne' (by decide)]; exact w1.2.2.1.2.2.1) (by rw [up1_ne' (by decide)]; exact w1.2.2.1.2.2.2)]
            exact ⟨_, _, _, _, 1, rfl, rfl, Or.inl ⟨rfl, b2, e2, k2', m2 + 1, w4, by omega, by omega⟩⟩
          · obtain ⟨f4, t4, z1, z2⟩ := FL_step (t := t2) hT w1 (-33)
            rw [if_pos rfl]
            exact ⟨f4, t4, F3, s3, 0, z1, rfl, Or.inr ⟨rfl, z2⟩⟩
        · have eC : fb_Tape_readPart gL gP h (nI op) (nI no) true (tS σ h f t) = ptC gL h (nI op) (nI no) true (tS σ h f t) := by
            unfold fb_Tape_readPart
            rw [tS_k hT, Bool.and_true, e_nameHere0 hT (fun z => k1 (f4_1.mp z)), bd_]
            dsimp only
            rw [lt_, tS_f, if_neg (fun z => k2 (f4_2.mp z)), if_pos (show (-1 : Int32) < 0 by decide), lt_, if_pos cC, if_neg (show ¬ nI no < 8 from nI_nlt (b := 8) (by omega) (by omega)), tS_k hT]
            rfl
          have eJ : ptJ gE gQ Y (nI κ) true (mS ρ Y F s) = ptK gE Y (nI κ) true (mS ρ Y F s) := by
            unfold ptJ
            rw [mS_k hM, Bool.and_true, e_isSign hM, if_pos cM, bd_]
            show (lt_ _ (fun J145 : Bool → Sto → Rs Int32 => if (1 : Int32) = 0 then J145 _ _ else if (SI (mS ρ Y F s) Y 15) < (8 : Int32) then _ else J145 (true && cK (mS ρ Y F s) Y 13) (mS ρ Y F s))) = _
            rw [lt_, if_neg (show ¬ (1 : Int32) = 0 by decide), mS_f, F15, if_neg (show ¬ nI no < 8 from nI_nlt (b := 8) (by omega) (by omega)), mS_k hM]
            rfl
          rw [eC, eJ]
          exact sim_par hG hop hE hP hm
      · have eC : fb_Tape_readPart gL gP h (nI op) (nI no) true (tS σ h f t) = ptC gL h (nI op) (nI no) true (tS σ h f t) := by
          unfold fb_Tape_readPart
          rw [tS_k hT, Bool.and_true, e_nameHere0 hT (fun z => k1 (f4_1.mp z)), bd_]
          dsimp only
          rw [lt_, tS_f, if_neg (fun z => k2 (f4_2.mp z)), if_pos (show (-1 : Int32) < 0 by decide), lt_, if_neg (show ¬ f 5 = 33 from fun z => c ((sgC_iff hG hk (c := 33) (by decide) (by decide)).mp z)), tS_k hT]
          rfl
        rw [eC, e_ptJ hM (fun z => c ((sg_iff hk hg (c := 33) (by decide)).mp z))]
        exact sim_par hG hop hE hP hm
end TX8
