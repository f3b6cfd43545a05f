/-! texts: what both sides hold while they read -/
section TX7
variable {h Y n κ A : Nat} {g : Nat → Nat} {σ ρ : Sto} {s0 F0 f t F s : Nat → Int32} {op no b e k m hh : Nat}
def ptC (g_Tape_readLevel : Nat → Int32 → Int32 → Int32 → Bool → Sto → Rs Unit) (h0 : Nat) (x1 x2 : Int32) (b : Bool) (σ : Sto) : Rs Unit := (lt_ (fun (b : Bool) (σ : Sto) => (bd_ (f_Tape_noteFault h0 (b && cK σ h0 8) σ) (fun (r_3 : Unit) (b_3 : Bool) (σ_3 : Sto) => ((), b_3, σ_3)))) (fun J105 => (if (SI σ h0 5) = (40 : Int32) then (if x1 < (8 : Int32) then (bd_ (f_Tape_nextWord h0 ((b && cK σ h0 8) && cK σ h0 8) σ) (fun (r_4 : Unit) (b_4 : Bool) (σ_4 : Sto) => (bd_ (g_Tape_readLevel h0 (0 : Int32) (x1 + (1 : Int32)) x2 (b_4 && cK σ_4 h0 8) σ_4) (fun (r_5 : Unit) (b_5 : Bool) (σ_5 : Sto) => (bd_ (f_Tape_readClosing h0 (b_5 && cK σ_5 h0 8) σ_5) (fun (r_6 : Unit) (b_6 : Bool) (σ_6 : Sto) => ((), b_6, σ_6))))))) else (J105 (b && cK σ h0 8) σ)) else (J105 (b && cK σ h0 8) σ))))
def ptJ (g_Model_either g_Model_part0 : Nat → Int32 → Bool → Sto → Rs Int32) (h0 : Nat) (x1 : Int32) (b : Bool) (σ : Sto) : Rs Int32 := (bd_ (f_Model_isSign h0 (33 : Int32) (b && cK σ h0 13) σ) (fun (r_4 : Int32) (b_4 : Bool) (σ_4 : Sto) => (lt_ (fun (b : Bool) (σ : Sto) => (bd_ (f_Model_isSign h0 (40 : Int32) (b && cK σ h0 13) σ) (fun (r_5 : Int32) (b_5 : Bool) (σ_5 : Sto) => (lt_ (fun (b : Bool) (σ : Sto) => ((0 : Int32), b, σ)) (fun J163 => (if r_5 = 0 then (J163 b_5 σ_5) else (if (SI σ_5 h0 14) = (8 : Int32) then (J163 (b_5 && cK σ_5 h0 13) σ_5) else (lt_ (pI σ_5 h0 14 ((SI σ_5 h0 14) + (1 : Int32))) (fun (σ_6 : Sto) => (bd_ (f_Model_next h0 ((((b_5 && cK σ_5 h0 13) && cK σ_5 h0 13) && cK σ_5 h0 13) && cK σ_6 h0 13) σ_6) (fun (r_7 : Unit) (b_7 : Bool) (σ_7 : Sto) => (bd_ (g_Model_either h0 x1 (b_7 && cK σ_7 h0 13) σ_7) (fun (r_8 : Int32) (b_8 : Bool) (σ_8 : Sto) => (lt_ (fun (b : Bool) (σ : Sto) => ((0 : Int32), b, σ)) (fun J196 => (if r_8 = 0 then (J196 b_8 σ_8) else (bd_ (f_Model_isSign h0 (41 : Int32) (b_8 && cK σ_8 h0 13) σ_8) (fun (r_9 : Int32) (b_9 : Bool) (σ_9 : Sto) => (if r_9 = 0 then (J196 b_9 σ_9) else (lt_ (pI σ_9 h0 14 ((SI σ_9 h0 14) - (1 : Int32))) (fun (σ_10 : Sto) => (bd_ (f_Model_next h0 (((b_9 && cK σ_9 h0 13) && cK σ_9 h0 13) && cK σ_10 h0 13) σ_10) (fun (r_11 : Unit) (b_11 : Bool) (σ_11 : Sto) => ((1 : Int32), b_11, σ_11)))))))))))))))))))))))) (fun J145 => (if r_4 = 0 then (J145 b_4 σ_4) else (if (SI σ_4 h0 15) < (8 : Int32) then (lt_ (pI σ_4 h0 15 ((SI σ_4 h0 15) + (1 : Int32))) (fun (σ_12 : Sto) => (bd_ (f_Model_next h0 ((((b_4 && cK σ_4 h0 13) && cK σ_4 h0 13) && cK σ_4 h0 13) && cK σ_12 h0 13) σ_12) (fun (r_13 : Unit) (b_13 : Bool) (σ_13 : Sto) => (bd_ (g_Model_part0 h0 x1 (b_13 && cK σ_13 h0 13) σ_13) (fun (r_14 : Int32) (b_14 : Bool) (σ_14 : Sto) => (if r_14 = 0 then ((0 : Int32), b_14, σ_14) else (lt_ (pI σ_14 h0 15 ((SI σ_14 h0 15) - (1 : Int32))) (fun (σ_15 : Sto) => (bd_ (f_Model_step h0 (2 : Int32) (33 : Int32) (((b_14 && cK σ_14 h0 13) && cK σ_14 h0 13) && cK σ_15 h0 13) σ_15) (fun (r_16 : Unit) (b_16 : Bool) (σ_16 : Sto) => ((1 : Int32), b_16, σ_16)))))))))))) else (J145 (b_4 && cK σ_4 h0 13) σ_4)))))))
def PS (g : Nat → Nat) (n κ A : Nat) (s0 F0 : Nat → Int32) (op no b e k m hh : Nat) (f t F s : Nat → Int32) : Prop := Tok g n b e k f F ∧ (f 7 = nI κ ∧ f 9 = nI m ∧ f 11 = -1 ∧ f 10 = F 18) ∧ (F 14 = nI op ∧ F 15 = nI no ∧ F 16 = nI m ∧ F 17 = nI A) ∧ (∀ j, j < m → rStep (nI κ) (t j) (s (A + 2 * j)) (s (A + 2 * j + 1))) ∧ pileOK s A m hh ∧ (∀ j, j < A ∨ A + 192 ≤ j → s j = s0 j) ∧ (∀ j, j ≤ 7 ∨ 19 ≤ j → F j = F0 j)
def FL (n A : Nat) (s0 F0 f F s : Nat → Int32) : Prop := (∃ fa, fa ≤ n ∧ f 11 = nI fa ∧ F 9 = nI fa) ∧ (∃ m, m ≤ 96 ∧ f 9 = nI m) ∧ (∀ j, j < A ∨ A + 192 ≤ j → s j = s0 j) ∧ (∀ j, j ≤ 7 ∨ 19 ≤ j → F j = F0 j)
def GE (h Y n κ A : Nat) (g : Nat → Nat) (σ ρ : Sto) : Prop := TC h n g σ ∧ TM Y n g ρ ∧ SS σ ∧ κ < 4 ∧ A + 200 ≤ 3210
def Res (g : Nat → Nat) (n κ A : Nat) (s0 F0 : Nat → Int32) (op no b m hh : Nat) (f t F s : Nat → Int32) (r : Int32) : Prop := (r = 1 ∧ ∃ b' e' k' m', PS g n κ A s0 F0 op no b' e' k' m' hh f t F s ∧ m' + b ≤ b' + m ∧ b < b') ∨ (r = 0 ∧ FL n A s0 F0 f F s)
def SimOK (h Y n κ A : Nat) (g : Nat → Nat) (σ ρ : Sto) (s0 F0 : Nat → Int32) (op no : Nat) (φ : Bool → Sto → Rs Unit) (ψ : Bool → Sto → Rs Int32) : Prop := ∀ f t F s b e k m hh, PS g n κ A s0 F0 op no b e k m hh f t F s → m < b → ∃ f' t' F' s' r, φ true (tS σ h f t) = ((), true, tS σ h f' t') ∧ ψ true (mS ρ Y F s) = (r, true, mS ρ Y F' s') ∧ Res g n κ A s0 F0 op no b m (hh + 1) f' t' F' s' r
theorem Tok_F (hk : Tok g n b e k f F) {F' : Nat → Int32} (hF : ∀ j, 8 ≤ j → j ≤ 13 → F' j = F j) : Tok g n b e k f F' := by
  obtain ⟨⟨a1, a2⟩, a3, ⟨a7, a8, a9⟩, a10, a11, a12, a13⟩ := hk
  refine ⟨⟨a1, by rw [hF 8 (by omega) (by omega)]; exact a2⟩, a3, ⟨by rw [hF 9 (by omega) (by omega)]; exact a7, by rw [hF 10 (by omega) (by omega)]; exact a8, by rw [hF 11 (by omega) (by omega)]; exact a9⟩, fun z => by rw [hF 13 (by omega) (by omega)]; exact a10 z, fun z => by rw [hF 13 (by omega) (by omega)]; exact a11 z, fun z => ?_, a13⟩
  obtain ⟨v, v1, v2, v3⟩ := a12 z
  exact ⟨v, v1, v2, by rw [hF 12 (by omega) (by omega)]; exact v3⟩
theorem Tok_f (hk : Tok g n b e k f F) {f' : Nat → Int32} (hf : ∀ j, j ≤ 6 → f' j = f j) : Tok g n b e k f' F := by
  obtain ⟨⟨a1, a2⟩, ⟨a3, a4, a5, a6⟩, a7, a10, a11, a12, a13⟩ := hk
  refine ⟨⟨by rw [hf 1 (by omega)]; exact a1, a2⟩, ⟨by rw [hf 2 (by omega)]; exact a3, by rw [hf 3 (by omega)]; exact a4, by rw [hf 4 (by omega)]; exact a5, by rw [hf 5 (by omega)]; exact a6⟩, a7, a10, a11, fun z => ?_, a13⟩
  obtain ⟨v, v1, v2, v3⟩ := a12 z
  exact ⟨v, v1, by rw [hf 6 (by omega)]; exact v2, v3⟩
/-- the next word -/
theorem PS_next (hG : GE h Y n κ A g σ ρ) (hP : PS g n κ A s0 F0 op no b e k m hh f t F s) : ∃ f' F' b' e' k', f_Tape_nextWord h true (tS σ h f t) = ((), true, tS σ h f' t) ∧ f_Model_next Y true (mS ρ Y F s) = ((), true, mS ρ Y F' s) ∧ PS g n κ A s0 F0 op no b' e' k' m hh f' t F' s ∧ e ≤ b' := by
  obtain ⟨p1, ⟨p2, p3, p4, p5⟩, ⟨p6, p7, p8, p9⟩, p10, p11, p12, p13⟩ := hP
  obtain ⟨f', F', b', e', k', q1, q2, q3, q4, q5, q6⟩ := N_sim (t := t) (s := s) hG.1 hG.2.1 p1
  exact ⟨f', F', b', e', k', q1, q2, ⟨q3, ⟨by rw [q5 7 (by omega)]; exact p2, by rw [q5 9 (by omega)]; exact p3, by rw [q5 11 (by omega)]; exact p4, by rw [q5 10 (by omega), q6 18 (by omega)]; exact p5⟩, ⟨by rw [q6 14 (by omega)]; exact p6, by rw [q6 15 (by omega)]; exact p7, by rw [q6 16 (by omega)]; exact p8, by rw [q6 17 (by omega)]; exact p9⟩, p10, p11, p12, fun j hj => by rw [q6 j (by omega)]; exact p13 j hj⟩, q4⟩
theorem PS_14 (hP : PS g n κ A s0 F0 op no b e k m hh f t F s) (op' : Nat) : PS g n κ A s0 F0 op' no b e k m hh f t (up1 F 14 (nI op')) s := by
  obtain ⟨p1, ⟨p2, p3, p4, p5⟩, ⟨p6, p7, p8, p9⟩, p10, p11, p12, p13⟩ := hP
  exact ⟨Tok_F p1 (fun j _ _ => up1_ne' (by omega)), ⟨p2, p3, p4, by rw [up1_ne' (by decide)]; exact p5⟩, ⟨up1_s, by rw [up1_ne' (by decide)]; exact p7, by rw [up1_ne' (by decide)]; exact p8, by rw [up1_ne' (by decide)]; exact p9⟩, p10, p11, p12, fun j hj => by rw [up1_ne' (by omega)]; exact p13 j hj⟩
theorem PS_15 (hP : PS g n κ A s0 F0 op no b e k m hh f t F s) (no' : Nat) : PS g n κ A s0 F0 op no' b e k m hh f t (up1 F 15 (nI no')) s := by
  obtain ⟨p1, ⟨p2, p3, p4, p5⟩, ⟨p6, p7, p8, p9⟩, p10, p11, p12, p13⟩ := hP
  exact ⟨Tok_F p1 (fun j _ _ => up1_ne' (by omega)), ⟨p2, p3, p4, by rw [up1_ne' (by decide)]; exact p5⟩, ⟨by rw [up1_ne' (by decide)]; exact p6, up1_s, by rw [up1_ne' (by decide)]; exact p8, by rw [up1_ne' (by decide)]; exact p9⟩, p10, p11, p12, fun j hj => by rw [up1_ne' (by omega)]; exact p13 j hj⟩
theorem PS_op (hP : PS g n κ A s0 F0 op no b e k m hh f t F s) : PS g n κ A s0 F0 op no b e k m hh (up1 f 10 (f 10 + 1)) t (up1 F 18 (F 18 + 1)) s := by
  obtain ⟨p1, ⟨p2, p3, p4, p5⟩, ⟨p6, p7, p8, p9⟩, p10, p11, p12, p13⟩ := hP
  exact ⟨Tok_f (Tok_F p1 (fun j _ _ => up1_ne' (by omega))) (fun j _ => up1_ne' (by omega)), ⟨by rw [up1_ne' (by decide)]; exact p2, by rw [up1_ne' (by decide)]; exact p3, by rw [up1_ne' (by decide)]; exact p4, by rw [up1_s, up1_s, p5]⟩, ⟨by rw [up1_ne' (by decide)]; exact p6, by rw [up1_ne' (by decide)]; exact p7, by rw [up1_ne' (by decide)]; exact p8, by rw [up1_ne' (by decide)]; exact p9⟩, p10, p11, p12, fun j hj => by rw [up1_ne' (by omega)]; exact p13 j hj⟩
theorem PS_step (hP : PS g n κ A s0 F0 op no b e k m hh f t F s) {z w v : Int32} {hh' : Nat} (hr : rStep (nI κ) z w v) (hp : (w ≠ 2 ∧ hh' = hh + 1) ∨ (w = 2 ∧ v = 33 ∧ 1 ≤ hh ∧ hh' = hh) ∨ (w = 2 ∧ v ≠ 33 ∧ 2 ≤ hh ∧ hh' + 1 = hh)) (hm : m < 96) : PS g n κ A s0 F0 op no b e k (m + 1) hh' (up1 f 9 (nI (m + 1))) (up1 t m z) (up1 F 16 (nI (m + 1))) (up1 (up1 s (A + 2 * m) w) (A + 2 * m + 1) v) := by
  obtain ⟨p1, ⟨p2, p3, p4, p5⟩, ⟨p6, p7, p8, p9⟩, p10, p11, p12, p13⟩ := hP
  have e1 : up1 (up1 s (A + 2 * m) w) (A + 2 * m + 1) v (A + 2 * m) = w := by rw [up1_ne' (by omega), up1_s]
  have e2 : up1 (up1 s (A + 2 * m) w) (A + 2 * m + 1) v (A + 2 * m + 1) = v := up1_s
  refine ⟨Tok_f (Tok_F p1 (fun j _ _ => up1_ne' (by omega))) (fun j _ => up1_ne' (by omega)), ⟨by rw [up1_ne' (by decide)]; exact p2, up1_s, by rw [up1_ne' (by decide)]; exact p4, by rw [up1_ne' (by decide), up1_ne' (by decide)]; exact p5⟩, ⟨by rw [up1_ne' (by decide)]; exact p6, by rw [up1_ne' (by decide)]; exact p7, up1_s, by rw [up1_ne' (by decide)]; exact p9⟩, fun j hj => ?_, ?_, fun j hj => by rw [up1_ne' (by omega), up1_ne' (by omega)]; exact p12 j hj, fun j hj => by rw [up1_ne' (by omega)]; exact p13 j hj⟩
  · by_cases q : j = m
    · rw [q, up1_s, e1, e2]
      exact hr
    · rw [up1_ne' q, up1_ne' (show A + 2 * j ≠ A + 2 * m + 1 by omega), up1_ne' (show A + 2 * j ≠ A + 2 * m by omega), up1_ne' (show A + 2 * j + 1 ≠ A + 2 * m + 1 by omega), up1_ne' (show A + 2 * j + 1 ≠ A + 2 * m by omega)]
      exact p10 j (by omega)
  · refine ⟨hh, pileOK_c (fun j h1 h2 => by rw [up1_ne' (by omega), up1_ne' (by omega)]) p11, ?_⟩
    rw [e1, e2]
    exact hp
theorem FL_9 (hF : FL n A s0 F0 f F s) {m' : Nat} (hm : m' ≤ 96) : FL n A s0 F0 (up1 f 9 (nI m')) F s := by
  obtain ⟨⟨fa, a1, a2, a3⟩, -, a5, a6⟩ := hF
  exact ⟨⟨fa, a1, by rw [up1_ne' (by decide)]; exact a2, a3⟩, ⟨m', hm, up1_s⟩, a5, a6⟩
/-- a step behind a fault -/
theorem FL_step (hT : TC h n g σ) (hF : FL n A s0 F0 f F s) (v : Int32) : ∃ f' t', f_Tape_addStep h v true (tS σ h f t) = ((), true, tS σ h f' t') ∧ FL n A s0 F0 f' F s := by
  obtain ⟨m, m1, m2⟩ := hF.2.1
  rw [e_addStep hT m1 m2]
  by_cases c : m < 96
  · rw [if_pos c]
    exact ⟨_, _, rfl, FL_9 hF (by omega)⟩
  · rw [if_neg c]
    exact ⟨_, _, rfl, hF⟩
theorem FL_neg (hn : n ≤ 96) (hF : FL n A s0 F0 f F s) : ¬ f 11 < 0 := by
  obtain ⟨⟨fa, a1, a2, a3⟩, -⟩ := hF
  rw [a2]
  exact nI_pos (by omega)
/-- a fault at the word -/
theorem PS_note (hG : GE h Y n κ A g σ ρ) (hP : PS g n κ A s0 F0 op no b e k m hh f t F s) (hm : m < b) : ∃ f', f_Tape_noteFault h true (tS σ h f t) = ((), true, tS σ h f' t) ∧ FL n A s0 F0 f' F s := by
  have hn := hG.1.2.2.2.1
  obtain ⟨p1, ⟨p2, p3, p4, p5⟩, p6, p10, p11, p12, p13⟩ := hP
  obtain ⟨-, ⟨a3, -, -, -⟩, ⟨a7, -, -⟩, -, -, -, -, a14, a15, -⟩ := p1
  refine ⟨_, e_note hG.1, ?_⟩
  rw [if_pos (by rw [p4]; decide)]
  exact ⟨⟨b, by omega, by rw [up1_s]; exact a3, a7⟩, ⟨m, by omega, by rw [up1_ne' (by decide)]; exact p3⟩, p12, p13⟩
theorem note_FL (hT : TC h n g σ) (hF : FL n A s0 F0 f F s) : f_Tape_noteFault h true (tS σ h f t) = ((), true, tS σ h f t) := by
  rw [e_note hT, if_neg (FL_neg hT.2.2.2.1 hF)]
theorem byt_c : ∀ x, x < 256 → ∀ c, c < 128 → (byt x = nI c ↔ x = c) := by decide +kernel
theorem sgC_iff (hG : GE h Y n κ A g σ ρ) (hk : Tok g n b e k f F) {c : Nat} (h0 : c ≠ 0) (hc : c < 128) : f 5 = nI c ↔ (k = 3 ∧ g b = c) := by
  obtain ⟨-, ⟨-, -, -, a6⟩, -, -, -, -, a13, a14, a15, a16⟩ := hk
  rw [a6]
  by_cases q : k = 3
  · have := a16 (by omega)
    rw [if_pos q, byt_c _ (hG.1.2.2.2.2 b (by omega)).2 c hc]
    exact ⟨fun z => ⟨q, z⟩, fun z => z.2⟩
  · rw [if_neg q]
    refine ⟨fun z => absurd ((nI_eq (a := 0) (by decide) (by omega)).mp z).symm h0, fun z => absurd z.1 q⟩
theorem e_addOp (hT : TC h n g σ) {m : Nat} (hm : m < 96) (f9 : f 9 = nI m) (v : Int32) : f_Tape_addOperand h v true (tS σ h f t) = f_Tape_nextWord h true (tS σ h (up1 (up1 f 9 (nI (m + 1))) 10 (f 10 + 1)) (up1 t m v)) := by
  unfold f_Tape_addOperand
  rw [tS_k hT, Bool.and_true, e_addStep hT (by omega) f9, if_pos hm, bd_]
  dsimp only
  rw [lt_, tS_f, up1_ne' (show 10 ≠ 9 by decide), tS_p, tS_k hT, tS_k hT]
  rfl
/-- an operand -/
theorem sim_oper (hG : GE h Y n κ A g σ ρ) (hP : PS g n κ A s0 F0 op no b e k m hh f t F s) (hm : m < b) {z w v : Int32} (hk : k ≠ 0) (hr : rStep (nI κ) z w v) (hw : w ≠ 2) : ∃ f' F' t' s', f_Tape_addOperand h z true (tS σ h f t) = ((), true, tS σ h f' t') ∧ bd_ (f_Model_step Y w v true (mS ρ Y F s)) (fun (r_1 : Unit) (b_1 : Bool) (σ_1 : Sto) => (lt_ (pI σ_1 Y 18 ((SI σ_1 Y 18) + (1 : Int32))) (fun (σ_2 : Sto) => (bd_ (f_Model_next Y (((b_1 && cK σ_1 Y 13) && cK σ_1 Y 13) && cK σ_2 Y 13) σ_2) (fun (r_3 : Unit) (b_3 : Bool) (σ_3 : Sto) => ((1 : Int32), b_3, σ_3)))))) = (1, true, mS ρ Y F' s') ∧ Res g n κ A s0 F0 op no b m (hh + 1) f' t' F' s' 1 := by
  have hn := hG.1.2.2.2.1
  have hT0 := hP.1
  obtain ⟨-, -, -, -, -, -, -, a14, a15, a16⟩ := hT0
  have hbe := a16 hk
  have hm96 : m < 96 := by omega
  have hP1 := PS_op (PS_step hP hr (Or.inl ⟨hw, rfl⟩) hm96)
  obtain ⟨f', F', b', e', k', q1, q2, q3, q4⟩ := PS_next hG hP1
  have hA := hG.2.2.2.2
  refine ⟨f', F', _, _, ?_, ?_, Or.inl ⟨rfl, b', e', k', m + 1, q3, by omega, by omega⟩⟩
  · rw [e_addOp hG.1 hm96 hP.2.1.2.1]
    rw [up1_ne' (show 10 ≠ 9 by decide)] at q1
    exact q1
  · rw [e_step hG.2.1 (m := m) (A := A) (by omega) hP.2.2.1.2.2.1 hP.2.2.1.2.2.2, bd_]
    dsimp only
    rw [lt_, mS_f, mS_p, mS_k hG.2.1, mS_k hG.2.1]
    simp only [Bool.and_true]
    rw [q2]
    rfl
end TX7
