/-! the tape fed -/
section FD
variable {X Y w : Nat} {σ ρ : Sto}
def bC (x s : Int32) : Int32 := ((x >>> (s &&& 31)).toInt8.toInt32).toInt8.toInt32
theorem a255 (y : Int32) : (y &&& 255).toInt8 = y.toInt8 := by
  rw [Int32.toInt8_and, show (255 : Int32).toInt8 = -1 by decide]
  exact Int8.and_neg_one
theorem bC_M (x s : Int32) : bC x s = ((x >>> (s &&& 31)) &&& 255).toInt8.toInt32 := by
  unfold bC
  rw [Int8.toInt8_toInt32, a255]
theorem bd255 (y : Int32) : bd (y &&& 255) 0 255 := by
  have e : (y &&& 255).toBitVec.toNat ≤ 255 := by
    rw [Int32.toBitVec_and, BitVec.toNat_and]
    exact Nat.and_le_right
  have e2 : (y &&& 255).toInt = ((y &&& 255).toBitVec.toNat : Int) := by
    show (y &&& 255).toBitVec.toInt = _
    exact BitVec.toInt_eq_toNat_of_lt (by omega)
  exact ⟨by omega, by omega⟩
def ap1 (X n : Nat) (b : Int32) (τ : Sto) : Sto := pI (pI τ (X + 161) n b) (X + 160) 1 (nI (n + 1))
/-- one byte more on the class's tape -/
theorem it_append {τ : Sto} (hX : LayX X τ) {n : Nat} (hn : n < 96) (q : SI τ (X + 160) 1 = nI n) (x s : Int32) (hs : ¬ s < 0) (L : Int32 → Bool → Sto → Rs Unit) : b_Tape_append_3 (X + 160) x L s true τ = L (s + -8) true (ap1 X n (bC x s) τ) := by
  have n1 : X + 160 ≠ X + 161 := by omega
  unfold b_Tape_append_3 bC ap1
  simp only [lt_, if_neg hs, q, if_pos (show nI n < (96 : Int32) from nI_lt (b := 96) hn (by decide)), rX_160_0 hX, cK_pI, cA_pI, SI_pI, up2_ne' n1, ix_nI (show n < 2 ^ 31 by omega), cK_of (kX_160 hX), cA_of (kX_161 hX) (nX_161 hX) hn (by decide), Bool.and_true, nI_1]
theorem ap1_X {τ : Sto} {n : Nat} {b : Int32} (hX : LayX X τ) : LayX X (ap1 X n b τ) := LayX_c hX rfl rfl rfl
theorem ap1_1 {τ : Sto} {n : Nat} {b : Int32} : SI (ap1 X n b τ) (X + 160) 1 = nI (n + 1) := up2_s
theorem ap1_161 {τ : Sto} {n k : Nat} {b : Int32} : SI (ap1 X n b τ) (X + 161) k = if k = n then b else SI τ (X + 161) k := by
  unfold ap1
  rw [SI_pI, up2_ne' (by omega), SI_pI]
  by_cases e : k = n
  · rw [if_pos e, e, up2_s]
  · rw [if_neg e, up2_nj e]
theorem ap1_a {τ : Sto} {n a : Nat} {b : Int32} (h1 : a ≠ X + 160) (h2 : a ≠ X + 161) : SI (ap1 X n b τ) a = SI τ a := by
  unfold ap1
  rw [SI_pI, up2_ne h1, SI_pI, up2_ne h2]
theorem ap1_f {τ : Sto} {n : Nat} {b : Int32} : Shn (ap1 X n b τ) = Shn τ ∧ Stk (ap1 X n b τ) = Stk τ ∧ Sln (ap1 X n b τ) = Sln τ ∧ SR (ap1 X n b τ) = SR τ ∧ SL (ap1 X n b τ) = SL τ ∧ Scs (ap1 X n b τ) = Scs τ := by
  unfold ap1
  exact ⟨by rw [Shn_pI, Shn_pI], by rw [Stk_pI, Stk_pI], by rw [Sln_pI, Sln_pI], by rw [SR_pI, SR_pI], by rw [SL_pI, SL_pI], by rw [Scs_pI, Scs_pI]⟩
/-- four bytes -/
def ap4 (X n : Nat) (x : Int32) (τ : Sto) : Sto := ap1 X (n + 3) (bC x 0) (ap1 X (n + 2) (bC x 8) (ap1 X (n + 1) (bC x 16) (ap1 X n (bC x 24) τ)))
theorem e_append (hX : LayX X σ) {n : Nat} (hn : n + 4 ≤ 96) (q : SI σ (X + 160) 1 = nI n) (x : Int32) : f_Tape_append (X + 160) x true σ = ((), true, ap4 X n x σ) := by
  obtain ⟨N, hN⟩ : ∃ N, fuel_ = N + 5 := ⟨69995, rfl⟩
  unfold f_Tape_append
  rw [lt_, hN, show N + 5 = (N + 4) + 1 from rfl, lp_S, it_append hX (by omega) q x 24 (by decide)]
  rw [show N + 4 = (N + 3) + 1 from rfl, lp_S, show (24 : Int32) + -8 = 16 by decide, it_append (ap1_X hX) (by omega) ap1_1 x 16 (by decide)]
  rw [show N + 3 = (N + 2) + 1 from rfl, lp_S, show (16 : Int32) + -8 = 8 by decide, it_append (ap1_X (ap1_X hX)) (by omega) ap1_1 x 8 (by decide)]
  rw [show N + 2 = (N + 1) + 1 from rfl, lp_S, show (8 : Int32) + -8 = 0 by decide, it_append (ap1_X (ap1_X (ap1_X hX))) (by omega) ap1_1 x 0 (by decide)]
  rw [lp_S, show (0 : Int32) + -8 = -8 by decide]
  unfold b_Tape_append_3
  rw [if_pos (by decide)]
  rfl
theorem ap4_X {τ : Sto} {n : Nat} {x : Int32} (hX : LayX X τ) : LayX X (ap4 X n x τ) := ap1_X (ap1_X (ap1_X (ap1_X hX)))
theorem ap4_f {τ : Sto} {n : Nat} {x : Int32} : Shn (ap4 X n x τ) = Shn τ ∧ Stk (ap4 X n x τ) = Stk τ ∧ Sln (ap4 X n x τ) = Sln τ ∧ SR (ap4 X n x τ) = SR τ ∧ SL (ap4 X n x τ) = SL τ ∧ Scs (ap4 X n x τ) = Scs τ := by
  unfold ap4
  obtain ⟨a0, a1, a2, a3, a4, a5⟩ := ap1_f (X := X) (τ := ap1 X (n + 2) (bC x 8) (ap1 X (n + 1) (bC x 16) (ap1 X n (bC x 24) τ))) (n := n + 3) (b := bC x 0)
  obtain ⟨b0, b1, b2, b3, b4, b5⟩ := ap1_f (X := X) (τ := ap1 X (n + 1) (bC x 16) (ap1 X n (bC x 24) τ)) (n := n + 2) (b := bC x 8)
  obtain ⟨c0, c1, c2, c3, c4, c5⟩ := ap1_f (X := X) (τ := ap1 X n (bC x 24) τ) (n := n + 1) (b := bC x 16)
  obtain ⟨d0, d1, d2, d3, d4, d5⟩ := ap1_f (X := X) (τ := τ) (n := n) (b := bC x 24)
  exact ⟨by rw [a0, b0, c0, d0], by rw [a1, b1, c1, d1], by rw [a2, b2, c2, d2], by rw [a3, b3, c3, d3], by rw [a4, b4, c4, d4], by rw [a5, b5, c5, d5]⟩
theorem ap4_1 {τ : Sto} {n : Nat} {x : Int32} : SI (ap4 X n x τ) (X + 160) 1 = nI (n + 4) := ap1_1
theorem ap4_161 {τ : Sto} {n k : Nat} {x : Int32} : SI (ap4 X n x τ) (X + 161) k = if k = n + 3 then bC x 0 else if k = n + 2 then bC x 8 else if k = n + 1 then bC x 16 else if k = n then bC x 24 else SI τ (X + 161) k := by
  unfold ap4
  rw [ap1_161, ap1_161, ap1_161, ap1_161]
theorem ap4_a {τ : Sto} {n a : Nat} {x : Int32} (h1 : a ≠ X + 160) (h2 : a ≠ X + 161) : SI (ap4 X n x τ) a = SI τ a := by
  unfold ap4
  rw [ap1_a h1 h2, ap1_a h1 h2, ap1_a h1 h2, ap1_a h1 h2]
/-- the reference's byte -/
def fM (a b c : Int32) (i : Nat) : Int32 := ((if nI i < 4 then a else if nI i < 8 then b else c) >>> ((24 - 8 * (nI i - nI i / 4 * 4)) &&& 31)) &&& 255
def ft (Y n : Nat) (v : Int32) (τ : Sto) : Sto := pI (pI τ (Y + 7) n v) Y 8 (nI (n + 1))
def ftI (Y n : Nat) (a b c : Int32) (ρ : Sto) : Nat → Sto
  | 0 => ρ
  | i + 1 => ft Y (n + i) (fM a b c i) (ftI Y n a b c ρ i)
theorem ftI_Y {n : Nat} {a b c : Int32} (hY : LayY Y ρ) : ∀ i, LayY Y (ftI Y n a b c ρ i)
  | 0 => hY
  | i + 1 => LayY_c (ftI_Y hY i) rfl rfl rfl
theorem ftI_8 {n : Nat} {a b c : Int32} (h : SI ρ Y 8 = nI n) : ∀ i, SI (ftI Y n a b c ρ i) Y 8 = nI (n + i)
  | 0 => h
  | i + 1 => up2_s
theorem ftI_7 {n : Nat} {a b c : Int32} : ∀ i k, SI (ftI Y n a b c ρ i) (Y + 7) k = if n ≤ k ∧ k < n + i then fM a b c (k - n) else SI ρ (Y + 7) k
  | 0, k => by rw [if_neg (by omega)]; rfl
  | i + 1, k => by
    show SI (ft Y (n + i) (fM a b c i) (ftI Y n a b c ρ i)) (Y + 7) k = _
    unfold ft
    rw [SI_pI, up2_ne' (by omega), SI_pI]
    by_cases e : k = n + i
    · rw [e, up2_s, if_pos (by omega), show n + i - n = i by omega]
    · rw [up2_nj e, ftI_7 i k]
      by_cases y : n ≤ k ∧ k < n + i
      · rw [if_pos y, if_pos (by omega)]
      · rw [if_neg y, if_neg (by omega)]
theorem ftI_a {n : Nat} {a b c : Int32} {x : Nat} (h1 : x ≠ Y) (h2 : x ≠ Y + 7) : ∀ i, SI (ftI Y n a b c ρ i) x = SI ρ x
  | 0 => rfl
  | i + 1 => by
    show SI (ft Y (n + i) (fM a b c i) (ftI Y n a b c ρ i)) x = _
    unfold ft
    rw [SI_pI, up2_ne h1, SI_pI, up2_ne h2]
    exact ftI_a h1 h2 i
theorem ftI_Yj {n : Nat} {a b c : Int32} {j : Nat} (hj : j ≠ 8) : ∀ i, SI (ftI Y n a b c ρ i) Y j = SI ρ Y j
  | 0 => rfl
  | i + 1 => by
    show SI (ft Y (n + i) (fM a b c i) (ftI Y n a b c ρ i)) Y j = _
    unfold ft
    rw [SI_pI, up2_nj hj, SI_pI, up2_ne' (by omega)]
    exact ftI_Yj hj i
theorem ftI_f {n : Nat} {a b c : Int32} : ∀ i, Shn (ftI Y n a b c ρ i) = Shn ρ ∧ Stk (ftI Y n a b c ρ i) = Stk ρ ∧ Sln (ftI Y n a b c ρ i) = Sln ρ ∧ SR (ftI Y n a b c ρ i) = SR ρ ∧ SL (ftI Y n a b c ρ i) = SL ρ
  | 0 => ⟨rfl, rfl, rfl, rfl, rfl⟩
  | i + 1 => ftI_f i
theorem e_feedM (hY : LayY Y ρ) {n : Nat} (hn : n + 12 ≤ 96) (h : SI ρ Y 8 = nI n) (a b c : Int32) : lp_ (b_Model_feed_18 Y a b c) (fun (x4 : Int32) (b : Bool) (σ : Sto) => (0, false, σ)) fuel_ 0 true ρ = (nI (n + 12), true, ftI Y n a b c ρ 12) := by
  obtain ⟨τ, p, e⟩ := lp_ex (body := b_Model_feed_18 Y a b c) (bad := fun (x4 : Int32) (b : Bool) (σ : Sto) => (0, false, σ)) 12 (fun i τ => τ = ftI Y n a b c ρ i) (fun τ => (nI (n + 12), true, τ)) (by decide) (fun i τ hi p => by
    subst p
    refine ⟨_, rfl, fun L => ?_⟩
    have n1 : Y ≠ Y + 7 := by omega
    have hY2 := ftI_Y (n := n) (a := a) (b := b) (c := c) hY i
    have h8 := ftI_8 (a := a) (b := b) (c := c) h i
    show _ = L (nI i + 1) true (ft Y (n + i) (fM a b c i) (ftI Y n a b c ρ i))
    unfold b_Model_feed_18 ft fM
    generalize ftI Y n a b c ρ i = τ at hY2 h8 ⊢
    simp only [lt_, if_pos (show nI i < (12 : Int32) from nI_lt (b := 12) hi (by decide)), h8, rY_7 hY2, cK_pI, cA_pI, SI_pI, up2_ne' n1, ix_nI (show n + i < 2 ^ 31 by omega), cK_of (kY_0 hY2), cA_of (kY_7 hY2) (nY_7 hY2) (show n + i < 96 by omega) (by decide), Bool.and_true, show (!decide ((4 : Int32) = 0)) = true from rfl, nI_1]
    by_cases c4 : nI i < 4
    · simp only [if_pos c4]
    · simp only [if_neg c4]
      by_cases c8 : nI i < 8
      · simp only [if_pos c8]
      · simp only [if_neg c8]) (fun L τ p => by
    subst p
    have hY2 := ftI_Y (n := n) (a := a) (b := b) (c := c) hY 12
    have h8 := ftI_8 (a := a) (b := b) (c := c) h 12
    unfold b_Model_feed_18
    generalize ftI Y n a b c ρ 12 = τ at hY2 h8 ⊢
    simp only [lt_, if_neg (show ¬ nI 12 < (12 : Int32) by decide), h8, cK_of (kY_0 hY2), Bool.and_true]) ρ rfl
  rw [e, p]
theorem fM_0 (a b c : Int32) : fM a b c 0 = (((a >>> ((24 : Int32) &&& 31)) &&& 255)) := by
  unfold fM
  rw [if_pos (show nI 0 < 4 by decide), show (24 : Int32) - 8 * (nI 0 - nI 0 / 4 * 4) = 24 by decide]
theorem fM_1 (a b c : Int32) : fM a b c 1 = (((a >>> ((16 : Int32) &&& 31)) &&& 255)) := by
  unfold fM
  rw [if_pos (show nI 1 < 4 by decide), show (24 : Int32) - 8 * (nI 1 - nI 1 / 4 * 4) = 16 by decide]
theorem fM_2 (a b c : Int32) : fM a b c 2 = (((a >>> ((8 : Int32) &&& 31)) &&& 255)) := by
  unfold fM
  rw [if_pos (show nI 2 < 4 by decide), show (24 : Int32) - 8 * (nI 2 - nI 2 / 4 * 4) = 8 by decide]
theorem fM_3 (a b c : Int32) : fM a b c 3 = (((a >>> ((0 : Int32) &&& 31)) &&& 255)) := by
  unfold fM
  rw [if_pos (show nI 3 < 4 by decide), show (24 : Int32) - 8 * (nI 3 - nI 3 / 4 * 4) = 0 by decide]
theorem fM_4 (a b c : Int32) : fM a b c 4 = (((b >>> ((24 : Int32) &&& 31)) &&& 255)) := by
  unfold fM
  rw [if_neg (show ¬ nI 4 < 4 by decide), if_pos (show nI 4 < 8 by decide), show (24 : Int32) - 8 * (nI 4 - nI 4 / 4 * 4) = 24 by decide]
theorem fM_5 (a b c : Int32) : fM a b c 5 = (((b >>> ((16 : Int32) &&& 31)) &&& 255)) := by
  unfold fM
  rw [if_neg (show ¬ nI 5 < 4 by decide), if_pos (show nI 5 < 8 by decide), show (24 : Int32) - 8 * (nI 5 - nI 5 / 4 * 4) = 16 by decide]
theorem fM_6 (a b c : Int32) : fM a b c 6 = (((b >>> ((8 : Int32) &&& 31)) &&& 255)) := by
  unfold fM
  rw [if_neg (show ¬ nI 6 < 4 by decide), if_pos (show nI 6 < 8 by decide), show (24 : Int32) - 8 * (nI 6 - nI 6 / 4 * 4) = 8 by decide]
theorem fM_7 (a b c : Int32) : fM a b c 7 = (((b >>> ((0 : Int32) &&& 31)) &&& 255)) := by
  unfold fM
  rw [if_neg (show ¬ nI 7 < 4 by decide), if_pos (show nI 7 < 8 by decide), show (24 : Int32) - 8 * (nI 7 - nI 7 / 4 * 4) = 0 by decide]
theorem fM_8 (a b c : Int32) : fM a b c 8 = (((c >>> ((24 : Int32) &&& 31)) &&& 255)) := by
  unfold fM
  rw [if_neg (show ¬ nI 8 < 4 by decide), if_neg (show ¬ nI 8 < 8 by decide), show (24 : Int32) - 8 * (nI 8 - nI 8 / 4 * 4) = 24 by decide]
theorem fM_9 (a b c : Int32) : fM a b c 9 = (((c >>> ((16 : Int32) &&& 31)) &&& 255)) := by
  unfold fM
  rw [if_neg (show ¬ nI 9 < 4 by decide), if_neg (show ¬ nI 9 < 8 by decide), show (24 : Int32) - 8 * (nI 9 - nI 9 / 4 * 4) = 16 by decide]
theorem fM_10 (a b c : Int32) : fM a b c 10 = (((c >>> ((8 : Int32) &&& 31)) &&& 255)) := by
  unfold fM
  rw [if_neg (show ¬ nI 10 < 4 by decide), if_neg (show ¬ nI 10 < 8 by decide), show (24 : Int32) - 8 * (nI 10 - nI 10 / 4 * 4) = 8 by decide]
theorem fM_11 (a b c : Int32) : fM a b c 11 = (((c >>> ((0 : Int32) &&& 31)) &&& 255)) := by
  unfold fM
  rw [if_neg (show ¬ nI 11 < 4 by decide), if_neg (show ¬ nI 11 < 8 by decide), show (24 : Int32) - 8 * (nI 11 - nI 11 / 4 * 4) = 0 by decide]
theorem op_10 : Op_10 X Y (REL X Y) := by
  intro a b c σ ρ h
  have hX := h.2.2.1
  have hY : LayY Y (stn ρ (Shn σ)) := h.2.2.2.1
  obtain ⟨n, y1, y2, y3, y4⟩ := h.2.2.2.2.2.2.2.1
  have en : nI n + 12 = nI (n + 12) := nI_add n 12
  by_cases hq : n + 12 ≤ 96
  · have hlt : ¬ (96 : Int32) < nI (n + 12) := nI_nlt (a := 96) hq (by decide)
    have eC : f_Trail_feed X a b c true σ = (nI (n + 12), true, (ap4 X (n + 8) c (ap4 X (n + 4) b (ap4 X n a σ)))) := by
      unfold f_Trail_feed
      simp only [bd_, rX_0_3 hX, y2, en, if_neg hlt, cK_of (kX_0 hX), cK_of (kX_160 hX), Bool.and_true, e_append hX (show n + 4 ≤ 96 by omega) y2 a]
      have hX1 : LayX X (ap4 X n a σ) := ap4_X hX
      have q1 : SI (ap4 X n a σ) (X + 160) 1 = nI (n + 4) := ap4_1
      have hX2 : LayX X (ap4 X (n + 4) b (ap4 X n a σ)) := ap4_X hX1
      have q2 : SI (ap4 X (n + 4) b (ap4 X n a σ)) (X + 160) 1 = nI (n + 8) := ap4_1
      have hX3 : LayX X (ap4 X (n + 8) c (ap4 X (n + 4) b (ap4 X n a σ))) := ap4_X hX2
      have q3 : SI (ap4 X (n + 8) c (ap4 X (n + 4) b (ap4 X n a σ))) (X + 160) 1 = nI (n + 12) := ap4_1
      simp only [rX_0_3 hX1, cK_of (kX_0 hX1), cK_of (kX_160 hX1), Bool.and_true, e_append hX1 (show n + 4 + 4 ≤ 96 by omega) q1 b, rX_0_3 hX2, cK_of (kX_0 hX2), cK_of (kX_160 hX2), e_append hX2 (show n + 8 + 4 ≤ 96 by omega) q2 c, rX_0_3 hX3, cK_of (kX_0 hX3), cK_of (kX_160 hX3), q3]
    have hC : ∀ x, x ≠ X + 160 → x ≠ X + 161 → SI (ap4 X (n + 8) c (ap4 X (n + 4) b (ap4 X n a σ))) x = SI σ x := fun x h1 h2 => by rw [ap4_a h1 h2, ap4_a h1 h2, ap4_a h1 h2]
    have hM : ∀ x, x ≠ Y → x ≠ Y + 7 → SI (ftI Y n a b c (stn ρ (Shn σ)) 12) x = SI ρ x := fun x h1 h2 => ftI_a h1 h2 12
    have hMj : ∀ j, j ≠ 8 → SI (ftI Y n a b c (stn ρ (Shn σ)) 12) Y j = SI ρ Y j := fun j hj => ftI_Yj hj 12
    obtain ⟨u0, u1, u2, u3, u4, u5⟩ := ap4_f (X := X) (τ := ap4 X (n + 4) b (ap4 X n a σ)) (n := n + 8) (x := c)
    obtain ⟨v0, v1, v2, v3, v4, v5⟩ := ap4_f (X := X) (τ := ap4 X n a σ) (n := n + 4) (x := b)
    obtain ⟨w0, w1, w2, w3, w4, w5⟩ := ap4_f (X := X) (τ := σ) (n := n) (x := a)
    obtain ⟨f1, f2, f3, f4, f5⟩ := ftI_f (Y := Y) (n := n) (a := a) (b := b) (c := c) (ρ := stn ρ (Shn σ)) 12
    refine OpOK_j (nI (n + 12)) (Shn σ) (ap4 X (n + 8) c (ap4 X (n + 4) b (ap4 X n a σ))) (ftI Y n a b c (stn ρ (Shn σ)) 12) eC (by rw [u0, v0, w0]) ?_ f1 ?_
    · show f_Model_feed Y a b c true (stn ρ (Shn σ)) = _
      have y3' : SI (stn ρ (Shn σ)) Y 8 = nI n := y3
      rw [f_Model_feed, y3', en, if_neg hlt, lt_, cK_of (kY_0 hY), Bool.and_true]
      exact e_feedM hY hq y3' a b c
    · refine REL_g h (by rw [u0, v0, w0]) (by rw [u1, v1, w1]) (by rw [u2, v2, w2]) (by rw [u3, v3, w3]) (by rw [u5, v5, w5]) (fun x hx => hC x (by omega) (by omega)) (by rw [hC X (by omega) (by omega)]) f2 f3 f4 (hM _ (by omega) (by omega)) (hM _ (by omega) (by omega)) (hMj 3 (by omega)) ?_ (rSh_c h.2.2.2.2.2.2.2.2.1 (fun x _ _ => ⟨hC x (by omega) (by omega), by rw [u4, v4, w4]⟩) (hM _ (by omega) (by omega)) (hM _ (by omega) (by omega)) (by rw [f5]; rfl)) (rTell_c h.2.2.2.2.2.2.2.2.2 (by rw [hC X (by omega) (by omega)]) (hC _ (by omega) (by omega)) (hMj 33 (by omega)) (hM _ (by omega) (by omega)))
      have y3' : SI (stn ρ (Shn σ)) Y 8 = nI n := y3
      have z1 := ap4_1 (X := X) (τ := ap4 X (n + 4) b (ap4 X n a σ)) (n := n + 8) (x := c)
      rw [show n + 8 + 4 = n + 12 by omega] at z1
      refine ⟨n + 12, hq, z1, ftI_8 y3' 12, fun k hk => ?_⟩
      rw [ftI_7, ap4_161, ap4_161, ap4_161]
      by_cases hkn : k < n
      · rw [if_neg (show ¬ (n ≤ k ∧ k < n + 12) by omega)]
        repeat rw [if_neg (by omega)]
        exact y4 k hkn
      · rw [if_pos (show n ≤ k ∧ k < n + 12 by omega)]
        obtain ⟨i, rfl⟩ : ∃ i, k = n + i := ⟨k - n, by omega⟩
        rw [show n + i - n = i by omega]
        rcases (show i = 0 ∨ i = 1 ∨ i = 2 ∨ i = 3 ∨ i = 4 ∨ i = 5 ∨ i = 6 ∨ i = 7 ∨ i = 8 ∨ i = 9 ∨ i = 10 ∨ i = 11 by omega) with rfl | rfl | rfl | rfl | rfl | rfl | rfl | rfl | rfl | rfl | rfl | rfl
        · rw [fM_0, if_neg (by omega), if_neg (by omega), if_neg (by omega), if_neg (by omega), if_neg (by omega), if_neg (by omega), if_neg (by omega), if_neg (by omega), if_neg (by omega), if_neg (by omega), if_neg (by omega), if_pos (by omega)]
          exact ⟨bC_M a 24, bd255 _⟩
        · rw [fM_1, if_neg (by omega), if_neg (by omega), if_neg (by omega), if_neg (by omega), if_neg (by omega), if_neg (by omega), if_neg (by omega), if_neg (by omega), if_neg (by omega), if_neg (by omega), if_pos (by omega)]
          exact ⟨bC_M a 16, bd255 _⟩
        · rw [fM_2, if_neg (by omega), if_neg (by omega), if_neg (by omega), if_neg (by omega), if_neg (by omega), if_neg (by omega), if_neg (by omega), if_neg (by omega), if_neg (by omega), if_pos (by omega)]
          exact ⟨bC_M a 8, bd255 _⟩
        · rw [fM_3, if_neg (by omega), if_neg (by omega), if_neg (by omega), if_neg (by omega), if_neg (by omega), if_neg (by omega), if_neg (by omega), if_neg (by omega), if_pos (by omega)]
          exact ⟨bC_M a 0, bd255 _⟩
        · rw [fM_4, if_neg (by omega), if_neg (by omega), if_neg (by omega), if_neg (by omega), if_neg (by omega), if_neg (by omega), if_neg (by omega), if_pos (by omega)]
          exact ⟨bC_M b 24, bd255 _⟩
        · rw [fM_5, if_neg (by omega), if_neg (by omega), if_neg (by omega), if_neg (by omega), if_neg (by omega), if_neg (by omega), if_pos (by omega)]
          exact ⟨bC_M b 16, bd255 _⟩
        · rw [fM_6, if_neg (by omega), if_neg (by omega), if_neg (by omega), if_neg (by omega), if_neg (by omega), if_pos (by omega)]
          exact ⟨bC_M b 8, bd255 _⟩
        · rw [fM_7, if_neg (by omega), if_neg (by omega), if_neg (by omega), if_neg (by omega), if_pos (by omega)]
          exact ⟨bC_M b 0, bd255 _⟩
        · rw [fM_8, if_neg (by omega), if_neg (by omega), if_neg (by omega), if_pos (by omega)]
          exact ⟨bC_M c 24, bd255 _⟩
        · rw [fM_9, if_neg (by omega), if_neg (by omega), if_pos (by omega)]
          exact ⟨bC_M c 16, bd255 _⟩
        · rw [fM_10, if_neg (by omega), if_pos (by omega)]
          exact ⟨bC_M c 8, bd255 _⟩
        · rw [fM_11, if_pos (by omega)]
          exact ⟨bC_M c 0, bd255 _⟩
  · have hlt : (96 : Int32) < nI (n + 12) := nI_lt (a := 96) (by omega) (by omega)
    refine OpOK_b (-1000000003) h ?_ ?_
    · unfold f_Trail_feed
      simp only [rX_0_3 hX, y2, en, if_pos hlt, cK_of (kX_0 hX), cK_of (kX_160 hX), Bool.and_true]
    · show f_Model_feed Y a b c true (stn ρ (Shn σ)) = _
      have y3' : SI (stn ρ (Shn σ)) Y 8 = nI n := y3
      rw [f_Model_feed, y3', en, if_pos hlt, cK_of (kY_0 hY), Bool.and_true]
end FD
