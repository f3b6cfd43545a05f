/-! counting loops; told, is, count -/
def cntI (c : Nat → Bool) (n : Nat) : Int32 := foldI (fun k (x : Int32) => x + (if c k = true then 1 else 0)) 0 n 0
theorem cntI_congr {c d : Nat → Bool} {n : Nat} (h : ∀ k, k < n → c k = d k) : cntI c n = cntI d n := by
  unfold cntI
  exact foldI_congr (fun k a _ h2 => by rw [h k (by omega)])
section OP16
variable {X Y w : Nat} {σ ρ : Sto} {α : Type}
theorem lp_cnt {body : (Int32 → Int32 → Bool → Sto → Rs α) → Int32 → Int32 → Bool → Sto → Rs α} {bad : Int32 → Int32 → Bool → Sto → Rs α} {σ : Sto} (N : Nat) (c : Nat → Bool) (k : Int32 → Rs α) (hN : N < 69999)
    (hstep : ∀ L i a, i < N → body L a (nI i) true σ = L (a + (if c i = true then 1 else 0)) (nI i + 1) true σ) (hexit : ∀ L a, body L a (nI N) true σ = k a) :
    lp_ body bad fuel_ 0 0 true σ = k (cntI c N) :=
  lp_acc N (fun k (x : Int32) => x + (if c k = true then 1 else 0)) k hN hstep hexit 0 0 (Nat.zero_le _)
theorem e_isOpenFor (hW : LayW w σ) {i : Nat} (hi : i < 20) (o : Int32) : f_Post_isOpenFor (w + 15) (nI i) o true σ = (bI (SI σ (w + 20) i = 0 ∧ SI σ (w + 16) i = o), true, σ) := by
  unfold f_Post_isOpenFor bI
  simp only [lt_, rW_15_4 hW, rW_15_0 hW, cK_of (kW_15 hW), ix_nI (show i < 2 ^ 31 by omega), cA_of (kW_20 hW) (nW_20 hW) hi (by decide), cA_of (kW_16 hW) (nW_16 hW) hi (by decide), Bool.and_true]
  by_cases a : SI σ (w + 20) i = 0
  · by_cases c : SI σ (w + 16) i = o
    · rw [if_pos a, if_pos c, if_pos ⟨a, c⟩]
    · rw [if_pos a, if_neg c, if_neg (fun z => c z.2)]
  · rw [if_neg a, if_neg (fun z => a z.1)]
def opC (σ : Sto) (w : Nat) (o : Int32) (i : Nat) : Bool := decide (SI σ (w + 20) i = 0 ∧ SI σ (w + 16) i = o)
theorem bI_dec {p : Prop} [Decidable p] : bI p = if decide p = true then 1 else 0 := by
  unfold bI
  simp only [decide_eq_true_eq]
theorem e_openOf (hW : LayW w σ) {nb : Nat} (hn : nb ≤ 20) (r2 : SI σ (w + 15) 5 = nI nb) (o : Int32) : f_Post_openOf (w + 15) o true σ = (cntI (opC σ w o) nb, true, σ) := by
  unfold f_Post_openOf
  simp only [lt_]
  refine lp_cnt (σ := σ) nb (opC σ w o) (fun x => (x, true, σ)) (by omega) (fun L i x hi => ?_) (fun L x => ?_)
  · unfold b_Post_openOf_4 opC
    simp only [bd_, lt_, r2, cK_of (kW_15 hW), Bool.and_true, if_pos (show nI i < nI nb from nI_lt hi (by omega)), e_isOpenFor hW (show i < 20 by omega), bI_dec]
    by_cases c : decide (SI σ (w + 20) i = 0 ∧ SI σ (w + 16) i = o) = true
    · simp only [if_pos c, i10, if_false]
    · simp only [if_neg c, if_true]
  · unfold b_Post_openOf_4
    simp only [lt_, r2, cK_of (kW_15 hW), Bool.and_true, if_neg (nI_nlt (Nat.le_refl nb) (by omega))]
theorem e_openIn (hW : LayW w σ) {nb : Nat} (hn : nb ≤ 20) (r2 : SI σ (w + 15) 5 = nI nb) (t : Int32) : f_Post_openIn (w + 15) t true σ = (cntI (fun i => decide (SI σ (w + 20) i = 0 ∧ SI σ (w + 17) i = t)) nb, true, σ) := by
  unfold f_Post_openIn
  simp only [lt_]
  refine lp_cnt (σ := σ) nb (fun i => decide (SI σ (w + 20) i = 0 ∧ SI σ (w + 17) i = t)) (fun x => (x, true, σ)) (by omega) (fun L i x hi => ?_) (fun L x => ?_)
  · unfold b_Post_openIn_4
    simp only [bd_, lt_, r2, rW_15_4 hW, rW_15_1 hW, cK_of (kW_15 hW), ix_nI (show i < 2 ^ 31 by omega), cA_of (kW_20 hW) (nW_20 hW) (show i < 20 by omega) (by decide), cA_of (kW_17 hW) (nW_17 hW) (show i < 20 by omega) (by decide), Bool.and_true, if_pos (show nI i < nI nb from nI_lt hi (by omega)), decide_eq_true_eq]
    by_cases a : SI σ (w + 20) i = 0
    · by_cases c : SI σ (w + 17) i = t
      · rw [if_pos a, if_pos c, if_pos ⟨a, c⟩]
      · rw [if_pos a, if_neg c, if_neg (fun z => c z.2)]
    · rw [if_neg a, if_neg (fun z => a z.1)]
  · unfold b_Post_openIn_4
    simp only [lt_, r2, cK_of (kW_15 hW), Bool.and_true, if_neg (nI_nlt (Nat.le_refl nb) (by omega))]
theorem e_openInAll (hW : LayW w σ) {nb : Nat} (hn : nb ≤ 20) (r2 : SI σ (w + 15) 5 = nI nb) : f_Post_openInAll (w + 15) true σ = (cntI (fun i => decide (SI σ (w + 20) i = 0)) nb, true, σ) := by
  unfold f_Post_openInAll
  simp only [lt_]
  refine lp_cnt (σ := σ) nb (fun i => decide (SI σ (w + 20) i = 0)) (fun x => (x, true, σ)) (by omega) (fun L i x hi => ?_) (fun L x => ?_)
  · unfold b_Post_openInAll_4
    simp only [bd_, lt_, r2, rW_15_4 hW, cK_of (kW_15 hW), ix_nI (show i < 2 ^ 31 by omega), cA_of (kW_20 hW) (nW_20 hW) (show i < 20 by omega) (by decide), Bool.and_true, if_pos (show nI i < nI nb from nI_lt hi (by omega)), decide_eq_true_eq]
    by_cases a : SI σ (w + 20) i = 0
    · rw [if_pos a, if_pos a]
    · rw [if_neg a, if_neg a]
  · unfold b_Post_openInAll_4
    simp only [lt_, r2, cK_of (kW_15 hW), Bool.and_true, if_neg (nI_nlt (Nat.le_refl nb) (by omega))]
def wkC (σ : Sto) (w : Nat) (mile : Int32) (i : Nat) : Bool := decide (SI σ (w + 43 + i) 5 = 1 ∧ SI σ (w + 43 + i) 6 = mile)
theorem e_walkBelow (hW : LayW w σ) {n : Nat} (hn : n ≤ 10) (mile : Int32) : f_World_walkingAtBelow w mile (nI n) true σ = (cntI (wkC σ w mile) n, true, σ) := by
  unfold f_World_walkingAtBelow
  simp only [lt_]
  refine lp_cnt (σ := σ) n (wkC σ w mile) (fun x => (x, true, σ)) (by omega) (fun L i x hi => ?_) (fun L x => ?_)
  · unfold b_World_walkingAtBelow_5 wkC
    simp only [lt_, rW_0_6 hW, cK_of (kW_0 hW), ix_nI (show i < 2 ^ 31 by omega), rW_42 hW (show i < 10 by omega), cK_of (kW_w hW (show i < 10 by omega)), cA_of (kW_42 hW) (nW_42 hW) (show i < 10 by omega) (by decide), Bool.and_true, if_pos (show nI i < nI n from nI_lt hi (by omega)), decide_eq_true_eq]
    by_cases a : SI σ (w + 43 + i) 5 = 1
    · by_cases c : SI σ (w + 43 + i) 6 = mile
      · rw [if_pos a, if_pos c, if_pos ⟨a, c⟩]
      · rw [if_pos a, if_neg c, if_neg (fun z => c z.2), Int32.add_zero]
    · rw [if_neg a, if_neg (fun z => a z.1), Int32.add_zero]
  · unfold b_World_walkingAtBelow_5
    simp only [lt_, if_neg (nI_nlt (Nat.le_refl n) (by omega))]
theorem e_walkAt (hW : LayW w σ) {n : Nat} (hn : n ≤ 10) (r2 : SI σ w 7 = nI n) (mile : Int32) : f_World_walkingAt w mile true σ = (cntI (wkC σ w mile) n, true, σ) := by
  unfold f_World_walkingAt
  simp only [bd_, r2, cK_of (kW_0 hW), Bool.and_true, e_walkBelow hW hn]
theorem e_walkState (hW : LayW w σ) {n : Nat} (hn : n ≤ 10) (r2 : SI σ w 7 = nI n) (t : Int32) : f_World_walkersThatAre w t true σ = (cntI (fun i => decide (SI σ (w + 43 + i) 5 = t)) n, true, σ) := by
  unfold f_World_walkersThatAre
  simp only [lt_]
  refine lp_cnt (σ := σ) n (fun i => decide (SI σ (w + 43 + i) 5 = t)) (fun x => (x, true, σ)) (by omega) (fun L i x hi => ?_) (fun L x => ?_)
  · unfold b_World_walkersThatAre_4
    simp only [lt_, r2, rW_0_6 hW, cK_of (kW_0 hW), ix_nI (show i < 2 ^ 31 by omega), rW_42 hW (show i < 10 by omega), cK_of (kW_w hW (show i < 10 by omega)), cA_of (kW_42 hW) (nW_42 hW) (show i < 10 by omega) (by decide), Bool.and_true, if_pos (show nI i < nI n from nI_lt hi (by omega)), decide_eq_true_eq]
    by_cases a : SI σ (w + 43 + i) 5 = t
    · rw [if_pos a, if_pos a]
    · rw [if_neg a, if_neg a, Int32.add_zero]
  · unfold b_World_walkersThatAre_4
    simp only [lt_, r2, cK_of (kW_0 hW), Bool.and_true, if_neg (nI_nlt (Nat.le_refl n) (by omega))]
theorem e_firesOn (hW : LayW w σ) {nf : Nat} (hn : nf ≤ 6) (p5 : SI σ (w + 1) 11 = nI nf) (d : Int32) : f_Ground_firesOn (w + 1) d true σ = (cntI (fun i => decide (inR d (SI σ (w + 9) i) (SI σ (w + 10) i) = 1)) nf, true, σ) := by
  unfold f_Ground_firesOn
  simp only [lt_]
  refine lp_cnt (σ := σ) nf (fun i => decide (inR d (SI σ (w + 9) i) (SI σ (w + 10) i) = 1)) (fun x => (x, true, σ)) (by omega) (fun L i x hi => ?_) (fun L x => ?_)
  · unfold b_Ground_firesOn_4
    simp only [bd_, lt_, p5, cK_of (kW_1 hW), Bool.and_true, if_pos (show nI i < nI nf from nI_lt hi (by omega)), e_isOnC hW (show i < 6 by omega), decide_eq_true_eq]
    rcases inR_01 d (SI σ (w + 9) i) (SI σ (w + 10) i) with e | e
    · rw [if_pos e, if_neg (fun z => absurd (e.symm.trans z) (by decide)), Int32.add_zero]
    · rw [if_neg (by rw [e]; decide), if_pos e]
  · unfold b_Ground_firesOn_4
    simp only [lt_, p5, cK_of (kW_1 hW), Bool.and_true, if_neg (nI_nlt (Nat.le_refl nf) (by omega))]
-- the reference's
def opM (S : Nat → Int32) (o : Int32) (i : Nat) : Bool := decide (S (340 + 5 * i) = o ∧ S (344 + 5 * i) = 0)
theorem e_isOpenM (hY : LayY Y ρ) {i : Nat} (hi : i < 20) (o : Int32) : f_Model_isOpen Y (nI i) o true ρ = (if opM (SI ρ (Y + 1)) o i = true then 1 else 0, true, ρ) := by
  unfold f_Model_isOpen opM
  simp only [bd_, lt_, rY_0 hY, cK_of (kY_0 hY), e_boxAt, nI_p4, show nI (340 + 5 * i) + 0 = nI (340 + 5 * i) from nI_add _ 0, cY hY (show 340 + 5 * i < 3210 by omega), cY hY (show 340 + 5 * i + 4 < 3210 by omega), ix_nI (show 340 + 5 * i < 2 ^ 31 by omega), ix_nI (show 340 + 5 * i + 4 < 2 ^ 31 by omega), Bool.and_true, decide_eq_true_eq, show 344 + 5 * i = 340 + 5 * i + 4 by omega]
  by_cases a : SI ρ (Y + 1) (340 + 5 * i) = o
  · by_cases c : SI ρ (Y + 1) (340 + 5 * i + 4) = 0
    · rw [if_pos a, if_pos c, if_pos ⟨a, c⟩]
    · rw [if_pos a, if_neg c, if_neg (fun z => c z.2)]
  · rw [if_neg a, if_neg (fun z => a z.1)]
def bxM (S : Nat → Int32) (o mile : Int32) (i : Nat) : Bool := opM S o i && (decide (mile < 0) || decide (S (31 + 4 * ix (S (341 + 5 * i))) = mile))
theorem e_boxesAtM (hY : LayY Y ρ) {nb : Nat} (hn : nb ≤ 20) (r3 : SI ρ (Y + 1) 6 = nI nb) (hp : ∀ i, i < nb → ∃ j, j < 16 ∧ SI ρ (Y + 1) (341 + 5 * i) = nI j) (o mile : Int32) : f_Model_boxesAt Y o mile true ρ = (cntI (bxM (SI ρ (Y + 1)) o mile) nb, true, ρ) := by
  unfold f_Model_boxesAt
  simp only [lt_]
  refine lp_cnt (σ := ρ) nb (bxM (SI ρ (Y + 1)) o mile) (fun x => (x, true, ρ)) (by omega) (fun L i x hi => ?_) (fun L x => ?_)
  · obtain ⟨j, hj, ej⟩ := hp i hi
    unfold b_Model_boxesAt_5 bxM
    rw [ej, ix_nI (show j < 2 ^ 31 by omega)]
    simp only [bd_, lt_, rY_0 hY, show ix (6 : Int32) = 6 from rfl, r3, cK_of (kY_0 hY), cYk hY 6 (v := 6) rfl (by decide), Bool.and_true, if_pos (show nI i < nI nb from nI_lt hi (by omega)), e_isOpenM hY (show i < 20 by omega), e_boxAt, nI_p1, show 340 + 5 * i + 1 = 341 + 5 * i by omega, cY hY (show 341 + 5 * i < 3210 by omega), ix_nI (show 341 + 5 * i < 2 ^ 31 by omega), ej, e_mileOf hY (show j < 700 by omega)]
    by_cases c : opM (SI ρ (Y + 1)) o i = true
    · simp only [c, if_true, i10, if_false, Bool.true_and]
      by_cases m : mile < 0
      · rw [if_pos m, if_pos (by rw [decide_eq_true m]; rfl)]
      · by_cases e : SI ρ (Y + 1) (31 + 4 * j) = mile
        · rw [if_neg m, if_pos e, if_pos (by rw [decide_eq_true e, Bool.or_true])]
        · rw [if_neg m, if_neg e, if_neg (by rw [decide_eq_false m, decide_eq_false e]; decide)]
    · have c' : opM (SI ρ (Y + 1)) o i = false := by simpa using c
      simp only [c', Bool.false_and, Bool.false_eq_true, if_false, if_true]
  · unfold b_Model_boxesAt_5
    simp only [lt_, rY_0 hY, show ix (6 : Int32) = 6 from rfl, r3, cK_of (kY_0 hY), cYk hY 6 (v := 6) rfl (by decide), Bool.and_true, if_neg (nI_nlt (Nat.le_refl nb) (by omega))]
def wkM (S : Nat → Int32) (mile : Int32) (i : Nat) : Bool := decide (S (130 + 20 * i) = 1 ∧ S (131 + 20 * i) = mile)
theorem e_walkersOnM (hY : LayY Y ρ) {n : Nat} (hn : n ≤ 10) (r3 : SI ρ (Y + 1) 5 = nI n) (mile : Int32) : f_Model_walkersOn Y mile true ρ = (cntI (wkM (SI ρ (Y + 1)) mile) n, true, ρ) := by
  unfold f_Model_walkersOn
  simp only [lt_]
  refine lp_cnt (σ := ρ) n (wkM (SI ρ (Y + 1)) mile) (fun x => (x, true, ρ)) (by omega) (fun L i x hi => ?_) (fun L x => ?_)
  · unfold b_Model_walkersOn_4 wkM
    simp only [bd_, lt_, rY_0 hY, show ix (5 : Int32) = 5 from rfl, r3, cK_of (kY_0 hY), cYk hY 5 (v := 5) rfl (by decide), Bool.and_true, if_pos (show nI i < nI n from nI_lt hi (by omega)), e_walks hY (show i < 100 by omega), e_walkerAt, nI_p1, show 130 + 20 * i + 1 = 131 + 20 * i by omega, cY hY (show 131 + 20 * i < 3210 by omega), ix_nI (show 131 + 20 * i < 2 ^ 31 by omega), decide_eq_true_eq]
    by_cases a : SI ρ (Y + 1) (130 + 20 * i) = 1
    · simp only [bI_t a, i10, if_false]
      by_cases c : SI ρ (Y + 1) (131 + 20 * i) = mile
      · rw [if_pos c, if_pos ⟨a, c⟩]
      · rw [if_neg c, if_neg (fun z => c z.2)]
    · simp only [bI_f a, if_true]
      rw [if_neg (fun z => a z.1)]
  · unfold b_Model_walkersOn_4
    simp only [lt_, rY_0 hY, show ix (5 : Int32) = 5 from rfl, r3, cK_of (kY_0 hY), cYk hY 5 (v := 5) rfl (by decide), Bool.and_true, if_neg (nI_nlt (Nat.le_refl n) (by omega))]
theorem wk_same {S : Nat → Int32} {nw : Nat} (h : ∀ k, k < nw → rW1 σ (w + 43 + k) S (130 + 20 * k)) (mile : Int32) : ∀ k, k < nw → wkC σ w mile k = wkM S mile k := fun k hk => by
  unfold wkC wkM
  obtain ⟨-, -, -, -, -, h5, h6, -⟩ := h k hk
  rw [h5, h6, show 130 + 20 * k + 1 = 131 + 20 * k by omega]
theorem op_same {S : Nat → Int32} (hB : rB σ w S) {nb : Nat} (hn : nb ≤ 20) (r3 : S 6 = nI nb) (o : Int32) : ∀ k, k < nb → opC σ w o k = opM S o k := fun k hk => by
  obtain ⟨nb', q1, q2, q3, q4⟩ := hB
  have e : nb' = nb := (nI_eq (by omega) (by omega)).mp (q3.symm.trans r3)
  subst e
  obtain ⟨b0, b1, b2, b3, b4, -⟩ := q4 k hk
  unfold opC opM
  rw [b0, b4]
  simp only [and_comm]
theorem op_2 : Op_2 X Y (REL X Y) := by
  intro a v σ ρ h
  have hX := h.2.2.1
  have hY : LayY Y (stn ρ (Shn σ)) := h.2.2.2.1
  have hW := hX.2.1
  have hG := (REL_now2 h).2.1
  obtain ⟨np, nf, p1, p2, p3, p4, p5, p6, p7, p8, p9, p10, p11, p12⟩ := id hG
  obtain ⟨nb, b1, b2, b3, b4⟩ := (REL_now2 h).2.2.2.2.2.1
  obtain ⟨nw, w1, w2, w3, w4⟩ := (REL_now2 h).2.2.2.2.2.2.1
  by_cases ha : (0 : Int32) ≤ a ∧ a ≤ nI np - 1
  · obtain ⟨k, hk, rfl⟩ := in_idx (by omega) ha
    obtain ⟨c0, c1, c2, c3, -⟩ := p9 k hk
    have eC : f_Trail_told X (nI k) v true σ = (if v = 0 then SI σ (X + 1 + 2) k else if v = 1 then SI σ (X + 1 + 3) k else if v = 2 then SI σ (X + 1 + 4) k else if v = 3 then SI σ (X + 1 + 5) k else if v = 4 then cntI (wkC σ (X + 1) (SI σ (X + 1 + 3) k)) nw else if v = 5 then cntI (fun i => decide (SI σ (X + 1 + 20) i = 0 ∧ SI σ (X + 1 + 17) i = nI k)) nb else -1000000001, true, σ) := by
      unfold f_Trail_told
      simp only [bd_, lt_, rX_0_0 hX, rW_0_0 hW, rW_0_2 hW, cK_of (kX_0 hX), cK_of (kW_0 hW), cK_of (kW_1 hW), cK_of (kW_15 hW), Bool.and_true, e_hasPlace (kW_1 hW), p3, inR_e1 ha, i10, if_false, rW_1_0 hW, rW_1_1 hW, rW_1_2 hW, rW_1_3 hW, ix_nI (show k < 2 ^ 31 by omega), cA_of (kW_2 hW) (nW_2 hW) (show k < 16 by omega) (by decide), cA_of (kW_3 hW) (nW_3 hW) (show k < 16 by omega) (by decide), cA_of (kW_4 hW) (nW_4 hW) (show k < 16 by omega) (by decide), cA_of (kW_5 hW) (nW_5 hW) (show k < 16 by omega) (by decide), e_walkAt hW w1 w2, e_openIn hW b1 b2, if_pair]
    by_cases hv : (0 : Int32) ≤ v ∧ v ≤ 5
    · obtain ⟨m, hm, rfl⟩ := in_nat (n := 5) rfl (by decide) hv.1 hv.2
      have t0 : f_Model_told Y (nI k) (nI m) true (stn ρ (Shn σ)) = if nI m < 4 then (SI ρ (Y + 1) (30 + 4 * k + m), true, stn ρ (Shn σ)) else if nI m = 4 then (cntI (wkM (SI ρ (Y + 1)) (SI ρ (Y + 1) (31 + 4 * k))) nw, true, stn ρ (Shn σ)) else (cntI (fun i => decide (SI ρ (Y + 1) (341 + 5 * i) = nI k ∧ SI ρ (Y + 1) (344 + 5 * i) = 0)) nb, true, stn ρ (Shn σ)) := by
        unfold f_Model_told
        simp only [bd_, lt_, rY_0 hY, cK_of (kY_0 hY), Bool.and_true, e_isPlace hY, SI_stn, p4, inR_e1 ha, e_isInL (nI m) 0 5 0 5 rfl rfl, inR_e1 hv, i10, if_false, e_placeAt, nI_add, cY hY (show 30 + 4 * k + m < 3210 by omega), ix_nI (show 30 + 4 * k + m < 2 ^ 31 by omega), e_mileOf hY (show k < 700 by omega), e_walkersOnM hY w1 w3]
        by_cases q : nI m < 4
        · rw [if_pos q, if_pos q]
        · rw [if_neg q, if_neg q]
          by_cases q' : nI m = 4
          · rw [if_pos q', if_pos q']
          · rw [if_neg q', if_neg q']
            refine lp_cnt (σ := stn ρ (Shn σ)) nb (fun i => decide (SI ρ (Y + 1) (341 + 5 * i) = nI k ∧ SI ρ (Y + 1) (344 + 5 * i) = 0)) (fun x => (x, true, stn ρ (Shn σ))) (by omega) (fun L i x hi => ?_) (fun L x => ?_)
            · unfold b_Model_told_61
              simp only [bd_, lt_, rY_0 hY, show ix (6 : Int32) = 6 from rfl, SI_stn, b3, cK_of (kY_0 hY), cYk hY 6 (v := 6) rfl (by decide), Bool.and_true, if_pos (show nI i < nI nb from nI_lt hi (by omega)), e_boxAt, nI_p1, nI_p4, show 340 + 5 * i + 1 = 341 + 5 * i by omega, show 340 + 5 * i + 4 = 344 + 5 * i by omega, cY hY (show 341 + 5 * i < 3210 by omega), cY hY (show 344 + 5 * i < 3210 by omega), ix_nI (show 341 + 5 * i < 2 ^ 31 by omega), ix_nI (show 344 + 5 * i < 2 ^ 31 by omega), decide_eq_true_eq]
              by_cases a : SI ρ (Y + 1) (341 + 5 * i) = nI k
              · by_cases c : SI ρ (Y + 1) (344 + 5 * i) = 0
                · rw [if_pos a, if_pos c, if_pos ⟨a, c⟩]
                · rw [if_pos a, if_neg c, if_neg (fun z => c z.2)]
              · rw [if_neg a, if_neg (fun z => a z.1)]
            · unfold b_Model_told_61
              simp only [lt_, rY_0 hY, show ix (6 : Int32) = 6 from rfl, SI_stn, b3, cK_of (kY_0 hY), cYk hY 6 (v := 6) rfl (by decide), Bool.and_true, if_neg (nI_nlt (Nat.le_refl nb) (by omega))]
      rcases (show m = 0 ∨ m = 1 ∨ m = 2 ∨ m = 3 ∨ m = 4 ∨ m = 5 by omega) with rfl | rfl | rfl | rfl | rfl | rfl
      · exact OpOK_b (SI ρ (Y + 1) (30 + 4 * k)) h (by rw [eC, c0]; rfl) (by show f_Model_told Y _ _ true (stn ρ (Shn σ)) = _; rw [t0]; rfl)
      · exact OpOK_b (SI ρ (Y + 1) (31 + 4 * k)) h (by rw [eC, c1]; rfl) (by show f_Model_told Y _ _ true (stn ρ (Shn σ)) = _; rw [t0, show 31 + 4 * k = 30 + 4 * k + 1 by omega]; rfl)
      · exact OpOK_b (SI ρ (Y + 1) (32 + 4 * k)) h (by rw [eC, c2]; rfl) (by show f_Model_told Y _ _ true (stn ρ (Shn σ)) = _; rw [t0, show 32 + 4 * k = 30 + 4 * k + 2 by omega]; rfl)
      · exact OpOK_b (SI ρ (Y + 1) (33 + 4 * k)) h (by rw [eC, c3]; rfl) (by show f_Model_told Y _ _ true (stn ρ (Shn σ)) = _; rw [t0, show 33 + 4 * k = 30 + 4 * k + 3 by omega]; rfl)
      · exact OpOK_b (cntI (wkM (SI ρ (Y + 1)) (SI ρ (Y + 1) (31 + 4 * k))) nw) h (by rw [eC, c1, cntI_congr (wk_same w4 _)]; rfl) (by show f_Model_told Y _ _ true (stn ρ (Shn σ)) = _; rw [t0]; rfl)
      · refine OpOK_b (cntI (fun i => decide (SI ρ (Y + 1) (341 + 5 * i) = nI k ∧ SI ρ (Y + 1) (344 + 5 * i) = 0)) nb) h ?_ (by show f_Model_told Y _ _ true (stn ρ (Shn σ)) = _; rw [t0]; rfl)
        rw [eC, cntI_congr (c := fun i => decide (SI σ (X + 1 + 20) i = 0 ∧ SI σ (X + 1 + 17) i = nI k)) (d := fun i => decide (SI ρ (Y + 1) (341 + 5 * i) = nI k ∧ SI ρ (Y + 1) (344 + 5 * i) = 0)) (fun i hi => by
          obtain ⟨x0, x1, x2, x3, x4, -⟩ := b4 i hi
          rw [x1, x4]
          simp only [and_comm])]
        rfl
    · refine OpOK_b (-1000000001) h ?_ ?_
      · rw [eC, if_neg (fun e => hv (by rw [e]; decide)), if_neg (fun e => hv (by rw [e]; decide)), if_neg (fun e => hv (by rw [e]; decide)), if_neg (fun e => hv (by rw [e]; decide)), if_neg (fun e => hv (by rw [e]; decide)), if_neg (fun e => hv (by rw [e]; decide))]
      · show f_Model_told Y (nI k) v true (stn ρ (Shn σ)) = _
        unfold f_Model_told
        simp only [bd_, lt_, cK_of (kY_0 hY), Bool.and_true, e_isPlace hY, SI_stn, p4, inR_e1 ha, e_isInL v 0 5 0 5 rfl rfl, inR_e0 hv, i10, if_false, if_true]
  · refine OpOK_b (-1000000001) h ?_ ?_
    · unfold f_Trail_told
      simp only [bd_, lt_, rX_0_0 hX, rW_0_0 hW, cK_of (kX_0 hX), cK_of (kW_0 hW), cK_of (kW_1 hW), Bool.and_true, e_hasPlace (kW_1 hW), p3, inR_e0 ha, if_true]
    · show f_Model_told Y a v true (stn ρ (Shn σ)) = _
      unfold f_Model_told
      simp only [bd_, lt_, cK_of (kY_0 hY), Bool.and_true, e_isPlace hY, SI_stn, p4, inR_e0 ha, if_true]
end OP16
