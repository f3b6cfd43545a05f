/-! a day: waiting for boxes -/
section HD
variable {X Y w : Nat} {σ ρ : Sto}
theorem mnI_n {a b : Nat} (ha : a < 2 ^ 31) (hb : b < 2 ^ 31) : mnI (nI a) (nI b) = nI (min a b) := by
  unfold mnI
  by_cases h : b < a
  · rw [if_pos (nI_lt h ha), Nat.min_eq_right (by omega)]
  · rw [if_neg (nI_nlt (by omega) hb), Nat.min_eq_left (by omega)]
theorem e_openAt (hW : LayW w σ) {nb : Nat} (hn : nb ≤ 20) (b2 : SI σ (w + 15) 5 = nI nb) (o t : Int32) : f_Post_openAt (w + 15) o t true σ = (cntI (fun i => opC σ w o i && decide (SI σ (w + 17) i = t)) nb, true, σ) := by
  unfold f_Post_openAt
  rw [lt_, lt_]
  refine lp_cnt (σ := σ) nb (fun i => opC σ w o i && decide (SI σ (w + 17) i = t)) (fun x => (x, true, σ)) (by omega) (fun L i x hi => ?_) (fun L x => ?_)
  · unfold b_Post_openAt_5
    simp only [bd_, lt_, b2, cK_of (kW_15 hW), Bool.and_true, if_pos (show nI i < nI nb from nI_lt hi (by omega)), e_isOpenFor hW (show i < 20 by omega), rW_15_1 hW, ix_nI (show i < 2 ^ 31 by omega), cA_of (kW_17 hW) (nW_17 hW) (show i < 20 by omega) (by decide)]
    by_cases c : SI σ (w + 20) i = 0 ∧ SI σ (w + 16) i = o
    · have c' : opC σ w o i = true := decide_eq_true c
      simp only [bI_t c, i10, if_false, c', Bool.true_and, decide_eq_true_eq]
      split <;> rfl
    · have c' : opC σ w o i = false := decide_eq_false c
      simp only [bI_f c, if_true, c', Bool.false_and, Bool.false_eq_true, if_false]
  · unfold b_Post_openAt_5
    simp only [lt_, b2, cK_of (kW_15 hW), Bool.and_true, if_neg (nI_nlt (Nat.le_refl nb) (by omega))]
theorem e_shutOn (hW : LayW w σ) {t : Nat} (ht : t < 16) (d : Int32) : f_Ground_isShutOn (w + 1) (nI t) d true σ = (if ((SI σ (w + 5) t >>> ((d - d / 7 * 7) &&& 31)) &&& 1) = 1 then 1 else 0, true, σ) := by
  unfold f_Ground_isShutOn
  simp only [rW_1_3 hW, ix_nI (show t < 2 ^ 31 by omega), cK_of (kW_1 hW), cA_of (kW_5 hW) (nW_5 hW) ht (by decide), show (!decide ((7 : Int32) = 0)) = true from rfl, Bool.and_true, if_pair]
theorem and1 (x : Int32) : (x &&& 1) = 0 ∨ (x &&& 1) = 1 := by
  have e : (x &&& 1).toBitVec.toNat ≤ 1 := by
    rw [Int32.toBitVec_and, BitVec.toNat_and]
    exact Nat.and_le_right
  have e2 : (x &&& 1).toInt = ((x &&& 1).toBitVec.toNat : Int) := by
    show (x &&& 1).toBitVec.toInt = _
    exact BitVec.toInt_eq_toNat_of_lt (by omega)
  rcases Nat.le_one_iff_eq_zero_or_eq_one.mp e with h | h
  · exact Or.inl (Int32.toInt_inj.mp (by rw [e2, h]; rfl))
  · exact Or.inr (Int32.toInt_inj.mp (by rw [e2, h]; rfl))
theorem e_eats (hY : LayY Y ρ) {k : Nat} (hk : k < 10) (v : Int32) : f_Model_eats Y (nI k) v true ρ = ((), true, pI ρ (Y + 1) (133 + 20 * k) (mnI (SI ρ (Y + 1) (147 + 20 * k)) (SI ρ (Y + 1) (133 + 20 * k) + v))) := by
  have e3 : nI (130 + 20 * k) + 3 = nI (133 + 20 * k) := by rw [nI_p3]; congr 1; omega
  have e17 : nI (130 + 20 * k) + 17 = nI (147 + 20 * k) := by rw [show nI (130 + 20 * k) + 17 = nI (130 + 20 * k + 17) from nI_add _ 17]; congr 1; omega
  unfold f_Model_eats
  simp only [bd_, lt_, e_walkerAt, e3, e17, rY_0 hY, cK_of (kY_0 hY), ix_nI (show 133 + 20 * k < 2 ^ 31 by omega), ix_nI (show 147 + 20 * k < 2 ^ 31 by omega), cY hY (show 133 + 20 * k < 3210 by omega), cY hY (show 147 + 20 * k < 3210 by omega), e_least, least_mn, Bool.and_true]
/-- how the reference ends its waiting -/
def heldEnd (Y k : Nat) (mile : Int32) (x5 : Int32) (υ : Sto) : Rs Int32 := if 0 < x5 then (0, true, υ) else (if 3 < SI υ (Y + 1) (140 + 20 * k) + 1 then (bd_ (f_Model_giveOn Y (nI k) mile true (pI υ (Y + 1) (140 + 20 * k) (SI υ (Y + 1) (140 + 20 * k) + 1))) (fun _ b s => ((0 : Int32), b, s))) else (1, true, pI υ (Y + 1) (140 + 20 * k) (SI υ (Y + 1) (140 + 20 * k) + 1)))
theorem e_heldEnd (hY : LayY Y ρ) {k nb : Nat} (hk : k < 10) (hn : nb ≤ 20) (b3 : SI ρ (Y + 1) 6 = nI nb) (mile x4 x5 : Int32) (L : Int32 → Int32 → Bool → Sto → Rs Int32) : b_Model_isHeld_70 Y (nI k) (nI (130 + 20 * k)) mile x4 L x5 (nI nb) true ρ = heldEnd Y k mile x5 ρ := by
  have e10 : nI (130 + 20 * k) + 10 = nI (140 + 20 * k) := by rw [show nI (130 + 20 * k) + 10 = nI (130 + 20 * k + 10) from nI_add _ 10]; congr 1; omega
  unfold b_Model_isHeld_70 heldEnd
  rw [rY_0 hY, show ix (6 : Int32) = 6 from rfl, b3, if_neg (nI_nlt (Nat.le_refl nb) (by omega)), cK_of (kY_0 hY), cYk hY 6 (v := 6) rfl (by decide)]
  simp only [lt_, Bool.and_true, e10, SR_pI, rY_0 hY, cK_pI, cA_pI, cK_of (kY_0 hY), ix_nI (show 140 + 20 * k < 2 ^ 31 by omega), cY hY (show 140 + 20 * k < 3210 by omega), SI_pI, up2_s]
theorem e_heldShut (hY : LayY Y ρ) {k nb : Nat} (hk : k < 10) (hn : nb ≤ 20) (b3 : SI ρ (Y + 1) 6 = nI nb) (mile : Int32) : lp_ (b_Model_isHeld_70 Y (nI k) (nI (130 + 20 * k)) mile 0) (fun (x5 : Int32) (x6 : Int32) (b : Bool) (σ : Sto) => (0, false, σ)) fuel_ 0 0 true ρ = heldEnd Y k mile 0 ρ := by
  have hid : ∀ n i, foldI (fun (_ : Nat) (x : Int32) => x) i n (0 : Int32) = 0 := by
    intro n
    induction n with
    | zero => exact fun _ => rfl
    | succ n ih => exact fun i => ih (i + 1)
  refine (lp_acc (σ := ρ) nb (fun _ x => x) (fun x => heldEnd Y k mile x ρ) (by omega) (fun L i x hi => ?_) (fun L x => e_heldEnd hY hk hn b3 mile 0 x L) 0 0 (Nat.zero_le _)).trans (by rw [hid])
  unfold b_Model_isHeld_70
  simp only [bd_, lt_, rY_0 hY, show ix (6 : Int32) = 6 from rfl, b3, if_pos (show nI i < nI nb from nI_lt hi (by omega)), cK_of (kY_0 hY), cYk hY 6 (v := 6) rfl (by decide), e_boxAt, Bool.and_true, if_true]
/-- boxes' states and one walker's food alone differ -/
def BX (Y r : Nat) (ρ υ : Sto) : Prop := Shn υ = Shn ρ ∧ Stk υ = Stk ρ ∧ Sln υ = Sln ρ ∧ SR υ = SR ρ ∧ SL υ = SL ρ ∧ Scs υ = Scs ρ ∧ (∀ x, x ≠ Y + 1 → SI υ x = SI ρ x) ∧ ∀ j, ¬ (340 ≤ j ∧ j < 440 ∧ (j - 340) % 5 = 4) → j ≠ r → SI υ (Y + 1) j = SI ρ (Y + 1) j
theorem BX_0 {r : Nat} : BX Y r ρ ρ := ⟨rfl, rfl, rfl, rfl, rfl, rfl, fun _ _ => rfl, fun _ _ _ => rfl⟩
theorem BX_p {r k : Nat} {υ : Sto} {v u : Int32} (h : BX Y r ρ υ) (hk : k < 20) : BX Y r ρ (pI (pI υ (Y + 1) (344 + 5 * k) v) (Y + 1) r u) :=
  ⟨by rw [Shn_pI, Shn_pI, h.1], by rw [Stk_pI, Stk_pI, h.2.1], by rw [Sln_pI, Sln_pI, h.2.2.1], by rw [SR_pI, SR_pI, h.2.2.2.1], by rw [SL_pI, SL_pI, h.2.2.2.2.1], by rw [Scs_pI, Scs_pI, h.2.2.2.2.2.1], fun x hx => by rw [SI_pI, up2_ne hx, SI_pI, up2_ne hx, h.2.2.2.2.2.2.1 x hx], fun j hj hr => by rw [SI_pI, up2_nj hr, SI_pI, up2_nj (by omega), h.2.2.2.2.2.2.2 j hj hr]⟩
/-- boxes taken on both sides -/
theorem take_both (h : DayI X Y w σ ρ) {np nb nw k t : Nat} (hp : np ≤ 16) (hn : nb ≤ 20) (hnw : nw ≤ 10) (hk : k < nw) (p4 : SI ρ (Y + 1) 2 = nI np) (b2 : SI σ (w + 15) 5 = nI nb) (b3 : SI ρ (Y + 1) 6 = nI nb) (ht : t < np) {g c0 : Nat} (hg : g ≤ 20) (hc0 : c0 ≤ 20) (eg : SI ρ (Y + 1) (133 + 20 * k) = nI g) (ec : SI ρ (Y + 1) (147 + 20 * k) = nI c0) : ∃ f c τ υ, f ≤ 400 ∧ c ≤ 20 ∧ (f = 0 ↔ c = 0) ∧ BC w σ τ ∧ BX Y (133 + 20 * k) ρ υ ∧ SI υ (Y + 1) (133 + 20 * k) = (if f = 0 then nI g else nI (min c0 (g + f))) ∧ rB τ w (SI υ (Y + 1)) ∧ f_Post_takeBoxes (w + 15) (nI k) (nI t) (SI ρ (Y + 1) 0) true σ = (nI f, true, τ) ∧ lp_ (b_Model_isHeld_70 Y (nI k) (nI (130 + 20 * k)) (SI ρ (Y + 1) (31 + 4 * t)) 1) (fun (x5 : Int32) (x6 : Int32) (b : Bool) (σ : Sto) => (0, false, σ)) fuel_ 0 0 true ρ = heldEnd Y k (SI ρ (Y + 1) (31 + 4 * t)) (nI c) υ := by
  obtain ⟨h1, h2, hW, hY, h5, h6, hG, hB0, hW0, hT⟩ := id h
  unfold f_Post_takeBoxes
  rw [lt_, lt_]
  generalize hm : SI ρ (Y + 1) (31 + 4 * t) = mile
  generalize hday : SI ρ (Y + 1) 0 = day
  obtain ⟨a, b, τ, υ, ⟨f, c, q1, q2, q3, q4, q5, q6, q7, q8, q9⟩, e1, e2⟩ := lp_ex2B (body := b_Post_takeBoxes_6 (w + 15) (nI k) (nI t) day) (bad := fun (x4 : Int32) (x5 : Int32) (b : Bool) (σ : Sto) => (0, false, σ)) (body' := b_Model_isHeld_70 Y (nI k) (nI (130 + 20 * k)) mile 1) (bad' := fun (x5 : Int32) (x6 : Int32) (b : Bool) (σ : Sto) => (0, false, σ)) nb (fun i a b τ υ => ∃ f c : Nat, a = nI f ∧ b = nI c ∧ f ≤ 20 * i ∧ c ≤ i ∧ (f = 0 ↔ c = 0) ∧ BC w σ τ ∧ BX Y (133 + 20 * k) ρ υ ∧ SI υ (Y + 1) (133 + 20 * k) = (if f = 0 then nI g else nI (min c0 (g + f))) ∧ rB τ w (SI υ (Y + 1))) (fun a τ => (a, true, τ)) (fun b υ => heldEnd Y k mile b υ) (by omega) (fun i a b τ υ hi q => by
    obtain ⟨f, c, q1, q2, q3, q4, q5, qC, qR, q8, hB⟩ := q
    have hWt : LayW w τ := LayT_c hW qC.2.1 qC.2.2.1 qC.2.2.2.1
    have hYt : LayY Y υ := LayY_c hY qR.2.1 qR.2.2.1 qR.2.2.2.1
    have b2t : SI τ (w + 15) 5 = nI nb := by rw [qC.2.2.2.2.2.2 (w + 15) (by omega)]; exact b2
    have b3t : SI υ (Y + 1) 6 = nI nb := by rw [qR.2.2.2.2.2.2.2 6 (by omega) (by omega)]; exact b3
    have p4t : SI υ (Y + 1) 2 = nI np := by rw [qR.2.2.2.2.2.2.2 2 (by omega) (by omega)]; exact p4
    have hGt : rG τ w (SI υ (Y + 1)) := rG_c hG (fun a _ _ => qC.2.2.2.2.2.2 a (by omega)) (fun j hj => qR.2.2.2.2.2.2.2 j (by omega) (by omega))
    have eo := op_same hB hn b3t (nI k) i hi
    obtain ⟨j, hj, ej, ej2, hiff⟩ := bx_town hGt hB hp hn p4t b3t ht hi
    have hmt : SI υ (Y + 1) (31 + 4 * t) = mile := by rw [qR.2.2.2.2.2.2.2 (31 + 4 * t) (by omega) (by omega)]; exact hm
    have hdt : SI υ (Y + 1) 0 = day := by rw [qR.2.2.2.2.2.2.2 0 (by omega) (by omega)]; exact hday
    have e17 : SI υ (Y + 1) (147 + 20 * k) = nI c0 := by rw [qR.2.2.2.2.2.2.2 (147 + 20 * k) (by omega) (by omega)]; exact ec
    rw [hmt] at hiff
    obtain ⟨nb', r1, r2, r3, r4⟩ := id hB
    have eb : nb' = nb := (nI_eq (by omega) (by omega)).mp (r3.symm.trans b3t)
    subst eb
    obtain ⟨x0, x1, x2, x3, x4, x5, x6, x7, x8, x9, x10, x11, x12⟩ := r4 i hi
    obtain ⟨F, hF, eF⟩ : ∃ F : Nat, (1 ≤ F ∧ F ≤ 20) ∧ SI υ (Y + 1) (342 + 5 * i) = nI F := by
      obtain ⟨F, hF, eF⟩ := bd_nat (n := 20) (show bd (SI υ (Y + 1) (342 + 5 * i)) 0 20 from ⟨Int.le_trans (by decide) x9.1, x9.2⟩)
      refine ⟨F, ⟨?_, hF⟩, eF⟩
      have := x9.1
      rw [eF, nI_toInt (by omega)] at this
      omega
    have e4 : nI (340 + 5 * i) + 4 = nI (344 + 5 * i) := by rw [nI_p4]; congr 1; omega
    have e3 : nI (340 + 5 * i) + 3 = nI (343 + 5 * i) := by rw [nI_p3]; congr 1; omega
    have e2 : nI (340 + 5 * i) + 2 = nI (342 + 5 * i) := by rw [nI_p2]; congr 1; omega
    have e1 : nI (340 + 5 * i) + 1 = nI (341 + 5 * i) := by rw [nI_p1]; congr 1; omega
    have n20 : w + 18 ≠ w + 20 := by omega
    have n344 : 342 + 5 * i ≠ 344 + 5 * i := by omega
    have bodyC : ∀ L, b_Post_takeBoxes_6 (w + 15) (nI k) (nI t) day L a (nI i) true τ = if opC τ w (nI k) i = true then (if nI j = nI t then (if day < SI υ (Y + 1) (343 + 5 * i) then L a (nI i + 1) true τ else L (a + nI F) (nI i + 1) true (pI τ (w + 20) i 1)) else L a (nI i + 1) true τ) else L a (nI i + 1) true τ := fun L => by
      unfold b_Post_takeBoxes_6
      simp only [bd_, lt_, b2t, if_pos (show nI i < nI nb' from nI_lt hi (by omega)), cK_of (kW_15 hWt), e_isOpenFor hWt (show i < 20 by omega), rW_15_4 hWt, rW_15_3 hWt, rW_15_2 hWt, rW_15_1 hWt, ix_nI (show i < 2 ^ 31 by omega), ej2, x3, SR_pI, cK_pI, cA_pI, SI_pI, up2_ne' n20, x2, eF, cA_of (kW_20 hWt) (nW_20 hWt) (show i < 20 by omega) (by decide), cA_of (kW_19 hWt) (nW_19 hWt) (show i < 20 by omega) (by decide), cA_of (kW_18 hWt) (nW_18 hWt) (show i < 20 by omega) (by decide), cA_of (kW_17 hWt) (nW_17 hWt) (show i < 20 by omega) (by decide), Bool.and_true]
      by_cases c : SI τ (w + 20) i = 0 ∧ SI τ (w + 16) i = nI k
      · rw [if_neg (by rw [bI_t c]; decide), if_pos (show opC τ w (nI k) i = true from decide_eq_true c)]
      · rw [if_pos (bI_f c), if_neg (show ¬ opC τ w (nI k) i = true from fun z => c (of_decide_eq_true z))]
    have hY2 : LayY Y (pI υ (Y + 1) (344 + 5 * i) 1) := LayY_c hYt Stk_pI Sln_pI SR_pI
    have bodyM : ∀ L, b_Model_isHeld_70 Y (nI k) (nI (130 + 20 * k)) mile 1 L b (nI i) true υ = if opM (SI υ (Y + 1)) (nI k) i = true then (if SI υ (Y + 1) (31 + 4 * j) = mile then (if day < SI υ (Y + 1) (343 + 5 * i) then L b (nI i + 1) true υ else L (b + 1) (nI i + 1) true (pI (pI υ (Y + 1) (344 + 5 * i) 1) (Y + 1) (133 + 20 * k) (mnI (nI c0) (SI υ (Y + 1) (133 + 20 * k) + nI F)))) else L b (nI i + 1) true υ) else L b (nI i + 1) true υ := fun L => by
      have ee := e_eats hY2 (show k < 10 by omega) (nI F)
      rw [SI_pI, up2_nj (show 147 + 20 * k ≠ 344 + 5 * i by omega), up2_nj (show 133 + 20 * k ≠ 344 + 5 * i by omega), e17] at ee
      unfold b_Model_isHeld_70
      simp only [bd_, lt_, rY_0 hYt, show ix (6 : Int32) = 6 from rfl, show ix (0 : Int32) = 0 from rfl, b3t, if_pos (show nI i < nI nb' from nI_lt hi (by omega)), cK_of (kY_0 hYt), cYk hYt 6 (v := 6) rfl (by decide), cYk hYt 0 (v := 0) rfl (by decide), i10, if_false, e_isOpenM hYt (show i < 20 by omega), e_boxAt, e4, e3, e2, e1, ix_nI (show 344 + 5 * i < 2 ^ 31 by omega), ix_nI (show 343 + 5 * i < 2 ^ 31 by omega), ix_nI (show 342 + 5 * i < 2 ^ 31 by omega), ix_nI (show 341 + 5 * i < 2 ^ 31 by omega), ej, hdt, e_mileOf hYt (show j < 700 by omega), SR_pI, cK_pI, cA_pI, SI_pI, up2_nj n344, eF, ee, cY hYt (show 344 + 5 * i < 3210 by omega), cY hYt (show 343 + 5 * i < 3210 by omega), cY hYt (show 342 + 5 * i < 3210 by omega), cY hYt (show 341 + 5 * i < 3210 by omega), Bool.and_true]
      by_cases c : opM (SI υ (Y + 1)) (nI k) i = true
      · simp only [if_pos c, i10, if_false]
      · simp only [if_neg c, if_true]
    have stay : (∀ L, b_Post_takeBoxes_6 (w + 15) (nI k) (nI t) day L a (nI i) true τ = L a (nI i + 1) true τ) → (∀ L, b_Model_isHeld_70 Y (nI k) (nI (130 + 20 * k)) mile 1 L b (nI i) true υ = L b (nI i + 1) true υ) → ∃ a' b' τ' υ', (∃ f c : Nat, a' = nI f ∧ b' = nI c ∧ f ≤ 20 * (i + 1) ∧ c ≤ i + 1 ∧ (f = 0 ↔ c = 0) ∧ BC w σ τ' ∧ BX Y (133 + 20 * k) ρ υ' ∧ SI υ' (Y + 1) (133 + 20 * k) = (if f = 0 then nI g else nI (min c0 (g + f))) ∧ rB τ' w (SI υ' (Y + 1))) ∧ (∀ L, b_Post_takeBoxes_6 (w + 15) (nI k) (nI t) day L a (nI i) true τ = L a' (nI i + 1) true τ') ∧ ∀ L, b_Model_isHeld_70 Y (nI k) (nI (130 + 20 * k)) mile 1 L b (nI i) true υ = L b' (nI i + 1) true υ' := fun z1 z2 => ⟨a, b, τ, υ, ⟨f, c, q1, q2, by omega, by omega, q5, qC, qR, q8, hB⟩, z1, z2⟩
    by_cases c1 : opC τ w (nI k) i = true
    · have cM : opM (SI υ (Y + 1)) (nI k) i = true := by rw [← eo]; exact c1
      by_cases d : nI j = nI t
      · by_cases dd : day < SI υ (Y + 1) (343 + 5 * i)
        · exact stay (fun L => by rw [bodyC, if_pos c1, if_pos d, if_pos dd]) (fun L => by rw [bodyM, if_pos cM, if_pos (hiff.mp d), if_pos dd])
        · refine ⟨a + nI F, b + 1, pI τ (w + 20) i 1, pI (pI υ (Y + 1) (344 + 5 * i) 1) (Y + 1) (133 + 20 * k) (mnI (nI c0) (SI υ (Y + 1) (133 + 20 * k) + nI F)), ⟨f + F, c + 1, by rw [q1, nI_add], by rw [q2, nI_1], by omega, by omega, ⟨fun z => by omega, fun z => by omega⟩, BC_p qC, BX_p qR (by omega), ?_, ?_⟩, fun L => by rw [bodyC, if_pos c1, if_pos d, if_neg dd], fun L => by rw [bodyM, if_pos cM, if_pos (hiff.mp d), if_neg dd]⟩
          · rw [SI_pI, up2_s, if_neg (by omega), q8]
            by_cases z : f = 0
            · rw [if_pos z, nI_add, mnI_n (by omega) (by omega), z, Nat.zero_add]
            · rw [if_neg z, nI_add, mnI_n (by omega) (by omega)]
              congr 1
              omega
          · have hb1 := rB_p hp p4t hB hn b3t hi (v := 1) ⟨by decide, by decide⟩
            obtain ⟨np2, nf2, hp2, -, -, hp22, -⟩ := id hGt
            exact rB_c hb1 (np := np) hp (by rw [SI_pI, up2_nj (by omega)]; exact p4t) (fun a _ _ => rfl) (fun j hj => by rw [SI_pI, up2_nj (show j ≠ 133 + 20 * k by omega)]) (fun q hq => by rw [SI_pI, up2_nj (show 30 + 4 * q ≠ 133 + 20 * k by omega)]) (by rw [SI_pI (a := Y + 1) (j := 133 + 20 * k), up2_nj (show 2 ≠ 133 + 20 * k by omega)]; exact Int32.le_refl _) (by rw [SI_pI (a := Y + 1) (j := 133 + 20 * k), up2_nj (show 5 ≠ 133 + 20 * k by omega)]; exact Int32.le_refl _)
      · exact stay (fun L => by rw [bodyC, if_pos c1, if_neg d]) (fun L => by rw [bodyM, if_pos cM, if_neg (fun z => d (hiff.mpr z))])
    · have cM : ¬ opM (SI υ (Y + 1)) (nI k) i = true := by rw [← eo]; exact c1
      exact stay (fun L => by rw [bodyC, if_neg c1]) (fun L => by rw [bodyM, if_neg cM])) (fun L a b τ υ q => by
    obtain ⟨f, c, q1, q2, q3, q4, q5, qC, qR, q8, hB⟩ := q
    have hWt : LayW w τ := LayT_c hW qC.2.1 qC.2.2.1 qC.2.2.2.1
    have b2t : SI τ (w + 15) 5 = nI nb := by rw [qC.2.2.2.2.2.2 (w + 15) (by omega)]; exact b2
    unfold b_Post_takeBoxes_6
    rw [b2t, if_neg (nI_nlt (Nat.le_refl nb) (by omega)), cK_of (kW_15 hWt)]
    rfl) (fun L a b τ υ q => by
    obtain ⟨f, c, q1, q2, q3, q4, q5, qC, qR, q8, hB⟩ := q
    have hYt : LayY Y υ := LayY_c hY qR.2.1 qR.2.2.1 qR.2.2.2.1
    have b3t : SI υ (Y + 1) 6 = nI nb := by rw [qR.2.2.2.2.2.2.2 6 (by omega) (by omega)]; exact b3
    exact e_heldEnd hYt (by omega) hn b3t mile 1 b L) 0 0 σ ρ ⟨0, 0, rfl, rfl, Nat.zero_le _, Nat.zero_le _, Iff.rfl, BC_0, BX_0, by rw [if_pos rfl]; exact eg, hB0⟩
  subst q1 q2
  exact ⟨f, c, τ, υ, by omega, by omega, q5, q6, q7, q8, q9, e1, e2⟩
end HD
