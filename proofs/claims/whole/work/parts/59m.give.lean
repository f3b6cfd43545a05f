/-! a day: boxes given on, taken -/
section GV
variable {X Y w : Nat} {σ σ' ρ ρ' : Sto}
theorem DayI_nb (h : DayI X Y w σ ρ) : ∃ np nf nb nw nt : Nat, np ≤ 16 ∧ nf ≤ 6 ∧ nb ≤ 20 ∧ nw ≤ 10 ∧ nt ≤ 12 ∧ SI σ (w + 1) 10 = nI np ∧ SI ρ (Y + 1) 2 = nI np ∧ SI σ (w + 1) 11 = nI nf ∧ SI ρ (Y + 1) 3 = nI nf ∧ SI σ (w + 15) 5 = nI nb ∧ SI ρ (Y + 1) 6 = nI nb ∧ SI σ w 7 = nI nw ∧ SI ρ (Y + 1) 5 = nI nw ∧ SI σ (w + 11) 1 = nI nt ∧ SI ρ (Y + 1) 4 = nI nt := by
  obtain ⟨-, -, -, -, -, -, ⟨np, nf, p1, p2, p3, p4, p5, p6, -⟩, ⟨nb, b1, b2, b3, -⟩, ⟨nw, w1, w2, w3, -⟩, ⟨nt, t1, t2, t3, -⟩⟩ := h
  exact ⟨np, nf, nb, nw, nt, p1, p2, b1, w1, t1, p3, p4, p5, p6, b2, b3, w2, w3, t2, t3⟩
/-- all of a walker's boxes are given on -/
theorem give_all (h : DayI X Y w σ ρ) (o : Int32) : ∃ τ υ, BC w σ τ ∧ BR Y ρ υ ∧ DayI X Y w τ υ ∧ f_Post_giveOnAll (w + 15) o true σ = ((), true, τ) ∧ f_Model_giveOn Y o (-1) true ρ = ((), true, υ) := by
  obtain ⟨np, nf, nb, nw, nt, hp, hf, hn, hnw, hnt, p3, p4, p5, p6, b2, b3, w2, w3, t2, t3⟩ := DayI_nb h
  unfold f_Post_giveOnAll f_Model_giveOn
  rw [lt_, lt_]
  obtain ⟨τ, υ, ⟨q1, q2, q3⟩, e1, e2⟩ := lp_ex2 (body := b_Post_giveOnAll_2 (w + 15) o) (bad := fun (x2 : Int32) (b : Bool) (σ : Sto) => ((), false, σ)) (body' := b_Model_giveOn_2 Y o (-1)) (bad' := fun (x3 : Int32) (b : Bool) (σ : Sto) => ((), false, σ)) nb (fun i τ υ => BC w σ τ ∧ BR Y ρ υ ∧ DayI X Y w τ υ) (fun τ => ((), true, τ)) (fun υ => ((), true, υ)) (by omega) (fun i τ υ hi q => by
    obtain ⟨qC, qR, qD⟩ := q
    obtain ⟨-, -, hWt, hYt, -, -, -, hB, -, -⟩ := id qD
    have b2t : SI τ (w + 15) 5 = nI nb := by rw [qC.2.2.2.2.2.2 (w + 15) (by omega)]; exact b2
    have b3t : SI υ (Y + 1) 6 = nI nb := by rw [qR.2.2.2.2.2.2.2 6 (by omega)]; exact b3
    have p4t : SI υ (Y + 1) 2 = nI np := by rw [qR.2.2.2.2.2.2.2 2 (by omega)]; exact p4
    have eo := op_same hB hn b3t o i hi
    have e4 : nI (340 + 5 * i) + 4 = nI (344 + 5 * i) := by rw [nI_p4]; congr 1; omega
    by_cases c : opC τ w o i = true
    · have cM : opM (SI υ (Y + 1)) o i = true := by rw [← eo]; exact c
      have cC : SI τ (w + 20) i = 0 ∧ SI τ (w + 16) i = o := of_decide_eq_true c
      refine ⟨pI τ (w + 20) i 2, pI υ (Y + 1) (344 + 5 * i) 2, ⟨BC_p qC, BR_p qR (by omega), DayI_b qD (BC_p BC_0) (BR_p BR_0 (by omega)) (rB_p hp p4t hB hn b3t hi ⟨by decide, by decide⟩)⟩, fun L => ?_, fun L => ?_⟩
      · unfold b_Post_giveOnAll_2
        simp only [bd_, lt_, b2t, if_pos (show nI i < nI nb from nI_lt hi (by omega)), cK_of (kW_15 hWt), e_isOpenFor hWt (show i < 20 by omega), bI_t cC, i10, if_false, rW_15_4 hWt, ix_nI (show i < 2 ^ 31 by omega), cA_of (kW_20 hWt) (nW_20 hWt) (show i < 20 by omega) (by decide), Bool.and_true]
      · unfold b_Model_giveOn_2
        simp only [bd_, lt_, rY_0 hYt, show ix (6 : Int32) = 6 from rfl, b3t, if_pos (show nI i < nI nb from nI_lt hi (by omega)), cK_of (kY_0 hYt), cYk hYt 6 (v := 6) rfl (by decide), e_isOpenM hYt (show i < 20 by omega), cM, if_true, i10, if_false, if_pos (show (-1 : Int32) < 0 by decide), e_boxAt, e4, ix_nI (show 344 + 5 * i < 2 ^ 31 by omega), cY hYt (show 344 + 5 * i < 3210 by omega), Bool.and_true]
    · have cM : ¬ opM (SI υ (Y + 1)) o i = true := by rw [← eo]; exact c
      have cC : ¬ (SI τ (w + 20) i = 0 ∧ SI τ (w + 16) i = o) := fun z => c (decide_eq_true z)
      refine ⟨τ, υ, ⟨qC, qR, qD⟩, fun L => ?_, fun L => ?_⟩
      · unfold b_Post_giveOnAll_2
        simp only [bd_, lt_, b2t, if_pos (show nI i < nI nb from nI_lt hi (by omega)), cK_of (kW_15 hWt), e_isOpenFor hWt (show i < 20 by omega), bI_f cC, if_true, Bool.and_true]
      · unfold b_Model_giveOn_2
        simp only [bd_, lt_, rY_0 hYt, show ix (6 : Int32) = 6 from rfl, b3t, if_pos (show nI i < nI nb from nI_lt hi (by omega)), cK_of (kY_0 hYt), cYk hYt 6 (v := 6) rfl (by decide), e_isOpenM hYt (show i < 20 by omega), if_neg cM, if_true, Bool.and_true]) (fun L τ υ q => by
    have hWt := q.2.2.2.2.1
    have b2t : SI τ (w + 15) 5 = nI nb := by rw [q.1.2.2.2.2.2.2 (w + 15) (by omega)]; exact b2
    unfold b_Post_giveOnAll_2
    rw [b2t, if_neg (nI_nlt (Nat.le_refl nb) (by omega)), cK_of (kW_15 hWt)]
    rfl) (fun L τ υ q => by
    have hYt := q.2.2.2.2.2.1
    have b3t : SI υ (Y + 1) 6 = nI nb := by rw [q.2.1.2.2.2.2.2.2.2 6 (by omega)]; exact b3
    unfold b_Model_giveOn_2
    rw [rY_0 hYt, show ix (6 : Int32) = 6 from rfl, b3t, if_neg (nI_nlt (Nat.le_refl nb) (by omega)), cK_of (kY_0 hYt), cYk hYt 6 (v := 6) rfl (by decide)]
    rfl) σ ρ ⟨BC_0, BR_0, h⟩
  exact ⟨τ, υ, q1, q2, q3, e1, e2⟩
/-- which box lies where: by its town's number and by its mile -/
theorem bx_town {S : Nat → Int32} (hG : rG σ w S) (hB : rB σ w S) {np nb t i : Nat} (hp : np ≤ 16) (hb : nb ≤ 20) (p4 : S 2 = nI np) (b3 : S 6 = nI nb) (ht : t < np) (hi : i < nb) : ∃ j, j < np ∧ S (341 + 5 * i) = nI j ∧ SI σ (w + 17) i = nI j ∧ (nI j = nI t ↔ S (31 + 4 * j) = S (31 + 4 * t)) := by
  obtain ⟨np', nf', q1, q2, q3, q4, q5, q6, q7, q8, q9, q10, q11, q12⟩ := hG
  have en : np' = np := (nI_eq (by omega) (by omega)).mp (q4.symm.trans p4)
  subst en
  obtain ⟨nb', r1, r2, r3, r4⟩ := hB
  have eb : nb' = nb := (nI_eq (by omega) (by omega)).mp (r3.symm.trans b3)
  subst eb
  obtain ⟨x0, x1, x2, x3, x4, x5, x6, x7, x8, x9, x10, x11, x12⟩ := r4 i hi
  obtain ⟨j, hj, ej⟩ := in_nat q4 (by omega) x7 (Int32.le_of_lt x8)
  rw [ej, q4] at x8
  have hj' := (nI_ltI (by omega) (by omega)).mp x8
  refine ⟨j, hj', ej, by rw [x1, ej], fun z => ?_, fun z => ?_⟩
  · rw [(nI_eq (by omega) (by omega)).mp z]
  · rw [q10 j t hj' ht z]
/-- a walker's boxes in a town are given on -/
theorem give_at (h : DayI X Y w σ ρ) (o : Int32) {np t : Nat} (hp : np ≤ 16) (p4 : SI ρ (Y + 1) 2 = nI np) (ht : t < np) : ∃ τ υ, BC w σ τ ∧ BR Y ρ υ ∧ DayI X Y w τ υ ∧ f_Post_giveOnAt (w + 15) o (nI t) true σ = ((), true, τ) ∧ f_Model_giveOn Y o (SI ρ (Y + 1) (31 + 4 * t)) true ρ = ((), true, υ) := by
  obtain ⟨np', nf, nb, nw, nt, hp', hf, hn, hnw, hnt, p3, p4', p5, p6, b2, b3, w2, w3, t2, t3⟩ := DayI_nb h
  have hmile : ¬ SI ρ (Y + 1) (31 + 4 * t) < 0 := by
    obtain ⟨np2, nf2, q1, q2, q3, q4, q5, q6, q7, q8, q9, -⟩ := h.2.2.2.2.2.2.1
    have en : np2 = np := (nI_eq (by omega) (by omega)).mp (q4.symm.trans p4)
    subst en
    obtain ⟨y0, y1, y2, y3, y4, y5, -⟩ := q9 t ht
    rw [lt0_i]
    have := y5.1
    omega
  unfold f_Post_giveOnAt f_Model_giveOn
  rw [lt_, lt_]
  generalize hm : SI ρ (Y + 1) (31 + 4 * t) = mile at hmile
  obtain ⟨τ, υ, ⟨q1, q2, q3⟩, e1, e2⟩ := lp_ex2 (body := b_Post_giveOnAt_2 (w + 15) o (nI t)) (bad := fun (x2 : Int32) (b : Bool) (σ : Sto) => ((), false, σ)) (body' := b_Model_giveOn_2 Y o mile) (bad' := fun (x3 : Int32) (b : Bool) (σ : Sto) => ((), false, σ)) nb (fun i τ υ => BC w σ τ ∧ BR Y ρ υ ∧ DayI X Y w τ υ) (fun τ => ((), true, τ)) (fun υ => ((), true, υ)) (by omega) (fun i τ υ hi q => by
    obtain ⟨qC, qR, qD⟩ := q
    obtain ⟨-, -, hWt, hYt, -, -, hGt, hB, -, -⟩ := id qD
    have b2t : SI τ (w + 15) 5 = nI nb := by rw [qC.2.2.2.2.2.2 (w + 15) (by omega)]; exact b2
    have b3t : SI υ (Y + 1) 6 = nI nb := by rw [qR.2.2.2.2.2.2.2 6 (by omega)]; exact b3
    have p4t : SI υ (Y + 1) 2 = nI np := by rw [qR.2.2.2.2.2.2.2 2 (by omega)]; exact p4
    have eo := op_same hB hn b3t o i hi
    obtain ⟨j, hj, ej, ej2, hiff⟩ := bx_town hGt hB hp hn p4t b3t ht hi
    have hmt : SI υ (Y + 1) (31 + 4 * t) = mile := by rw [qR.2.2.2.2.2.2.2 (31 + 4 * t) (by omega)]; exact hm
    rw [hmt] at hiff
    have e4 : nI (340 + 5 * i) + 4 = nI (344 + 5 * i) := by rw [nI_p4]; congr 1; omega
    have e1 : nI (340 + 5 * i) + 1 = nI (341 + 5 * i) := by rw [nI_p1]; congr 1; omega
    have bodyC : ∀ L, b_Post_giveOnAt_2 (w + 15) o (nI t) L (nI i) true τ = if opC τ w o i = true then (if nI j = nI t then L (nI i + 1) true (pI τ (w + 20) i 2) else L (nI i + 1) true τ) else L (nI i + 1) true τ := fun L => by
      unfold b_Post_giveOnAt_2
      simp only [bd_, lt_, b2t, if_pos (show nI i < nI nb from nI_lt hi (by omega)), cK_of (kW_15 hWt), e_isOpenFor hWt (show i < 20 by omega), rW_15_4 hWt, rW_15_1 hWt, ix_nI (show i < 2 ^ 31 by omega), ej2, cA_of (kW_20 hWt) (nW_20 hWt) (show i < 20 by omega) (by decide), cA_of (kW_17 hWt) (nW_17 hWt) (show i < 20 by omega) (by decide), Bool.and_true]
      by_cases c : SI τ (w + 20) i = 0 ∧ SI τ (w + 16) i = o
      · rw [if_neg (by rw [bI_t c]; decide), if_pos (show opC τ w o i = true from decide_eq_true c)]
      · rw [if_pos (bI_f c), if_neg (show ¬ opC τ w o i = true from fun z => c (of_decide_eq_true z))]
    have bodyM : ∀ L, b_Model_giveOn_2 Y o mile L (nI i) true υ = if opM (SI υ (Y + 1)) o i = true then (if SI υ (Y + 1) (31 + 4 * j) = mile then L (nI i + 1) true (pI υ (Y + 1) (344 + 5 * i) 2) else L (nI i + 1) true υ) else L (nI i + 1) true υ := fun L => by
      unfold b_Model_giveOn_2
      simp only [bd_, lt_, rY_0 hYt, show ix (6 : Int32) = 6 from rfl, b3t, if_pos (show nI i < nI nb from nI_lt hi (by omega)), cK_of (kY_0 hYt), cYk hYt 6 (v := 6) rfl (by decide), e_isOpenM hYt (show i < 20 by omega), if_neg hmile, e_boxAt, e4, e1, ix_nI (show 344 + 5 * i < 2 ^ 31 by omega), ix_nI (show 341 + 5 * i < 2 ^ 31 by omega), ej, e_mileOf hYt (show j < 700 by omega), cY hYt (show 344 + 5 * i < 3210 by omega), cY hYt (show 341 + 5 * i < 3210 by omega), Bool.and_true]
      by_cases c : opM (SI υ (Y + 1)) o i = true
      · simp only [if_pos c, i10, if_false]
      · simp only [if_neg c, if_true]
    by_cases c : opC τ w o i = true
    · have cM : opM (SI υ (Y + 1)) o i = true := by rw [← eo]; exact c
      by_cases d : nI j = nI t
      · refine ⟨pI τ (w + 20) i 2, pI υ (Y + 1) (344 + 5 * i) 2, ⟨BC_p qC, BR_p qR (by omega), DayI_b qD (BC_p BC_0) (BR_p BR_0 (by omega)) (rB_p hp p4t hB hn b3t hi ⟨by decide, by decide⟩)⟩, fun L => ?_, fun L => ?_⟩
        · rw [bodyC, if_pos c, if_pos d]
        · rw [bodyM, if_pos cM, if_pos (hiff.mp d)]
      · refine ⟨τ, υ, ⟨qC, qR, qD⟩, fun L => ?_, fun L => ?_⟩
        · rw [bodyC, if_pos c, if_neg d]
        · rw [bodyM, if_pos cM, if_neg (fun z => d (hiff.mpr z))]
    · have cM : ¬ opM (SI υ (Y + 1)) o i = true := by rw [← eo]; exact c
      refine ⟨τ, υ, ⟨qC, qR, qD⟩, fun L => ?_, fun L => ?_⟩
      · rw [bodyC, if_neg c]
      · rw [bodyM, if_neg cM]) (fun L τ υ q => by
    have hWt := q.2.2.2.2.1
    have b2t : SI τ (w + 15) 5 = nI nb := by rw [q.1.2.2.2.2.2.2 (w + 15) (by omega)]; exact b2
    unfold b_Post_giveOnAt_2
    rw [b2t, if_neg (nI_nlt (Nat.le_refl nb) (by omega)), cK_of (kW_15 hWt)]
    rfl) (fun L τ υ q => by
    have hYt := q.2.2.2.2.2.1
    have b3t : SI υ (Y + 1) 6 = nI nb := by rw [q.2.1.2.2.2.2.2.2.2 6 (by omega)]; exact b3
    unfold b_Model_giveOn_2
    rw [rY_0 hYt, show ix (6 : Int32) = 6 from rfl, b3t, if_neg (nI_nlt (Nat.le_refl nb) (by omega)), cK_of (kY_0 hYt), cYk hYt 6 (v := 6) rfl (by decide)]
    rfl) σ ρ ⟨BC_0, BR_0, h⟩
  exact ⟨τ, υ, q1, q2, q3, e1, e2⟩
end GV
