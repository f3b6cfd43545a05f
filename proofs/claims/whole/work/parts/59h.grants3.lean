/-! days granted -/
section GR3
variable {X Y w : Nat} {σ ρ : Sto}
theorem pI_id {a j : Nat} {v : Int32} (h : SI σ a j = v) : pI σ a j v = σ := by
  have e : up2 σ.2.2.2.1 a j v = σ.2.2.2.1 := by
    funext x y
    unfold up2
    by_cases h1 : x = a
    · by_cases h2 : y = j
      · rw [if_pos h1, if_pos h2, h1, h2]; exact h.symm
      · rw [if_pos h1, if_neg h2]
    · rw [if_neg h1]
  unfold pI
  rw [e]
def qt (S : Nat → Int32) (each : Int32) (d : Nat) : Int32 := if each < 0 then S (14 + d % 7) else each
def okD (S G : Nat → Int32) (nq : Nat) (each : Int32) (d : Nat) : Bool := decide (cntI (fun k => decide (G k = nI d)) nq < qt S each d)
theorem e_grantedOnM (hY : LayY Y ρ) {nq : Nat} (hq : nq ≤ 16) (q3 : SI ρ (Y + 1) 7 = nI nq) (d : Int32) : f_Model_grantedOn Y d true ρ = (cntI (fun k => decide (SI ρ (Y + 12) k = d)) nq, true, ρ) := by
  unfold f_Model_grantedOn
  rw [lt_, lt_]
  refine lp_cnt (σ := ρ) nq (fun k => decide (SI ρ (Y + 12) k = d)) (fun x => (x, true, ρ)) (by omega) (fun L k x hk => ?_) (fun L x => ?_)
  · unfold b_Model_grantedOn_4
    simp only [lt_, rY_0 hY, rY_24 hY, show ix (7 : Int32) = 7 from rfl, q3, cK_of (kY_0 hY), cYk hY 7 (v := 7) rfl (by decide), Bool.and_true, if_pos (show nI k < nI nq from nI_lt hk (by omega)), ix_nI (show k < 2 ^ 31 by omega), cA_of (kY_12 hY) (nY_12 hY) (show k < 16 by omega) (by decide), decide_eq_true_eq]
    split <;> rfl
  · unfold b_Model_grantedOn_4
    simp only [lt_, rY_0 hY, show ix (7 : Int32) = 7 from rfl, q3, cK_of (kY_0 hY), cYk hY 7 (v := 7) rfl (by decide), Bool.and_true, if_neg (nI_nlt (Nat.le_refl nq) (by omega))]
theorem e_grantsOnC (hW : LayW w σ) {nq : Nat} (hq : nq ≤ 16) (q2 : SI σ (w + 21) 3 = nI nq) (d : Int32) : f_Permits_grantsOn (w + 21) d true σ = (cntI (fun k => decide (SI σ (w + 27) k = d)) nq, true, σ) := by
  unfold f_Permits_grantsOn
  rw [lt_, lt_]
  refine lp_cnt (σ := σ) nq (fun k => decide (SI σ (w + 27) k = d)) (fun x => (x, true, σ)) (by omega) (fun L i x hi => ?_) (fun L x => ?_)
  · unfold b_Permits_grantsOn_4
    simp only [lt_, q2, rW_21_6 hW, cK_of (kW_21 hW), ix_nI (show i < 2 ^ 31 by omega), cA_of (kW_27 hW) (nW_27 hW) (show i < 16 by omega) (by decide), Bool.and_true, if_pos (show nI i < nI nq from nI_lt hi (by omega)), decide_eq_true_eq]
    split <;> rfl
  · unfold b_Permits_grantsOn_4
    simp only [lt_, q2, cK_of (kW_21 hW), Bool.and_true, if_neg (nI_nlt (Nat.le_refl nq) (by omega))]
theorem mod7 {d : Nat} (hd : d < 2 ^ 31) : nI d - nI d / 7 * 7 = nI (d % 7) := nI_mod (d := 7) hd (by decide)
/-- the class's search -/
theorem e_ffC (hW : LayW w σ) {nq k d0 l : Nat} (hq : nq ≤ 16) (hk : k < 16) (q2 : SI σ (w + 21) 3 = nI nq) (e0 : SI σ (w + 23) k = nI d0) (el : SI σ (w + 24) k = nI l) (h0 : d0 ≤ 999) (hl : l ≤ 9) (qc qm : Int32) (hqq : (qc = NONE_ ∧ qm = -1) ∨ (qc = qm ∧ bd qm 0 9)) {S : Nat → Int32} (h22 : ∀ j, j < 7 → SI σ (w + 22) j = S (14 + j)) : f_Permits_firstFreeDay (w + 21) (nI k) qc true σ = (match findI (okD S (SI σ (w + 27)) nq qm) d0 (l + 1) with | some d => nI d | none => NONE_, true, σ) := by
  unfold f_Permits_firstFreeDay
  rw [lt_, rW_21_1 hW, ix_nI (show k < 2 ^ 31 by omega), e0, cK_of (kW_21 hW), cA_of (kW_23 hW) (nW_23 hW) hk (by decide)]
  simp only [Bool.and_true]
  have es : nI d0 + nI l = nI (d0 + l) := nI_add d0 l
  refine (lp_find (σ := σ) (d0 + l + 1) (okD S (SI σ (w + 27)) nq qm) (fun d => (nI d, true, σ)) (NONE_, true, σ) (by omega) (fun L i hi => ?_) (fun L => ?_) d0 (by omega)).trans ?_
  · have n1 : ¬ nI (d0 + l) < nI i := nI_nlt (by omega) (by omega)
    have h7 : i % 7 < 7 := Nat.mod_lt _ (by decide)
    unfold b_Permits_firstFreeDay_7 okD qt
    simp only [bd_, lt_, rW_21_0 hW, rW_21_1 hW, rW_21_2 hW, ix_nI (show k < 2 ^ 31 by omega), e0, el, es, if_neg n1, mod7 (show i < 2 ^ 31 by omega), ix_nI (show i % 7 < 2 ^ 31 by omega), cK_of (kW_21 hW), cA_of (kW_23 hW) (nW_23 hW) hk (by decide), cA_of (kW_24 hW) (nW_24 hW) hk (by decide), cA_of (kW_22 hW) (nW_22 hW) h7 (by decide), show (!decide ((7 : Int32) = 0)) = true from rfl, Bool.and_true, e_grantsOnC hW hq q2, h22 (i % 7) h7, decide_eq_true_eq]
    rcases hqq with ⟨a1, a2⟩ | ⟨a1, a2⟩
    · rw [if_pos (show qc = -1000000005 from a1), a2, if_pos (show (-1 : Int32) < 0 by decide)]
    · obtain ⟨m, hm, em⟩ := bd_nat (n := 9) a2
      have hne : ¬ qc = -1000000005 := fun z => by
        rw [a1, em] at z
        exact absurd z (fun y => by
          have h1 := congrArg Int32.toInt y
          rw [nI_toInt (by omega), show (-1000000005 : Int32).toInt = -1000000005 by decide] at h1
          omega)
      rw [if_neg hne, a1, if_neg (show ¬ qm < 0 by rw [em]; exact nI_pos (by omega))]
  · unfold b_Permits_firstFreeDay_7
    simp only [lt_, rW_21_1 hW, rW_21_2 hW, ix_nI (show k < 2 ^ 31 by omega), e0, el, es, if_pos (show nI (d0 + l) < nI (d0 + l + 1) from nI_lt (by omega) (by omega)), cK_of (kW_21 hW), cA_of (kW_23 hW) (nW_23 hW) hk (by decide), cA_of (kW_24 hW) (nW_24 hW) hk (by decide), Bool.and_true]
    rfl
  · rw [show d0 + l + 1 - d0 = l + 1 by omega]
    cases findI (okD S (SI σ (w + 27)) nq qm) d0 (l + 1) <;> rfl
/-- the reference's search -/
theorem e_ffM (hY : LayY Y ρ) {nq k d0 l : Nat} (hq : nq ≤ 16) (hk : k < 16) (q3 : SI ρ (Y + 1) 7 = nI nq) (el : SI ρ (Y + 1) (441 + 2 * k) = nI l) (h0 : d0 ≤ 999) (hl : l ≤ 9) (qm : Int32) (hqm : qm = -1 ∨ bd qm 0 9) (hg : SI ρ (Y + 12) k = -1) (x2 x3 : Int32) {bad : Int32 → Bool → Sto → Rs Int32} (L111 : Int32 → Int32 → Bool → Sto → Rs Int32) : ∀ n d, d ≤ d0 + l + 1 → d0 + l + 1 - d + 1 < n → lp_ (b_Model_findGrant_149 Y qm x2 x3 (nI k) (nI d0) L111) bad n (nI d) true ρ = (match findI (okD (SI ρ (Y + 1)) (SI ρ (Y + 12)) nq qm) d (d0 + l + 1 - d) with | some j => L111 (x2 + 1) (x3 + 1) true (pI ρ (Y + 12) k (nI j)) | none => L111 (x2 + 0) (x3 + 1) true ρ) := by
  have es : nI d0 + nI l = nI (d0 + l) := nI_add d0 l
  have i1 : (440 : Int32) + 2 * nI k + 1 = nI (441 + 2 * k) := by rw [show (440 : Int32) + 2 * nI k = nI (440 + 2 * k) from ar2 440 2 k, nI_p1]; congr 1; omega
  have neg1 : (-1 : Int32) < 0 := by decide
  intro n
  induction n with
  | zero => exact fun d _ h => absurd h (by omega)
  | succ n ih =>
    intro d hd hn
    rw [lp_S]
    by_cases hlt : d < d0 + l + 1
    · have n1 : ¬ nI (d0 + l) < nI d := nI_nlt (by omega) (by omega)
      have h7 : d % 7 < 7 := Nat.mod_lt _ (by decide)
      have i14 : (14 : Int32) + nI (d % 7) = nI (14 + d % 7) := nI_add 14 _
      have eb : b_Model_findGrant_149 Y qm x2 x3 (nI k) (nI d0) L111 (lp_ (b_Model_findGrant_149 Y qm x2 x3 (nI k) (nI d0) L111) bad n) (nI d) true ρ = if okD (SI ρ (Y + 1)) (SI ρ (Y + 12)) nq qm d = true then lp_ (b_Model_findGrant_149 Y qm x2 x3 (nI k) (nI d0) L111) bad n (nI d + 1) true (pI ρ (Y + 12) k (nI d)) else lp_ (b_Model_findGrant_149 Y qm x2 x3 (nI k) (nI d0) L111) bad n (nI d + 1) true ρ := by
        generalize lp_ (b_Model_findGrant_149 Y qm x2 x3 (nI k) (nI d0) L111) bad n = LL
        unfold b_Model_findGrant_149 okD qt
        simp only [bd_, lt_, rY_0 hY, rY_24 hY, i1, ix_nI (show 441 + 2 * k < 2 ^ 31 by omega), ix_nI (show k < 2 ^ 31 by omega), el, es, if_neg n1, hg, if_pos neg1, mod7 (show d < 2 ^ 31 by omega), i14, ix_nI (show 14 + d % 7 < 2 ^ 31 by omega), cK_of (kY_0 hY), cY hY (show 441 + 2 * k < 3210 by omega), cY hY (show 14 + d % 7 < 3210 by omega), cA_of (kY_12 hY) (nY_12 hY) hk (by decide), show (!decide ((7 : Int32) = 0)) = true from rfl, Bool.and_true, e_grantedOnM hY hq q3, pI_id hg, decide_eq_true_eq]
        by_cases hz : qm < 0
        · simp only [if_pos hz]
        · simp only [if_neg hz]
      rw [eb, show d0 + l + 1 - d = (d0 + l + 1 - (d + 1)) + 1 by omega]
      unfold findI
      by_cases c : okD (SI ρ (Y + 1)) (SI ρ (Y + 12)) nq qm d = true
      · rw [if_pos c, if_pos c]
        obtain ⟨m, rfl⟩ : ∃ m, n = m + 1 := ⟨n - 1, by omega⟩
        have hY2 : LayY Y (pI ρ (Y + 12) k (nI d)) := LayY_c hY Stk_pI Sln_pI SR_pI
        have v1 : SI (pI ρ (Y + 12) k (nI d)) (Y + 12) k = nI d := by rw [SI_pI, up2_s]
        have v2 : SI (pI ρ (Y + 12) k (nI d)) (Y + 1) (441 + 2 * k) = nI l := by rw [SI_pI, up2_ne' (by omega)]; exact el
        have np : ¬ nI d < 0 := nI_pos (by omega)
        show _ = L111 (x2 + 1) (x3 + 1) true (pI ρ (Y + 12) k (nI d))
        rw [lp_S]
        generalize lp_ (b_Model_findGrant_149 Y qm x2 x3 (nI k) (nI d0) L111) bad m = LL
        generalize pI ρ (Y + 12) k (nI d) = ρ2 at hY2 v1 v2
        unfold b_Model_findGrant_149
        simp only [lt_, rY_0 hY2, rY_24 hY2, i1, ix_nI (show 441 + 2 * k < 2 ^ 31 by omega), ix_nI (show k < 2 ^ 31 by omega), v1, v2, es, if_neg np, cK_of (kY_0 hY2), cY hY2 (show 441 + 2 * k < 3210 by omega), cA_of (kY_12 hY2) (nY_12 hY2) hk (by decide), Bool.and_true]
        split <;> rfl
      · rw [if_neg c, if_neg c, show nI d + 1 = nI (d + 1) from nI_1 d]
        exact ih (d + 1) (by omega) (by omega)
    · have e : d = d0 + l + 1 := by omega
      subst e
      have y1 : nI (d0 + l) < nI (d0 + l + 1) := nI_lt (by omega) (by omega)
      rw [Nat.sub_self]
      show _ = L111 (x2 + 0) (x3 + 1) true ρ
      generalize lp_ (b_Model_findGrant_149 Y qm x2 x3 (nI k) (nI d0) L111) bad n = LL
      unfold b_Model_findGrant_149
      simp only [lt_, rY_0 hY, rY_24 hY, i1, ix_nI (show 441 + 2 * k < 2 ^ 31 by omega), ix_nI (show k < 2 ^ 31 by omega), el, es, if_pos y1, hg, if_pos neg1, cK_of (kY_0 hY), cY hY (show 441 + 2 * k < 3210 by omega), cA_of (kY_12 hY) (nY_12 hY) hk (by decide), Bool.and_true]
/-- grants on both sides -/
def grP (w Y nq : Nat) (τ υ : Sto) : Prop := ∀ k, k < nq → (SI τ (w + 27) k = NONE_ ∧ SI υ (Y + 12) k = -1) ∨ (SI τ (w + 27) k = SI υ (Y + 12) k ∧ bd (SI υ (Y + 12) k) 0 1100)
theorem okD_same {τ υ : Sto} {nq : Nat} (h : grP w Y nq τ υ) (S : Nat → Int32) (each : Int32) {d : Nat} (hd : d < 2000) : okD S (SI τ (w + 27)) nq each d = okD S (SI υ (Y + 12)) nq each d := by
  unfold okD
  rw [cntI_congr (c := fun k => decide (SI τ (w + 27) k = nI d)) (d := fun k => decide (SI υ (Y + 12) k = nI d)) (fun k hk => by
    rcases h k hk with ⟨a, b⟩ | ⟨a, -⟩
    · rw [a, b]
      have e1 : ¬ NONE_ = nI d := fun z => by
        have := congrArg Int32.toInt z
        rw [nI_toInt (by omega), show NONE_.toInt = -1000000005 by decide] at this
        omega
      have e2 : ¬ (-1 : Int32) = nI d := fun z => by
        have := congrArg Int32.toInt z
        rw [nI_toInt (by omega), show (-1 : Int32).toInt = -1 by decide] at this
        omega
      rw [decide_eq_false e1, decide_eq_false e2]
    · rw [a])]
theorem grant_both (hW : LayW w σ) (hY : LayY Y ρ) (hQ : rQ σ w (SI ρ (Y + 1))) {nq : Nat} {O : Nat → Nat} (hq : nq ≤ 16) (q3 : SI ρ (Y + 1) 7 = nI nq) (hO : ordP w Y nq O σ ρ) (qc qm : Int32) (hqq : (qc = NONE_ ∧ qm = -1) ∨ (qc = qm ∧ bd qm 0 9)) : ∃ a τ υ, FrP w σ τ ∧ FrQ Y ρ υ ∧ grP w Y nq τ υ ∧ f_Permits_grantAll (w + 21) qc true σ = (a, true, τ) ∧ lp_ (b_Model_findGrant_111 Y qm) (fun (x2 : Int32) (x3 : Int32) (b : Bool) (σ : Sto) => (0, false, σ)) fuel_ 0 0 true ρ = (a, true, υ) := by
  obtain ⟨nq', r1, r2, r3, r4, r5⟩ := hQ
  have e : nq' = nq := (nI_eq (by omega) (by omega)).mp (r3.symm.trans q3)
  subst e
  have hqm : qm = -1 ∨ bd qm 0 9 := hqq.imp (fun z => z.2) (fun z => z.2)
  unfold f_Permits_grantAll
  rw [rW_21_6 hW, cK_of (kW_21 hW)]
  simp only [Bool.and_true]
  rw [e_fillI (kW_27 hW) (nW_27 hW) (by decide), bd_, lt_, lt_]
  generalize hσ1 : rI σ (w + 27) (wf (fun _ => -1000000005) (SI σ (w + 27)) 0 16) = σ1
  have fP1 : FrP w σ σ1 := by rw [← hσ1]; exact FrP_r FrP_0 (by omega)
  have g27 : ∀ k, k < 16 → SI σ1 (w + 27) k = NONE_ := fun k hk => by
    rw [← hσ1, SI_rI, up1_s, wf_in hk]
    rfl
  have g26 : SI σ1 (w + 26) = SI σ (w + 26) := by rw [← hσ1, SI_rI, up1_ne' (by omega)]
  obtain ⟨a, τ, υ, ⟨f1, f2, f3, -⟩, e1, e2⟩ := lp_ex2A (body := b_Permits_grantAll_13 (w + 21) qc) (bad := fun (x2 : Int32) (x3 : Int32) (b : Bool) (σ : Sto) => (0, false, σ)) (body' := b_Model_findGrant_111 Y qm) (bad' := fun (x2 : Int32) (x3 : Int32) (b : Bool) (σ : Sto) => (0, false, σ)) nq' (fun i a τ υ => FrP w σ τ ∧ FrQ Y ρ υ ∧ grP w Y nq' τ υ ∧ (∀ j, i ≤ j → j < nq' → SI υ (Y + 12) (O j) = -1) ∧ SI τ (w + 26) = SI σ (w + 26) ∧ SI υ (Y + 11) = SI ρ (Y + 11)) (fun a τ => (a, true, τ)) (fun a υ => (a, true, υ)) (by omega) (fun i a τ υ hi q => by
    obtain ⟨fP, fQ, hG, hno, k26, k11⟩ := q
    obtain ⟨o1, o2, o3, o4⟩ := hO.1 i hi
    have hWt := FrP_L fP hW
    have hYt := FrQ_L fQ hY
    have eS : SI υ (Y + 1) = SI ρ (Y + 1) := fQ.2.2.2.2.2.2 (Y + 1) (by omega)
    have eσ : ∀ x, x = w + 21 ∨ x = w + 22 ∨ x = w + 23 ∨ x = w + 24 → SI τ x = SI σ x := fun x hx => fP.2.2.2.2.2.2.1 x (by omega) (by omega) (by omega) (by omega) (by omega) (by omega)
    have q2t : SI τ (w + 21) 3 = nI nq' := by rw [eσ _ (by omega)]; exact r2
    obtain ⟨x1, x2, x3, x4⟩ := r4 (O i) o1
    obtain ⟨d0, h0, ed⟩ := bd_nat (n := 999) x3
    obtain ⟨l, hl, ell⟩ := bd_nat (n := 9) x4
    have eC := e_ffC hWt (k := O i) (d0 := d0) (l := l) r1 (by omega) q2t (by rw [eσ _ (by omega), x1, ed]) (by rw [eσ _ (by omega), x2, ell]) h0 hl qc qm hqq (S := SI ρ (Y + 1)) (fun j hj => by rw [eσ _ (by omega)]; exact (r5 j hj).1)
    have ec : ∀ n d, d + n ≤ 1100 → findI (okD (SI ρ (Y + 1)) (SI τ (w + 27)) nq' qm) d n = findI (okD (SI ρ (Y + 1)) (SI υ (Y + 12)) nq' qm) d n := fun n d hd => findI_congr (fun k h1 h2 => okD_same hG _ _ (by omega))
    rw [ec (l + 1) d0 (by omega)] at eC
    have eM := fun L111 => e_ffM hYt (k := O i) (d0 := d0) (l := l) (nq := nq') r1 (by omega) (by rw [eS]; exact q3) (by rw [eS, ell]) h0 hl qm hqm (hno i (Nat.le_refl _) hi) a (nI i) (bad := fun (x6 : Int32) (b : Bool) (σ : Sto) => (0, false, σ)) L111 fuel_ d0 (by omega) (by show d0 + l + 1 - d0 + 1 < 70000; omega)
    rw [show d0 + l + 1 - d0 = l + 1 by omega, eS] at eM
    have bC : ∀ L, b_Permits_grantAll_13 (w + 21) qc L a (nI i) true τ = (fun r : Int32 => if r = -1000000005 then L (a + 0) (nI i + 1) true (pI τ (w + 27) (O i) r) else L (a + 1) (nI i + 1) true (pI τ (w + 27) (O i) r)) (match findI (okD (SI ρ (Y + 1)) (SI υ (Y + 12)) nq' qm) d0 (l + 1) with | some d => nI d | none => NONE_) := fun L => by
      generalize hr : (match findI (okD (SI ρ (Y + 1)) (SI υ (Y + 12)) nq' qm) d0 (l + 1) with | some d => nI d | none => NONE_) = r at eC
      unfold b_Permits_grantAll_13
      simp only [bd_, lt_, q2t, if_pos (show nI i < nI nq' from nI_lt hi (by omega)), rW_21_5 hWt, rW_21_6 hWt, ix_nI (show i < 2 ^ 31 by omega), k26, o2, ix_nI (show O i < 2 ^ 31 by omega), cK_of (kW_21 hWt), cA_of (kW_26 hWt) (nW_26 hWt) (show i < 16 by omega) (by decide), Bool.and_true, eC, SR_pI, cK_pI, cA_pI, cA_of (kW_27 hWt) (nW_27 hWt) (show O i < 16 by omega) (by decide), SI_pI, up2_s]
    have bM : ∀ L, b_Model_findGrant_111 Y qm L a (nI i) true υ = lp_ (b_Model_findGrant_149 Y qm a (nI i) (nI (O i)) (nI d0) L) (fun (x6 : Int32) (b : Bool) (σ : Sto) => (0, false, σ)) fuel_ (nI d0) true υ := fun L => by
      unfold b_Model_findGrant_111
      rw [rY_0 hYt, show ix (7 : Int32) = 7 from rfl, eS, q3, if_pos (show nI i < nI nq' from nI_lt hi (by omega)), lt_, rY_23 hYt, ix_nI (show i < 2 ^ 31 by omega), k11, o3, lt_, lt_, show (440 : Int32) + 2 * nI (O i) = nI (440 + 2 * O i) from ar2 440 2 (O i), ix_nI (show 440 + 2 * O i < 2 ^ 31 by omega), ed, cK_of (kY_0 hYt), cYk hYt 7 (v := 7) rfl (by decide), cA_of (kY_11 hYt) (nY_11 hYt) (show i < 16 by omega) (by decide), cY hYt (show 440 + 2 * O i < 3210 by omega)]
      rfl
    cases hf : findI (okD (SI ρ (Y + 1)) (SI υ (Y + 12)) nq' qm) d0 (l + 1) with
    | none =>
      rw [hf] at bC eM
      refine ⟨a + 0, pI τ (w + 27) (O i) NONE_, υ, ⟨FrP_p fP (by omega), fQ, ?_, fun j h1 h2 => hno j (by omega) h2, by rw [SI_pI, up2_ne (by omega)]; exact k26, k11⟩, fun L => ?_, fun L => ?_⟩
      · intro k hk
        by_cases e : k = O i
        · rw [e, SI_pI, up2_s]
          exact Or.inl ⟨rfl, hno i (Nat.le_refl _) hi⟩
        · rw [SI_pI, up2_nj e]
          exact hG k hk
      · rw [bC L]
        show (if NONE_ = -1000000005 then _ else _) = _
        rw [if_pos (show NONE_ = -1000000005 from rfl)]
      · rw [bM L, eM L]
    | some d =>
      rw [hf] at bC eM
      obtain ⟨b1, b2, -, -⟩ := findI_some hf
      refine ⟨a + 1, pI τ (w + 27) (O i) (nI d), pI υ (Y + 12) (O i) (nI d), ⟨FrP_p fP (by omega), FrQ_p fQ (by omega), ?_, fun j h1 h2 => ?_, by rw [SI_pI, up2_ne (by omega)]; exact k26, by rw [SI_pI, up2_ne (by omega)]; exact k11⟩, fun L => ?_, fun L => ?_⟩
      · intro k hk
        by_cases e : k = O i
        · rw [e, SI_pI, up2_s, SI_pI, up2_s]
          exact Or.inr ⟨rfl, by rw [nI_toInt (by omega)]; omega, by rw [nI_toInt (by omega)]; omega⟩
        · rw [SI_pI, up2_nj e, SI_pI, up2_nj e]
          exact hG k hk
      · rw [SI_pI, up2_nj (fun z => by have := hO.2.2 j i h2 hi z; omega)]
        exact hno j (by omega) h2
      · rw [bC L]
        show (if nI d = -1000000005 then _ else _) = _
        rw [if_neg (fun z => by
          have := congrArg Int32.toInt z
          rw [nI_toInt (by omega), show (-1000000005 : Int32).toInt = -1000000005 by decide] at this
          omega)]
      · rw [bM L, eM L]) (fun L a τ υ q => by
    have hWt := FrP_L q.1 hW
    have q2t : SI τ (w + 21) 3 = nI nq' := by rw [q.1.2.2.2.2.2.2.1 (w + 21) (by omega) (by omega) (by omega) (by omega) (by omega) (by omega)]; exact r2
    unfold b_Permits_grantAll_13
    rw [q2t, if_neg (nI_nlt (Nat.le_refl nq') (by omega)), cK_of (kW_21 hWt)]
    rfl) (fun L a τ υ q => by
    have hYt := FrQ_L q.2.1 hY
    have eS : SI υ (Y + 1) = SI ρ (Y + 1) := q.2.1.2.2.2.2.2.2 (Y + 1) (by omega)
    unfold b_Model_findGrant_111
    rw [rY_0 hYt, show ix (7 : Int32) = 7 from rfl, eS, q3, if_neg (nI_nlt (Nat.le_refl nq') (by omega)), cK_of (kY_0 hYt), cYk hYt 7 (v := 7) rfl (by decide)]
    rfl) 0 σ1 ρ ⟨fP1, FrQ_0, fun k hk => Or.inl ⟨g27 k (by omega), hO.2.1 k hk⟩, fun j _ h2 => hO.2.1 _ (hO.1 j h2).1, g26, rfl⟩
  exact ⟨a, τ, υ, f1, f2, f3, e1, e2⟩
/-- what a grant fills belongs to nothing -/
theorem REL_gr {τ υ : Sto} (h : REL X Y σ ρ) (fP : FrP (X + 1) σ τ) (fQ : FrQ Y (stn ρ (Shn σ)) υ) : REL X Y τ υ := by
  obtain ⟨g1, g2, g3, g4, g5, g6, g7, g8, g9, g10⟩ := h
  have sx : ∀ x, x ≠ X + 1 + 11 → x ≠ X + 1 + 13 → x ≠ X + 1 + 14 → x ≠ X + 1 + 25 → x ≠ X + 1 + 26 → x ≠ X + 1 + 27 → SI τ x = SI σ x := fP.2.2.2.2.2.2.1
  have rx : ∀ x, x < Y + 8 ∨ Y + 12 < x → SI υ x = SI ρ x := fQ.2.2.2.2.2.2
  obtain ⟨y1, y2, y3, y4, y5, y6, y7, y8⟩ := g6
  obtain ⟨np, nf, hp, -, -, hp2, -⟩ := id y2
  refine ⟨g1, by rw [fP.1]; exact g2, LayX_c g3 fP.2.1 fP.2.2.1 fP.2.2.2.1, LayY_c g4 fQ.2.1 fQ.2.2.1 fQ.2.2.2.1, by rw [fP.2.2.2.2.2.1]; exact g5, ?_, ?_, rTape_c g8 (sx _ (by omega) (by omega) (by omega) (by omega) (by omega) (by omega)) (sx _ (by omega) (by omega) (by omega) (by omega) (by omega) (by omega)) (by rw [rx Y (by omega)]) (rx _ (by omega)), rSh_c g9 (fun b _ _ => ⟨sx b (by omega) (by omega) (by omega) (by omega) (by omega) (by omega), by rw [fP.2.2.2.2.1]⟩) (rx _ (by omega)) (rx _ (by omega)) (by rw [fQ.2.2.2.2.1]; rfl), rTell_c g10 (by rw [sx X (by omega) (by omega) (by omega) (by omega) (by omega) (by omega)]) (sx _ (by omega) (by omega) (by omega) (by omega) (by omega) (by omega)) (by rw [rx Y (by omega)]) (rx _ (by omega))⟩
  · rw [rx (Y + 1) (by omega)]
    exact ⟨rDay_c y1 (sx _ (by omega) (by omega) (by omega) (by omega) (by omega) (by omega)) rfl, rG_c y2 (fun a _ _ => sx a (by omega) (by omega) (by omega) (by omega) (by omega) (by omega)) (fun _ _ => rfl), rQ_c y3 (fun a _ _ => sx a (by omega) (by omega) (by omega) (by omega) (by omega) (by omega)) (fun _ _ => rfl), rS_c y4 (fun a _ _ => sx a (by omega) (by omega) (by omega) (by omega) (by omega) (by omega)) (fun _ _ => rfl) (Int32.le_refl _), rA_c y5 (fun a _ _ => sx a (by omega) (by omega) (by omega) (by omega) (by omega) (by omega)) (fun _ _ => rfl), rB_c y6 hp hp2 (fun a _ _ => sx a (by omega) (by omega) (by omega) (by omega) (by omega) (by omega)) (fun _ _ => rfl) (fun _ _ => rfl) (Int32.le_refl _) (Int32.le_refl _), rW_c y7 (fun a _ => sx a (by omega) (by omega) (by omega) (by omega) (by omega) (by omega)) (fun _ _ => rfl), rT_c2 y8 fP.1 fP.2.1 fP.2.2.1 (by rw [fP.2.2.2.1]) (fun x _ => by rw [fP.2.2.2.1]) (fP.2.2.2.2.2.2.2 1 (by decide)) (fun a ha => sx a (by omega) (by omega) (by omega) (by omega) (by omega) (by omega)) (fun _ _ => rfl)⟩
  · rw [sx X (by omega) (by omega) (by omega) (by omega) (by omega) (by omega), rx Y (by omega), rx (Y + 2) (by omega)]
    rcases g7 with q | ⟨z1, z2, z3⟩
    · exact Or.inl q
    · exact Or.inr ⟨z1, z2, RWd_c z3 fP.1 fP.2.1 fP.2.2.1 fP.2.2.2.1 (fun a ha => sx a (by omega) (by omega) (by omega) (by omega) (by omega) (by omega)) (fun _ _ => rfl)⟩
theorem gr_all (h : REL X Y σ ρ) {nq : Nat} (hq : nq ≤ 16) (q3 : SI ρ (Y + 1) 7 = nI nq) (qc qm : Int32) (hqq : (qc = NONE_ ∧ qm = -1) ∨ (qc = qm ∧ bd qm 0 9)) : ∃ a σ1 τ υ, FrP (X + 1) σ σ1 ∧ FrP (X + 1) σ τ ∧ FrQ Y (stn ρ (Shn σ)) υ ∧ grP (X + 1) Y nq τ υ ∧ f_Permits_drawUp (X + 1 + 21) (X + 1 + 11) (SI ρ (Y + 1) 0) true σ = ((), true, σ1) ∧ f_Permits_grantAll (X + 1 + 21) qc true σ1 = (a, true, τ) ∧ f_Model_findGrant Y qm true (stn ρ (Shn σ)) = (a, true, υ) := by
  have hX := h.2.2.1
  have hY : LayY Y (stn ρ (Shn σ)) := h.2.2.2.1
  have hW := hX.2.1
  obtain ⟨y1, y2, y3, y4, y5, y6, y7, y8⟩ := REL_now2 h
  obtain ⟨O, σ1, ρ1, f1, f2, f3, e1, e2⟩ := draw_both h.1 hW (by omega) hY (show rT X σ (X + 1) (SI (stn ρ (Shn σ)) (Y + 1)) from y8) (show rQ σ (X + 1) (SI (stn ρ (Shn σ)) (Y + 1)) from y3) hq (show SI (stn ρ (Shn σ)) (Y + 1) 7 = nI nq from q3) qm
  have eS : SI ρ1 (Y + 1) = SI ρ (Y + 1) := f2.2.2.2.2.2.2 (Y + 1) (by omega)
  have hQ1 : rQ σ1 (X + 1) (SI ρ1 (Y + 1)) := rQ_c y3 (fun a _ _ => f1.2.2.2.2.2.2.1 a (by omega) (by omega) (by omega) (by omega) (by omega) (by omega)) (fun j _ => by rw [eS])
  obtain ⟨a, τ, υ, k1, k2, k3, e3, e4⟩ := grant_both (FrP_L f1 hW) (FrQ_L f2 hY) hQ1 hq (by rw [eS]; exact q3) f3 qc qm hqq
  exact ⟨a, σ1, τ, υ, f1, FrP_t f1 k1, FrQ_t f2 k2, k3, e1, e3, e2.trans e4⟩
theorem op_27 : Op_27 X Y (REL X Y) := by
  intro v σ ρ h
  have hX := h.2.2.1
  have hY : LayY Y (stn ρ (Shn σ)) := h.2.2.2.1
  have hW := hX.2.1
  obtain ⟨nq, r1, r2, r3, r4, r5⟩ := (REL_now2 h).2.2.1
  have d1 := (REL_now2 h).1.1
  have eh : f_Permits_hasWish (X + 1 + 21) v true σ = (inR v 0 (nI nq - 1), true, σ) := by
    unfold f_Permits_hasWish
    simp only [bd_, e_within, cK_of (kW_21 hW), r2, inR_zok, Bool.and_true]
  by_cases ha : (0 : Int32) ≤ v ∧ v ≤ nI nq - 1
  · obtain ⟨k, hk, rfl⟩ := in_idx (by omega) ha
    obtain ⟨a, σ1, τ, υ, f1, f2, f3, f4, e1, e2, e3⟩ := gr_all h r1 r3 NONE_ (-1) (Or.inl ⟨rfl, rfl⟩)
    have hW1 := FrP_L f1 hW
    have hWt := FrP_L f2 hW
    have hYt := FrQ_L f3 hY
    have eans : (if SI υ (Y + 12) k < 0 then (-1000000005 : Int32) else SI υ (Y + 12) k) = SI τ (X + 1 + 27) k := by
      rcases f4 k hk with ⟨z1, z2⟩ | ⟨z1, z2⟩
      · rw [z1, z2]; rfl
      · obtain ⟨m, hm, em⟩ := bd_nat (n := 1100) z2
        rw [z1, em, if_neg (nI_pos (by omega))]
    refine OpOK_j (SI τ (X + 1 + 27) k) (Shn σ) τ υ ?_ f2.1 ?_ f3.1 (REL_gr h f2 f3)
    · rw [f_Trail_granted, lt_, rX_0_0 hX, rW_0_3 hW, cK_of (kX_0 hX), cK_of (kW_0 hW), cK_of (kW_21 hW)]
      simp only [Bool.and_true]
      rw [eh, bd_, inR_e1 ha, if_neg (show ¬ (1 : Int32) = 0 by decide), rX_0_0 hX, rW_0_1 hW, d1, cK_of (kX_0 hX), cK_of (kW_0 hW), cK_of (kW_21 hW)]
      simp only [Bool.and_true, e1, bd_, cK_of (kW_21 hW1), show (-1000000005 : Int32) = NONE_ from rfl, e2, rW_21_6 hWt, cK_of (kW_21 hWt), ix_nI (show k < 2 ^ 31 by omega), cA_of (kW_27 hWt) (nW_27 hWt) (show k < 16 by omega) (by decide)]
    · show f_Model_granted Y (nI k) true (stn ρ (Shn σ)) = _
      have r3' : SI (stn ρ (Shn σ)) (Y + 1) 7 = nI nq := r3
      rw [f_Model_granted, rY_0 hY, show ix (7 : Int32) = 7 from rfl, r3', e_isInL (nI k) 0 _ 0 (nI nq - 1) rfl rfl, inR_e1 ha, bd_, if_neg (show ¬ (1 : Int32) = 0 by decide), cK_of (kY_0 hY), cYk hY 7 (v := 7) rfl (by decide)]
      simp only [Bool.and_true, e3, bd_, lt_, rY_24 hYt, cK_of (kY_0 hYt), ix_nI (show k < 2 ^ 31 by omega), cA_of (kY_12 hYt) (nY_12 hYt) (show k < 16 by omega) (by decide), e_orNone, eans]
  · refine OpOK_b (-1000000001) h ?_ ?_
    · rw [f_Trail_granted, lt_, rX_0_0 hX, rW_0_3 hW, cK_of (kX_0 hX), cK_of (kW_0 hW), cK_of (kW_21 hW)]
      simp only [Bool.and_true]
      rw [eh, bd_, inR_e0 ha, if_pos rfl]
    · show f_Model_granted Y v true (stn ρ (Shn σ)) = _
      have r3' : SI (stn ρ (Shn σ)) (Y + 1) 7 = nI nq := r3
      rw [f_Model_granted, rY_0 hY, show ix (7 : Int32) = 7 from rfl, r3', e_isInL v 0 _ 0 (nI nq - 1) rfl rfl, inR_e0 ha, bd_, if_pos rfl, cK_of (kY_0 hY), cYk hY 7 (v := 7) rfl (by decide)]
      rfl
theorem op_28 : Op_28 X Y (REL X Y) := by
  intro v σ ρ h
  have hX := h.2.2.1
  have hY : LayY Y (stn ρ (Shn σ)) := h.2.2.2.1
  have hW := hX.2.1
  obtain ⟨nq, r1, r2, r3, r4, r5⟩ := (REL_now2 h).2.2.1
  have d1 := (REL_now2 h).1.1
  by_cases ha : (0 : Int32) ≤ v ∧ v ≤ 9
  · obtain ⟨a, σ1, τ, υ, f1, f2, f3, f4, e1, e2, e3⟩ := gr_all h r1 r3 v v (Or.inr ⟨rfl, i32_bd ha⟩)
    have hX1 : LayX X σ1 := LayX_c hX f1.2.1 f1.2.2.1 f1.2.2.2.1
    have hW1 := hX1.2.1
    refine OpOK_j a (Shn σ) τ υ ?_ f2.1 ?_ f3.1 (REL_gr h f2 f3)
    · rw [f_Trail_would, e_within, bd_, inR_e1 ha, if_neg (show ¬ (1 : Int32) = 0 by decide), rX_0_0 hX, rW_0_3 hW, rW_0_1 hW, d1, cK_of (kX_0 hX), cK_of (kW_0 hW), cK_of (kW_21 hW)]
      simp only [Bool.and_true, e1, bd_, rX_0_0 hX1, rW_0_3 hW1, cK_of (kX_0 hX1), cK_of (kW_0 hW1), cK_of (kW_21 hW1), e2]
    · show f_Model_would Y v true (stn ρ (Shn σ)) = _
      rw [f_Model_would, e_isInL v 0 9 0 9 rfl rfl, bd_, inR_e1 ha, if_neg (show ¬ (1 : Int32) = 0 by decide), cK_of (kY_0 hY)]
      simp only [Bool.and_true, e3, bd_]
  · refine OpOK_b (-1000000001) h ?_ ?_
    · rw [f_Trail_would, e_within, bd_, inR_e0 ha, if_pos rfl]
    · show f_Model_would Y v true (stn ρ (Shn σ)) = _
      rw [f_Model_would, e_isInL v 0 9 0 9 rfl rfl, bd_, inR_e0 ha, if_pos rfl]
end GR3
