/-! wishes: lined up, granted -/
section GR2
variable {X Y w : Nat} {σ ρ : Sto}
/-- the order of the first i wishes: O, on both sides -/
def ordP (w Y i : Nat) (O : Nat → Nat) (τ υ : Sto) : Prop := (∀ j, j < i → O j < i ∧ SI τ (w + 26) j = nI (O j) ∧ SI υ (Y + 11) j = nI (O j) ∧ SI υ (Y + 10) j = SI τ (w + 25) (O j)) ∧ (∀ k, k < i → SI υ (Y + 12) k = -1) ∧ ∀ j k, j < i → k < i → O j = O k → j = k
/-- while wish i looks for its place: t is free -/
def insP (w Y i t : Nat) (O : Nat → Nat) (v : Int32) (τ υ : Sto) : Prop := SI τ (w + 25) i = v ∧ ((∀ j, j < i → O j < i) ∧ ∀ j k, j < i → k < i → O j = O k → j = k) ∧ (∀ j, j < t → SI τ (w + 26) j = nI (O j) ∧ SI υ (Y + 11) j = nI (O j) ∧ SI υ (Y + 10) j = SI τ (w + 25) (O j)) ∧ (∀ j, t < j → j ≤ i → SI τ (w + 26) j = nI (O (j - 1)) ∧ SI υ (Y + 11) j = nI (O (j - 1)) ∧ SI υ (Y + 10) j = SI τ (w + 25) (O (j - 1))) ∧ ∀ k, k < i → SI υ (Y + 12) k = -1
theorem ins_both (hW : LayW w σ) (hY : LayY Y ρ) {i : Nat} (hi : i < 16) (day v x1 : Int32) {badC : Int32 → Bool → Sto → Rs Unit} {badM : Int32 → Bool → Sto → Rs Int32} : ∀ (t n : Nat) (O : Nat → Nat) (τ υ : Sto), t ≤ i → t < n → FrP w σ τ → FrQ Y ρ υ → insP w Y i t O v τ υ → ∃ O' τ' υ', FrP w σ τ' ∧ FrQ Y ρ υ' ∧ ordP w Y (i + 1) O' τ' υ' ∧ (∀ L, lp_ (b_Permits_drawUp_47 (w + 21) (w + 11) day (nI i) L) badC n (nI t) true τ = L (nI i + 1) true τ') ∧ ∀ L, lp_ (b_Model_findGrant_22 Y x1 (nI i) v L) badM n (nI t) true υ = L (nI i + 1) true υ' := by
  have fin : ∀ (t : Nat) (O : Nat → Nat) (τ υ : Sto), t ≤ i → FrP w σ τ → FrQ Y ρ υ → insP w Y i t O v τ υ → FrP w σ (pI τ (w + 26) t (nI i)) ∧ FrQ Y ρ (pI (pI (pI υ (Y + 10) t v) (Y + 11) t (nI i)) (Y + 12) i (-1)) ∧ ordP w Y (i + 1) (fun j => if j < t then O j else if j = t then i else O (j - 1)) (pI τ (w + 26) t (nI i)) (pI (pI (pI υ (Y + 10) t v) (Y + 11) t (nI i)) (Y + 12) i (-1)) := by
    intro t O τ υ ht fP fQ ⟨p0, p1, p2, p3, p4⟩
    refine ⟨FrP_p fP (by omega), FrQ_p (FrQ_p (FrQ_p fQ (by omega)) (by omega)) (by omega), fun j hj => ?_, fun k hk => ?_, fun j k hj hk => ?_⟩
    · have c26 : SI (pI τ (w + 26) t (nI i)) (w + 26) j = if j = t then nI i else SI τ (w + 26) j := by
        rw [SI_pI]
        by_cases e : j = t
        · rw [if_pos e, e, up2_s]
        · rw [if_neg e, up2_nj e]
      have c25 : ∀ a, SI (pI τ (w + 26) t (nI i)) (w + 25) a = SI τ (w + 25) a := fun a => by rw [SI_pI, up2_ne' (by omega)]
      have m11 : SI (pI (pI (pI υ (Y + 10) t v) (Y + 11) t (nI i)) (Y + 12) i (-1)) (Y + 11) j = if j = t then nI i else SI υ (Y + 11) j := by
        rw [SI_pI, up2_ne' (by omega), SI_pI]
        by_cases e : j = t
        · rw [if_pos e, e, up2_s]
        · rw [if_neg e, up2_nj e, SI_pI, up2_ne' (by omega)]
      have m10 : SI (pI (pI (pI υ (Y + 10) t v) (Y + 11) t (nI i)) (Y + 12) i (-1)) (Y + 10) j = if j = t then v else SI υ (Y + 10) j := by
        rw [SI_pI, up2_ne' (by omega), SI_pI, up2_ne' (by omega), SI_pI]
        by_cases e : j = t
        · rw [if_pos e, e, up2_s]
        · rw [if_neg e, up2_nj e]
      rw [c26, m11, m10, c25]
      by_cases h1 : j < t
      · obtain ⟨a1, a2, a3⟩ := p2 j h1
        have := p1.1 j (by omega)
        simp only [if_pos h1, if_neg (show ¬ j = t by omega)]
        exact ⟨by omega, a1, a2, a3⟩
      · by_cases h2 : j = t
        · simp only [if_neg h1, if_pos h2]
          exact ⟨by omega, trivial, trivial, p0.symm⟩
        · obtain ⟨a1, a2, a3⟩ := p3 j (by omega) (by omega)
          have := p1.1 (j - 1) (by omega)
          simp only [if_neg h1, if_neg h2]
          exact ⟨by omega, a1, a2, a3⟩
    · rw [SI_pI]
      by_cases e : k = i
      · rw [e, up2_s]
      · rw [up2_nj e, SI_pI, up2_ne' (by omega), SI_pI, up2_ne' (by omega)]
        exact p4 k (by omega)
    · have key : ∀ j k, j < i + 1 → k < i + 1 → j < k → (if j < t then O j else if j = t then i else O (j - 1)) = (if k < t then O k else if k = t then i else O (k - 1)) → False := by
        intro j k hj hk hjk e
        by_cases a1 : j < t
        · rw [if_pos a1] at e
          by_cases b1 : k < t
          · rw [if_pos b1] at e
            exact absurd (p1.2 j k (by omega) (by omega) e) (by omega)
          · rw [if_neg b1] at e
            have h1 := p1.1 j (by omega)
            by_cases b2 : k = t
            · rw [if_pos b2] at e; omega
            · rw [if_neg b2] at e
              exact absurd (p1.2 j (k - 1) (by omega) (by omega) e) (by omega)
        · rw [if_neg a1, if_neg (show ¬ k < t by omega), if_neg (show ¬ k = t by omega)] at e
          have h1 := p1.1 (k - 1) (by omega)
          by_cases a2 : j = t
          · rw [if_pos a2] at e; omega
          · rw [if_neg a2] at e
            exact absurd (p1.2 (j - 1) (k - 1) (by omega) (by omega) e) (by omega)
      intro e
      rcases Nat.lt_trichotomy j k with c | c | c
      · exact (key j k hj hk c e).elim
      · exact c
      · exact (key k j hk hj c e.symm).elim
  intro t
  induction t with
  | zero =>
    intro n O τ υ ht hn fP fQ hp
    obtain ⟨m, rfl⟩ : ∃ m, n = m + 1 := ⟨n - 1, by omega⟩
    obtain ⟨f1, f2, f3⟩ := fin 0 O τ υ ht fP fQ hp
    have hWt := FrP_L fP hW
    have hYt := FrQ_L fQ hY
    refine ⟨_, _, _, f1, f2, f3, fun L => ?_, fun L => ?_⟩
    · rw [lp_S]
      unfold b_Permits_drawUp_47
      simp only [lt_, if_neg (show ¬ (0 : Int32) < nI 0 by decide), rW_21_5 hWt, ix_nI (show 0 < 2 ^ 31 by decide), cK_of (kW_21 hWt), cA_of (kW_26 hWt) (nW_26 hWt) (show 0 < 16 by decide) (by decide), Bool.and_true]
    · rw [lp_S]
      unfold b_Model_findGrant_22
      simp only [lt_, if_neg (show ¬ (0 : Int32) < nI 0 by decide), SR_pI, cK_pI, cA_pI, rY_22 hYt, rY_23 hYt, rY_24 hYt, ix_nI (show 0 < 2 ^ 31 by decide), ix_nI (show i < 2 ^ 31 by omega), cK_of (kY_0 hYt), cA_of (kY_10 hYt) (nY_10 hYt) (show 0 < 16 by decide) (by decide), cA_of (kY_11 hYt) (nY_11 hYt) (show 0 < 16 by decide) (by decide), cA_of (kY_12 hYt) (nY_12 hYt) hi (by decide), Bool.and_true]
  | succ t ih =>
    intro n O τ υ ht hn fP fQ hp
    obtain ⟨m, rfl⟩ : ∃ m, n = m + 1 := ⟨n - 1, by omega⟩
    have hWt := FrP_L fP hW
    have hYt := FrQ_L fQ hY
    obtain ⟨p0, p1, p2, p3, p4⟩ := id hp
    obtain ⟨a1, a2, a3⟩ := p2 t (by omega)
    have hO := p1.1 t (by omega)
    have pos : (0 : Int32) < nI (t + 1) := nI_lt (a := 0) (by omega) (by omega)
    have em : nI (t + 1) + -1 = nI t := by rw [show nI (t + 1) + -1 = nI (t + 1) - 1 from (Int32.sub_eq_add_neg _ _).symm, nI_s1]
    by_cases c : SI τ (w + 25) (O t) < v
    · have n1 : Y + 11 ≠ Y + 10 := by omega
      have hp' : insP w Y i t O v (pI τ (w + 26) (t + 1) (nI (O t))) (pI (pI υ (Y + 10) (t + 1) (SI τ (w + 25) (O t))) (Y + 11) (t + 1) (nI (O t))) := by
        have c25 : ∀ a, SI (pI τ (w + 26) (t + 1) (nI (O t))) (w + 25) a = SI τ (w + 25) a := fun a => by rw [SI_pI, up2_ne' (by omega)]
        have c26 : ∀ j, SI (pI τ (w + 26) (t + 1) (nI (O t))) (w + 26) j = if j = t + 1 then nI (O t) else SI τ (w + 26) j := fun j => by
          rw [SI_pI]
          by_cases e : j = t + 1
          · rw [if_pos e, e, up2_s]
          · rw [if_neg e, up2_nj e]
        have m11 : ∀ j, SI (pI (pI υ (Y + 10) (t + 1) (SI τ (w + 25) (O t))) (Y + 11) (t + 1) (nI (O t))) (Y + 11) j = if j = t + 1 then nI (O t) else SI υ (Y + 11) j := fun j => by
          rw [SI_pI]
          by_cases e : j = t + 1
          · rw [if_pos e, e, up2_s]
          · rw [if_neg e, up2_nj e, SI_pI, up2_ne' (by omega)]
        have m10 : ∀ j, SI (pI (pI υ (Y + 10) (t + 1) (SI τ (w + 25) (O t))) (Y + 11) (t + 1) (nI (O t))) (Y + 10) j = if j = t + 1 then SI τ (w + 25) (O t) else SI υ (Y + 10) j := fun j => by
          rw [SI_pI, up2_ne' (by omega), SI_pI]
          by_cases e : j = t + 1
          · rw [if_pos e, e, up2_s]
          · rw [if_neg e, up2_nj e]
        refine ⟨by rw [c25]; exact p0, p1, fun j hj => ?_, fun j h1 h2 => ?_, fun k hk => by rw [SI_pI, up2_ne' (by omega), SI_pI, up2_ne' (by omega)]; exact p4 k hk⟩
        · rw [c26, m11, m10, c25, if_neg (by omega), if_neg (by omega), if_neg (by omega)]
          exact p2 j (by omega)
        · rw [c26, m11, m10, c25]
          by_cases e : j = t + 1
          · rw [if_pos e, if_pos e, if_pos e, e, Nat.add_sub_cancel]
            exact ⟨rfl, rfl, rfl⟩
          · rw [if_neg e, if_neg e, if_neg e]
            exact p3 j (by omega) h2
      obtain ⟨O', τ', υ', f1, f2, f3, e1, e2⟩ := ih m O _ _ (by omega) (by omega) (FrP_p fP (show w + 26 = w + 13 ∨ w + 26 = w + 14 ∨ w + 26 = w + 25 ∨ w + 26 = w + 26 ∨ w + 26 = w + 27 by omega)) (FrQ_p (FrQ_p fQ (show Y + 8 ≤ Y + 10 ∧ Y + 10 ≤ Y + 12 by omega)) (show Y + 8 ≤ Y + 11 ∧ Y + 11 ≤ Y + 12 by omega)) hp'
      refine ⟨O', τ', υ', f1, f2, f3, fun L => ?_, fun L => ?_⟩
      · rw [← e1 L, lp_S]
        unfold b_Permits_drawUp_47
        simp only [lt_, if_pos pos, nI_s1, em, rW_21_4 hWt, rW_21_5 hWt, ix_nI (show t < 2 ^ 31 by omega), ix_nI (show t + 1 < 2 ^ 31 by omega), ix_nI (show i < 2 ^ 31 by omega), a1, ix_nI (show O t < 2 ^ 31 by omega), p0, if_pos c, cK_of (kW_21 hWt), cA_of (kW_25 hWt) (nW_25 hWt) (show O t < 16 by omega) (by decide), cA_of (kW_25 hWt) (nW_25 hWt) hi (by decide), cA_of (kW_26 hWt) (nW_26 hWt) (show t < 16 by omega) (by decide), cA_of (kW_26 hWt) (nW_26 hWt) (show t + 1 < 16 by omega) (by decide), Bool.and_true]
      · rw [← e2 L, lp_S]
        unfold b_Model_findGrant_22
        simp only [lt_, if_pos pos, nI_s1, em, SR_pI, cK_pI, cA_pI, SI_pI, up2_ne' n1, rY_22 hYt, rY_23 hYt, rY_24 hYt, ix_nI (show t < 2 ^ 31 by omega), ix_nI (show t + 1 < 2 ^ 31 by omega), a2, a3, if_pos c, cK_of (kY_0 hYt), cA_of (kY_10 hYt) (nY_10 hYt) (show t < 16 by omega) (by decide), cA_of (kY_10 hYt) (nY_10 hYt) (show t + 1 < 16 by omega) (by decide), cA_of (kY_11 hYt) (nY_11 hYt) (show t < 16 by omega) (by decide), cA_of (kY_11 hYt) (nY_11 hYt) (show t + 1 < 16 by omega) (by decide), Bool.and_true]
    · obtain ⟨f1, f2, f3⟩ := fin (t + 1) O τ υ ht fP fQ hp
      refine ⟨_, _, _, f1, f2, f3, fun L => ?_, fun L => ?_⟩
      · rw [lp_S]
        unfold b_Permits_drawUp_47
        simp only [lt_, if_pos pos, nI_s1, rW_21_4 hWt, rW_21_5 hWt, ix_nI (show t < 2 ^ 31 by omega), ix_nI (show t + 1 < 2 ^ 31 by omega), ix_nI (show i < 2 ^ 31 by omega), a1, ix_nI (show O t < 2 ^ 31 by omega), p0, if_neg c, cK_of (kW_21 hWt), cA_of (kW_25 hWt) (nW_25 hWt) (show O t < 16 by omega) (by decide), cA_of (kW_25 hWt) (nW_25 hWt) hi (by decide), cA_of (kW_26 hWt) (nW_26 hWt) (show t < 16 by omega) (by decide), cA_of (kW_26 hWt) (nW_26 hWt) (show t + 1 < 16 by omega) (by decide), Bool.and_true]
      · rw [lp_S]
        unfold b_Model_findGrant_22
        simp only [lt_, if_pos pos, nI_s1, SR_pI, cK_pI, cA_pI, rY_22 hYt, rY_23 hYt, rY_24 hYt, ix_nI (show t < 2 ^ 31 by omega), ix_nI (show t + 1 < 2 ^ 31 by omega), ix_nI (show i < 2 ^ 31 by omega), a3, if_neg c, cK_of (kY_0 hYt), cA_of (kY_10 hYt) (nY_10 hYt) (show t < 16 by omega) (by decide), cA_of (kY_10 hYt) (nY_10 hYt) (show t + 1 < 16 by omega) (by decide), cA_of (kY_11 hYt) (nY_11 hYt) (show t + 1 < 16 by omega) (by decide), cA_of (kY_12 hYt) (nY_12 hYt) hi (by decide), Bool.and_true]
/-- lined up on both sides -/
theorem draw_both (hX0 : 1 ≤ X) (hW : LayW w σ) (hwX : w + 52 < X + 173) (hY : LayY Y ρ) (hT : rT X σ w (SI ρ (Y + 1))) (hQ : rQ σ w (SI ρ (Y + 1))) {nq : Nat} (hq : nq ≤ 16) (q3 : SI ρ (Y + 1) 7 = nI nq) (x1 : Int32) : ∃ O τ υ, FrP w σ τ ∧ FrQ Y ρ υ ∧ ordP w Y nq O τ υ ∧ f_Permits_drawUp (w + 21) (w + 11) (SI ρ (Y + 1) 0) true σ = ((), true, τ) ∧ f_Model_findGrant Y x1 true ρ = lp_ (b_Model_findGrant_111 Y x1) (fun (x2 : Int32) (x3 : Int32) (b : Bool) (σ : Sto) => (0, false, σ)) fuel_ 0 0 true υ := by
  obtain ⟨nq', r1, r2, r3, r4, r5⟩ := hQ
  have e : nq' = nq := (nI_eq (by omega) (by omega)).mp (r3.symm.trans q3)
  subst e
  obtain ⟨nt, t1, -, t3, -⟩ := id hT
  unfold f_Permits_drawUp f_Model_findGrant
  rw [lt_, lt_]
  obtain ⟨τ, υ, ⟨f1, f2, O, f3⟩, e1, e2⟩ := lp_ex2 (body := b_Permits_drawUp_2 (w + 21) (w + 11) (SI ρ (Y + 1) 0)) (bad := fun (x3 : Int32) (b : Bool) (σ : Sto) => ((), false, σ)) (body' := b_Model_findGrant_2 Y x1) (bad' := fun (x2 : Int32) (b : Bool) (σ : Sto) => (0, false, σ)) nq' (fun i τ υ => FrP w σ τ ∧ FrQ Y ρ υ ∧ ∃ O, ordP w Y i O τ υ) (fun τ => ((), true, τ)) (fun υ => lp_ (b_Model_findGrant_111 Y x1) (fun (x2 : Int32) (x3 : Int32) (b : Bool) (σ : Sto) => (0, false, σ)) fuel_ 0 0 true υ) (by omega) (fun i τ υ hi q => by
    obtain ⟨fP, fQ, O, hO⟩ := q
    have hWt := FrP_L fP hW
    have hYt := FrQ_L fQ hY
    have hTt := FrPQ_T fP fQ hwX hT
    have eS : SI υ (Y + 1) = SI ρ (Y + 1) := fQ.2.2.2.2.2.2 (Y + 1) (by omega)
    have e21 : SI τ (w + 21) = SI σ (w + 21) := fP.2.2.2.2.2.2.1 _ (by omega) (by omega) (by omega) (by omega) (by omega) (by omega)
    have e23 : SI τ (w + 23) = SI σ (w + 23) := fP.2.2.2.2.2.2.1 _ (by omega) (by omega) (by omega) (by omega) (by omega) (by omega)
    obtain ⟨v, τ1, υ1, g1, g2, g3, g4, g5⟩ := worth_both hX0 hWt hwX hYt hTt t1 (by rw [eS]; exact t3) r1 hi (by rw [e21]; exact r2) (by rw [eS]; exact r3) (fun k hk => by rw [e23, eS]; exact (r4 k hk).1)
    have fP0 : FrP w σ (pI (pI τ (w + 13) 0 (SI τ (w + 23) i)) (w + 13) 1 (cntI (fun k => decide (SI τ (w + 23) k = SI τ (w + 23) i)) nq')) := FrP_p (FrP_p fP (by omega)) (by omega)
    have fP1 : FrP w σ τ1 := FrP_t fP0 (FrP_w g3)
    have fP2 : FrP w σ (pI τ1 (w + 25) i v) := FrP_p fP1 (by omega)
    have fQ1 : FrQ Y ρ υ1 := FrQ_t fQ g4
    have hW1 := FrP_L fP1 hW
    have k26 : SI τ1 (w + 26) = SI τ (w + 26) := by rw [g3.2.2.2.2.2.2.1 (w + 26) (by omega) (by omega), SI_pI, up2_ne (by omega), SI_pI, up2_ne (by omega)]
    have k25 : SI τ1 (w + 25) = SI τ (w + 25) := by rw [g3.2.2.2.2.2.2.1 (w + 25) (by omega) (by omega), SI_pI, up2_ne (by omega), SI_pI, up2_ne (by omega)]
    have hin : insP w Y i i O v (pI τ1 (w + 25) i v) υ1 := by
      refine ⟨by rw [SI_pI, up2_s], ⟨fun j hj => (hO.1 j hj).1, hO.2.2⟩, fun j hj => ?_, fun j h1 h2 => absurd h1 (by omega), fun k hk => by rw [g5 (Y + 12) (by omega) (by omega)]; exact hO.2.1 k hk⟩
      obtain ⟨o1, o2, o3, o4⟩ := hO.1 j hj
      rw [g5 (Y + 11) (by omega) (by omega), g5 (Y + 10) (by omega) (by omega), SI_pI, up2_ne' (by omega), k26, up2_nj (by omega), k25]
      exact ⟨o2, o3, o4⟩
    obtain ⟨O', τ', υ', f1, f2, f3, e1, e2⟩ := ins_both (badC := fun (x4 : Int32) (b : Bool) (σ : Sto) => ((), false, σ)) (badM := fun (x4 : Int32) (b : Bool) (σ : Sto) => (0, false, σ)) hW hY (show i < 16 by omega) (SI ρ (Y + 1) 0) v x1 i fuel_ O _ _ (Nat.le_refl _) (by show i < 70000; omega) fP2 fQ1 hin
    refine ⟨τ', υ', ⟨f1, f2, O', f3⟩, fun L => ?_, fun L => ?_⟩
    · rw [← e1 L, ← eS]
      rw [← eS] at e1
      have hWp : LayW w (pI (pI τ (w + 13) 0 (SI τ (w + 23) i)) (w + 13) 1 (cntI (fun k => decide (SI τ (w + 23) k = SI τ (w + 23) i)) nq')) := FrP_L fP0 hW
      have q2t : SI τ (w + 21) 3 = nI nq' := by rw [e21]; exact r2
      unfold b_Permits_drawUp_2
      rw [q2t, if_pos (show nI i < nI nq' from nI_lt hi (by omega)), rW_21_1 hWt, ix_nI (show i < 2 ^ 31 by omega), cK_of (kW_21 hWt), cA_of (kW_23 hWt) (nW_23 hWt) (show i < 16 by omega) (by decide)]
      simp only [Bool.and_true]
      rw [e_wishesFor hWt r1 q2t, bd_]
      simp only [cK_of (kW_11 hWt), Bool.and_true]
      rw [e_nameTwo hWt, bd_]
      simp only [cK_of (kW_11 hWp), cK_of (kW_21 hWp), Bool.and_true]
      rw [g1, bd_, lt_, lt_]
      simp only [rW_21_4 hWp, cA_of (kW_25 hW1) (nW_25 hW1) (show i < 16 by omega) (by decide), Bool.and_true]
    · rw [← e2 L]
      unfold b_Model_findGrant_2
      rw [rY_0 hYt, show ix (7 : Int32) = 7 from rfl, eS, q3, if_pos (show nI i < nI nq' from nI_lt hi (by omega)), cK_of (kY_0 hYt), cYk hYt 7 (v := 7) rfl (by decide)]
      simp only [Bool.and_true]
      rw [g2, bd_, lt_, lt_]) (fun L τ υ q => by
    have hWt := FrP_L q.1 hW
    have q2t : SI τ (w + 21) 3 = nI nq' := by rw [q.1.2.2.2.2.2.2.1 (w + 21) (by omega) (by omega) (by omega) (by omega) (by omega) (by omega)]; exact r2
    unfold b_Permits_drawUp_2
    rw [q2t, if_neg (nI_nlt (Nat.le_refl nq') (by omega)), cK_of (kW_21 hWt)]
    rfl) (fun L τ υ q => by
    have hYt := FrQ_L q.2.1 hY
    have eS : SI υ (Y + 1) = SI ρ (Y + 1) := q.2.1.2.2.2.2.2.2 (Y + 1) (by omega)
    unfold b_Model_findGrant_2
    rw [rY_0 hYt, show ix (7 : Int32) = 7 from rfl, eS, q3, if_neg (nI_nlt (Nat.le_refl nq') (by omega)), cK_of (kY_0 hYt), cYk hYt 7 (v := 7) rfl (by decide), lt_, lt_]
    rfl) σ ρ ⟨FrP_0, FrQ_0, fun j => j, fun j hj => absurd hj (Nat.not_lt_zero _), fun k hk => absurd hk (Nat.not_lt_zero _), fun j k hj => absurd hj (Nat.not_lt_zero _)⟩
  exact ⟨O, τ, υ, f1, f2, f3, e1, e2⟩
end GR2
