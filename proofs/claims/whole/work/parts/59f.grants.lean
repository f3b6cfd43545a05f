/-! wishes: their order -/
section GR
variable {α β : Type} {X Y w : Nat} {σ ρ : Sto} {S : Nat → Int32}
theorem lp_ex2A {body : (Int32 → Int32 → Bool → Sto → Rs α) → Int32 → Int32 → Bool → Sto → Rs α} {bad : Int32 → Int32 → Bool → Sto → Rs α} {body' : (Int32 → Int32 → Bool → Sto → Rs β) → Int32 → Int32 → Bool → Sto → Rs β} {bad' : Int32 → Int32 → Bool → Sto → Rs β} (N : Nat) (P : Nat → Int32 → Sto → Sto → Prop) (K : Int32 → Sto → Rs α) (K' : Int32 → Sto → Rs β) (hN : N < 69999)
    (hstep : ∀ i a τ υ, i < N → P i a τ υ → ∃ a' τ' υ', P (i + 1) a' τ' υ' ∧ (∀ L, body L a (nI i) true τ = L a' (nI i + 1) true τ') ∧ ∀ L, body' L a (nI i) true υ = L a' (nI i + 1) true υ') (hexit : ∀ L a τ υ, P N a τ υ → body L a (nI N) true τ = K a τ) (hexit' : ∀ L a τ υ, P N a τ υ → body' L a (nI N) true υ = K' a υ) (a : Int32) (τ υ : Sto) (h0 : P 0 a τ υ) :
    ∃ a' τ' υ', P N a' τ' υ' ∧ lp_ body bad fuel_ a 0 true τ = K a' τ' ∧ lp_ body' bad' fuel_ a 0 true υ = K' a' υ' := by
  have key : ∀ n, ∀ i a τ υ, i ≤ N → N - i < n → P i a τ υ → ∃ a' τ' υ', P N a' τ' υ' ∧ lp_ body bad n a (nI i) true τ = K a' τ' ∧ lp_ body' bad' n a (nI i) true υ = K' a' υ' := by
    intro n
    induction n with
    | zero => exact fun i a τ υ _ h _ => absurd h (Nat.not_lt_zero _)
    | succ n ih =>
      intro i a τ υ hi hn hp
      rw [lp_S, lp_S]
      by_cases hlt : i < N
      · obtain ⟨a1, τ1, υ1, p1, e1, e2⟩ := hstep i a τ υ hlt hp
        rw [e1, e2, show nI i + 1 = nI (i + 1) from nI_1 i]
        exact ih (i + 1) a1 τ1 υ1 hlt (by omega) p1
      · have e : i = N := by omega
        subst e
        exact ⟨a, τ, υ, hp, hexit _ a τ υ hp, hexit' _ a τ υ hp⟩
  exact key fuel_ 0 a τ υ (Nat.zero_le _) (by show N - 0 < 70000; omega) h0
/-- only what a grant fills differs -/
def FrP (w : Nat) (σ τ : Sto) : Prop := Shn τ = Shn σ ∧ Stk τ = Stk σ ∧ Sln τ = Sln σ ∧ SR τ = SR σ ∧ SL τ = SL σ ∧ Scs τ = Scs σ ∧ (∀ x, x ≠ w + 11 → x ≠ w + 13 → x ≠ w + 14 → x ≠ w + 25 → x ≠ w + 26 → x ≠ w + 27 → SI τ x = SI σ x) ∧ (∀ j, j ≠ 4 → SI τ (w + 11) j = SI σ (w + 11) j)
def FrQ (Y : Nat) (ρ υ : Sto) : Prop := Shn υ = Shn ρ ∧ Stk υ = Stk ρ ∧ Sln υ = Sln ρ ∧ SR υ = SR ρ ∧ SL υ = SL ρ ∧ Scs υ = Scs ρ ∧ ∀ x, x < Y + 8 ∨ Y + 12 < x → SI υ x = SI ρ x
theorem FrP_0 : FrP w σ σ := ⟨rfl, rfl, rfl, rfl, rfl, rfl, fun _ _ _ _ _ _ _ => rfl, fun _ _ => rfl⟩
theorem FrQ_0 : FrQ Y ρ ρ := ⟨rfl, rfl, rfl, rfl, rfl, rfl, fun _ _ => rfl⟩
theorem FrP_t {τ υ : Sto} (h : FrP w σ τ) (g : FrP w τ υ) : FrP w σ υ :=
  ⟨by rw [g.1, h.1], by rw [g.2.1, h.2.1], by rw [g.2.2.1, h.2.2.1], by rw [g.2.2.2.1, h.2.2.2.1], by rw [g.2.2.2.2.1, h.2.2.2.2.1], by rw [g.2.2.2.2.2.1, h.2.2.2.2.2.1], fun x a b c d e f => by rw [g.2.2.2.2.2.2.1 x a b c d e f, h.2.2.2.2.2.2.1 x a b c d e f], fun j hj => by rw [g.2.2.2.2.2.2.2 j hj, h.2.2.2.2.2.2.2 j hj]⟩
theorem FrQ_t {τ υ : Sto} (h : FrQ Y ρ τ) (g : FrQ Y τ υ) : FrQ Y ρ υ :=
  ⟨by rw [g.1, h.1], by rw [g.2.1, h.2.1], by rw [g.2.2.1, h.2.2.1], by rw [g.2.2.2.1, h.2.2.2.1], by rw [g.2.2.2.2.1, h.2.2.2.2.1], by rw [g.2.2.2.2.2.1, h.2.2.2.2.2.1], fun x a => by rw [g.2.2.2.2.2.2 x a, h.2.2.2.2.2.2 x a]⟩
theorem FrP_p {τ : Sto} {a j : Nat} {v : Int32} (h : FrP w σ τ) (ha : a = w + 13 ∨ a = w + 14 ∨ a = w + 25 ∨ a = w + 26 ∨ a = w + 27) : FrP w σ (pI τ a j v) :=
  ⟨by rw [Shn_pI, h.1], by rw [Stk_pI, h.2.1], by rw [Sln_pI, h.2.2.1], by rw [SR_pI, h.2.2.2.1], by rw [SL_pI, h.2.2.2.2.1], by rw [Scs_pI, h.2.2.2.2.2.1], fun x h1 h2 h3 h4 h5 h6 => by rw [SI_pI, up2_ne (by omega), h.2.2.2.2.2.2.1 x h1 h2 h3 h4 h5 h6], fun i hi => by rw [SI_pI, up2_ne' (by omega), h.2.2.2.2.2.2.2 i hi]⟩
theorem FrP_r {τ : Sto} {a : Nat} {f : Nat → Int32} (h : FrP w σ τ) (ha : a = w + 25 ∨ a = w + 26 ∨ a = w + 27) : FrP w σ (rI τ a f) :=
  ⟨by rw [Shn_rI, h.1], by rw [Stk_rI, h.2.1], by rw [Sln_rI, h.2.2.1], by rw [SR_rI, h.2.2.2.1], by rw [SL_rI, h.2.2.2.2.1], by rw [Scs_rI, h.2.2.2.2.2.1], fun x h1 h2 h3 h4 h5 h6 => by rw [SI_rI, up1_ne' (by omega), h.2.2.2.2.2.2.1 x h1 h2 h3 h4 h5 h6], fun i hi => by rw [SI_rI, up1_ne' (by omega), h.2.2.2.2.2.2.2 i hi]⟩
theorem FrP_w {τ : Sto} (h : FrW w σ τ) : FrP w σ τ := ⟨h.1, h.2.1, h.2.2.1, h.2.2.2.1, h.2.2.2.2.1, h.2.2.2.2.2.1, fun x a _ c _ _ _ => h.2.2.2.2.2.2.1 x a c, h.2.2.2.2.2.2.2⟩
theorem FrQ_p {τ : Sto} {a j : Nat} {v : Int32} (h : FrQ Y ρ τ) (ha : Y + 8 ≤ a ∧ a ≤ Y + 12) : FrQ Y ρ (pI τ a j v) :=
  ⟨by rw [Shn_pI, h.1], by rw [Stk_pI, h.2.1], by rw [Sln_pI, h.2.2.1], by rw [SR_pI, h.2.2.2.1], by rw [SL_pI, h.2.2.2.2.1], by rw [Scs_pI, h.2.2.2.2.2.1], fun x h1 => by rw [SI_pI, up2_ne (by omega), h.2.2.2.2.2.2 x h1]⟩
theorem FrQ_m {τ : Sto} (h : FrM Y ρ τ) : FrQ Y ρ τ := ⟨h.1, h.2.1, h.2.2.1, h.2.2.2.1, h.2.2.2.2.1, h.2.2.2.2.2.1, fun x a => h.2.2.2.2.2.2 x (by omega)⟩
theorem FrP_L {τ : Sto} (h : FrP w σ τ) {u : Nat} (hL : LayW u σ) : LayW u τ := LayT_c hL h.2.1 h.2.2.1 h.2.2.2.1
theorem FrQ_L {τ : Sto} (h : FrQ Y ρ τ) (hL : LayY Y ρ) : LayY Y τ := LayY_c hL h.2.1 h.2.2.1 h.2.2.2.1
theorem FrPQ_T {τ υ : Sto} (h : FrP w σ τ) (g : FrQ Y ρ υ) (hwX : w + 52 < X + 173) (hT : rT X σ w (SI ρ (Y + 1))) : rT X τ w (SI υ (Y + 1)) :=
  rT_c2 hT h.1 h.2.1 h.2.2.1 (by rw [h.2.2.2.1]) (fun x _ => by rw [h.2.2.2.1]) (h.2.2.2.2.2.2.2 1 (by decide)) (fun a ha => h.2.2.2.2.2.2.1 a (by omega) (by omega) (by omega) (by omega) (by omega) (by omega)) (fun j _ => by rw [g.2.2.2.2.2.2 (Y + 1) (by omega)])
theorem e_nameTwo (hW : LayW w σ) (a b : Int32) : f_Laws_nameTwo (w + 11) a b true σ = ((), true, pI (pI σ (w + 13) 0 a) (w + 13) 1 b) := by
  unfold f_Laws_nameTwo
  simp only [lt_, SR_pI, rW_11_2 hW, cK_pI, cA_pI, cK_of (kW_11 hW), show ix (0 : Int32) = 0 from rfl, show ix (1 : Int32) = 1 from rfl, show cA σ (w + 13) 21 0 = true from cA_of (i := 0) (kW_13 hW) (nW_13 hW) (by decide) (by decide), show cA σ (w + 13) 21 1 = true from cA_of (i := 1) (kW_13 hW) (nW_13 hW) (by decide) (by decide), Bool.and_true]
theorem e_wishesFor (hW : LayW w σ) {nq : Nat} (hn : nq ≤ 16) (q2 : SI σ (w + 21) 3 = nI nq) (d : Int32) : f_Permits_wishesFor (w + 21) d true σ = (cntI (fun i => decide (SI σ (w + 23) i = d)) nq, true, σ) := by
  unfold f_Permits_wishesFor
  rw [lt_, lt_]
  refine lp_cnt (σ := σ) nq (fun i => decide (SI σ (w + 23) i = d)) (fun x => (x, true, σ)) (by omega) (fun L i x hi => ?_) (fun L x => ?_)
  · unfold b_Permits_wishesFor_4
    simp only [lt_, q2, rW_21_1 hW, cK_of (kW_21 hW), ix_nI (show i < 2 ^ 31 by omega), cA_of (kW_23 hW) (nW_23 hW) (show i < 16 by omega) (by decide), Bool.and_true, if_pos (show nI i < nI nq from nI_lt hi (by omega)), decide_eq_true_eq]
    split <;> rfl
  · unfold b_Permits_wishesFor_4
    simp only [lt_, q2, cK_of (kW_21 hW), Bool.and_true, if_neg (nI_nlt (Nat.le_refl nq) (by omega))]
/-- the worth of one wish, on both sides -/
theorem worth_both (hX0 : 1 ≤ X) (hW : LayW w σ) (hwX : w + 52 < X + 173) (hY : LayY Y ρ) (hT : rT X σ w (SI ρ (Y + 1))) {nt nq i : Nat} (hnt : nt ≤ 12) (t3 : SI ρ (Y + 1) 4 = nI nt) (hq : nq ≤ 16) (hi : i < nq) (q2 : SI σ (w + 21) 3 = nI nq) (q3 : SI ρ (Y + 1) 7 = nI nq) (q4 : ∀ k, k < nq → SI σ (w + 23) k = SI ρ (Y + 1) (440 + 2 * k)) : ∃ v τ υ, f_Laws_answerOf (w + 11) 0 3 (SI ρ (Y + 1) 0) 0 true (pI (pI σ (w + 13) 0 (SI σ (w + 23) i)) (w + 13) 1 (cntI (fun k => decide (SI σ (w + 23) k = SI σ (w + 23) i)) nq)) = (v, true, τ) ∧ f_Model_worthOf Y (nI i) true ρ = (v, true, υ) ∧ FrW w (pI (pI σ (w + 13) 0 (SI σ (w + 23) i)) (w + 13) 1 (cntI (fun k => decide (SI σ (w + 23) k = SI σ (w + 23) i)) nq)) τ ∧ (FrQ Y ρ υ ∧ ∀ x, x ≠ Y + 8 → x ≠ Y + 9 → SI υ x = SI ρ x) := by
  generalize hc : cntI (fun k => decide (SI σ (w + 23) k = SI σ (w + 23) i)) nq = c
  have hc' : cntI (fun k => decide (SI ρ (Y + 1) (440 + 2 * k) = SI ρ (Y + 1) (440 + 2 * i))) nq = c := by
    rw [← hc]
    exact cntI_congr (fun k hk => by rw [q4 k hk, q4 i hi])
  generalize hσ1 : pI (pI σ (w + 13) 0 (SI σ (w + 23) i)) (w + 13) 1 c = σ1
  generalize hρ1 : pI (pI ρ (Y + 8) 100 (SI ρ (Y + 1) (440 + 2 * i))) (Y + 8) 112 c = ρ1
  have fP : FrP w σ σ1 := by rw [← hσ1]; exact FrP_p (FrP_p FrP_0 (by omega)) (by omega)
  have fQ : FrQ Y ρ ρ1 := by rw [← hρ1]; exact FrQ_p (FrQ_p FrQ_0 (by omega)) (by omega)
  have fQ8 : ∀ x, x ≠ Y + 8 → SI ρ1 x = SI ρ x := fun x hx => by rw [← hρ1, SI_pI, up2_ne hx, SI_pI, up2_ne hx]
  have hW1 := FrP_L fP hW
  have hY1 := FrQ_L fQ hY
  have hT1 := FrPQ_T fP fQ hwX hT
  have eS : SI ρ1 (Y + 1) = SI ρ (Y + 1) := fQ8 (Y + 1) (by omega)
  have hnm : nmOK 3 (SI σ1 (w + 13)) (fun v => SI ρ1 (Y + 8) (ix v)) := by
    refine Or.inr (Or.inr (Or.inr ⟨rfl, ?_, ?_⟩))
    · show _ = SI ρ1 (Y + 8) 100
      rw [← hσ1, ← hρ1, SI_pI, up2_nj (by decide), SI_pI, up2_s, SI_pI, up2_nj (by decide), SI_pI, up2_s]
      exact q4 i hi
    · show _ = SI ρ1 (Y + 8) 112
      rw [← hσ1, ← hρ1, SI_pI, up2_s, SI_pI, up2_s]
  have eMod : f_Model_worthOf Y (nI i) true ρ = if cntT (SI ρ (Y + 1)) 0 3 nt < 0 then (0, true, ρ1) else f_Model_worked Y (cntT (SI ρ (Y + 1)) 0 3 nt) true ρ1 := by
    obtain ⟨ec, -⟩ := e_countsM hY hnt t3 0 3
    unfold f_Model_worthOf
    simp only [cK_of (kY_0 hY), Bool.and_true, ec, bd_, lt_]
    refine (lp_cnt (σ := ρ) nq (fun k => decide (SI ρ (Y + 1) (440 + 2 * k) = SI ρ (Y + 1) (440 + 2 * i))) (fun x => if cntT (SI ρ (Y + 1)) 0 3 nt < 0 then (0, true, pI (pI ρ (Y + 8) 100 (SI ρ (Y + 1) (440 + 2 * i))) (Y + 8) 112 x) else f_Model_worked Y (cntT (SI ρ (Y + 1)) 0 3 nt) true (pI (pI ρ (Y + 8) 100 (SI ρ (Y + 1) (440 + 2 * i))) (Y + 8) 112 x)) (by omega) (fun L k x hk => ?_) (fun L x => ?_)).trans ?_
    · unfold b_Model_worthOf_12
      simp only [lt_, rY_0 hY, show ix (7 : Int32) = 7 from rfl, q3, cK_of (kY_0 hY), cYk hY 7 (v := 7) rfl (by decide), Bool.and_true, if_pos (show nI k < nI nq from nI_lt hk (by omega)), show (440 : Int32) + 2 * nI k = nI (440 + 2 * k) from ar2 440 2 k, show (440 : Int32) + 2 * nI i = nI (440 + 2 * i) from ar2 440 2 i, ix_nI (show 440 + 2 * k < 2 ^ 31 by omega), ix_nI (show 440 + 2 * i < 2 ^ 31 by omega), cY hY (show 440 + 2 * k < 3210 by omega), cY hY (show 440 + 2 * i < 3210 by omega), decide_eq_true_eq]
      split <;> rfl
    · have hY2 : LayY Y (pI (pI ρ (Y + 8) 100 (SI ρ (Y + 1) (440 + 2 * i))) (Y + 8) 112 x) := FrQ_L (FrQ_p (FrQ_p FrQ_0 (by omega)) (by omega)) hY
      unfold b_Model_worthOf_12
      simp only [lt_, bd_, SR_pI, cK_pI, cA_pI, rY_0 hY, rY_19 hY, show ix (7 : Int32) = 7 from rfl, q3, cK_of (kY_0 hY), cYk hY 7 (v := 7) rfl (by decide), Bool.and_true, if_neg (nI_nlt (Nat.le_refl nq) (by omega)), show (440 : Int32) + 2 * nI i = nI (440 + 2 * i) from ar2 440 2 i, ix_nI (show 440 + 2 * i < 2 ^ 31 by omega), cY hY (show 440 + 2 * i < 3210 by omega), show ix (100 : Int32) = 100 from rfl, show ix (112 : Int32) = 112 from rfl, show cA ρ (Y + 8) 21 100 = true from cA_of (i := 100) (kY_8 hY) (nY_8 hY) (by decide) (by decide), show cA ρ (Y + 8) 21 112 = true from cA_of (i := 112) (kY_8 hY) (nY_8 hY) (by decide) (by decide)]
    · rw [hc', hρ1]
  rcases e_answer hX0 hW1 hwX hY1 hT1 hnt (by rw [eS]; exact t3) 0 3 0 hnm with ⟨e1, e2⟩ | ⟨k, hk, e1, ⟨τ, e2, f2⟩, ρ', e3, f3⟩
  · rw [eS] at e1 e2
    refine ⟨0, σ1, ρ1, e2, ?_, FrW_0, fQ, fun x h1 h2 => fQ8 x h1⟩
    rw [eMod, e1, if_pos (by decide)]
  · rw [eS] at e1 e2 e3
    refine ⟨_, τ, ρ', e2, ?_, f2, FrQ_t fQ (FrQ_m f3), fun x h1 h2 => by rw [f3.2.2.2.2.2.2 x h2, fQ8 x h1]⟩
    rw [eMod, e1, if_neg (nI_pos (by omega))]
    exact e3
end GR
