/-! a day: boxes given on -/
section BX
variable {α β : Type} {X Y w : Nat} {σ σ' ρ ρ' : Sto}
theorem lp_ex2B {A B : Type} {body : (A → Int32 → Bool → Sto → Rs α) → A → Int32 → Bool → Sto → Rs α} {bad : A → Int32 → Bool → Sto → Rs α} {body' : (B → Int32 → Bool → Sto → Rs β) → B → Int32 → Bool → Sto → Rs β} {bad' : B → Int32 → Bool → Sto → Rs β} (N : Nat) (P : Nat → A → B → Sto → Sto → Prop) (K : A → Sto → Rs α) (K' : B → Sto → Rs β) (hN : N < 69999)
    (hstep : ∀ i a b τ υ, i < N → P i a b τ υ → ∃ a' b' τ' υ', P (i + 1) a' b' τ' υ' ∧ (∀ L, body L a (nI i) true τ = L a' (nI i + 1) true τ') ∧ ∀ L, body' L b (nI i) true υ = L b' (nI i + 1) true υ') (hexit : ∀ L a b τ υ, P N a b τ υ → body L a (nI N) true τ = K a τ) (hexit' : ∀ L a b τ υ, P N a b τ υ → body' L b (nI N) true υ = K' b υ) (a : A) (b : B) (τ υ : Sto) (h0 : P 0 a b τ υ) :
    ∃ a' b' τ' υ', P N a' b' τ' υ' ∧ lp_ body bad fuel_ a 0 true τ = K a' τ' ∧ lp_ body' bad' fuel_ b 0 true υ = K' b' υ' := by
  have key : ∀ n, ∀ i a b τ υ, i ≤ N → N - i < n → P i a b τ υ → ∃ a' b' τ' υ', P N a' b' τ' υ' ∧ lp_ body bad n a (nI i) true τ = K a' τ' ∧ lp_ body' bad' n b (nI i) true υ = K' b' υ' := by
    intro n
    induction n with
    | zero => exact fun i a b τ υ _ h _ => absurd h (Nat.not_lt_zero _)
    | succ n ih =>
      intro i a b τ υ hi hn hp
      rw [lp_S, lp_S]
      by_cases hlt : i < N
      · obtain ⟨a1, b1, τ1, υ1, p1, e1, e2⟩ := hstep i a b τ υ hlt hp
        rw [e1, e2, show nI i + 1 = nI (i + 1) from nI_1 i]
        exact ih (i + 1) a1 b1 τ1 υ1 hlt (by omega) p1
      · have e : i = N := by omega
        subst e
        exact ⟨a, b, τ, υ, hp, hexit _ a b τ υ hp, hexit' _ a b τ υ hp⟩
  exact key fuel_ 0 a b τ υ (Nat.zero_le _) (by show N - 0 < 70000; omega) h0
/-- only boxes' states differ -/
def BC (w : Nat) (σ τ : Sto) : Prop := Shn τ = Shn σ ∧ Stk τ = Stk σ ∧ Sln τ = Sln σ ∧ SR τ = SR σ ∧ SL τ = SL σ ∧ Scs τ = Scs σ ∧ ∀ x, x ≠ w + 20 → SI τ x = SI σ x
def BR (Y : Nat) (ρ υ : Sto) : Prop := Shn υ = Shn ρ ∧ Stk υ = Stk ρ ∧ Sln υ = Sln ρ ∧ SR υ = SR ρ ∧ SL υ = SL ρ ∧ Scs υ = Scs ρ ∧ (∀ x, x ≠ Y + 1 → SI υ x = SI ρ x) ∧ ∀ j, ¬ (340 ≤ j ∧ j < 440 ∧ (j - 340) % 5 = 4) → SI υ (Y + 1) j = SI ρ (Y + 1) j
theorem BC_0 : BC w σ σ := ⟨rfl, rfl, rfl, rfl, rfl, rfl, fun _ _ => rfl⟩
theorem BR_0 : BR Y ρ ρ := ⟨rfl, rfl, rfl, rfl, rfl, rfl, fun _ _ => rfl, fun _ _ => rfl⟩
theorem BC_p {τ : Sto} {j : Nat} {v : Int32} (h : BC w σ τ) : BC w σ (pI τ (w + 20) j v) :=
  ⟨by rw [Shn_pI, h.1], by rw [Stk_pI, h.2.1], by rw [Sln_pI, h.2.2.1], by rw [SR_pI, h.2.2.2.1], by rw [SL_pI, h.2.2.2.2.1], by rw [Scs_pI, h.2.2.2.2.2.1], fun x hx => by rw [SI_pI, up2_ne hx, h.2.2.2.2.2.2 x hx]⟩
theorem BR_p {υ : Sto} {k : Nat} {v : Int32} (h : BR Y ρ υ) (hk : k < 20) : BR Y ρ (pI υ (Y + 1) (344 + 5 * k) v) :=
  ⟨by rw [Shn_pI, h.1], by rw [Stk_pI, h.2.1], by rw [Sln_pI, h.2.2.1], by rw [SR_pI, h.2.2.2.1], by rw [SL_pI, h.2.2.2.2.1], by rw [Scs_pI, h.2.2.2.2.2.1], fun x hx => by rw [SI_pI, up2_ne hx, h.2.2.2.2.2.2.1 x hx], fun j hj => by rw [SI_pI, up2_nj (by omega), h.2.2.2.2.2.2.2 j hj]⟩
theorem BC_C {τ : Sto} (h : BC w σ τ) : FrC w σ τ := ⟨h.1, h.2.1, h.2.2.1, h.2.2.2.1, h.2.2.2.2.1, h.2.2.2.2.2.1, fun x hx => h.2.2.2.2.2.2 x (by omega), fun j _ => by rw [h.2.2.2.2.2.2 w (by omega)], fun j _ => by rw [h.2.2.2.2.2.2 (w + 11) (by omega)]⟩
theorem BR_R {υ : Sto} (h : BR Y ρ υ) : FrR Y ρ υ := ⟨h.1, h.2.1, h.2.2.1, h.2.2.2.1, h.2.2.2.2.1, h.2.2.2.2.2.1, fun x _ b _ _ => h.2.2.2.2.2.2.1 x b, fun j _ => by rw [h.2.2.2.2.2.2.1 Y (by omega)], fun j hj => h.2.2.2.2.2.2.2 j (fun z => hj (by unfold dy; omega))⟩
theorem DayI_b {τ υ : Sto} (h : DayI X Y w σ ρ) (hC : BC w σ τ) (hR : BR Y ρ υ) (hB : rB τ w (SI υ (Y + 1))) : DayI X Y w τ υ :=
  DayI_mk h (BC_C hC) (BR_R hR) (by rw [hC.2.2.2.2.2.2 w (by omega), hR.2.2.2.2.2.2.2 0 (by omega)]; exact h.2.2.2.2.2.1) hB (rW_c h.2.2.2.2.2.2.2.2.1 (fun a ha => hC.2.2.2.2.2.2 a (by omega)) (fun j hj => hR.2.2.2.2.2.2.2 j (by omega)))
/-- a box's state, written on both sides -/
theorem rB_p {np nb k : Nat} {v : Int32} (hp : np ≤ 16) (p4 : SI ρ (Y + 1) 2 = nI np) (h : rB σ w (SI ρ (Y + 1))) (hn : nb ≤ 20) (b3 : SI ρ (Y + 1) 6 = nI nb) (hk : k < nb) (hv : bd v 0 2) : rB (pI σ (w + 20) k v) w (SI (pI ρ (Y + 1) (344 + 5 * k) v) (Y + 1)) := by
  obtain ⟨nb', q1, q2, q3, q4⟩ := h
  have e : nb' = nb := (nI_eq (by omega) (by omega)).mp (q3.symm.trans b3)
  subst e
  have hS : ∀ j, j ≠ 344 + 5 * k → SI (pI ρ (Y + 1) (344 + 5 * k) v) (Y + 1) j = SI ρ (Y + 1) j := fun j hj => by rw [SI_pI, up2_nj hj]
  have hσ : ∀ x, x ≠ w + 20 → SI (pI σ (w + 20) k v) x = SI σ x := fun x hx => by rw [SI_pI, up2_ne hx]
  refine ⟨nb', q1, by rw [hσ _ (by omega)]; exact q2, by rw [hS 6 (by omega)]; exact q3, fun i hi => ?_⟩
  obtain ⟨x0, x1, x2, x3, x4, x5, x6, x7, x8, x9, x10, x11, x12⟩ := q4 i hi
  rw [hσ (w + 16) (by omega), hσ (w + 17) (by omega), hσ (w + 18) (by omega), hσ (w + 19) (by omega), hS (340 + 5 * i) (by omega), hS (341 + 5 * i) (by omega), hS (342 + 5 * i) (by omega), hS (343 + 5 * i) (by omega), hS 2 (by omega), hS 5 (by omega)]
  refine ⟨x0, x1, x2, x3, ?_, x5, x6, x7, x8, x9, x10, ?_, ?_⟩
  · by_cases e : i = k
    · rw [e, SI_pI, up2_s, SI_pI, up2_s]
    · rw [SI_pI, up2_nj e, hS _ (by omega)]; exact x4
  · by_cases e : i = k
    · rw [e, SI_pI, up2_s]; exact hv
    · rw [hS _ (by omega)]; exact x11
  · obtain ⟨j, hj, ej⟩ := in_nat p4 (by omega) x7 (Int32.le_of_lt x8)
    rw [ej, ix_nI (show j < 2 ^ 31 by omega)] at x12 ⊢
    rw [hS _ (by omega)]
    exact x12
end BX
