/-! rows of pictures: the reference's -/
section AL5
variable {α β : Type} {X Y w : Nat} {σ ρ : Sto} {S : Nat → Int32}
theorem lp_exAU {γ : Type} {body : γ → (β → Int32 → Bool → Sto → Rs α) → β → Int32 → Bool → Sto → Rs α} {bad : β → Int32 → Bool → Sto → Rs α} (N : Nat) (P : Nat → β → Sto → Prop) (K : γ → β → Sto → Rs α) (hN : N < 69999)
    (hstep : ∀ i a τ, i < N → P i a τ → ∃ a' τ', P (i + 1) a' τ' ∧ ∀ g L, body g L a (nI i) true τ = L a' (nI i + 1) true τ') (hexit : ∀ g L a τ, P N a τ → body g L a (nI N) true τ = K g a τ) (a : β) (τ : Sto) (h0 : P 0 a τ) :
    ∃ a' τ', P N a' τ' ∧ ∀ g, lp_ (body g) bad fuel_ a 0 true τ = K g a' τ' := by
  have key : ∀ n, ∀ i a τ, i ≤ N → N - i < n → P i a τ → ∃ a' τ', P N a' τ' ∧ ∀ g, lp_ (body g) bad n a (nI i) true τ = K g a' τ' := by
    intro n
    induction n with
    | zero => exact fun i a τ _ h _ => absurd h (Nat.not_lt_zero _)
    | succ n ih =>
      intro i a τ hi hn hp
      by_cases hlt : i < N
      · obtain ⟨a1, τ1, p1, e1⟩ := hstep i a τ hlt hp
        obtain ⟨a2, τ2, p2, e2⟩ := ih (i + 1) a1 τ1 hlt (by omega) p1
        refine ⟨a2, τ2, p2, fun g => ?_⟩
        rw [lp_S, e1, show nI i + 1 = nI (i + 1) from nI_1 i]
        exact e2 g
      · have e : i = N := by omega
        subst e
        exact ⟨a, τ, hp, fun g => by rw [lp_S]; exact hexit g _ a τ hp⟩
  exact key fuel_ 0 a τ (Nat.zero_le _) (by show N - 0 < 70000; omega) h0
def FrB (Y : Nat) (ρ τ : Sto) : Prop := Shn τ = Shn ρ ∧ Stk τ = Stk ρ ∧ Sln τ = Sln ρ ∧ SR τ = SR ρ ∧ SL τ = SL ρ ∧ Scs τ = Scs ρ ∧ ∀ x, ¬ (Y + 15 ≤ x ∧ x ≤ Y + 18) → SI τ x = SI ρ x
theorem FrB_0 : FrB Y ρ ρ := ⟨rfl, rfl, rfl, rfl, rfl, rfl, fun _ _ => rfl⟩
theorem FrB_p {a j : Nat} {v : Int32} {τ : Sto} (h : FrB Y ρ τ) (ha : Y + 15 ≤ a ∧ a ≤ Y + 18) : FrB Y ρ (pI τ a j v) :=
  ⟨by rw [Shn_pI, h.1], by rw [Stk_pI, h.2.1], by rw [Sln_pI, h.2.2.1], by rw [SR_pI, h.2.2.2.1], by rw [SL_pI, h.2.2.2.2.1], by rw [Scs_pI, h.2.2.2.2.2.1], fun x hx => by rw [SI_pI, up2_ne (by omega), h.2.2.2.2.2.2 x hx]⟩
theorem FrB_t {τ υ : Sto} (h : FrB Y ρ τ) (g : FrB Y τ υ) : FrB Y ρ υ :=
  ⟨g.1.trans h.1, g.2.1.trans h.2.1, g.2.2.1.trans h.2.2.1, g.2.2.2.1.trans h.2.2.2.1, g.2.2.2.2.1.trans h.2.2.2.2.1, g.2.2.2.2.2.1.trans h.2.2.2.2.2.1, fun x hx => (g.2.2.2.2.2.2 x hx).trans (h.2.2.2.2.2.2 x hx)⟩
theorem M_follows (hY : LayY Y ρ) (hS : SI ρ (Y + 1) = S) {n a b : Nat} {v : Int32} (hn : n ≤ 20) (ha : a < n) (hb : b < n) : (fwP S v n a b ∧ f_Model_follows Y (nI a) (nI b) v true ρ = (1, true, ρ)) ∨ (¬ fwP S v n a b ∧ f_Model_follows Y (nI a) (nI b) v true ρ = (0, true, ρ)) := by
  have e : f_Model_follows Y (nI a) (nI b) v true ρ = if 0 < S (520 + 2 * b) - S (520 + 2 * a) then (if S (521 + 2 * b) - S (521 + 2 * a) < 0 then (0, true, ρ) else if v * (S (520 + 2 * b) - S (520 + 2 * a)) < S (521 + 2 * b) - S (521 + 2 * a) then (0, true, ρ) else (1, true, ρ)) else (0, true, ρ) := by
    have j1 : nI (520 + 2 * a) + 1 = nI (521 + 2 * a) := by rw [nI_p1]; congr 1; omega
    have j2 : nI (520 + 2 * b) + 1 = nI (521 + 2 * b) := by rw [nI_p1]; congr 1; omega
    unfold f_Model_follows
    rw [lt_, lt_, lt_, show (520 : Int32) + 2 * nI a = nI (520 + 2 * a) from ar2 520 2 a, show (520 : Int32) + 2 * nI b = nI (520 + 2 * b) from ar2 520 2 b, j1, j2, rY_0 hY, ix_nI (show 520 + 2 * a < 2 ^ 31 by omega), ix_nI (show 520 + 2 * b < 2 ^ 31 by omega), ix_nI (show 521 + 2 * a < 2 ^ 31 by omega), ix_nI (show 521 + 2 * b < 2 ^ 31 by omega), hS, cK_of (kY_0 hY), cY hY (show 520 + 2 * a < 3210 by omega), cY hY (show 520 + 2 * b < 3210 by omega), cY hY (show 521 + 2 * a < 3210 by omega), cY hY (show 521 + 2 * b < 3210 by omega)]
    rfl
  rw [e]
  by_cases c : 0 < S (520 + 2 * b) - S (520 + 2 * a)
  · rw [if_pos c]
    by_cases d : S (521 + 2 * b) - S (521 + 2 * a) < 0
    · rw [if_pos d]
      exact Or.inr ⟨fun z => z.1.2.1 d, rfl⟩
    · rw [if_neg d]
      by_cases f : v * (S (520 + 2 * b) - S (520 + 2 * a)) < S (521 + 2 * b) - S (521 + 2 * a)
      · rw [if_pos f]
        exact Or.inr ⟨fun z => z.1.2.2 f, rfl⟩
      · rw [if_neg f]
        exact Or.inl ⟨⟨⟨c, d, f⟩, ha, hb⟩, rfl⟩
  · rw [if_neg c]
    exact Or.inr ⟨fun z => c z.1.1, rfl⟩
/-- the picture of the latest day that is not found yet -/
def slP (S : Nat → Int32) (F : Nat → Int32) (k : Nat) (a : Int32) : Prop := (a = -1 ∧ ∀ j, j < k → F j ≠ 0) ∨ ∃ m, m < k ∧ a = nI m ∧ F m = 0 ∧ ∀ j, j < k → F j = 0 → (S (520 + 2 * j)).toInt ≤ (S (520 + 2 * m)).toInt
/-- the four rows as a picture is begun -/
def bgA (Y : Nat) (S : Nat → Int32) (m : Nat) (τ : Sto) : Sto := pI (pI (pI (pI τ (Y + 18) m 1) (Y + 15) m 1) (Y + 16) m (S (521 + 2 * m))) (Y + 17) m (-1)
theorem M_sel (hY : LayY Y ρ) (hS : SI ρ (Y + 1) = S) {n i : Nat} {v : Int32} (hn : n ≤ 20) (a9 : S 9 = nI n) (hun : ∃ k, k < n ∧ SI ρ (Y + 18) k = 0) : ∃ m, m < n ∧ SI ρ (Y + 18) m = 0 ∧ (∀ j, j < n → SI ρ (Y + 18) j = 0 → (S (520 + 2 * j)).toInt ≤ (S (520 + 2 * m)).toInt) ∧ ∀ L23, lp_ (b_Model_findRows_39 Y v (nI i) L23) (fun (x3 : Int32) (x4 : Int32) (b : Bool) (σ : Sto) => ((), false, σ)) fuel_ (-1) 0 true ρ = lp_ (b_Model_findRows_150 Y v (nI i) (nI m) L23) (fun (x4 : Int32) (b : Bool) (σ : Sto) => ((), false, σ)) fuel_ 0 true (bgA Y S m ρ) := by
  obtain ⟨a, τ, ⟨k1, k2⟩, e⟩ := lp_exAU (body := fun (g : Int32 → Bool → Sto → Rs Unit) => b_Model_findRows_39 Y v (nI i) g) (bad := fun (x3 : Int32) (x4 : Int32) (b : Bool) (σ : Sto) => ((), false, σ)) n (fun k a τ => τ = ρ ∧ slP S (SI ρ (Y + 18)) k a) (fun g a τ => b_Model_findRows_39 Y v (nI i) g (fun _ _ _ _ => ((), false, ρ)) a (nI n) true ρ) (by omega)
    (fun k a τ hk ⟨q1, q2⟩ => by
      subst q1
      have e1 : (520 : Int32) + 2 * nI k = nI (520 + 2 * k) := ar2 520 2 k
      have pre : ∀ g L, b_Model_findRows_39 Y v (nI i) g L a (nI k) true τ = (if SI τ (Y + 18) k = 0 then (if a < 0 then L (nI k) (nI k + 1) true τ else if S (ix ((520 : Int32) + 2 * a)) < S (520 + 2 * k) then L (nI k) (nI k + 1) (true && cA τ (Y + 1) 21 ((520 : Int32) + 2 * a)) τ else L a (nI k + 1) (true && cA τ (Y + 1) 21 ((520 : Int32) + 2 * a)) τ) else L a (nI k + 1) true τ) := fun g L => by
        unfold b_Model_findRows_39
        rw [rY_0 hY, show ix (9 : Int32) = 9 from rfl, hS, a9, if_pos (nI_lt hk (by omega)), lt_, lt_, lt_, e1, rY_30 hY, ix_nI (show k < 2 ^ 31 by omega), ix_nI (show 520 + 2 * k < 2 ^ 31 by omega), cK_of (kY_0 hY), cYk hY 9 (v := 9) rfl (by decide), cA_of (kY_18 hY) (nY_18 hY) (show k < 20 by omega) (by decide), cY hY (show 520 + 2 * k < 3210 by omega)]
        by_cases c : SI τ (Y + 18) k = 0
        · rw [if_pos c, if_pos c]
          by_cases d : a < 0
          · rw [if_pos d, if_pos d]
            rfl
          · rw [if_neg d, if_neg d]
            by_cases f : S (ix ((520 : Int32) + 2 * a)) < S (520 + 2 * k)
            · rw [if_pos f, if_pos f]
              simp only [Bool.and_true, lt_]
            · rw [if_neg f, if_neg f]
              simp only [Bool.and_true, lt_]
        · rw [if_neg c, if_neg c]
          rfl
      by_cases c : SI τ (Y + 18) k = 0
      · rcases q2 with ⟨h1, h2⟩ | ⟨m, h1, h2, h3, h4⟩
        · refine ⟨nI k, τ, ⟨rfl, Or.inr ⟨k, by omega, rfl, c, fun j hj hf => ?_⟩⟩, fun g L => ?_⟩
          · by_cases z : j = k
            · rw [z]; exact Int.le_refl _
            · exact absurd hf (h2 j (by omega))
          · show b_Model_findRows_39 Y v (nI i) g L a (nI k) true τ = _
            rw [pre, if_pos c, h1, if_pos (show (-1 : Int32) < 0 by decide)]
        · subst h2
          have em : (520 : Int32) + 2 * nI m = nI (520 + 2 * m) := ar2 520 2 m
          by_cases d : S (520 + 2 * m) < S (520 + 2 * k)
          · refine ⟨nI k, τ, ⟨rfl, Or.inr ⟨k, by omega, rfl, c, fun j hj hf => ?_⟩⟩, fun g L => ?_⟩
            · have d' := Int32.lt_iff_toInt_lt.mp d
              by_cases z : j = k
              · rw [z]; exact Int.le_refl _
              · have := h4 j (by omega) hf
                omega
            · show b_Model_findRows_39 Y v (nI i) g L (nI m) (nI k) true τ = _
              rw [pre, if_pos c, if_neg (nI_pos (by omega)), em, ix_nI (show 520 + 2 * m < 2 ^ 31 by omega), if_pos d, cY hY (show 520 + 2 * m < 3210 by omega)]
              rfl
          · refine ⟨nI m, τ, ⟨rfl, Or.inr ⟨m, by omega, rfl, h3, fun j hj hf => ?_⟩⟩, fun g L => ?_⟩
            · rw [Int32.lt_iff_toInt_lt] at d
              by_cases z : j = k
              · rw [z]; omega
              · exact h4 j (by omega) hf
            · show b_Model_findRows_39 Y v (nI i) g L (nI m) (nI k) true τ = _
              rw [pre, if_pos c, if_neg (nI_pos (by omega)), em, ix_nI (show 520 + 2 * m < 2 ^ 31 by omega), if_neg d, cY hY (show 520 + 2 * m < 3210 by omega)]
              rfl
      · refine ⟨a, τ, ⟨rfl, ?_⟩, fun g L => ?_⟩
        · rcases q2 with ⟨h1, h2⟩ | ⟨m, h1, h2, h3, h4⟩
          · refine Or.inl ⟨h1, fun j hj => ?_⟩
            by_cases z : j = k
            · rw [z]; exact c
            · exact h2 j (by omega)
          · refine Or.inr ⟨m, by omega, h2, h3, fun j hj hf => ?_⟩
            by_cases z : j = k
            · rw [z] at hf; exact absurd hf c
            · exact h4 j (by omega) hf
        · show b_Model_findRows_39 Y v (nI i) g L a (nI k) true τ = _
          rw [pre, if_neg c])
    (fun g L a τ ⟨q1, q2⟩ => by
      subst q1
      show b_Model_findRows_39 Y v (nI i) g L a (nI n) true τ = _
      unfold b_Model_findRows_39
      rw [rY_0 hY, show ix (9 : Int32) = 9 from rfl, hS, a9, if_neg (nI_nlt (Nat.le_refl n) (by omega)), if_neg (nI_nlt (Nat.le_refl n) (by omega))])
    (-1) ρ ⟨rfl, Or.inl ⟨rfl, fun j hj => absurd hj (Nat.not_lt_zero _)⟩⟩
  subst k1
  rcases k2 with ⟨h1, h2⟩ | ⟨m, h1, h2, h3, h4⟩
  · obtain ⟨k, hk, hk2⟩ := hun
    exact absurd hk2 (h2 k hk)
  · subst h2
    refine ⟨m, h1, h3, h4, fun L23 => ?_⟩
    refine (e L23).trans ?_
    have im : ix (nI m) = m := ix_nI (by omega)
    have j1 : (520 : Int32) + 2 * nI m + 1 = nI (521 + 2 * m) := by rw [show (520 : Int32) + 2 * nI m = nI (520 + 2 * m) from ar2 520 2 m, nI_p1]; congr 1; omega
    unfold b_Model_findRows_39 bgA
    rw [rY_0 hY, show ix (9 : Int32) = 9 from rfl, hS, a9, if_neg (nI_nlt (Nat.le_refl n) (by omega)), lt_, rY_30 hY, im, show (1 : Int32) &&& 1 = 1 by decide, cK_of (kY_0 hY), cYk hY 9 (v := 9) rfl (by decide), cA_of (kY_18 hY) (nY_18 hY) (show m < 20 by omega) (by decide)]
    have hy1 : LayY Y (pI τ (Y + 18) m 1) := LayY_c hY Stk_pI Sln_pI SR_pI
    have s1 : SI (pI τ (Y + 18) m 1) (Y + 1) = S := by rw [SI_pI, up2_ne (by omega), hS]
    generalize pI τ (Y + 18) m 1 = τ1 at *
    rw [lt_, rY_27 hy1, cK_of (kY_0 hy1), cA_of (kY_15 hy1) (nY_15 hy1) (show m < 20 by omega) (by decide)]
    have hy2 : LayY Y (pI τ1 (Y + 15) m 1) := LayY_c hy1 Stk_pI Sln_pI SR_pI
    have s2 : SI (pI τ1 (Y + 15) m 1) (Y + 1) = S := by rw [SI_pI, up2_ne (by omega), s1]
    generalize pI τ1 (Y + 15) m 1 = τ2 at *
    rw [lt_, rY_28 hy2, rY_0 hy2, j1, ix_nI (show 521 + 2 * m < 2 ^ 31 by omega), s2, cK_of (kY_0 hy2), cY hy2 (show 521 + 2 * m < 3210 by omega), cA_of (kY_16 hy2) (nY_16 hy2) (show m < 20 by omega) (by decide)]
    have hy3 : LayY Y (pI τ2 (Y + 16) m (S (521 + 2 * m))) := LayY_c hy2 Stk_pI Sln_pI SR_pI
    generalize pI τ2 (Y + 16) m (S (521 + 2 * m)) = τ3 at *
    rw [lt_, rY_29 hy3, cK_of (kY_0 hy3), cA_of (kY_17 hy3) (nY_17 hy3) (show m < 20 by omega) (by decide), lt_]
    rfl
end AL5
