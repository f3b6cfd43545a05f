/-! what belongs together stays so where nothing that it speaks of has changed -/
section RC
variable {σ σ' : Sto} {w X : Nat} {S S' : Nat → Int32}
theorem rDay_c (h : rDay σ w S) (hσ : SI σ' w = SI σ w) (hS : S' 0 = S 0) : rDay σ' w S' := by
  unfold rDay at h ⊢
  rw [hσ, hS]
  exact h
theorem rG_c (h : rG σ w S) (hσ : ∀ a, w + 1 ≤ a → a ≤ w + 10 → SI σ' a = SI σ a) (hS : ∀ j, (1 ≤ j ∧ j ≤ 3) ∨ (11 ≤ j ∧ j ≤ 13) ∨ (30 ≤ j ∧ j < 124) → S' j = S j) : rG σ' w S' := by
  obtain ⟨np, nf, h1, h2, h3, h4, h5, h6, h7, h8, h9, h10, h11, h12⟩ := h
  have q1 := hS 1 (by omega)
  have q2 := hS 2 (by omega)
  have q3 := hS 3 (by omega)
  have a1 := hσ (w + 1) (by omega) (by omega)
  have a2 := hσ (w + 2) (by omega) (by omega)
  have a3 := hσ (w + 3) (by omega) (by omega)
  have a4 := hσ (w + 4) (by omega) (by omega)
  have a5 := hσ (w + 5) (by omega) (by omega)
  have a6 := hσ (w + 6) (by omega) (by omega)
  have a7 := hσ (w + 7) (by omega) (by omega)
  have a8 := hσ (w + 8) (by omega) (by omega)
  have a9 := hσ (w + 9) (by omega) (by omega)
  have a10 := hσ (w + 10) (by omega) (by omega)
  refine ⟨np, nf, h1, h2, by rw [a1]; exact h3, by rw [q2]; exact h4, by rw [a1]; exact h5, by rw [q3]; exact h6, by rw [a1, q1]; exact h7, by rw [q1]; exact h8, fun k hk => ?_, fun j k hj hk e => ?_, fun k hk => ?_, fun k k1 k2 => ?_⟩
  · rw [a2, a3, a4, a5, q1, hS (30 + 4 * k) (by omega), hS (31 + 4 * k) (by omega), hS (32 + 4 * k) (by omega), hS (33 + 4 * k) (by omega)]
    exact h9 k hk
  · rw [hS (31 + 4 * j) (by omega), hS (31 + 4 * k) (by omega)] at e
    exact h10 j k hj hk e
  · rw [a7, a8, a9, a10, q1, hS (100 + 4 * k) (by omega), hS (101 + 4 * k) (by omega), hS (102 + 4 * k) (by omega), hS (103 + 4 * k) (by omega)]
    exact h11 k hk
  · rw [a6, hS (10 + k) (by omega)]
    exact h12 k k1 k2
theorem rQ_c (h : rQ σ w S) (hσ : ∀ a, w + 21 ≤ a → a ≤ w + 24 → SI σ' a = SI σ a) (hS : ∀ j, j = 7 ∨ (14 ≤ j ∧ j < 21) ∨ (440 ≤ j ∧ j < 472) → S' j = S j) : rQ σ' w S' := by
  obtain ⟨nq, h1, h2, h3, h4, h5⟩ := h
  refine ⟨nq, h1, by rw [hσ (w + 21) (by omega) (by omega)]; exact h2, by rw [hS 7 (by omega)]; exact h3, fun k hk => ?_, fun k hk => ?_⟩
  · rw [hσ (w + 23) (by omega) (by omega), hσ (w + 24) (by omega) (by omega), hS (440 + 2 * k) (by omega), hS (441 + 2 * k) (by omega)]
    exact h4 k hk
  · rw [hσ (w + 22) (by omega) (by omega), hS (14 + k) (by omega)]
    exact h5 k hk
theorem rS_c (h : rS σ w S) (hσ : ∀ a, w + 28 ≤ a → a ≤ w + 31 → SI σ' a = SI σ a) (hS : ∀ j, j = 8 ∨ j = 10 ∨ (480 ≤ j ∧ j < 516) → S' j = S j) (h2 : S 2 ≤ S' 2) : rS σ' w S' := by
  obtain ⟨g1, g2, nr, h1, h3, h4, h5⟩ := h
  refine ⟨by rw [hσ (w + 28) (by omega) (by omega), hS 10 (by omega)]; exact g1, by rw [hS 10 (by omega)]; exact g2, nr, h1, by rw [hσ (w + 28) (by omega) (by omega)]; exact h3, by rw [hS 8 (by omega)]; exact h4, fun k hk => ?_⟩
  rw [hσ (w + 29) (by omega) (by omega), hσ (w + 30) (by omega) (by omega), hσ (w + 31) (by omega) (by omega), hS (480 + 3 * k) (by omega), hS (481 + 3 * k) (by omega), hS (482 + 3 * k) (by omega)]
  obtain ⟨b1, b2, b3, b4, b5, b6, b7, b8⟩ := h5 k hk
  exact ⟨b1, b2, b3, b4, Int32.lt_of_lt_of_le b5 h2, b6, Int32.lt_of_lt_of_le b7 h2, b8⟩
theorem rA_c (h : rA σ w S) (hσ : ∀ a, w + 35 ≤ a → a ≤ w + 37 → SI σ' a = SI σ a) (hS : ∀ j, j = 1 ∨ j = 9 ∨ (520 ≤ j ∧ j < 560) → S' j = S j) : rA σ' w S' := by
  obtain ⟨np, h1, h2, h3, h4⟩ := h
  refine ⟨np, h1, by rw [hσ (w + 35) (by omega) (by omega)]; exact h2, by rw [hS 9 (by omega)]; exact h3, fun k hk => ?_⟩
  rw [hσ (w + 36) (by omega) (by omega), hσ (w + 37) (by omega) (by omega), hS (520 + 2 * k) (by omega), hS (521 + 2 * k) (by omega), hS 1 (by omega)]
  exact h4 k hk
theorem rB_c (h : rB σ w S) {np : Nat} (hp : np ≤ 16) (hp2 : S 2 = nI np) (hσ : ∀ a, w + 15 ≤ a → a ≤ w + 20 → SI σ' a = SI σ a) (hS : ∀ j, j = 6 ∨ (340 ≤ j ∧ j < 440) → S' j = S j) (hk30 : ∀ k, k < np → S' (30 + 4 * k) = S (30 + 4 * k)) (h2 : S 2 ≤ S' 2) (h5 : S 5 ≤ S' 5) : rB σ' w S' := by
  obtain ⟨nb, h1, h3, h4, h6⟩ := h
  refine ⟨nb, h1, by rw [hσ (w + 15) (by omega) (by omega)]; exact h3, by rw [hS 6 (by omega)]; exact h4, fun k hk => ?_⟩
  rw [hσ (w + 16) (by omega) (by omega), hσ (w + 17) (by omega) (by omega), hσ (w + 18) (by omega) (by omega), hσ (w + 19) (by omega) (by omega), hσ (w + 20) (by omega) (by omega), hS (340 + 5 * k) (by omega), hS (341 + 5 * k) (by omega), hS (342 + 5 * k) (by omega), hS (343 + 5 * k) (by omega), hS (344 + 5 * k) (by omega)]
  obtain ⟨b1, b2, b3, b4, b5, b6, b7, b8, b9, b10, b11, b12, b13⟩ := h6 k hk
  refine ⟨b1, b2, b3, b4, b5, b6, Int32.lt_of_lt_of_le b7 h5, b8, Int32.lt_of_lt_of_le b9 h2, b10, b11, b12, ?_⟩
  obtain ⟨j, hj, hj2⟩ := in_nat hp2 (by omega) b8 (Int32.le_of_lt b9)
  have hjn : j < np := by
    rw [hj2, hp2] at b9
    exact (nI_ltI (by omega) (by omega)).mp b9
  rw [hj2] at b13 ⊢
  rw [ix_nI (by omega)] at b13 ⊢
  rw [hk30 j hjn]
  exact b13
theorem rW1_c {a r : Nat} (h : rW1 σ a S r) (hσ : SI σ' a = SI σ a) (hS : ∀ j, j = 1 ∨ (r ≤ j ∧ j ≤ r + 18) → S' j = S j) : rW1 σ' a S' r := by
  unfold rW1 at h ⊢
  rw [hσ, hS 1 (by omega), hS r (by omega), hS (r + 1) (by omega), hS (r + 2) (by omega), hS (r + 3) (by omega), hS (r + 4) (by omega), hS (r + 5) (by omega), hS (r + 6) (by omega), hS (r + 7) (by omega), hS (r + 8) (by omega), hS (r + 9) (by omega), hS (r + 10) (by omega), hS (r + 11) (by omega), hS (r + 12) (by omega), hS (r + 13) (by omega), hS (r + 15) (by omega), hS (r + 16) (by omega), hS (r + 17) (by omega), hS (r + 18) (by omega)]
  exact h
theorem rW_c (h : rW σ w S) (hσ : ∀ a, a = w ∨ (w + 43 ≤ a ∧ a ≤ w + 52) → SI σ' a = SI σ a) (hS : ∀ j, j = 1 ∨ j = 5 ∨ (130 ≤ j ∧ j < 330) → S' j = S j) : rW σ' w S' := by
  obtain ⟨nw, h1, h2, h3, h4⟩ := h
  exact ⟨nw, h1, by rw [hσ w (by omega)]; exact h2, by rw [hS 5 (by omega)]; exact h3, fun k hk => rW1_c (h4 k hk) (hσ _ (by omega)) (fun j hj => hS j (by omega))⟩
theorem pileOK_c {r : Nat} : ∀ {n h : Nat}, (∀ j, r ≤ j → j < r + 2 * n → S' j = S j) → pileOK S r n h → pileOK S' r n h
  | 0, _, _, e => e
  | n + 1, h, hS, e => by
    obtain ⟨g, e1, e2⟩ := e
    refine ⟨g, pileOK_c (fun j h1 h2 => hS j h1 (by omega)) e1, ?_⟩
    rw [hS (r + 2 * n) (by omega) (by omega), hS (r + 2 * n + 1) (by omega) (by omega)]
    exact e2
theorem rT1_c {a r : Nat} (h : rT1 σ a S r) (ha : Stk σ' a = Stk σ a) (hi : SI σ' a = SI σ a) (hr : SR σ' a = SR σ a) (hk : Stk σ' (SR σ a 4) = Stk σ (SR σ a 4)) (hl : Sln σ' (SR σ a 4) = Sln σ (SR σ a 4)) (hi2 : SI σ' (SR σ a 4) = SI σ (SR σ a 4)) (hS : ∀ j, r ≤ j → j < r + 200 → S' j = S j) : rT1 σ' a S' r := by
  obtain ⟨g1, g2, g3, g4, g5, g6, g7, g8, n, h1, h2, h3, h4, h5, h6⟩ := h
  unfold rT1
  rw [ha, hi, hr, hk, hl, hi2, hS r (by omega) (by omega), hS (r + 1) (by omega) (by omega), hS (r + 2) (by omega) (by omega), hS (r + 3) (by omega) (by omega), hS (r + 4) (by omega) (by omega)]
  refine ⟨g1, g2, g3, g4, g5, g6, g7, g8, n, h1, h2, h3, h4, fun k hk => ?_, pileOK_c (fun j j1 j2 => hS j (by omega) (by omega)) h6⟩
  rw [hS (r + 5 + 2 * k) (by omega) (by omega), hS (r + 6 + 2 * k) (by omega) (by omega)]
  exact h5 k hk
/-- texts stay where the class's own ints alone were written -/
theorem rT_c (h : rT X σ w S) (h0 : Shn σ' = Shn σ) (h1 : Stk σ' = Stk σ) (h2 : Sln σ' = Sln σ) (h3 : SR σ' = SR σ) (h4 : ∀ a, a = w + 11 ∨ X + 173 ≤ a → SI σ' a = SI σ a) (hS : ∀ j, j = 4 ∨ (600 ≤ j ∧ j < 3000) → S' j = S j) : rT X σ' w S' := by
  obtain ⟨nt, g1, g2, g3, g4, g5⟩ := h
  refine ⟨nt, g1, by rw [h4 (w + 11) (by omega)]; exact g2, by rw [hS 4 (by omega)]; exact g3, fun k hk => ?_, fun k hk => ?_⟩
  · rw [h0, h1, h3]
    exact g4 k hk
  · obtain ⟨b1, b2, b3, b4, b5⟩ := g5 k hk
    rw [h0, h3]
    exact ⟨b1, b2, b3, b4, rT1_c b5 (by rw [h1]) (h4 _ (by omega)) (by rw [h3]) (by rw [h1]) (by rw [h2]) (h4 _ (by omega)) (fun j j1 j2 => hS j (by omega))⟩
theorem LayT_c {tk tr : List (Nat × Nat × Nat)} (h : LayT tk tr w σ) (h1 : Stk σ' = Stk σ) (h2 : Sln σ' = Sln σ) (h3 : SR σ' = SR σ) : LayT tk tr w σ' := by
  unfold LayT
  rw [h1, h2, h3]
  exact h
theorem LayX_c (h : LayX X σ) (h1 : Stk σ' = Stk σ) (h2 : Sln σ' = Sln σ) (h3 : SR σ' = SR σ) : LayX X σ' :=
  ⟨LayT_c h.1 h1 h2 h3, LayT_c h.2.1 h1 h2 h3, LayT_c h.2.2.1 h1 h2 h3, LayT_c h.2.2.2 h1 h2 h3⟩
/-- a world that nobody wrote -/
theorem RWd_c (h : RWd X σ w S) (h0 : Shn σ' = Shn σ) (h1 : Stk σ' = Stk σ) (h2 : Sln σ' = Sln σ) (h3 : SR σ' = SR σ) (h4 : ∀ a, (w ≤ a ∧ a ≤ w + 52) ∨ X + 173 ≤ a → SI σ' a = SI σ a) (hS : ∀ j, j < 3010 → S' j = S j) : RWd X σ' w S' := by
  obtain ⟨g1, g2, g3, g4, g5, g6, g7, g8⟩ := h
  obtain ⟨np, nf, hp, -, -, hp2, -⟩ := id g2
  exact ⟨rDay_c g1 (h4 _ (by omega)) (hS 0 (by omega)), rG_c g2 (fun a _ _ => h4 a (by omega)) (fun j hj => hS j (by omega)), rQ_c g3 (fun a _ _ => h4 a (by omega)) (fun j hj => hS j (by omega)), rS_c g4 (fun a _ _ => h4 a (by omega)) (fun j hj => hS j (by omega)) (by rw [hS 2 (by omega)]; exact Int32.le_refl _), rA_c g5 (fun a _ _ => h4 a (by omega)) (fun j hj => hS j (by omega)), rB_c g6 hp hp2 (fun a _ _ => h4 a (by omega)) (fun j hj => hS j (by omega)) (fun k hk => hS _ (by omega)) (by rw [hS 2 (by omega)]; exact Int32.le_refl _) (by rw [hS 5 (by omega)]; exact Int32.le_refl _), rW_c g7 (fun a _ => h4 a (by omega)) (fun j hj => hS j (by omega)), rT_c g8 h0 h1 h2 h3 (fun a ha => h4 a (by omega)) (fun j hj => hS j (by omega))⟩
end RC
