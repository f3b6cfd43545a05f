/-! texts: what belongs together stays so when the heap grows -/
section TXC
variable {X Y w : Nat} {σ σ' ρ ρ' : Sto} {S S' : Nat → Int32}
theorem LayT_g {tk tr : List (Nat × Nat × Nat)} (h : LayT tk tr w σ) (h1 : ∀ r ∈ tk, Stk σ' (w + r.1) = Stk σ (w + r.1) ∧ Sln σ' (w + r.1) = Sln σ (w + r.1)) (h2 : ∀ r ∈ tr, SR σ' (w + r.1) = SR σ (w + r.1)) : LayT tk tr w σ' :=
  ⟨fun r hr => by rw [(h1 r hr).1, (h1 r hr).2]; exact h.1 r hr, fun r hr => by rw [h2 r hr]; exact h.2 r hr⟩
theorem wK_le : ∀ r ∈ wK, r.1 ≤ 52 := by decide
theorem wR_le : ∀ r ∈ wR, r.1 ≤ 52 ∧ r.1 ≠ 12 := by decide
theorem xK_le : ∀ r ∈ xK, r.1 ≤ 172 := by decide
theorem xR_le : ∀ r ∈ xR, r.1 ≤ 172 ∧ r.1 ≠ 13 := by decide
theorem rT_g (h : rT X σ w S) (h0 : Shn σ ≤ Shn σ') (hk : ∀ x, X + 173 ≤ x → x < Shn σ → Stk σ' x = Stk σ x ∧ Sln σ' x = Sln σ x ∧ SI σ' x = SI σ x ∧ SR σ' x = SR σ x) (hr : SR σ' (w + 12) = SR σ (w + 12)) (hl : SI σ' (w + 11) 1 = SI σ (w + 11) 1) (hS : ∀ nt, S 4 = nI nt → nt ≤ 12 → ∀ j, j = 4 ∨ (600 ≤ j ∧ j < 600 + 200 * nt) → S' j = S j) : rT X σ' w S' := by
  obtain ⟨nt, g1, g2, g3, g4, g5⟩ := h
  refine ⟨nt, g1, by rw [hl]; exact g2, by rw [hS nt g3 g1 4 (Or.inl rfl)]; exact g3, fun k hk' => ?_, fun k hk' => ?_⟩
  · rw [hr]
    rcases g4 k hk' with q | ⟨q1, q2, q3⟩
    · exact Or.inl q
    · exact Or.inr ⟨q1, by omega, by rw [(hk _ q1 q2).1]; exact q3⟩
  · obtain ⟨b1, b2, b3, b4, b5⟩ := g5 k hk'
    rw [hr, (hk _ b1 b2).2.2.2]
    exact ⟨b1, by omega, b3, by omega, rT1_c b5 (hk _ b1 b2).1 (hk _ b1 b2).2.2.1 (hk _ b1 b2).2.2.2 (hk _ b3 b4).1 (hk _ b3 b4).2.1 (hk _ b3 b4).2.2.1 (fun j j1 j2 => hS nt g3 g1 j (Or.inr ⟨by omega, by omega⟩))⟩
theorem RWd_g (h : RWd X σ w S) (hI : ∀ a, w ≤ a → a ≤ w + 52 → a ≠ w + 11 → SI σ' a = SI σ a) (hS : ∀ j, j < 600 → j ≠ 4 → S' j = S j) (ht : rT X σ' w S') : RWd X σ' w S' := by
  obtain ⟨g1, g2, g3, g4, g5, g6, g7, g8⟩ := h
  obtain ⟨np, nf, hp, -, -, hp2, -⟩ := id g2
  have e2 : S 2 ≤ S' 2 := by rw [hS 2 (by omega) (by omega)]; exact Int32.le_refl _
  exact ⟨rDay_c g1 (hI _ (by omega) (by omega) (by omega)) (hS 0 (by omega) (by omega)), rG_c g2 (fun a _ _ => hI a (by omega) (by omega) (by omega)) (fun j hj => hS j (by omega) (by omega)), rQ_c g3 (fun a _ _ => hI a (by omega) (by omega) (by omega)) (fun j hj => hS j (by omega) (by omega)), rS_c g4 (fun a _ _ => hI a (by omega) (by omega) (by omega)) (fun j hj => hS j (by omega) (by omega)) e2, rA_c g5 (fun a _ _ => hI a (by omega) (by omega) (by omega)) (fun j hj => hS j (by omega) (by omega)), rB_c g6 hp hp2 (fun a _ _ => hI a (by omega) (by omega) (by omega)) (fun j hj => hS j (by omega) (by omega)) (fun k hk' => hS _ (by omega) (by omega)) e2 (by rw [hS 5 (by omega) (by omega)]; exact Int32.le_refl _), rW_c g7 (fun a _ => hI a (by omega) (by omega) (by omega)) (fun j hj => hS j (by omega) (by omega)), ht⟩
theorem REL_text (h : REL X Y σ ρ) (h0 : Shn σ ≤ Shn σ') (hk : ∀ x, x < Shn σ → Stk σ' x = Stk σ x ∧ Sln σ' x = Sln σ x ∧ SL σ' x = SL σ x) (hr : ∀ x, x < Shn σ → x ≠ X + 13 → SR σ' x = SR σ x) (hi : ∀ x, x < Shn σ → x ≠ X + 160 → x ≠ X + 162 → x ≠ X + 12 → SI σ' x = SI σ x) (hc : Scs σ' = Scs σ)
    (k1 : Stk ρ' = Stk ρ) (k2 : Sln ρ' = Sln ρ) (k3 : SR ρ' = SR ρ) (k4 : SL ρ' = SL ρ) (k5 : ∀ x, x ≠ Y → x ≠ Y + 1 → SI ρ' x = SI ρ x) (k6 : ∀ j, j ≤ 7 ∨ 19 ≤ j → SI ρ' Y j = SI ρ Y j) (k7 : ∀ j, j < 600 → j ≠ 4 → SI ρ' (Y + 1) j = SI ρ (Y + 1) j) (k8 : SI ρ' Y 8 = nI 0) (k9 : SI σ' (X + 160) 1 = nI 0) (ht : rT X σ' (X + 1) (SI ρ' (Y + 1))) : REL X Y σ' ρ' := by
  obtain ⟨g1, g2, g3, g4, g5, g6, g7, g8, g9, g10⟩ := h
  refine ⟨g1, by omega, ⟨?_, ?_, ?_, ?_⟩, LayY_c g4 k1 k2 k3, by rw [hc]; exact g5, RWd_g g6 (fun a a1 a2 a3 => hi a (by omega) (by omega) (by omega) (by omega)) k7 ht, ?_, ⟨0, by omega, k9, k8, fun k hk' => absurd hk' (Nat.not_lt_zero _)⟩, rSh_c g9 (fun a a1 a2 => ⟨hi a (by omega) (by omega) (by omega) (by omega), (hk a (by omega)).2.2⟩) (k5 _ (by omega) (by omega)) (k5 _ (by omega) (by omega)) (by rw [k4]), rTell_c g10 (by rw [hi X (by omega) (by omega) (by omega) (by omega)]) (hi _ (by omega) (by omega) (by omega) (by omega)) (k6 33 (by omega)) (k5 _ (by omega) (by omega))⟩
  · exact LayT_g g3.1 (fun r h1 => by have := xK_le r h1; exact ⟨(hk _ (by omega)).1, (hk _ (by omega)).2.1⟩) (fun r h1 => by have := xR_le r h1; exact hr _ (by omega) (by omega))
  · exact LayT_g g3.2.1 (fun r h1 => by have := wK_le r h1; exact ⟨(hk _ (by omega)).1, (hk _ (by omega)).2.1⟩) (fun r h1 => by have := wR_le r h1; exact hr _ (by omega) (by omega))
  · exact LayT_g g3.2.2.1 (fun r h1 => by have := wK_le r h1; exact ⟨(hk _ (by omega)).1, (hk _ (by omega)).2.1⟩) (fun r h1 => by have := wR_le r h1; exact hr _ (by omega) (by omega))
  · exact LayT_g g3.2.2.2 (fun r h1 => by have := wK_le r h1; exact ⟨(hk _ (by omega)).1, (hk _ (by omega)).2.1⟩) (fun r h1 => by have := wR_le r h1; exact hr _ (by omega) (by omega))
  · rw [hi X (by omega) (by omega) (by omega) (by omega), k6 3 (by omega), k5 (Y + 2) (by omega) (by omega)]
    rcases g7 with q | ⟨z1, z2, z3⟩
    · exact Or.inl q
    · refine Or.inr ⟨z1, z2, RWd_g z3 (fun a a1 a2 a3 => hi a (by omega) (by omega) (by omega) (by omega)) (fun _ _ _ => rfl) ?_⟩
      exact rT_g z3.2.2.2.2.2.2.2 h0 (fun x x1 x2 => ⟨(hk x x2).1, (hk x x2).2.1, hi x x2 (by omega) (by omega) (by omega), hr x x2 (by omega)⟩) (hr _ (by omega) (by omega)) (by rw [hi (X + 54 + 11) (by omega) (by omega) (by omega) (by omega)]) (fun _ _ _ _ _ => rfl)
/-- a new text -/
theorem e_textFor {h κ m : Nat} {x1 x2 : Int32} {τ : Sto} (t1 : Stk τ h = 8) (t2 : SR τ h 8 = h + 2) (t3 : Stk τ (h + 2) = 21) (t4 : Sln τ (h + 2) = 96) (t5 : SI τ h 7 = nI κ) (t6 : SI τ h 9 = nI m) (hm : m < 96) (hh : h + 2 < Shn τ) : ∃ υ, f_Tape_textFor h x1 x2 true τ = (Shn τ, true, υ) ∧ Shn υ = Shn τ + 2 ∧ (∀ x, x < Shn τ → Stk υ x = Stk τ x ∧ Sln υ x = Sln τ x ∧ SL υ x = SL τ x ∧ SI υ x = SI τ x ∧ SR υ x = SR τ x) ∧ Scs υ = Scs τ ∧ Stk υ (Shn τ) = 9 ∧ SI υ (Shn τ) 0 = nI κ ∧ SI υ (Shn τ) 1 = x1 ∧ SI υ (Shn τ) 2 = x2 ∧ SI υ (Shn τ) 3 = SI τ h 10 ∧ SR υ (Shn τ) 4 = Shn τ + 1 ∧ Stk υ (Shn τ + 1) = 21 ∧ Sln υ (Shn τ + 1) = m ∧ ∀ j, j < m → SI υ (Shn τ + 1) j = SI τ (h + 2) j := by
  generalize hz : Shn τ = z at *
  have hz1 : Shn (nC τ 9 0) = z + 1 := by rw [Shn_nC, hz]
  have a1 : Stk (nC τ 9 0) h = 8 := by rw [Stk_nC, hz, up1_ne' (by omega)]; exact t1
  have a2 : SR (nC τ 9 0) h 8 = h + 2 := by rw [SR_nC, hz, up1_ne' (by omega)]; exact t2
  have a3 : Stk (nC τ 9 0) (h + 2) = 21 := by rw [Stk_nC, hz, up1_ne' (by omega)]; exact t3
  have a4 : Sln (nC τ 9 0) (h + 2) = 96 := by rw [Sln_nC, hz, up1_ne' (by omega)]; exact t4
  have a5 : SI (nC τ 9 0) h = SI τ h := by rw [SI_nC, hz, up1_ne' (by omega)]
  have a6 : SI (nC τ 9 0) (h + 2) = SI τ (h + 2) := by rw [SI_nC, hz, up1_ne' (by omega)]
  have a9 : Stk (nC τ 9 0) z = 9 := by rw [Stk_nC, hz, up1_s]
  have b3 : Stk (nC (nC τ 9 0) 21 m) (h + 2) = 21 := by rw [Stk_nC, hz1, up1_ne' (by omega)]; exact a3
  have b4 : Sln (nC (nC τ 9 0) 21 m) (h + 2) = 96 := by rw [Sln_nC, hz1, up1_ne' (by omega)]; exact a4
  have b6 : SI (nC (nC τ 9 0) 21 m) (h + 2) = SI τ (h + 2) := by rw [SI_nC, hz1, up1_ne' (by omega)]; exact a6
  have b7 : Stk (nC (nC τ 9 0) 21 m) (z + 1) = 21 := by rw [Stk_nC, hz1, up1_s]
  have b8 : Sln (nC (nC τ 9 0) 21 m) (z + 1) = m := by rw [Sln_nC, hz1, up1_s]
  have b9 : Stk (nC (nC τ 9 0) 21 m) z = 9 := by rw [Stk_nC, hz1, up1_ne' (by omega)]; exact a9
  have emn : mnI (nI 96) (nI m) = nI m := by
    rw [mnI_n (by decide) (by omega)]
    congr 1
    omega
  have ecp : cpc (nC (nC τ 9 0) 21 m) (h + 2) (z + 1) 21 0 0 (nI m) = true := by
    unfold cpc
    rw [cK_of b3, cK_of b7, b4, b8, decide_eq_false (nI_pos (show m < 2 ^ 31 by omega)), ix_nI (show m < 2 ^ 31 by omega), show ix (0 : Int32) = 0 from rfl, decide_eq_true (show 0 + m ≤ 96 by omega), decide_eq_true (show 0 + m ≤ m by omega)]
    rfl
  generalize hτ3 : rI (nC (nC τ 9 0) 21 m) (z + 1) (va_cpy (SI (nC (nC τ 9 0) 21 m) (h + 2)) (SI (nC (nC τ 9 0) 21 m) (z + 1)) 0 0 m) = τ3
  have ec : f_Arrays_copyOf (h + 2) (nI m) true (nC τ 9 0) = (z + 1, true, τ3) := by
    unfold f_Arrays_copyOf
    rw [a4, show Int32.ofNat 96 = nI 96 from rfl, if_neg (fun y => absurd ((nI_eq (by omega) (by decide)).mp y) (by omega)), lt_, lt_, hz1, ix_nI (show m < 2 ^ 31 by omega), b4, show Int32.ofNat 96 = nI 96 from rfl, emn, ix_nI (show m < 2 ^ 31 by omega), show ix (0 : Int32) = 0 from rfl, hτ3, lt_, ecp, cK_of a3, cK_of b3, decide_eq_false (nI_pos (show m < 2 ^ 31 by omega)), decide_eq_true (show m ≤ 96 by omega)]
    rfl
  have c9 : Stk τ3 z = 9 := by rw [← hτ3]; exact b9
  refine ⟨pR (pI (pI (pI (pI τ3 z 0 (nI κ)) z 1 x1) z 2 x2) z 3 (SI τ h 10)) z 4 (z + 1), ?_, ?_, ?_, ?_, ?_, ?_, ?_, ?_, ?_, ?_, ?_, ?_, ?_⟩
  · unfold f_Tape_textFor
    rw [lt_, a2, a5, t5, t6, hz, cK_of a1]
    simp only [Bool.and_true]
    rw [ec, bd_]
    dsimp only
    unfold f_Text_init
    rw [cK_of c9]
    simp only [lt_, bd_, cK_pI, cK_of c9, Bool.and_true, decide_eq_false (show ¬ z = 0 by omega), Bool.not_false]
  · show Shn τ3 = z + 2
    rw [← hτ3]
    show Shn (nC (nC τ 9 0) 21 m) = z + 2
    rw [Shn_nC, hz1]
  · intro x hx
    have e1 : Stk τ3 x = Stk τ x := by
      rw [← hτ3]
      show Stk (nC (nC τ 9 0) 21 m) x = _
      rw [Stk_nC, hz1, up1_ne' (by omega), Stk_nC, hz, up1_ne' (by omega)]
    have e2 : Sln τ3 x = Sln τ x := by
      rw [← hτ3]
      show Sln (nC (nC τ 9 0) 21 m) x = _
      rw [Sln_nC, hz1, up1_ne' (by omega), Sln_nC, hz, up1_ne' (by omega)]
    have e3 : SL τ3 x = SL τ x := by
      rw [← hτ3]
      show SL (nC (nC τ 9 0) 21 m) x = _
      rw [SL_nC, hz1, up1_ne' (by omega), SL_nC, hz, up1_ne' (by omega)]
    have e4 : SI τ3 x = SI τ x := by
      rw [← hτ3, SI_rI, up1_ne' (by omega), SI_nC, hz1, up1_ne' (by omega), SI_nC, hz, up1_ne' (by omega)]
    have e5 : SR τ3 x = SR τ x := by
      rw [← hτ3]
      show SR (nC (nC τ 9 0) 21 m) x = _
      rw [SR_nC, hz1, up1_ne' (by omega), SR_nC, hz, up1_ne' (by omega)]
    refine ⟨e1, e2, e3, ?_, ?_⟩
    · rw [SI_pR, SI_pI, up2_ne (by omega), SI_pI, up2_ne (by omega), SI_pI, up2_ne (by omega), SI_pI, up2_ne (by omega)]
      exact e4
    · rw [SR_pR, up2_ne (by omega)]
      exact e5
  · show Scs τ3 = Scs τ
    rw [← hτ3]
    rfl
  · exact c9
  · rw [SI_pR, SI_pI, up2_nj (by decide), SI_pI, up2_nj (by decide), SI_pI, up2_nj (by decide), SI_pI, up2_s]
  · rw [SI_pR, SI_pI, up2_nj (by decide), SI_pI, up2_nj (by decide), SI_pI, up2_s]
  · rw [SI_pR, SI_pI, up2_nj (by decide), SI_pI, up2_s]
  · rw [SI_pR, SI_pI, up2_s]
  · rw [SR_pR, up2_s]
  · show Stk τ3 (z + 1) = 21
    rw [← hτ3]
    exact b7
  · show Sln τ3 (z + 1) = m
    rw [← hτ3]
    exact b8
  · intro j hj
    rw [SI_pR, SI_pI, up2_ne (by omega), SI_pI, up2_ne (by omega), SI_pI, up2_ne (by omega), SI_pI, up2_ne (by omega), ← hτ3, SI_rI, up1_s, pk_cpy_in (Nat.zero_le _) (by omega), b6, Nat.zero_add, Nat.sub_zero]
end TXC
