/-! a day, whole -/
section OD
variable {α β : Type} {X Y w : Nat} {σ ρ : Sto}
theorem lp_ex2C {A : Type} {body : (A → Int32 → Bool → Sto → Rs α) → A → Int32 → Bool → Sto → Rs α} {bad : A → Int32 → Bool → Sto → Rs α} {body' : (Int32 → Bool → Sto → Rs β) → Int32 → Bool → Sto → Rs β} {bad' : Int32 → Bool → Sto → Rs β} (N : Nat) (P : Nat → A → Sto → Sto → Prop) (K : A → Sto → Rs α) (K' : Sto → Rs β) (hN : N < 69999)
    (hstep : ∀ i a τ υ, i < N → P i a τ υ → ∃ a' τ' υ', P (i + 1) a' τ' υ' ∧ (∀ L, body L a (nI i) true τ = L a' (nI i + 1) true τ') ∧ ∀ L, body' L (nI i) true υ = L (nI i + 1) true υ') (hexit : ∀ L a τ υ, P N a τ υ → body L a (nI N) true τ = K a τ) (hexit' : ∀ L a τ υ, P N a τ υ → body' L (nI N) true υ = K' υ) (a : A) (τ υ : Sto) (h0 : P 0 a τ υ) :
    ∃ a' τ' υ', P N a' τ' υ' ∧ lp_ body bad fuel_ a 0 true τ = K a' τ' ∧ lp_ body' bad' fuel_ 0 true υ = K' υ' := by
  have key : ∀ n, ∀ i a τ υ, i ≤ N → N - i < n → P i a τ υ → ∃ a' τ' υ', P N a' τ' υ' ∧ lp_ body bad n a (nI i) true τ = K a' τ' ∧ lp_ body' bad' n (nI i) true υ = K' υ' := by
    intro n
    induction n with
    | zero => exact fun i a τ υ _ h _ => absurd h (Nat.not_lt_zero _)
    | succ n ih =>
      intro i a τ υ hi hn hp
      rw [lp_S, lp_S]
      by_cases hlt : i < N
      · obtain ⟨a1, τ1, υ1, p1, e1, e2⟩ := hstep i a τ υ hlt hp
        rw [e1, e2, show nI i + 1 = nI (i + 1) from nI_1 i]
        exact ih (i + 1) a1 τ1 υ1 hlt (by omega) p1
      · have e : i = N := by omega
        subst e
        exact ⟨a, τ, υ, hp, hexit _ a τ υ hp, hexit' _ a τ υ hp⟩
  exact key fuel_ 0 a τ υ (Nat.zero_le _) (by show N - 0 < 70000; omega) h0
theorem FrN_0 : FrN Y ρ ρ := FrN_r FrR_0
theorem DayI_w7 (h : DayI X Y w σ ρ) {nw : Nat} (hn : nw ≤ 10) (w3 : SI ρ (Y + 1) 5 = nI nw) : SI σ w 7 = nI nw := by
  obtain ⟨np, nf, nb, nw', nt, -, -, -, hn', -, -, -, -, -, -, -, w2, w3', -, -⟩ := DayI_nb h
  have e : nw' = nw := (nI_eq (by omega) (by omega)).mp (w3'.symm.trans w3)
  rw [w2, e]
/-- a night, both sides -/
theorem night_both (h : DayI X Y w σ ρ) {nw : Nat} (hn : nw ≤ 10) (w3 : SI ρ (Y + 1) 5 = nI nw) : ∃ a τ υ, FrC w σ τ ∧ FrN Y ρ υ ∧ DayI X Y w τ υ ∧ SI υ (Y + 1) 5 = nI nw ∧ SI υ (Y + 1) 0 = SI ρ (Y + 1) 0 ∧ (¬ SI ρ Y 21 < 0 → SI υ Y 21 = mxI (SI ρ Y 21) a) ∧ f_World_sleepAll w true σ = (a, true, τ) ∧ f_Model_night Y true ρ = ((), true, υ) := by
  obtain ⟨a, τ, υ, ⟨p1, p2, p3, p4, p5, p6⟩, e1, e2⟩ := lp_ex2C (body := b_World_sleepAll_4 w) (bad := fun (x1 : Int32) (x2 : Int32) (b : Bool) (σ : Sto) => (0, false, σ)) (body' := b_Model_night_2 Y) (bad' := fun (x1 : Int32) (b : Bool) (σ : Sto) => ((), false, σ)) nw
    (fun _ a τ υ => FrC w σ τ ∧ FrN Y ρ υ ∧ DayI X Y w τ υ ∧ SI υ (Y + 1) 5 = nI nw ∧ SI υ (Y + 1) 0 = SI ρ (Y + 1) 0 ∧ (¬ SI ρ Y 21 < 0 → SI υ Y 21 = mxI (SI ρ Y 21) a)) (fun a τ => (a, true, τ)) (fun υ => ((), true, υ)) (by omega)
    (fun i a τ υ hi ⟨q1, q2, q3, q4, q5, q6⟩ => by
      obtain ⟨a', τ', υ', r1, r2, r3, r4, r5, r6, r7, r8⟩ := sleep_both q3 hn hi q4 (¬ SI ρ Y 21 < 0) a (SI ρ Y 21) q6
      exact ⟨a', τ', υ', ⟨FrC_t q1 r1, FrN_t q2 r2, r3, r4, r5.trans q5, r6⟩, r7, r8⟩)
    (fun L a τ υ ⟨q1, q2, q3, q4, q5, q6⟩ => by
      have w2 := DayI_w7 q3 hn q4
      unfold b_World_sleepAll_4
      rw [w2, if_neg (nI_nlt (Nat.le_refl nw) (by omega)), cK_of (kW_0 q3.2.2.1)]
      rfl)
    (fun L a τ υ ⟨q1, q2, q3, q4, q5, q6⟩ => by
      have hY := q3.2.2.2.1
      unfold b_Model_night_2
      rw [rY_0 hY, show ix (5 : Int32) = 5 from rfl, q4, if_neg (nI_nlt (Nat.le_refl nw) (by omega)), cK_of (kY_0 hY), cYk hY 5 (v := 5) rfl (by decide)]
      rfl)
    0 σ ρ ⟨FrC_0, FrN_0, h, w3, rfl, fun z => by unfold mxI; rw [if_neg z]⟩
  refine ⟨a, τ, υ, p1, p2, p3, p4, p5, p6, ?_, ?_⟩
  · unfold f_World_sleepAll
    rw [lt_, lt_]
    exact e1
  · unfold f_Model_night
    rw [lt_]
    exact e2
/-- the rest of a day behind the walks -/
theorem end_both (h : DayI X Y w σ ρ) {nw : Nat} (hn : nw ≤ 10) (w3 : SI ρ (Y + 1) 5 = nI nw) : ∃ a τ υ, FrC w σ τ ∧ FrN Y ρ υ ∧ DayI X Y w τ υ ∧ SI υ (Y + 1) 0 = SI ρ (Y + 1) 0 + 1 ∧ (¬ SI ρ Y 21 < 0 → SI υ Y 21 = mxI (SI ρ Y 21) a) ∧ (∀ L, b_World_passDay_31 w L (nI nw) true σ = (a, true, τ)) ∧ ∀ L, b_Model_oneDay_77 Y L (nI nw) true ρ = ((), true, υ) := by
  obtain ⟨a, τ, υ, f1, f2, hD, w33, d0, c0, e1, e2⟩ := night_both h hn w3
  have hW := h.2.2.1
  have hY := h.2.2.2.1
  have hW2 := hD.2.2.1
  have hY2 := hD.2.2.2.1
  have h8 := hD.2.2.2.2.2.1
  have g2 : FrN Y υ (pI υ (Y + 1) 0 (SI υ (Y + 1) 0 + 1)) := ⟨Shn_pI, Stk_pI, Sln_pI, SR_pI, SL_pI, Scs_pI, fun x _ hx _ _ => by rw [SI_pI, up2_ne hx], fun j hj => by rw [SI_pI, up2_ne' (by omega)], fun j _ h0 => by rw [SI_pI, up2_nj h0]⟩
  have g1 : FrC w τ (pI τ w 8 (SI υ (Y + 1) 0 + 1)) := ⟨Shn_pI, Stk_pI, Sln_pI, SR_pI, SL_pI, Scs_pI, fun x hx => by rw [SI_pI, up2_ne (by omega)], fun j hj => by rw [SI_pI, up2_nj hj], fun j hj => by rw [SI_pI, up2_ne' (by omega)]⟩
  have hD2 : DayI X Y w (pI τ w 8 (SI υ (Y + 1) 0 + 1)) (pI υ (Y + 1) 0 (SI υ (Y + 1) 0 + 1)) := by
    obtain ⟨i1, i2, i3, i4, i5, i6, i7, i8, i9, i10⟩ := id hD
    obtain ⟨np, nf, hp, -, -, hp2, -⟩ := id i7
    have eS : ∀ j, j ≠ 0 → SI (pI υ (Y + 1) 0 (SI υ (Y + 1) 0 + 1)) (Y + 1) j = SI υ (Y + 1) j := fun j hj => by rw [SI_pI, up2_nj hj]
    have eC : ∀ x, x ≠ w → SI (pI τ w 8 (SI υ (Y + 1) 0 + 1)) x = SI τ x := fun x hx => by rw [SI_pI, up2_ne hx]
    refine ⟨i1, i2, LayT_c i3 Stk_pI Sln_pI SR_pI, LayY_c i4 Stk_pI Sln_pI SR_pI, by rw [Scs_pI]; exact i5, by rw [SI_pI, up2_s, SI_pI, up2_s], rG_c i7 (fun a _ _ => eC a (by omega)) (fun j hj => eS j (by omega)), rB_c i8 hp hp2 (fun a _ _ => eC a (by omega)) (fun j hj => eS j (by omega)) (fun k _ => eS (30 + 4 * k) (by omega)) (by rw [eS 2 (by omega)]; exact Int32.le_refl _) (by rw [eS 5 (by omega)]; exact Int32.le_refl _), ?_, rT_c2 i10 Shn_pI Stk_pI Sln_pI (by rw [SR_pI]) (fun x _ => by rw [SR_pI]) (by rw [SI_pI, up2_ne' (by omega)]) (fun a ha => eC a (by omega)) (fun j hj => eS j (by omega))⟩
    obtain ⟨nw', n1, n2, n3, n4⟩ := i9
    refine ⟨nw', n1, by rw [SI_pI, up2_nj (by decide)]; exact n2, by rw [eS 5 (by omega)]; exact n3, fun k hk => rW1_c (n4 k hk) (eC _ (by omega)) (fun j hj => eS j (by omega))⟩
  refine ⟨a, _, _, FrC_t f1 g1, FrN_t f2 g2, hD2, by rw [SI_pI, up2_s, d0], fun z => by rw [SI_pI, up2_ne' (by omega)]; exact c0 z, fun L => ?_, fun L => ?_⟩
  · unfold b_World_passDay_31
    rw [DayI_w7 h hn w3, if_neg (nI_nlt (Nat.le_refl nw) (by omega)), cK_of (kW_0 hW)]
    simp only [Bool.and_true]
    rw [e1, bd_]
    dsimp only
    rw [lt_, lt_, h8, cK_of (kW_0 hW2)]
    rfl
  · unfold b_Model_oneDay_77
    rw [rY_0 hY, show ix (5 : Int32) = 5 from rfl, w3, if_neg (nI_nlt (Nat.le_refl nw) (by omega)), cK_of (kY_0 hY), cYk hY 5 (v := 5) rfl (by decide)]
    simp only [Bool.and_true]
    rw [e2, bd_]
    dsimp only
    rw [lt_, rY_0 hY2, show ix (0 : Int32) = 0 from rfl, cK_of (kY_0 hY2), cYk hY2 0 (v := 0) rfl (by decide)]
    rfl
/-- a walker's day in both loops -/
theorem walks_both (h : DayI X Y w σ ρ) {nw k : Nat} (hn : nw ≤ 10) (hk : k < nw) (w3 : SI ρ (Y + 1) 5 = nI nw) : ∃ τ υ, FrC w σ τ ∧ FrR Y ρ υ ∧ DayI X Y w τ υ ∧ SI υ (Y + 1) 5 = nI nw ∧ (∀ L, b_World_passDay_31 w L (nI k) true σ = L (nI k + 1) true τ) ∧ ∀ L, b_Model_oneDay_77 Y L (nI k) true ρ = L (nI k + 1) true υ := by
  have hW := h.2.2.1
  have hY := h.2.2.2.1
  obtain ⟨hE, hBd, w2⟩ := DayI_k h hn hk w3
  have k10 : k < 10 := by omega
  have e5 : SI σ (w + 43 + k) 5 = SI ρ (Y + 1) (130 + 20 * k) := rE_at hE (by decide) (j := 0) rfl (by omega)
  have ew : f_Model_walks Y (nI k) true ρ = (bI (SI ρ (Y + 1) (130 + 20 * k) = 1), true, ρ) := e_walks hY (by omega)
  by_cases hs : SI ρ (Y + 1) (130 + 20 * k) = 1
  · obtain ⟨τ, υ, f1, f2, hD, w33, e1, e2⟩ := spend_both h hn hk w3 hs
    refine ⟨τ, υ, f1, f2, hD, w33, fun L => ?_, fun L => ?_⟩
    · unfold b_World_passDay_31
      rw [w2, if_pos (show nI k < nI nw from nI_lt hk (by omega)), lt_, rW_0_6 hW, ix_nI (show k < 2 ^ 31 by omega), rW_42 hW k10, e5, if_pos hs, cK_of (kW_0 hW), cA_of (kW_42 hW) (nW_42 hW) k10 (by decide), cK_of (kW_w hW k10)]
      simp only [Bool.and_true]
      rw [e1, bd_]
      rfl
    · unfold b_Model_oneDay_77
      rw [rY_0 hY, show ix (5 : Int32) = 5 from rfl, w3, if_pos (show nI k < nI nw from nI_lt hk (by omega)), cK_of (kY_0 hY), cYk hY 5 (v := 5) rfl (by decide)]
      simp only [Bool.and_true]
      rw [ew, bd_]
      dsimp only
      rw [lt_, bI_t hs, if_neg (show ¬ (1 : Int32) = 0 by decide), cK_of (kY_0 hY), Bool.and_true, e2, bd_]
      rfl
  · refine ⟨σ, ρ, FrC_0, FrR_0, h, w3, fun L => ?_, fun L => ?_⟩
    · unfold b_World_passDay_31
      rw [w2, if_pos (show nI k < nI nw from nI_lt hk (by omega)), lt_, rW_0_6 hW, ix_nI (show k < 2 ^ 31 by omega), rW_42 hW k10, e5, if_neg hs, cK_of (kW_0 hW), cA_of (kW_42 hW) (nW_42 hW) k10 (by decide), cK_of (kW_w hW k10)]
      rfl
    · unfold b_Model_oneDay_77
      rw [rY_0 hY, show ix (5 : Int32) = 5 from rfl, w3, if_pos (show nI k < nI nw from nI_lt hk (by omega)), cK_of (kY_0 hY), cYk hY 5 (v := 5) rfl (by decide)]
      simp only [Bool.and_true]
      rw [ew, bd_]
      dsimp only
      rw [lt_, bI_f hs, if_pos rfl]
      rfl
/-- a day, both sides -/
theorem day_both (h : DayI X Y w σ ρ) : ∃ a τ υ, FrC w σ τ ∧ FrN Y ρ υ ∧ DayI X Y w τ υ ∧ SI υ (Y + 1) 0 = SI ρ (Y + 1) 0 + 1 ∧ (¬ SI ρ Y 21 < 0 → SI υ Y 21 = mxI (SI ρ Y 21) a) ∧ f_World_passDay w true σ = (a, true, τ) ∧ f_Model_oneDay Y true ρ = ((), true, υ) := by
  obtain ⟨np, nf, nb, nw, nt, -, -, -, hn, -, -, -, -, -, -, -, w2, w3, -, -⟩ := DayI_nb h
  obtain ⟨τ1, υ1, ⟨p1, p2, p3, p4⟩, e1, e2⟩ := lp_ex2 (body := b_World_passDay_2 w) (bad := fun (x1 : Int32) (b : Bool) (σ : Sto) => ((0 : Int32), false, σ)) (body' := b_Model_oneDay_2 Y) (bad' := fun (x1 : Int32) (b : Bool) (σ : Sto) => ((), false, σ)) nw
    (fun _ τ υ => FrC w σ τ ∧ FrR Y ρ υ ∧ DayI X Y w τ υ ∧ SI υ (Y + 1) 5 = nI nw) (fun τ => lp_ (b_World_passDay_31 w) (fun (x1 : Int32) (b : Bool) (σ : Sto) => (0, false, σ)) fuel_ 0 true τ) (fun υ => lp_ (b_Model_oneDay_77 Y) (fun (x1 : Int32) (b : Bool) (σ : Sto) => ((), false, σ)) fuel_ 0 true υ) (by omega)
    (fun i τ υ hi ⟨q1, q2, q3, q4⟩ => by
      obtain ⟨τ', υ', r1, r2, r3, r4, r5, r6⟩ := setout_both q3 hn hi q4
      exact ⟨τ', υ', ⟨FrC_t q1 r1, FrR_t q2 r2, r3, r4⟩, r5, r6⟩)
    (fun L τ υ ⟨q1, q2, q3, q4⟩ => by
      unfold b_World_passDay_2
      rw [DayI_w7 q3 hn q4, if_neg (nI_nlt (Nat.le_refl nw) (by omega)), cK_of (kW_0 q3.2.2.1), lt_]
      rfl)
    (fun L τ υ ⟨q1, q2, q3, q4⟩ => by
      have hY := q3.2.2.2.1
      unfold b_Model_oneDay_2
      rw [rY_0 hY, show ix (5 : Int32) = 5 from rfl, q4, if_neg (nI_nlt (Nat.le_refl nw) (by omega)), cK_of (kY_0 hY), cYk hY 5 (v := 5) rfl (by decide), lt_]
      rfl)
    σ ρ ⟨FrC_0, FrR_0, h, w3⟩
  have kk : ∃ τ2 υ2, (FrC w τ1 τ2 ∧ FrR Y υ1 υ2 ∧ DayI X Y w τ2 υ2 ∧ SI υ2 (Y + 1) 5 = nI nw) ∧ lp_ (b_World_passDay_31 w) (fun (x1 : Int32) (b : Bool) (σ : Sto) => (0, false, σ)) fuel_ 0 true τ1 = b_World_passDay_31 w (fun _ _ _ => (0, false, τ2)) (nI nw) true τ2 ∧ lp_ (b_Model_oneDay_77 Y) (fun (x1 : Int32) (b : Bool) (σ : Sto) => ((), false, σ)) fuel_ 0 true υ1 = b_Model_oneDay_77 Y (fun _ _ _ => ((), false, υ2)) (nI nw) true υ2 :=
    lp_ex2 (body := b_World_passDay_31 w) (body' := b_Model_oneDay_77 Y) nw
      (fun _ τ υ => FrC w τ1 τ ∧ FrR Y υ1 υ ∧ DayI X Y w τ υ ∧ SI υ (Y + 1) 5 = nI nw) (fun τ => b_World_passDay_31 w (fun _ _ _ => (0, false, τ)) (nI nw) true τ) (fun υ => b_Model_oneDay_77 Y (fun _ _ _ => ((), false, υ)) (nI nw) true υ) (by omega)
      (fun i τ υ hi ⟨q1, q2, q3, q4⟩ => by
        obtain ⟨τ', υ', r1, r2, r3, r4, r5, r6⟩ := walks_both q3 hn hi q4
        exact ⟨τ', υ', ⟨FrC_t q1 r1, FrR_t q2 r2, r3, r4⟩, r5, r6⟩)
      (fun L τ υ ⟨q1, q2, q3, q4⟩ => by
        obtain ⟨a, τ', υ', -, -, -, -, -, r5, -⟩ := end_both q3 hn q4
        rw [r5, r5])
      (fun L τ υ ⟨q1, q2, q3, q4⟩ => by
        obtain ⟨a, τ', υ', -, -, -, -, -, -, r5⟩ := end_both q3 hn q4
        rw [r5, r5])
      τ1 υ1 ⟨FrC_0, FrR_0, p3, p4⟩
  obtain ⟨τ2, υ2, ⟨k1, k2, k3, k4⟩, e3, e4⟩ := kk
  obtain ⟨a, τ, υ, f1, f2, hD, d0, c0, e5, e6⟩ := end_both k3 hn k4
  have z0 : SI υ2 (Y + 1) 0 = SI ρ (Y + 1) 0 := by
    rw [k2.2.2.2.2.2.2.2.2 0 (by unfold dy; omega), p2.2.2.2.2.2.2.2.2 0 (by unfold dy; omega)]
  have z1 : SI υ2 Y 21 = SI ρ Y 21 := by
    rw [k2.2.2.2.2.2.2.2.1 21 (by decide), p2.2.2.2.2.2.2.2.1 21 (by decide)]
  refine ⟨a, τ, υ, FrC_t (FrC_t p1 k1) f1, FrN_t (FrN_t (FrN_r p2) (FrN_r k2)) f2, hD, by rw [d0, z0], fun z => by rw [← z1]; exact c0 (by rw [z1]; exact z), ?_, ?_⟩
  · unfold f_World_passDay
    rw [lt_]
    exact e1.trans (e3.trans (e5 _))
  · unfold f_Model_oneDay
    rw [lt_]
    exact e2.trans (e4.trans (e6 _))
end OD
