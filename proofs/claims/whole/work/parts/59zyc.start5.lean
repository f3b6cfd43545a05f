/-! the start: the reference's object; both belong together -/
section SR5
variable {w Y : Nat} {σ : Sto}
theorem inbc_1_3210 : inb (1 : Int32) 3210 = true := by decide
theorem inbc_10_3210 : inb (10 : Int32) 3210 = true := by decide
def opsM : List (Nat × Nat × Nat × Nat × Int32) := [(0, 21, 3210, 0, 0), (1, 0, 0, 1, 0), (0, 21, 3210, 0, 0), (1, 0, 1, 2, 0), (0, 21, 3210, 0, 0), (1, 0, 2, 3, 0), (0, 21, 4, 0, 0), (1, 0, 4, 4, 0), (0, 21, 4, 0, 0), (1, 0, 5, 5, 0), (0, 23, 96, 0, 0), (1, 0, 6, 6, 0), (0, 21, 96, 0, 0), (1, 0, 7, 7, 0), (0, 21, 128, 0, 0), (1, 0, 19, 8, 0), (0, 21, 100, 0, 0), (1, 0, 20, 9, 0), (0, 21, 16, 0, 0), (1, 0, 22, 10, 0), (0, 21, 16, 0, 0), (1, 0, 23, 11, 0), (0, 21, 16, 0, 0), (1, 0, 24, 12, 0), (0, 21, 16, 0, 0), (1, 0, 25, 13, 0), (0, 21, 16, 0, 0), (1, 0, 26, 14, 0), (0, 21, 20, 0, 0), (1, 0, 27, 15, 0), (0, 21, 20, 0, 0), (1, 0, 28, 16, 0), (0, 21, 20, 0, 0), (1, 0, 29, 17, 0), (0, 24, 20, 0, 0), (1, 0, 30, 18, 0), (0, 23, 24, 0, 0), (1, 0, 31, 19, 0), (0, 21, 60, 0, 0), (1, 0, 32, 20, 0), (0, 21, 60, 0, 0), (1, 0, 34, 21, 0), (2, 1, 1, 0, 400), (2, 1, 10, 0, 10)]
set_option maxHeartbeats 4000000 in
theorem i_Model (hs : Shn σ = w + 1) (hk : Stk σ w = 13) (hw : ¬ w = 0) : f_Model_init w true σ = lp_ (b_Model_init_194 w) (fun (x1 : Int32) (b : Bool) (σ : Sto) => ((), false, σ)) fuel_ 0 true (rns w opsM σ) := by
  simp only [f_Model_init, opsM, lt_, bd_, Shn_nC, Shn_pR, Shn_pI, hs, Nat.add_assoc, Nat.reduceAdd, Nat.add_zero, rn_0, rn_1, rn_2, rn_n, ixc_0, ixc_1, ixc_2, ixc_3, ixc_4, ixc_5, ixc_6, ixc_7, ixc_8, ixc_9, ixc_10, ixc_12, ixc_16, ixc_17, ixc_20, ixc_24, ixc_60, ixc_96, ixc_100, ixc_128, ixc_3210, cK, cA, Stk_nC, Stk_pR, Stk_pI, Sln_nC, Sln_pR, Sln_pI, SR_pR, SR_pI, SR_nC, up1, up2, ltc_4, ltc_6, ltc_7, ltc_10, ltc_12, ltc_16, ltc_17, ltc_20, ltc_24, ltc_60, ltc_96, ltc_100, ltc_128, ltc_3210, inbc_1_3210, inbc_10_3210, hk, hw, Nat.le_refl, decide_true, decide_false, Bool.not_false, Bool.and_true, Bool.and_self, Bool.true_and, Bool.false_or, Bool.or_true, if_true, if_false, Nat.add_left_cancel_iff, Nat.left_eq_add, Nat.add_eq_left, Nat.reduceEqDiff, reduceIte, Nat.succ_ne_zero, Nat.one_ne_zero]
def lw1 : Nat → Nat → List (Nat × Nat × Nat × Nat × Int32)
  | 0, _ => []
  | d + 1, i => (2, 1, 14 + i, 0, 1) :: lw1 d (i + 1)
def lw2 : Nat → Nat → List (Nat × Nat × Nat × Nat × Int32)
  | 0, _ => []
  | d + 1, i => (2, 4, i, 0, -1) :: lw2 d (i + 1)
def lw3 : Nat → Nat → List (Nat × Nat × Nat × Nat × Int32)
  | 0, _ => []
  | d + 1, i => (2, 1, 10 + i, 0, -1) :: lw3 d (i + 1)
theorem M_l3 : ∀ d i fu τ, i + d = 4 → d < fu → LayY Y τ → lp_ (b_Model_init_238 Y) (fun (x1 : Int32) (b : Bool) (σ : Sto) => ((), false, σ)) fu (nI i) true τ = ((), true, rns Y (lw3 d i) τ) := by
  intro d
  induction d with
  | zero =>
    intro i fu τ hi hf hY
    obtain ⟨fu, rfl⟩ : ∃ z, fu = z + 1 := ⟨fu - 1, by omega⟩
    rw [lp_S, show i = 4 by omega]
    unfold b_Model_init_238
    rw [if_neg (by decide)]
    rfl
  | succ d ih =>
    intro i fu τ hi hf hY
    obtain ⟨fu, rfl⟩ : ∃ z, fu = z + 1 := ⟨fu - 1, by omega⟩
    rw [lp_S]
    unfold b_Model_init_238
    rw [if_pos (show nI i < 4 from nI_lt (b := 4) (by omega) (by decide)), lt_, lt_, rY_0 hY, show (10 : Int32) + nI i = nI (10 + i) from nI_add 10 i, ix_nI (show 10 + i < 2 ^ 31 by omega), cK_of (kY_0 hY), cY hY (show 10 + i < 3210 by omega), nI_1]
    exact ih (i + 1) fu (pI τ (Y + 1) (10 + i) (-1)) (by omega) (by omega) (LayY_c hY rfl rfl rfl)
theorem M_l2 : ∀ d i fu τ, i + d = 4 → d < fu → LayY Y τ → lp_ (b_Model_init_218 Y) (fun (x1 : Int32) (b : Bool) (σ : Sto) => ((), false, σ)) fu (nI i) true τ = ((), true, rns Y (lw3 3 1) (rns Y (lw2 d i) τ)) := by
  intro d
  induction d with
  | zero =>
    intro i fu τ hi hf hY
    obtain ⟨fu, rfl⟩ : ∃ z, fu = z + 1 := ⟨fu - 1, by omega⟩
    rw [lp_S, show i = 4 by omega]
    unfold b_Model_init_218
    rw [if_neg (by decide), lt_]
    exact M_l3 3 1 fuel_ τ rfl (by show 3 < 70000; decide) hY
  | succ d ih =>
    intro i fu τ hi hf hY
    obtain ⟨fu, rfl⟩ : ∃ z, fu = z + 1 := ⟨fu - 1, by omega⟩
    rw [lp_S]
    unfold b_Model_init_218
    rw [if_pos (show nI i < 4 from nI_lt (b := 4) (by omega) (by decide)), lt_, lt_, rY_4 hY, ix_nI (show i < 2 ^ 31 by omega), cK_of (kY_0 hY), cA_of (kY_4 hY) (nY_4 hY) (show i < 4 by omega) (by decide), nI_1]
    exact ih (i + 1) fu (pI τ (Y + 4) i (-1)) (by omega) (by omega) (LayY_c hY rfl rfl rfl)
theorem M_l1 : ∀ d i fu τ, i + d = 7 → d < fu → LayY Y τ → lp_ (b_Model_init_194 Y) (fun (x1 : Int32) (b : Bool) (σ : Sto) => ((), false, σ)) fu (nI i) true τ = ((), true, rns Y (lw3 3 1) (rns Y (lw2 4 0) (rns Y (lw1 d i) τ))) := by
  intro d
  induction d with
  | zero =>
    intro i fu τ hi hf hY
    obtain ⟨fu, rfl⟩ : ∃ z, fu = z + 1 := ⟨fu - 1, by omega⟩
    rw [lp_S, show i = 7 by omega]
    unfold b_Model_init_194
    rw [if_neg (by decide), lt_]
    exact M_l2 4 0 fuel_ τ rfl (by show 4 < 70000; decide) hY
  | succ d ih =>
    intro i fu τ hi hf hY
    obtain ⟨fu, rfl⟩ : ∃ z, fu = z + 1 := ⟨fu - 1, by omega⟩
    rw [lp_S]
    unfold b_Model_init_194
    rw [if_pos (show nI i < 7 from nI_lt (b := 7) (by omega) (by decide)), lt_, lt_, rY_0 hY, show (14 : Int32) + nI i = nI (14 + i) from nI_add 14 i, ix_nI (show 14 + i < 2 ^ 31 by omega), cK_of (kY_0 hY), cY hY (show 14 + i < 3210 by omega), nI_1]
    exact ih (i + 1) fu (pI τ (Y + 1) (14 + i) 1) (by omega) (by omega) (LayY_c hY rfl rfl rfl)
def opsN : List (Nat × Nat × Nat × Nat × Int32) := opsM ++ (lw1 7 0 ++ (lw2 4 0 ++ lw3 3 1))
theorem layY_1 (hs : Shn σ = w + 1) (hk : Stk σ w = 13) (hn : Sln σ w = 0) (hr : ∀ j, SR σ w j = 0) : LayY w (rns w opsM σ) := lay_ops [] mK mR opsM 0 13 (by decide +kernel) (by decide +kernel) hs hk hn hr
theorem layY_0 (hs : Shn σ = w + 1) (hk : Stk σ w = 13) (hn : Sln σ w = 0) (hr : ∀ j, SR σ w j = 0) : LayY w (rns w opsN σ) := lay_ops [] mK mR opsN 0 13 (by decide +kernel) (by decide +kernel) hs hk hn hr
theorem i_Model2 (hs : Shn σ = w + 1) (hk : Stk σ w = 13) (hn : Sln σ w = 0) (hr : ∀ j, SR σ w j = 0) (hw : ¬ w = 0) : f_Model_init w true σ = ((), true, rns w opsN σ) := by
  rw [i_Model hs hk hw]
  have := M_l1 7 0 fuel_ (rns w opsM σ) rfl (by show 7 < 70000; decide) (layY_1 hs hk hn hr)
  rw [← rn_app, ← rn_app, ← rn_app] at this
  exact this
theorem n_Model (hs : Shn σ = w + 1) : Shn (rns w opsN σ) = w + 22 := by
  have := rn_hn (l := opsN) hs
  rw [show dC opsN 1 = 22 by decide +kernel] at this
  exact this
theorem ops_I (ops : List (Nat × Nat × Nat × Nat × Int32)) (hs : Shn σ = w + 1) (h0 : ∀ j, SI σ w j = 0) (i j : Nat) (v : Int32) (h : i < dC ops 1 ∧ dI i j ops 1 0 = v) : SI (rns w ops σ) (w + i) j = v := by
  have := rn_I (i := i) (y := j) (l := ops) (n := 1) (v := 0) hs (fun hi => by
    rw [show i = 0 by omega]
    exact h0 j) h.1
  rw [h.2] at this
  exact this
theorem ops_R (ops : List (Nat × Nat × Nat × Nat × Int32)) (hs : Shn σ = w + 1) (h0 : ∀ j, SR σ w j = 0) (i j : Nat) (h : i < dC ops 1 ∧ dR i j ops 1 none = none) : SR (rns w ops σ) (w + i) j = 0 := by
  have := rn_R (i := i) (y := j) (l := ops) (n := 1) (v := none) hs (fun hi => by
    rw [show i = 0 by omega]
    exact h0 j) h.1
  rw [h.2] at this
  exact this
theorem ops_L (ops : List (Nat × Nat × Nat × Nat × Int32)) (hs : Shn σ = w + 1) (h0 : ∀ j, SL σ w j = 0) (i j : Nat) (h : i < dC ops 1) : SL (rns w ops σ) (w + i) j = 0 := rn_L hs (fun hi => by
  rw [show i = 0 by omega]
  exact h0 j) h
/-- what the two sides hold at the start -/
theorem REL_0 {z : Nat} (hz : 1 ≤ z) {cs : Nat → Nat} (c1 : ∀ i, i ≤ 10 → cs i ≠ 0) (c2 : DS cs) {σ ρ : Sto} {Y : Nat} (hs : Shn σ = z + 1) (hk : Stk σ z = 12) (hn : Sln σ z = 0) (hr : ∀ j, SR σ z j = 0) (hi : ∀ j, SI σ z j = 0) (hl : ∀ j, SL σ z j = 0) (hc : Scs σ = cs)
    (gs : Shn ρ = Y + 1) (gk : Stk ρ Y = 13) (gn : Sln ρ Y = 0) (gr : ∀ j, SR ρ Y j = 0) (gi : ∀ j, SI ρ Y j = 0) (gl : ∀ j, SL ρ Y j = 0) {x : Nat} (hx : z + 173 ≤ x) : REL z Y (stn (rns z opsX σ) x) (rns Y opsN ρ) := by
  have A : ∀ i j v, (i < dC opsX 1 ∧ dI i j opsX 1 0 = v) → SI (stn (rns z opsX σ) x) (z + i) j = v := fun i j v h => ops_I opsX hs hi i j v h
  have A1 : ∀ i j v, (1 + i < dC opsX 1 ∧ dI (1 + i) j opsX 1 0 = v) → SI (stn (rns z opsX σ) x) (z + 1 + i) j = v := fun i j v h => by
    rw [Nat.add_assoc]
    exact A (1 + i) j v h
  have A0 : ∀ j v, (1 < dC opsX 1 ∧ dI 1 j opsX 1 0 = v) → SI (stn (rns z opsX σ) x) (z + 1) j = v := fun j v h => A 1 j v h
  have B : ∀ i j v, (i < dC opsN 1 ∧ dI i j opsN 1 0 = v) → SI (rns Y opsN ρ) (Y + i) j = v := fun i j v h => ops_I opsN gs gi i j v h
  have B0 : ∀ j v, (0 < dC opsN 1 ∧ dI 0 j opsN 1 0 = v) → SI (rns Y opsN ρ) Y j = v := fun j v h => B 0 j v h
  have A00 : ∀ j v, (0 < dC opsX 1 ∧ dI 0 j opsX 1 0 = v) → SI (stn (rns z opsX σ) x) z j = v := fun j v h => A 0 j v h
  have L : LayX z (rns z opsX σ) := layX_0 hs hk hn hr
  refine ⟨hz, hx, L, layY_0 gs gk gn gr, ⟨fun i h => ?_, ?_⟩, ⟨?_, ?_, ?_, ?_, ?_, ?_, ?_, ?_⟩, Or.inl ⟨?_, ?_⟩, ?_, ?_, ?_⟩
  · show Scs (rns z opsX σ) i ≠ 0
    rw [rn_cs, hc]
    exact c1 i h
  · show DS (Scs (rns z opsX σ))
    rw [rn_cs, hc]
    exact c2
  · refine ⟨?_, ?_⟩
    · rw [A0 8 0 (by decide +kernel), B 1 0 0 (by decide +kernel)]
    · rw [B 1 0 0 (by decide +kernel)]
      exact ⟨by decide, by decide⟩
  · refine ⟨0, 0, by omega, by omega, A1 1 10 (nI 0) (by decide +kernel), B 1 2 (nI 0) (by decide +kernel), A1 1 11 (nI 0) (by decide +kernel), B 1 3 (nI 0) (by decide +kernel), ?_, ?_, fun k h => absurd h (Nat.not_lt_zero _), fun j k h => absurd h (Nat.not_lt_zero _), fun k h => absurd h (Nat.not_lt_zero _), fun k h1 h2 => ?_⟩
    · rw [A1 1 9 400 (by decide +kernel), B 1 1 400 (by decide +kernel)]
    · rw [B 1 1 400 (by decide +kernel)]
      exact ⟨by decide, by decide⟩
    · have d1 : ∀ k, k < 4 → 1 ≤ k → 1 < dC opsN 1 ∧ dI 1 (10 + k) opsN 1 0 = -1 := by decide +kernel
      have d2 : ∀ k, k < 4 → 1 ≤ k → 1 + 6 < dC opsX 1 ∧ dI (1 + 6) k opsX 1 0 = -1000000005 := by decide +kernel
      exact Or.inl ⟨B 1 (10 + k) (-1) (d1 k (by omega) h1), A1 6 k NONE_ (d2 k (by omega) h1)⟩
  · refine ⟨0, by omega, A1 21 3 (nI 0) (by decide +kernel), B 1 7 (nI 0) (by decide +kernel), fun k h => absurd h (Nat.not_lt_zero _), fun k h => ?_⟩
    have d1 : ∀ k, k < 7 → 1 < dC opsN 1 ∧ dI 1 (14 + k) opsN 1 0 = 1 := by decide +kernel
    have d2 : ∀ k, k < 7 → 1 + 22 < dC opsX 1 ∧ dI (1 + 22) k opsX 1 0 = 1 := by decide +kernel
    rw [B 1 (14 + k) 1 (d1 k h)]
    exact ⟨A1 22 k 1 (d2 k h), by decide, by decide⟩
  · refine ⟨?_, ?_, 0, by omega, A1 28 4 (nI 0) (by decide +kernel), B 1 8 (nI 0) (by decide +kernel), fun k h => absurd h (Nat.not_lt_zero _)⟩
    · rw [A1 28 0 10 (by decide +kernel), B 1 10 10 (by decide +kernel)]
    · rw [B 1 10 10 (by decide +kernel)]
      exact ⟨by decide, by decide⟩
  · exact ⟨0, by omega, A1 35 2 (nI 0) (by decide +kernel), B 1 9 (nI 0) (by decide +kernel), fun k h => absurd h (Nat.not_lt_zero _)⟩
  · exact ⟨0, by omega, A1 15 5 (nI 0) (by decide +kernel), B 1 6 (nI 0) (by decide +kernel), fun k h => absurd h (Nat.not_lt_zero _)⟩
  · exact ⟨0, by omega, A0 7 (nI 0) (by decide +kernel), B 1 5 (nI 0) (by decide +kernel), fun k h => absurd h (Nat.not_lt_zero _)⟩
  · refine ⟨0, by omega, A1 11 1 (nI 0) (by decide +kernel), B 1 4 (nI 0) (by decide +kernel), fun k h => Or.inl ?_, fun k h => absurd h (Nat.not_lt_zero _)⟩
    have d1 : ∀ k, k < 12 → 1 + 12 < dC opsX 1 ∧ dR (1 + 12) k opsX 1 none = none := by decide +kernel
    have := ops_R opsX hs hr (1 + 12) k (d1 k h)
    rw [← Nat.add_assoc] at this
    exact this
  · exact A00 7 0 (by decide +kernel)
  · exact B0 3 0 (by decide +kernel)
  · exact ⟨0, by omega, A 160 1 (nI 0) (by decide +kernel), B0 8 (nI 0) (by decide +kernel), fun k h => absurd h (Nat.not_lt_zero _)⟩
  · intro k hk4
    have d1 : ∀ k, k < 4 → 164 + 2 * k < dC opsX 1 ∧ dI (164 + 2 * k) 0 opsX 1 0 = -1 := by decide +kernel
    have d2 : ∀ k, k < 4 → 164 + 2 * k < dC opsX 1 ∧ dI (164 + 2 * k) 1 opsX 1 0 = nI 0 := by decide +kernel
    have d3 : ∀ k, k < 4 → 4 < dC opsN 1 ∧ dI 4 k opsN 1 0 = -1 := by decide +kernel
    have d4 : ∀ k, k < 4 → 5 < dC opsN 1 ∧ dI 5 k opsN 1 0 = nI 0 := by decide +kernel
    have d5 : ∀ k, k < 4 → 165 + 2 * k < dC opsX 1 := by decide +kernel
    have d6 : 6 < dC opsN 1 := by decide +kernel
    rw [Nat.add_assoc, Nat.add_assoc, A (164 + 2 * k) 0 (-1) (d1 k hk4), B 4 k (-1) (d3 k hk4)]
    refine ⟨rfl, ⟨by decide, by decide⟩, 0, by omega, A (164 + 2 * k) 1 (nI 0) (d2 k hk4), B 5 k (nI 0) (d4 k hk4), fun j hj => ?_⟩
    rw [ops_L opsN gs gl 6 (24 * k + j) d6]
    exact ops_L opsX hs hl (165 + 2 * k) j (d5 k hk4)
  · exact ⟨0, by omega, A00 6 (nI 0) (by decide +kernel), B0 33 (nI 0) (by decide +kernel), fun k h => absurd h (Nat.not_lt_zero _)⟩
end SR5
