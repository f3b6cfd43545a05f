/-! check 2 -/
section CH2
variable {X Y w : Nat} {σ ρ : Sto}
/-- what days and dues leave -/
def FrK (Y i : Nat) (ρ υ : Sto) : Prop := Shn υ = Shn ρ ∧ Stk υ = Stk ρ ∧ Sln υ = Sln ρ ∧ SR υ = SR ρ ∧ SL υ = SL ρ ∧ (∀ x, x ≠ Y → x ≠ Y + 1 → x ≠ Y + 8 → x ≠ Y + 9 → x ≠ Y + 21 → SI υ x = SI ρ x) ∧ (∀ j, j ≠ 21 ∧ j ≠ 99 → SI υ Y j = SI ρ Y j) ∧ (∀ j, j < 2 * i → SI υ (Y + 21) j = SI ρ (Y + 21) j)
theorem FrK_0 {i : Nat} : FrK Y i ρ ρ := ⟨rfl, rfl, rfl, rfl, rfl, fun _ _ _ _ _ _ => rfl, fun _ _ => rfl, fun _ _ => rfl⟩
theorem FrK_t {i : Nat} {υ ψ : Sto} (h : FrK Y i ρ υ) (g : FrK Y (i + 1) υ ψ) : FrK Y i ρ ψ :=
  ⟨g.1.trans h.1, g.2.1.trans h.2.1, g.2.2.1.trans h.2.2.1, g.2.2.2.1.trans h.2.2.2.1, g.2.2.2.2.1.trans h.2.2.2.2.1, fun x a b c d e => (g.2.2.2.2.2.1 x a b c d e).trans (h.2.2.2.2.2.1 x a b c d e), fun j hj => (g.2.2.2.2.2.2.1 j hj).trans (h.2.2.2.2.2.2.1 j hj), fun j hj => (g.2.2.2.2.2.2.2 j (by omega)).trans (h.2.2.2.2.2.2.2 j hj)⟩
theorem FrK_d {i : Nat} {υ : Sto} {m f : Int32} (h : FrN Y ρ υ) : FrK Y i ρ (due2 Y i υ m f) := by
  obtain ⟨h1, h2, h3, h4, h5, h6, h7, h8, h9⟩ := h
  refine ⟨?_, ?_, ?_, ?_, ?_, fun x a b c d e => by rw [due2_x e]; exact h7 x a b c d, fun j hj => by rw [due2_x (by omega)]; exact h8 j hj, fun j hj => by rw [due2_j (by omega) (by omega), h7 (Y + 21) (by omega) (by omega) (by omega) (by omega)]⟩ <;> unfold due2
  · rw [Shn_pI, Shn_pI, h1]
  · rw [Stk_pI, Stk_pI, h2]
  · rw [Sln_pI, Sln_pI, h3]
  · rw [SR_pI, SR_pI, h4]
  · rw [SL_pI, SL_pI, h5]
theorem DayI_due {i : Nat} {m f : Int32} (h : DayI X Y w σ ρ) : DayI X Y w σ (due2 Y i ρ m f) := by
  obtain ⟨h1, h2, h3, h4, h5, h6, h7, h8, h9, h10⟩ := h
  have e : SI (due2 Y i ρ m f) (Y + 1) = SI ρ (Y + 1) := due2_x (by omega)
  refine ⟨h1, h2, h3, due2_L h4, h5, ?_, ?_, ?_, ?_, ?_⟩ <;> rw [e] <;> assumption
/-- a number told is not the one that is due, or none is told -/
def ckC (W D : Nat → Int32) (q j : Nat) : Bool := decide (¬ (j < q ∧ W j = D j))
theorem ckC_t {W D : Nat → Int32} {q j : Nat} (h : ¬ (j < q ∧ W j = D j)) : ckC W D q j = true := by unfold ckC; exact decide_eq_true h
theorem ckC_f {W D : Nat → Int32} {q j : Nat} (h1 : j < q) (h2 : W j = D j) : ¬ ckC W D q j = true := by unfold ckC; exact fun z => (of_decide_eq_true z) ⟨h1, h2⟩
/-- one of the class's steps -/
theorem ck_even {τ τ' : Sto} {a m : Int32} {n q i : Nat} (hX : LayX X τ) (hX' : LayX X τ') (hn : n ≤ 30) (hi : i < n) (hq : q ≤ 60) (ep : f_World_passDay (X + 107) true τ = (a, true, τ')) (em : f_World_milesTogether (X + 107) true τ' = (m, true, τ')) (D : Nat → Int32) (hD : D (2 * i) = m) (L : Int32 → Bool → Sto → Rs Int32) : b_Trail_check_46 X (nI n) (nI q) L (nI (2 * i)) true τ = if ckC (SI τ' (X + 172)) D q (2 * i) = true then (1 + nI (2 * i), true, τ') else L (nI (2 * i + 1)) true τ' := by
  have par : nI (2 * i) - nI (2 * i) / 2 * 2 = 0 := by
    rw [show (2 : Int32) = nI 2 from rfl, nI_mod (by omega) (by decide), Nat.mul_mod_right]
    rfl
  unfold b_Trail_check_46
  rw [show (2 : Int32) * nI n = nI (2 * n) from nI_mul 2 n, if_pos (show nI (2 * i) < nI (2 * n) from nI_lt (by omega) (by omega)), lt_]
  rw [if_pos par, rX_0_2 hX, cK_of (kX_0 hX), cK_of (kW_0 hX.2.2.2)]
  simp only [Bool.and_true, show (!decide ((2 : Int32) = 0)) = true from rfl]
  rw [ep, bd_]
  dsimp only
  rw [lt_]
  rw [if_pos par, rX_0_2 hX', cK_of (kX_0 hX'), cK_of (kW_0 hX'.2.2.2)]
  simp only [Bool.and_true]
  rw [em, bd_]
  dsimp only
  rw [lt_, lt_]
  by_cases c : 2 * i < q
  · rw [if_pos (show nI (2 * i) < nI q from nI_lt c (by omega)), rX_0_5 hX', ix_nI (show 2 * i < 2 ^ 31 by omega), cK_of (kX_0 hX'), cA_of (kX_172 hX') (nX_172 hX') (show 2 * i < 60 by omega) (by decide), ← hD]
    by_cases d : SI τ' (X + 172) (2 * i) = D (2 * i)
    · rw [if_pos d, lt_, if_neg (ckC_f c d), nI_p1]
      rfl
    · rw [if_neg d, if_pos (ckC_t (fun z => d z.2))]
      rfl
  · rw [if_neg (nI_nlt (by omega) (by omega)), if_pos (ckC_t (fun z => c z.1))]
theorem ck_odd {τ : Sto} {m : Int32} {n q i : Nat} (hX : LayX X τ) (hn : n ≤ 30) (hi : i < n) (hq : q ≤ 60) (em : f_World_foodTogether (X + 107) true τ = (m, true, τ)) (D : Nat → Int32) (hD : D (2 * i + 1) = m) (L : Int32 → Bool → Sto → Rs Int32) : b_Trail_check_46 X (nI n) (nI q) L (nI (2 * i + 1)) true τ = if ckC (SI τ (X + 172)) D q (2 * i + 1) = true then (1 + nI (2 * i + 1), true, τ) else L (nI (2 * i + 2)) true τ := by
  have par : ¬ nI (2 * i + 1) - nI (2 * i + 1) / 2 * 2 = 0 := by
    rw [show (2 : Int32) = nI 2 from rfl, nI_mod (by omega) (by decide), show (2 * i + 1) % 2 = 1 by omega]
    decide
  unfold b_Trail_check_46
  rw [show (2 : Int32) * nI n = nI (2 * n) from nI_mul 2 n, if_pos (show nI (2 * i + 1) < nI (2 * n) from nI_lt (by omega) (by omega)), lt_]
  rw [if_neg par]
  simp only [Bool.and_true, show (!decide ((2 : Int32) = 0)) = true from rfl]
  rw [lt_]
  rw [if_neg par, rX_0_2 hX, cK_of (kX_0 hX), cK_of (kW_0 hX.2.2.2)]
  simp only [Bool.and_true]
  rw [em, bd_]
  dsimp only
  rw [lt_, lt_]
  by_cases c : 2 * i + 1 < q
  · rw [if_pos (show nI (2 * i + 1) < nI q from nI_lt c (by omega)), rX_0_5 hX, ix_nI (show 2 * i + 1 < 2 ^ 31 by omega), cK_of (kX_0 hX), cA_of (kX_172 hX) (nX_172 hX) (show 2 * i + 1 < 60 by omega) (by decide), ← hD]
    by_cases d : SI τ (X + 172) (2 * i + 1) = D (2 * i + 1)
    · rw [if_pos d, lt_, if_neg (ckC_f c d), nI_p1]
      rfl
    · rw [if_neg d, if_pos (ckC_t (fun z => d z.2))]
      rfl
  · rw [if_neg (nI_nlt (by omega) (by omega)), if_pos (ckC_t (fun z => c z.1))]
/-- what the class answers -/
def ckA (n q : Nat) : Option Nat → Int32
  | some j => 1 + nI j
  | none => if 2 * n < q then 1 + nI (2 * n) else 0
theorem findI_S {c : Nat → Bool} {i n : Nat} : findI c i (n + 1) = if c i = true then some i else findI c (i + 1) n := rfl
/-- the days of a check, both sides -/
theorem ck_both {n q : Nat} (hn : n ≤ 30) (hq : q ≤ 60) (W : Nat → Int32) : ∀ k, ∀ (i : Nat) (τ υ : Sto) (fu fu' : Nat) (bad : Int32 → Bool → Sto → Rs Int32) (bad' : Int32 → Bool → Sto → Rs Int32), i + k = n → k < fu → 2 * k < fu' → LayX X τ → DayI X Y (X + 107) τ υ → SI τ (X + 172) = W → ∃ τf υf, FrC (X + 107) τ τf ∧ FrK Y i υ υf ∧ lp_ (b_Model_check_61 Y (nI n) (nI q)) bad fu (nI i) true υ = bd_ (f_Model_setAside Y (Y + 3) (Y + 1) true υf) (fun (r_17 : Unit) (b_17 : Bool) (σ_17 : Sto) => lp_ (b_Model_check_180 Y (nI n) (nI q)) (fun (x3 : Int32) (b : Bool) (σ : Sto) => (0, false, σ)) fuel_ 0 b_17 σ_17) ∧ lp_ (b_Trail_check_46 X (nI n) (nI q)) bad' fu' (nI (2 * i)) true τ = (ckA n q (findI (ckC W (SI υf (Y + 21)) q) (2 * i) (2 * k)), true, τf) := by
  intro k
  induction k with
  | zero =>
    intro i τ υ fu fu' bad bad' hk h1 h2 hX hD hW
    have e : i = n := by omega
    subst e
    have hY := hD.2.2.2.1
    refine ⟨τ, υ, FrC_0, FrK_0, ?_, ?_⟩
    · obtain ⟨fu, rfl⟩ : ∃ z, fu = z + 1 := ⟨fu - 1, by omega⟩
      rw [lp_S]
      unfold b_Model_check_61
      rw [if_neg (nI_nlt (Nat.le_refl i) (by omega)), rY_0 hY, rY_2 hY, cK_of (kY_0 hY)]
      rfl
    · obtain ⟨fu', rfl⟩ : ∃ z, fu' = z + 1 := ⟨fu' - 1, by omega⟩
      rw [lp_S]
      unfold b_Trail_check_46
      rw [show (2 : Int32) * nI i = nI (2 * i) from nI_mul 2 i, if_neg (nI_nlt (Nat.le_refl (2 * i)) (by omega))]
      show _ = (if 2 * i < q then 1 + nI (2 * i) else 0, true, τ)
      by_cases c : 2 * i < q
      · rw [if_pos c, if_pos (nI_lt c (by omega))]
      · rw [if_neg c, if_neg (nI_nlt (by omega) (by omega))]
  | succ k ih =>
    intro i τ υ fu fu' bad bad' hk h1 h2 hX hD hW
    obtain ⟨a, τ', υ', r1, r2, r3, r4, r5, r6, r7⟩ := day_both hD
    obtain ⟨np, nf, nb, nw, nt, -, -, -, hnw, -, -, -, -, -, -, -, w2, w3, -, -⟩ := DayI_nb r3
    have hY := hD.2.2.2.1
    have hY' := r3.2.2.2.1
    have hX' : LayX X τ' := LayX_c hX r1.2.1 r1.2.2.1 r1.2.2.2.1
    have hW' : SI τ' (X + 172) = W := by rw [r1.2.2.2.2.2.2.1 (X + 172) (by omega)]; exact hW
    have em := e_miles (w := X + 107) hX'.2.2.2 hnw w2
    have ef := e_foods (w := X + 107) hX'.2.2.2 hnw w2
    have sm : sumI (fun k => SI τ' (X + 107 + 43 + k) 6) nw = sumI (fun k => SI υ' (Y + 1) (131 + 20 * k)) nw := sumI_congr (fun j hj => rE_at (DayI_k r3 hnw hj w3).1 (by decide) (j := 1) rfl (by omega))
    have sf : sumI (fun k => SI τ' (X + 107 + 43 + k) 7) nw = sumI (fun k => SI υ' (Y + 1) (133 + 20 * k)) nw := sumI_congr (fun j hj => rE_at (DayI_k r3 hnw hj w3).1 (by decide) (j := 3) rfl (by omega))
    rw [sm] at em
    rw [sf] at ef
    obtain ⟨fu, rfl⟩ : ∃ z, fu = z + 1 := ⟨fu - 1, by omega⟩
    obtain ⟨fu', rfl⟩ : ∃ z, fu' = z + 2 := ⟨fu' - 2, by omega⟩
    have dl := fun L => due_loop hY' (i := i) hnw w3 (by omega) (nI n) (nI q) L
    have f0 := FrK_d (Y := Y) (i := i) (m := sumI (fun k => SI υ' (Y + 1) (131 + 20 * k)) nw) (f := sumI (fun k => SI υ' (Y + 1) (133 + 20 * k)) nw) r2
    have hDd := DayI_due (i := i) (m := sumI (fun k => SI υ' (Y + 1) (131 + 20 * k)) nw) (f := sumI (fun k => SI υ' (Y + 1) (133 + 20 * k)) nw) r3
    have dm := due2_m (Y := Y) (ρ := υ') (i := i) (m := sumI (fun k => SI υ' (Y + 1) (131 + 20 * k)) nw) (f := sumI (fun k => SI υ' (Y + 1) (133 + 20 * k)) nw)
    have df := due2_f (Y := Y) (ρ := υ') (i := i) (m := sumI (fun k => SI υ' (Y + 1) (131 + 20 * k)) nw) (f := sumI (fun k => SI υ' (Y + 1) (133 + 20 * k)) nw)
    generalize due2 Y i υ' (sumI (fun k => SI υ' (Y + 1) (131 + 20 * k)) nw) (sumI (fun k => SI υ' (Y + 1) (133 + 20 * k)) nw) = υd at *
    obtain ⟨τf, υf, t1, t2, t3, t4⟩ := ih (i + 1) τ' υd fu fu' bad bad' (by omega) (by omega) (by omega) hX' hDd hW'
    have dm' : SI υf (Y + 21) (2 * i) = sumI (fun k => SI υ' (Y + 1) (131 + 20 * k)) nw := by rw [t2.2.2.2.2.2.2.2 (2 * i) (by omega), dm]
    have df' : SI υf (Y + 21) (2 * i + 1) = sumI (fun k => SI υ' (Y + 1) (133 + 20 * k)) nw := by rw [t2.2.2.2.2.2.2.2 (2 * i + 1) (by omega), df]
    have eM : lp_ (b_Model_check_61 Y (nI n) (nI q)) bad (fu + 1) (nI i) true υ = lp_ (b_Model_check_61 Y (nI n) (nI q)) bad fu (nI (i + 1)) true υd := by
      rw [lp_S]
      generalize lp_ (b_Model_check_61 Y (nI n) (nI q)) bad fu = L
      have hY1 : LayY Y (pI υ' (Y + 21) (2 * i) 0) := LayY_c hY' Stk_pI Sln_pI SR_pI
      unfold b_Model_check_61
      rw [if_pos (nI_lt (by omega) (by omega)), cK_of (kY_0 hY), Bool.and_true, r7, bd_]
      dsimp only
      rw [show (2 : Int32) * nI i = nI (2 * i) from nI_mul 2 i, lt_, rY_34 hY', ix_nI (show 2 * i < 2 ^ 31 by omega), cK_of (kY_0 hY'), cA_of (kY_21 hY') (nY_21 hY') (show 2 * i < 60 by omega) (by decide)]
      rw [lt_, nI_p1 (2 * i), rY_34 hY1, ix_nI (show 2 * i + 1 < 2 ^ 31 by omega), cK_of (kY_0 hY1), cA_of (kY_21 hY1) (nY_21 hY1) (show 2 * i + 1 < 60 by omega) (by decide), lt_]
      have := dl L
      unfold due2 at this
      rw [nI_p1] at this
      exact this
    have e1 := ck_even hX hX' hn (show i < n by omega) hq r6 em (SI υf (Y + 21)) dm'
    have e2 := ck_odd hX' hn (show i < n by omega) hq ef (SI υf (Y + 21)) df'
    rw [hW'] at e1 e2
    by_cases c1 : ckC W (SI υf (Y + 21)) q (2 * i) = true
    · refine ⟨τ', υf, r1, FrK_t f0 t2, eM.trans t3, ?_⟩
      rw [lp_S, e1, if_pos c1, show 2 * (k + 1) = 2 * k + 1 + 1 by omega, findI_S, if_pos c1]
      rfl
    · by_cases c2 : ckC W (SI υf (Y + 21)) q (2 * i + 1) = true
      · refine ⟨τ', υf, r1, FrK_t f0 t2, eM.trans t3, ?_⟩
        rw [lp_S, e1, if_neg c1, lp_S, e2, if_pos c2, show 2 * (k + 1) = 2 * k + 1 + 1 by omega, findI_S, if_neg c1, findI_S, if_pos c2]
        rfl
      · refine ⟨τf, υf, FrC_t r1 t1, FrK_t f0 t2, eM.trans t3, ?_⟩
        rw [lp_S, e1, if_neg c1, lp_S, e2, if_neg c2, show 2 * (k + 1) = 2 * k + 1 + 1 by omega, findI_S, if_neg c1, findI_S, if_neg c2]
        exact t4
end CH2
