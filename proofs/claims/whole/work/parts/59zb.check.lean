/-! check -/
section CH
variable {X Y w : Nat} {σ ρ : Sto}
theorem pI_same {a j : Nat} {u v : Int32} : pI (pI σ a j u) a j v = pI σ a j v := by
  have e : up2 (up2 σ.2.2.2.1 a j u) a j v = up2 σ.2.2.2.1 a j v := by
    funext x y
    unfold up2
    by_cases h1 : x = a
    · by_cases h2 : y = j
      · simp [h1, h2]
      · simp [h1, h2]
    · simp [h1]
  show (σ.1, σ.2.1, σ.2.2.1, up2 (up2 σ.2.2.2.1 a j u) a j v, σ.2.2.2.2) = _
  rw [e]
  rfl
def sumI (f : Nat → Int32) : Nat → Int32
  | 0 => 0
  | k + 1 => sumI f k + f k
theorem sumI_congr {f g : Nat → Int32} : ∀ {n : Nat}, (∀ k, k < n → f k = g k) → sumI f n = sumI g n
  | 0, _ => rfl
  | n + 1, h => by
    unfold sumI
    rw [sumI_congr (fun k hk => h k (by omega)), h n (by omega)]
theorem e_miles (hW : LayW w σ) {nw : Nat} (hn : nw ≤ 10) (w2 : SI σ w 7 = nI nw) : f_World_milesTogether w true σ = (sumI (fun k => SI σ (w + 43 + k) 6) nw, true, σ) := by
  obtain ⟨a, τ, ⟨p1, p2⟩, e⟩ := lp_exA (body := b_World_milesTogether_4 w) (bad := fun (x1 : Int32) (x2 : Int32) (b : Bool) (σ : Sto) => (0, false, σ)) nw (fun k a τ => a = sumI (fun k => SI σ (w + 43 + k) 6) k ∧ τ = σ) (fun a τ => (a, true, τ)) (by omega)
    (fun i a τ hi ⟨q1, q2⟩ => by
      subst q1 q2
      have k10 : i < 10 := by omega
      refine ⟨_, _, ⟨rfl, rfl⟩, fun L => ?_⟩
      unfold b_World_milesTogether_4
      rw [w2, if_pos (nI_lt hi (by omega)), lt_, lt_, rW_0_6 hW, ix_nI (show i < 2 ^ 31 by omega), rW_42 hW k10, cK_of (kW_0 hW), cA_of (kW_42 hW) (nW_42 hW) k10 (by decide), cK_of (kW_w hW k10)]
      rfl)
    (fun L a τ ⟨q1, q2⟩ => by
      subst q1 q2
      unfold b_World_milesTogether_4
      rw [w2, if_neg (nI_nlt (Nat.le_refl nw) (by omega)), cK_of (kW_0 hW)]
      rfl) 0 σ ⟨rfl, rfl⟩
  subst p1 p2
  unfold f_World_milesTogether
  rw [lt_, lt_]
  exact e
theorem e_foods (hW : LayW w σ) {nw : Nat} (hn : nw ≤ 10) (w2 : SI σ w 7 = nI nw) : f_World_foodTogether w true σ = (sumI (fun k => SI σ (w + 43 + k) 7) nw, true, σ) := by
  obtain ⟨a, τ, ⟨p1, p2⟩, e⟩ := lp_exA (body := b_World_foodTogether_4 w) (bad := fun (x1 : Int32) (x2 : Int32) (b : Bool) (σ : Sto) => (0, false, σ)) nw (fun k a τ => a = sumI (fun k => SI σ (w + 43 + k) 7) k ∧ τ = σ) (fun a τ => (a, true, τ)) (by omega)
    (fun i a τ hi ⟨q1, q2⟩ => by
      subst q1 q2
      have k10 : i < 10 := by omega
      refine ⟨_, _, ⟨rfl, rfl⟩, fun L => ?_⟩
      unfold b_World_foodTogether_4
      rw [w2, if_pos (nI_lt hi (by omega)), lt_, lt_, rW_0_6 hW, ix_nI (show i < 2 ^ 31 by omega), rW_42 hW k10, cK_of (kW_0 hW), cA_of (kW_42 hW) (nW_42 hW) k10 (by decide), cK_of (kW_w hW k10)]
      rfl)
    (fun L a τ ⟨q1, q2⟩ => by
      subst q1 q2
      unfold b_World_foodTogether_4
      rw [w2, if_neg (nI_nlt (Nat.le_refl nw) (by omega)), cK_of (kW_0 hW)]
      rfl) 0 σ ⟨rfl, rfl⟩
  subst p1 p2
  unfold f_World_foodTogether
  rw [lt_, lt_]
  exact e
/-- two numbers written into the due row -/
def due2 (Y i : Nat) (ρ : Sto) (m f : Int32) : Sto := pI (pI ρ (Y + 21) (2 * i) m) (Y + 21) (2 * i + 1) f
theorem due2_2 {i : Nat} {m f m' f' : Int32} : pI (pI (due2 Y i ρ m f) (Y + 21) (2 * i) m') (Y + 21) (2 * i + 1) f' = due2 Y i ρ m' f' := by
  unfold due2
  rw [pI_comm (σ := pI ρ (Y + 21) (2 * i) m) (show ¬ (Y + 21 = Y + 21 ∧ 2 * i + 1 = 2 * i) by omega), pI_same, pI_same]
theorem due2_x {i x : Nat} {m f : Int32} (h : x ≠ Y + 21) : SI (due2 Y i ρ m f) x = SI ρ x := by
  unfold due2
  rw [SI_pI, up2_ne h, SI_pI, up2_ne h]
theorem due2_m {i : Nat} {m f : Int32} : SI (due2 Y i ρ m f) (Y + 21) (2 * i) = m := by
  unfold due2
  rw [SI_pI, up2_nj (by omega), SI_pI, up2_s]
theorem due2_f {i : Nat} {m f : Int32} : SI (due2 Y i ρ m f) (Y + 21) (2 * i + 1) = f := by
  unfold due2
  rw [SI_pI, up2_s]
theorem due2_j {i j : Nat} {m f : Int32} (h : j ≠ 2 * i) (h' : j ≠ 2 * i + 1) : SI (due2 Y i ρ m f) (Y + 21) j = SI ρ (Y + 21) j := by
  unfold due2
  rw [SI_pI, up2_nj h', SI_pI, up2_nj h]
theorem due2_L {i : Nat} {m f : Int32} (h : LayY Y ρ) : LayY Y (due2 Y i ρ m f) := by
  unfold due2
  exact LayY_c h (by rw [Stk_pI, Stk_pI]) (by rw [Sln_pI, Sln_pI]) (by rw [SR_pI, SR_pI])
/-- what is due for a day -/
theorem due_loop (hY : LayY Y ρ) {nw i : Nat} (hn : nw ≤ 10) (w3 : SI ρ (Y + 1) 5 = nI nw) (hi : i < 30) (x1 x2 : Int32) (L61 : Int32 → Bool → Sto → Rs Int32) : lp_ (b_Model_check_93 Y x1 x2 (nI i) L61) (fun (x4 : Int32) (b : Bool) (σ : Sto) => (0, false, σ)) fuel_ 0 true (due2 Y i ρ 0 0) = L61 (nI i + 1) true (due2 Y i ρ (sumI (fun k => SI ρ (Y + 1) (131 + 20 * k)) nw) (sumI (fun k => SI ρ (Y + 1) (133 + 20 * k)) nw)) := by
  have i2 : (2 : Int32) * nI i = nI (2 * i) := nI_mul 2 i
  obtain ⟨τ, p, e⟩ := lp_ex (body := b_Model_check_93 Y x1 x2 (nI i) L61) (bad := fun (x4 : Int32) (b : Bool) (σ : Sto) => (0, false, σ)) nw (fun k τ => τ = due2 Y i ρ (sumI (fun k => SI ρ (Y + 1) (131 + 20 * k)) k) (sumI (fun k => SI ρ (Y + 1) (133 + 20 * k)) k)) (fun τ => L61 (nI i + 1) true τ) (by omega)
    (fun k τ hk q => by
      refine ⟨_, rfl, fun L => ?_⟩
      subst q
      have hy := due2_L (i := i) (m := sumI (fun k => SI ρ (Y + 1) (131 + 20 * k)) k) (f := sumI (fun k => SI ρ (Y + 1) (133 + 20 * k)) k) hY
      have es := due2_x (i := i) (m := sumI (fun k => SI ρ (Y + 1) (131 + 20 * k)) k) (f := sumI (fun k => SI ρ (Y + 1) (133 + 20 * k)) k) (ρ := ρ) (Y := Y) (x := Y + 1) (by omega)
      have em := due2_m (i := i) (m := sumI (fun k => SI ρ (Y + 1) (131 + 20 * k)) k) (f := sumI (fun k => SI ρ (Y + 1) (133 + 20 * k)) k) (ρ := ρ) (Y := Y)
      have ef := due2_f (i := i) (m := sumI (fun k => SI ρ (Y + 1) (131 + 20 * k)) k) (f := sumI (fun k => SI ρ (Y + 1) (133 + 20 * k)) k) (ρ := ρ) (Y := Y)
      have e2 := due2_2 (i := i) (m := sumI (fun k => SI ρ (Y + 1) (131 + 20 * k)) k) (f := sumI (fun k => SI ρ (Y + 1) (133 + 20 * k)) k) (ρ := ρ) (Y := Y) (m' := sumI (fun k => SI ρ (Y + 1) (131 + 20 * k)) (k + 1)) (f' := sumI (fun k => SI ρ (Y + 1) (133 + 20 * k)) (k + 1))
      rw [← e2]
      clear e2
      generalize due2 Y i ρ (sumI (fun k => SI ρ (Y + 1) (131 + 20 * k)) k) (sumI (fun k => SI ρ (Y + 1) (133 + 20 * k)) k) = τ at *
      have j1 : nI (130 + 20 * k) + 1 = nI (131 + 20 * k) := by rw [nI_p1]; congr 1; omega
      have j3 : nI (130 + 20 * k) + 3 = nI (133 + 20 * k) := by rw [show nI (130 + 20 * k) + 3 = nI (130 + 20 * k + 3) from nI_add _ 3]; congr 1; omega
      unfold b_Model_check_93
      rw [rY_0 hy, show ix (5 : Int32) = 5 from rfl, es, w3, if_pos (nI_lt hk (by omega)), rY_34 hy, i2, ix_nI (show 2 * i < 2 ^ 31 by omega), cK_of (kY_0 hy), cYk hy 5 (v := 5) rfl (by decide), cA_of (kY_21 hy) (nY_21 hy) (show 2 * i < 60 by omega) (by decide)]
      simp only [Bool.and_true]
      rw [e_walkerAt, bd_]
      dsimp only
      rw [lt_, j1, ix_nI (show 131 + 20 * k < 2 ^ 31 by omega), es, em, cY hy (show 131 + 20 * k < 3210 by omega), cA_of (kY_21 hy) (nY_21 hy) (show 2 * i < 60 by omega) (by decide)]
      show bd_ _ _ = _
      have hy1 : LayY Y (pI τ (Y + 21) (2 * i) (sumI (fun k => SI ρ (Y + 1) (131 + 20 * k)) k + SI ρ (Y + 1) (131 + 20 * k))) := LayY_c hy Stk_pI Sln_pI SR_pI
      have e1s : SI (pI τ (Y + 21) (2 * i) (sumI (fun k => SI ρ (Y + 1) (131 + 20 * k)) k + SI ρ (Y + 1) (131 + 20 * k))) (Y + 1) = SI ρ (Y + 1) := by rw [SI_pI, up2_ne (by omega), es]
      have e1f : SI (pI τ (Y + 21) (2 * i) (sumI (fun k => SI ρ (Y + 1) (131 + 20 * k)) k + SI ρ (Y + 1) (131 + 20 * k))) (Y + 21) (2 * i + 1) = sumI (fun k => SI ρ (Y + 1) (133 + 20 * k)) k := by rw [SI_pI, up2_nj (by omega), ef]
      show _ = L (nI k + 1) true (pI (pI τ (Y + 21) (2 * i) (sumI (fun k => SI ρ (Y + 1) (131 + 20 * k)) k + SI ρ (Y + 1) (131 + 20 * k))) (Y + 21) (2 * i + 1) (sumI (fun k => SI ρ (Y + 1) (133 + 20 * k)) k + SI ρ (Y + 1) (133 + 20 * k)))
      generalize pI τ (Y + 21) (2 * i) (sumI (fun k => SI ρ (Y + 1) (131 + 20 * k)) k + SI ρ (Y + 1) (131 + 20 * k)) = τ1 at *
      rw [nI_p1 (2 * i), rY_34 hy1, rY_0 hy1, cK_of (kY_0 hy1), cA_of (kY_21 hy1) (nY_21 hy1) (show 2 * i + 1 < 60 by omega) (by decide)]
      simp only [Bool.and_true]
      rw [e_walkerAt, bd_]
      dsimp only
      rw [lt_, lt_, j3, ix_nI (show 133 + 20 * k < 2 ^ 31 by omega), ix_nI (show 2 * i + 1 < 2 ^ 31 by omega), e1s, e1f, cY hy1 (show 133 + 20 * k < 3210 by omega), cA_of (kY_21 hy1) (nY_21 hy1) (show 2 * i + 1 < 60 by omega) (by decide)]
      rfl)
    (fun L τ q => by
      subst q
      have hy := due2_L (i := i) (m := sumI (fun k => SI ρ (Y + 1) (131 + 20 * k)) nw) (f := sumI (fun k => SI ρ (Y + 1) (133 + 20 * k)) nw) hY
      have es := due2_x (i := i) (m := sumI (fun k => SI ρ (Y + 1) (131 + 20 * k)) nw) (f := sumI (fun k => SI ρ (Y + 1) (133 + 20 * k)) nw) (ρ := ρ) (Y := Y) (x := Y + 1) (by omega)
      generalize due2 Y i ρ (sumI (fun k => SI ρ (Y + 1) (131 + 20 * k)) nw) (sumI (fun k => SI ρ (Y + 1) (133 + 20 * k)) nw) = τ at *
      unfold b_Model_check_93
      rw [rY_0 hy, show ix (5 : Int32) = 5 from rfl, es, w3, if_neg (nI_nlt (Nat.le_refl nw) (by omega)), cK_of (kY_0 hy), cYk hy 5 (v := 5) rfl (by decide), lt_]
      rfl)
    (due2 Y i ρ 0 0) rfl
  rw [e, p]
end CH
