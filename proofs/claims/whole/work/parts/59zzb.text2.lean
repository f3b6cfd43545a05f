/-! texts: the call -/
section TXD
variable {X Y : Nat} {σ ρ : Sto}
theorem tape_g (h : REL X Y σ ρ) : ∃ (n : Nat) (g : Nat → Nat), TC (X + 160) n g σ ∧ SI σ (X + 160) 1 = nI n ∧ SI ρ Y 8 = nI n ∧ ∀ z, TM Y n g (stn ρ z) := by
  have hX := h.2.2.1
  obtain ⟨n, n1, n2, n3, n4⟩ := h.2.2.2.2.2.2.2.1
  have hg : ∀ k, k < n → SI ρ (Y + 7) k = nI (SI ρ (Y + 7) k).toInt.toNat ∧ (SI ρ (Y + 7) k).toInt.toNat < 256 := fun k hk => by
    obtain ⟨m, m1, m2⟩ := bd_nat (n := 255) (n4 k hk).2
    rw [m2, nI_toInt (by omega)]
    exact ⟨by rw [Int.toNat_natCast], by rw [Int.toNat_natCast]; omega⟩
  refine ⟨n, fun k => (SI ρ (Y + 7) k).toInt.toNat, ⟨⟨kX_160 hX, rX_160_0 hX, rX_160_8 hX⟩, ⟨kX_161 hX, nX_161 hX⟩, ⟨kX_162 hX, nX_162 hX⟩, n1, fun k hk => ⟨?_, (hg k hk).2⟩⟩, n2, n3, fun z => ⟨h.2.2.2.1, n1, hg⟩⟩
  show SI σ (X + 161) k = byt (SI ρ (Y + 7) k).toInt.toNat
  rw [(n4 k hk).1]
  unfold byt
  rw [← (hg k hk).1]
/-- the reference's part of the call -/
theorem e_textM {n : Nat} {g : Nat → Nat} {ρz : Sto} (hM : TM Y n g ρz) {F s : Nat → Int32} {x : Int32} {nt : Nat} (hnt : nt ≤ 12) (s4 : s 4 = nI nt) (hp : f_Model_parse Y true ρz = (x, true, mS ρz Y F s)) (x1 x2 : Int32) : f_Model_text Y x1 x2 true ρz = (if ((0 : Int32) ≤ x1 ∧ x1 ≤ 3) ∧ ((0 : Int32) ≤ x2 ∧ x2 ≤ 999) then (if x < 0 then (-100 - F 9, true, mS ρz Y F s) else if nt = 12 then (-1000000003, true, mS ρz Y F s) else (nI nt, true, mS ρz Y F (up1 (up1 (up1 (up1 (up1 (up1 s (600 + 200 * nt) x) (601 + 200 * nt) x1) (602 + 200 * nt) x2) (603 + 200 * nt) (F 18)) (604 + 200 * nt) (F 16)) 4 (nI (nt + 1))))) else (-1000000001, true, mS ρz Y F s)) := by
  have i3 : ∀ v : Int32, f_Model_isIn v.toInt64 0 3 true ρz = (inR v 0 3, true, ρz) := fun v => e_isInL v 0 3 0 3 rfl rfl true ρz
  have i9 : ∀ v : Int32, f_Model_isIn v.toInt64 0 999 true ρz = (inR v 0 999, true, ρz) := fun v => e_isInL v 0 999 0 999 rfl rfl true ρz
  have kz : cK ρz Y 13 = true := cK_of (kY_0 hM.1)
  have c4 : ∀ F' s', cA (mS ρz Y F' s') (Y + 1) 21 4 = true := fun F' s' => mS_a1 hM (i := 4) (by decide)
  have r0 : nI (600 + 200 * nt) + 0 = nI (600 + 200 * nt) := Int32.add_zero _
  have r1 : nI (600 + 200 * nt) + 1 = nI (601 + 200 * nt) := by rw [nI_p1]; congr 1; omega
  have r2 : nI (600 + 200 * nt) + 2 = nI (602 + 200 * nt) := by rw [nI_p2]; congr 1; omega
  have r3 : nI (600 + 200 * nt) + 3 = nI (603 + 200 * nt) := by rw [nI_p3]; congr 1; omega
  have r4 : nI (600 + 200 * nt) + 4 = nI (604 + 200 * nt) := by rw [nI_p4]; congr 1; omega
  unfold f_Model_text
  rw [i3, bd_]
  dsimp only
  by_cases h1 : (0 : Int32) ≤ x1 ∧ x1 ≤ 3
  · by_cases h2 : (0 : Int32) ≤ x2 ∧ x2 ≤ 999
    · rw [inR_e1 h1, lt_, lt_, if_neg (show ¬ (1 : Int32) = 0 by decide), i9, bd_, inR_e1 h2]
      dsimp only
      rw [if_neg (show ¬ (1 : Int32) = 0 by decide), lt_, kz, Bool.and_true, hp, bd_]
      dsimp only
      rw [lt_, if_neg (show ¬ (1 : Int32) = 0 by decide), if_pos (show ((0 : Int32) ≤ x1 ∧ x1 ≤ 3) ∧ ((0 : Int32) ≤ x2 ∧ x2 ≤ 999) from ⟨h1, h2⟩), mS_f, mS_0 hM, show ix (4 : Int32) = 4 from rfl, mS_s, s4, mS_k hM, c4]
      by_cases hx : x < 0
      · rw [if_pos hx, if_pos hx]
        rfl
      · rw [if_neg hx, if_neg hx]
        by_cases h12 : nt = 12
        · rw [if_pos h12, if_pos (show nI nt = 12 by rw [h12]; rfl)]
          rfl
        · rw [if_neg h12, if_neg (show ¬ nI nt = 12 from fun z => h12 ((nI_eq (b := 12) (by omega) (by decide)).mp z))]
          simp only [Bool.and_true]
          rw [e_textAt, bd_]
          dsimp only
          rw [lt_, r0, r1, r2, r3, r4, ix_nI (show 600 + 200 * nt < 2 ^ 31 by omega), ix_nI (show 601 + 200 * nt < 2 ^ 31 by omega), ix_nI (show 602 + 200 * nt < 2 ^ 31 by omega), ix_nI (show 603 + 200 * nt < 2 ^ 31 by omega), ix_nI (show 604 + 200 * nt < 2 ^ 31 by omega)]
          simp only [lt_, mS_0 hM, mS_q, mS_f, mS_s, mS_k hM, c4, mS_a1 hM (show 600 + 200 * nt < 3210 by omega), mS_a1 hM (show 601 + 200 * nt < 3210 by omega), mS_a1 hM (show 602 + 200 * nt < 3210 by omega), mS_a1 hM (show 603 + 200 * nt < 3210 by omega), mS_a1 hM (show 604 + 200 * nt < 3210 by omega), Bool.and_true, up1_s, up1_ne' (show 4 ≠ 600 + 200 * nt by omega), up1_ne' (show 4 ≠ 601 + 200 * nt by omega), up1_ne' (show 4 ≠ 602 + 200 * nt by omega), up1_ne' (show 4 ≠ 603 + 200 * nt by omega), up1_ne' (show 4 ≠ 604 + 200 * nt by omega), s4, nI_1, nI_s1]
    · rw [inR_e1 h1, lt_, lt_, if_neg (show ¬ (1 : Int32) = 0 by decide), i9, bd_, inR_e0 h2]
      dsimp only
      rw [if_pos rfl, lt_, kz, Bool.and_true, hp, bd_]
      dsimp only
      rw [lt_, if_pos rfl, if_neg (fun z => h2 z.2)]
  · rw [inR_e0 h1, lt_, lt_, if_pos rfl]
    dsimp only
    rw [lt_, kz, Bool.and_true, hp, bd_]
    dsimp only
    rw [lt_, if_pos rfl, if_neg (fun z => h1 z.1)]
/-- the class's part of the call -/
theorem e_textC (hX : LayX X σ) {n : Nat} {g : Nat → Nat} (hT : TC (X + 160) n g σ) {f t : Nat → Int32} (hp : f_Tape_readText (X + 160) true σ = (f 11, true, tS σ (X + 160) f t)) {nt : Nat} (hnt : nt ≤ 12) (n4 : SI σ (X + 1 + 11) 1 = nI nt) (x1 x2 : Int32) : f_Trail_text X x1 x2 true σ = (if ((0 : Int32) ≤ x1 ∧ x1 ≤ 3) ∧ ((0 : Int32) ≤ x2 ∧ x2 ≤ 999) then (if f 11 < 0 then (if nt < 12 then bd_ (f_Tape_textFor (X + 160) x1 x2 true (tS σ (X + 160) (up1 f 1 0) t)) (fun (r_5 : Nat) (b_5 : Bool) (σ_5 : Sto) => (bd_ (f_Laws_add (X + 1 + 11) r_5 (b_5 && cK σ_5 (X + 1 + 11) 3) σ_5) (fun (r_6 : Int32) (b_6 : Bool) (σ_6 : Sto) => (r_6, b_6, σ_6)))) else (-1000000003, true, tS σ (X + 160) (up1 f 1 0) t)) else (-100 - f 11, true, tS σ (X + 160) (up1 f 1 0) t)) else (-1000000001, true, pI σ (X + 160) 1 0)) := by
  have hW := hX.2.1
  have s0 : ∀ F' t', SR (tS σ (X + 160) F' t') X 3 = X + 160 := fun F' t' => rX_0_3 hX
  have s1 : ∀ F' t', SR (tS σ (X + 160) F' t') X 0 = X + 1 := fun F' t' => rX_0_0 hX
  have s2 : ∀ F' t', SR (tS σ (X + 160) F' t') (X + 1) 1 = X + 1 + 11 := fun F' t' => rW_0_1 hW
  have c0 : ∀ F' t', cK (tS σ (X + 160) F' t') X 12 = true := fun F' t' => cK_of (show Stk σ X = 12 from kX_0 hX)
  have c1 : ∀ F' t', cK (tS σ (X + 160) F' t') (X + 1) 11 = true := fun F' t' => cK_of (show Stk σ (X + 1) = 11 from kW_0 hW)
  have c2 : ∀ F' t', cK (tS σ (X + 160) F' t') (X + 1 + 11) 3 = true := fun F' t' => cK_of (show Stk σ (X + 1 + 11) = 3 from kW_11 hW)
  have e4 : ∀ F' t', SI (tS σ (X + 160) F' t') (X + 1 + 11) 1 = nI nt := fun F' t' => by rw [tS_x (by omega) (by omega)]; exact n4
  have bad : ∀ b : Bool, b = true → (lt_ (1 : Int32) (fun (x3_2 : Int32) => (lt_ (fun (s0_41 : Int32) (b : Bool) (σ : Sto) => (lt_ s0_41 (fun (x4_3 : Int32) => (lt_ (pI σ (SR σ X 3) 1 (0 : Int32)) (fun (σ_4 : Sto) => (if x3_2 = 0 then (if x4_3 < 0 then (if (SI σ_4 (SR σ_4 (SR σ_4 X 0) 1) 1) < (12 : Int32) then (bd_ (f_Tape_textFor (SR σ_4 X 3) x1 x2 (((((((((b && cK σ X 12) && cK σ (SR σ X 3) 8) && cK σ_4 X 12) && cK σ_4 (SR σ_4 X 0) 11) && cK σ_4 (SR σ_4 (SR σ_4 X 0) 1) 3) && cK σ_4 X 12) && cK σ_4 (SR σ_4 X 0) 11) && cK σ_4 X 12) && cK σ_4 (SR σ_4 X 3) 8) σ_4) (fun (r_5 : Nat) (b_5 : Bool) (σ_5 : Sto) => (bd_ (f_Laws_add (SR σ_4 (SR σ_4 X 0) 1) r_5 (b_5 && cK σ_5 (SR σ_4 (SR σ_4 X 0) 1) 3) σ_5) (fun (r_6 : Int32) (b_6 : Bool) (σ_6 : Sto) => (r_6, b_6, σ_6))))) else ((-1000000003 : Int32), (((((b && cK σ X 12) && cK σ (SR σ X 3) 8) && cK σ_4 X 12) && cK σ_4 (SR σ_4 X 0) 11) && cK σ_4 (SR σ_4 (SR σ_4 X 0) 1) 3), σ_4)) else (((-100 : Int32) - x4_3), ((b && cK σ X 12) && cK σ (SR σ X 3) 8), σ_4)) else ((-1000000001 : Int32), ((b && cK σ X 12) && cK σ (SR σ X 3) 8), σ_4))))))) (fun J41 => (if x3_2 = 0 then (bd_ (f_Tape_readText (SR σ X 3) ((b && cK σ X 12) && cK σ (SR σ X 3) 8) σ) (fun (r_7 : Int32) (b_7 : Bool) (σ_7 : Sto) => (J41 r_7 b_7 σ_7))) else (J41 (-1 : Int32) b σ))))) : Rs Int32) = (-1000000001, true, pI σ (X + 160) 1 0) := fun b hb => by
    subst hb
    rw [lt_, lt_, if_neg (show ¬ (1 : Int32) = 0 by decide)]
    dsimp only
    rw [lt_, lt_, if_neg (show ¬ (1 : Int32) = 0 by decide), rX_0_3 hX, cK_of (kX_0 hX), cK_of (kX_160 hX)]
    rfl
  unfold f_Trail_text
  rw [e_within, bd_]
  dsimp only
  by_cases h1 : (0 : Int32) ≤ x1 ∧ x1 ≤ 3
  · by_cases h2 : (0 : Int32) ≤ x2 ∧ x2 ≤ 999
    · rw [inR_e1 h1, lt_, lt_, if_neg (show ¬ (1 : Int32) = 0 by decide), e_within, bd_, inR_e1 h2]
      dsimp only
      rw [if_neg (show ¬ (1 : Int32) = 0 by decide), lt_, lt_, if_pos rfl, rX_0_3 hX, cK_of (kX_0 hX), cK_of (kX_160 hX)]
      simp only [Bool.and_true]
      rw [hp, bd_]
      dsimp only
      rw [lt_, lt_, if_pos trivial, if_pos (show ((0 : Int32) ≤ x1 ∧ x1 ≤ 3) ∧ ((0 : Int32) ≤ x2 ∧ x2 ≤ 999) from ⟨h1, h2⟩)]
      simp only [s0, tS_p, s1, s2, e4, c0, c1, c2, tS_k hT, Bool.and_true]
      by_cases hx : f 11 < 0
      · rw [if_pos hx, if_pos hx]
        by_cases h12 : nt < 12
        · rw [if_pos h12, if_pos (show nI nt < 12 from nI_lt (b := 12) h12 (by decide))]
        · rw [if_neg h12, if_neg (show ¬ nI nt < 12 from nI_nlt (b := 12) (by omega) (by omega))]
      · rw [if_neg hx, if_neg hx]
    · rw [inR_e1 h1, lt_, lt_, if_neg (show ¬ (1 : Int32) = 0 by decide), e_within, bd_, inR_e0 h2]
      dsimp only
      rw [if_pos rfl, if_neg (fun z => h2 z.2)]
      exact bad true rfl
  · rw [inR_e0 h1, lt_, lt_, if_pos rfl, if_neg (fun z => h1 z.1)]
    exact bad true rfl
end TXD
