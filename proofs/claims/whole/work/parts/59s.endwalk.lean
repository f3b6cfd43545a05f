/-! a day: what a walk does to the walker -/
section EW
variable {X Y w : Nat} {σ ρ : Sto}
theorem food_mx {f : Nat} (hf : f ≤ 20) : mxI 0 (nI f - 1) = nI f - (if 0 < nI f then 1 else 0) := by
  by_cases z : f = 0
  · rw [z]; decide
  · have hp : (0 : Int32) < nI f := nI_lt (a := 0) (by omega) (by omega)
    rw [if_pos hp, show nI f - 1 = nI (f - 1) from nI_sub (b := 1) (by omega)]
    unfold mxI
    by_cases y : (0 : Int32) < nI (f - 1)
    · rw [if_pos y]
    · rw [if_neg y]
      have : ¬ 0 < f - 1 := fun q => y (nI_lt (a := 0) q (by omega))
      rw [show f - 1 = 0 by omega]; rfl
theorem e_endWalk (hW : LayW w σ) {k : Nat} (hk : k < 10) (hE : rE σ (w + 43 + k) (SI ρ (Y + 1)) (130 + 20 * k)) (hf : bd (SI ρ (Y + 1) (133 + 20 * k)) 0 20) : f_Walker_endWalk (w + 43 + k) true σ = ((), true, (pI (pI (pI (pI (pI σ (w + 43 + k) 8 (if SI ρ (Y + 1) (133 + 20 * k) = 0 then SI ρ (Y + 1) (134 + 20 * k) + 1 else 0)) (w + 43 + k) 7 (SI ρ (Y + 1) (133 + 20 * k) - (if 0 < SI ρ (Y + 1) (133 + 20 * k) then 1 else 0))) (w + 43 + k) 11 (SI ρ (Y + 1) (137 + 20 * k) + 1)) (w + 43 + k) 1 (if SI ρ (Y + 1) (137 + 20 * k) + 1 - (SI ρ (Y + 1) (137 + 20 * k) + 1) / 7 * 7 = 0 then mnI 40 (SI ρ (Y + 1) (132 + 20 * k) + SI ρ (Y + 1) (146 + 20 * k)) else SI ρ (Y + 1) (132 + 20 * k))) (w + 43 + k) 9 (SI ρ (Y + 1) (135 + 20 * k) + (if SI ρ (Y + 1) (148 + 20 * k) < SI ρ (Y + 1) (136 + 20 * k) then 1 else 0)))) := by
  have e7 : SI σ (w + 43 + k) 7 = SI ρ (Y + 1) (133 + 20 * k) := rE_at hE (by decide) (j := 3) rfl (by omega)
  have e8 : SI σ (w + 43 + k) 8 = SI ρ (Y + 1) (134 + 20 * k) := rE_at hE (by decide) (j := 4) rfl (by omega)
  have e11 : SI σ (w + 43 + k) 11 = SI ρ (Y + 1) (137 + 20 * k) := rE_at hE (by decide) (j := 7) rfl (by omega)
  have e1 : SI σ (w + 43 + k) 1 = SI ρ (Y + 1) (132 + 20 * k) := rE_at hE (by decide) (j := 2) rfl (by omega)
  have e2 : SI σ (w + 43 + k) 2 = SI ρ (Y + 1) (146 + 20 * k) := rE_at hE (by decide) (j := 16) rfl (by omega)
  have e4 : SI σ (w + 43 + k) 4 = SI ρ (Y + 1) (148 + 20 * k) := rE_at hE (by decide) (j := 18) rfl (by omega)
  have e10 : SI σ (w + 43 + k) 10 = SI ρ (Y + 1) (136 + 20 * k) := rE_at hE (by decide) (j := 6) rfl (by omega)
  have e9 : SI σ (w + 43 + k) 9 = SI ρ (Y + 1) (135 + 20 * k) := rE_at hE (by decide) (j := 5) rfl (by omega)
  obtain ⟨fo, hfo, efo⟩ := bd_nat (n := 20) hf
  generalize SI ρ (Y + 1) (134 + 20 * k) = h0 at *
  generalize SI ρ (Y + 1) (137 + 20 * k) = w0 at *
  generalize SI ρ (Y + 1) (132 + 20 * k) = p0 at *
  generalize SI ρ (Y + 1) (146 + 20 * k) = g0 at *
  generalize SI ρ (Y + 1) (148 + 20 * k) = s0 at *
  generalize SI ρ (Y + 1) (136 + 20 * k) = d0 at *
  generalize SI ρ (Y + 1) (135 + 20 * k) = t0 at *
  rw [efo] at e7 ⊢
  have core : f_Walker_endWalk (w + 43 + k) true σ = (fun (hv : Int32) => (fun τ : Sto => (fun υ : Sto => if s0 < d0 then ((), true, pI υ (w + 43 + k) 9 (t0 + 1)) else ((), true, υ)) (if w0 + 1 - (w0 + 1) / 7 * 7 = 0 then pI τ (w + 43 + k) 1 (mnI 40 (p0 + g0)) else τ)) (pI (pI (pI σ (w + 43 + k) 8 hv) (w + 43 + k) 7 (mxI 0 (nI fo - 1))) (w + 43 + k) 11 (w0 + 1))) (if 0 < nI fo then 0 else h0 + 1) := by
    unfold f_Walker_endWalk
    simp only [lt_, e7, e8]
    have n7 : (7 : Nat) ≠ 8 := by decide
    have n11 : (11 : Nat) ≠ 7 := by decide
    have n11b : (11 : Nat) ≠ 8 := by decide
    by_cases c1 : 0 < nI fo
    · simp only [if_pos c1, cK_pI, cK_of (kW_w hW hk), Bool.and_true, show (!decide ((7 : Int32) = 0)) = true from rfl, SI_pI, up2_s, up2_nj (show (7 : Nat) ≠ 8 by decide), up2_nj (show (11 : Nat) ≠ 7 by decide), up2_nj (show (11 : Nat) ≠ 8 by decide), e7, e11, up2_nj (show (1 : Nat) ≠ 11 by decide), up2_nj (show (1 : Nat) ≠ 7 by decide), up2_nj (show (1 : Nat) ≠ 8 by decide), up2_nj (show (2 : Nat) ≠ 11 by decide), up2_nj (show (2 : Nat) ≠ 7 by decide), up2_nj (show (2 : Nat) ≠ 8 by decide), e1, e2]
      by_cases c2 : w0 + 1 - (w0 + 1) / 7 * 7 = 0
      · simp only [if_pos c2, cK_pI, cK_of (kW_w hW hk), Bool.and_true, SI_pI, up2_nj (show (4 : Nat) ≠ 1 by decide), up2_nj (show (4 : Nat) ≠ 11 by decide), up2_nj (show (4 : Nat) ≠ 7 by decide), up2_nj (show (4 : Nat) ≠ 8 by decide), up2_nj (show (10 : Nat) ≠ 1 by decide), up2_nj (show (10 : Nat) ≠ 11 by decide), up2_nj (show (10 : Nat) ≠ 7 by decide), up2_nj (show (10 : Nat) ≠ 8 by decide), up2_nj (show (9 : Nat) ≠ 1 by decide), up2_nj (show (9 : Nat) ≠ 11 by decide), up2_nj (show (9 : Nat) ≠ 7 by decide), up2_nj (show (9 : Nat) ≠ 8 by decide), e4, e10, e9]
      · simp only [if_neg c2, cK_pI, cK_of (kW_w hW hk), Bool.and_true, SI_pI, up2_nj (show (4 : Nat) ≠ 11 by decide), up2_nj (show (4 : Nat) ≠ 7 by decide), up2_nj (show (4 : Nat) ≠ 8 by decide), up2_nj (show (10 : Nat) ≠ 11 by decide), up2_nj (show (10 : Nat) ≠ 7 by decide), up2_nj (show (10 : Nat) ≠ 8 by decide), up2_nj (show (9 : Nat) ≠ 11 by decide), up2_nj (show (9 : Nat) ≠ 7 by decide), up2_nj (show (9 : Nat) ≠ 8 by decide), e4, e10, e9]
    · simp only [if_neg c1, cK_pI, cK_of (kW_w hW hk), Bool.and_true, show (!decide ((7 : Int32) = 0)) = true from rfl, SI_pI, up2_s, up2_nj (show (7 : Nat) ≠ 8 by decide), up2_nj (show (11 : Nat) ≠ 7 by decide), up2_nj (show (11 : Nat) ≠ 8 by decide), e7, e11, up2_nj (show (1 : Nat) ≠ 11 by decide), up2_nj (show (1 : Nat) ≠ 7 by decide), up2_nj (show (1 : Nat) ≠ 8 by decide), up2_nj (show (2 : Nat) ≠ 11 by decide), up2_nj (show (2 : Nat) ≠ 7 by decide), up2_nj (show (2 : Nat) ≠ 8 by decide), e1, e2]
      by_cases c2 : w0 + 1 - (w0 + 1) / 7 * 7 = 0
      · simp only [if_pos c2, cK_pI, cK_of (kW_w hW hk), Bool.and_true, SI_pI, up2_nj (show (4 : Nat) ≠ 1 by decide), up2_nj (show (4 : Nat) ≠ 11 by decide), up2_nj (show (4 : Nat) ≠ 7 by decide), up2_nj (show (4 : Nat) ≠ 8 by decide), up2_nj (show (10 : Nat) ≠ 1 by decide), up2_nj (show (10 : Nat) ≠ 11 by decide), up2_nj (show (10 : Nat) ≠ 7 by decide), up2_nj (show (10 : Nat) ≠ 8 by decide), up2_nj (show (9 : Nat) ≠ 1 by decide), up2_nj (show (9 : Nat) ≠ 11 by decide), up2_nj (show (9 : Nat) ≠ 7 by decide), up2_nj (show (9 : Nat) ≠ 8 by decide), e4, e10, e9]
      · simp only [if_neg c2, cK_pI, cK_of (kW_w hW hk), Bool.and_true, SI_pI, up2_nj (show (4 : Nat) ≠ 11 by decide), up2_nj (show (4 : Nat) ≠ 7 by decide), up2_nj (show (4 : Nat) ≠ 8 by decide), up2_nj (show (10 : Nat) ≠ 11 by decide), up2_nj (show (10 : Nat) ≠ 7 by decide), up2_nj (show (10 : Nat) ≠ 8 by decide), up2_nj (show (9 : Nat) ≠ 11 by decide), up2_nj (show (9 : Nat) ≠ 7 by decide), up2_nj (show (9 : Nat) ≠ 8 by decide), e4, e10, e9]
  have eh : (if 0 < nI fo then (0 : Int32) else h0 + 1) = (if nI fo = 0 then h0 + 1 else 0) := by
    by_cases z : fo = 0
    · rw [z]; rfl
    · rw [if_pos (show (0 : Int32) < nI fo from nI_lt (a := 0) (by omega) (by omega)), if_neg (nI_ne0 (by omega) (by omega))]
  rw [core, eh, food_mx hfo]
  dsimp only
  generalize (if nI fo = 0 then h0 + 1 else 0) = hv
  generalize nI fo - (if 0 < nI fo then 1 else 0) = fv
  by_cases c2 : w0 + 1 - (w0 + 1) / 7 * 7 = 0
  · rw [if_pos c2, if_pos c2]
    by_cases c3 : s0 < d0
    · rw [if_pos c3, if_pos c3]
    · rw [if_neg c3, if_neg c3, Int32.add_zero, pI_id (show SI _ (w + 43 + k) 9 = t0 by rw [SI_pI, up2_nj (by decide), SI_pI, up2_nj (by decide), SI_pI, up2_nj (by decide), SI_pI, up2_nj (by decide)]; exact e9)]
  · rw [if_neg c2, if_neg c2, pI_id (show SI (pI (pI (pI σ (w + 43 + k) 8 hv) (w + 43 + k) 7 fv) (w + 43 + k) 11 (w0 + 1)) (w + 43 + k) 1 = p0 by rw [SI_pI, up2_nj (by decide), SI_pI, up2_nj (by decide), SI_pI, up2_nj (by decide)]; exact e1)]
    by_cases c3 : s0 < d0
    · rw [if_pos c3, if_pos c3]
    · rw [if_neg c3, if_neg c3, Int32.add_zero, pI_id (show SI _ (w + 43 + k) 9 = t0 by rw [SI_pI, up2_nj (by decide), SI_pI, up2_nj (by decide), SI_pI, up2_nj (by decide)]; exact e9)]
theorem e_walkTail (hY : LayY Y ρ) {k : Nat} (hk : k < 10) : walkTail Y (nI k) (nI (130 + 20 * k)) true ρ = bd_ (f_Model_quits Y (nI k) true (pI (pI (pI (pI (pI ρ (Y + 1) (134 + 20 * k) (if SI ρ (Y + 1) (133 + 20 * k) = 0 then SI ρ (Y + 1) (134 + 20 * k) + 1 else 0)) (Y + 1) (133 + 20 * k) (SI ρ (Y + 1) (133 + 20 * k) - (if 0 < SI ρ (Y + 1) (133 + 20 * k) then 1 else 0))) (Y + 1) (137 + 20 * k) (SI ρ (Y + 1) (137 + 20 * k) + 1)) (Y + 1) (132 + 20 * k) (if SI ρ (Y + 1) (137 + 20 * k) + 1 - (SI ρ (Y + 1) (137 + 20 * k) + 1) / 7 * 7 = 0 then mnI 40 (SI ρ (Y + 1) (132 + 20 * k) + SI ρ (Y + 1) (146 + 20 * k)) else SI ρ (Y + 1) (132 + 20 * k))) (Y + 1) (135 + 20 * k) (SI ρ (Y + 1) (135 + 20 * k) + (if SI ρ (Y + 1) (148 + 20 * k) < SI ρ (Y + 1) (136 + 20 * k) then 1 else 0)))) (fun r b s => walkEnd Y (nI k) (nI (130 + 20 * k)) r b s) := by
  have i2 : nI (130 + 20 * k) + 2 = nI (132 + 20 * k) := by rw [show nI (130 + 20 * k) + 2 = nI (130 + 20 * k + 2) from nI_add _ 2]; congr 1; omega
  have i3 : nI (130 + 20 * k) + 3 = nI (133 + 20 * k) := by rw [show nI (130 + 20 * k) + 3 = nI (130 + 20 * k + 3) from nI_add _ 3]; congr 1; omega
  have i4 : nI (130 + 20 * k) + 4 = nI (134 + 20 * k) := by rw [show nI (130 + 20 * k) + 4 = nI (130 + 20 * k + 4) from nI_add _ 4]; congr 1; omega
  have i5 : nI (130 + 20 * k) + 5 = nI (135 + 20 * k) := by rw [show nI (130 + 20 * k) + 5 = nI (130 + 20 * k + 5) from nI_add _ 5]; congr 1; omega
  have i6 : nI (130 + 20 * k) + 6 = nI (136 + 20 * k) := by rw [show nI (130 + 20 * k) + 6 = nI (130 + 20 * k + 6) from nI_add _ 6]; congr 1; omega
  have i7 : nI (130 + 20 * k) + 7 = nI (137 + 20 * k) := by rw [show nI (130 + 20 * k) + 7 = nI (130 + 20 * k + 7) from nI_add _ 7]; congr 1; omega
  have i16 : nI (130 + 20 * k) + 16 = nI (146 + 20 * k) := by rw [show nI (130 + 20 * k) + 16 = nI (130 + 20 * k + 16) from nI_add _ 16]; congr 1; omega
  have i18 : nI (130 + 20 * k) + 18 = nI (148 + 20 * k) := by rw [show nI (130 + 20 * k) + 18 = nI (130 + 20 * k + 18) from nI_add _ 18]; congr 1; omega
  have n3_4 : 133 + 20 * k ≠ 134 + 20 * k := by omega
  have n7_4 : 137 + 20 * k ≠ 134 + 20 * k := by omega
  have n7_3 : 137 + 20 * k ≠ 133 + 20 * k := by omega
  have n2_4 : 132 + 20 * k ≠ 134 + 20 * k := by omega
  have n2_3 : 132 + 20 * k ≠ 133 + 20 * k := by omega
  have n2_7 : 132 + 20 * k ≠ 137 + 20 * k := by omega
  have n16_4 : 146 + 20 * k ≠ 134 + 20 * k := by omega
  have n16_3 : 146 + 20 * k ≠ 133 + 20 * k := by omega
  have n16_7 : 146 + 20 * k ≠ 137 + 20 * k := by omega
  have n18_4 : 148 + 20 * k ≠ 134 + 20 * k := by omega
  have n18_3 : 148 + 20 * k ≠ 133 + 20 * k := by omega
  have n18_7 : 148 + 20 * k ≠ 137 + 20 * k := by omega
  have n18_2 : 148 + 20 * k ≠ 132 + 20 * k := by omega
  have n6_4 : 136 + 20 * k ≠ 134 + 20 * k := by omega
  have n6_3 : 136 + 20 * k ≠ 133 + 20 * k := by omega
  have n6_7 : 136 + 20 * k ≠ 137 + 20 * k := by omega
  have n6_2 : 136 + 20 * k ≠ 132 + 20 * k := by omega
  have n5_4 : 135 + 20 * k ≠ 134 + 20 * k := by omega
  have n5_3 : 135 + 20 * k ≠ 133 + 20 * k := by omega
  have n5_7 : 135 + 20 * k ≠ 137 + 20 * k := by omega
  have n5_2 : 135 + 20 * k ≠ 132 + 20 * k := by omega
  unfold walkTail
  by_cases c1 : SI ρ (Y + 1) (133 + 20 * k) = 0 <;> by_cases c2 : 0 < SI ρ (Y + 1) (133 + 20 * k) <;> by_cases c3 : SI ρ (Y + 1) (137 + 20 * k) + 1 - (SI ρ (Y + 1) (137 + 20 * k) + 1) / 7 * 7 = 0 <;> by_cases c4 : SI ρ (Y + 1) (148 + 20 * k) < SI ρ (Y + 1) (136 + 20 * k) <;> simp only [bd_, lt_, SR_pI, cK_pI, cA_pI, rY_0 hY, i2, i3, i4, i5, i6, i7, i16, i18, ix_nI (show 132 + 20 * k < 2 ^ 31 by omega), cY hY (show 132 + 20 * k < 3210 by omega), ix_nI (show 133 + 20 * k < 2 ^ 31 by omega), cY hY (show 133 + 20 * k < 3210 by omega), ix_nI (show 134 + 20 * k < 2 ^ 31 by omega), cY hY (show 134 + 20 * k < 3210 by omega), ix_nI (show 135 + 20 * k < 2 ^ 31 by omega), cY hY (show 135 + 20 * k < 3210 by omega), ix_nI (show 136 + 20 * k < 2 ^ 31 by omega), cY hY (show 136 + 20 * k < 3210 by omega), ix_nI (show 137 + 20 * k < 2 ^ 31 by omega), cY hY (show 137 + 20 * k < 3210 by omega), ix_nI (show 146 + 20 * k < 2 ^ 31 by omega), cY hY (show 146 + 20 * k < 3210 by omega), ix_nI (show 148 + 20 * k < 2 ^ 31 by omega), cY hY (show 148 + 20 * k < 3210 by omega), cK_of (kY_0 hY), show (!decide ((7 : Int32) = 0)) = true from rfl, Bool.and_true, SI_pI, up2_s, up2_nj n3_4, up2_nj n7_4, up2_nj n7_3, up2_nj n2_4, up2_nj n2_3, up2_nj n2_7, up2_nj n16_4, up2_nj n16_3, up2_nj n16_7, up2_nj n18_4, up2_nj n18_3, up2_nj n18_7, up2_nj n18_2, up2_nj n6_4, up2_nj n6_3, up2_nj n6_7, up2_nj n6_2, up2_nj n5_4, up2_nj n5_3, up2_nj n5_7, up2_nj n5_2, e_least, least_mn, c1, c2, c3, c4, show ((0 : Int32) < 0) = False by decide, if_true, if_false]
end EW
