/-! lands -/
section OP7
variable {X Y w : Nat} {σ ρ : Sto}
abbrev ldC (σ : Sto) (w : Nat) (mile : Int32) (k : Nat) : Prop := ¬ SI σ (w + 6) k = -1000000005 ∧ ¬ mile < SI σ (w + 6) k
abbrev ldM (ρ : Sto) (Y : Nat) (mile : Int32) (k : Nat) : Prop := ¬ SI ρ (Y + 1) (10 + k) < 0 ∧ ¬ mile < SI ρ (Y + 1) (10 + k)
theorem it_landC (hW : LayW w σ) (mile : Int32) (L : Int32 → Bool → Sto → Rs Int32) {k : Nat} (h1 : 1 ≤ k) (h3 : k ≤ 3) : b_Ground_landOf_2 (w + 1) mile L (nI k) true σ = if ldC σ w mile k then (nI k, true, σ) else L (nI k + -1) true σ := by
  have hp : (0 < nI k) = True := eq_true (nI_lt (a := 0) (by omega) (by omega))
  unfold b_Ground_landOf_2
  simp only [lt_, hp, if_true, rW_1_4 hW, ix_nI (show k < 2 ^ 31 by omega), cK_of (kW_1 hW), cA_of (kW_6 hW) (nW_6 hW) (show k < 4 by omega) (by decide), Bool.and_true]
  by_cases a : SI σ (w + 6) k = -1000000005
  · rw [if_pos a, if_neg (fun z => z.1 a)]
  · rw [if_neg a]
    by_cases c : mile < SI σ (w + 6) k
    · rw [if_pos c, if_neg (fun z => z.2 c)]
    · rw [if_neg c, if_pos ⟨a, c⟩]
theorem e_landC (hW : LayW w σ) (mile : Int32) : f_Ground_landOf (w + 1) mile true σ = (if ldC σ w mile 3 then 3 else if ldC σ w mile 2 then 2 else if ldC σ w mile 1 then 1 else 0, true, σ) := by
  obtain ⟨N, hN⟩ : ∃ N, fuel_ = N + 4 := ⟨69996, rfl⟩
  unfold f_Ground_landOf
  simp only [lt_]
  rw [hN, show N + 4 = (N + 3) + 1 from rfl, lp_S, show (3 : Int32) = nI 3 from rfl, it_landC hW mile _ (by decide) (by decide), show nI 3 + -1 = nI 2 by decide, show N + 3 = (N + 2) + 1 from rfl, lp_S, it_landC hW mile _ (by decide) (by decide), show nI 2 + -1 = nI 1 by decide, show N + 2 = (N + 1) + 1 from rfl, lp_S, it_landC hW mile _ (by decide) (by decide), show nI 1 + -1 = 0 by decide, lp_S]
  unfold b_Ground_landOf_2
  simp only [lt_, show ((0 : Int32) < 0) = False by decide, if_false, if_pair]
  rfl
theorem it_landM (hY : LayY Y ρ) (mile : Int32) (L : Int32 → Int32 → Bool → Sto → Rs Int32) {k : Nat} (h3 : k < 4) (x : Int32) : b_Model_landOf_4 Y mile L x (nI k) true ρ = L (if ldM ρ Y mile k then nI k else x) (nI k + 1) true ρ := by
  have hp : (nI k < (4 : Int32)) = True := eq_true (nI_lt (b := 4) (by omega) (by decide))
  unfold b_Model_landOf_4
  simp only [lt_, hp, if_true, rY_0 hY, show (10 : Int32) + nI k = nI (10 + k) from nI_add 10 k, ix_nI (show 10 + k < 2 ^ 31 by omega), cK_of (kY_0 hY), cY hY (show 10 + k < 3210 by omega), Bool.and_true]
  by_cases a : SI ρ (Y + 1) (10 + k) < 0
  · rw [if_pos a, if_neg (fun z => z.1 a)]
  · rw [if_neg a]
    by_cases c : mile < SI ρ (Y + 1) (10 + k)
    · rw [if_pos c, if_neg (fun z => z.2 c)]
    · rw [if_neg c, if_pos ⟨a, c⟩]
theorem e_landM (hY : LayY Y ρ) (mile : Int32) : f_Model_landOf Y mile true ρ = (if ldM ρ Y mile 3 then 3 else if ldM ρ Y mile 2 then 2 else if ldM ρ Y mile 1 then 1 else 0, true, ρ) := by
  unfold f_Model_landOf
  simp only [lt_]
  exact lp_acc (σ := ρ) 4 (fun k x => if ldM ρ Y mile k then nI k else x) (fun x => (x, true, ρ)) (by decide) (fun L i a hi => it_landM hY mile L hi a) (fun L a => by unfold b_Model_landOf_4; rw [if_neg (show ¬ nI 4 < (4 : Int32) by decide)]) 1 0 (by decide)
theorem ld_same {S : Nat → Int32} {B : Nat → Int32} {k : Nat} {mile : Int32} (h : (S (10 + k) = -1 ∧ B k = NONE_) ∨ (bd (S (10 + k)) 0 2000 ∧ B k = S (10 + k))) : (¬ B k = -1000000005 ∧ ¬ mile < B k) ↔ (¬ S (10 + k) < 0 ∧ ¬ mile < S (10 + k)) := by
  rcases h with ⟨h1, h2⟩ | ⟨h1, h2⟩
  · rw [h1, h2]
    exact ⟨fun z => absurd rfl z.1, fun z => absurd (by decide) z.1⟩
  · rw [h2]
    have q : ¬ S (10 + k) < 0 := fun z => by have := Int32.lt_iff_toInt_lt.mp z; have h0 := h1.1; simp at this; omega
    have q2 : ¬ S (10 + k) = -1000000005 := fun z => q (by rw [z]; decide)
    exact ⟨fun z => ⟨q, z.2⟩, fun z => ⟨q2, z.2⟩⟩
theorem ld_iff {S : Nat → Int32} (h : rG σ w S) (hS : SI ρ (Y + 1) = S) (mile : Int32) {k : Nat} (h1 : 1 ≤ k) (h3 : k ≤ 3) : ldC σ w mile k ↔ ldM ρ Y mile k := by
  obtain ⟨np, nf, p1, p2, p3, p4, p5, p6, p7, p8, p9, p10, p11, p12⟩ := h
  unfold ldC ldM
  rw [hS]
  exact ld_same (B := SI σ (w + 6)) (p12 k h1 h3)
theorem if_iff {p q : Prop} [Decidable p] [Decidable q] (h : p ↔ q) {α : Type} {a b : α} : (if p then a else b) = if q then a else b := by
  by_cases hq : q
  · rw [if_pos hq, if_pos (h.mpr hq)]
  · rw [if_neg hq, if_neg (fun z => hq (h.mp z))]
theorem op_6 : Op_6 X Y (REL X Y) := by
  intro a σ ρ h
  have hX := h.2.2.1
  have hY : LayY Y (stn ρ (Shn σ)) := h.2.2.2.1
  have hW := hX.2.1
  have hG := (REL_now2 h).2.1
  obtain ⟨np, nf, p1, p2, p3, p4, p5, p6, p7, p8, p9, p10, p11, p12⟩ := id hG
  have e1' : SI (stn ρ (Shn σ)) (Y + 1) 1 = SI ρ (Y + 1) 1 := rfl
  by_cases ha : (0 : Int32) ≤ a ∧ a ≤ SI ρ (Y + 1) 1
  · refine OpOK_b (if ldM ρ Y a 3 then 3 else if ldM ρ Y a 2 then 2 else if ldM ρ Y a 1 then 1 else 0) h ?_ ?_
    · unfold f_Trail_landAt
      simp only [bd_, lt_, rX_0_0 hX, rW_0_0 hW, cK_of (kX_0 hX), cK_of (kW_0 hW), cK_of (kW_1 hW), Bool.and_true, e_hasMile (kW_1 hW), p7, inR_e1 ha, i10, if_false, e_landC hW a]
      rw [if_iff (ld_iff hG rfl a (k := 3) (by decide) (by decide)), if_iff (ld_iff hG rfl a (k := 2) (by decide) (by decide)), if_iff (ld_iff hG rfl a (k := 1) (by decide) (by decide))]
    · show f_Model_landAt Y a true (stn ρ (Shn σ)) = _
      unfold f_Model_landAt
      simp only [bd_, lt_, cK_of (kY_0 hY), Bool.and_true, e_isMile hY, e1', inR_e1 ha, i10, if_false, e_landM hY a]
      rfl
  · refine OpOK_b (-1000000001) h ?_ ?_
    · unfold f_Trail_landAt
      simp only [bd_, lt_, rX_0_0 hX, rW_0_0 hW, cK_of (kX_0 hX), cK_of (kW_0 hW), cK_of (kW_1 hW), Bool.and_true, e_hasMile (kW_1 hW), p7, inR_e0 ha, if_true]
    · show f_Model_landAt Y a true (stn ρ (Shn σ)) = _
      unfold f_Model_landAt
      simp only [bd_, lt_, cK_of (kY_0 hY), Bool.and_true, e_isMile hY, e1', inR_e0 ha, if_true]
end OP7
