/-! a world that becomes another one -/
section BEC
variable {X Y d s : Nat} {σ σ0 ρ : Sto} {C : Nat → Nat → Prop} {D : Nat → Prop}
/-- on the way from σ0: what is copied already from world s to world d -/
def Mv (d s : Nat) (σ0 σ : Sto) (C : Nat → Nat → Prop) (D : Nat → Prop) : Prop := Shn σ = Shn σ0 ∧ Stk σ = Stk σ0 ∧ Sln σ = Sln σ0 ∧ SL σ = SL σ0 ∧ Scs σ = Scs σ0 ∧ (∀ x, x < d ∨ d + 52 < x → SI σ x = SI σ0 x) ∧ (∀ a j, a ≤ 52 → C a j → SI σ (d + a) j = SI σ0 (s + a) j) ∧ (∀ x, x ≠ d + 12 → SR σ x = SR σ0 x) ∧ (∀ j, D j → SR σ (d + 12) j = SR σ0 (s + 12) j)
theorem Mv_0 : Mv d s σ0 σ0 (fun _ _ => False) (fun _ => False) := ⟨rfl, rfl, rfl, rfl, rfl, fun _ _ => rfl, fun _ _ _ h => h.elim, fun _ _ => rfl, fun _ h => h.elim⟩
theorem Mv_w {C' : Nat → Nat → Prop} {D' : Nat → Prop} (h : Mv d s σ0 σ C D) (hC : ∀ a j, C' a j → C a j) (hD : ∀ j, D' j → D j) : Mv d s σ0 σ C' D' :=
  ⟨h.1, h.2.1, h.2.2.1, h.2.2.2.1, h.2.2.2.2.1, h.2.2.2.2.2.1, fun a j ha hj => h.2.2.2.2.2.2.1 a j ha (hC a j hj), h.2.2.2.2.2.2.2.1, fun j hj => h.2.2.2.2.2.2.2.2 j (hD j hj)⟩
theorem Mv_pI (h : Mv d s σ0 σ C D) (hd : s + 52 < d ∨ d + 52 < s) (a f : Nat) (ha : a ≤ 52) : Mv d s σ0 (pI σ (d + a) f (SI σ (s + a) f)) (fun b j => C b j ∨ (b = a ∧ j = f)) D := by
  obtain ⟨h0, h1, h2, h3, h4, h5, h6, h7, h8⟩ := h
  refine ⟨by rw [Shn_pI, h0], by rw [Stk_pI, h1], by rw [Sln_pI, h2], by rw [SL_pI, h3], by rw [Scs_pI, h4], fun x hx => by rw [SI_pI, up2_ne (by omega), h5 x hx], fun b j hb hj => ?_, fun x hx => by rw [SR_pI, h7 x hx], fun j hj => by rw [SR_pI, h8 j hj]⟩
  rw [SI_pI, h5 (s + a) (by omega)]
  by_cases e : b = a ∧ j = f
  · rw [e.1, e.2, up2_s]
  · have hc : C b j := hj.resolve_right e
    by_cases eb : b = a
    · subst eb
      rw [up2_nj (fun z => e ⟨rfl, z⟩)]
      exact h6 b j hb hc
    · rw [up2_ne' (by omega)]
      exact h6 b j hb hc
theorem Mv_rI (h : Mv d s σ0 σ C D) (hd : s + 52 < d ∨ d + 52 < s) (a n : Nat) (ha : a ≤ 52) : Mv d s σ0 (rI σ (d + a) (va_cpy (SI σ (s + a)) (SI σ (d + a)) 0 0 n)) (fun b j => C b j ∨ (b = a ∧ j < n)) D := by
  obtain ⟨h0, h1, h2, h3, h4, h5, h6, h7, h8⟩ := h
  refine ⟨by rw [Shn_rI, h0], by rw [Stk_rI, h1], by rw [Sln_rI, h2], by rw [SL_rI, h3], by rw [Scs_rI, h4], fun x hx => by rw [SI_rI, up1_ne' (by omega), h5 x hx], fun b j hb hj => ?_, fun x hx => by rw [SR_rI, h7 x hx], fun j hj => by rw [SR_rI, h8 j hj]⟩
  rw [SI_rI]
  by_cases eb : b = a
  · subst eb
    rw [up1_s]
    unfold va_cpy
    by_cases hn : j < n
    · rw [if_pos (by omega), Nat.sub_zero, Nat.zero_add, h5 (s + b) (by omega)]
    · rw [if_neg (by omega)]
      exact h6 b j hb (hj.resolve_right (fun z => hn z.2))
  · rw [up1_ne' (by omega)]
    exact h6 b j hb (hj.resolve_right (fun z => eb z.1))
theorem Mv_pR (h : Mv d s σ0 σ C D) (hd : s + 52 < d ∨ d + 52 < s) (f : Nat) : Mv d s σ0 (pR σ (d + 12) f (SR σ (s + 12) f)) C (fun j => D j ∨ j = f) := by
  obtain ⟨h0, h1, h2, h3, h4, h5, h6, h7, h8⟩ := h
  refine ⟨by rw [Shn_pR, h0], by rw [Stk_pR, h1], by rw [Sln_pR, h2], by rw [SL_pR, h3], by rw [Scs_pR, h4], fun x hx => by rw [SI_pR, h5 x hx], fun b j hb hj => by rw [SI_pR, h6 b j hb hj], fun x hx => by rw [SR_pR, up2_ne hx, h7 x hx], fun j hj => ?_⟩
  rw [SR_pR, h7 (s + 12) (by omega)]
  by_cases e : j = f
  · rw [e, up2_s]
  · rw [up2_nj e]
    exact h8 j (hj.resolve_right e)
theorem wR_12 : ∀ r ∈ wR, r.1 ≠ 12 := by decide
theorem wR_52 : ∀ r ∈ wR, r.1 ≤ 52 := by decide
theorem Mv_Ld (h : Mv d s σ0 σ C D) (hL : LayW d σ0) : LayW d σ := by
  obtain ⟨h0, h1, h2, h3, h4, h5, h6, h7, h8⟩ := h
  unfold LayW LayT
  rw [h1, h2]
  exact ⟨hL.1, fun r hr => by rw [h7 (d + r.1) (by have := wR_12 r hr; omega)]; exact hL.2 r hr⟩
theorem Mv_Ls (h : Mv d s σ0 σ C D) (hd : s + 52 < d ∨ d + 52 < s) (hL : LayW s σ0) : LayW s σ := by
  obtain ⟨h0, h1, h2, h3, h4, h5, h6, h7, h8⟩ := h
  unfold LayW LayT
  rw [h1, h2]
  exact ⟨hL.1, fun r hr => by rw [h7 (s + r.1) (by have := wR_52 r hr; omega)]; exact hL.2 r hr⟩
theorem cpc_rI {a x y k : Nat} {f : Nat → Int32} {p q z : Int32} : cpc (rI σ a f) x y k p q z = cpc σ x y k p q z := rfl
theorem cpc_pI {a j x y k : Nat} {v : Int32} {p q z : Int32} : cpc (pI σ a j v) x y k p q z = cpc σ x y k p q z := rfl
theorem cpc_ok {a b kd n z : Nat} (h1 : Stk σ a = kd) (h2 : Stk σ b = kd) (n1 : Sln σ a = n) (n2 : Sln σ b = n) (hz : z ≤ n) (hb : z < 2 ^ 31) {z' : Int32} (ez : z' = nI z) : cpc σ a b kd 0 0 z' = true := by
  subst ez
  unfold cpc
  rw [cK_of h1, cK_of h2, n1, n2, ix_nI hb, show ix (0 : Int32) = 0 from rfl, decide_eq_false (nI_pos hb), Nat.zero_add, decide_eq_true hz]
  rfl
def gS (a j : Nat) : Prop := (a = 1 ∧ 9 ≤ j ∧ j ≤ 11) ∨ (2 ≤ a ∧ a ≤ 5 ∧ j < 16) ∨ (a = 6 ∧ j < 4) ∨ (7 ≤ a ∧ a ≤ 10 ∧ j < 6)
theorem mv_Ground (h : Mv d s σ0 σ C D) (hd : s + 52 < d ∨ d + 52 < s) (L0d : LayW d σ0) (L0s : LayW s σ0) : ∃ σ', f_Ground_become (d + 1) (s + 1) true σ = ((), true, σ') ∧ Mv d s σ0 σ' (fun a j => C a j ∨ gS a j) D := by
  have Ld := Mv_Ld h L0d
  have Ls := Mv_Ls h hd L0s
  refine ⟨_, ?_, Mv_w (Mv_pI (Mv_pI (Mv_pI (Mv_rI (Mv_rI (Mv_rI (Mv_rI (Mv_rI (Mv_rI (Mv_rI (Mv_rI (Mv_rI h hd 2 16 (by decide)) hd 3 16 (by decide)) hd 4 16 (by decide)) hd 5 16 (by decide)) hd 6 4 (by decide)) hd 7 6 (by decide)) hd 8 6 (by decide)) hd 9 6 (by decide)) hd 10 6 (by decide)) hd 1 9 (by decide)) hd 1 10 (by decide)) hd 1 11 (by decide)) (fun a j q => ?_) (fun j q => q)⟩
  · unfold f_Ground_become
    simp only [lt_, SR_rI, SR_pI, Sln_rI, Sln_pI, cK_rI, cK_pI, cpc_rI, cpc_pI, ofN, show ix (0 : Int32) = 0 from rfl, cK_of (kW_1 Ld), cK_of (kW_1 Ls), Bool.and_true, rW_1_0 Ld, rW_1_0 Ls, cpc_ok (kW_2 Ls) (kW_2 Ld) (nW_2 Ls) (nW_2 Ld) (show 16 ≤ 16 from Nat.le_refl _) (by decide) (show (16 : Int32) = nI 16 from rfl), show ix (16 : Int32) = 16 from rfl, ix_nI (show 16 < 2 ^ 31 by decide), rW_1_1 Ld, rW_1_1 Ls, cpc_ok (kW_3 Ls) (kW_3 Ld) (nW_3 Ls) (nW_3 Ld) (show 16 ≤ 16 from Nat.le_refl _) (by decide) (show (16 : Int32) = nI 16 from rfl), rW_1_2 Ld, rW_1_2 Ls, cpc_ok (kW_4 Ls) (kW_4 Ld) (nW_4 Ls) (nW_4 Ld) (show 16 ≤ 16 from Nat.le_refl _) (by decide) (show (16 : Int32) = nI 16 from rfl), rW_1_3 Ld, rW_1_3 Ls, cpc_ok (kW_5 Ls) (kW_5 Ld) (nW_5 Ls) (nW_5 Ld) (show 16 ≤ 16 from Nat.le_refl _) (by decide) (show (16 : Int32) = nI 16 from rfl), rW_1_4 Ld, rW_1_4 Ls, cpc_ok (kW_6 Ls) (kW_6 Ld) (nW_6 Ls) (nW_6 Ld) (show 4 ≤ 4 from Nat.le_refl _) (by decide) (show (4 : Int32) = nI 4 from rfl), nW_6 Ld, cK_of (kW_6 Ld), cpc_ok (kW_6 Ls) (kW_6 Ld) (nW_6 Ls) (nW_6 Ld) (show 4 ≤ 4 from Nat.le_refl _) (by decide) (rfl : nI 4 = nI 4), show ix (4 : Int32) = 4 from rfl, ix_nI (show 4 < 2 ^ 31 by decide), rW_1_5 Ld, rW_1_5 Ls, cpc_ok (kW_7 Ls) (kW_7 Ld) (nW_7 Ls) (nW_7 Ld) (show 6 ≤ 6 from Nat.le_refl _) (by decide) (show (6 : Int32) = nI 6 from rfl), show ix (6 : Int32) = 6 from rfl, ix_nI (show 6 < 2 ^ 31 by decide), rW_1_6 Ld, rW_1_6 Ls, cpc_ok (kW_8 Ls) (kW_8 Ld) (nW_8 Ls) (nW_8 Ld) (show 6 ≤ 6 from Nat.le_refl _) (by decide) (show (6 : Int32) = nI 6 from rfl), rW_1_7 Ld, rW_1_7 Ls, cpc_ok (kW_9 Ls) (kW_9 Ld) (nW_9 Ls) (nW_9 Ld) (show 6 ≤ 6 from Nat.le_refl _) (by decide) (show (6 : Int32) = nI 6 from rfl), rW_1_8 Ld, rW_1_8 Ls, cpc_ok (kW_10 Ls) (kW_10 Ld) (nW_10 Ls) (nW_10 Ld) (show 6 ≤ 6 from Nat.le_refl _) (by decide) (show (6 : Int32) = nI 6 from rfl)]
  · by_cases hC : C a j
    · simp only [hC, true_or]
    · unfold gS at q
      simp only [hC, false_or] at q ⊢
      rcases (show a = 1 ∨ a = 2 ∨ a = 3 ∨ a = 4 ∨ a = 5 ∨ a = 6 ∨ a = 7 ∨ a = 8 ∨ a = 9 ∨ a = 10 by omega) with rfl | rfl | rfl | rfl | rfl | rfl | rfl | rfl | rfl | rfl <;> (simp at q ⊢; omega)
def poS (a j : Nat) : Prop := (a = 15 ∧ j = 5) ∨ (16 ≤ a ∧ a ≤ 20 ∧ j < 20)
theorem mv_Post (h : Mv d s σ0 σ C D) (hd : s + 52 < d ∨ d + 52 < s) (L0d : LayW d σ0) (L0s : LayW s σ0) : ∃ σ', f_Post_become (d + 15) (s + 15) true σ = ((), true, σ') ∧ Mv d s σ0 σ' (fun a j => C a j ∨ poS a j) D := by
  have Ld := Mv_Ld h L0d
  have Ls := Mv_Ls h hd L0s
  refine ⟨_, ?_, Mv_w (Mv_pI (Mv_rI (Mv_rI (Mv_rI (Mv_rI (Mv_rI h hd 16 20 (by decide)) hd 17 20 (by decide)) hd 18 20 (by decide)) hd 19 20 (by decide)) hd 20 20 (by decide)) hd 15 5 (by decide)) (fun a j q => ?_) (fun j q => q)⟩
  · unfold f_Post_become
    simp only [lt_, SR_rI, SR_pI, Sln_rI, Sln_pI, cK_rI, cK_pI, cpc_rI, cpc_pI, ofN, show ix (0 : Int32) = 0 from rfl, cK_of (kW_15 Ld), cK_of (kW_15 Ls), Bool.and_true, rW_15_0 Ld, rW_15_0 Ls, cpc_ok (kW_16 Ls) (kW_16 Ld) (nW_16 Ls) (nW_16 Ld) (show 20 ≤ 20 from Nat.le_refl _) (by decide) (show (20 : Int32) = nI 20 from rfl), show ix (20 : Int32) = 20 from rfl, ix_nI (show 20 < 2 ^ 31 by decide), rW_15_1 Ld, rW_15_1 Ls, cpc_ok (kW_17 Ls) (kW_17 Ld) (nW_17 Ls) (nW_17 Ld) (show 20 ≤ 20 from Nat.le_refl _) (by decide) (show (20 : Int32) = nI 20 from rfl), rW_15_2 Ld, rW_15_2 Ls, cpc_ok (kW_18 Ls) (kW_18 Ld) (nW_18 Ls) (nW_18 Ld) (show 20 ≤ 20 from Nat.le_refl _) (by decide) (show (20 : Int32) = nI 20 from rfl), rW_15_3 Ld, rW_15_3 Ls, cpc_ok (kW_19 Ls) (kW_19 Ld) (nW_19 Ls) (nW_19 Ld) (show 20 ≤ 20 from Nat.le_refl _) (by decide) (show (20 : Int32) = nI 20 from rfl), rW_15_4 Ld, rW_15_4 Ls, cpc_ok (kW_20 Ls) (kW_20 Ld) (nW_20 Ls) (nW_20 Ld) (show 20 ≤ 20 from Nat.le_refl _) (by decide) (show (20 : Int32) = nI 20 from rfl)]
  · by_cases hC : C a j
    · simp only [hC, true_or]
    · unfold poS at q
      simp only [hC, false_or] at q ⊢
      omega
def peS (a j : Nat) : Prop := (a = 21 ∧ j = 3) ∨ (a = 22 ∧ j < 7) ∨ (23 ≤ a ∧ a ≤ 24 ∧ j < 16)
theorem mv_Permits (h : Mv d s σ0 σ C D) (hd : s + 52 < d ∨ d + 52 < s) (L0d : LayW d σ0) (L0s : LayW s σ0) : ∃ σ', f_Permits_become (d + 21) (s + 21) true σ = ((), true, σ') ∧ Mv d s σ0 σ' (fun a j => C a j ∨ peS a j) D := by
  have Ld := Mv_Ld h L0d
  have Ls := Mv_Ls h hd L0s
  refine ⟨_, ?_, Mv_w (Mv_pI (Mv_rI (Mv_rI (Mv_rI h hd 22 7 (by decide)) hd 23 16 (by decide)) hd 24 16 (by decide)) hd 21 3 (by decide)) (fun a j q => ?_) (fun j q => q)⟩
  · unfold f_Permits_become
    simp only [lt_, SR_rI, SR_pI, Sln_rI, Sln_pI, cK_rI, cK_pI, cpc_rI, cpc_pI, ofN, show ix (0 : Int32) = 0 from rfl, cK_of (kW_21 Ld), cK_of (kW_21 Ls), Bool.and_true, rW_21_0 Ld, rW_21_0 Ls, cpc_ok (kW_22 Ls) (kW_22 Ld) (nW_22 Ls) (nW_22 Ld) (show 7 ≤ 7 from Nat.le_refl _) (by decide) (show (7 : Int32) = nI 7 from rfl), nW_22 Ld, cK_of (kW_22 Ld), cpc_ok (kW_22 Ls) (kW_22 Ld) (nW_22 Ls) (nW_22 Ld) (show 7 ≤ 7 from Nat.le_refl _) (by decide) (rfl : nI 7 = nI 7), show ix (7 : Int32) = 7 from rfl, ix_nI (show 7 < 2 ^ 31 by decide), rW_21_1 Ld, rW_21_1 Ls, cpc_ok (kW_23 Ls) (kW_23 Ld) (nW_23 Ls) (nW_23 Ld) (show 16 ≤ 16 from Nat.le_refl _) (by decide) (show (16 : Int32) = nI 16 from rfl), show ix (16 : Int32) = 16 from rfl, ix_nI (show 16 < 2 ^ 31 by decide), rW_21_2 Ld, rW_21_2 Ls, cpc_ok (kW_24 Ls) (kW_24 Ld) (nW_24 Ls) (nW_24 Ld) (show 16 ≤ 16 from Nat.le_refl _) (by decide) (show (16 : Int32) = nI 16 from rfl)]
  · by_cases hC : C a j
    · simp only [hC, true_or]
    · unfold peS at q
      simp only [hC, false_or] at q ⊢
      omega
def suS (a j : Nat) : Prop := (a = 28 ∧ (j = 0 ∨ j = 4)) ∨ (29 ≤ a ∧ a ≤ 31 ∧ j < 12)
theorem mv_Supply (h : Mv d s σ0 σ C D) (hd : s + 52 < d ∨ d + 52 < s) (L0d : LayW d σ0) (L0s : LayW s σ0) : ∃ σ', f_Supply_become (d + 28) (s + 28) true σ = ((), true, σ') ∧ Mv d s σ0 σ' (fun a j => C a j ∨ suS a j) D := by
  have Ld := Mv_Ld h L0d
  have Ls := Mv_Ls h hd L0s
  refine ⟨_, ?_, Mv_w (Mv_pI (Mv_rI (Mv_rI (Mv_rI (Mv_pI h hd 28 0 (by decide)) hd 29 12 (by decide)) hd 30 12 (by decide)) hd 31 12 (by decide)) hd 28 4 (by decide)) (fun a j q => ?_) (fun j q => q)⟩
  · unfold f_Supply_become
    simp only [lt_, SR_rI, SR_pI, Sln_rI, Sln_pI, cK_rI, cK_pI, cpc_rI, cpc_pI, ofN, show ix (0 : Int32) = 0 from rfl, cK_of (kW_28 Ld), cK_of (kW_28 Ls), Bool.and_true, rW_28_1 Ld, rW_28_1 Ls, cpc_ok (kW_29 Ls) (kW_29 Ld) (nW_29 Ls) (nW_29 Ld) (show 12 ≤ 12 from Nat.le_refl _) (by decide) (show (12 : Int32) = nI 12 from rfl), show ix (12 : Int32) = 12 from rfl, ix_nI (show 12 < 2 ^ 31 by decide), rW_28_2 Ld, rW_28_2 Ls, cpc_ok (kW_30 Ls) (kW_30 Ld) (nW_30 Ls) (nW_30 Ld) (show 12 ≤ 12 from Nat.le_refl _) (by decide) (show (12 : Int32) = nI 12 from rfl), rW_28_3 Ld, rW_28_3 Ls, cpc_ok (kW_31 Ls) (kW_31 Ld) (nW_31 Ls) (nW_31 Ld) (show 12 ≤ 12 from Nat.le_refl _) (by decide) (show (12 : Int32) = nI 12 from rfl)]
  · by_cases hC : C a j
    · simp only [hC, true_or]
    · unfold suS at q
      simp only [hC, false_or] at q ⊢
      omega
def alS (a j : Nat) : Prop := (a = 35 ∧ j = 2) ∨ (36 ≤ a ∧ a ≤ 37 ∧ j < 20)
theorem mv_Album (h : Mv d s σ0 σ C D) (hd : s + 52 < d ∨ d + 52 < s) (L0d : LayW d σ0) (L0s : LayW s σ0) : ∃ σ', f_Album_become (d + 35) (s + 35) true σ = ((), true, σ') ∧ Mv d s σ0 σ' (fun a j => C a j ∨ alS a j) D := by
  have Ld := Mv_Ld h L0d
  have Ls := Mv_Ls h hd L0s
  refine ⟨_, ?_, Mv_w (Mv_pI (Mv_rI (Mv_rI h hd 36 20 (by decide)) hd 37 20 (by decide)) hd 35 2 (by decide)) (fun a j q => ?_) (fun j q => q)⟩
  · unfold f_Album_become
    simp only [lt_, SR_rI, SR_pI, Sln_rI, Sln_pI, cK_rI, cK_pI, cpc_rI, cpc_pI, ofN, show ix (0 : Int32) = 0 from rfl, cK_of (kW_35 Ld), cK_of (kW_35 Ls), Bool.and_true, rW_35_0 Ld, rW_35_0 Ls, cpc_ok (kW_36 Ls) (kW_36 Ld) (nW_36 Ls) (nW_36 Ld) (show 20 ≤ 20 from Nat.le_refl _) (by decide) (show (20 : Int32) = nI 20 from rfl), show ix (20 : Int32) = 20 from rfl, ix_nI (show 20 < 2 ^ 31 by decide), rW_35_1 Ld, rW_35_1 Ls, cpc_ok (kW_37 Ls) (kW_37 Ld) (nW_37 Ls) (nW_37 Ld) (show 20 ≤ 20 from Nat.le_refl _) (by decide) (show (20 : Int32) = nI 20 from rfl)]
  · by_cases hC : C a j
    · simp only [hC, true_or]
    · unfold alS at q
      simp only [hC, false_or] at q ⊢
      omega
theorem mv_Walker (h : Mv d s σ0 σ C D) (hd : s + 52 < d ∨ d + 52 < s) (L0d : LayW d σ0) (L0s : LayW s σ0) {k : Nat} (hk : k < 10) : ∃ σ', f_Walker_become (d + (43 + k)) (s + (43 + k)) true σ = ((), true, σ') ∧ Mv d s σ0 σ' (fun a j => C a j ∨ (a = 43 + k ∧ j < 18)) D := by
  have Ld := kW_w (Mv_Ld h L0d) hk
  have Ls := kW_w (Mv_Ls h hd L0s) hk
  rw [Nat.add_assoc] at Ld Ls
  refine ⟨_, ?_, Mv_w (Mv_pI (Mv_pI (Mv_pI (Mv_pI (Mv_pI (Mv_pI (Mv_pI (Mv_pI (Mv_pI (Mv_pI (Mv_pI (Mv_pI (Mv_pI (Mv_pI (Mv_pI (Mv_pI (Mv_pI (Mv_pI h hd (43 + k) 0 (by omega)) hd (43 + k) 1 (by omega)) hd (43 + k) 2 (by omega)) hd (43 + k) 3 (by omega)) hd (43 + k) 4 (by omega)) hd (43 + k) 5 (by omega)) hd (43 + k) 6 (by omega)) hd (43 + k) 7 (by omega)) hd (43 + k) 8 (by omega)) hd (43 + k) 9 (by omega)) hd (43 + k) 10 (by omega)) hd (43 + k) 11 (by omega)) hd (43 + k) 12 (by omega)) hd (43 + k) 13 (by omega)) hd (43 + k) 14 (by omega)) hd (43 + k) 15 (by omega)) hd (43 + k) 16 (by omega)) hd (43 + k) 17 (by omega)) (fun a j q => ?_) (fun j q => q)⟩
  · unfold f_Walker_become
    simp only [lt_, cK_pI, cK_of Ld, cK_of Ls, Bool.and_true]
  · by_cases hC : C a j
    · simp only [hC, true_or]
    · simp only [hC, false_or] at q ⊢
      omega
theorem mv_Laws (h : Mv d s σ0 σ C (fun _ => False)) (hd : s + 52 < d ∨ d + 52 < s) (L0d : LayW d σ0) (L0s : LayW s σ0) (ht : ∀ k, k < 12 → SR σ0 (s + 12) k = 0 ∨ Stk σ0 (SR σ0 (s + 12) k) = 9) : ∃ σ', f_Laws_become (d + 11) (s + 11) true σ = ((), true, σ') ∧ Mv d s σ0 σ' (fun a j => C a j ∨ (a = 11 ∧ j = 1)) (fun j => j < 12) := by
  unfold f_Laws_become
  rw [lt_]
  obtain ⟨τ, ⟨q, -⟩, e⟩ := lp_ex (body := b_Laws_become_2 (d + 11) (s + 11)) (bad := fun (x2 : Int32) (b : Bool) (σ : Sto) => ((), false, σ)) 12 (fun i τ => Mv d s σ0 τ C (fun j => j < i) ∧ True) (fun τ => ((), true, pI τ (d + 11) 1 (SI τ (s + 11) 1))) (by decide) (fun i τ hi q => by
    obtain ⟨q, -⟩ := q
    have Ld := Mv_Ld q L0d
    have Ls := Mv_Ls q hd L0s
    refine ⟨_, ⟨Mv_w (Mv_pR q hd i) (fun a j z => z) (fun j z => by omega), trivial⟩, fun L => ?_⟩
    have hr : SR τ (s + 12) i = SR σ0 (s + 12) i := by rw [q.2.2.2.2.2.2.2.1 (s + 12) (by omega)]
    have hf : (decide (SR τ (s + 12) i = 0) || cK τ (SR τ (s + 12) i) 9) = true := by
      rw [hr]
      unfold cK
      rw [q.2.1]
      rcases ht i hi with z | z
      · rw [decide_eq_true z]; rfl
      · rw [decide_eq_true z, Bool.or_true]
    unfold b_Laws_become_2
    rw [if_pos (show nI i < (12 : Int32) from nI_lt (b := 12) hi (by decide))]
    simp only [lt_, rW_11_0 Ld, rW_11_0 Ls, ix_nI (show i < 2 ^ 31 by omega), cK_of (kW_11 Ld), cK_of (kW_11 Ls), cA_of (kW_12 Ld) (nW_12 Ld) hi (by decide), cA_of (kW_12 Ls) (nW_12 Ls) hi (by decide), hf, Bool.and_true]) (fun L τ q => by
    obtain ⟨q, -⟩ := q
    have Ld := Mv_Ld q L0d
    have Ls := Mv_Ls q hd L0s
    unfold b_Laws_become_2
    rw [if_neg (show ¬ nI 12 < (12 : Int32) by decide)]
    simp only [lt_, cK_of (kW_11 Ld), cK_of (kW_11 Ls), Bool.and_true]) σ ⟨Mv_w h (fun a j z => z) (fun j z => absurd z (by omega)), trivial⟩
  exact ⟨_, e, Mv_pI q hd 11 1 (by decide)⟩
/-- all that a world copies -/
def allS (nw a j : Nat) : Prop := gS a j ∨ (a = 11 ∧ j = 1) ∨ poS a j ∨ peS a j ∨ suS a j ∨ alS a j ∨ (a = 0 ∧ (j = 7 ∨ j = 8)) ∨ (43 ≤ a ∧ a < 43 + nw ∧ j < 18)
theorem mv_World (hd : s + 52 < d ∨ d + 52 < s) (L0d : LayW d σ) (L0s : LayW s σ) (ht : ∀ k, k < 12 → SR σ (s + 12) k = 0 ∨ Stk σ (SR σ (s + 12) k) = 9) {nw : Nat} (hn : nw ≤ 10) (hw : SI σ s 7 = nI nw) : ∃ σ', f_World_become d s true σ = ((), true, σ') ∧ Mv d s σ σ' (allS nw) (fun j => j < 12) := by
  obtain ⟨σ1, e1, m1⟩ := mv_Ground (Mv_0 (d := d) (s := s) (σ0 := σ)) hd L0d L0s
  obtain ⟨σ2, e2, m2⟩ := mv_Laws m1 hd L0d L0s ht
  obtain ⟨σ3, e3, m3⟩ := mv_Post m2 hd L0d L0s
  obtain ⟨σ4, e4, m4⟩ := mv_Permits m3 hd L0d L0s
  obtain ⟨σ5, e5, m5⟩ := mv_Supply m4 hd L0d L0s
  obtain ⟨σ6, e6, m6⟩ := mv_Album m5 hd L0d L0s
  have m7 := Mv_pI m6 hd 0 7 (by decide)
  rw [Nat.add_zero, Nat.add_zero] at m7
  have h7 : SI (pI σ6 d 7 (SI σ6 s 7)) d 7 = nI nw := by rw [SI_pI, up2_s, m6.2.2.2.2.2.1 s (by omega)]; exact hw
  obtain ⟨σ8, ⟨m8, h8⟩, e8⟩ := lp_ex (body := b_World_become_76 d s) (bad := fun (x2 : Int32) (b : Bool) (σ : Sto) => ((), false, σ)) nw (fun i τ => Mv d s σ τ (fun a j => (((((((False ∨ gS a j) ∨ (a = 11 ∧ j = 1)) ∨ poS a j) ∨ peS a j) ∨ suS a j) ∨ alS a j) ∨ (a = 0 ∧ j = 7)) ∨ (43 ≤ a ∧ a < 43 + i ∧ j < 18)) (fun j => j < 12) ∧ SI τ d 7 = nI nw) (fun τ => ((), true, pI τ d 8 (SI τ s 8))) (by omega) (fun i τ hi q => by
    obtain ⟨q, q7⟩ := q
    have Ld := Mv_Ld q L0d
    have Ls := Mv_Ls q hd L0s
    obtain ⟨τ', e, m⟩ := mv_Walker q hd L0d L0s (show i < 10 by omega)
    refine ⟨τ', ⟨Mv_w m (fun a j z => ?_) (fun j z => z), ?_⟩, fun L => ?_⟩
    · rcases z with z | z
      · exact Or.inl (Or.inl z)
      · by_cases e : a = 43 + i
        · exact Or.inr ⟨e, z.2.2⟩
        · exact Or.inl (Or.inr (by omega))
    · have z := m.2.2.2.2.2.2.1 0 7 (by decide) (Or.inl (Or.inl (Or.inr ⟨rfl, rfl⟩)))
      rw [Nat.add_zero, Nat.add_zero] at z
      rw [z]; exact hw
    · have ed := rW_42 Ld (show i < 10 by omega)
      have es := rW_42 Ls (show i < 10 by omega)
      have kd := kW_w Ld (show i < 10 by omega)
      rw [Nat.add_assoc] at ed es kd
      unfold b_World_become_76
      rw [q7, if_pos (show nI i < nI nw from nI_lt hi (by omega))]
      simp only [bd_, lt_, rW_0_6 Ld, rW_0_6 Ls, ix_nI (show i < 2 ^ 31 by omega), ed, es, cK_of (kW_0 Ld), cK_of (kW_0 Ls), cA_of (kW_42 Ld) (nW_42 Ld) (show i < 10 by omega) (by decide), cA_of (kW_42 Ls) (nW_42 Ls) (show i < 10 by omega) (by decide), cK_of kd, Bool.and_true, e]) (fun L τ q => by
    obtain ⟨q, q7⟩ := q
    have Ld := Mv_Ld q L0d
    have Ls := Mv_Ls q hd L0s
    unfold b_World_become_76
    rw [q7, if_neg (nI_nlt (Nat.le_refl nw) (by omega))]
    simp only [lt_, cK_of (kW_0 Ld), cK_of (kW_0 Ls), Bool.and_true]) (pI σ6 d 7 (SI σ6 s 7)) ⟨Mv_w m7 (fun a j z => by
      rcases z with z | z
      · exact z
      · exact absurd z (by omega)) (fun j z => z), h7⟩
  have m9 := Mv_pI m8 hd 0 8 (by decide)
  rw [Nat.add_zero, Nat.add_zero] at m9
  refine ⟨_, ?_, Mv_w m9 (fun a j z => ?_) (fun j z => z)⟩
  · have L1d := Mv_Ld m1 L0d
    have L1s := Mv_Ls m1 hd L0s
    have L2d := Mv_Ld m2 L0d
    have L2s := Mv_Ls m2 hd L0s
    have L3d := Mv_Ld m3 L0d
    have L3s := Mv_Ls m3 hd L0s
    have L4d := Mv_Ld m4 L0d
    have L4s := Mv_Ls m4 hd L0s
    have L5d := Mv_Ld m5 L0d
    have L5s := Mv_Ls m5 hd L0s
    have L6d := Mv_Ld m6 L0d
    have L6s := Mv_Ls m6 hd L0s
    rw [f_World_become, rW_0_0 L0d, rW_0_0 L0s, cK_of (kW_0 L0d), cK_of (kW_0 L0s), cK_of (kW_1 L0d)]
    simp only [Bool.and_true, e1, bd_]
    rw [rW_0_1 L1d, rW_0_1 L1s, cK_of (kW_0 L1d), cK_of (kW_0 L1s), cK_of (kW_11 L1d)]
    simp only [Bool.and_true, e2]
    rw [rW_0_2 L2d, rW_0_2 L2s, cK_of (kW_0 L2d), cK_of (kW_0 L2s), cK_of (kW_15 L2d)]
    simp only [Bool.and_true, e3]
    rw [rW_0_3 L3d, rW_0_3 L3s, cK_of (kW_0 L3d), cK_of (kW_0 L3s), cK_of (kW_21 L3d)]
    simp only [Bool.and_true, e4]
    rw [rW_0_4 L4d, rW_0_4 L4s, cK_of (kW_0 L4d), cK_of (kW_0 L4s), cK_of (kW_28 L4d)]
    simp only [Bool.and_true, e5]
    rw [rW_0_5 L5d, rW_0_5 L5s, cK_of (kW_0 L5d), cK_of (kW_0 L5s), cK_of (kW_35 L5d)]
    simp only [Bool.and_true, e6]
    rw [lt_, lt_, cK_of (kW_0 L6d), cK_of (kW_0 L6s)]
    simp only [Bool.and_true]
    exact e8
  · unfold allS at z
    rcases z with z | z | z | z | z | z | z | z
    · exact Or.inl (Or.inl (Or.inl (Or.inl (Or.inl (Or.inl (Or.inl (Or.inl (Or.inr z))))))))
    · exact Or.inl (Or.inl (Or.inl (Or.inl (Or.inl (Or.inl (Or.inl (Or.inr z)))))))
    · exact Or.inl (Or.inl (Or.inl (Or.inl (Or.inl (Or.inl (Or.inr z))))))
    · exact Or.inl (Or.inl (Or.inl (Or.inl (Or.inl (Or.inr z)))))
    · exact Or.inl (Or.inl (Or.inl (Or.inl (Or.inr z))))
    · exact Or.inl (Or.inl (Or.inl (Or.inr z)))
    · rcases z.2 with e | e
      · exact Or.inl (Or.inl (Or.inr ⟨z.1, e⟩))
      · exact Or.inr ⟨z.1, e⟩
    · exact Or.inl (Or.inr z)
end BEC
