/-! a day: what stays together -/
section DAY
variable {X Y w : Nat} {σ σ' σ'' ρ ρ' ρ'' : Sto} {S S' : Nat → Int32}
/-- where a walker's field lies in the reference's row -/
def co (i : Nat) : Nat := match i with
  | 0 => 15
  | 1 => 2
  | 2 => 16
  | 3 => 17
  | 4 => 18
  | 5 => 0
  | 6 => 1
  | 7 => 3
  | 8 => 4
  | 9 => 5
  | 10 => 6
  | 11 => 7
  | 12 => 8
  | 13 => 9
  | 14 => 10
  | 15 => 11
  | 16 => 12
  | 17 => 13
  | _ => 19
theorem co_inj : ∀ i, i < 18 → ∀ j, j < 18 → co i = co j → i = j := by decide
theorem co_lt : ∀ i, i < 18 → co i < 19 := by decide
def rE (σ : Sto) (a : Nat) (S : Nat → Int32) (r : Nat) : Prop := ∀ i, i < 18 → SI σ a i = S (r + co i)
def wBd (S : Nat → Int32) (r : Nat) : Prop := bd (S r) 0 3 ∧ bd (S (r + 1)) 0 (S 1).toInt ∧ bd (S (r + 2)) 1 40 ∧ bd (S (r + 3)) 0 20 ∧ bd (S (r + 9)) 0 9 ∧ bd (S (r + 15)) 0 999 ∧ bd (S (r + 16)) 0 5 ∧ bd (S (r + 17)) 1 20 ∧ bd (S (r + 18)) 1 99 ∧ (S r = 0 → S (r + 1) = 0)
theorem rW1_iff {a r : Nat} : rW1 σ a S r ↔ rE σ a S r ∧ wBd S r := by
  constructor
  · intro h
    unfold rW1 at h
    obtain ⟨q0, q1, q2, q3, q4, q5, q6, q7, q8, q9, q10, q11, q12, q13, q14, q15, q16, q17, b⟩ := h
    refine ⟨fun i hi => ?_, b⟩
    rcases (show i = 0 ∨ i = 1 ∨ i = 2 ∨ i = 3 ∨ i = 4 ∨ i = 5 ∨ i = 6 ∨ i = 7 ∨ i = 8 ∨ i = 9 ∨ i = 10 ∨ i = 11 ∨ i = 12 ∨ i = 13 ∨ i = 14 ∨ i = 15 ∨ i = 16 ∨ i = 17 by omega) with rfl | rfl | rfl | rfl | rfl | rfl | rfl | rfl | rfl | rfl | rfl | rfl | rfl | rfl | rfl | rfl | rfl | rfl
    · exact q0
    · exact q1
    · exact q2
    · exact q3
    · exact q4
    · exact q5
    · exact q6
    · exact q7
    · exact q8
    · exact q9
    · exact q10
    · exact q11
    · exact q12
    · exact q13
    · exact q14
    · exact q15
    · exact q16
    · exact q17
  · intro ⟨h, b⟩
    exact ⟨h 0 (by decide), h 1 (by decide), h 2 (by decide), h 3 (by decide), h 4 (by decide), h 5 (by decide), h 6 (by decide), h 7 (by decide), h 8 (by decide), h 9 (by decide), h 10 (by decide), h 11 (by decide), h 12 (by decide), h 13 (by decide), h 14 (by decide), h 15 (by decide), h 16 (by decide), h 17 (by decide), b⟩
/-- what a day may change, class -/
def FrC (w : Nat) (σ σ' : Sto) : Prop := Shn σ' = Shn σ ∧ Stk σ' = Stk σ ∧ Sln σ' = Sln σ ∧ SR σ' = SR σ ∧ SL σ' = SL σ ∧ Scs σ' = Scs σ ∧ (∀ x, ¬ (x = w ∨ x = w + 11 ∨ x = w + 13 ∨ x = w + 14 ∨ x = w + 20 ∨ (w + 43 ≤ x ∧ x ≤ w + 52)) → SI σ' x = SI σ x) ∧ (∀ j, j ≠ 8 → SI σ' w j = SI σ w j) ∧ (∀ j, j ≠ 4 → SI σ' (w + 11) j = SI σ (w + 11) j)
def dy (j : Nat) : Prop := (130 ≤ j ∧ j < 330) ∨ (340 ≤ j ∧ j < 440 ∧ (j - 340) % 5 = 4)
/-- and reference -/
def FrR (Y : Nat) (ρ ρ' : Sto) : Prop := Shn ρ' = Shn ρ ∧ Stk ρ' = Stk ρ ∧ Sln ρ' = Sln ρ ∧ SR ρ' = SR ρ ∧ SL ρ' = SL ρ ∧ Scs ρ' = Scs ρ ∧ (∀ x, x ≠ Y → x ≠ Y + 1 → x ≠ Y + 8 → x ≠ Y + 9 → SI ρ' x = SI ρ x) ∧ (∀ j, j ≠ 99 → SI ρ' Y j = SI ρ Y j) ∧ (∀ j, ¬ dy j → SI ρ' (Y + 1) j = SI ρ (Y + 1) j)
theorem FrC_0 : FrC w σ σ := ⟨rfl, rfl, rfl, rfl, rfl, rfl, fun _ _ => rfl, fun _ _ => rfl, fun _ _ => rfl⟩
theorem FrR_0 : FrR Y ρ ρ := ⟨rfl, rfl, rfl, rfl, rfl, rfl, fun _ _ _ _ _ => rfl, fun _ _ => rfl, fun _ _ => rfl⟩
theorem FrC_t (h : FrC w σ σ') (g : FrC w σ' σ'') : FrC w σ σ'' :=
  ⟨by rw [g.1, h.1], by rw [g.2.1, h.2.1], by rw [g.2.2.1, h.2.2.1], by rw [g.2.2.2.1, h.2.2.2.1], by rw [g.2.2.2.2.1, h.2.2.2.2.1], by rw [g.2.2.2.2.2.1, h.2.2.2.2.2.1], fun x hx => by rw [g.2.2.2.2.2.2.1 x hx, h.2.2.2.2.2.2.1 x hx], fun j hj => by rw [g.2.2.2.2.2.2.2.1 j hj, h.2.2.2.2.2.2.2.1 j hj], fun j hj => by rw [g.2.2.2.2.2.2.2.2 j hj, h.2.2.2.2.2.2.2.2 j hj]⟩
theorem FrR_t (h : FrR Y ρ ρ') (g : FrR Y ρ' ρ'') : FrR Y ρ ρ'' :=
  ⟨by rw [g.1, h.1], by rw [g.2.1, h.2.1], by rw [g.2.2.1, h.2.2.1], by rw [g.2.2.2.1, h.2.2.2.1], by rw [g.2.2.2.2.1, h.2.2.2.2.1], by rw [g.2.2.2.2.2.1, h.2.2.2.2.2.1], fun x a b c d => by rw [g.2.2.2.2.2.2.1 x a b c d, h.2.2.2.2.2.2.1 x a b c d], fun j hj => by rw [g.2.2.2.2.2.2.2.1 j hj, h.2.2.2.2.2.2.2.1 j hj], fun j hj => by rw [g.2.2.2.2.2.2.2.2 j hj, h.2.2.2.2.2.2.2.2 j hj]⟩
theorem FrC_p {a j : Nat} {v : Int32} (h : FrC w σ σ') (ha : a = w + 13 ∨ a = w + 14 ∨ a = w + 20 ∨ (w + 43 ≤ a ∧ a ≤ w + 52)) : FrC w σ (pI σ' a j v) :=
  ⟨by rw [Shn_pI, h.1], by rw [Stk_pI, h.2.1], by rw [Sln_pI, h.2.2.1], by rw [SR_pI, h.2.2.2.1], by rw [SL_pI, h.2.2.2.2.1], by rw [Scs_pI, h.2.2.2.2.2.1], fun x hx => by rw [SI_pI, up2_ne (by omega), h.2.2.2.2.2.2.1 x hx], fun i hi => by rw [SI_pI, up2_ne' (by omega), h.2.2.2.2.2.2.2.1 i hi], fun i hi => by rw [SI_pI, up2_ne' (by omega), h.2.2.2.2.2.2.2.2 i hi]⟩
theorem FrC_w (h : FrW w σ σ') : FrC w σ σ' := ⟨h.1, h.2.1, h.2.2.1, h.2.2.2.1, h.2.2.2.2.1, h.2.2.2.2.2.1, fun x hx => h.2.2.2.2.2.2.1 x (by omega) (by omega), fun j hj => by rw [h.2.2.2.2.2.2.1 w (by omega) (by omega)], h.2.2.2.2.2.2.2⟩
theorem FrR_p {j : Nat} {v : Int32} (h : FrR Y ρ ρ') (hj : dy j) : FrR Y ρ (pI ρ' (Y + 1) j v) :=
  ⟨by rw [Shn_pI, h.1], by rw [Stk_pI, h.2.1], by rw [Sln_pI, h.2.2.1], by rw [SR_pI, h.2.2.2.1], by rw [SL_pI, h.2.2.2.2.1], by rw [Scs_pI, h.2.2.2.2.2.1], fun x a b c d => by rw [SI_pI, up2_ne b, h.2.2.2.2.2.2.1 x a b c d], fun i hi => by rw [SI_pI, up2_ne' (by omega), h.2.2.2.2.2.2.2.1 i hi], fun i hi => by rw [SI_pI, up2_nj (show i ≠ j from fun z => hi (by rw [z]; exact hj)), h.2.2.2.2.2.2.2.2 i hi]⟩
theorem FrR_8 {j : Nat} {v : Int32} (h : FrR Y ρ ρ') : FrR Y ρ (pI ρ' (Y + 8) j v) :=
  ⟨by rw [Shn_pI, h.1], by rw [Stk_pI, h.2.1], by rw [Sln_pI, h.2.2.1], by rw [SR_pI, h.2.2.2.1], by rw [SL_pI, h.2.2.2.2.1], by rw [Scs_pI, h.2.2.2.2.2.1], fun x a b c d => by rw [SI_pI, up2_ne c, h.2.2.2.2.2.2.1 x a b c d], fun i hi => by rw [SI_pI, up2_ne' (by omega), h.2.2.2.2.2.2.2.1 i hi], fun i hi => by rw [SI_pI, up2_ne' (by omega), h.2.2.2.2.2.2.2.2 i hi]⟩
theorem FrR_m (h : FrM Y ρ ρ') : FrR Y ρ ρ' := ⟨h.1, h.2.1, h.2.2.1, h.2.2.2.1, h.2.2.2.2.1, h.2.2.2.2.2.1, fun x _ _ _ d => h.2.2.2.2.2.2 x d, fun j _ => by rw [h.2.2.2.2.2.2 Y (by omega)], fun j _ => by rw [h.2.2.2.2.2.2 (Y + 1) (by omega)]⟩
/-- the world and the row through a day -/
def DayI (X Y w : Nat) (σ ρ : Sto) : Prop := 1 ≤ X ∧ w + 52 < X + 173 ∧ LayW w σ ∧ LayY Y ρ ∧ Scs σ 0 ≠ 0 ∧ SI σ w 8 = SI ρ (Y + 1) 0 ∧ rG σ w (SI ρ (Y + 1)) ∧ rB σ w (SI ρ (Y + 1)) ∧ rW σ w (SI ρ (Y + 1)) ∧ rT X σ w (SI ρ (Y + 1))
theorem ndy {j : Nat} (h : (1 ≤ j ∧ j < 130) ∨ (330 ≤ j ∧ j < 340) ∨ 440 ≤ j) : ¬ dy j := by unfold dy; omega
theorem DayI_mk (h : DayI X Y w σ ρ) (fC : FrC w σ σ') (fR : FrR Y ρ ρ') (hd : SI σ' w 8 = SI ρ' (Y + 1) 0) (hB : rB σ' w (SI ρ' (Y + 1))) (hW : rW σ' w (SI ρ' (Y + 1))) : DayI X Y w σ' ρ' := by
  obtain ⟨h1, h2, h3, h4, h5, h6, h7, h8, h9, h10⟩ := h
  have eS : ∀ j, (1 ≤ j ∧ j < 130) ∨ (330 ≤ j ∧ j < 340) ∨ 440 ≤ j → SI ρ' (Y + 1) j = SI ρ (Y + 1) j := fun j hj => fR.2.2.2.2.2.2.2.2 j (ndy hj)
  exact ⟨h1, h2, LayT_c h3 fC.2.1 fC.2.2.1 fC.2.2.2.1, LayY_c h4 fR.2.1 fR.2.2.1 fR.2.2.2.1, by rw [fC.2.2.2.2.2.1]; exact h5, hd, rG_c h7 (fun a _ _ => fC.2.2.2.2.2.2.1 a (by omega)) (fun j hj => eS j (by omega)), hB, hW, rT_c2 h10 fC.1 fC.2.1 fC.2.2.1 (by rw [fC.2.2.2.1]) (fun x _ => by rw [fC.2.2.2.1]) (fC.2.2.2.2.2.2.2.2 1 (by decide)) (fun a ha => fC.2.2.2.2.2.2.1 a (by omega)) (fun j hj => eS j (by omega))⟩
/-- names, stack and pile alone have changed -/
theorem DayI_n (h : DayI X Y w σ ρ) (fC : FrC w σ σ') (fR : FrR Y ρ ρ') (c : ∀ x, x = w ∨ x = w + 20 ∨ (w + 43 ≤ x ∧ x ≤ w + 52) → SI σ' x = SI σ x) (r : SI ρ' (Y + 1) = SI ρ (Y + 1)) : DayI X Y w σ' ρ' := by
  obtain ⟨h1, h2, h3, h4, h5, h6, h7, h8, h9, h10⟩ := id h
  obtain ⟨np, nf, hp, -, -, hp2, -⟩ := id h7
  exact DayI_mk h fC fR (by rw [c w (by omega), r]; exact h6) (by
    rw [r]
    refine rB_c h8 hp hp2 (fun a a1 a2 => ?_) (fun _ _ => rfl) (fun _ _ => rfl) (Int32.le_refl _) (Int32.le_refl _)
    by_cases e : a = w + 20
    · exact c a (by omega)
    · exact fC.2.2.2.2.2.2.1 a (by omega)) (by
    rw [r]
    exact rW_c h9 (fun a ha => c a (by omega)) (fun _ _ => rfl))
theorem rE_p {a r i : Nat} {v : Int32} (h : rE σ a (SI ρ (Y + 1)) r) (hi : i < 18) : rE (pI σ a i v) a (SI (pI ρ (Y + 1) (r + co i) v) (Y + 1)) r := by
  intro j hj
  rw [SI_pI, SI_pI]
  by_cases e : j = i
  · rw [e, up2_s, up2_s]
  · rw [up2_nj e, up2_nj (fun z => e (co_inj j hj i hi (by omega)))]
    exact h j hj
/-- one field of a walker, written on both sides -/
theorem DayI_w (h : DayI X Y w σ ρ) {nw k i : Nat} {v : Int32} (hn : nw ≤ 10) (hk : k < nw) (w3 : SI ρ (Y + 1) 5 = nI nw) (hi : i < 18) (hb : wBd (SI (pI ρ (Y + 1) (130 + 20 * k + co i) v) (Y + 1)) (130 + 20 * k)) : DayI X Y w (pI σ (w + 43 + k) i v) (pI ρ (Y + 1) (130 + 20 * k + co i) v) := by
  obtain ⟨h1, h2, h3, h4, h5, h6, h7, h8, h9, h10⟩ := id h
  obtain ⟨np, nf, hp, -, -, hp2, -⟩ := id h7
  have hc := co_lt i hi
  have hS : ∀ j, ¬ (130 + 20 * k ≤ j ∧ j < 150 + 20 * k) → SI (pI ρ (Y + 1) (130 + 20 * k + co i) v) (Y + 1) j = SI ρ (Y + 1) j := fun j hj => by rw [SI_pI, up2_nj (by omega)]
  have hσ : ∀ x, x ≠ w + 43 + k → SI (pI σ (w + 43 + k) i v) x = SI σ x := fun x hx => by rw [SI_pI, up2_ne hx]
  refine DayI_mk h (FrC_p FrC_0 (by omega)) (FrR_p FrR_0 (by unfold dy; omega)) (by rw [hσ w (by omega), hS 0 (by omega)]; exact h6) (rB_c h8 hp hp2 (fun a _ _ => hσ a (by omega)) (fun j hj => hS j (by omega)) (fun q hq => hS _ (by omega)) (by rw [hS 2 (by omega)]; exact Int32.le_refl _) (by rw [hS 5 (by omega)]; exact Int32.le_refl _)) ?_
  obtain ⟨nw', n1, n2, n3, n4⟩ := h9
  have e : nw' = nw := (nI_eq (by omega) (by omega)).mp (n3.symm.trans w3)
  subst e
  refine ⟨nw', n1, by rw [hσ w (by omega)]; exact n2, by rw [hS 5 (by omega)]; exact n3, fun q hq => ?_⟩
  by_cases eq : q = k
  · subst eq
    exact rW1_iff.mpr ⟨rE_p (rW1_iff.mp (n4 q hq)).1 hi, hb⟩
  · exact rW1_c (n4 q hq) (hσ _ (by omega)) (fun j hj => hS j (by omega))
theorem wBd_c {r : Nat} (h : wBd S r) (e : ∀ j, j = 1 ∨ j = r ∨ j = r + 1 ∨ j = r + 2 ∨ j = r + 3 ∨ j = r + 9 ∨ j = r + 15 ∨ j = r + 16 ∨ j = r + 17 ∨ j = r + 18 → S' j = S j) : wBd S' r := by
  unfold wBd at h ⊢
  rw [e 1 (by omega), e r (by omega), e (r + 1) (by omega), e (r + 2) (by omega), e (r + 3) (by omega), e (r + 9) (by omega), e (r + 15) (by omega), e (r + 16) (by omega), e (r + 17) (by omega), e (r + 18) (by omega)]
  exact h
theorem wBd_f {r q : Nat} {v : Int32} (h : wBd (SI ρ (Y + 1)) r) (hr : 1 < r) (hq : q = 4 ∨ q = 5 ∨ q = 6 ∨ q = 7 ∨ q = 8 ∨ q = 10 ∨ q = 11 ∨ q = 12 ∨ q = 13) : wBd (SI (pI ρ (Y + 1) (r + q) v) (Y + 1)) r :=
  wBd_c h (fun j hj => by rw [SI_pI, up2_nj (by omega)])
theorem wBd_1 {r : Nat} {v : Int32} (h : wBd (SI ρ (Y + 1)) r) (hr : 1 < r) (hv : bd v 0 (SI ρ (Y + 1) 1).toInt) (hz : SI ρ (Y + 1) r ≠ 0) : wBd (SI (pI ρ (Y + 1) (r + 1) v) (Y + 1)) r := by
  obtain ⟨b0, b1, b2, b3, b9, b15, b16, b17, b18, z⟩ := h
  unfold wBd
  rw [SI_pI, up2_s, up2_nj (show r ≠ r + 1 by omega), up2_nj (show 1 ≠ r + 1 by omega), up2_nj (show r + 2 ≠ r + 1 by omega), up2_nj (show r + 3 ≠ r + 1 by omega), up2_nj (show r + 9 ≠ r + 1 by omega), up2_nj (show r + 15 ≠ r + 1 by omega), up2_nj (show r + 16 ≠ r + 1 by omega), up2_nj (show r + 17 ≠ r + 1 by omega), up2_nj (show r + 18 ≠ r + 1 by omega)]
  exact ⟨b0, hv, b2, b3, b9, b15, b16, b17, b18, fun y => absurd y hz⟩
theorem wBd_2 {r : Nat} {v : Int32} (h : wBd (SI ρ (Y + 1)) r) (hr : 1 < r) (hv : bd v 1 40) : wBd (SI (pI ρ (Y + 1) (r + 2) v) (Y + 1)) r := by
  obtain ⟨b0, b1, b2, b3, b9, b15, b16, b17, b18, z⟩ := h
  unfold wBd
  rw [SI_pI, up2_s, up2_nj (show r ≠ r + 2 by omega), up2_nj (show 1 ≠ r + 2 by omega), up2_nj (show r + 1 ≠ r + 2 by omega), up2_nj (show r + 3 ≠ r + 2 by omega), up2_nj (show r + 9 ≠ r + 2 by omega), up2_nj (show r + 15 ≠ r + 2 by omega), up2_nj (show r + 16 ≠ r + 2 by omega), up2_nj (show r + 17 ≠ r + 2 by omega), up2_nj (show r + 18 ≠ r + 2 by omega)]
  exact ⟨b0, b1, hv, b3, b9, b15, b16, b17, b18, z⟩
theorem wBd_3 {r : Nat} {v : Int32} (h : wBd (SI ρ (Y + 1)) r) (hr : 1 < r) (hv : bd v 0 20) : wBd (SI (pI ρ (Y + 1) (r + 3) v) (Y + 1)) r := by
  obtain ⟨b0, b1, b2, b3, b9, b15, b16, b17, b18, z⟩ := h
  unfold wBd
  rw [SI_pI, up2_s, up2_nj (show r ≠ r + 3 by omega), up2_nj (show 1 ≠ r + 3 by omega), up2_nj (show r + 1 ≠ r + 3 by omega), up2_nj (show r + 2 ≠ r + 3 by omega), up2_nj (show r + 9 ≠ r + 3 by omega), up2_nj (show r + 15 ≠ r + 3 by omega), up2_nj (show r + 16 ≠ r + 3 by omega), up2_nj (show r + 17 ≠ r + 3 by omega), up2_nj (show r + 18 ≠ r + 3 by omega)]
  exact ⟨b0, b1, b2, hv, b9, b15, b16, b17, b18, z⟩
theorem wBd_9 {r : Nat} {v : Int32} (h : wBd (SI ρ (Y + 1)) r) (hr : 1 < r) (hv : bd v 0 9) : wBd (SI (pI ρ (Y + 1) (r + 9) v) (Y + 1)) r := by
  obtain ⟨b0, b1, b2, b3, b9, b15, b16, b17, b18, z⟩ := h
  unfold wBd
  rw [SI_pI, up2_s, up2_nj (show r ≠ r + 9 by omega), up2_nj (show 1 ≠ r + 9 by omega), up2_nj (show r + 1 ≠ r + 9 by omega), up2_nj (show r + 2 ≠ r + 9 by omega), up2_nj (show r + 3 ≠ r + 9 by omega), up2_nj (show r + 15 ≠ r + 9 by omega), up2_nj (show r + 16 ≠ r + 9 by omega), up2_nj (show r + 17 ≠ r + 9 by omega), up2_nj (show r + 18 ≠ r + 9 by omega)]
  exact ⟨b0, b1, b2, b3, hv, b15, b16, b17, b18, z⟩
theorem wBd_0 {r : Nat} {v : Int32} (h : wBd (SI ρ (Y + 1)) r) (hr : 1 < r) (hv : bd v 0 3) (hz : v ≠ 0) : wBd (SI (pI ρ (Y + 1) r v) (Y + 1)) r := by
  obtain ⟨b0, b1, b2, b3, b9, b15, b16, b17, b18, z⟩ := h
  unfold wBd
  rw [SI_pI, up2_s, up2_nj (show r + 1 ≠ r by omega), up2_nj (show 1 ≠ r by omega), up2_nj (show r + 2 ≠ r by omega), up2_nj (show r + 3 ≠ r by omega), up2_nj (show r + 9 ≠ r by omega), up2_nj (show r + 15 ≠ r by omega), up2_nj (show r + 16 ≠ r by omega), up2_nj (show r + 17 ≠ r by omega), up2_nj (show r + 18 ≠ r by omega)]
  exact ⟨hv, b1, b2, b3, b9, b15, b16, b17, b18, fun y => absurd y hz⟩
theorem pI_comm {a j b i : Nat} {u v : Int32} (h : ¬ (a = b ∧ j = i)) : pI (pI σ a j u) b i v = pI (pI σ b i v) a j u := by
  have e : up2 (up2 σ.2.2.2.1 a j u) b i v = up2 (up2 σ.2.2.2.1 b i v) a j u := by
    funext x y
    unfold up2
    by_cases h1 : x = b
    · by_cases h2 : y = i
      · by_cases h3 : x = a
        · by_cases h4 : y = j
          · exact absurd ⟨h3.symm.trans h1, h4.symm.trans h2⟩ h
          · simp [h1, h2, h3.symm.trans h1, show ¬ i = j from fun z => h4 (h2.trans z)]
        · simp [h1, h2, show ¬ b = a from fun z => h3 (h1.trans z)]
      · by_cases h3 : x = a
        · simp [h1, h2, h3.symm.trans h1]
        · simp [h1, h2, show ¬ b = a from fun z => h3 (h1.trans z)]
    · by_cases h3 : x = a
      · simp [h3, show ¬ a = b from fun z => h1 (h3.trans z)]
      · simp [h1, h3]
  show (σ.1, σ.2.1, σ.2.2.1, up2 (up2 σ.2.2.2.1 a j u) b i v, σ.2.2.2.2) = _
  rw [e]
  rfl
/-- walker k of a day -/
theorem DayI_k (h : DayI X Y w σ ρ) {nw k : Nat} (hn : nw ≤ 10) (hk : k < nw) (w3 : SI ρ (Y + 1) 5 = nI nw) : rE σ (w + 43 + k) (SI ρ (Y + 1)) (130 + 20 * k) ∧ wBd (SI ρ (Y + 1)) (130 + 20 * k) ∧ SI σ w 7 = nI nw := by
  obtain ⟨-, -, -, -, -, -, -, -, ⟨nw', n1, n2, n3, n4⟩, -⟩ := h
  have e : nw' = nw := (nI_eq (by omega) (by omega)).mp (n3.symm.trans w3)
  subst e
  have := rW1_iff.mp (n4 k hk)
  exact ⟨this.1, this.2, n2⟩
end DAY
