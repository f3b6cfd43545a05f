/-! which place lies at a mile; shoes -/
theorem fold_none {c : Nat → Bool} : ∀ {n i : Nat} {a : Int32}, (∀ k, i ≤ k → k < i + n → c k = false) → foldI (fun k x => if c k = true then nI k else x) i n a = a
  | 0, _, _, _ => rfl
  | n + 1, i, a, h => by
    show foldI (fun k x => if c k = true then nI k else x) (i + 1) n (if c i = true then nI i else a) = a
    rw [if_neg (by rw [h i (Nat.le_refl _) (by omega)]; decide)]
    exact fold_none (fun k h1 h2 => h k (by omega) (by omega))
theorem fold_find {c : Nat → Bool} : ∀ {n i : Nat} {a : Int32}, (∀ j k, i ≤ j → i ≤ k → j < i + n → k < i + n → c j = true → c k = true → j = k) → foldI (fun k x => if c k = true then nI k else x) i n a = (match findI c i n with | some j => nI j | none => a)
  | 0, _, _, _ => rfl
  | n + 1, i, a, h => by
    show foldI (fun k x => if c k = true then nI k else x) (i + 1) n (if c i = true then nI i else a) = _
    unfold findI
    by_cases hc : c i = true
    · rw [if_pos hc, if_pos hc]
      refine fold_none (fun k h1 h2 => ?_)
      cases hk : c k with
      | false => rfl
      | true => exact absurd (h i k (Nat.le_refl _) (by omega) (by omega) (by omega) hc hk) (by omega)
    · rw [if_neg hc, if_neg hc]
      exact fold_find (fun j k h1 h2 h3 h4 h5 h6 => h j k (by omega) (by omega) (by omega) (by omega) h5 h6)
section OP11
variable {X Y w : Nat} {σ ρ : Sto}
/-- the place at a mile; -1 -/
def plAt (f : Nat → Int32) (mile : Int32) (np : Nat) : Int32 := match findI (fun i => decide (f i = mile)) 0 np with | some j => nI j | none => -1
theorem e_placeAtC (hW : LayW w σ) {np : Nat} (hn : np ≤ 16) (p3 : SI σ (w + 1) 10 = nI np) (mile : Int32) : f_Ground_placeAt (w + 1) mile true σ = (plAt (SI σ (w + 3)) mile np, true, σ) := by
  unfold f_Ground_placeAt plAt
  simp only [lt_]
  refine (lp_find (σ := σ) np (fun i => decide (SI σ (w + 3) i = mile)) (fun j => (nI j, true, σ)) (-1, true, σ) (by omega) (fun L i hi => ?_) (fun L => ?_) 0 (Nat.zero_le _)).trans ?_
  · unfold b_Ground_placeAt_2
    simp only [lt_, p3, rW_1_1 hW, cK_of (kW_1 hW), ix_nI (show i < 2 ^ 31 by omega), cA_of (kW_3 hW) (nW_3 hW) (show i < 16 by omega) (by decide), Bool.and_true, if_pos (show nI i < nI np from nI_lt hi (by omega)), decide_eq_true_eq]
  · unfold b_Ground_placeAt_2
    simp only [lt_, p3, cK_of (kW_1 hW), Bool.and_true, if_neg (nI_nlt (Nat.le_refl np) (by omega))]
  · rw [Nat.sub_zero]
    cases findI (fun i => decide (SI σ (w + 3) i = mile)) 0 np <;> rfl
theorem e_placeOnM (hY : LayY Y ρ) {np : Nat} (hn : np ≤ 16) (p4 : SI ρ (Y + 1) 2 = nI np) (hd : ∀ j k, j < np → k < np → SI ρ (Y + 1) (31 + 4 * j) = SI ρ (Y + 1) (31 + 4 * k) → j = k) (mile : Int32) : f_Model_placeOn Y mile true ρ = (plAt (fun i => SI ρ (Y + 1) (31 + 4 * i)) mile np, true, ρ) := by
  unfold f_Model_placeOn
  simp only [lt_]
  refine (lp_acc (σ := ρ) np (fun k x => if (fun i => decide (SI ρ (Y + 1) (31 + 4 * i) = mile)) k = true then nI k else x) (fun x => (x, true, ρ)) (by omega) (fun L i a hi => ?_) (fun L a => ?_) 0 (-1) (Nat.zero_le _)).trans ?_
  · unfold b_Model_placeOn_4
    simp only [bd_, lt_, rY_0 hY, show ix (2 : Int32) = 2 from rfl, p4, cK_of (kY_0 hY), cYk hY 2 (v := 2) rfl (by decide), Bool.and_true, if_pos (show nI i < nI np from nI_lt hi (by omega)), e_mileOf hY (show i < 700 by omega), decide_eq_true_eq]
    split <;> rfl
  · unfold b_Model_placeOn_4
    simp only [bd_, lt_, rY_0 hY, show ix (2 : Int32) = 2 from rfl, p4, cK_of (kY_0 hY), cYk hY 2 (v := 2) rfl (by decide), Bool.and_true, if_neg (nI_nlt (Nat.le_refl np) (by omega))]
  · rw [Nat.sub_zero, fold_find (fun j k _ _ h3 h4 h5 h6 => hd j k (by omega) (by omega) (by rw [of_decide_eq_true h5, of_decide_eq_true h6]))]
    rfl
theorem findI_congr {c d : Nat → Bool} : ∀ {n i : Nat}, (∀ k, i ≤ k → k < i + n → c k = d k) → findI c i n = findI d i n
  | 0, _, _ => rfl
  | n + 1, i, h => by
    unfold findI
    rw [h i (Nat.le_refl _) (by omega), findI_congr (fun k h1 h2 => h k (by omega) (by omega))]
theorem plAt_congr {f g : Nat → Int32} {mile : Int32} {np : Nat} (h : ∀ k, k < np → f k = g k) : plAt f mile np = plAt g mile np := by
  unfold plAt
  rw [findI_congr (c := fun i => decide (f i = mile)) (d := fun i => decide (g i = mile)) (fun k _ h2 => by rw [h k (by omega)])]
theorem plAt_cases (f : Nat → Int32) (mile : Int32) (np : Nat) : (plAt f mile np = -1 ∧ ∀ k, k < np → f k ≠ mile) ∨ ∃ j, j < np ∧ f j = mile ∧ plAt f mile np = nI j := by
  unfold plAt
  cases hq : findI (fun i => decide (f i = mile)) 0 np with
  | none => exact Or.inl ⟨rfl, fun k hk => of_decide_eq_false (findI_none hq k (Nat.zero_le _) (by omega))⟩
  | some j =>
    obtain ⟨h1, h2, h3, -⟩ := findI_some hq
    exact Or.inr ⟨j, by omega, of_decide_eq_true h3, rfl⟩
end OP11
