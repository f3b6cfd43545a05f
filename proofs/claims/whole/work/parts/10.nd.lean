/-! new objects hold defaults -/
def dep_ : Nat := 120
theorem nd_Album {σ : Sto} : ∀ j, j < 7 → fv (nC σ (0 + 1) 0) (Shn σ) j (clY 0 j) = defaultValue (clY 0 j) := by
  intro j hj
  refine nC_def _ ?_
  match j, hj with
  | 0, _ => rfl
  | 1, _ => rfl
  | 2, _ => rfl
  | 3, _ => rfl
  | 4, _ => rfl
  | 5, _ => rfl
  | 6, _ => rfl
  | _ + 7, hj => exact absurd hj (by omega)
theorem nd_Ground {σ : Sto} : ∀ j, j < 12 → fv (nC σ (1 + 1) 0) (Shn σ) j (clY 1 j) = defaultValue (clY 1 j) := by
  intro j hj
  refine nC_def _ ?_
  match j, hj with
  | 0, _ => rfl
  | 1, _ => rfl
  | 2, _ => rfl
  | 3, _ => rfl
  | 4, _ => rfl
  | 5, _ => rfl
  | 6, _ => rfl
  | 7, _ => rfl
  | 8, _ => rfl
  | 9, _ => rfl
  | 10, _ => rfl
  | 11, _ => rfl
  | _ + 12, hj => exact absurd hj (by omega)
theorem nd_Laws {σ : Sto} : ∀ j, j < 5 → fv (nC σ (2 + 1) 0) (Shn σ) j (clY 2 j) = defaultValue (clY 2 j) := by
  intro j hj
  refine nC_def _ ?_
  match j, hj with
  | 0, _ => rfl
  | 1, _ => rfl
  | 2, _ => rfl
  | 3, _ => rfl
  | 4, _ => rfl
  | _ + 5, hj => exact absurd hj (by omega)
theorem nd_Permits {σ : Sto} : ∀ j, j < 7 → fv (nC σ (3 + 1) 0) (Shn σ) j (clY 3 j) = defaultValue (clY 3 j) := by
  intro j hj
  refine nC_def _ ?_
  match j, hj with
  | 0, _ => rfl
  | 1, _ => rfl
  | 2, _ => rfl
  | 3, _ => rfl
  | 4, _ => rfl
  | 5, _ => rfl
  | 6, _ => rfl
  | _ + 7, hj => exact absurd hj (by omega)
theorem nd_Post {σ : Sto} : ∀ j, j < 6 → fv (nC σ (4 + 1) 0) (Shn σ) j (clY 4 j) = defaultValue (clY 4 j) := by
  intro j hj
  refine nC_def _ ?_
  match j, hj with
  | 0, _ => rfl
  | 1, _ => rfl
  | 2, _ => rfl
  | 3, _ => rfl
  | 4, _ => rfl
  | 5, _ => rfl
  | _ + 6, hj => exact absurd hj (by omega)
theorem nd_Sheet {σ : Sto} : ∀ j, j < 3 → fv (nC σ (5 + 1) 0) (Shn σ) j (clY 5 j) = defaultValue (clY 5 j) := by
  intro j hj
  refine nC_def _ ?_
  match j, hj with
  | 0, _ => rfl
  | 1, _ => rfl
  | 2, _ => rfl
  | _ + 3, hj => exact absurd hj (by omega)
theorem nd_Supply {σ : Sto} : ∀ j, j < 8 → fv (nC σ (6 + 1) 0) (Shn σ) j (clY 6 j) = defaultValue (clY 6 j) := by
  intro j hj
  refine nC_def _ ?_
  match j, hj with
  | 0, _ => rfl
  | 1, _ => rfl
  | 2, _ => rfl
  | 3, _ => rfl
  | 4, _ => rfl
  | 5, _ => rfl
  | 6, _ => rfl
  | 7, _ => rfl
  | _ + 8, hj => exact absurd hj (by omega)
theorem nd_Tape {σ : Sto} : ∀ j, j < 12 → fv (nC σ (7 + 1) 0) (Shn σ) j (clY 7 j) = defaultValue (clY 7 j) := by
  intro j hj
  refine nC_def _ ?_
  match j, hj with
  | 0, _ => rfl
  | 1, _ => rfl
  | 2, _ => rfl
  | 3, _ => rfl
  | 4, _ => rfl
  | 5, _ => rfl
  | 6, _ => rfl
  | 7, _ => rfl
  | 8, _ => rfl
  | 9, _ => rfl
  | 10, _ => rfl
  | 11, _ => rfl
  | _ + 12, hj => exact absurd hj (by omega)
theorem nd_Text {σ : Sto} : ∀ j, j < 5 → fv (nC σ (8 + 1) 0) (Shn σ) j (clY 8 j) = defaultValue (clY 8 j) := by
  intro j hj
  refine nC_def _ ?_
  match j, hj with
  | 0, _ => rfl
  | 1, _ => rfl
  | 2, _ => rfl
  | 3, _ => rfl
  | 4, _ => rfl
  | _ + 5, hj => exact absurd hj (by omega)
theorem nd_Walker {σ : Sto} : ∀ j, j < 18 → fv (nC σ (9 + 1) 0) (Shn σ) j (clY 9 j) = defaultValue (clY 9 j) := by
  intro j hj
  refine nC_def _ ?_
  match j, hj with
  | 0, _ => rfl
  | 1, _ => rfl
  | 2, _ => rfl
  | 3, _ => rfl
  | 4, _ => rfl
  | 5, _ => rfl
  | 6, _ => rfl
  | 7, _ => rfl
  | 8, _ => rfl
  | 9, _ => rfl
  | 10, _ => rfl
  | 11, _ => rfl
  | 12, _ => rfl
  | 13, _ => rfl
  | 14, _ => rfl
  | 15, _ => rfl
  | 16, _ => rfl
  | 17, _ => rfl
  | _ + 18, hj => exact absurd hj (by omega)
theorem nd_World {σ : Sto} : ∀ j, j < 9 → fv (nC σ (10 + 1) 0) (Shn σ) j (clY 10 j) = defaultValue (clY 10 j) := by
  intro j hj
  refine nC_def _ ?_
  match j, hj with
  | 0, _ => rfl
  | 1, _ => rfl
  | 2, _ => rfl
  | 3, _ => rfl
  | 4, _ => rfl
  | 5, _ => rfl
  | 6, _ => rfl
  | 7, _ => rfl
  | 8, _ => rfl
  | _ + 9, hj => exact absurd hj (by omega)
theorem nd_Trail {σ : Sto} : ∀ j, j < 8 → fv (nC σ (11 + 1) 0) (Shn σ) j (clY 11 j) = defaultValue (clY 11 j) := by
  intro j hj
  refine nC_def _ ?_
  match j, hj with
  | 0, _ => rfl
  | 1, _ => rfl
  | 2, _ => rfl
  | 3, _ => rfl
  | 4, _ => rfl
  | 5, _ => rfl
  | 6, _ => rfl
  | 7, _ => rfl
  | _ + 8, hj => exact absurd hj (by omega)
theorem nd_Model {σ : Sto} : ∀ j, j < 35 → fv (nC σ (12 + 1) 0) (Shn σ) j (clY 12 j) = defaultValue (clY 12 j) := by
  intro j hj
  refine nC_def _ ?_
  match j, hj with
  | 0, _ => rfl
  | 1, _ => rfl
  | 2, _ => rfl
  | 3, _ => rfl
  | 4, _ => rfl
  | 5, _ => rfl
  | 6, _ => rfl
  | 7, _ => rfl
  | 8, _ => rfl
  | 9, _ => rfl
  | 10, _ => rfl
  | 11, _ => rfl
  | 12, _ => rfl
  | 13, _ => rfl
  | 14, _ => rfl
  | 15, _ => rfl
  | 16, _ => rfl
  | 17, _ => rfl
  | 18, _ => rfl
  | 19, _ => rfl
  | 20, _ => rfl
  | 21, _ => rfl
  | 22, _ => rfl
  | 23, _ => rfl
  | 24, _ => rfl
  | 25, _ => rfl
  | 26, _ => rfl
  | 27, _ => rfl
  | 28, _ => rfl
  | 29, _ => rfl
  | 30, _ => rfl
  | 31, _ => rfl
  | 32, _ => rfl
  | 33, _ => rfl
  | 34, _ => rfl
  | _ + 35, hj => exact absurd hj (by omega)
