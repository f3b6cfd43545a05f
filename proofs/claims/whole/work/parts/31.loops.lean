/-! loops as folds and searches; small methods of both sides -/
def foldI {β : Type} (g : Nat → β → β) : Nat → Nat → β → β
  | _, 0, a => a
  | i, n + 1, a => foldI g (i + 1) n (g i a)
def findI (c : Nat → Bool) : Nat → Nat → Option Nat
  | _, 0 => none
  | i, n + 1 => if c i = true then some i else findI c (i + 1) n
section PL
variable {α β : Type}
/-- a counting loop with one number carried: number first, then the count -/
theorem lp_acc {body : (Int32 → Int32 → Bool → Sto → Rs α) → Int32 → Int32 → Bool → Sto → Rs α} {bad : Int32 → Int32 → Bool → Sto → Rs α} {σ : Sto} (N : Nat) (g : Nat → Int32 → Int32) (k : Int32 → Rs α) (hN : N < 69999)
    (hstep : ∀ L i a, i < N → body L a (nI i) true σ = L (g i a) (nI i + 1) true σ) (hexit : ∀ L a, body L a (nI N) true σ = k a) :
    ∀ i a, i ≤ N → lp_ body bad fuel_ a (nI i) true σ = k (foldI g i (N - i) a) := by
  have key : ∀ n, ∀ i a, i ≤ N → N - i < n → lp_ body bad n a (nI i) true σ = k (foldI g i (N - i) a) := by
    intro n
    refine lp_Q (fun n (L : Int32 → Int32 → Bool → Sto → Rs α) => ∀ i a, i ≤ N → N - i < n → L a (nI i) true σ = k (foldI g i (N - i) a)) (fun i a _ h => absurd h (Nat.not_lt_zero _)) (fun n L ih i a hi hn => ?_) n
    by_cases hlt : i < N
    · rw [hstep L i a hlt, show nI i + 1 = nI (i + 1) from nI_1 i, ih (i + 1) (g i a) hlt (by omega), show N - i = (N - (i + 1)) + 1 by omega]
      rfl
    · have e : i = N := by omega
      subst e
      rw [hexit L a, Nat.sub_self]
      rfl
  intro i a hi
  exact key fuel_ i a hi (by show N - i < 70000; omega)
/-- a counting loop that ends early at the first place where c holds -/
theorem lp_find {body : (Int32 → Bool → Sto → Rs α) → Int32 → Bool → Sto → Rs α} {bad : Int32 → Bool → Sto → Rs α} {σ : Sto} (N : Nat) (c : Nat → Bool) (r : Nat → Rs α) (e : Rs α) (hN : N < 69999)
    (hstep : ∀ L i, i < N → body L (nI i) true σ = if c i = true then r i else L (nI i + 1) true σ) (hexit : ∀ L, body L (nI N) true σ = e) :
    ∀ i, i ≤ N → lp_ body bad fuel_ (nI i) true σ = (match findI c i (N - i) with | some j => r j | none => e) := by
  have key : ∀ n, ∀ i, i ≤ N → N - i < n → lp_ body bad n (nI i) true σ = (match findI c i (N - i) with | some j => r j | none => e) := by
    intro n
    refine lp_Q (fun n (L : Int32 → Bool → Sto → Rs α) => ∀ i, i ≤ N → N - i < n → L (nI i) true σ = (match findI c i (N - i) with | some j => r j | none => e)) (fun i _ h => absurd h (Nat.not_lt_zero _)) (fun n L ih i hi hn => ?_) n
    by_cases hlt : i < N
    · rw [hstep L i hlt, show N - i = (N - (i + 1)) + 1 by omega]
      unfold findI
      by_cases hc : c i = true
      · simp only [hc, if_true]
      · simp only [hc, if_false, Bool.false_eq_true]
        rw [show nI i + 1 = nI (i + 1) from nI_1 i, ih (i + 1) hlt (by omega)]
    · have he : i = N := by omega
      subst he
      rw [hexit L, Nat.sub_self]
      rfl
  intro i hi
  exact key fuel_ i hi (by show N - i < 70000; omega)
theorem findI_some {c : Nat → Bool} : ∀ {n i j : Nat}, findI c i n = some j → i ≤ j ∧ j < i + n ∧ c j = true ∧ ∀ k, i ≤ k → k < j → c k = false
  | 0, _, _, h => by cases h
  | n + 1, i, j, h => by
    unfold findI at h
    by_cases hc : c i = true
    · simp only [hc, if_true] at h
      cases h
      exact ⟨Nat.le_refl _, by omega, hc, fun k h1 h2 => by omega⟩
    · simp only [hc, if_false, Bool.false_eq_true] at h
      obtain ⟨h1, h2, h3, h4⟩ := findI_some h
      refine ⟨by omega, by omega, h3, fun k k1 k2 => ?_⟩
      by_cases hk : k = i
      · rw [hk]; simpa using hc
      · exact h4 k (by omega) k2
theorem findI_none {c : Nat → Bool} : ∀ {n i : Nat}, findI c i n = none → ∀ k, i ≤ k → k < i + n → c k = false
  | 0, _, _ => fun k h1 h2 => by omega
  | n + 1, i, h => by
    unfold findI at h
    by_cases hc : c i = true
    · simp only [hc, if_true] at h
      cases h
    · simp only [hc, if_false, Bool.false_eq_true] at h
      intro k h1 h2
      by_cases hk : k = i
      · rw [hk]; simpa using hc
      · exact findI_none h k (by omega) (by omega)
theorem foldI_congr {g h : Nat → β → β} : ∀ {n i : Nat} {a : β}, (∀ k a, i ≤ k → k < i + n → g k a = h k a) → foldI g i n a = foldI h i n a
  | 0, _, _, _ => rfl
  | n + 1, i, a, e => by
    unfold foldI
    rw [e i a (Nat.le_refl _) (by omega)]
    exact foldI_congr (fun k a h1 h2 => e k a (by omega) (by omega))
end PL
-- within, isIn
def inR (v a c : Int32) : Int32 := if a ≤ v ∧ v ≤ c then 1 else 0
theorem e_within (v a c : Int32) (b : Bool) (σ : Sto) : f_Trail_within v a c b σ = (inR v a c, b, σ) := by
  unfold f_Trail_within lt_ inR
  dsimp only
  by_cases h1 : v < a
  · rw [if_pos h1, if_neg (fun h => absurd h.1 (Int32.not_le.mpr h1))]
  · rw [if_neg h1]
    by_cases h2 : c < v
    · rw [if_pos h2, if_neg (fun h => absurd h.2 (Int32.not_le.mpr h2))]
    · rw [if_neg h2, if_pos ⟨Int32.not_lt.mp h1, Int32.not_lt.mp h2⟩]
theorem lg_neg (x y : Int64) : lg_cmp x y < 0 ↔ x < y := by
  unfold lg_cmp
  by_cases h1 : x > y
  · rw [if_pos h1]
    exact ⟨fun h => absurd h (by decide), fun h => absurd h (Int64.not_lt.mpr (Int64.le_of_lt h1))⟩
  · rw [if_neg h1]
    by_cases h2 : x = y
    · rw [if_pos h2]
      exact ⟨fun h => absurd h (by decide), fun h => absurd h (by rw [h2]; exact Int64.lt_irrefl)⟩
    · rw [if_neg h2]
      refine ⟨fun _ => ?_, fun _ => by decide⟩
      exact Int64.lt_of_le_of_ne (Int64.not_lt.mp h1) h2
theorem lg_pos (x y : Int64) : 0 < lg_cmp x y ↔ y < x := by
  unfold lg_cmp
  by_cases h1 : x > y
  · rw [if_pos h1]
    exact ⟨fun _ => h1, fun _ => by decide⟩
  · rw [if_neg h1]
    by_cases h2 : x = y
    · rw [if_pos h2]
      exact ⟨fun h => absurd h (by decide), fun h => absurd h h1⟩
    · rw [if_neg h2]
      exact ⟨fun h => absurd h (by decide), fun h => absurd h h1⟩
theorem w_lt (x y : Int32) : x.toInt64 < y.toInt64 ↔ x < y := by
  rw [Int64.lt_iff_toInt_lt, Int32.lt_iff_toInt_lt, Int32.toInt_toInt64, Int32.toInt_toInt64]
theorem e_isIn (x a c : Int32) (b : Bool) (σ : Sto) : f_Model_isIn x.toInt64 a.toInt64 c.toInt64 b σ = (inR x a c, b, σ) := by
  unfold f_Model_isIn lt_ inR
  dsimp only
  by_cases h1 : x < a
  · rw [if_pos ((lg_neg _ _).mpr ((w_lt _ _).mpr h1)), if_neg (fun h => absurd h.1 (Int32.not_le.mpr h1))]
  · rw [if_neg (fun h => h1 ((w_lt _ _).mp ((lg_neg _ _).mp h)))]
    by_cases h2 : c < x
    · rw [if_pos ((lg_pos _ _).mpr ((w_lt _ _).mpr h2)), if_neg (fun h => absurd h.2 (Int32.not_le.mpr h2))]
    · rw [if_neg (fun h => h2 ((w_lt _ _).mp ((lg_pos _ _).mp h))), if_pos ⟨Int32.not_lt.mp h1, Int32.not_lt.mp h2⟩]
theorem inR_zok (v a c : Int32) : zok (inR v a c) = true := by
  unfold inR
  split <;> rfl
theorem inR_0 {v a c : Int32} : inR v a c = 0 ↔ ¬ (a ≤ v ∧ v ≤ c) := by
  unfold inR
  by_cases h : a ≤ v ∧ v ≤ c
  · rw [if_pos h]; exact ⟨fun h => absurd h (by decide), fun z => absurd h z⟩
  · rw [if_neg h]; exact ⟨fun _ => h, fun _ => rfl⟩
/-- a number of a range of small ones, as a Nat -/
theorem in_nat {v : Int32} {n : Nat} {N : Int32} (hN : N = nI n) (hn : n < 2 ^ 31) (h0 : 0 ≤ v) (h1 : v ≤ N) : ∃ j : Nat, j ≤ n ∧ v = nI j := by
  subst hN
  have a1 : (0 : Int) ≤ v.toInt := by simpa using Int32.le_iff_toInt_le.mp h0
  have a2 : v.toInt ≤ (n : Int) := by have := Int32.le_iff_toInt_le.mp h1; rw [nI_toInt hn] at this; exact this
  refine ⟨v.toInt.toNat, by omega, ?_⟩
  apply Int32.toInt_inj.mp
  rw [nI_toInt (by omega)]
  omega
