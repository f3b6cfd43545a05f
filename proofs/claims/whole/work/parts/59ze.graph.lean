/-! least ways: the plain numbers -/
section GP
/-- how many below n -/
noncomputable def cntN (p : Nat → Prop) : Nat → Nat
  | 0 => 0
  | n + 1 => cntN p n + @ite Nat (p n) (Classical.propDecidable (p n)) 1 0
theorem cntN_le {p : Nat → Prop} : ∀ {n : Nat}, cntN p n ≤ n
  | 0 => Nat.le_refl _
  | n + 1 => by
    have := cntN_le (p := p) (n := n)
    unfold cntN
    by_cases h : p n
    · rw [if_pos h]; omega
    · rw [if_neg h]; omega
theorem cntN_mono {p q : Nat → Prop} : ∀ {n : Nat}, (∀ i, i < n → p i → q i) → cntN p n ≤ cntN q n
  | 0, _ => Nat.le_refl _
  | n + 1, h => by
    have := cntN_mono (p := p) (q := q) (n := n) (fun i hi => h i (by omega))
    unfold cntN
    by_cases hp : p n
    · rw [if_pos hp, if_pos (h n (by omega) hp)]; omega
    · rw [if_neg hp]; omega
theorem cntN_lt {p q : Nat → Prop} : ∀ {n j : Nat}, (∀ i, i < n → p i → q i) → j < n → ¬ p j → q j → cntN p n + 1 ≤ cntN q n
  | 0, _, _, hj, _, _ => absurd hj (Nat.not_lt_zero _)
  | n + 1, j, h, hj, hp, hq => by
    unfold cntN
    by_cases e : j = n
    · subst e
      have := cntN_mono (p := p) (q := q) (n := j) (fun i hi => h i (by omega))
      rw [if_neg hp, if_pos hq]; omega
    · have := cntN_lt (p := p) (q := q) (n := n) (j := j) (fun i hi => h i (by omega)) (by omega) hp hq
      by_cases hp' : p n
      · rw [if_pos hp', if_pos (h n (by omega) hp')]; omega
      · rw [if_neg hp']; omega
theorem cntN_congr {p q : Nat → Prop} {n : Nat} (h : ∀ i, i < n → (p i ↔ q i)) : cntN p n = cntN q n :=
  Nat.le_antisymm (cntN_mono (fun i hi => (h i hi).mp)) (cntN_mono (fun i hi => (h i hi).mpr))
/-- one way of a ride -/
def hx (a b w : Nat) (d : Nat → Nat) : Nat → Nat := fun v => if v = a then min (d a) (d b + w) else d v
theorem hx_le {a b w : Nat} {d : Nat → Nat} (v : Nat) : hx a b w d v ≤ d v := by
  unfold hx
  by_cases h : v = a
  · rw [if_pos h, h]; exact Nat.min_le_left _ _
  · rw [if_neg h]; exact Nat.le_refl _
theorem hx_a {a b w : Nat} {d : Nat → Nat} : hx a b w d a ≤ d b + w := by
  unfold hx
  rw [if_pos rfl]
  exact Nat.min_le_right _ _
/-- a ride -/
def rx (a b w : Nat) (d : Nat → Nat) : Nat → Nat := hx b a w (hx a b w d)
theorem rx_le {a b w : Nat} {d : Nat → Nat} (v : Nat) : rx a b w d v ≤ d v := Nat.le_trans (hx_le v) (hx_le v)
theorem rx_a {a b w : Nat} {d : Nat → Nat} : rx a b w d a ≤ d b + w := Nat.le_trans (hx_le a) hx_a
theorem rx_b {a b w : Nat} {d : Nat → Nat} : rx a b w d b ≤ d a + w := Nat.le_trans hx_a (Nat.add_le_add_right (hx_le a) w)
variable {A B W : Nat → Nat}
/-- the first rides, one after another -/
def rnd (A B W : Nat → Nat) : Nat → (Nat → Nat) → Nat → Nat
  | 0, d => d
  | n + 1, d => rx (A n) (B n) (W n) (rnd A B W n d)
theorem rnd_le : ∀ {n : Nat} {d : Nat → Nat} (v : Nat), rnd A B W n d v ≤ d v
  | 0, _, _ => Nat.le_refl _
  | n + 1, d, v => Nat.le_trans (rx_le v) (rnd_le v)
theorem rnd_e : ∀ {n : Nat} {d : Nat → Nat} {j : Nat}, j < n → rnd A B W n d (A j) ≤ d (B j) + W j ∧ rnd A B W n d (B j) ≤ d (A j) + W j
  | 0, _, _, h => absurd h (Nat.not_lt_zero _)
  | n + 1, d, j, h => by
    by_cases e : j = n
    · subst e
      exact ⟨Nat.le_trans rx_a (Nat.add_le_add_right (rnd_le _) _), Nat.le_trans rx_b (Nat.add_le_add_right (rnd_le _) _)⟩
    · have := rnd_e (n := n) (d := d) (j := j) (by omega)
      exact ⟨Nat.le_trans (rx_le _) this.1, Nat.le_trans (rx_le _) this.2⟩
/-- whole rounds -/
def rnds (A B W : Nat → Nat) (n : Nat) : Nat → (Nat → Nat) → Nat → Nat
  | 0, d => d
  | k + 1, d => rnd A B W n (rnds A B W n k d)
theorem rnds_le {n : Nat} {d : Nat → Nat} : ∀ {k j : Nat}, j ≤ k → ∀ v, rnds A B W n k d v ≤ rnds A B W n j d v
  | 0, j, h, v => by
    have : j = 0 := by omega
    subst this
    exact Nat.le_refl _
  | k + 1, j, h, v => by
    by_cases e : j = k + 1
    · subst e
      exact Nat.le_refl _
    · exact Nat.le_trans (rnd_le v) (rnds_le (k := k) (j := j) (by omega) v)
/-- each that is not far has one before it -/
def prd (A B W : Nat → Nat) (n src I : Nat) (d : Nat → Nat) : Prop := ∀ v, v = src ∨ d v = I ∨ ∃ j, j < n ∧ ((A j = v ∧ d (B j) + W j ≤ d v) ∨ (B j = v ∧ d (A j) + W j ≤ d v))
theorem prd_hx {n src I a b w : Nat} {d : Nat → Nat} (h : prd A B W n src I d) (hr : ∃ j, j < n ∧ W j = w ∧ ((A j = a ∧ B j = b) ∨ (A j = b ∧ B j = a))) (hI : d a ≤ I) : prd A B W n src I (hx a b w d) := by
  intro v
  by_cases hv : v = a ∧ d b + w < d a
  · obtain ⟨rfl, hlt⟩ := hv
    obtain ⟨j, hj, rfl, hr⟩ := hr
    have hb : b ≠ v := fun z => by subst z; omega
    have e1 : hx v b (W j) d v = d b + W j := by unfold hx; rw [if_pos rfl]; omega
    have e2 : hx v b (W j) d b = d b := by unfold hx; rw [if_neg hb]
    refine Or.inr (Or.inr ⟨j, hj, ?_⟩)
    rcases hr with ⟨r1, r2⟩ | ⟨r1, r2⟩
    · exact Or.inl ⟨r1, by rw [r2, e2, e1]; exact Nat.le_refl _⟩
    · exact Or.inr ⟨r2, by rw [r1, e2, e1]; exact Nat.le_refl _⟩
  · have e : hx a b w d v = d v := by
      unfold hx
      by_cases z : v = a
      · rw [if_pos z, z]
        have : ¬ d b + w < d a := fun y => hv ⟨z, y⟩
        omega
      · rw [if_neg z]
    rcases h v with h | h | ⟨j, hj, h⟩
    · exact Or.inl h
    · exact Or.inr (Or.inl (e.trans h))
    · refine Or.inr (Or.inr ⟨j, hj, ?_⟩)
      rw [e]
      rcases h with ⟨h1, h2⟩ | ⟨h1, h2⟩
      · exact Or.inl ⟨h1, Nat.le_trans (Nat.add_le_add_right (hx_le _) _) h2⟩
      · exact Or.inr ⟨h1, Nat.le_trans (Nat.add_le_add_right (hx_le _) _) h2⟩
theorem prd_rnd {n src I : Nat} {d : Nat → Nat} (hI : ∀ v, d v ≤ I) (h : prd A B W n src I d) : ∀ k, k ≤ n → prd A B W n src I (rnd A B W k d)
  | 0, _ => h
  | k + 1, hk => by
    have ih := prd_rnd hI h k (by omega)
    have b := fun v => Nat.le_trans (rnd_le (A := A) (B := B) (W := W) (n := k) (d := d) v) (hI v)
    exact prd_hx (prd_hx ih ⟨k, by omega, rfl, Or.inl ⟨rfl, rfl⟩⟩ (b _)) ⟨k, by omega, rfl, Or.inr ⟨rfl, rfl⟩⟩ (Nat.le_trans (hx_le _) (b _))
theorem prd_rnds {n src I : Nat} {d : Nat → Nat} (hI : ∀ v, d v ≤ I) (h : prd A B W n src I d) : ∀ k, prd A B W n src I (rnds A B W n k d)
  | 0 => h
  | k + 1 => prd_rnd (fun v => Nat.le_trans (rnds_le (k := k) (j := 0) (by omega) v) (hI v)) (prd_rnds hI h k) n (Nat.le_refl n)
theorem least_of {α : Type} (f : α → Nat) (p : α → Prop) : (∃ x, p x) → ∃ x, p x ∧ ∀ y, p y → f x ≤ f y := by
  have key : ∀ m, ∀ x, p x → f x ≤ m → ∃ x, p x ∧ ∀ y, p y → f x ≤ f y := by
    intro m
    induction m with
    | zero => exact fun x hx h => ⟨x, hx, fun y _ => by omega⟩
    | succ m ih =>
      intro x hx h
      by_cases e : ∃ y, p y ∧ f y < f x
      · obtain ⟨y, hy, hlt⟩ := e
        exact ih y hy (by omega)
      · refine ⟨x, hx, fun y hy => ?_⟩
        rcases Nat.lt_or_ge (f y) (f x) with z | z
        · exact absurd ⟨y, hy, z⟩ e
        · exact z
  exact fun ⟨x, hx⟩ => key (f x) x hx (Nat.le_refl _)
/-- as many rounds as rides are enough -/
theorem rnds_end {n src I : Nat} (hW : ∀ j, j < n → 1 ≤ W j) (d : Nat → Nat) (hd : ∀ v, d v = if v = src then 0 else I) {m : Nat} (hm : n ≤ m) (v : Nat) : rnds A B W n m d v = rnds A B W n n d v := by
  have hI : ∀ v, d v ≤ I := fun v => by rw [hd]; by_cases e : v = src <;> simp [e]
  have h0 : prd A B W n src I d := fun v => by
    by_cases e : v = src
    · exact Or.inl e
    · exact Or.inr (Or.inl (by rw [hd, if_neg e]))
  have hp := prd_rnds (A := A) (B := B) (W := W) hI h0
  have ex : ∀ v, ∃ k, ∀ j, rnds A B W n k d v ≤ rnds A B W n j d v := fun v => by
    obtain ⟨k, -, hk⟩ := least_of (fun k => rnds A B W n k d v) (fun _ => True) ⟨0, trivial⟩
    exact ⟨k, fun j => hk j trivial⟩
  -- the limit
  obtain ⟨K, hK⟩ : ∃ K : Nat → Nat, ∀ v j, rnds A B W n (K v) d v ≤ rnds A B W n j d v := ⟨fun v => Classical.choose (ex v), fun v => Classical.choose_spec (ex v)⟩
  generalize hD : (fun v => rnds A B W n (K v) d v) = D
  have D1 : ∀ v, D v = rnds A B W n (K v) d v := fun v => by rw [← hD]
  have D2 : ∀ v j, D v ≤ rnds A B W n j d v := fun v j => by rw [D1]; exact hK v j
  have Dsrc : ∀ k, rnds A B W n k d src = D src := fun k => by
    have z : rnds A B W n k d src ≤ d src := rnds_le (k := k) (j := 0) (by omega) src
    have := D2 src k
    rw [hd, if_pos rfl] at z
    omega
  have Dfix : ∀ j, j < n → D (A j) ≤ D (B j) + W j ∧ D (B j) ≤ D (A j) + W j := fun j hj => by
    have z1 := (rnd_e (A := A) (B := B) (W := W) (n := n) (d := rnds A B W n (K (B j)) d) (j := j) hj).1
    have z2 := (rnd_e (A := A) (B := B) (W := W) (n := n) (d := rnds A B W n (K (A j)) d) (j := j) hj).2
    have y1 := D2 (A j) (K (B j) + 1)
    have y2 := D2 (B j) (K (A j) + 1)
    rw [← D1] at z1 z2
    exact ⟨Nat.le_trans y1 z1, Nat.le_trans y2 z2⟩
  -- one more ride settled in every round
  have step : ∀ k u, rnds A B W n k d u ≠ D u → ∃ j, j < n ∧ ¬ (rnds A B W n k d (A j) = D (A j) ∧ rnds A B W n k d (B j) = D (B j)) ∧ (rnds A B W n (k + 1) d (A j) = D (A j) ∧ rnds A B W n (k + 1) d (B j) = D (B j)) := by
    intro k u0 hu0
    obtain ⟨u, hu, hmin⟩ := least_of D (fun u => rnds A B W n k d u ≠ D u) ⟨u0, hu0⟩
    have hgt : D u < rnds A B W n k d u := by have := D2 u k; omega
    have hkI : rnds A B W n k d u ≤ I := Nat.le_trans (rnds_le (k := k) (j := 0) (by omega) u) (hI u)
    have mono : ∀ v, rnds A B W n (k + 1) d v ≤ rnds A B W n k d v := fun v => rnds_le (k := k + 1) (j := k) (by omega) v
    rcases hp (K u) u with e | e | ⟨j, hj, e⟩
    · subst e
      exact absurd (Dsrc k) hu
    · rw [← D1] at e
      omega
    · have w1 := hW j hj
      have f1 := Dfix j hj
      have ee := rnd_e (A := A) (B := B) (W := W) (n := n) (d := rnds A B W n k d) (j := j) hj
      refine ⟨j, hj, ?_⟩
      rcases e with ⟨e1, e2⟩ | ⟨e1, e2⟩
      · rw [← D1] at e2
        have z := D2 (B j) (K u)
        have hs : rnds A B W n k d (B j) = D (B j) := Classical.byContradiction (fun y => by have := hmin _ y; omega)
        refine ⟨fun y => hu (by rw [← e1]; exact y.1), ?_, ?_⟩
        · have y1 : rnds A B W n (k + 1) d (A j) ≤ rnds A B W n k d (B j) + W j := ee.1
          have y2 := D2 (A j) (k + 1)
          have e3 : D u = D (A j) := by rw [e1]
          rw [hs] at y1
          omega
        · have y1 := mono (B j)
          have y2 := D2 (B j) (k + 1)
          omega
      · rw [← D1] at e2
        have z := D2 (A j) (K u)
        have hs : rnds A B W n k d (A j) = D (A j) := Classical.byContradiction (fun y => by have := hmin _ y; omega)
        refine ⟨fun y => hu (by rw [← e1]; exact y.2), ?_, ?_⟩
        · have y1 := mono (A j)
          have y2 := D2 (A j) (k + 1)
          omega
        · have y1 : rnds A B W n (k + 1) d (B j) ≤ rnds A B W n k d (A j) + W j := ee.2
          have y2 := D2 (B j) (k + 1)
          have e3 : D u = D (B j) := by rw [e1]
          rw [hs] at y1
          omega
  have keep : ∀ k v, rnds A B W n k d v = D v → rnds A B W n (k + 1) d v = D v := fun k v h => by
    have y1 := rnds_le (A := A) (B := B) (W := W) (n := n) (d := d) (k := k + 1) (j := k) (by omega) v
    have y2 := D2 v (k + 1)
    omega
  have cnt : ∀ k, (∃ u, rnds A B W n k d u ≠ D u) → k + 1 ≤ cntN (fun j => rnds A B W n (k + 1) d (A j) = D (A j) ∧ rnds A B W n (k + 1) d (B j) = D (B j)) n := by
    intro k
    induction k with
    | zero =>
      intro ⟨u, hu⟩
      obtain ⟨j, hj, s1, s2⟩ := step 0 u hu
      exact Nat.le_trans (Nat.add_le_add_right (Nat.zero_le _) 1) (cntN_lt (p := fun j => rnds A B W n 0 d (A j) = D (A j) ∧ rnds A B W n 0 d (B j) = D (B j)) (fun i _ y => ⟨keep 0 _ y.1, keep 0 _ y.2⟩) hj s1 s2)
    | succ k ih =>
      intro ⟨u, hu⟩
      have := ih ⟨u, fun y => hu (keep k u y)⟩
      obtain ⟨j, hj, s1, s2⟩ := step (k + 1) u hu
      exact Nat.le_trans (Nat.add_le_add_right this 1) (cntN_lt (fun i _ y => ⟨keep (k + 1) _ y.1, keep (k + 1) _ y.2⟩) hj s1 s2)
  have fin : rnds A B W n n d v = D v := Classical.byContradiction (fun y => by
    have := cnt n ⟨v, y⟩
    have := cntN_le (p := fun j => rnds A B W n (n + 1) d (A j) = D (A j) ∧ rnds A B W n (n + 1) d (B j) = D (B j)) (n := n)
    omega)
  have y1 := rnds_le (A := A) (B := B) (W := W) (n := n) (d := d) (k := m) (j := n) hm v
  have y2 := D2 v m
  omega
/-- two rows of numbers, the one with the greater number for what is far -/
def farR (IC IM : Nat) (c m : Nat → Nat) : Prop := ∀ v, v < 16 → (c v = IC ∧ m v = IM) ∨ (c v = m v ∧ m v < IM ∧ m v + 999 ≤ 999 * cntN (fun i => m i < IM) 16)
theorem far_hx {IC IM a b w : Nat} {c m : Nat → Nat} (h : farR IC IM c m) (hIM : 16000 ≤ IM) (hIC : IM ≤ IC) (ha : a < 16) (hb : b < 16) (hw : w ≤ 999) : farR IC IM (hx a b w c) (hx a b w m) := by
  have hle : ∀ i, i < 16 → m i < IM → hx a b w m i < IM := fun i _ hi => Nat.lt_of_le_of_lt (hx_le i) hi
  have c16 : cntN (fun i => m i < IM) 16 ≤ 16 := cntN_le
  have hcm : cntN (fun i => m i < IM) 16 ≤ cntN (fun i => hx a b w m i < IM) 16 := cntN_mono hle
  intro v hv
  by_cases e : v = a
  · subst e
    have ec : hx v b w c v = min (c v) (c b + w) := by unfold hx; rw [if_pos rfl]
    have em : hx v b w m v = min (m v) (m b + w) := by unfold hx; rw [if_pos rfl]
    rw [ec, em]
    rcases h v hv with ⟨a1, a2⟩ | ⟨a1, a2, a3⟩
    · rcases h b hb with ⟨b1, b2⟩ | ⟨b1, b2, b3⟩
      · exact Or.inl ⟨by omega, by omega⟩
      · have hl : m b + w < IM := by omega
        have := cntN_lt (n := 16) (j := v) hle hv (by omega) (show hx v b w m v < IM by rw [em]; omega)
        exact Or.inr ⟨by omega, by omega, by omega⟩
    · rcases h b hb with ⟨b1, b2⟩ | ⟨b1, b2, b3⟩
      · exact Or.inr ⟨by omega, by omega, by omega⟩
      · exact Or.inr ⟨by omega, by omega, by omega⟩
  · have ec : hx a b w c v = c v := by unfold hx; rw [if_neg e]
    have em : hx a b w m v = m v := by unfold hx; rw [if_neg e]
    rw [ec, em]
    rcases h v hv with a1 | ⟨a1, a2, a3⟩
    · exact Or.inl a1
    · exact Or.inr ⟨a1, a2, by omega⟩
theorem far_rnd {IC IM n : Nat} {c m : Nat → Nat} (h : farR IC IM c m) (hIM : 16000 ≤ IM) (hIC : IM ≤ IC) (hr : ∀ j, j < n → A j < 16 ∧ B j < 16 ∧ W j ≤ 999) : ∀ k, k ≤ n → farR IC IM (rnd A B W k c) (rnd A B W k m)
  | 0, _ => h
  | k + 1, hk => by
    obtain ⟨r1, r2, r3⟩ := hr k (by omega)
    exact far_hx (far_hx (far_rnd h hIM hIC hr k (by omega)) hIM hIC r1 r2 r3) hIM hIC r2 r1 r3
theorem far_rnds {IC IM n : Nat} {c m : Nat → Nat} (h : farR IC IM c m) (hIM : 16000 ≤ IM) (hIC : IM ≤ IC) (hr : ∀ j, j < n → A j < 16 ∧ B j < 16 ∧ W j ≤ 999) : ∀ k, farR IC IM (rnds A B W n k c) (rnds A B W n k m)
  | 0 => h
  | k + 1 => far_rnd (far_rnds h hIM hIC hr k) hIM hIC hr n (Nat.le_refl n)
theorem far_0 {IC IM src : Nat} {c m : Nat → Nat} (hs : src < 16) (hIM : 16000 ≤ IM) (hc : ∀ v, c v = if v = src then 0 else IC) (hm : ∀ v, m v = if v = src then 0 else IM) : farR IC IM c m := fun v hv => by
  by_cases e : v = src
  · have h1 : 1 ≤ cntN (fun i => m i < IM) 16 := Nat.le_trans (by omega) (cntN_lt (p := fun _ => False) (q := fun i => m i < IM) (n := 16) (j := src) (fun i _ y => y.elim) hs (fun y => y) (show m src < IM by rw [hm, if_pos rfl]; omega))
    exact Or.inr ⟨by rw [hc, hm, if_pos e, if_pos e], by rw [hm, if_pos e]; omega, by rw [hm, if_pos e]; omega⟩
  · exact Or.inl ⟨by rw [hc, if_neg e], by rw [hm, if_neg e]⟩
end GP
