/-! plans for boxes: the least over all sets of towns; plain -/
section PN1
variable {p cr c : Int32} {cs : Nat} {m : Nat → Int32}
/-- the days of a leg, their square, a leg that can be walked -/
def pnD (p a c : Int32) : Int32 := (((c - a) + p) - 1) / p
def pnQ (x : Int32) : Nat := x.toInt.natAbs * x.toInt.natAbs
def pnL (p cr a c : Int32) : Option Nat := if cr < pnD p a c then none else some (pnQ (pnD p a c))
/-- behind the first k towns, of a set s: the mile and the sum -/
def pnS (p cr : Int32) (cs : Nat) (m : Nat → Int32) (s : Nat) : Nat → Option (Int32 × Nat)
  | 0 => some (0, 0)
  | k + 1 => (pnS p cr cs m s k).bind (fun q => if s.testBit k = true then (pnL p cr q.1 (m k)).map (fun v => (m k, q.2 + v + cs)) else some q)
def pnE (p cr : Int32) (cs : Nat) (m : Nat → Int32) (s k : Nat) (c : Int32) : Option Nat := (pnS p cr cs m s k).bind (fun q => (pnL p cr q.1 c).map (fun v => q.2 + v))
def pnO (s : Nat) : Nat → Nat
  | 0 => 0
  | k + 1 => pnO s k + (if s.testBit k = true then 1 else 0)
/-- a set's number: what it weighs, how many, which -/
def pnK (p cr : Int32) (cs : Nat) (m : Nat → Int32) (s k : Nat) (c : Int32) : Option Nat := (pnE p cr cs m s k c).map (fun t => t * 2097152 + pnO s k * 65536 + s)
def pnC (r l : Option Nat) : Option Nat := r.bind (fun v => l.map (fun q => v + q * 2097152))
def pnB (cs j : Nat) : Nat := cs * 2097152 + 65536 + 2 ^ j
theorem pnS_hi {s j : Nat} (hs : s < 2 ^ j) : ∀ d, pnS p cr cs m s (j + d) = pnS p cr cs m s j
  | 0 => rfl
  | d + 1 => by
    have e : s.testBit (j + d) = false := Nat.testBit_lt_two_pow (Nat.lt_of_lt_of_le hs (Nat.pow_le_pow_right (by decide) (by omega)))
    show (pnS p cr cs m s (j + d)).bind (fun q => if s.testBit (j + d) = true then (pnL p cr q.1 (m (j + d))).map (fun v => (m (j + d), q.2 + v + cs)) else some q) = _
    rw [pnS_hi hs d, e]
    cases pnS p cr cs m s j with
    | none => rfl
    | some q => rfl
theorem pnO_hi {s j : Nat} (hs : s < 2 ^ j) : ∀ d, pnO s (j + d) = pnO s j
  | 0 => rfl
  | d + 1 => by
    have e : s.testBit (j + d) = false := Nat.testBit_lt_two_pow (Nat.lt_of_lt_of_le hs (Nat.pow_le_pow_right (by decide) (by omega)))
    show pnO s (j + d) + (if s.testBit (j + d) = true then 1 else 0) = _
    rw [pnO_hi hs d, e]
    rfl
theorem pnS_lo {s j : Nat} : ∀ k, k ≤ j → pnS p cr cs m (2 ^ j + s) k = pnS p cr cs m s k
  | 0, _ => rfl
  | k + 1, h => by
    have e : (2 ^ j + s).testBit k = s.testBit k := Nat.testBit_two_pow_add_gt (by omega) s
    show (pnS p cr cs m (2 ^ j + s) k).bind (fun q => if (2 ^ j + s).testBit k = true then (pnL p cr q.1 (m k)).map (fun v => (m k, q.2 + v + cs)) else some q) = _
    rw [pnS_lo k (by omega), e]
    rfl
theorem pnO_lo {s j : Nat} : ∀ k, k ≤ j → pnO (2 ^ j + s) k = pnO s k
  | 0, _ => rfl
  | k + 1, h => by
    have e : (2 ^ j + s).testBit k = s.testBit k := Nat.testBit_two_pow_add_gt (by omega) s
    show pnO (2 ^ j + s) k + (if (2 ^ j + s).testBit k = true then 1 else 0) = _
    rw [pnO_lo k (by omega), e]
    rfl
theorem pnO_le {s : Nat} : ∀ k, pnO s k ≤ k
  | 0 => Nat.le_refl _
  | k + 1 => by
    have := pnO_le (s := s) k
    show pnO s k + (if s.testBit k = true then 1 else 0) ≤ k + 1
    split <;> omega
theorem pnO_half {s : Nat} : ∀ k, pnO s (k + 1) = s % 2 + pnO (s / 2) k
  | 0 => by
    show 0 + (if s.testBit 0 = true then 1 else 0) = s % 2 + 0
    rw [Nat.testBit_zero]
    by_cases h : s % 2 = 1
    · rw [decide_eq_true h, if_pos rfl, h]
    · rw [decide_eq_false h, if_neg (by decide)]
      omega
  | k + 1 => by
    show pnO s (k + 1) + (if s.testBit (k + 1) = true then 1 else 0) = s % 2 + (pnO (s / 2) k + (if (s / 2).testBit k = true then 1 else 0))
    rw [pnO_half k, Nat.testBit_succ]
    omega
/-- a set with the town j as its last one -/
theorem pnK_top {s j k : Nat} (hk : j < k) (hs : s < 2 ^ j) : pnK p cr cs m (2 ^ j + s) k c = pnC ((pnK p cr cs m s j (m j)).map (fun v => v + pnB cs j)) (pnL p cr (m j) c) := by
  have h1 : 2 ^ j + s < 2 ^ (j + 1) := by rw [Nat.pow_succ]; omega
  have e1 : pnS p cr cs m (2 ^ j + s) k = pnS p cr cs m (2 ^ j + s) (j + 1) := by
    have := pnS_hi (p := p) (cr := cr) (cs := cs) (m := m) h1 (k - (j + 1))
    rw [show j + 1 + (k - (j + 1)) = k by omega] at this
    exact this
  have e2 : pnO (2 ^ j + s) k = pnO (2 ^ j + s) (j + 1) := by
    have := pnO_hi h1 (k - (j + 1))
    rw [show j + 1 + (k - (j + 1)) = k by omega] at this
    exact this
  have e3 : (2 ^ j + s).testBit j = true := by rw [Nat.testBit_two_pow_add_eq, Nat.testBit_lt_two_pow hs]; rfl
  have e4 : pnS p cr cs m (2 ^ j + s) (j + 1) = (pnS p cr cs m s j).bind (fun q => (pnL p cr q.1 (m j)).map (fun v => (m j, q.2 + v + cs))) := by
    show (pnS p cr cs m (2 ^ j + s) j).bind (fun q => if (2 ^ j + s).testBit j = true then (pnL p cr q.1 (m j)).map (fun v => (m j, q.2 + v + cs)) else some q) = _
    rw [pnS_lo j (Nat.le_refl _), e3]
    rfl
  have e5 : pnO (2 ^ j + s) (j + 1) = pnO s j + 1 := by
    show pnO (2 ^ j + s) j + (if (2 ^ j + s).testBit j = true then 1 else 0) = _
    rw [pnO_lo j (Nat.le_refl _), e3]
    rfl
  unfold pnK pnE pnC pnB
  rw [e1, e2, e4, e5]
  generalize 2 ^ j = z
  cases pnS p cr cs m s j with
  | none => rfl
  | some q =>
    cases h : pnL p cr q.1 (m j) with
    | none => simp only [Option.bind_some, h, Option.map_none, Option.bind_none]
    | some v =>
      cases h' : pnL p cr (m j) c with
      | none => simp only [Option.bind_some, h, h', Option.map_some, Option.map_none]
      | some u =>
        simp only [Option.bind_some, h, h', Option.map_some, Option.some.injEq]
        omega
theorem pnK_0 {k : Nat} : pnK p cr cs m 0 k c = pnC (some 0) (pnL p cr 0 c) := by
  have e1 : pnS p cr cs m 0 k = some (0, 0) := by
    have := pnS_hi (p := p) (cr := cr) (cs := cs) (m := m) (s := 0) (j := 0) (by decide) k
    rw [Nat.zero_add] at this
    exact this
  have e2 : pnO 0 k = 0 := by
    have := pnO_hi (s := 0) (j := 0) (by decide) k
    rw [Nat.zero_add] at this
    exact this
  unfold pnK pnE pnC
  rw [e1, e2]
  cases h : pnL p cr 0 c with
  | none => simp only [Option.bind_some, h, Option.map_none]
  | some v =>
    simp only [Option.bind_some, h, Option.map_some, Option.some.injEq]
    omega
/-- the least of the first N -/
def pnM (f : Nat → Option Nat) (N : Nat) (r : Option Nat) : Prop := (r = none → ∀ s, s < N → f s = none) ∧ ∀ v, r = some v → (∃ s, s < N ∧ f s = some v) ∧ ∀ s, s < N → ∀ u, f s = some u → v ≤ u
def pn2 (a b : Option Nat) : Option Nat := match a, b with
  | none, b => b
  | some a, none => some a
  | some a, some b => if b < a then some b else some a
theorem pnM_0 {f : Nat → Option Nat} : pnM f 0 none := ⟨fun _ s hs => absurd hs (Nat.not_lt_zero _), fun v h => by cases h⟩
theorem pnM_1 {f : Nat → Option Nat} {r : Option Nat} (h : f 0 = r) : pnM f 1 r := ⟨fun e s hs => by rw [show s = 0 by omega, h, e], fun v e => ⟨⟨0, by omega, by rw [h, e]⟩, fun s hs u hu => by
  rw [show s = 0 by omega, h, e] at hu
  cases hu
  exact Nat.le_refl _⟩⟩
theorem pnM_cong {f g : Nat → Option Nat} {N : Nat} {r : Option Nat} (h : pnM f N r) (e : ∀ s, s < N → f s = g s) : pnM g N r :=
  ⟨fun z s hs => by rw [← e s hs]; exact h.1 z s hs, fun v z => ⟨by
    obtain ⟨⟨s, h1, h2⟩, -⟩ := h.2 v z
    exact ⟨s, h1, by rw [← e s h1]; exact h2⟩, fun s hs u hu => (h.2 v z).2 s hs u (by rw [e s hs]; exact hu)⟩⟩
theorem pnM_j {f : Nat → Option Nat} {N M : Nat} {a b : Option Nat} (h : pnM f N a) (g : pnM (fun s => f (N + s)) M b) : pnM f (N + M) (pn2 a b) := by
  have sp : ∀ s, s < N + M → s < N ∨ ∃ t, t < M ∧ s = N + t := fun s hs => by
    by_cases c : s < N
    · exact Or.inl c
    · exact Or.inr ⟨s - N, by omega, by omega⟩
  cases a with
  | none =>
    have h1 := h.1 rfl
    refine ⟨fun e s hs => ?_, fun v e => ⟨?_, fun s hs u hu => ?_⟩⟩
    · rcases sp s hs with c | ⟨t, t1, rfl⟩
      · exact h1 s c
      · exact g.1 e t t1
    · obtain ⟨⟨t, t1, t2⟩, -⟩ := g.2 v e
      exact ⟨N + t, by omega, t2⟩
    · rcases sp s hs with c | ⟨t, t1, rfl⟩
      · rw [h1 s c] at hu
        cases hu
      · exact (g.2 v e).2 t t1 u hu
  | some x =>
    obtain ⟨⟨s0, s1, s2⟩, s3⟩ := h.2 x rfl
    cases b with
    | none =>
      have g1 := g.1 rfl
      refine ⟨fun e => (by cases e), fun v e => ?_⟩
      cases e
      refine ⟨⟨s0, by omega, s2⟩, fun s hs u hu => ?_⟩
      rcases sp s hs with c | ⟨t, t1, rfl⟩
      · exact s3 s c u hu
      · rw [show f (N + t) = none from g1 t t1] at hu
        cases hu
    | some y =>
      obtain ⟨⟨t0, t1, t2⟩, t3⟩ := g.2 y rfl
      show pnM f (N + M) (if y < x then some y else some x)
      by_cases c : y < x
      · rw [if_pos c]
        refine ⟨fun e => (by cases e), fun v e => ?_⟩
        cases e
        refine ⟨⟨N + t0, by omega, t2⟩, fun s hs u hu => ?_⟩
        rcases sp s hs with d | ⟨t, q1, rfl⟩
        · have := s3 s d u hu
          omega
        · exact t3 t q1 u hu
      · rw [if_neg c]
        refine ⟨fun e => (by cases e), fun v e => ?_⟩
        cases e
        refine ⟨⟨s0, by omega, s2⟩, fun s hs u hu => ?_⟩
        rcases sp s hs with d | ⟨t, q1, rfl⟩
        · exact s3 s d u hu
        · have := t3 t q1 u hu
          omega
theorem pnM_map {f : Nat → Option Nat} {N : Nat} {r : Option Nat} (h : pnM f N r) (z : Nat) : pnM (fun s => (f s).map (fun v => v + z)) N (r.map (fun v => v + z)) := by
  cases r with
  | none => exact ⟨fun _ s hs => by show (f s).map _ = none; rw [h.1 rfl s hs]; rfl, fun v e => by cases e⟩
  | some x =>
    obtain ⟨⟨s0, s1, s2⟩, s3⟩ := h.2 x rfl
    refine ⟨fun e => (by cases e), fun v e => ?_⟩
    cases e
    refine ⟨⟨s0, s1, by show (f s0).map _ = _; rw [s2]; rfl⟩, fun s hs u hu => ?_⟩
    have hu' : (f s).map (fun v => v + z) = some u := hu
    cases hf : f s with
    | none => rw [hf] at hu'; cases hu'
    | some y =>
      rw [hf] at hu'
      cases hu'
      exact Nat.add_le_add_right (s3 s hs y hf) z
theorem pnM_C {f : Nat → Option Nat} {N : Nat} {r : Option Nat} (h : pnM f N r) (l : Option Nat) : pnM (fun s => pnC (f s) l) N (pnC r l) := by
  cases l with
  | none =>
    have e : ∀ x : Option Nat, pnC x none = none := fun x => by cases x <;> rfl
    exact ⟨fun _ s hs => e _, fun v q => by rw [e] at q; cases q⟩
  | some q =>
    have e : ∀ x : Option Nat, pnC x (some q) = x.map (fun v => v + q * 2097152) := fun x => by cases x <;> rfl
    rw [e]
    exact pnM_cong (pnM_map h (q * 2097152)) (fun s _ => (e _).symm)
theorem pnM_one {f : Nat → Option Nat} {N : Nat} {a b : Option Nat} (h : pnM f N a) (g : pnM f N b) : a = b := by
  cases a with
  | none =>
    cases b with
    | none => rfl
    | some y =>
      obtain ⟨⟨s, s1, s2⟩, -⟩ := g.2 y rfl
      rw [h.1 rfl s s1] at s2
      cases s2
  | some x =>
    obtain ⟨⟨s, s1, s2⟩, s3⟩ := h.2 x rfl
    cases b with
    | none =>
      rw [g.1 rfl s s1] at s2
      cases s2
    | some y =>
      obtain ⟨⟨t, t1, t2⟩, t3⟩ := g.2 y rfl
      have a1 := s3 t t1 y t2
      have a2 := t3 s s1 x s2
      rw [show x = y by omega]
end PN1
