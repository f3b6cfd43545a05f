/-! round -/
section RD
variable {α : Type} {X Y w : Nat} {σ ρ : Sto} {S : Nat → Int32}
theorem posI_spec {r : Nat → Nat} {p : Nat} : ∀ {x : Nat}, (∀ i, posI S r p x ≤ i → i < x → S (31 + 4 * p) < S (31 + 4 * r i)) ∧ (0 < posI S r p x → ¬ S (31 + 4 * p) < S (31 + 4 * r (posI S r p x - 1)))
  | 0 => ⟨fun i _ h => absurd h (Nat.not_lt_zero _), fun h => absurd h (Nat.lt_irrefl 0)⟩
  | x + 1 => by
    obtain ⟨h1, h2⟩ := posI_spec (r := r) (p := p) (x := x)
    unfold posI
    by_cases c : S (31 + 4 * p) < S (31 + 4 * r x)
    · rw [if_pos c]
      refine ⟨fun i a b => ?_, h2⟩
      by_cases e : i = x
      · rw [e]; exact c
      · exact h1 i a (by omega)
    · rw [if_neg c]
      exact ⟨fun i a b => absurd a (by omega), fun _ => by rw [Nat.add_sub_cancel]; exact c⟩
/-- the towns: each once, by miles -/
theorem tw_spec {np : Nat} (hd : ∀ j k, j < np → k < np → S (31 + 4 * j) = S (31 + 4 * k) → j = k) : ∀ p, p ≤ np → (∀ i, i < twN S p → twR S p i < p ∧ S (30 + 4 * twR S p i) = 3) ∧ (∀ i j, i < j → j < twN S p → (S (31 + 4 * twR S p i)).toInt < (S (31 + 4 * twR S p j)).toInt) ∧ (∀ k, k < p → S (30 + 4 * k) = 3 → ∃ i, i < twN S p ∧ twR S p i = k)
  | 0, _ => ⟨fun i h => absurd h (Nat.not_lt_zero _), fun i j _ h => absurd h (Nat.not_lt_zero _), fun k h => absurd h (Nat.not_lt_zero _)⟩
  | p + 1, hp => by
    obtain ⟨h1, h2, h3⟩ := tw_spec hd p (by omega)
    by_cases c : S (30 + 4 * p) = 3
    · have en : twN S (p + 1) = twN S p + 1 := by show (if S (30 + 4 * p) = 3 then twN S p + 1 else twN S p) = _; rw [if_pos c]
      have er : twR S (p + 1) = insAt (twR S p) p (posI S (twR S p) p (twN S p)) := by show (if S (30 + 4 * p) = 3 then insAt (twR S p) p (posI S (twR S p) p (twN S p)) else twR S p) = _; rw [if_pos c]
      obtain ⟨s1, s2⟩ := posI_spec (S := S) (r := twR S p) (p := p) (x := twN S p)
      have hpo := posI_le (S := S) (r := twR S p) (p := p) (x := twN S p)
      have lo : ∀ i, i < posI S (twR S p) p (twN S p) → (S (31 + 4 * twR S p i)).toInt < (S (31 + 4 * p)).toInt := fun i hi => by
        have a1 := s2 (by omega)
        rw [Int32.lt_iff_toInt_lt] at a1
        have a2 : (S (31 + 4 * twR S p i)).toInt ≤ (S (31 + 4 * twR S p (posI S (twR S p) p (twN S p) - 1))).toInt := by
          by_cases e : i = posI S (twR S p) p (twN S p) - 1
          · rw [← e]; exact Int.le_refl _
          · exact Int.le_of_lt (h2 i _ (by omega) (by omega))
        have a3 : (S (31 + 4 * twR S p i)).toInt ≠ (S (31 + 4 * p)).toInt := fun z => by
          have b1 := (h1 i (by omega)).1
          have b2 := hd (twR S p i) p (by omega) (by omega) (Int32.toInt_inj.mp z)
          omega
        omega
      have hi : ∀ i, posI S (twR S p) p (twN S p) ≤ i → i < twN S p → (S (31 + 4 * p)).toInt < (S (31 + 4 * twR S p i)).toInt := fun i a b => Int32.lt_iff_toInt_lt.mp (s1 i a b)
      rw [en, er]
      generalize posI S (twR S p) p (twN S p) = x at *
      unfold insAt
      refine ⟨fun i hin => ?_, fun i j hij hj => ?_, fun k hk hk3 => ?_⟩
      · by_cases z1 : i < x
        · rw [if_pos z1]
          have := h1 i (by omega)
          exact ⟨by omega, this.2⟩
        · rw [if_neg z1]
          by_cases z2 : i = x
          · rw [if_pos z2]; exact ⟨by omega, c⟩
          · rw [if_neg z2]
            have := h1 (i - 1) (by omega)
            exact ⟨by omega, this.2⟩
      · by_cases z1 : i < x
        · rw [if_pos z1]
          by_cases y1 : j < x
          · rw [if_pos y1]; exact h2 i j hij (by omega)
          · rw [if_neg y1]
            by_cases y2 : j = x
            · rw [if_pos y2]; exact lo i z1
            · rw [if_neg y2]; exact h2 i (j - 1) (by omega) (by omega)
        · rw [if_neg z1, if_neg (show ¬ j < x by omega), if_neg (show ¬ j = x by omega)]
          by_cases z2 : i = x
          · rw [if_pos z2]; exact hi (j - 1) (by omega) (by omega)
          · rw [if_neg z2]; exact h2 (i - 1) (j - 1) (by omega) (by omega)
      · by_cases e : k = p
        · exact ⟨x, by omega, by rw [if_neg (Nat.lt_irrefl x), if_pos rfl, e]⟩
        · obtain ⟨i, i1, i2⟩ := h3 k (by omega) hk3
          by_cases z : i < x
          · exact ⟨i, by omega, by rw [if_pos z]; exact i2⟩
          · exact ⟨i + 1, by omega, by rw [if_neg (show ¬ i + 1 < x by omega), if_neg (show ¬ i + 1 = x by omega), Nat.add_sub_cancel]; exact i2⟩
    · have en : twN S (p + 1) = twN S p := by show (if S (30 + 4 * p) = 3 then twN S p + 1 else twN S p) = _; rw [if_neg c]
      have er : twR S (p + 1) = twR S p := by show (if S (30 + 4 * p) = 3 then insAt (twR S p) p (posI S (twR S p) p (twN S p)) else twR S p) = _; rw [if_neg c]
      rw [en, er]
      refine ⟨fun i hin => ⟨by have := (h1 i hin).1; omega, (h1 i hin).2⟩, h2, fun k hk hk3 => ?_⟩
      by_cases e : k = p
      · rw [e] at hk3; exact absurd hk3 c
      · exact h3 k (by omega) hk3
/-- the best of those in D -/
def PB (ok : Nat → Prop) (lt : Nat → Nat → Prop) (D : Nat → Prop) (v : Int32) : Prop := (v = -1 ∧ ∀ k, D k → ¬ ok k) ∨ ∃ k, v = nI k ∧ k < 16 ∧ D k ∧ ok k ∧ ∀ k', D k' → ok k' → ¬ lt k k'
theorem PB_same {ok : Nat → Prop} {lt : Nat → Nat → Prop} {D E : Nat → Prop} {u v : Int32} (hDE : ∀ k, D k ↔ E k) (huniq : ∀ j k, D j → D k → ¬ lt j k → ¬ lt k j → j = k) (h : PB ok lt D u) (g : PB ok lt E v) : u = v := by
  rcases h with ⟨h1, h2⟩ | ⟨k, h1, h2, h3, h4, h5⟩
  · rcases g with ⟨g1, g2⟩ | ⟨j, g1, g2, g3, g4, g5⟩
    · rw [h1, g1]
    · exact absurd g4 (h2 j ((hDE j).mpr g3))
  · rcases g with ⟨g1, g2⟩ | ⟨j, g1, g2, g3, g4, g5⟩
    · exact absurd h4 (g2 k ((hDE k).mp h3))
    · rw [h1, g1, huniq k j h3 ((hDE j).mpr g3) (h5 j ((hDE j).mpr g3) g4) (g5 k ((hDE k).mp h3) h4)]
theorem PB_cong {ok : Nat → Prop} {lt : Nat → Nat → Prop} {D E : Nat → Prop} {v : Int32} (hDE : ∀ k, D k ↔ E k) (h : PB ok lt D v) : PB ok lt E v := by
  have e : D = E := funext (fun k => propext (hDE k))
  rw [← e]; exact h
theorem PB_no {ok : Nat → Prop} {lt : Nat → Nat → Prop} {D : Nat → Prop} {v : Int32} {j : Nat} (h : PB ok lt D v) (hj : ¬ ok j) : PB ok lt (fun k => D k ∨ k = j) v := by
  rcases h with ⟨h1, h2⟩ | ⟨k, h1, h2, h3, h4, h5⟩
  · exact Or.inl ⟨h1, fun k hk => hk.elim (h2 k) (fun e => by rw [e]; exact hj)⟩
  · exact Or.inr ⟨k, h1, h2, Or.inl h3, h4, fun k' hk' => hk'.elim (h5 k') (fun e o => absurd (by rw [← e]; exact o) hj)⟩
theorem PB_keep {ok : Nat → Prop} {lt : Nat → Nat → Prop} {D : Nat → Prop} {j m : Nat} (h : PB ok lt D (nI m)) (hm : m < 16) (hj : ¬ lt m j) : PB ok lt (fun k => D k ∨ k = j) (nI m) := by
  rcases h with ⟨h1, h2⟩ | ⟨k, h1, h2, h3, h4, h5⟩
  · have : ¬ nI m < 0 := nI_pos (by omega)
    rw [h1] at this
    exact absurd (show (-1 : Int32) < 0 by decide) this
  · have e : m = k := (nI_eq (by omega) (by omega)).mp h1
    subst e
    exact Or.inr ⟨m, rfl, hm, Or.inl h3, h4, fun k' hk' => hk'.elim (h5 k') (fun e _ => by rw [e]; exact hj)⟩
theorem PB_new {ok : Nat → Prop} {lt : Nat → Nat → Prop} {D : Nat → Prop} {j : Nat} (hj16 : j < 16) (hj : ok j) (hirr : ¬ lt j j) (hb : ∀ k, D k → ok k → ¬ lt j k) : PB ok lt (fun k => D k ∨ k = j) (nI j) :=
  Or.inr ⟨j, rfl, hj16, Or.inr rfl, hj, fun k' hk' => hk'.elim (hb k') (fun e _ => by rw [e]; exact hirr)⟩
/-- the last town up to a mile: the miles that serve, and which serves better -/
def okL (S : Nat → Int32) (F : Int32) (k : Nat) : Prop := ¬ F < S (31 + 4 * k)
def ltL (S : Nat → Int32) (a b : Nat) : Prop := (S (31 + 4 * a)).toInt < (S (31 + 4 * b)).toInt
/-- the first from a mile on -/
def okF (S : Nat → Int32) (T : Int32) (k : Nat) : Prop := ¬ S (31 + 4 * k) < T
def ltF (S : Nat → Int32) (a b : Nat) : Prop := (S (31 + 4 * b)).toInt < (S (31 + 4 * a)).toInt
/-- towns below p -/
def dmC (S : Nat → Int32) (p k : Nat) : Prop := k < p ∧ S (30 + 4 * k) = 3
theorem dmC_t {p : Nat} (h : S (30 + 4 * p) = 3) (k : Nat) : (dmC S p k ∨ k = p) ↔ dmC S (p + 1) k := by
  unfold dmC
  refine ⟨fun z => z.elim (fun y => ⟨by omega, y.2⟩) (fun y => ⟨by omega, by rw [y]; exact h⟩), fun z => ?_⟩
  by_cases e : k = p
  · exact Or.inr e
  · exact Or.inl ⟨by omega, z.2⟩
theorem dmC_f {p : Nat} (h : ¬ S (30 + 4 * p) = 3) (k : Nat) : dmC S p k ↔ dmC S (p + 1) k := by
  unfold dmC
  refine ⟨fun z => ⟨by omega, z.2⟩, fun z => ⟨?_, z.2⟩⟩
  by_cases e : k = p
  · rw [e] at z; exact absurd z.2 h
  · omega
theorem C_last (hW : LayW w σ) (hc : Scs σ 0 ≠ 0) {np : Nat} (hp : np ≤ 16) (p3 : SI σ (w + 1) 10 = nI np) (p9 : ∀ k, k < np → SI σ (w + 2) k = S (30 + 4 * k) ∧ SI σ (w + 3) k = S (31 + 4 * k) ∧ bd (S (30 + 4 * k)) 0 5) (F : Int32) : ∃ v, PB (okL S F) (ltL S) (dmC S np) v ∧ f_Ground_lastTownUpTo (w + 1) F true σ = (v, true, σ) := by
  obtain ⟨v, τ, ⟨k1, k2⟩, e⟩ := lp_exA (body := b_Ground_lastTownUpTo_4 (w + 1) F) (bad := fun (x2 : Int32) (x3 : Int32) (b : Bool) (σ : Sto) => (0, false, σ)) np (fun k v τ => τ = σ ∧ PB (okL S F) (ltL S) (dmC S k) v) (fun v τ => (v, true, τ)) (by omega)
    (fun p v τ hpp ⟨q1, q2⟩ => by
      subst q1
      obtain ⟨c1, c2, c3⟩ := p9 p hpp
      have et := e_isTownC hW hc (show p < 16 by omega) (by rw [c1]; exact c3)
      rw [c1] at et
      have pre : ∀ L, b_Ground_lastTownUpTo_4 (w + 1) F L v (nI p) true τ = (if bI (S (30 + 4 * p) = 3) = 0 then L v (nI p + 1) true τ else if F < S (31 + 4 * p) then L v (nI p + 1) true τ else if v < 0 then L (nI p) (nI p + 1) true τ else if SI τ (w + 3) (ix v) < S (31 + 4 * p) then L (nI p) (nI p + 1) (true && cA τ (w + 3) 21 v) τ else L v (nI p + 1) (true && cA τ (w + 3) 21 v) τ) := fun L => by
        unfold b_Ground_lastTownUpTo_4
        rw [p3, if_pos (nI_lt hpp (by omega)), cK_of (kW_1 hW)]
        simp only [Bool.and_true]
        rw [et, bd_]
        dsimp only
        rw [lt_, lt_, rW_1_1 hW, ix_nI (show p < 2 ^ 31 by omega), c2, cK_of (kW_1 hW), cA_of (kW_3 hW) (nW_3 hW) (show p < 16 by omega) (by decide)]
        rfl
      by_cases t : S (30 + 4 * p) = 3
      · by_cases s : F < S (31 + 4 * p)
        · refine ⟨v, τ, ⟨rfl, PB_cong (dmC_t t) (PB_no q2 (fun z => z s))⟩, fun L => ?_⟩
          rw [pre, bI_t t, if_neg (show ¬ (1 : Int32) = 0 by decide), if_pos s]
        · rcases id q2 with ⟨h1, h2⟩ | ⟨m, h1, h2, h3, h4, h5⟩
          · refine ⟨nI p, τ, ⟨rfl, PB_cong (dmC_t t) (PB_new (by omega) s (Int.lt_irrefl _) (fun k hk o => absurd o (h2 k hk)))⟩, fun L => ?_⟩
            rw [pre, bI_t t, if_neg (show ¬ (1 : Int32) = 0 by decide), if_neg s, h1, if_pos (show (-1 : Int32) < 0 by decide)]
          · subst h1
            have cm : SI τ (w + 3) m = S (31 + 4 * m) := (p9 m (by have := h3.1; omega)).2.1
            by_cases b : S (31 + 4 * m) < S (31 + 4 * p)
            · refine ⟨nI p, τ, ⟨rfl, PB_cong (dmC_t t) (PB_new (by omega) s (Int.lt_irrefl _) (fun k hk o => fun z => h5 k hk o ?_))⟩, fun L => ?_⟩
              · have b' := Int32.lt_iff_toInt_lt.mp b
                unfold ltL at z ⊢
                omega
              · rw [pre, bI_t t, if_neg (show ¬ (1 : Int32) = 0 by decide), if_neg s, if_neg (nI_pos (by omega)), ix_nI (show m < 2 ^ 31 by omega), cm, if_pos b, cA_of (kW_3 hW) (nW_3 hW) h2 (by decide)]
                rfl
            · refine ⟨nI m, τ, ⟨rfl, PB_cong (dmC_t t) (PB_keep q2 h2 (fun z => b (Int32.lt_iff_toInt_lt.mpr z)))⟩, fun L => ?_⟩
              rw [pre, bI_t t, if_neg (show ¬ (1 : Int32) = 0 by decide), if_neg s, if_neg (nI_pos (by omega)), ix_nI (show m < 2 ^ 31 by omega), cm, if_neg b, cA_of (kW_3 hW) (nW_3 hW) h2 (by decide)]
              rfl
      · refine ⟨v, τ, ⟨rfl, PB_cong (dmC_f t) q2⟩, fun L => ?_⟩
        rw [pre, bI_f t, if_pos rfl])
    (fun L v τ ⟨q1, q2⟩ => by
      subst q1
      unfold b_Ground_lastTownUpTo_4
      rw [p3, if_neg (nI_nlt (Nat.le_refl np) (by omega)), cK_of (kW_1 hW)]
      rfl)
    (-1) σ ⟨rfl, Or.inl ⟨rfl, fun k hk => absurd hk.1 (Nat.not_lt_zero _)⟩⟩
  subst k1
  refine ⟨v, k2, ?_⟩
  unfold f_Ground_lastTownUpTo
  rw [lt_, lt_]
  exact e
theorem C_first (hW : LayW w σ) (hc : Scs σ 0 ≠ 0) {np : Nat} (hp : np ≤ 16) (p3 : SI σ (w + 1) 10 = nI np) (p9 : ∀ k, k < np → SI σ (w + 2) k = S (30 + 4 * k) ∧ SI σ (w + 3) k = S (31 + 4 * k) ∧ bd (S (30 + 4 * k)) 0 5) (F : Int32) : ∃ v, PB (okF S F) (ltF S) (dmC S np) v ∧ f_Ground_firstTownFrom (w + 1) F true σ = (v, true, σ) := by
  obtain ⟨v, τ, ⟨k1, k2⟩, e⟩ := lp_exA (body := b_Ground_firstTownFrom_4 (w + 1) F) (bad := fun (x2 : Int32) (x3 : Int32) (b : Bool) (σ : Sto) => (0, false, σ)) np (fun k v τ => τ = σ ∧ PB (okF S F) (ltF S) (dmC S k) v) (fun v τ => (v, true, τ)) (by omega)
    (fun p v τ hpp ⟨q1, q2⟩ => by
      subst q1
      obtain ⟨c1, c2, c3⟩ := p9 p hpp
      have et := e_isTownC hW hc (show p < 16 by omega) (by rw [c1]; exact c3)
      rw [c1] at et
      have pre : ∀ L, b_Ground_firstTownFrom_4 (w + 1) F L v (nI p) true τ = (if bI (S (30 + 4 * p) = 3) = 0 then L v (nI p + 1) true τ else if S (31 + 4 * p) < F then L v (nI p + 1) true τ else if v < 0 then L (nI p) (nI p + 1) true τ else if S (31 + 4 * p) < SI τ (w + 3) (ix v) then L (nI p) (nI p + 1) (true && cA τ (w + 3) 21 v) τ else L v (nI p + 1) (true && cA τ (w + 3) 21 v) τ) := fun L => by
        unfold b_Ground_firstTownFrom_4
        rw [p3, if_pos (nI_lt hpp (by omega)), cK_of (kW_1 hW)]
        simp only [Bool.and_true]
        rw [et, bd_]
        dsimp only
        rw [lt_, lt_, rW_1_1 hW, ix_nI (show p < 2 ^ 31 by omega), c2, cK_of (kW_1 hW), cA_of (kW_3 hW) (nW_3 hW) (show p < 16 by omega) (by decide)]
        rfl
      by_cases t : S (30 + 4 * p) = 3
      · by_cases s : S (31 + 4 * p) < F
        · refine ⟨v, τ, ⟨rfl, PB_cong (dmC_t t) (PB_no q2 (fun z => z s))⟩, fun L => ?_⟩
          rw [pre, bI_t t, if_neg (show ¬ (1 : Int32) = 0 by decide), if_pos s]
        · rcases id q2 with ⟨h1, h2⟩ | ⟨m, h1, h2, h3, h4, h5⟩
          · refine ⟨nI p, τ, ⟨rfl, PB_cong (dmC_t t) (PB_new (by omega) s (Int.lt_irrefl _) (fun k hk o => absurd o (h2 k hk)))⟩, fun L => ?_⟩
            rw [pre, bI_t t, if_neg (show ¬ (1 : Int32) = 0 by decide), if_neg s, h1, if_pos (show (-1 : Int32) < 0 by decide)]
          · subst h1
            have cm : SI τ (w + 3) m = S (31 + 4 * m) := (p9 m (by have := h3.1; omega)).2.1
            by_cases b : S (31 + 4 * p) < S (31 + 4 * m)
            · refine ⟨nI p, τ, ⟨rfl, PB_cong (dmC_t t) (PB_new (by omega) s (Int.lt_irrefl _) (fun k hk o => fun z => h5 k hk o ?_))⟩, fun L => ?_⟩
              · have b' := Int32.lt_iff_toInt_lt.mp b
                unfold ltF at z ⊢
                omega
              · rw [pre, bI_t t, if_neg (show ¬ (1 : Int32) = 0 by decide), if_neg s, if_neg (nI_pos (by omega)), ix_nI (show m < 2 ^ 31 by omega), cm, if_pos b, cA_of (kW_3 hW) (nW_3 hW) h2 (by decide)]
                rfl
            · refine ⟨nI m, τ, ⟨rfl, PB_cong (dmC_t t) (PB_keep q2 h2 (fun z => b (Int32.lt_iff_toInt_lt.mpr z)))⟩, fun L => ?_⟩
              rw [pre, bI_t t, if_neg (show ¬ (1 : Int32) = 0 by decide), if_neg s, if_neg (nI_pos (by omega)), ix_nI (show m < 2 ^ 31 by omega), cm, if_neg b, cA_of (kW_3 hW) (nW_3 hW) h2 (by decide)]
              rfl
      · refine ⟨v, τ, ⟨rfl, PB_cong (dmC_f t) q2⟩, fun L => ?_⟩
        rw [pre, bI_f t, if_pos rfl])
    (fun L v τ ⟨q1, q2⟩ => by
      subst q1
      unfold b_Ground_firstTownFrom_4
      rw [p3, if_neg (nI_nlt (Nat.le_refl np) (by omega)), cK_of (kW_1 hW)]
      rfl)
    (-1) σ ⟨rfl, Or.inl ⟨rfl, fun k hk => absurd hk.1 (Nat.not_lt_zero _)⟩⟩
  subst k1
  refine ⟨v, k2, ?_⟩
  unfold f_Ground_firstTownFrom
  rw [lt_, lt_]
  exact e
end RD
