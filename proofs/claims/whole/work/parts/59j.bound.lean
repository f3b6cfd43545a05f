/-! how far a walker may go: the same on both sides -/
section BND
variable {X Y w : Nat} {σ ρ : Sto} {S : Nat → Int32}
theorem cntI_nat {c : Nat → Bool} : ∀ n, n ≤ 1000 → ∃ m, m ≤ n ∧ cntI c n = nI m ∧ (m = 0 ↔ ∀ k, k < n → c k = false) := by
  have key : ∀ n i a, n + a ≤ 2000 → ∃ m, m ≤ n ∧ foldI (fun k (x : Int32) => x + (if c k = true then 1 else 0)) i n (nI a) = nI (a + m) ∧ (m = 0 ↔ ∀ k, i ≤ k → k < i + n → c k = false) := by
    intro n
    induction n with
    | zero => exact fun i a _ => ⟨0, Nat.le_refl _, rfl, ⟨fun _ k h1 h2 => absurd h1 (by omega), fun _ => rfl⟩⟩
    | succ n ih =>
      intro i a h
      by_cases hc : c i = true
      · obtain ⟨m, h1, h2, h3⟩ := ih (i + 1) (a + 1) (by omega)
        refine ⟨m + 1, by omega, ?_, ⟨fun z => absurd z (by omega), fun z => absurd (z i (Nat.le_refl _) (by omega)) (by rw [hc]; decide)⟩⟩
        show foldI _ (i + 1) n (nI a + (if c i = true then 1 else 0)) = _
        rw [if_pos hc, nI_p1, h2]
        congr 1; omega
      · have hc' : c i = false := by simpa using hc
        obtain ⟨m, h1, h2, h3⟩ := ih (i + 1) a (by omega)
        refine ⟨m, by omega, ?_, ⟨fun z k k1 k2 => ?_, fun z => h3.mpr (fun k k1 k2 => z k (by omega) (by omega))⟩⟩
        · show foldI _ (i + 1) n (nI a + (if c i = true then 1 else 0)) = _
          rw [if_neg hc, Int32.add_zero, h2]
        · by_cases e : k = i
          · rw [e]; exact hc'
          · exact h3.mp z k (by omega) (by omega)
  intro n hn
  obtain ⟨m, h1, h2, h3⟩ := key n 0 0 (by omega)
  refine ⟨m, h1, ?_, ?_⟩
  · rw [Nat.zero_add] at h2
    exact h2
  · rw [h3]
    exact ⟨fun z k hk => z k (Nat.zero_le _) (by omega), fun z k _ hk => z k (by omega)⟩
theorem cntI_pos {c : Nat → Bool} {n : Nat} (hn : n ≤ 1000) : 0 < cntI c n ↔ ∃ k, k < n ∧ c k = true := by
  obtain ⟨m, h1, h2, h3⟩ := cntI_nat (c := c) n hn
  rw [h2]
  constructor
  · intro z
    have hm : m ≠ 0 := fun e => by rw [e] at z; exact absurd z (by decide)
    by_cases h : ∃ k, k < n ∧ c k = true
    · exact h
    · exact absurd (h3.mpr (fun k hk => by
        cases hc : c k with
        | false => rfl
        | true => exact absurd ⟨k, hk, hc⟩ h)) hm
  · rintro ⟨k, hk, hc⟩
    have hm : 0 < m := Nat.pos_of_ne_zero (fun e => by have := h3.mp e k hk; rw [hc] at this; exact absurd this (by decide))
    exact nI_lt (a := 0) hm (by omega)
theorem cntI_eq0 {c : Nat → Bool} {n : Nat} (hn : n ≤ 1000) : cntI c n = 0 ↔ ∀ k, k < n → c k = false := by
  obtain ⟨m, h1, h2, h3⟩ := cntI_nat (c := c) n hn
  rw [h2, ← h3]
  exact ⟨fun z => (nI_eq (b := 0) (by omega) (by decide)).mp z, fun z => by rw [z]; rfl⟩
abbrev plM (S : Nat → Int32) (o mile : Int32) (nb : Nat) (k : Nat) : Bool := decide ((S (30 + 4 * k) = 4 ∧ ¬ S (32 + 4 * k) < S 0 / 7 ∧ ¬ S (31 + 4 * k) < mile) ∨ (S (30 + 4 * k) = 3 ∧ mile < S (31 + 4 * k) ∧ 0 < cntI (bxM S o (S (31 + 4 * k))) nb))
abbrev fiM (S : Nat → Int32) (mile : Int32) (k : Nat) : Bool := decide (inR (S 0) (S (102 + 4 * k)) (S (103 + 4 * k)) = 1 ∧ ¬ S (100 + 4 * k) < mile)
theorem e_bound2 (hY : LayY Y ρ) {nf : Nat} (hn : nf ≤ 6) (p6 : SI ρ (Y + 1) 3 = nI nf) (mile x : Int32) : lp_ (b_Model_bound_136 Y mile) (fun (x3 : Int32) (x4 : Int32) (b : Bool) (σ : Sto) => (0, false, σ)) fuel_ x 0 true ρ = (foldI (mnF (fiM (SI ρ (Y + 1)) mile) (fun k => SI ρ (Y + 1) (100 + 4 * k))) 0 nf x, true, ρ) := by
  refine (lp_acc (σ := ρ) nf (mnF (fiM (SI ρ (Y + 1)) mile) (fun k => SI ρ (Y + 1) (100 + 4 * k))) (fun x => (x, true, ρ)) (by omega) (fun L i x hi => ?_) (fun L x => ?_) 0 x (Nat.zero_le _)).trans ?_
  · unfold b_Model_bound_136 mnF fiM
    simp only [bd_, lt_, rY_0 hY, show ix (3 : Int32) = 3 from rfl, p6, cK_of (kY_0 hY), cYk hY 3 (v := 3) rfl (by decide), Bool.and_true, if_pos (show nI i < nI nf from nI_lt hi (by omega)), e_isOnM hY (show i < 6 by omega), e_fireAt, show nI (100 + 4 * i) + 0 = nI (100 + 4 * i) from nI_add _ 0, cY hY (show 100 + 4 * i < 3210 by omega), ix_nI (show 100 + 4 * i < 2 ^ 31 by omega), e_least, least_mn, decide_eq_true_eq]
    rcases inR_01 (SI ρ (Y + 1) 0) (SI ρ (Y + 1) (102 + 4 * i)) (SI ρ (Y + 1) (103 + 4 * i)) with e | e
    · rw [if_pos e, if_neg (fun z => absurd (e.symm.trans z.1) (by decide))]
    · rw [if_neg (by rw [e]; decide)]
      by_cases a : SI ρ (Y + 1) (100 + 4 * i) < mile
      · rw [if_pos a, if_neg (fun z => z.2 a)]
      · rw [if_neg a, if_pos ⟨e, a⟩]
  · unfold b_Model_bound_136
    simp only [lt_, rY_0 hY, show ix (3 : Int32) = 3 from rfl, p6, cK_of (kY_0 hY), cYk hY 3 (v := 3) rfl (by decide), Bool.and_true, if_neg (nI_nlt (Nat.le_refl nf) (by omega))]
  · rw [Nat.sub_zero]
theorem e_bound (hY : LayY Y ρ) {np nf nb k : Nat} (hk : k < 10) (hp : np ≤ 16) (hf : nf ≤ 6) (hb : nb ≤ 20) (p4 : SI ρ (Y + 1) 2 = nI np) (p6 : SI ρ (Y + 1) 3 = nI nf) (b3 : SI ρ (Y + 1) 6 = nI nb) (hpl : ∀ i, i < nb → ∃ j, j < 16 ∧ SI ρ (Y + 1) (341 + 5 * i) = nI j) : f_Model_bound Y (nI k) true ρ = (foldI (mnF (fiM (SI ρ (Y + 1)) (SI ρ (Y + 1) (131 + 20 * k))) (fun i => SI ρ (Y + 1) (100 + 4 * i))) 0 nf (foldI (mnF (plM (SI ρ (Y + 1)) (nI k) (SI ρ (Y + 1) (131 + 20 * k)) nb) (fun i => SI ρ (Y + 1) (31 + 4 * i))) 0 np (SI ρ (Y + 1) 1)), true, ρ) := by
  have e1 : nI (130 + 20 * k) + 1 = nI (131 + 20 * k) := by rw [nI_p1]; congr 1; omega
  unfold f_Model_bound
  simp only [bd_, lt_, e_walkerAt, e1, rY_0 hY, cK_of (kY_0 hY), show ix (1 : Int32) = 1 from rfl, cYk hY 1 (v := 1) rfl (by decide), cY hY (show 131 + 20 * k < 3210 by omega), ix_nI (show 131 + 20 * k < 2 ^ 31 by omega), Bool.and_true]
  generalize SI ρ (Y + 1) (131 + 20 * k) = mile
  refine (lp_acc (σ := ρ) np (mnF (plM (SI ρ (Y + 1)) (nI k) mile nb) (fun i => SI ρ (Y + 1) (31 + 4 * i))) (fun x => (foldI (mnF (fiM (SI ρ (Y + 1)) mile) (fun i => SI ρ (Y + 1) (100 + 4 * i))) 0 nf x, true, ρ)) (by omega) (fun L i x hi => ?_) (fun L x => ?_) 0 (SI ρ (Y + 1) 1) (Nat.zero_le _)).trans ?_
  · have e2 : nI (30 + 4 * i) + 2 = nI (32 + 4 * i) := by rw [nI_p2]; congr 1; omega
    have ew : ∀ b, f_Model_week Y b ρ = (SI ρ (Y + 1) 0 / 7, b, ρ) := fun b => by
      unfold f_Model_week
      rw [rY_0 hY, cK_of (kY_0 hY), cYk hY 0 (v := 0) rfl (by decide), show ix (0 : Int32) = 0 from rfl]
      simp only [Bool.and_true, show (!decide ((7 : Int32) = 0)) = true from rfl]
    have eb := fun m => e_boxesAtM hY hb b3 hpl (nI k) m
    unfold b_Model_bound_23 mnF plM
    simp only [bd_, lt_, rY_0 hY, show ix (2 : Int32) = 2 from rfl, p4, cK_of (kY_0 hY), cYk hY 2 (v := 2) rfl (by decide), Bool.and_true, if_pos (show nI i < nI np from nI_lt hi (by omega)), e_mileOf hY (show i < 700 by omega), e_kindOf hY (show i < 700 by omega), e_placeAt, e2, ew, cY hY (show 32 + 4 * i < 3210 by omega), ix_nI (show 32 + 4 * i < 2 ^ 31 by omega), eb, e_least, least_mn, decide_eq_true_eq]
    by_cases h4 : SI ρ (Y + 1) (30 + 4 * i) = 4
    · have h3 : ¬ SI ρ (Y + 1) (30 + 4 * i) = 3 := by rw [h4]; decide
      simp only [if_pos h4, if_neg h3]
      by_cases a : SI ρ (Y + 1) (32 + 4 * i) < SI ρ (Y + 1) 0 / 7
      · simp only [if_pos a, if_true]
        rw [if_neg (fun z => z.elim (fun y => y.2.1 a) (fun y => h3 y.1))]
      · simp only [if_neg a]
        by_cases b : SI ρ (Y + 1) (31 + 4 * i) < mile
        · simp only [if_pos b, if_true]
          rw [if_neg (fun z => z.elim (fun y => y.2.2 b) (fun y => h3 y.1))]
        · simp only [if_neg b, i10, if_false]
          rw [if_pos (Or.inl ⟨h4, a, b⟩)]
    · simp only [if_neg h4]
      by_cases h3 : SI ρ (Y + 1) (30 + 4 * i) = 3
      · simp only [if_pos h3]
        by_cases a : mile < SI ρ (Y + 1) (31 + 4 * i)
        · simp only [if_pos a]
          by_cases b : 0 < cntI (bxM (SI ρ (Y + 1)) (nI k) (SI ρ (Y + 1) (31 + 4 * i))) nb
          · simp only [if_pos b, i10, if_false]
            rw [if_pos (Or.inr ⟨h3, a, b⟩)]
          · simp only [if_neg b, if_true]
            rw [if_neg (fun z => z.elim (fun y => h4 y.1) (fun y => b y.2.2))]
        · simp only [if_neg a, if_true]
          rw [if_neg (fun z => z.elim (fun y => h4 y.1) (fun y => a y.2.1))]
      · simp only [if_neg h3, if_true]
        rw [if_neg (fun z => z.elim (fun y => h4 y.1) (fun y => h3 y.1))]
  · unfold b_Model_bound_23
    rw [rY_0 hY, show ix (2 : Int32) = 2 from rfl, p4, if_neg (nI_nlt (Nat.le_refl np) (by omega)), lt_, cK_of (kY_0 hY), cYk hY 2 (v := 2) rfl (by decide)]
    exact e_bound2 hY hf p6 mile x
  · rw [Nat.sub_zero]
/-- the end of a day's walk, the same on both sides, between its begin and the length -/
theorem end_same (hG : rG σ w S) (hB : rB σ w S) {np nf nb k m0 : Nat} (hp : np ≤ 16) (hf : nf ≤ 6) (hb : nb ≤ 20) (p4 : S 2 = nI np) (p6 : S 3 = nI nf) (b3 : S 6 = nI nb) (d : Int32) (hd : d = S 0) (hm0 : bd (nI m0) 0 (S 1).toInt) (hm : m0 ≤ 2000) (s : Int32) (hs : nI m0 ≤ s) :
    mnI (mnI (mnI (mnI s (SI σ (w + 1) 9)) (foldI (mnF (snC σ w (nI m0) d) (SI σ (w + 3))) 0 np (SI σ (w + 1) 9))) (foldI (mnF (fiC σ w (nI m0) d) (SI σ (w + 7))) 0 nf (SI σ (w + 1) 9))) (foldI (mnF (twC σ w (nI k) (nI m0)) (fun i => SI σ (w + 3) (ix (SI σ (w + 17) i)))) 0 nb (SI σ (w + 1) 9)) = mnI (foldI (mnF (fiM S (nI m0)) (fun i => S (100 + 4 * i))) 0 nf (foldI (mnF (plM S (nI k) (nI m0) nb) (fun i => S (31 + 4 * i))) 0 np (S 1))) s ∧ nI m0 ≤ mnI (foldI (mnF (fiM S (nI m0)) (fun i => S (100 + 4 * i))) 0 nf (foldI (mnF (plM S (nI k) (nI m0) nb) (fun i => S (31 + 4 * i))) 0 np (S 1))) s ∧ mnI (foldI (mnF (fiM S (nI m0)) (fun i => S (100 + 4 * i))) 0 nf (foldI (mnF (plM S (nI k) (nI m0) nb) (fun i => S (31 + 4 * i))) 0 np (S 1))) s ≤ S 1 := by
  obtain ⟨np', nf', q1, q2, q3, q4, q5, q6, q7, q8, q9, q10, q11, q12⟩ := hG
  have en : np' = np := (nI_eq (by omega) (by omega)).mp (q4.symm.trans p4)
  have ef : nf' = nf := (nI_eq (by omega) (by omega)).mp (q6.symm.trans p6)
  subst en ef
  obtain ⟨nb', r1, r2, r3, r4⟩ := hB
  have eb : nb' = nb := (nI_eq (by omega) (by omega)).mp (r3.symm.trans b3)
  subst eb
  have pl : ∀ i, i < nb' → ∃ j, j < np' ∧ S (341 + 5 * i) = nI j ∧ S (30 + 4 * j) = 3 := fun i hi => by
    obtain ⟨x0, x1, x2, x3, x4, x5, x6, x7, x8, x9, x10, x11, x12⟩ := r4 i hi
    obtain ⟨j, hj, ej⟩ := in_nat q4 (by omega) x7 (Int32.le_of_lt x8)
    rw [ej, q4] at x8
    rw [ej, ix_nI (by omega)] at x12
    exact ⟨j, (nI_ltI (by omega) (by omega)).mp x8, ej, x12⟩
  have town : ∀ z : Int32, (∀ i, 0 ≤ i → i < 0 + nb' → twC σ w (nI k) (nI m0) i = true → z ≤ SI σ (w + 3) (ix (SI σ (w + 17) i))) ↔ ∀ i j, i < nb' → j < np' → S (341 + 5 * i) = nI j → opM S (nI k) i = true → nI m0 < S (31 + 4 * j) → z ≤ S (31 + 4 * j) := by
    intro z
    constructor
    · intro h i j hi hj ej ho hl
      obtain ⟨x0, x1, x2, x3, x4, -⟩ := r4 i hi
      have h2 := h i (Nat.zero_le _) (by omega)
      unfold twC at h2
      rw [x1, ej, ix_nI (show j < 2 ^ 31 by omega), (q9 j hj).2.1, x0, x4] at h2
      unfold opM at ho
      have ho' := of_decide_eq_true ho
      exact h2 (decide_eq_true ⟨⟨ho'.2, ho'.1⟩, hl⟩)
    · intro h i _ hi hc
      have hi' : i < nb' := by omega
      obtain ⟨x0, x1, x2, x3, x4, -⟩ := r4 i hi'
      obtain ⟨j, hj, ej, e3⟩ := pl i hi'
      unfold twC at hc
      rw [x1, ej, ix_nI (show j < 2 ^ 31 by omega), (q9 j hj).2.1, x0, x4] at hc
      have hc' := of_decide_eq_true hc
      rw [x1, ej, ix_nI (show j < 2 ^ 31 by omega), (q9 j hj).2.1]
      exact h i j hi' hj ej (decide_eq_true ⟨hc'.1.2, hc'.1.1⟩) hc'.2
  have place : ∀ z : Int32, (∀ i, 0 ≤ i → i < 0 + np' → plM S (nI k) (nI m0) nb' i = true → z ≤ S (31 + 4 * i)) ↔ (∀ i, 0 ≤ i → i < 0 + np' → snC σ w (nI m0) d i = true → z ≤ SI σ (w + 3) i) ∧ ∀ i j, i < nb' → j < np' → S (341 + 5 * i) = nI j → opM S (nI k) i = true → nI m0 < S (31 + 4 * j) → z ≤ S (31 + 4 * j) := by
    intro z
    constructor
    · intro h
      refine ⟨fun i _ hi hc => ?_, fun i j hi hj ej ho hl => ?_⟩
      · obtain ⟨y0, y1, y2, -⟩ := q9 i (by omega)
        unfold snC at hc
        rw [y0, y1, y2, hd] at hc
        have hc' := of_decide_eq_true hc
        rw [y1]
        exact h i (Nat.zero_le _) hi (decide_eq_true (Or.inl ⟨hc'.2.1, hc'.2.2, hc'.1⟩))
      · obtain ⟨j', hj', ej', e3⟩ := pl i hi
        have e : j' = j := (nI_eq (by omega) (by omega)).mp (ej'.symm.trans ej)
        subst e
        refine h j' (Nat.zero_le _) (by omega) (decide_eq_true (Or.inr ⟨e3, hl, (cntI_pos (by omega)).mpr ⟨i, hi, ?_⟩⟩))
        unfold bxM
        rw [ho, ej, ix_nI (by omega), decide_eq_true rfl, Bool.or_true]
        rfl
    · intro ⟨h1, h2⟩ i _ hi hc
      have hc' := of_decide_eq_true hc
      rcases hc' with ⟨c1, c2, c3⟩ | ⟨c1, c2, c3⟩
      · obtain ⟨y0, y1, y2, -⟩ := q9 i (by omega)
        have h3 := h1 i (Nat.zero_le _) hi
        unfold snC at h3
        rw [y0, y1, y2, hd] at h3
        exact h3 (decide_eq_true ⟨c3, c1, c2⟩)
      · obtain ⟨b, hb', hc2⟩ := (cntI_pos (by omega)).mp c3
        obtain ⟨j, hj, ej, e3⟩ := pl b hb'
        unfold bxM at hc2
        rw [ej, ix_nI (by omega)] at hc2
        have ho : opM S (nI k) b = true := by
          cases hx : opM S (nI k) b with
          | true => rfl
          | false => rw [hx] at hc2; exact absurd hc2 (by simp)
        rw [ho, Bool.true_and] at hc2
        have hmile : S (31 + 4 * j) = S (31 + 4 * i) := by
          rcases Bool.or_eq_true_iff.mp hc2 with y | y
          · have y' := of_decide_eq_true y
            exact absurd y' (Int32.not_lt.mpr (Int32.le_trans (nI_pos' (by omega)) (Int32.le_of_lt c2)))
          · exact of_decide_eq_true y
        rw [← hmile]
        exact h2 b j hb' hj ej ho (by rw [hmile]; exact c2)
  have fire : ∀ z : Int32, (∀ i, 0 ≤ i → i < 0 + nf' → fiM S (nI m0) i = true → z ≤ S (100 + 4 * i)) ↔ ∀ i, 0 ≤ i → i < 0 + nf' → fiC σ w (nI m0) d i = true → z ≤ SI σ (w + 7) i := by
    intro z
    constructor
    · intro h i h1 hi hc
      obtain ⟨y0, y1, y2, y3, -⟩ := q11 i (by omega)
      unfold fiC at hc
      rw [y0, y2, y3, hd] at hc
      rw [y0]
      exact h i h1 hi hc
    · intro h i h1 hi hc
      obtain ⟨y0, y1, y2, y3, -⟩ := q11 i (by omega)
      have h2 := h i h1 hi
      unfold fiC at h2
      rw [y0, y2, y3, hd] at h2
      exact h2 hc
  have hl1 : nI m0 ≤ S 1 := Int32.le_iff_toInt_le.mpr hm0.2
  refine ⟨eq_of_le (fun z => ?_), ?_, ?_⟩
  · rw [le_mn, le_mn, le_mn, le_mn, le_mn, le_fold, le_fold, le_fold, le_fold, le_fold, q7, town z, place z, fire z]
    constructor
    · intro ⟨⟨⟨⟨a1, a2⟩, a3, a4⟩, a5, a6⟩, a7, a8⟩
      exact ⟨⟨⟨a2, a4, a8⟩, a6⟩, a1⟩
    · intro ⟨⟨⟨a2, a4, a8⟩, a6⟩, a1⟩
      exact ⟨⟨⟨⟨a1, a2⟩, a2, a4⟩, a2, a6⟩, a2, a8⟩
  · rw [le_mn, le_fold, le_fold]
    refine ⟨⟨⟨hl1, fun i _ hi hc => ?_⟩, fun i _ hi hc => ?_⟩, hs⟩
    · rcases of_decide_eq_true hc with ⟨c1, c2, c3⟩ | ⟨c1, c2, c3⟩
      · exact Int32.not_lt.mp c3
      · exact Int32.le_of_lt c2
    · exact Int32.not_lt.mp (of_decide_eq_true hc).2
  · have h1 := (le_mn (z := mnI (foldI (mnF (fiM S (nI m0)) (fun i => S (100 + 4 * i))) 0 nf' (foldI (mnF (plM S (nI k) (nI m0) nb') (fun i => S (31 + 4 * i))) 0 np' (S 1))) s)).mp (Int32.le_refl _)
    exact ((le_fold).mp ((le_fold).mp h1.1).1).1
end BND
