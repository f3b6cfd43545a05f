/-! how far a walker goes: both sides' searches -/
section FAR
variable {X Y w : Nat} {σ ρ : Sto} {S : Nat → Int32}
theorem least_mn (x y : Int32) : (if x < y then x else y) = mnI x y := mnI_lt x y
theorem le_mn {z x y : Int32} : z ≤ mnI x y ↔ z ≤ x ∧ z ≤ y := by
  unfold mnI
  by_cases h : y < x
  · rw [if_pos h]
    exact ⟨fun q => ⟨Int32.le_trans q (Int32.le_of_lt h), q⟩, fun q => q.2⟩
  · rw [if_neg h]
    exact ⟨fun q => ⟨q, Int32.le_trans q (Int32.not_lt.mp h)⟩, fun q => q.1⟩
theorem eq_of_le {x y : Int32} (h : ∀ z : Int32, z ≤ x ↔ z ≤ y) : x = y := Int32.le_antisymm ((h x).mp (Int32.le_refl _)) ((h y).mpr (Int32.le_refl _))
abbrev mnF (c : Nat → Bool) (m : Nat → Int32) (k : Nat) (x : Int32) : Int32 := if c k = true then mnI x (m k) else x
theorem le_fold {c : Nat → Bool} {m : Nat → Int32} {z : Int32} : ∀ {n i : Nat} {x : Int32}, z ≤ foldI (mnF c m) i n x ↔ z ≤ x ∧ ∀ k, i ≤ k → k < i + n → c k = true → z ≤ m k
  | 0, i, x => ⟨fun h => ⟨h, fun k h1 h2 => absurd h1 (by omega)⟩, fun h => h.1⟩
  | n + 1, i, x => by
    show z ≤ foldI (mnF c m) (i + 1) n (mnF c m i x) ↔ _
    rw [le_fold (n := n)]
    unfold mnF
    by_cases hc : c i = true
    · rw [if_pos hc, le_mn]
      constructor
      · intro ⟨⟨a, b⟩, q⟩
        refine ⟨a, fun k h1 h2 h3 => ?_⟩
        by_cases e : k = i
        · rw [e]; exact b
        · exact q k (by omega) (by omega) h3
      · intro ⟨a, q⟩
        exact ⟨⟨a, q i (Nat.le_refl _) (by omega) hc⟩, fun k h1 h2 h3 => q k (by omega) (by omega) h3⟩
    · rw [if_neg hc]
      constructor
      · intro ⟨a, q⟩
        refine ⟨a, fun k h1 h2 h3 => ?_⟩
        by_cases e : k = i
        · rw [e] at h3; exact absurd h3 hc
        · exact q k (by omega) (by omega) h3
      · intro ⟨a, q⟩
        exact ⟨a, fun k h1 h2 h3 => q k (by omega) (by omega) h3⟩
-- the class's
abbrev snC (σ : Sto) (w : Nat) (mile d : Int32) (k : Nat) : Bool := decide (¬ SI σ (w + 3) k < mile ∧ SI σ (w + 2) k = 4 ∧ ¬ SI σ (w + 4) k < d / 7)
theorem e_snow (hW : LayW w σ) (hc : Scs σ 0 ≠ 0) {np : Nat} (hn : np ≤ 16) (p3 : SI σ (w + 1) 10 = nI np) (hb : ∀ k, k < np → bd (SI σ (w + 2) k) 0 5) (mile d : Int32) : f_Ground_firstSnowFrom (w + 1) mile d true σ = (foldI (mnF (snC σ w mile d) (SI σ (w + 3))) 0 np (SI σ (w + 1) 9), true, σ) := by
  unfold f_Ground_firstSnowFrom
  rw [lt_, lt_, cK_of (kW_1 hW), Bool.and_true]
  refine (lp_acc (σ := σ) np (mnF (snC σ w mile d) (SI σ (w + 3))) (fun x => (x, true, σ)) (by omega) (fun L i x hi => ?_) (fun L x => ?_) 0 (SI σ (w + 1) 9) (Nat.zero_le _)).trans ?_
  · unfold b_Ground_firstSnowFrom_8 mnF snC
    simp only [bd_, lt_, p3, rW_1_1 hW, rW_1_2 hW, cK_of (kW_1 hW), ix_nI (show i < 2 ^ 31 by omega), e_isPassC hW hc (show i < 16 by omega) (hb i hi), cA_of (kW_3 hW) (nW_3 hW) (show i < 16 by omega) (by decide), cA_of (kW_4 hW) (nW_4 hW) (show i < 16 by omega) (by decide), show (!decide ((7 : Int32) = 0)) = true from rfl, Bool.and_true, if_pos (show nI i < nI np from nI_lt hi (by omega)), decide_eq_true_eq]
    by_cases a : SI σ (w + 3) i < mile
    · rw [if_pos a, if_neg (fun z => z.1 a)]
    · rw [if_neg a]
      by_cases b : SI σ (w + 2) i = 4
      · rw [if_neg (by rw [bI_t b]; decide)]
        by_cases c : SI σ (w + 4) i < d / 7
        · rw [if_pos c, if_neg (fun z => z.2.2 c)]
        · rw [if_neg c, if_pos ⟨a, b, c⟩]
      · rw [if_pos (bI_f b), if_neg (fun z => b z.2.1)]
  · unfold b_Ground_firstSnowFrom_8
    simp only [lt_, p3, cK_of (kW_1 hW), Bool.and_true, if_neg (nI_nlt (Nat.le_refl np) (by omega))]
  · rw [Nat.sub_zero]
abbrev fiC (σ : Sto) (w : Nat) (mile d : Int32) (k : Nat) : Bool := decide (inR d (SI σ (w + 9) k) (SI σ (w + 10) k) = 1 ∧ ¬ SI σ (w + 7) k < mile)
theorem e_fires (hW : LayW w σ) {nf : Nat} (hn : nf ≤ 6) (p5 : SI σ (w + 1) 11 = nI nf) (mile d : Int32) : f_Ground_firstFireFrom (w + 1) mile d true σ = (foldI (mnF (fiC σ w mile d) (SI σ (w + 7))) 0 nf (SI σ (w + 1) 9), true, σ) := by
  unfold f_Ground_firstFireFrom
  rw [lt_, lt_, cK_of (kW_1 hW), Bool.and_true]
  refine (lp_acc (σ := σ) nf (mnF (fiC σ w mile d) (SI σ (w + 7))) (fun x => (x, true, σ)) (by omega) (fun L i x hi => ?_) (fun L x => ?_) 0 (SI σ (w + 1) 9) (Nat.zero_le _)).trans ?_
  · unfold b_Ground_firstFireFrom_8 mnF fiC
    simp only [bd_, lt_, p5, rW_1_5 hW, cK_of (kW_1 hW), ix_nI (show i < 2 ^ 31 by omega), e_isOnC hW (show i < 6 by omega), cA_of (kW_7 hW) (nW_7 hW) (show i < 6 by omega) (by decide), Bool.and_true, if_pos (show nI i < nI nf from nI_lt hi (by omega)), decide_eq_true_eq]
    rcases inR_01 d (SI σ (w + 9) i) (SI σ (w + 10) i) with e | e
    · rw [if_pos e, if_neg (fun z => absurd (e.symm.trans z.1) (by decide))]
    · rw [if_neg (by rw [e]; decide)]
      by_cases a : SI σ (w + 7) i < mile
      · rw [if_pos a, if_neg (fun z => z.2 a)]
      · rw [if_neg a, if_pos ⟨e, a⟩]
  · unfold b_Ground_firstFireFrom_8
    simp only [lt_, p5, cK_of (kW_1 hW), Bool.and_true, if_neg (nI_nlt (Nat.le_refl nf) (by omega))]
  · rw [Nat.sub_zero]
abbrev twC (σ : Sto) (w : Nat) (o mile : Int32) (k : Nat) : Bool := decide ((SI σ (w + 20) k = 0 ∧ SI σ (w + 16) k = o) ∧ mile < SI σ (w + 3) (ix (SI σ (w + 17) k)))
theorem e_townBeyond (hW : LayW w σ) {nb : Nat} (hn : nb ≤ 20) (b2 : SI σ (w + 15) 5 = nI nb) (hp : ∀ k, k < nb → ∃ j, j < 16 ∧ SI σ (w + 17) k = nI j) (o mile : Int32) : f_Post_firstTownBeyond (w + 15) o mile (w + 1) true σ = (foldI (mnF (twC σ w o mile) (fun k => SI σ (w + 3) (ix (SI σ (w + 17) k)))) 0 nb (SI σ (w + 1) 9), true, σ) := by
  unfold f_Post_firstTownBeyond
  rw [lt_, lt_, cK_of (kW_1 hW), Bool.and_true]
  refine (lp_acc (σ := σ) nb (mnF (twC σ w o mile) (fun k => SI σ (w + 3) (ix (SI σ (w + 17) k)))) (fun x => (x, true, σ)) (by omega) (fun L i x hi => ?_) (fun L x => ?_) 0 (SI σ (w + 1) 9) (Nat.zero_le _)).trans ?_
  · obtain ⟨j, hj, ej⟩ := hp i hi
    unfold b_Post_firstTownBeyond_9 mnF twC
    simp only [bd_, lt_, b2, rW_15_1 hW, rW_1_1 hW, cK_of (kW_15 hW), cK_of (kW_1 hW), ix_nI (show i < 2 ^ 31 by omega), ej, ix_nI (show j < 2 ^ 31 by omega), e_isOpenFor hW (show i < 20 by omega), cA_of (kW_17 hW) (nW_17 hW) (show i < 20 by omega) (by decide), cA_of (kW_3 hW) (nW_3 hW) hj (by decide), Bool.and_true, if_pos (show nI i < nI nb from nI_lt hi (by omega)), decide_eq_true_eq]
    by_cases a : SI σ (w + 20) i = 0 ∧ SI σ (w + 16) i = o
    · rw [if_neg (by rw [bI_t a]; decide)]
      by_cases c : mile < SI σ (w + 3) j
      · rw [if_pos c, if_pos ⟨a, c⟩]
      · rw [if_neg c, if_neg (fun z => c z.2)]
    · rw [if_pos (bI_f a), if_neg (fun z => a z.1)]
  · unfold b_Post_firstTownBeyond_9
    simp only [lt_, b2, cK_of (kW_15 hW), Bool.and_true, if_neg (nI_nlt (Nat.le_refl nb) (by omega))]
  · rw [Nat.sub_zero]
abbrev lwF (K M : Nat → Int32) (fr to : Int32) (k : Nat) (x : Int32) : Int32 := if (fr < M k ∧ ¬ to < M k ∧ isWat (K k) = 1) ∧ x < M k then M k else x
theorem e_lastWater (hW : LayW w σ) (hc : Scs σ 0 ≠ 0) {np : Nat} (hn : np ≤ 16) (p3 : SI σ (w + 1) 10 = nI np) (hb : ∀ k, k < np → bd (SI σ (w + 2) k) 0 5) (fr to : Int32) : f_Ground_lastWater (w + 1) fr to true σ = (foldI (lwF (SI σ (w + 2)) (SI σ (w + 3)) fr to) 0 np (-1), true, σ) := by
  unfold f_Ground_lastWater
  rw [lt_, lt_]
  refine (lp_acc (σ := σ) np (lwF (SI σ (w + 2)) (SI σ (w + 3)) fr to) (fun x => (x, true, σ)) (by omega) (fun L i x hi => ?_) (fun L x => ?_) 0 (-1) (Nat.zero_le _)).trans ?_
  · unfold b_Ground_lastWater_5 lwF
    simp only [bd_, lt_, p3, rW_1_1 hW, cK_of (kW_1 hW), ix_nI (show i < 2 ^ 31 by omega), e_isWatC hW hc (show i < 16 by omega) (hb i hi), cA_of (kW_3 hW) (nW_3 hW) (show i < 16 by omega) (by decide), Bool.and_true, if_pos (show nI i < nI np from nI_lt hi (by omega))]
    by_cases a : fr < SI σ (w + 3) i
    · rw [if_pos a]
      by_cases b : to < SI σ (w + 3) i
      · rw [if_pos b, if_neg (fun z => z.1.2.1 b)]
      · rw [if_neg b]
        rcases isWat_01 (SI σ (w + 2) i) with e | e
        · rw [if_pos e, if_neg (fun z => absurd (e.symm.trans z.1.2.2) (by decide))]
        · rw [if_neg (by rw [e]; decide)]
          unfold mxI
          by_cases c : x < SI σ (w + 3) i
          · rw [if_pos c, if_pos ⟨⟨a, b, e⟩, c⟩]
          · rw [if_neg c, if_neg (fun z => c z.2)]
    · rw [if_neg a, if_neg (fun z => a z.1.1)]
  · unfold b_Ground_lastWater_5
    simp only [lt_, p3, cK_of (kW_1 hW), Bool.and_true, if_neg (nI_nlt (Nat.le_refl np) (by omega))]
  · rw [Nat.sub_zero]
abbrev feF (σ : Sto) (w : Nat) (mile d : Int32) (k : Nat) (x : Int32) : Int32 := if inR d (SI σ (w + 9) k) (SI σ (w + 10) k) = 1 ∧ SI σ (w + 7) k = mile then mxI x (SI σ (w + 8) k) else x
theorem e_farEnd (hW : LayW w σ) {nf : Nat} (hn : nf ≤ 6) (p5 : SI σ (w + 1) 11 = nI nf) (mile d : Int32) : f_Ground_farEndOfFire (w + 1) mile d true σ = (foldI (feF σ w mile d) 0 nf (-1), true, σ) := by
  unfold f_Ground_farEndOfFire
  rw [lt_, lt_]
  refine (lp_acc (σ := σ) nf (feF σ w mile d) (fun x => (x, true, σ)) (by omega) (fun L i x hi => ?_) (fun L x => ?_) 0 (-1) (Nat.zero_le _)).trans ?_
  · unfold b_Ground_farEndOfFire_5 feF
    simp only [bd_, lt_, p5, rW_1_5 hW, rW_1_6 hW, cK_of (kW_1 hW), ix_nI (show i < 2 ^ 31 by omega), e_isOnC hW (show i < 6 by omega), cA_of (kW_7 hW) (nW_7 hW) (show i < 6 by omega) (by decide), cA_of (kW_8 hW) (nW_8 hW) (show i < 6 by omega) (by decide), Bool.and_true, if_pos (show nI i < nI nf from nI_lt hi (by omega))]
    rcases inR_01 d (SI σ (w + 9) i) (SI σ (w + 10) i) with e | e
    · rw [if_pos e, if_neg (fun z => absurd (e.symm.trans z.1) (by decide))]
    · rw [if_neg (by rw [e]; decide)]
      by_cases a : SI σ (w + 7) i = mile
      · rw [if_pos a, if_pos ⟨e, a⟩]
      · rw [if_neg a, if_neg (fun z => a z.2)]
  · unfold b_Ground_farEndOfFire_5
    simp only [lt_, p5, cK_of (kW_1 hW), Bool.and_true, if_neg (nI_nlt (Nat.le_refl nf) (by omega))]
  · rw [Nat.sub_zero]
-- the reference's
abbrev faF (S : Nat → Int32) (mile : Int32) (k : Nat) (x : Int32) : Int32 := if (inR (S 0) (S (102 + 4 * k)) (S (103 + 4 * k)) = 1 ∧ S (100 + 4 * k) = mile) ∧ x < S (101 + 4 * k) - S (100 + 4 * k) then S (101 + 4 * k) - S (100 + 4 * k) else x
theorem e_fireAhead (hY : LayY Y ρ) {nf : Nat} (hn : nf ≤ 6) (p6 : SI ρ (Y + 1) 3 = nI nf) (mile : Int32) : f_Model_fireAhead Y mile true ρ = (foldI (faF (SI ρ (Y + 1)) mile) 0 nf 0, true, ρ) := by
  unfold f_Model_fireAhead
  rw [lt_, lt_]
  refine (lp_acc (σ := ρ) nf (faF (SI ρ (Y + 1)) mile) (fun x => (x, true, ρ)) (by omega) (fun L i x hi => ?_) (fun L x => ?_) 0 0 (Nat.zero_le _)).trans ?_
  · have e1 : nI (100 + 4 * i) + 1 = nI (101 + 4 * i) := by rw [nI_p1]; congr 1; omega
    unfold b_Model_fireAhead_4 faF
    simp only [bd_, lt_, rY_0 hY, show ix (3 : Int32) = 3 from rfl, p6, cK_of (kY_0 hY), cYk hY 3 (v := 3) rfl (by decide), Bool.and_true, if_pos (show nI i < nI nf from nI_lt hi (by omega)), e_isOnM hY (show i < 6 by omega), e_fireAt, e1, show nI (100 + 4 * i) + 0 = nI (100 + 4 * i) from nI_add _ 0, cY hY (show 100 + 4 * i < 3210 by omega), cY hY (show 101 + 4 * i < 3210 by omega), ix_nI (show 100 + 4 * i < 2 ^ 31 by omega), ix_nI (show 101 + 4 * i < 2 ^ 31 by omega)]
    rcases inR_01 (SI ρ (Y + 1) 0) (SI ρ (Y + 1) (102 + 4 * i)) (SI ρ (Y + 1) (103 + 4 * i)) with e | e
    · rw [if_pos e, if_neg (fun z => absurd (e.symm.trans z.1.1) (by decide))]
    · rw [if_neg (by rw [e]; decide)]
      by_cases a : SI ρ (Y + 1) (100 + 4 * i) = mile
      · rw [if_pos a]
        by_cases b : x < SI ρ (Y + 1) (101 + 4 * i) - SI ρ (Y + 1) (100 + 4 * i)
        · rw [if_pos b, if_pos ⟨⟨e, a⟩, b⟩]
        · rw [if_neg b, if_neg (fun z => b z.2)]
      · rw [if_neg a, if_neg (fun z => a z.1.2)]
  · unfold b_Model_fireAhead_4
    simp only [lt_, rY_0 hY, show ix (3 : Int32) = 3 from rfl, p6, cK_of (kY_0 hY), cYk hY 3 (v := 3) rfl (by decide), Bool.and_true, if_neg (nI_nlt (Nat.le_refl nf) (by omega))]
  · rw [Nat.sub_zero]
theorem fire_same (hG : rG σ w S) (d : Int32) (hd : d = S 0) {nf m0 : Nat} (hm0 : m0 ≤ 2000) (h6 : nf ≤ 6) (p6 : S 3 = nI nf) : (foldI (feF σ w (nI m0) d) 0 nf (-1) = -1 ∧ foldI (faF S (nI m0)) 0 nf 0 = 0) ∨ ∃ e : Nat, m0 < e ∧ bd (nI e) 0 (S 1).toInt ∧ e ≤ 2000 ∧ foldI (feF σ w (nI m0) d) 0 nf (-1) = nI e ∧ foldI (faF S (nI m0)) 0 nf 0 = nI (e - m0) := by
  obtain ⟨np, nf', q1, q2, q3, q4, q5, q6, q7, q8, q9, q10, q11, q12⟩ := hG
  have e : nf' = nf := (nI_eq (by omega) (by omega)).mp (q6.symm.trans p6)
  subst e
  refine foldI_rel (R := fun (x y : Int32) => (x = -1 ∧ y = 0) ∨ ∃ e : Nat, m0 < e ∧ bd (nI e) 0 (S 1).toInt ∧ e ≤ 2000 ∧ x = nI e ∧ y = nI (e - m0)) (Or.inl ⟨rfl, rfl⟩) (fun k x y _ hk r => ?_)
  obtain ⟨a0, a1, a2, a3, b0, b1, b2, b3, b4⟩ := q11 k (by omega)
  unfold feF faF
  rw [a0, a1, a2, a3, hd]
  by_cases c1 : inR (S 0) (S (102 + 4 * k)) (S (103 + 4 * k)) = 1
  · by_cases c2 : S (100 + 4 * k) = nI m0
    · have hb2 : bd (S (101 + 4 * k)) 0 2000 := ⟨b1.1, Int.le_trans b1.2 q8.2⟩
      obtain ⟨t, ht, et⟩ := bd_nat (n := 2000) hb2
      rw [c2, et] at b2
      have hlt : m0 < t := (nI_ltI (by omega) (by omega)).mp b2
      have b1' : bd (nI t) 0 (S 1).toInt := by rw [← et]; exact b1
      rw [if_pos ⟨c1, c2⟩, c2, et, nI_sub (by omega)]
      unfold mxI
      rcases r with ⟨r1, r2⟩ | ⟨e, e1, e2, e3, r1, r2⟩
      · rw [r1, r2, if_pos (show (-1 : Int32) < nI t from Int32.lt_of_lt_of_le (by decide) (nI_pos' (by omega))), if_pos ⟨⟨c1, rfl⟩, nI_lt (a := 0) (by omega) (by omega)⟩]
        exact Or.inr ⟨t, hlt, b1', ht, rfl, rfl⟩
      · rw [r1, r2]
        by_cases c : e < t
        · rw [if_pos (nI_lt c (by omega)), if_pos ⟨⟨c1, rfl⟩, nI_lt (by omega) (by omega)⟩]
          exact Or.inr ⟨t, hlt, b1', ht, rfl, rfl⟩
        · rw [if_neg (nI_nlt (by omega) (by omega)), if_neg (fun z => by have := (nI_ltI (by omega) (by omega)).mp z.2; omega)]
          exact Or.inr ⟨e, e1, e2, e3, rfl, rfl⟩
    · rw [if_neg (fun z => c2 z.2), if_neg (fun z => c2 z.1.2)]
      exact r
  · rw [if_neg (fun z => c1 z.1), if_neg (fun z => c1 z.1.1)]
    exact r
end FAR
