/-! small arithmetic; loops that ask for any; fires, water, the length -/
theorem nI_sub {a b : Nat} (h : b ≤ a) : nI a - nI b = nI (a - b) := by
  have e : nI a = nI (a - b) + nI b := by rw [nI_add, Nat.sub_add_cancel h]
  rw [e, Int32.add_sub_cancel]
theorem nI_div {m d : Nat} (hm : m < 2 ^ 31) (hd : d < 2 ^ 31) : nI m / nI d = nI (m / d) := by
  apply Int32.toInt_inj.mp
  have hq : m / d < 2 ^ 31 := Nat.lt_of_le_of_lt (Nat.div_le_self _ _) hm
  rw [Int32.toInt_div, nI_toInt hm, nI_toInt hd, nI_toInt hq, ← Int.ofNat_tdiv]
  generalize m / d = z at hq
  exact Int.bmod_eq_of_le (by omega) (by omega)
theorem nI_mod {m d : Nat} (hm : m < 2 ^ 31) (hd : d < 2 ^ 31) : nI m - nI m / nI d * nI d = nI (m % d) := by
  rw [nI_div hm hd, nI_mul, nI_sub (Nat.div_mul_le_self m d)]
  congr 1
  have := Nat.div_add_mod m d
  rw [Nat.mul_comm] at this
  omega
theorem inR_01 (v a c : Int32) : inR v a c = 0 ∨ inR v a c = 1 := by
  unfold inR
  split
  · exact Or.inr rfl
  · exact Or.inl rfl
theorem inR_1 {v a c : Int32} : inR v a c = 1 ↔ a ≤ v ∧ v ≤ c := by
  unfold inR
  by_cases h : a ≤ v ∧ v ≤ c
  · rw [if_pos h]; exact ⟨fun _ => h, fun _ => rfl⟩
  · rw [if_neg h]; exact ⟨fun z => absurd z (by decide), fun z => absurd z h⟩
/-- any of the numbers below n -/
def anyI (c : Nat → Bool) (n : Nat) : Int32 := match findI c 0 n with | some _ => 1 | none => 0
theorem anyI_congr {c d : Nat → Bool} {n : Nat} (h : ∀ k, k < n → c k = d k) : anyI c n = anyI d n := by
  unfold anyI
  rw [findI_congr (fun k _ h2 => h k (by omega))]
theorem anyI_01 (c : Nat → Bool) (n : Nat) : anyI c n = 0 ∨ anyI c n = 1 := by
  unfold anyI
  split
  · exact Or.inr rfl
  · exact Or.inl rfl
theorem fold_or1 {c : Nat → Bool} : ∀ {n i : Nat}, foldI (fun k (x : Int32) => if x = 0 then (if c k = true then 1 else 0) else 1) i n 1 = 1
  | 0, _ => rfl
  | n + 1, i => by
    show foldI _ (i + 1) n (if (1 : Int32) = 0 then (if c i = true then 1 else 0) else 1) = 1
    rw [if_neg (by decide)]
    exact fold_or1
theorem fold_or {c : Nat → Bool} : ∀ {n i : Nat}, foldI (fun k (x : Int32) => if x = 0 then (if c k = true then 1 else 0) else 1) i n 0 = (match findI c i n with | some _ => 1 | none => 0)
  | 0, _ => rfl
  | n + 1, i => by
    show foldI _ (i + 1) n (if (0 : Int32) = 0 then (if c i = true then 1 else 0) else 1) = _
    rw [if_pos rfl]
    unfold findI
    by_cases h : c i = true
    · rw [if_pos h, if_pos h]
      exact fold_or1
    · rw [if_neg h, if_neg h]
      exact fold_or
theorem fold_orI {c : Nat → Bool} {n : Nat} {x : Int32} (hx : x = 0 ∨ x = 1) : foldI (fun k (x : Int32) => if x = 0 then (if c k = true then 1 else 0) else 1) 0 n x = if x = 0 then anyI c n else 1 := by
  rcases hx with rfl | rfl
  · rw [fold_or, if_pos rfl]; rfl
  · rw [fold_or1, if_neg (by decide)]
theorem foldI_rel {α β : Type} {R : α → β → Prop} {g : Nat → α → α} {h : Nat → β → β} : ∀ {n i : Nat} {a : α} {b : β}, R a b → (∀ k a b, i ≤ k → k < i + n → R a b → R (g k a) (h k b)) → R (foldI g i n a) (foldI h i n b)
  | 0, _, _, _, r, _ => r
  | n + 1, i, a, b, r, e => foldI_rel (n := n) (i := i + 1) (e i a b (Nat.le_refl _) (by omega) r) (fun k a b h1 h2 q => e k a b (by omega) (by omega) q)
section OP12
variable {X Y w : Nat} {σ ρ : Sto}
theorem e_isOnC (hW : LayW w σ) {i : Nat} (hi : i < 6) (d : Int32) : f_Ground_isOn (w + 1) (nI i) d true σ = (inR d (SI σ (w + 9) i) (SI σ (w + 10) i), true, σ) := by
  unfold f_Ground_isOn
  simp only [bd_, e_within, rW_1_7 hW, rW_1_8 hW, cK_of (kW_1 hW), ix_nI (show i < 2 ^ 31 by omega), cA_of (kW_9 hW) (nW_9 hW) hi (by decide), cA_of (kW_10 hW) (nW_10 hW) hi (by decide), inR_zok, Bool.and_true]
theorem e_isOnM (hY : LayY Y ρ) {i : Nat} (hi : i < 6) : f_Model_isOn Y (nI i) true ρ = (inR (SI ρ (Y + 1) 0) (SI ρ (Y + 1) (102 + 4 * i)) (SI ρ (Y + 1) (103 + 4 * i)), true, ρ) := by
  unfold f_Model_isOn
  simp only [bd_, rY_0 hY, cK_of (kY_0 hY), e_fireAt, nI_p2, nI_p3, cYk hY 0 (v := 0) rfl (by decide), cY hY (show 100 + 4 * i + 2 < 3210 by omega), cY hY (show 100 + 4 * i + 3 < 3210 by omega), ix_nI (show 100 + 4 * i + 2 < 2 ^ 31 by omega), ix_nI (show 100 + 4 * i + 3 < 2 ^ 31 by omega), show ix (0 : Int32) = 0 from rfl, e_isIn, inR_zok, Bool.and_true]
  rw [show 100 + 4 * i + 2 = 102 + 4 * i by omega, show 100 + 4 * i + 3 = 103 + 4 * i by omega]
def shC (σ : Sto) (w : Nat) (mile d : Int32) (i : Nat) : Bool := decide (inR d (SI σ (w + 9) i) (SI σ (w + 10) i) = 1 ∧ ¬ mile < SI σ (w + 7) i ∧ mile < SI σ (w + 8) i)
theorem e_shutAt (hW : LayW w σ) {nf : Nat} (h6 : nf ≤ 6) (p5 : SI σ (w + 1) 11 = nI nf) (mile d : Int32) : f_Ground_isShutAt (w + 1) mile d true σ = (anyI (shC σ w mile d) nf, true, σ) := by
  unfold f_Ground_isShutAt anyI
  simp only [lt_]
  refine (lp_find (σ := σ) nf (shC σ w mile d) (fun _ => (1, true, σ)) (0, true, σ) (by omega) (fun L i hi => ?_) (fun L => ?_) 0 (Nat.zero_le _)).trans ?_
  · unfold b_Ground_isShutAt_2 shC
    simp only [bd_, lt_, p5, rW_1_5 hW, rW_1_6 hW, cK_of (kW_1 hW), ix_nI (show i < 2 ^ 31 by omega), e_isOnC hW (show i < 6 by omega), cA_of (kW_7 hW) (nW_7 hW) (show i < 6 by omega) (by decide), cA_of (kW_8 hW) (nW_8 hW) (show i < 6 by omega) (by decide), Bool.and_true, if_pos (show nI i < nI nf from nI_lt hi (by omega)), decide_eq_true_eq]
    rcases inR_01 d (SI σ (w + 9) i) (SI σ (w + 10) i) with e | e
    · rw [if_pos e, if_neg (fun z => absurd (e.symm.trans z.1) (by decide))]
    · rw [if_neg (by rw [e]; decide)]
      by_cases a : mile < SI σ (w + 7) i
      · rw [if_pos a, if_neg (fun z => z.2.1 a)]
      · rw [if_neg a]
        by_cases c : mile < SI σ (w + 8) i
        · rw [if_pos c, if_pos ⟨e, a, c⟩]
        · rw [if_neg c, if_neg (fun z => c z.2.2)]
  · unfold b_Ground_isShutAt_2
    simp only [lt_, p5, cK_of (kW_1 hW), Bool.and_true, if_neg (nI_nlt (Nat.le_refl nf) (by omega))]
  · rw [Nat.sub_zero]
    cases findI (shC σ w mile d) 0 nf <;> rfl
def shM (ρ : Sto) (Y : Nat) (mile : Int32) (i : Nat) : Bool := decide (inR (SI ρ (Y + 1) 0) (SI ρ (Y + 1) (102 + 4 * i)) (SI ρ (Y + 1) (103 + 4 * i)) = 1 ∧ inR mile (SI ρ (Y + 1) (100 + 4 * i)) (SI ρ (Y + 1) (101 + 4 * i) - 1) = 1)
theorem e_burnsM (hY : LayY Y ρ) {nf : Nat} (h6 : nf ≤ 6) (p6 : SI ρ (Y + 1) 3 = nI nf) (mile : Int32) : lp_ (b_Model_burns_15 Y mile) (fun (x2 : Int32) (x3 : Int32) (b : Bool) (σ : Sto) => (0, false, σ)) fuel_ 0 0 true ρ = (anyI (shM ρ Y mile) nf, true, ρ) := by
  refine (lp_acc (σ := ρ) nf (fun k (x : Int32) => if x = 0 then (if shM ρ Y mile k = true then 1 else 0) else 1) (fun x => if x = 0 then (0, true, ρ) else (1, true, ρ)) (by omega) (fun L i x hi => ?_) (fun L x => ?_) 0 0 (Nat.zero_le _)).trans ?_
  · unfold b_Model_burns_15 shM
    simp only [bd_, lt_, rY_0 hY, show ix (3 : Int32) = 3 from rfl, p6, cK_of (kY_0 hY), cYk hY 3 (v := 3) rfl (by decide), Bool.and_true, if_pos (show nI i < nI nf from nI_lt hi (by omega)), e_isOnM hY (show i < 6 by omega), e_fireAt, nI_p1, show nI (100 + 4 * i) + 0 = nI (100 + 4 * i) from nI_add _ 0, cY hY (show 100 + 4 * i < 3210 by omega), cY hY (show 100 + 4 * i + 1 < 3210 by omega), ix_nI (show 100 + 4 * i < 2 ^ 31 by omega), ix_nI (show 100 + 4 * i + 1 < 2 ^ 31 by omega), e_isIn, decide_eq_true_eq, show 101 + 4 * i = 100 + 4 * i + 1 by omega]
    by_cases hx : x = 0
    · rw [if_pos hx, if_pos hx]
      rcases inR_01 (SI ρ (Y + 1) 0) (SI ρ (Y + 1) (102 + 4 * i)) (SI ρ (Y + 1) (103 + 4 * i)) with e | e
      · rw [if_pos e, if_neg (fun z => absurd (e.symm.trans z.1) (by decide))]
      · rw [if_neg (by rw [e]; decide)]
        rcases inR_01 mile (SI ρ (Y + 1) (100 + 4 * i)) (SI ρ (Y + 1) (100 + 4 * i + 1) - 1) with f | f
        · rw [if_pos f, if_neg (fun z => absurd (f.symm.trans z.2) (by decide))]
        · rw [if_neg (by rw [f]; decide), if_pos ⟨e, f⟩]
    · rw [if_neg hx, if_neg hx]
  · unfold b_Model_burns_15
    simp only [lt_, rY_0 hY, show ix (3 : Int32) = 3 from rfl, p6, cK_of (kY_0 hY), cYk hY 3 (v := 3) rfl (by decide), Bool.and_true, if_neg (nI_nlt (Nat.le_refl nf) (by omega))]
  · rw [Nat.sub_zero, fold_orI (Or.inl rfl), if_pos rfl]
    rcases anyI_01 (shM ρ Y mile) nf with e | e
    · rw [e]; rfl
    · rw [e]; rfl
theorem le_sub1 {m t : Int32} (h0 : bd t 0 2000) (h1 : 0 < t) : m ≤ t - 1 ↔ m < t := by
  obtain ⟨j, hj, rfl⟩ := bd_nat (n := 2000) h0
  have hj1 : 1 ≤ j := by
    rcases Nat.eq_zero_or_pos j with e | e
    · subst e; exact absurd h1 (by decide)
    · exact e
  rw [show nI j - 1 = nI (j - 1) from nI_sub (b := 1) hj1, Int32.le_iff_toInt_le, Int32.lt_iff_toInt_lt, nI_toInt (by omega), nI_toInt (by omega)]
  omega
theorem sh_same {S : Nat → Int32} (hG : rG σ w S) (hS : SI ρ (Y + 1) = S) {d : Int32} (hd : d = S 0) (mile : Int32) {nf k : Nat} (h6 : nf ≤ 6) (hk : k < nf) (p6 : S 3 = nI nf) : shC σ w mile d k = shM ρ Y mile k := by
  obtain ⟨np, nf', q1, q2, q3, q4, q5, q6, q7, q8, q9, q10, q11, q12⟩ := hG
  have e : nf' = nf := (nI_eq (by omega) (by omega)).mp (q6.symm.trans p6)
  subst e
  obtain ⟨a0, a1, a2, a3, b0, b1, b2, b3, b4⟩ := q11 k hk
  unfold shC shM
  rw [hS, a0, a1, a2, a3, hd]
  have hb : bd (S (101 + 4 * k)) 0 2000 := ⟨b1.1, Int.le_trans b1.2 q8.2⟩
  have h0 : (0 : Int32) < S (101 + 4 * k) := Int32.lt_of_le_of_lt (Int32.le_iff_toInt_le.mpr (by simpa using b0.1)) b2
  have hq : (¬ mile < S (100 + 4 * k) ∧ mile < S (101 + 4 * k)) ↔ inR mile (S (100 + 4 * k)) (S (101 + 4 * k) - 1) = 1 := by
    rw [inR_1, le_sub1 hb h0, Int32.not_lt]
  simp only [hq]
theorem op_8 : Op_8 X Y (REL X Y) := by
  intro a σ ρ h
  have hX := h.2.2.1
  have hY : LayY Y (stn ρ (Shn σ)) := h.2.2.2.1
  have hW := hX.2.1
  have hG := (REL_now2 h).2.1
  obtain ⟨d1, d2⟩ := (REL_now2 h).1
  obtain ⟨np, nf, p1, p2, p3, p4, p5, p6, p7, p8, p9, p10, p11, p12⟩ := id hG
  by_cases ha : (0 : Int32) ≤ a ∧ a ≤ SI ρ (Y + 1) 1
  · refine OpOK_b (anyI (shM ρ Y a) nf) h ?_ ?_
    · unfold f_Trail_burns
      simp only [bd_, lt_, rX_0_0 hX, rW_0_0 hW, cK_of (kX_0 hX), cK_of (kW_0 hW), cK_of (kW_1 hW), Bool.and_true, e_hasMile (kW_1 hW), p7, inR_e1 ha, i10, if_false, e_shutAt hW p2 p5]
      rw [anyI_congr (fun k hk => sh_same (ρ := ρ) (Y := Y) hG rfl d1 a p2 hk p6)]
      rcases anyI_01 (shM ρ Y a) nf with e | e
      · rw [e]; rfl
      · rw [e]; rfl
    · show f_Model_burns Y a true (stn ρ (Shn σ)) = _
      unfold f_Model_burns
      simp only [bd_, lt_, cK_of (kY_0 hY), Bool.and_true, e_isMile hY, SI_stn, inR_e1 ha, i10, if_false]
      exact e_burnsM hY p2 p6 a
  · refine OpOK_b (-1000000001) h ?_ ?_
    · unfold f_Trail_burns
      simp only [bd_, lt_, rX_0_0 hX, rW_0_0 hW, cK_of (kX_0 hX), cK_of (kW_0 hW), cK_of (kW_1 hW), Bool.and_true, e_hasMile (kW_1 hW), p7, inR_e0 ha, if_true]
    · show f_Model_burns Y a true (stn ρ (Shn σ)) = _
      unfold f_Model_burns
      simp only [bd_, lt_, cK_of (kY_0 hY), Bool.and_true, e_isMile hY, SI_stn, inR_e0 ha, if_true]
end OP12
