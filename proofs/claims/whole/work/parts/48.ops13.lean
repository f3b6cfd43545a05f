/-! water ahead; the length -/
section OP13
variable {X Y w : Nat} {σ ρ : Sto}
theorem isOfR_1 {m : Nat} (hm : m ≤ 5) : isOfR m 1 = isWat (nI m) := by
  rcases (show m = 0 ∨ m = 1 ∨ m = 2 ∨ m = 3 ∨ m = 4 ∨ m = 5 by omega) with rfl | rfl | rfl | rfl | rfl | rfl <;> decide
theorem isOfR_4 {m : Nat} (hm : m ≤ 5) : isOfR m 4 = bI (nI m = 4) := by
  rcases (show m = 0 ∨ m = 1 ∨ m = 2 ∨ m = 3 ∨ m = 4 ∨ m = 5 by omega) with rfl | rfl | rfl | rfl | rfl | rfl <;> decide
theorem isWat_01 (x : Int32) : isWat x = 0 ∨ isWat x = 1 := by
  unfold isWat
  split
  · exact Or.inl rfl
  · split
    · exact Or.inl rfl
    · exact Or.inr rfl
theorem e_isWatC (hW : LayW w σ) (hc : Scs σ 0 ≠ 0) {k : Nat} (hk : k < 16) (hb : bd (SI σ (w + 2) k) 0 5) : f_Ground_isOf (w + 1) (nI k) 1 true σ = (isWat (SI σ (w + 2) k), true, σ) := by
  obtain ⟨m, hm, e⟩ := bd_nat (n := 5) hb
  rw [e_isOf hW hc hk hm e, isOfR_1 hm, e]
theorem e_isPassC (hW : LayW w σ) (hc : Scs σ 0 ≠ 0) {k : Nat} (hk : k < 16) (hb : bd (SI σ (w + 2) k) 0 5) : f_Ground_isOf (w + 1) (nI k) 4 true σ = (bI (SI σ (w + 2) k = 4), true, σ) := by
  obtain ⟨m, hm, e⟩ := bd_nat (n := 5) hb
  rw [e_isOf hW hc hk hm e, isOfR_4 hm, e]
theorem e_isTownC (hW : LayW w σ) (hc : Scs σ 0 ≠ 0) {k : Nat} (hk : k < 16) (hb : bd (SI σ (w + 2) k) 0 5) : f_Ground_isTown (w + 1) (nI k) true σ = (bI (SI σ (w + 2) k = 3), true, σ) := by
  obtain ⟨m, hm, e⟩ := bd_nat (n := 5) hb
  rw [e_isTown hW hc hk hm e, e]
theorem bI_01 (p : Prop) [Decidable p] : bI p = 0 ∨ bI p = 1 := by
  unfold bI
  split
  · exact Or.inr rfl
  · exact Or.inl rfl
abbrev nwG (K M : Nat → Int32) (mile : Int32) (k : Nat) (a : Int32) : Int32 := if mile < M k ∧ isWat (K k) = 1 ∧ (a < 0 ∨ M k < a) then M k else a
theorem e_nextWater (hW : LayW w σ) (hc : Scs σ 0 ≠ 0) {np : Nat} (hn : np ≤ 16) (p3 : SI σ (w + 1) 10 = nI np) (hb : ∀ k, k < np → bd (SI σ (w + 2) k) 0 5) (mile : Int32) : f_Ground_nextWater (w + 1) mile true σ = (foldI (nwG (SI σ (w + 2)) (SI σ (w + 3)) mile) 0 np (-1), true, σ) := by
  unfold f_Ground_nextWater
  simp only [lt_]
  refine (lp_acc (σ := σ) np (nwG (SI σ (w + 2)) (SI σ (w + 3)) mile) (fun x => (x, true, σ)) (by omega) (fun L i x hi => ?_) (fun L x => ?_) 0 (-1) (Nat.zero_le _)).trans ?_
  · unfold b_Ground_nextWater_4 nwG
    simp only [bd_, lt_, p3, rW_1_1 hW, cK_of (kW_1 hW), ix_nI (show i < 2 ^ 31 by omega), e_isWatC hW hc (show i < 16 by omega) (hb i hi), cA_of (kW_3 hW) (nW_3 hW) (show i < 16 by omega) (by decide), Bool.and_true, if_pos (show nI i < nI np from nI_lt hi (by omega))]
    by_cases a : mile < SI σ (w + 3) i
    · rw [if_pos a]
      rcases isWat_01 (SI σ (w + 2) i) with e | e
      · rw [if_pos e, if_neg (fun z => absurd (e.symm.trans z.2.1) (by decide))]
      · rw [if_neg (by rw [e]; decide)]
        by_cases c : x < 0
        · rw [if_pos c, if_pos ⟨a, e, Or.inl c⟩]
        · rw [if_neg c]
          by_cases d : SI σ (w + 3) i < x
          · rw [if_pos d, if_pos ⟨a, e, Or.inr d⟩]
          · rw [if_neg d, if_neg (fun z => z.2.2.elim c d)]
    · rw [if_neg a, if_neg (fun z => a z.1)]
  · unfold b_Ground_nextWater_4
    simp only [lt_, p3, cK_of (kW_1 hW), Bool.and_true, if_neg (nI_nlt (Nat.le_refl np) (by omega))]
  · rw [Nat.sub_zero]
abbrev dryG (K M : Nat → Int32) (mile : Int32) (k : Nat) (b : Int32) : Int32 := if (isWat (K k) = 1 ∧ mile < M k) ∧ (b < 0 ∨ M k - mile < b) then M k - mile else b
theorem e_dryM (hY : LayY Y ρ) {np : Nat} (hn : np ≤ 16) (p4 : SI ρ (Y + 1) 2 = nI np) (mile : Int32) : lp_ (b_Model_dry_15 Y mile) (fun (x2 : Int32) (x3 : Int32) (b : Bool) (σ : Sto) => (0, false, σ)) fuel_ (-1) 0 true ρ = (if foldI (dryG (fun k => SI ρ (Y + 1) (30 + 4 * k)) (fun k => SI ρ (Y + 1) (31 + 4 * k)) mile) 0 np (-1) < 0 then -1000000005 else foldI (dryG (fun k => SI ρ (Y + 1) (30 + 4 * k)) (fun k => SI ρ (Y + 1) (31 + 4 * k)) mile) 0 np (-1), true, ρ) := by
  refine (lp_acc (σ := ρ) np (dryG (fun k => SI ρ (Y + 1) (30 + 4 * k)) (fun k => SI ρ (Y + 1) (31 + 4 * k)) mile) (fun x => (if x < 0 then -1000000005 else x, true, ρ)) (by omega) (fun L i x hi => ?_) (fun L x => ?_) 0 (-1) (Nat.zero_le _)).trans ?_
  · unfold b_Model_dry_15 dryG
    simp only [bd_, lt_, rY_0 hY, show ix (2 : Int32) = 2 from rfl, p4, cK_of (kY_0 hY), cYk hY 2 (v := 2) rfl (by decide), Bool.and_true, if_pos (show nI i < nI np from nI_lt hi (by omega)), e_kindOf hY (show i < 700 by omega), e_mileOf hY (show i < 700 by omega), e_isWater]
    rcases isWat_01 (SI ρ (Y + 1) (30 + 4 * i)) with e | e
    · simp only [if_pos e, if_pos trivial, if_true, if_neg (show ¬ ((isWat (SI ρ (Y + 1) (30 + 4 * i)) = 1 ∧ mile < SI ρ (Y + 1) (31 + 4 * i)) ∧ (x < 0 ∨ SI ρ (Y + 1) (31 + 4 * i) - mile < x)) from fun z => absurd (e.symm.trans z.1.1) (by decide))]
    · simp only [if_neg (show ¬ isWat (SI ρ (Y + 1) (30 + 4 * i)) = 0 by rw [e]; decide)]
      by_cases a : mile < SI ρ (Y + 1) (31 + 4 * i)
      · simp only [if_pos a, i10, if_false]
        by_cases c : x < 0
        · rw [if_pos c, if_pos ⟨⟨e, a⟩, Or.inl c⟩]
        · rw [if_neg c]
          by_cases d : SI ρ (Y + 1) (31 + 4 * i) - mile < x
          · rw [if_pos d, if_pos ⟨⟨e, a⟩, Or.inr d⟩]
          · rw [if_neg d, if_neg (fun z => z.2.elim c d)]
      · simp only [if_neg a, if_true]
        rw [if_neg (fun z => a z.1.2)]
  · unfold b_Model_dry_15
    simp only [bd_, lt_, rY_0 hY, show ix (2 : Int32) = 2 from rfl, p4, cK_of (kY_0 hY), cYk hY 2 (v := 2) rfl (by decide), Bool.and_true, if_neg (nI_nlt (Nat.le_refl np) (by omega)), e_orNone]
  · rw [Nat.sub_zero]
theorem dry_same {K M : Nat → Int32} {np m0 : Nat} (hm0 : m0 ≤ 2000) (hM : ∀ k, k < np → bd (M k) 0 2000) : (foldI (nwG K M (nI m0)) 0 np (-1) = -1 ∧ foldI (dryG K M (nI m0)) 0 np (-1) = -1) ∨ ∃ j, m0 < j ∧ j ≤ 2000 ∧ foldI (nwG K M (nI m0)) 0 np (-1) = nI j ∧ foldI (dryG K M (nI m0)) 0 np (-1) = nI (j - m0) := by
  refine foldI_rel (R := fun a b : Int32 => (a = -1 ∧ b = -1) ∨ ∃ j, m0 < j ∧ j ≤ 2000 ∧ a = nI j ∧ b = nI (j - m0)) (Or.inl ⟨rfl, rfl⟩) (fun k a b _ hk r => ?_)
  obtain ⟨q, hq, eq⟩ := bd_nat (n := 2000) (hM k (by omega))
  unfold nwG dryG
  rw [eq]
  by_cases hw : isWat (K k) = 1
  · by_cases hl : nI m0 < nI q
    · have hl' : m0 < q := (nI_ltI (by omega) (by omega)).mp hl
      rw [nI_sub (by omega)]
      rcases r with ⟨r1, r2⟩ | ⟨j, j1, j2, r1, r2⟩
      · rw [r1, r2, if_pos ⟨hl, hw, Or.inl (by decide)⟩, if_pos ⟨⟨hw, hl⟩, Or.inl (by decide)⟩]
        exact Or.inr ⟨q, hl', hq, rfl, rfl⟩
      · have n1 : ¬ nI j < 0 := nI_pos (by omega)
        have n2 : ¬ nI (j - m0) < 0 := nI_pos (by omega)
        rw [r1, r2]
        by_cases c : q < j
        · rw [if_pos ⟨hl, hw, Or.inr (nI_lt c (by omega))⟩, if_pos ⟨⟨hw, hl⟩, Or.inr (nI_lt (by omega) (by omega))⟩]
          exact Or.inr ⟨q, hl', hq, rfl, rfl⟩
        · rw [if_neg (fun z => z.2.2.elim n1 (fun y => c ((nI_ltI (by omega) (by omega)).mp y))), if_neg (fun z => z.2.elim n2 (fun y => by have := (nI_ltI (by omega) (by omega)).mp y; omega))]
          exact Or.inr ⟨j, j1, j2, rfl, rfl⟩
    · rw [if_neg (fun z => hl z.1), if_neg (fun z => hl z.1.2)]
      exact r
  · rw [if_neg (fun z => hw z.2.1), if_neg (fun z => hw z.1.1)]
    exact r
theorem op_9 : Op_9 X Y (REL X Y) := by
  intro a σ ρ h
  have hX := h.2.2.1
  have hY : LayY Y (stn ρ (Shn σ)) := h.2.2.2.1
  have hW := hX.2.1
  have hG := (REL_now2 h).2.1
  obtain ⟨np, nf, p1, p2, p3, p4, p5, p6, p7, p8, p9, p10, p11, p12⟩ := id hG
  by_cases ha : (0 : Int32) ≤ a ∧ a ≤ SI ρ (Y + 1) 1
  · obtain ⟨m0, hm0, rfl⟩ := bd_nat (n := 2000) (show bd a 0 2000 from ⟨(i32_bd ha).1, Int.le_trans (i32_bd ha).2 p8.2⟩)
    have hb : ∀ k, k < np → bd (SI σ (X + 1 + 2) k) 0 5 := fun k hk => by rw [(p9 k hk).1]; exact (p9 k hk).2.2.2.2.1
    have hM : ∀ k, k < np → bd (SI ρ (Y + 1) (31 + 4 * k)) 0 2000 := fun k hk => ⟨(p9 k hk).2.2.2.2.2.1.1, Int.le_trans (p9 k hk).2.2.2.2.2.1.2 p8.2⟩
    have eC : foldI (nwG (SI σ (X + 1 + 2)) (SI σ (X + 1 + 3)) (nI m0)) 0 np (-1) = foldI (nwG (fun k => SI ρ (Y + 1) (30 + 4 * k)) (fun k => SI ρ (Y + 1) (31 + 4 * k)) (nI m0)) 0 np (-1) := foldI_congr (fun k x _ hk => by
      unfold nwG
      rw [(p9 k (by omega)).1, (p9 k (by omega)).2.1])
    have hC : f_Trail_dry X (nI m0) true σ = (if foldI (nwG (SI σ (X + 1 + 2)) (SI σ (X + 1 + 3)) (nI m0)) 0 np (-1) < 0 then -1000000005 else foldI (nwG (SI σ (X + 1 + 2)) (SI σ (X + 1 + 3)) (nI m0)) 0 np (-1) - nI m0, true, σ) := by
      unfold f_Trail_dry
      simp only [bd_, lt_, rX_0_0 hX, rW_0_0 hW, cK_of (kX_0 hX), cK_of (kW_0 hW), cK_of (kW_1 hW), Bool.and_true, e_hasMile (kW_1 hW), p7, inR_e1 ha, i10, if_false, e_nextWater hW (REL_cs h) p1 p3 hb, if_pair]
    have hR : f_Model_dry Y (nI m0) true (stn ρ (Shn σ)) = (if foldI (dryG (fun k => SI ρ (Y + 1) (30 + 4 * k)) (fun k => SI ρ (Y + 1) (31 + 4 * k)) (nI m0)) 0 np (-1) < 0 then -1000000005 else foldI (dryG (fun k => SI ρ (Y + 1) (30 + 4 * k)) (fun k => SI ρ (Y + 1) (31 + 4 * k)) (nI m0)) 0 np (-1), true, stn ρ (Shn σ)) := by
      unfold f_Model_dry
      simp only [bd_, lt_, cK_of (kY_0 hY), Bool.and_true, e_isMile hY, SI_stn, inR_e1 ha, i10, if_false]
      exact e_dryM hY p1 p4 (nI m0)
    rcases dry_same (K := fun k => SI ρ (Y + 1) (30 + 4 * k)) hm0 hM with ⟨r1, r2⟩ | ⟨j, j1, j2, r1, r2⟩
    · refine OpOK_b (-1000000005) h ?_ ?_
      · rw [hC, eC, r1]; rfl
      · show f_Model_dry Y (nI m0) true (stn ρ (Shn σ)) = _
        rw [hR, r2]; rfl
    · refine OpOK_b (nI (j - m0)) h ?_ ?_
      · rw [hC, eC, r1, if_neg (nI_pos (by omega)), nI_sub (by omega)]
      · show f_Model_dry Y (nI m0) true (stn ρ (Shn σ)) = _
        rw [hR, r2, if_neg (nI_pos (by omega))]
  · refine OpOK_b (-1000000001) h ?_ ?_
    · unfold f_Trail_dry
      simp only [bd_, lt_, rX_0_0 hX, rW_0_0 hW, cK_of (kX_0 hX), cK_of (kW_0 hW), cK_of (kW_1 hW), Bool.and_true, e_hasMile (kW_1 hW), p7, inR_e0 ha, if_true]
    · show f_Model_dry Y a true (stn ρ (Shn σ)) = _
      unfold f_Model_dry
      simp only [bd_, lt_, cK_of (kY_0 hY), Bool.and_true, e_isMile hY, SI_stn, inR_e0 ha, if_true]
end OP13
