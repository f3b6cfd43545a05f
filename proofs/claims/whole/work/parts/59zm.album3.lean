/-! rows of pictures: the class's, filled -/
section AL3
variable {X Y w : Nat} {σ ρ : Sto} {S : Nat → Int32}
/-- the rows that proved uses -/
def FrA (w : Nat) (σ τ : Sto) : Prop := Shn τ = Shn σ ∧ Stk τ = Stk σ ∧ Sln τ = Sln σ ∧ SR τ = SR σ ∧ SL τ = SL σ ∧ Scs τ = Scs σ ∧ ∀ x, ¬ (w + 39 ≤ x ∧ x ≤ w + 41) → SI τ x = SI σ x
theorem FrA_0 : FrA w σ σ := ⟨rfl, rfl, rfl, rfl, rfl, rfl, fun _ _ => rfl⟩
theorem FrA_p {a j : Nat} {v : Int32} {τ : Sto} (h : FrA w σ τ) (ha : w + 39 ≤ a ∧ a ≤ w + 41) : FrA w σ (pI τ a j v) :=
  ⟨by rw [Shn_pI, h.1], by rw [Stk_pI, h.2.1], by rw [Sln_pI, h.2.2.1], by rw [SR_pI, h.2.2.2.1], by rw [SL_pI, h.2.2.2.2.1], by rw [Scs_pI, h.2.2.2.2.2.1], fun x hx => by rw [SI_pI, up2_ne (by omega), h.2.2.2.2.2.2 x hx]⟩
theorem C_may (hW : LayW w σ) {n a b : Nat} {v : Int32} (hn : n ≤ 20) (ha : a < n) (hb : b < n) (a4 : ∀ k, k < n → SI σ (w + 36) k = S (520 + 2 * k) ∧ SI σ (w + 37) k = S (521 + 2 * k)) : (fwP S v n a b ∧ f_Album_mayFollow (w + 35) (nI a) (nI b) v true σ = (1, true, σ)) ∨ (¬ fwP S v n a b ∧ f_Album_mayFollow (w + 35) (nI a) (nI b) v true σ = (0, true, σ)) := by
  have e : f_Album_mayFollow (w + 35) (nI a) (nI b) v true σ = if 0 < S (520 + 2 * b) - S (520 + 2 * a) then (if inR (S (521 + 2 * b) - S (521 + 2 * a)) 0 (v * (S (520 + 2 * b) - S (520 + 2 * a))) = 0 then (0, true, σ) else (1, true, σ)) else (0, true, σ) := by
    unfold f_Album_mayFollow
    rw [lt_, lt_, rW_35_0 hW, rW_35_1 hW, ix_nI (show a < 2 ^ 31 by omega), ix_nI (show b < 2 ^ 31 by omega), (a4 a ha).1, (a4 b hb).1, (a4 a ha).2, (a4 b hb).2, cK_of (kW_35 hW), cA_of (kW_36 hW) (nW_36 hW) (show a < 20 by omega) (by decide), cA_of (kW_36 hW) (nW_36 hW) (show b < 20 by omega) (by decide), cA_of (kW_37 hW) (nW_37 hW) (show a < 20 by omega) (by decide), cA_of (kW_37 hW) (nW_37 hW) (show b < 20 by omega) (by decide)]
    simp only [Bool.and_true, Bool.and_self]
    rw [e_within, bd_]
  rw [e]
  by_cases c : 0 < S (520 + 2 * b) - S (520 + 2 * a)
  · rw [if_pos c]
    by_cases d : (0 : Int32) ≤ S (521 + 2 * b) - S (521 + 2 * a) ∧ S (521 + 2 * b) - S (521 + 2 * a) ≤ v * (S (520 + 2 * b) - S (520 + 2 * a))
    · rw [inR_e1 d, if_neg (show ¬ (1 : Int32) = 0 by decide)]
      exact Or.inl ⟨⟨⟨c, Int32.not_lt.mpr d.1, Int32.not_lt.mpr d.2⟩, ha, hb⟩, rfl⟩
    · rw [inR_e0 d, if_pos rfl]
      exact Or.inr ⟨fun z => d ⟨Int32.not_lt.mp z.1.2.1, Int32.not_lt.mp z.1.2.2⟩, rfl⟩
  · rw [if_neg c]
    exact Or.inr ⟨fun z => c z.1.1, rfl⟩
theorem C_more (hW : LayW w σ) {x y : Nat} (hx : x < 20) (hy : y < 20) : f_Album_provesMore (w + 35) (nI x) (nI y) true σ = (if SI σ (w + 39) y < SI σ (w + 39) x ∨ (SI σ (w + 39) x = SI σ (w + 39) y ∧ SI σ (w + 40) y < SI σ (w + 40) x) then 1 else 0, true, σ) := by
  unfold f_Album_provesMore
  rw [lt_, lt_, rW_35_4 hW, rW_35_5 hW, ix_nI (show x < 2 ^ 31 by omega), ix_nI (show y < 2 ^ 31 by omega), cK_of (kW_35 hW), cA_of (kW_39 hW) (nW_39 hW) hx (by decide), cA_of (kW_39 hW) (nW_39 hW) hy (by decide), cA_of (kW_40 hW) (nW_40 hW) hx (by decide), cA_of (kW_40 hW) (nW_40 hW) hy (by decide)]
  by_cases c : SI σ (w + 39) y < SI σ (w + 39) x
  · rw [if_pos c, if_pos (Or.inl c)]
    rfl
  · rw [if_neg c]
    by_cases d : SI σ (w + 39) x = SI σ (w + 39) y
    · rw [if_pos d]
      by_cases e : SI σ (w + 40) y < SI σ (w + 40) x
      · rw [if_pos e, if_pos (Or.inr ⟨d, e⟩)]
        rfl
      · rw [if_neg e, if_neg (fun z => z.elim c (fun q => e q.2))]
        rfl
    · rw [if_neg d, if_neg (fun z => z.elim c (fun q => d q.1))]
      rfl
/-- what is written for a picture -/
noncomputable def flA (w : Nat) (fw : Nat → Nat → Prop) (ml : Nat → Int32) (n a : Nat) (τ : Sto) : Sto := pI (pI (pI τ (w + 41) a (cdO (bstP fw (SI τ (w + 39)) (SI τ (w + 40)) a n))) (w + 39) a (match bstP fw (SI τ (w + 39)) (SI τ (w + 40)) a n with | none => 1 | some x => 1 + SI τ (w + 39) x)) (w + 40) a (match bstP fw (SI τ (w + 39)) (SI τ (w + 40)) a n with | none => ml a | some x => SI τ (w + 40) x)
theorem C_fill (hW : LayW w σ) {n a : Nat} {v : Int32} (hn : n ≤ 20) (ha : a < n) (a2 : SI σ (w + 35) 2 = nI n) (a4 : ∀ k, k < n → SI σ (w + 36) k = S (520 + 2 * k) ∧ SI σ (w + 37) k = S (521 + 2 * k)) (hdy : ∀ b, ¬ fwP S v n b b) : f_Album_fillRowOf (w + 35) (nI a) v true σ = ((), true, flA w (fwP S v n) (fun k => S (521 + 2 * k)) n a σ) := by
  obtain ⟨x, τ, ⟨k1, k2⟩, e⟩ := lp_exA (body := b_Album_fillRowOf_5 (w + 35) (nI a) v) (bad := fun (x3 : Int32) (x4 : Int32) (b : Bool) (σ : Sto) => ((), false, σ)) n (fun k x τ => τ = σ ∧ x = cdO (bstP (fwP S v n) (SI σ (w + 39)) (SI σ (w + 40)) a k)) (fun x τ => ((), true, flA w (fwP S v n) (fun k => S (521 + 2 * k)) n a σ)) (by omega)
    (fun k x τ hk ⟨q1, q2⟩ => by
      subst q1 q2
      have pre : ∀ L r, f_Album_mayFollow (w + 35) (nI a) (nI k) v true τ = (r, true, τ) → b_Album_fillRowOf_5 (w + 35) (nI a) v L (cdO (bstP (fwP S v n) (SI τ (w + 39)) (SI τ (w + 40)) a k)) (nI k) true τ = if r = 0 then L (cdO (bstP (fwP S v n) (SI τ (w + 39)) (SI τ (w + 40)) a k)) (nI k + 1) true τ else if cdO (bstP (fwP S v n) (SI τ (w + 39)) (SI τ (w + 40)) a k) < 0 then L (nI k) (nI k + 1) true τ else bd_ (f_Album_provesMore (w + 35) (nI k) (cdO (bstP (fwP S v n) (SI τ (w + 39)) (SI τ (w + 40)) a k)) true τ) (fun (r_6 : Int32) (b_6 : Bool) (σ_6 : Sto) => if r_6 = 0 then L (cdO (bstP (fwP S v n) (SI τ (w + 39)) (SI τ (w + 40)) a k)) (nI k + 1) b_6 σ_6 else L (nI k) (nI k + 1) b_6 σ_6) := fun L r hr => by
        unfold b_Album_fillRowOf_5
        rw [a2, if_pos (nI_lt hk (by omega)), cK_of (kW_35 hW)]
        simp only [Bool.and_true]
        rw [hr, bd_]
        dsimp only
        rw [lt_, lt_, cK_of (kW_35 hW)]
        rfl
      rcases C_may (S := S) (v := v) hW hn ha hk a4 with ⟨c, ec⟩ | ⟨c, ec⟩
      · cases hb : bstP (fwP S v n) (SI τ (w + 39)) (SI τ (w + 40)) a k with
        | none =>
          refine ⟨nI k, τ, ⟨rfl, by rw [bstP_y c, hb]; rfl⟩, fun L => ?_⟩
          have := pre L 1 ec
          rw [hb] at this
          rw [this, if_neg (show ¬ (1 : Int32) = 0 by decide), if_pos (show cdO none < 0 by decide)]
        | some y =>
          have hy := bstP_in hb
          have em := C_more (σ := τ) hW (show k < 20 by omega) (show y < 20 by omega)
          by_cases d : SI τ (w + 39) y < SI τ (w + 39) k ∨ (SI τ (w + 39) k = SI τ (w + 39) y ∧ SI τ (w + 40) y < SI τ (w + 40) k)
          · refine ⟨nI k, τ, ⟨rfl, by rw [bstP_y c, hb]; dsimp only; rw [if_pos d]; rfl⟩, fun L => ?_⟩
            have := pre L 1 ec
            rw [hb] at this
            rw [if_pos d] at em
            rw [this, if_neg (show ¬ (1 : Int32) = 0 by decide), if_neg (show ¬ cdO (some y) < 0 from nI_pos (by omega)), show cdO (some y) = nI y from rfl, em, bd_]
            rfl
          · refine ⟨nI y, τ, ⟨rfl, by rw [bstP_y c, hb]; dsimp only; rw [if_neg d]; rfl⟩, fun L => ?_⟩
            have := pre L 1 ec
            rw [hb] at this
            rw [if_neg d] at em
            rw [this, if_neg (show ¬ (1 : Int32) = 0 by decide), if_neg (show ¬ cdO (some y) < 0 from nI_pos (by omega)), show cdO (some y) = nI y from rfl, em, bd_]
            rfl
      · refine ⟨_, τ, ⟨rfl, by rw [bstP_n c]⟩, fun L => ?_⟩
        rw [pre L 0 ec, if_pos rfl])
    (fun L x τ ⟨q1, q2⟩ => by
      subst q1 q2
      have i1 : ix (nI a) = a := ix_nI (by omega)
      have l1 : LayW w (pI τ (w + 41) a (cdO (bstP (fwP S v n) (SI τ (w + 39)) (SI τ (w + 40)) a n))) := LayT_c hW Stk_pI Sln_pI SR_pI
      unfold b_Album_fillRowOf_5 flA
      rw [a2, if_neg (nI_nlt (Nat.le_refl n) (by omega)), lt_, lt_, rW_35_6 hW, i1, cK_of (kW_35 hW), cA_of (kW_41 hW) (nW_41 hW) (show a < 20 by omega) (by decide)]
      simp only [Bool.and_true, Bool.and_self]
      have s39 : SI (pI τ (w + 41) a (cdO (bstP (fwP S v n) (SI τ (w + 39)) (SI τ (w + 40)) a n))) (w + 39) = SI τ (w + 39) := by rw [SI_pI, up2_ne (by omega)]
      have s40 : SI (pI τ (w + 41) a (cdO (bstP (fwP S v n) (SI τ (w + 39)) (SI τ (w + 40)) a n))) (w + 40) = SI τ (w + 40) := by rw [SI_pI, up2_ne (by omega)]
      have s37 : SI (pI τ (w + 41) a (cdO (bstP (fwP S v n) (SI τ (w + 39)) (SI τ (w + 40)) a n))) (w + 37) = SI τ (w + 37) := by rw [SI_pI, up2_ne (by omega)]
      cases hb : bstP (fwP S v n) (SI τ (w + 39)) (SI τ (w + 40)) a n with
      | none =>
        rw [hb] at l1 s39 s40 s37
        generalize pI τ (w + 41) a (cdO none) = τ1 at *
        have l2 : LayW w (pI τ1 (w + 39) a 1) := LayT_c l1 Stk_pI Sln_pI SR_pI
        have e37 : SI (pI τ1 (w + 39) a 1) (w + 37) a = S (521 + 2 * a) := by rw [SI_pI, up2_ne' (by omega), s37, (a4 a ha).2]
        rw [if_pos (show cdO none < 0 by decide), rW_35_4 l1, cK_of (kW_35 l1)]
        dsimp only
        rw [lt_, i1, lt_, if_pos (show cdO none < 0 by decide), rW_35_1 l2, rW_35_5 l2, e37, cK_of (kW_35 l2), cA_of (kW_37 l2) (nW_37 l2) (show a < 20 by omega) (by decide), cA_of (kW_39 l1) (nW_39 l1) (show a < 20 by omega) (by decide)]
        dsimp only
        rw [lt_, i1, cA_of (kW_40 l2) (nW_40 l2) (show a < 20 by omega) (by decide)]
        rfl
      | some y =>
        have hy := bstP_in hb
        have hya : y ≠ a := fun z => by rw [z] at hy; exact hdy a hy.2
        rw [hb] at l1 s39 s40 s37
        rw [show cdO (some y) = nI y from rfl] at *
        generalize pI τ (w + 41) a (nI y) = τ1 at *
        have iy : ix (nI y) = y := ix_nI (by omega)
        have l2 : LayW w (pI τ1 (w + 39) a (1 + SI τ (w + 39) y)) := LayT_c l1 Stk_pI Sln_pI SR_pI
        have e40 : SI (pI τ1 (w + 39) a (1 + SI τ (w + 39) y)) (w + 40) y = SI τ (w + 40) y := by rw [SI_pI, up2_ne' (by omega), s40]
        rw [if_neg (nI_pos (show y < 2 ^ 31 by omega)), rW_35_4 l1, iy, s39, cK_of (kW_35 l1), cA_of (kW_39 l1) (nW_39 l1) (show y < 20 by omega) (by decide)]
        dsimp only
        rw [lt_, i1, lt_, if_neg (nI_pos (show y < 2 ^ 31 by omega)), rW_35_5 l2, e40, cK_of (kW_35 l2), cA_of (kW_40 l2) (nW_40 l2) (show y < 20 by omega) (by decide), cA_of (kW_39 l1) (nW_39 l1) (show a < 20 by omega) (by decide)]
        dsimp only
        rw [lt_, i1, cA_of (kW_40 l2) (nW_40 l2) (show a < 20 by omega) (by decide)]
        rfl)
    (-1) σ ⟨rfl, rfl⟩
  unfold f_Album_fillRowOf
  rw [lt_, lt_]
  exact e
/-- what a filling gives -/
theorem flA_sp {fw : Nat → Nat → Prop} {ml : Nat → Int32} {n a : Nat} (ha : a < n) (hself : ∀ b, ¬ fw b b) : FrA w σ (flA w fw ml n a σ) ∧ (∀ b, b ≠ a → SI (flA w fw ml n a σ) (w + 39) b = SI σ (w + 39) b ∧ SI (flA w fw ml n a σ) (w + 40) b = SI σ (w + 40) b ∧ SI (flA w fw ml n a σ) (w + 41) b = SI σ (w + 41) b) ∧ spA fw ml n (SI (flA w fw ml n a σ) (w + 39)) (SI (flA w fw ml n a σ) (w + 40)) (SI (flA w fw ml n a σ) (w + 41)) a := by
  have hne : ∀ b, b ≠ a → SI (flA w fw ml n a σ) (w + 39) b = SI σ (w + 39) b ∧ SI (flA w fw ml n a σ) (w + 40) b = SI σ (w + 40) b ∧ SI (flA w fw ml n a σ) (w + 41) b = SI σ (w + 41) b := fun b hb => by
    unfold flA
    refine ⟨?_, ?_, ?_⟩
    · rw [SI_pI, up2_ne' (by omega), SI_pI, up2_nj hb, SI_pI, up2_ne' (by omega)]
    · rw [SI_pI, up2_nj hb, SI_pI, up2_ne' (by omega), SI_pI, up2_ne' (by omega)]
    · rw [SI_pI, up2_ne' (by omega), SI_pI, up2_ne' (by omega), SI_pI, up2_nj hb]
  refine ⟨?_, hne, ?_⟩
  · unfold flA
    exact FrA_p (FrA_p (FrA_p FrA_0 (by omega)) (by omega)) (by omega)
  · have e := bstP_congr (fw := fw) (M := SI (flA w fw ml n a σ) (w + 39)) (E := SI (flA w fw ml n a σ) (w + 40)) (M' := SI σ (w + 39)) (E' := SI σ (w + 40)) (a := a) (k := n) (fun b _ hf => by
      have hb : b ≠ a := fun z => by rw [z] at hf; exact hself a hf
      exact ⟨(hne b hb).1, (hne b hb).2.1⟩)
    have m39 : SI (flA w fw ml n a σ) (w + 39) a = (match bstP fw (SI σ (w + 39)) (SI σ (w + 40)) a n with | none => 1 | some x => 1 + SI σ (w + 39) x) := by
      unfold flA
      rw [SI_pI, up2_ne' (by omega), SI_pI, up2_s]
    have m40 : SI (flA w fw ml n a σ) (w + 40) a = (match bstP fw (SI σ (w + 39)) (SI σ (w + 40)) a n with | none => ml a | some x => SI σ (w + 40) x) := by
      unfold flA
      rw [SI_pI, up2_s]
    have m41 : SI (flA w fw ml n a σ) (w + 41) a = cdO (bstP fw (SI σ (w + 39)) (SI σ (w + 40)) a n) := by
      unfold flA
      rw [SI_pI, up2_ne' (by omega), SI_pI, up2_ne' (by omega), SI_pI, up2_s]
    unfold spA
    rw [e, m39, m40, m41]
    cases hb : bstP fw (SI σ (w + 39)) (SI σ (w + 40)) a n with
    | none => exact ⟨rfl, rfl, rfl⟩
    | some x =>
      have hx := bstP_in hb
      have hxa : x ≠ a := fun z => by rw [z] at hx; exact hself a hx.2
      dsimp only
      rw [(hne x hxa).1, (hne x hxa).2.1]
      exact ⟨rfl, rfl, rfl⟩
end AL3
