/-! rows of pictures: all of the class's -/
section AL4
variable {X Y w : Nat} {σ ρ : Sto} {S : Nat → Int32}
theorem fw_day {n a b : Nat} {v : Int32} (hb : ∀ k, k < n → bd (S (520 + 2 * k)) 0 999) (h : fwP S v n a b) : (S (520 + 2 * a)).toInt < (S (520 + 2 * b)).toInt := by
  obtain ⟨⟨h1, -⟩, h2, h3⟩ := h
  obtain ⟨x, hx, ex⟩ := bd_nat (n := 999) (hb a h2)
  obtain ⟨y, hy, ey⟩ := bd_nat (n := 999) (hb b h3)
  rw [ex, ey] at h1
  rw [ex, ey]
  rw [nI_toInt (by omega), nI_toInt (by omega)]
  rcases Nat.lt_or_ge x y with z | z
  · omega
  · have e : nI y - nI x = -(nI x - nI y) := by rw [Int32.neg_sub]
    rw [e, nI_sub z, Int32.lt_iff_toInt_lt] at h1
    rcases Nat.eq_zero_or_pos (x - y) with q | q
    · rw [q] at h1
      exact absurd h1 (by decide)
    · have : (-(nI (x - y))).toInt = -((x - y : Nat) : Int) := by
        rw [Int32.toInt_neg, nI_toInt (by omega)]
        exact Int.bmod_eq_of_le (by omega) (by omega)
      rw [this, show (0 : Int32).toInt = 0 from rfl] at h1
      omega
theorem fw_self {n b : Nat} {v : Int32} (hb : ∀ k, k < n → bd (S (520 + 2 * k)) 0 999) : ¬ fwP S v n b b := fun h => by
  have := fw_day hb h
  omega
theorem C_rows (hW : LayW w σ) {n : Nat} {v : Int32} (hn : n ≤ 20) (a2 : SI σ (w + 35) 2 = nI n) (a4 : ∀ k, k < n → SI σ (w + 36) k = S (520 + 2 * k) ∧ SI σ (w + 37) k = S (521 + 2 * k)) (hb : ∀ k, k < n → bd (S (520 + 2 * k)) 0 999) : ∃ τ1 τ, Fr1 (w + 38) σ τ1 ∧ FrA w τ1 τ ∧ (∀ a, a < n → spA (fwP S v n) (fun k => S (521 + 2 * k)) n (SI τ (w + 39)) (SI τ (w + 40)) (SI τ (w + 41)) a) ∧ f_Album_firstOfBestRow (w + 35) v true σ = lp_ (b_Album_firstOfBestRow_35 (w + 35)) (fun (x2 : Int32) (x3 : Int32) (b : Bool) (σ : Sto) => (0, false, σ)) fuel_ (-1) 0 true τ := by
  obtain ⟨τ1, f1, l1, e1⟩ := C_line (S := S) hW hn a2 (fun k hk => (a4 k hk).1) hb
  obtain ⟨d1, d2, d3⟩ := dy_spec (S := S) n
  have hW1 : LayW w τ1 := LayT_c hW f1.2.1 f1.2.2.1 f1.2.2.2.1
  have hdy : ∀ a b, fwP S v n a b → (dyS S (31 + 4 * b)).toInt < (dyS S (31 + 4 * a)).toInt := fun a b h => by
    have := fw_day hb h
    rw [dyS_t hb h.2.1, dyS_t hb h.2.2]
    omega
  obtain ⟨τ, ⟨p1, p2⟩, e⟩ := lp_ex (body := b_Album_firstOfBestRow_6 (w + 35) v) (bad := fun (x2 : Int32) (b : Bool) (σ : Sto) => (0, false, σ)) n (fun i τ => FrA w τ1 τ ∧ ∀ j, j < i → spA (fwP S v n) (fun k => S (521 + 2 * k)) n (SI τ (w + 39)) (SI τ (w + 40)) (SI τ (w + 41)) (twR (dyS S) n j)) (fun τ => lp_ (b_Album_firstOfBestRow_35 (w + 35)) (fun (x2 : Int32) (x3 : Int32) (b : Bool) (σ : Sto) => (0, false, σ)) fuel_ (-1) 0 true τ) (by omega)
    (fun i τ hi ⟨q1, q2⟩ => by
      have hL : LayW w τ := LayT_c hW1 q1.2.1 q1.2.2.1 q1.2.2.2.1
      have hr := d1 i hi
      have ex : ∀ x, ¬ (w + 38 ≤ x ∧ x ≤ w + 41) → SI τ x = SI σ x := fun x hx => by rw [q1.2.2.2.2.2.2 x (by omega), f1.2.2.2.2.2.2 x (by omega)]
      have t2 : SI τ (w + 35) 2 = nI n := by rw [ex _ (by omega), a2]
      have t4 : ∀ k, k < n → SI τ (w + 36) k = S (520 + 2 * k) ∧ SI τ (w + 37) k = S (521 + 2 * k) := fun k hk => by rw [ex _ (by omega), ex _ (by omega)]; exact a4 k hk
      have t38 : SI τ (w + 38) i = nI (twR (dyS S) n i) := by rw [q1.2.2.2.2.2.2 _ (by omega), l1 i hi]
      have ef := C_fill (S := S) (v := v) hL hn hr t2 t4 (fun b => fw_self hb)
      obtain ⟨g1, g2, g3⟩ := flA_sp (w := w) (σ := τ) (fw := fwP S v n) (ml := fun k => S (521 + 2 * k)) hr (fun b => fw_self hb)
      generalize flA w (fwP S v n) (fun k => S (521 + 2 * k)) n (twR (dyS S) n i) τ = τ' at *
      refine ⟨τ', ⟨⟨g1.1.trans q1.1, g1.2.1.trans q1.2.1, g1.2.2.1.trans q1.2.2.1, g1.2.2.2.1.trans q1.2.2.2.1, g1.2.2.2.2.1.trans q1.2.2.2.2.1, g1.2.2.2.2.2.1.trans q1.2.2.2.2.2.1, fun x hx => (g1.2.2.2.2.2.2 x hx).trans (q1.2.2.2.2.2.2 x hx)⟩, fun j hj => ?_⟩, fun L => ?_⟩
      · by_cases c : twR (dyS S) n j = twR (dyS S) n i
        · rw [c]; exact g3
        · have hji : j < i := by
            rcases Nat.lt_or_ge j i with z | z
            · exact z
            · exact absurd (show twR (dyS S) n j = twR (dyS S) n i by rw [show j = i by omega]) c
          refine spA_congr (fun b hbn hf => ?_) (g2 _ c).2.2.symm (d1 j (by omega)) (q2 j hji)
          have hbi : b ≠ twR (dyS S) n i := fun z => by
            rcases hf with hf | hf
            · have := hdy _ _ hf
              have := d2 j i hji hi
              rw [← z] at this
              omega
            · exact c (hf.symm.trans z)
          exact ⟨(g2 b hbi).1.symm, (g2 b hbi).2.1.symm⟩
      · unfold b_Album_firstOfBestRow_6
        rw [t2, if_pos (nI_lt hi (by omega)), rW_35_3 hL, ix_nI (show i < 2 ^ 31 by omega), t38, cK_of (kW_35 hL), cA_of (kW_38 hL) (nW_38 hL) (show i < 20 by omega) (by decide)]
        simp only [Bool.and_true]
        rw [ef, bd_]
        rfl)
    (fun L τ ⟨q1, q2⟩ => by
      have hL : LayW w τ := LayT_c hW1 q1.2.1 q1.2.2.1 q1.2.2.2.1
      have t2 : SI τ (w + 35) 2 = nI n := by rw [q1.2.2.2.2.2.2 _ (by omega), f1.2.2.2.2.2.2 _ (by omega), a2]
      unfold b_Album_firstOfBestRow_6
      rw [t2, if_neg (nI_nlt (Nat.le_refl n) (by omega)), lt_, lt_, cK_of (kW_35 hL), Bool.and_true])
    τ1 ⟨FrA_0, fun j hj => absurd hj (Nat.not_lt_zero _)⟩
  refine ⟨τ1, τ, f1, p1, fun a ha => ?_, ?_⟩
  · obtain ⟨i, i1, i2⟩ := d3 a ha
    rw [← i2]
    exact p2 i i1
  · unfold f_Album_firstOfBestRow
    rw [cK_of (kW_35 hW), Bool.and_true, e1, bd_]
    dsimp only
    rw [lt_]
    exact e
end AL4
