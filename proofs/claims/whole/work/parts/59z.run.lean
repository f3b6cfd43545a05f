/-! run -/
section RN
variable {X Y : Nat} {σ ρ : Sto}
theorem DayI_of (h : REL X Y σ ρ) : DayI X Y (X + 1) σ (stn ρ (Shn σ)) := by
  obtain ⟨g1, g2, g3, g4, g5, g6, -⟩ := h
  obtain ⟨y1, y2, y3, y4, y5, y6, y7, y8⟩ := g6
  exact ⟨g1, by omega, g3.2.1, g4, g5.1 0 (by decide), y1.1, y2, y6, y7, y8⟩
/-- days gone by in the world that is now -/
theorem REL_day {τ υ : Sto} (h : REL X Y σ ρ) (fC : FrC (X + 1) σ τ) (fN : FrN Y (stn ρ (Shn σ)) υ) (hD : DayI X Y (X + 1) τ υ) (hb : bd (SI υ (Y + 1) 0) 0 999) : REL X Y τ υ := by
  obtain ⟨g1, g2, g3, g4, g5, g6, g7, g8, g9, g10⟩ := h
  have sx : ∀ x, ¬ (x = X + 1 ∨ x = X + 1 + 11 ∨ x = X + 1 + 13 ∨ x = X + 1 + 14 ∨ x = X + 1 + 20 ∨ (X + 1 + 43 ≤ x ∧ x ≤ X + 1 + 52)) → SI τ x = SI σ x := fC.2.2.2.2.2.2.1
  have rx : ∀ x, x ≠ Y → x ≠ Y + 1 → x ≠ Y + 8 → x ≠ Y + 9 → SI υ x = SI ρ x := fN.2.2.2.2.2.2.1
  have ry : ∀ j, j ≠ 21 ∧ j ≠ 99 → SI υ Y j = SI ρ Y j := fN.2.2.2.2.2.2.2.1
  have rs : ∀ j, ¬ dy j → j ≠ 0 → SI υ (Y + 1) j = SI ρ (Y + 1) j := fN.2.2.2.2.2.2.2.2
  obtain ⟨y1, y2, y3, y4, y5, y6, y7, y8⟩ := g6
  refine ⟨g1, by rw [fC.1]; exact g2, LayX_c g3 fC.2.1 fC.2.2.1 fC.2.2.2.1, LayY_c g4 fN.2.1 fN.2.2.1 fN.2.2.2.1, by rw [fC.2.2.2.2.2.1]; exact g5, ?_, ?_, rTape_c g8 (sx _ (by omega)) (sx _ (by omega)) (ry 8 (by decide)) (rx _ (by omega) (by omega) (by omega) (by omega)), rSh_c g9 (fun b _ _ => ⟨sx b (by omega), by rw [fC.2.2.2.2.1]⟩) (rx _ (by omega) (by omega) (by omega) (by omega)) (rx _ (by omega) (by omega) (by omega) (by omega)) (by rw [fN.2.2.2.2.1]; rfl), rTell_c g10 (by rw [sx X (by omega)]) (sx _ (by omega)) (ry 33 (by decide)) (rx _ (by omega) (by omega) (by omega) (by omega))⟩
  · obtain ⟨i1, i2, i3, i4, i5, i6, i7, i8, i9, i10⟩ := hD
    exact ⟨⟨i6, hb⟩, i7, rQ_c y3 (fun a _ _ => sx a (by omega)) (fun j hj => rs j (by unfold dy; omega) (by omega)), rS_c y4 (fun a _ _ => sx a (by omega)) (fun j hj => rs j (by unfold dy; omega) (by omega)) (by rw [rs 2 (by unfold dy; omega) (by omega)]; exact Int32.le_refl _), rA_c y5 (fun a _ _ => sx a (by omega)) (fun j hj => rs j (by unfold dy; omega) (by omega)), i8, i9, i10⟩
  · rw [sx X (by omega), ry 3 (by decide), rx (Y + 2) (by omega) (by omega) (by omega) (by omega)]
    rcases g7 with q | ⟨z1, z2, z3⟩
    · exact Or.inl q
    · exact Or.inr ⟨z1, z2, RWd_c z3 fC.1 fC.2.1 fC.2.2.1 fC.2.2.2.1 (fun a ha => sx a (by omega)) (fun _ _ => rfl)⟩
/-- the days that are refused, on both sides -/
theorem days_cases (h : REL X Y σ ρ) (v : Int32) : (∃ n m : Nat, 1 ≤ n ∧ n ≤ 60 ∧ v = nI n ∧ SI ρ (Y + 1) 0 = nI m ∧ m + n ≤ 999 ∧ f_Trail_refusalOfDays X v true σ = (0, true, σ) ∧ ((1 : Int32) ≤ v ∧ v ≤ 60) ∧ ¬ (999 : Int32) < SI ρ (Y + 1) 0 + v) ∨ (((1 : Int32) ≤ v ∧ v ≤ 60) ∧ (999 : Int32) < SI ρ (Y + 1) 0 + v ∧ f_Trail_refusalOfDays X v true σ = (-1000000003, true, σ)) ∨ (¬ ((1 : Int32) ≤ v ∧ v ≤ 60) ∧ f_Trail_refusalOfDays X v true σ = (-1000000001, true, σ)) := by
  have hX := h.2.2.1
  have hW := hX.2.1
  have d1 := (REL_now2 h).1
  unfold f_Trail_refusalOfDays
  rw [e_within, bd_]
  by_cases hv : (1 : Int32) ≤ v ∧ v ≤ 60
  · rw [inR_e1 hv, if_neg (show ¬ (1 : Int32) = 0 by decide), rX_0_0 hX, d1.1, cK_of (kX_0 hX), cK_of (kW_0 hW)]
    by_cases c : (999 : Int32) < SI ρ (Y + 1) 0 + v
    · rw [if_pos c]
      exact Or.inr (Or.inl ⟨hv, c, rfl⟩)
    · rw [if_neg c]
      obtain ⟨n, hn, rfl⟩ := in_nat (n := 60) rfl (by decide) (Int32.le_trans (by decide) hv.1) hv.2
      obtain ⟨m, hm, em⟩ := bd_nat (n := 999) d1.2
      refine Or.inl ⟨n, m, ?_, hn, rfl, em, ?_, rfl, hv, c⟩
      · rcases Nat.eq_zero_or_pos n with e | e
        · subst e
          exact absurd hv.1 (by decide)
        · exact e
      · rw [em, nI_add, show (999 : Int32) = nI 999 from rfl] at c
        rcases Nat.lt_or_ge 999 (m + n) with z | z
        · exact absurd (nI_lt z (by omega)) c
        · exact z
  · rw [inR_e0 hv, if_pos rfl]
    exact Or.inr (Or.inr ⟨hv, rfl⟩)
theorem op_23 : Op_23 X Y (REL X Y) := by
  intro v σ ρ h
  have hX := h.2.2.1
  have hY : LayY Y (stn ρ (Shn σ)) := h.2.2.2.1
  have hW := hX.2.1
  rcases days_cases h v with ⟨n, m, n1, n2, rfl, em, hmn, er, hv, c⟩ | ⟨hv, c, er⟩ | ⟨hv, er⟩
  · have lyX : ∀ τ, FrC (X + 1) σ τ → LayX X τ := fun τ f => LayX_c hX f.2.1 f.2.2.1 f.2.2.2.1
    have lyY : ∀ υ, FrN Y (stn ρ (Shn σ)) υ → LayY Y υ := fun υ f => LayY_c hY f.2.1 f.2.2.1 f.2.2.2.1
    obtain ⟨τ, υ, ⟨p1, p2, p3, p4⟩, e1, e2⟩ := lp_ex2 (body := b_Trail_run_14 X (nI n)) (bad := fun (x3 : Int32) (b : Bool) (σ : Sto) => (0, false, σ)) (body' := b_Model_run_34 Y (nI n)) (bad' := fun (x2 : Int32) (b : Bool) (σ : Sto) => (0, false, σ)) n
      (fun i τ υ => FrC (X + 1) σ τ ∧ FrN Y (stn ρ (Shn σ)) υ ∧ DayI X Y (X + 1) τ υ ∧ SI υ (Y + 1) 0 = nI (m + i)) (fun τ => (nI (m + n), true, τ)) (fun υ => (nI (m + n), true, υ)) (by omega)
      (fun i τ υ hi ⟨q1, q2, q3, q4⟩ => by
        obtain ⟨a, τ', υ', r1, r2, r3, r4, r5, r6, r7⟩ := day_both q3
        have hXt := lyX τ q1
        refine ⟨τ', υ', ⟨FrC_t q1 r1, FrN_t q2 r2, r3, by rw [r4, q4]; exact nI_1 (m + i)⟩, fun L => ?_, fun L => ?_⟩
        · unfold b_Trail_run_14
          rw [if_pos (nI_lt hi (by omega)), rX_0_0 hXt, cK_of (kX_0 hXt), cK_of (kW_0 hXt.2.1)]
          simp only [Bool.and_true]
          rw [r6, bd_]
          rfl
        · unfold b_Model_run_34
          rw [if_pos (nI_lt hi (by omega)), cK_of (kY_0 (lyY υ q2)), Bool.and_true, r7, bd_]
          rfl)
      (fun L τ υ ⟨q1, q2, q3, q4⟩ => by
        have hXt := lyX τ q1
        unfold b_Trail_run_14
        rw [if_neg (nI_nlt (Nat.le_refl n) (by omega)), rX_0_0 hXt, q3.2.2.2.2.2.1, q4, cK_of (kX_0 hXt), cK_of (kW_0 hXt.2.1)]
        rfl)
      (fun L τ υ ⟨q1, q2, q3, q4⟩ => by
        have hYt := lyY υ q2
        unfold b_Model_run_34
        rw [if_neg (nI_nlt (Nat.le_refl n) (by omega)), rY_0 hYt, show ix (0 : Int32) = 0 from rfl, q4, cK_of (kY_0 hYt), cYk hYt 0 (v := 0) rfl (by decide)]
        rfl)
      σ (stn ρ (Shn σ)) ⟨FrC_0, FrN_0, DayI_of h, em⟩
    refine OpOK_j (nI (m + n)) (Shn σ) τ υ ?_ p1.1 ?_ p2.1 (REL_day h p1 p2 p3 (by rw [p4]; unfold bd; rw [nI_toInt (by omega)]; omega))
    · unfold f_Trail_run
      rw [cK_of (kX_0 hX), Bool.and_true, er, bd_]
      dsimp only
      rw [lt_, if_pos rfl, lt_]
      exact e1
    · show f_Model_run Y (nI n) true (stn ρ (Shn σ)) = _
      unfold f_Model_run
      rw [e_isInL (nI n) 1 60 1 60 rfl rfl, bd_]
      dsimp only
      rw [inR_e1 hv, if_neg (show ¬ (1 : Int32) = 0 by decide), rY_0 hY, show ix (0 : Int32) = 0 from rfl, if_neg (show ¬ (999 : Int32) < SI (stn ρ (Shn σ)) (Y + 1) 0 + nI n from c), lt_, cK_of (kY_0 hY), cYk hY 0 (v := 0) rfl (by decide)]
      exact e2
  · refine OpOK_b (-1000000003) h ?_ ?_
    · unfold f_Trail_run
      rw [cK_of (kX_0 hX), Bool.and_true, er, bd_]
      rfl
    · show f_Model_run Y v true (stn ρ (Shn σ)) = _
      unfold f_Model_run
      rw [e_isInL v 1 60 1 60 rfl rfl, bd_]
      dsimp only
      rw [inR_e1 hv, if_neg (show ¬ (1 : Int32) = 0 by decide), rY_0 hY, show ix (0 : Int32) = 0 from rfl, if_pos (show (999 : Int32) < SI (stn ρ (Shn σ)) (Y + 1) 0 + v from c), cK_of (kY_0 hY), cYk hY 0 (v := 0) rfl (by decide)]
      rfl
  · refine OpOK_b (-1000000001) h ?_ ?_
    · unfold f_Trail_run
      rw [cK_of (kX_0 hX), Bool.and_true, er, bd_]
      rfl
    · show f_Model_run Y v true (stn ρ (Shn σ)) = _
      unfold f_Model_run
      rw [e_isInL v 1 60 1 60 rfl rfl, bd_]
      dsimp only
      rw [inR_e0 hv, if_pos rfl]
end RN
