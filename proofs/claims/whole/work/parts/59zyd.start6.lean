/-! the start: both sides -/
section SR6
theorem em_k (y c : Nat) (cs : Nat → Nat) : Shn (nC (emp y cs) c 0) = y + 1 ∧ Stk (nC (emp y cs) c 0) y = c ∧ Sln (nC (emp y cs) c 0) y = 0 ∧ (∀ j, SR (nC (emp y cs) c 0) y j = 0) ∧ (∀ j, SI (nC (emp y cs) c 0) y j = 0) ∧ (∀ j, SL (nC (emp y cs) c 0) y j = 0) ∧ Scs (nC (emp y cs) c 0) = cs := by
  refine ⟨rfl, ?_, ?_, fun j => ?_, fun j => ?_, fun j => ?_, rfl⟩
  · rw [Stk_nC]
    exact up1_s
  · rw [Sln_nC]
    exact up1_s
  · rw [SR_nC, show Shn (emp y cs) = y from rfl, up1_s]
  · rw [SI_nC, show Shn (emp y cs) = y from rfl, up1_s]
  · rw [SL_nC, show Shn (emp y cs) = y from rfl, up1_s]
/-- the two sides as they are made -/
theorem st_C (z : Nat) (cs : Nat → Nat) (hz : 1 ≤ z) : ∃ τ, τ = rns z opsX (nC (emp z cs) 12 0) ∧ stC z cs = ((), true, τ) ∧ Shn τ = z + 173 := by
  obtain ⟨h1, h2, -⟩ := em_k z 12 cs
  exact ⟨_, rfl, i_Trail h1 h2 (by omega), n_Trail h1⟩
theorem st_R (z : Nat) (cs : Nat → Nat) (hz : 1 ≤ z) : ∃ υ, υ = rns (z + 173) opsN (nC (emp (z + 173) cs) 13 0) ∧ stR z cs = ((), true, υ) ∧ Shn υ = z + 173 + 22 := by
  obtain ⟨τ, -, e1, e2⟩ := st_C z cs hz
  obtain ⟨h1, h2, h3, h4, -⟩ := em_k (z + 173) 13 cs
  refine ⟨_, rfl, ?_, n_Model h1⟩
  unfold stR
  rw [e1, show Shn ((), true, τ).2.2 = z + 173 from e2]
  exact i_Model2 h1 h2 h3 h4 (by omega)
theorem start_ok (z : Nat) (cs : Nat → Nat) (hz : 1 ≤ z) (c1 : ∀ i, i ≤ 10 → cs i ≠ 0) (c2 : DS cs) : (stC z cs).2.1 = true ∧ (stR z cs).2.1 = true ∧ REL z (Shn (stC z cs).2.2) (stn (stC z cs).2.2 (Shn (stR z cs).2.2)) (stR z cs).2.2 := by
  obtain ⟨τ, hτ, e1, e2⟩ := st_C z cs hz
  obtain ⟨υ, hυ, e3, e4⟩ := st_R z cs hz
  obtain ⟨a1, a2, a3, a4, a5, a6, a7⟩ := em_k z 12 cs
  obtain ⟨b1, b2, b3, b4, b5, b6, b7⟩ := em_k (z + 173) 13 cs
  have hR : ∀ x, z + 173 ≤ x → REL z (z + 173) (stn τ x) υ := fun x hx => by
    rw [hτ, hυ]
    exact REL_0 hz c1 c2 a1 a2 a3 a4 a5 a6 a7 b1 b2 b3 b4 b5 b6 hx
  clear hτ hυ
  rw [e3, e1]
  refine ⟨rfl, rfl, ?_⟩
  show REL z (Shn τ) (stn τ (Shn υ)) υ
  rw [e2]
  exact hR (Shn υ) (by omega)
end SR6
