/-! the start: the class's own object -/
section SR4
variable {w n : Nat} {σ : Sto}
theorem rn_oN {x : Nat} {l : List (Nat × Nat × Nat × Nat × Int32)} (hs : Shn σ = w + 1) (hx : x < w) : Sln (rns w l σ) x = Sln σ x := (rn_old hx hs).2.1
theorem b_Sheet (hs : Shn σ = w + 1) : Stk (rns w opsH σ) w = Stk σ w := (rn_K (i := 0) (l := opsH) (n := 1) (v := (Stk σ w, Sln σ w)) hs (fun _ => ⟨rfl, rfl⟩) (by decide)).1
def opsX : List (Nat × Nat × Nat × Nat × Int32) := (0, 11, 0, 0, 0) :: (shL 1 opsW ++ ((1, 0, 0, 1, 0) :: (0, 11, 0, 0, 0) :: (shL 54 opsW ++ ((1, 0, 1, 54, 0) :: (0, 11, 0, 0, 0) :: (shL 107 opsW ++ ((1, 0, 2, 107, 0) :: (0, 8, 0, 0, 0) :: (shL 160 opsT ++ ((1, 0, 3, 160, 0) :: (0, 27, 4, 0, 0) :: (0, 6, 0, 0, 0) :: (shL 164 opsH ++ ((1, 163, 0, 164, 0) :: (0, 6, 0, 0, 0) :: (shL 166 opsH ++ ((1, 163, 1, 166, 0) :: (0, 6, 0, 0, 0) :: (shL 168 opsH ++ ((1, 163, 2, 168, 0) :: (0, 6, 0, 0, 0) :: (shL 170 opsH ++ ((1, 163, 3, 170, 0) :: (1, 0, 4, 163, 0) :: (0, 21, 60, 0, 0) :: (1, 0, 5, 172, 0) :: []))))))))))))))))
set_option maxHeartbeats 4000000 in
theorem i_Trail (hs : Shn σ = w + 1) (hk : Stk σ w = 12) (hw : ¬ w = 0) : f_Trail_init w true σ = ((), true, rns w opsX σ) := by
  simp only [f_Trail_init, opsX, i_World, n_World, i_Tape, n_Tape, i_Sheet, n_Sheet, b_Sheet, rn_oK, rn_oN, lt_, bd_, Shn_nC, Shn_pR, Shn_pI, hs, Nat.add_assoc, Nat.reduceAdd, Nat.add_zero, rn_0, rn_1, rn_2, rn_n, rn_app, rn_shr, ixc_0, ixc_1, ixc_2, ixc_3, ixc_4, ixc_5, ixc_6, ixc_7, ixc_8, ixc_9, ixc_10, ixc_12, ixc_16, ixc_17, ixc_20, ixc_24, ixc_60, ixc_96, cK, cA, Stk_nC, Stk_pR, Stk_pI, Sln_nC, Sln_pR, Sln_pI, SR_pR, SR_nC, up1, up2, ltc_4, ltc_6, ltc_7, ltc_10, ltc_12, ltc_16, ltc_17, ltc_20, ltc_24, ltc_60, ltc_96, inbc_0_4, inbc_1_4, inbc_2_4, inbc_3_4, inbc_0_7, inbc_1_7, inbc_2_7, inbc_3_7, inbc_4_7, inbc_5_7, inbc_6_7, inbc_0_10, inbc_1_10, inbc_2_10, inbc_3_10, inbc_4_10, inbc_5_10, inbc_6_10, inbc_7_10, inbc_8_10, inbc_9_10, hk, hw, Nat.le_refl, decide_true, decide_false, Bool.not_false, Bool.and_true, Bool.and_self, Bool.true_and, Bool.false_or, Bool.or_true, if_true, if_false, Nat.add_left_cancel_iff, Nat.left_eq_add, Nat.add_eq_left, Nat.reduceEqDiff, reduceIte, Nat.succ_ne_zero, Nat.one_ne_zero, Nat.lt_add_right_iff_pos, Nat.zero_lt_succ, Nat.add_eq_zero_iff, and_false, not_false_eq_true, Nat.add_lt_add_iff_left, Nat.reduceLT]
theorem n_Trail (hs : Shn σ = w + 1) : Shn (rns w opsX σ) = w + 173 := by
  have := rn_hn (l := opsX) hs
  rw [show dC opsX 1 = 173 by decide +kernel] at this
  exact this
theorem lay_ops (l tk tr : List (Nat × Nat × Nat)) (ops : List (Nat × Nat × Nat × Nat × Int32)) (a k0 : Nat) (h1 : ∀ r ∈ tk, a + r.1 < dC ops 1 ∧ dK (a + r.1) ops 1 (k0, 0) = (r.2.1, r.2.2)) (h2 : ∀ r ∈ tr, a + r.1 < dC ops 1 ∧ dR (a + r.1) r.2.1 ops 1 none = some (a + r.2.2)) (hs : Shn σ = w + 1) (hk : Stk σ w = k0) (hn : Sln σ w = 0) (hr : ∀ j, SR σ w j = 0) : LayT tk tr (w + a) (rns w ops σ) := by
  refine ⟨fun r hr1 => ?_, fun r hr1 => ?_⟩
  · obtain ⟨q1, q2⟩ := h1 r hr1
    have := rn_K (i := a + r.1) (l := ops) (n := 1) (v := (k0, 0)) hs (fun hi => by
      rw [show a + r.1 = 0 by omega]
      exact ⟨hk, hn⟩) q1
    rw [q2, ← Nat.add_assoc] at this
    exact this
  · obtain ⟨q1, q2⟩ := h2 r hr1
    have := rn_R (i := a + r.1) (y := r.2.1) (l := ops) (n := 1) (v := none) hs (fun hi => by
      rw [show a + r.1 = 0 by omega]
      exact hr _) q1
    rw [q2, ← Nat.add_assoc] at this
    rw [this, Nat.add_assoc]
    rfl
theorem layX_0 (hs : Shn σ = w + 1) (hk : Stk σ w = 12) (hn : Sln σ w = 0) (hr : ∀ j, SR σ w j = 0) : LayX w (rns w opsX σ) := by
  refine ⟨?_, ?_, ?_, ?_⟩
  · exact lay_ops [] xK xR opsX 0 12 (by decide +kernel) (by decide +kernel) hs hk hn hr
  · exact lay_ops [] wK wR opsX 1 12 (by decide +kernel) (by decide +kernel) hs hk hn hr
  · exact lay_ops [] wK wR opsX 54 12 (by decide +kernel) (by decide +kernel) hs hk hn hr
  · exact lay_ops [] wK wR opsX 107 12 (by decide +kernel) (by decide +kernel) hs hk hn hr
end SR4
