/-! texts: the call, closed -/
section TXE
variable {X Y : Nat} {σ ρ : Sto}
/-- no text comes in -/
theorem text_keep (h : REL X Y σ ρ) {f t F s : Nat → Int32} {z nt A : Nat} (hA : A = if nt < 12 then 605 + 200 * nt else 3010) (g1 : nt ≤ 12) (g3 : SI ρ (Y + 1) 4 = nI nt) (hs : ∀ j, j < A ∨ A + 192 ≤ j → s j = SI ρ (Y + 1) j) (hF : ∀ j, j ≤ 7 ∨ 19 ≤ j → F j = SI ρ Y j) : REL X Y (tS σ (X + 160) (up1 f 1 0) t) (mS (stn ρ z) Y (up1 F 8 0) s) := by
  have hsh := h.2.1
  have hA2 : 605 + 200 * nt ≤ A ∨ (nt = 12 ∧ A = 3010) := by
    rw [hA]
    split <;> omega
  refine REL_text h (Nat.le_refl _) (fun x _ => ⟨rfl, rfl, rfl⟩) (fun x _ _ => rfl) (fun x _ a1 a2 _ => tS_x a1 a2) rfl rfl rfl rfl rfl (fun x a1 a2 => mS_x a1 a2) (fun j hj => ?_) (fun j hj hj2 => ?_) ?_ ?_ ?_
  · rw [mS_f, up1_ne' (by omega)]
    exact hF j hj
  · rw [mS_s]
    exact hs j (by omega)
  · rw [mS_f, up1_s]
    rfl
  · rw [tS_f, up1_s]
    rfl
  · refine rT_g (REL_now2 h).2.2.2.2.2.2.2 (Nat.le_refl _) (fun x x1 x2 => ⟨rfl, rfl, tS_x (by omega) (by omega), rfl⟩) rfl (by rw [tS_x (by omega) (by omega)]) (fun nt' e1 e2 j hj => ?_)
    have e3 : nt' = nt := (nI_eq (by omega) (by omega)).mp (e1.symm.trans g3)
    rw [mS_s]
    exact hs j (by omega)
theorem op_12 : Op_12 X Y (REL X Y) := by
  intro x1 x2 σ ρ h
  have hX := h.2.2.1
  have hW := hX.2.1
  have hsh := h.2.1
  obtain ⟨n, g, hT, f1, F8, hM⟩ := tape_g h
  have hS : SS σ := h.2.2.2.2.1
  obtain ⟨nt, g1, g2, g3, g4, g5⟩ := (REL_now2 h).2.2.2.2.2.2.2
  have hp : ∀ z, ∃ f' t' F' s' x, f_Tape_readText (X + 160) true σ = (f' 11, true, tS σ (X + 160) f' t') ∧ f_Model_parse Y true (stn ρ z) = (x, true, mS (stn ρ z) Y (up1 F' 8 0) s') ∧ (∀ j, j < (if nt < 12 then 605 + 200 * nt else 3010) ∨ (if nt < 12 then 605 + 200 * nt else 3010) + 192 ≤ j → s' j = SI ρ (Y + 1) j) ∧ (∀ j, j ≤ 7 ∨ 19 ≤ j → F' j = SI ρ Y j) ∧ ((∃ κ m, x = nI κ ∧ PG κ m n (if nt < 12 then 605 + 200 * nt else 3010) f' t' F' s') ∨ (∃ fa, fa ≤ n ∧ x = -1 ∧ f' 11 = nI fa ∧ F' 9 = nI fa)) := fun z => parse_sim (ρ := stn ρ z) hT (hM z) hS f1 F8 g1 g3 rfl
  by_cases hd : (((0 : Int32) ≤ x1 ∧ x1 ≤ 3) ∧ ((0 : Int32) ≤ x2 ∧ x2 ≤ 999)) ∧ (f_Tape_readText (X + 160) true σ).1 < 0 ∧ nt < 12
  · obtain ⟨ha, hneg, h12⟩ := hd
    obtain ⟨f, t, F, s, x, eC, eM, q1, q2, q3⟩ := hp (Shn σ + 2)
    rw [if_pos h12] at q1 q3
    rw [eC] at hneg
    have q4 : ∃ κ m, x = nI κ ∧ PG κ m n (605 + 200 * nt) f t F s := by
      rcases q3 with q | ⟨fa, c1, c2, c3, c4⟩
      · exact q
      · have hn := hT.2.2.2.1
        have hneg' : f 11 < 0 := hneg
        rw [c3] at hneg'
        exact absurd hneg' (nI_pos (by omega))
    obtain ⟨κ, m, rfl, p1, p2, p3, p4, p5, p6, p7, p8, p9⟩ := q4
    have s4 : s 4 = nI nt := (q1 4 (by omega)).trans g3
    have fC := e_textC hX hT eC g1 g2 x1 x2
    have fM := e_textM (hM (Shn σ + 2)) g1 s4 eM x1 x2
    rw [if_pos ha, if_pos hneg, if_pos h12] at fC
    rw [if_pos ha, if_neg (nI_pos (show κ < 2 ^ 31 by omega)), if_neg (by omega)] at fM
    obtain ⟨υ, u1, u2, u3, u4, u5, u6, u7, u8, u9, u10, u11, u12, u13⟩ := e_textFor (h := X + 160) (κ := κ) (m := m) (x1 := x1) (x2 := x2) (τ := tS σ (X + 160) (up1 f 1 0) t) hT.1.1 hT.1.2.2 hT.2.2.1.1 hT.2.2.1.2 (by rw [tS_f, up1_ne' (by decide)]; exact p4) (by rw [tS_f, up1_ne' (by decide)]; exact p5) p2 (by show X + 160 + 2 < Shn σ; omega)
    have zz : Shn (tS σ (X + 160) (up1 f 1 0) t) = Shn σ := rfl
    rw [zz] at u1 u2 u3 u5 u6 u7 u8 u9 u10 u11 u12 u13
    have ut : ∀ x, x < Shn σ → Stk υ x = Stk σ x ∧ Sln υ x = Sln σ x ∧ SL υ x = SL σ x ∧ SR υ x = SR σ x := fun x hx => ⟨(u3 x hx).1, (u3 x hx).2.1, (u3 x hx).2.2.1, (u3 x hx).2.2.2.2⟩
    have ui : ∀ x, x < Shn σ → x ≠ X + 160 → x ≠ X + 162 → SI υ x = SI σ x := fun x hx a1 a2 => by rw [(u3 x hx).2.2.2.1]; exact tS_x a1 a2
    have l1 : Stk υ (X + 1 + 11) = 3 := by rw [(ut _ (by omega)).1]; exact kW_11 hW
    have l2 : SR υ (X + 1 + 11) 0 = X + 1 + 12 := by rw [(ut _ (by omega)).2.2.2]; exact rW_11_0 hW
    have l3 : Stk υ (X + 1 + 12) = 25 := by rw [(ut _ (by omega)).1]; exact kW_12 hW
    have l4 : Sln υ (X + 1 + 12) = 12 := by rw [(ut _ (by omega)).2.1]; exact nW_12 hW
    have l5 : SI υ (X + 1 + 11) 1 = nI nt := by rw [ui _ (by omega) (by omega) (by omega)]; exact g2
    have ea : f_Laws_add (X + 1 + 11) (Shn σ) true υ = (nI nt, true, pI (pR υ (X + 1 + 12) nt (Shn σ)) (X + 1 + 11) 1 (nI (nt + 1))) := by
      unfold f_Laws_add
      rw [l2, l5, ix_nI (show nt < 2 ^ 31 by omega), cK_of l1, cA_of l3 l4 h12 (by decide), cK_of u5, decide_eq_false (show ¬ Shn σ = 0 by omega)]
      simp only [lt_, SI_pR, l5, nI_1, cK_pI, SI_pI, up2_s, nI_s1]
      rw [show cK (pR υ (X + 1 + 12) nt (Shn σ)) (X + 1 + 11) 3 = true from cK_of l1]
      rfl
    rw [u1, bd_] at fC
    dsimp only at fC
    rw [cK_of l1, Bool.and_true, ea, bd_] at fC
    generalize hσ' : pI (pR υ (X + 1 + 12) nt (Shn σ)) (X + 1 + 11) 1 (nI (nt + 1)) = σ' at fC
    have z1 : Shn σ' = Shn σ + 2 := by rw [← hσ']; exact u2
    have zk : ∀ x, Stk σ' x = Stk υ x := fun x => by rw [← hσ']; rfl
    have zn : ∀ x, Sln σ' x = Sln υ x := fun x => by rw [← hσ']; rfl
    have zl : ∀ x, SL σ' x = SL υ x := fun x => by rw [← hσ']; rfl
    have zr : ∀ x, x ≠ X + 1 + 12 → SR σ' x = SR υ x := fun x hx => by
      rw [← hσ', SR_pI, SR_pR, up2_ne hx]
    have zr2 : ∀ k, SR σ' (X + 1 + 12) k = if k = nt then Shn σ else SR σ (X + 1 + 12) k := fun k => by
      rw [← hσ', SR_pI, SR_pR]
      by_cases c : k = nt
      · rw [c, up2_s, if_pos rfl]
      · rw [up2_nj c, if_neg c, (ut _ (by omega)).2.2.2]
    have zi : ∀ x, x ≠ X + 1 + 11 → SI σ' x = SI υ x := fun x hx => by
      rw [← hσ', SI_pI, up2_ne hx, SI_pR]
    have zi2 : SI σ' (X + 1 + 11) 1 = nI (nt + 1) := by rw [← hσ', SI_pI, up2_s]
    have zc : Scs σ' = Scs σ := by rw [← hσ']; exact u4
    generalize hs' : up1 (up1 (up1 (up1 (up1 (up1 s (600 + 200 * nt) (nI κ)) (601 + 200 * nt) x1) (602 + 200 * nt) x2) (603 + 200 * nt) (up1 F 8 0 18)) (604 + 200 * nt) (up1 F 8 0 16)) 4 (nI (nt + 1)) = s' at fM
    have sj : ∀ j, j ≠ 4 → ¬ (600 + 200 * nt ≤ j ∧ j ≤ 604 + 200 * nt) → s' j = s j := fun j a1 a2 => by
      rw [← hs', up1_ne' a1, up1_ne' (by omega), up1_ne' (by omega), up1_ne' (by omega), up1_ne' (by omega), up1_ne' (by omega)]
    have w0 : s' (600 + 200 * nt) = nI κ := by rw [← hs', up1_ne' (by omega), up1_ne' (by omega), up1_ne' (by omega), up1_ne' (by omega), up1_ne' (by omega), up1_s]
    have w1 : s' (600 + 200 * nt + 1) = x1 := by rw [← hs', up1_ne' (by omega), up1_ne' (by omega), up1_ne' (by omega), up1_ne' (by omega), show 600 + 200 * nt + 1 = 601 + 200 * nt by omega, up1_s]
    have w2 : s' (600 + 200 * nt + 2) = x2 := by rw [← hs', up1_ne' (by omega), up1_ne' (by omega), up1_ne' (by omega), show 600 + 200 * nt + 2 = 602 + 200 * nt by omega, up1_s]
    have w3 : s' (600 + 200 * nt + 3) = F 18 := by rw [← hs', up1_ne' (by omega), up1_ne' (by omega), show 600 + 200 * nt + 3 = 603 + 200 * nt by omega, up1_s, up1_ne' (by decide)]
    have w4 : s' (600 + 200 * nt + 4) = nI m := by rw [← hs', up1_ne' (by omega), show 600 + 200 * nt + 4 = 604 + 200 * nt by omega, up1_s, up1_ne' (by decide)]; exact p6
    have w5 : s' 4 = nI (nt + 1) := by rw [← hs', up1_s]
    refine OpOK_j (nI nt) (Shn σ + 2) σ' (mS (stn ρ (Shn σ + 2)) Y (up1 F 8 0) s') fC z1 fM rfl ?_
    refine REL_text h (by omega) (fun x hx => ⟨by rw [zk]; exact (ut x hx).1, by rw [zn]; exact (ut x hx).2.1, by rw [zl]; exact (ut x hx).2.2.1⟩) (fun x hx a1 => by rw [zr x (by omega)]; exact (ut x hx).2.2.2) (fun x hx a1 a2 a3 => by rw [zi x (by omega)]; exact ui x hx a1 a2) zc rfl rfl rfl rfl (fun x a1 a2 => mS_x a1 a2) (fun j hj => ?_) (fun j hj hj2 => ?_) ?_ ?_ ?_
    · rw [mS_f, up1_ne' (by omega)]
      exact q2 j hj
    · rw [mS_s, sj j hj2 (by omega)]
      exact q1 j (by omega)
    · rw [mS_f, up1_s]
      rfl
    · rw [zi _ (by omega), (u3 _ (by omega)).2.2.2.1, tS_f, up1_s]
      rfl
    · rw [mS_s]
      refine ⟨nt + 1, by omega, zi2, w5, fun k hk => ?_, fun k hk => ?_⟩
      · rw [zr2]
        by_cases c : k = nt
        · rw [if_pos c]
          exact Or.inr ⟨hsh, by omega, by rw [zk]; exact u5⟩
        · rw [if_neg c]
          rcases g4 k hk with q | ⟨y1, y2, y3⟩
          · exact Or.inl q
          · exact Or.inr ⟨y1, by omega, by rw [zk, (ut _ y2).1]; exact y3⟩
      · rw [zr2]
        by_cases c : k = nt
        · subst c
          rw [if_pos rfl, zr _ (by omega), u10]
          refine ⟨hsh, by omega, by omega, by omega, ?_⟩
          unfold rT1
          rw [zk, zr _ (by omega), u10, zk, zn, u5, u11, u12, w0, w1, w2, w3, w4, zi _ (by omega), zi (Shn σ + 1) (by omega), u6, u7, u8, u9]
          refine ⟨rfl, rfl, rfl, rfl, ?_, ⟨by rw [nI_toInt (by omega)]; omega, by rw [nI_toInt (by omega)]; omega⟩, ⟨Int32.le_iff_toInt_le.mp ha.1.1, Int32.le_iff_toInt_le.mp ha.1.2⟩, ⟨Int32.le_iff_toInt_le.mp ha.2.1, Int32.le_iff_toInt_le.mp ha.2.2⟩, m, p2, rfl, rfl, rfl, fun j hj => ?_, ?_⟩
          · rw [tS_f, up1_ne' (by decide)]
            exact p7
          · have := p8 j hj
            rw [u13 j hj, tS_t, sj _ (by omega) (by omega), sj _ (by omega) (by omega)]
            rw [show 605 + 200 * k + 2 * j = 600 + 200 * k + 5 + 2 * j by omega, show 600 + 200 * k + 5 + 2 * j + 1 = 600 + 200 * k + 6 + 2 * j by omega] at this
            exact this
          · rw [show 600 + 200 * k + 5 = 605 + 200 * k by omega]
            exact pileOK_c (fun j j1 j2 => sj j (by omega) (by omega)) p9
        · rw [if_neg c]
          obtain ⟨b1, b2, b3, b4, b5⟩ := g5 k (by omega)
          rw [zr _ (by omega), (ut _ b2).2.2.2]
          refine ⟨b1, by omega, b3, by omega, rT1_c b5 (by rw [zk]; exact (ut _ b2).1) (by rw [zi _ (by omega)]; exact ui _ b2 (by omega) (by omega)) (by rw [zr _ (by omega)]; exact (ut _ b2).2.2.2) (by rw [zk]; exact (ut _ b4).1) (by rw [zn]; exact (ut _ b4).2.1) (by rw [zi _ (by omega)]; exact ui _ b4 (by omega) (by omega)) (fun j j1 j2 => ?_)⟩
          rw [sj j (by omega) (by omega)]
          exact q1 j (by omega)
  · obtain ⟨f, t, F, s, x, eC, eM, q1, q2, q3⟩ := hp (Shn σ)
    have s4 : s 4 = nI nt := (q1 4 (by split <;> omega)).trans g3
    have fC := e_textC hX hT eC g1 g2 x1 x2
    have fM := e_textM (hM (Shn σ)) g1 s4 eM x1 x2
    by_cases ha : ((0 : Int32) ≤ x1 ∧ x1 ≤ 3) ∧ ((0 : Int32) ≤ x2 ∧ x2 ≤ 999)
    · rw [if_pos ha] at fC fM
      have K := text_keep (f := f) (t := t) (z := Shn σ) h (A := if nt < 12 then 605 + 200 * nt else 3010) rfl g1 g3 q1 q2
      rcases q3 with ⟨κ, m, rfl, p1, p2, p3, -⟩ | ⟨fa, c1, rfl, c3, c4⟩
      · have hneg : f 11 < 0 := by rw [p3]; decide
        have h12 : ¬ nt < 12 := fun z => hd ⟨ha, by rw [eC]; exact hneg, z⟩
        rw [if_pos hneg, if_neg h12] at fC
        rw [if_neg (nI_pos (show κ < 2 ^ 31 by omega)), if_pos (by omega)] at fM
        exact OpOK_j _ (Shn σ) _ _ fC rfl fM rfl K
      · have hn := hT.2.2.2.1
        rw [c3, if_neg (nI_pos (show fa < 2 ^ 31 by omega))] at fC
        rw [if_pos (by decide), up1_ne' (show 9 ≠ 8 by decide), c4] at fM
        exact OpOK_j _ (Shn σ) _ _ fC rfl fM rfl K
    · rw [if_neg ha] at fC fM
      have e1 : pI σ (X + 160) 1 0 = tS σ (X + 160) (up1 (SI σ (X + 160)) 1 0) (SI σ (X + 160 + 2)) := by
        rw [← tS_p, tS_id]
      rw [e1] at fC
      exact OpOK_j _ (Shn σ) _ _ fC rfl fM rfl (text_keep h (A := if nt < 12 then 605 + 200 * nt else 3010) rfl g1 g3 q1 q2)
end TXE
