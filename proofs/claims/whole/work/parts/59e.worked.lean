/-! a text asked on both sides -/
section WK2
variable {X Y w : Nat} {σ ρ : Sto} {S : Nat → Int32} {nm : Int32 → Int32}
theorem e_worthC (hW : LayW w σ) {st n r : Nat} {key : Int32} (hst : st ≠ w + 11 ∧ st ≠ w + 14) (k1 : Stk σ st = 21) (n1 : Sln σ st = n) (hn : n < 96) (hs : ∀ i, i < n → rStep key (SI σ st i) (S (r + 2 * i)) (S (r + 2 * i + 1))) (hnm : nmOK key (SI σ (w + 13)) nm) (hp : pileOK S r n 1) : ∃ σ', f_Laws_worthOf (w + 11) st true σ = ((pst S nm r n).2 0, true, σ') ∧ FrW w σ σ' := by
  have e1 : (pst S nm r n).1 = 1 := pst_h hp
  unfold f_Laws_worthOf
  rw [lt_, lt_, cK_of (kW_11 hW), Bool.and_true]
  obtain ⟨τ, q, e⟩ := lp_ex (body := b_Laws_worthOf_7 (w + 11) st) (bad := fun (x2 : Int32) (b : Bool) (σ : Sto) => (0, false, σ)) n (fun i τ => wsP w σ (pst S nm r i) τ) (fun τ => (SI τ (w + 14) 0, true, pI τ (w + 11) 4 (nI 0))) (by omega) (fun i τ hi q => by
    obtain ⟨g, hg⟩ := pile_pre hp (i + 1) hi
    exact ws_step hW hst k1 n1 hn hi (hs i hi) hnm hg q) (fun L τ q => by
    have hW' : LayW w τ := FrW_L q.1 hW
    have kt : Stk τ st = 21 := by rw [q.1.2.1]; exact k1
    have nt : Sln τ st = n := by rw [q.1.2.2.1]; exact n1
    have q4 := q.2.1
    rw [e1] at q4
    unfold b_Laws_worthOf_7
    rw [nt, ofN, if_neg (nI_nlt (Nat.le_refl n) (by omega)), cK_of kt, cK_of (kW_11 hW')]
    simp only [Bool.and_true, e_pop hW' (show 0 < 96 by decide) q4, bd_]) (pI σ (w + 11) 4 0) ⟨FrW_4 FrW_0, by rw [SI_pI, up2_s]; rfl, fun j hj => absurd hj (Nat.not_lt_zero _)⟩
  refine ⟨pI τ (w + 11) 4 (nI 0), ?_, FrW_4 q.1⟩
  rw [e, q.2.2 0 (by rw [e1]; decide)]
-- the reference's pile
def FrM (Y : Nat) (ρ τ : Sto) : Prop := Shn τ = Shn ρ ∧ Stk τ = Stk ρ ∧ Sln τ = Sln ρ ∧ SR τ = SR ρ ∧ SL τ = SL ρ ∧ Scs τ = Scs ρ ∧ ∀ x, x ≠ Y + 9 → SI τ x = SI ρ x
theorem FrM_0 : FrM Y ρ ρ := ⟨rfl, rfl, rfl, rfl, rfl, rfl, fun _ _ => rfl⟩
theorem FrM_p {τ : Sto} {j : Nat} {v : Int32} (h : FrM Y ρ τ) : FrM Y ρ (pI τ (Y + 9) j v) :=
  ⟨by rw [Shn_pI, h.1], by rw [Stk_pI, h.2.1], by rw [Sln_pI, h.2.2.1], by rw [SR_pI, h.2.2.2.1], by rw [SL_pI, h.2.2.2.2.1], by rw [Scs_pI, h.2.2.2.2.2.1], fun x h1 => by rw [SI_pI, up2_ne h1, h.2.2.2.2.2.2 x h1]⟩
def msP (Y : Nat) (ρ : Sto) (p : Nat × (Nat → Int32)) (a : Int32) (τ : Sto) : Prop := FrM Y ρ τ ∧ a = nI p.1 ∧ ∀ j, j < p.1 → SI τ (Y + 9) j = p.2 j
theorem nm_idx {key z v : Int32} (h : (key = 0 ∧ ((v = 109 ∧ z = -1) ∨ (v = 110 ∧ z = -2))) ∨ (key = 1 ∧ ((v = 108 ∧ z = -1) ∨ (v = 102 ∧ z = -2))) ∨ (key = 2 ∧ ((v = 104 ∧ z = -1) ∨ (v = 116 ∧ z = -2) ∨ (v = 115 ∧ z = -3) ∨ (v = 119 ∧ z = -4))) ∨ (key = 3 ∧ ((v = 100 ∧ z = -1) ∨ (v = 112 ∧ z = -2)))) : ∃ q, q < 128 ∧ v = nI q := by
  rcases h with ⟨-, ⟨e, -⟩ | ⟨e, -⟩⟩ | ⟨-, ⟨e, -⟩ | ⟨e, -⟩⟩ | ⟨-, ⟨e, -⟩ | ⟨e, -⟩ | ⟨e, -⟩ | ⟨e, -⟩⟩ | ⟨-, ⟨e, -⟩ | ⟨e, -⟩⟩
  · exact ⟨109, by decide, e⟩
  · exact ⟨110, by decide, e⟩
  · exact ⟨108, by decide, e⟩
  · exact ⟨102, by decide, e⟩
  · exact ⟨104, by decide, e⟩
  · exact ⟨116, by decide, e⟩
  · exact ⟨115, by decide, e⟩
  · exact ⟨119, by decide, e⟩
  · exact ⟨100, by decide, e⟩
  · exact ⟨112, by decide, e⟩
theorem ms_step {τ : Sto} (hY : LayY Y ρ) {k n i g' : Nat} {key z : Int32} (hk : k < 12) (e4 : SI ρ (Y + 1) (604 + 200 * k) = nI n) (hn : n < 96) (hi : i < n) (hs : rStep key z (SI ρ (Y + 1) (605 + 200 * k + 2 * i)) (SI ρ (Y + 1) (605 + 200 * k + 2 * i + 1))) (hp : pileOK (SI ρ (Y + 1)) (605 + 200 * k) (i + 1) g') {a : Int32} (h : msP Y ρ (pst (SI ρ (Y + 1)) (fun v => SI ρ (Y + 8) (ix v)) (605 + 200 * k) i) a τ) : ∃ a' τ', msP Y ρ (pst (SI ρ (Y + 1)) (fun v => SI ρ (Y + 8) (ix v)) (605 + 200 * k) (i + 1)) a' τ' ∧ ∀ L, b_Model_worked_4 Y (nI k) L a (nI i) true τ = L a' (nI i + 1) true τ' := by
  obtain ⟨g, hg, hc⟩ := hp
  have eg := pst_h (nm := fun v => SI ρ (Y + 8) (ix v)) hg
  have gle := pile_le hg
  obtain ⟨hf, ha, hcn⟩ := h
  have hYt : LayY Y τ := LayY_c hY hf.2.1 hf.2.2.1 hf.2.2.2.1
  have eS : SI τ (Y + 1) = SI ρ (Y + 1) := hf.2.2.2.2.2.2 (Y + 1) (by omega)
  have eN : SI τ (Y + 8) = SI ρ (Y + 8) := hf.2.2.2.2.2.2 (Y + 8) (by omega)
  have lt : nI i < nI n := nI_lt hi (by omega)
  have ct : ∀ q : Bool, f_Model_textAt Y (nI k) q τ = (nI (600 + 200 * k), q, τ) := fun q => e_textAt k q τ
  have i4 : nI (600 + 200 * k) + 4 = nI (604 + 200 * k) := by rw [nI_p4]; congr 1; omega
  have i5 : nI (600 + 200 * k) + 5 + 2 * nI i = nI (605 + 200 * k + 2 * i) := by
    rw [show nI (600 + 200 * k) + 5 = nI (600 + 200 * k + 5) from nI_add _ 5, show (2 : Int32) * nI i = nI (2 * i) from nI_mul 2 i, nI_add]
    congr 1; omega
  have hrow : 605 + 200 * k + 2 * i + 1 < 3210 := by omega
  have base : ∀ L, b_Model_worked_4 Y (nI k) L a (nI i) true τ = (fun (x4 x5 : Int32) => if x4 = 2 then (if x5 = 33 then L a (nI i + 1) (cA τ (Y + 9) 21 (a - 1) && cA τ (Y + 9) 21 (a - 1)) (pI τ (Y + 9) (ix (a - 1)) (if SI τ (Y + 9) (ix (a - 1)) = 0 then 1 else 0)) else (bd_ (f_Model_joined x5 (SI τ (Y + 9) (ix (a + -1 - 1))) (SI τ (Y + 9) (ix (a + -1))) (cA τ (Y + 9) 21 (a + -1 - 1) && cA τ (Y + 9) 21 (a + -1)) τ) (fun r b s => L (a + -1) (nI i + 1) (b && cA s (Y + 9) 21 (a + -1 - 1)) (pI s (Y + 9) (ix (a + -1 - 1)) r)))) else (if x4 = 0 then L (a + 1) (nI i + 1) (cA τ (Y + 9) 21 a) (pI τ (Y + 9) (ix a) x5) else L (a + 1) (nI i + 1) (cA τ (Y + 8) 21 x5 && cA τ (Y + 9) 21 a) (pI τ (Y + 9) (ix a) (SI τ (Y + 8) (ix x5))))) (SI ρ (Y + 1) (605 + 200 * k + 2 * i)) (SI ρ (Y + 1) (605 + 200 * k + 2 * i + 1)) := by
    intro L
    unfold b_Model_worked_4
    simp only [bd_, lt_, ct, rY_0 hYt, rY_19 hYt, rY_20 hYt, i4, i5, nI_p1, ix_nI (show 604 + 200 * k < 2 ^ 31 by omega), ix_nI (show 605 + 200 * k + 2 * i < 2 ^ 31 by omega), ix_nI (show 605 + 200 * k + 2 * i + 1 < 2 ^ 31 by omega), eS, e4, if_pos lt, cK_of (kY_0 hYt), cY hYt (show 604 + 200 * k < 3210 by omega), cY hYt (show 605 + 200 * k + 2 * i < 3210 by omega), cY hYt hrow, Bool.and_true, Bool.true_and]
    by_cases c2 : SI ρ (Y + 1) (605 + 200 * k + 2 * i) = 2
    · simp only [if_pos c2]
      by_cases c33 : SI ρ (Y + 1) (605 + 200 * k + 2 * i + 1) = 33
      · simp only [if_pos c33]
        by_cases c0 : SI τ (Y + 9) (ix (a - 1)) = 0
        · rw [if_pos c0, if_pos c0]
        · rw [if_neg c0, if_neg c0]
      · simp only [if_neg c33]
    · simp only [if_neg c2]
  generalize hps : pst (SI ρ (Y + 1)) (fun v => SI ρ (Y + 8) (ix v)) (605 + 200 * k) i = p at *
  have hp1 : p.1 < 96 := by omega
  have k9 := kY_9 hYt
  have n9 := nY_9 hYt
  rcases hs with ⟨w0, z0, v0⟩ | ⟨w1, hz⟩ | ⟨w2, z2, v2⟩
  · refine ⟨nI (p.1 + 1), pI τ (Y + 9) p.1 (SI ρ (Y + 1) (605 + 200 * k + 2 * i + 1)), ⟨FrM_p hf, ?_, ?_⟩, fun L => ?_⟩
    · rw [pst_s, if_neg (by rw [w0]; decide), hps]
    · rw [pst_s, if_neg (by rw [w0]; decide), if_pos w0, hps]
      intro j hj
      have hj' : j < p.1 + 1 := hj
      rw [SI_pI]
      show _ = updF p.2 p.1 _ j
      unfold updF
      by_cases e : j = p.1
      · rw [if_pos e, e, up2_s]
      · rw [if_neg e, up2_nj e]; exact hcn j (by omega)
    · rw [base]
      show (if _ then _ else _) = _
      rw [if_neg (by rw [w0]; decide), if_pos w0, ha, cA_of k9 n9 (show p.1 < 100 by omega) (by decide), ix_nI (by omega), nI_1]
  · obtain ⟨q, hq, eq⟩ := nm_idx hz
    refine ⟨nI (p.1 + 1), pI τ (Y + 9) p.1 (SI ρ (Y + 8) (ix (SI ρ (Y + 1) (605 + 200 * k + 2 * i + 1)))), ⟨FrM_p hf, ?_, ?_⟩, fun L => ?_⟩
    · rw [pst_s, if_neg (by rw [w1]; decide), hps]
    · rw [pst_s, if_neg (by rw [w1]; decide), if_neg (by rw [w1]; decide), hps]
      intro j hj
      have hj' : j < p.1 + 1 := hj
      rw [SI_pI]
      show _ = updF p.2 p.1 _ j
      unfold updF
      by_cases e : j = p.1
      · rw [if_pos e, e, up2_s]
      · rw [if_neg e, up2_nj e]; exact hcn j (by omega)
    · rw [base]
      show (if _ then _ else _) = _
      rw [if_neg (by rw [w1]; decide), if_neg (by rw [w1]; decide), ha, cA_of k9 n9 (show p.1 < 100 by omega) (by decide), ix_nI (show p.1 < 2 ^ 31 by omega), nI_1, eN, eq, cA_of (kY_8 hYt) (nY_8 hYt) hq (by decide)]
      rfl
  · rcases hc with ⟨a1, -⟩ | ⟨a1, a2, a3, a4⟩ | ⟨a1, a2, a3, a4⟩
    · exact absurd w2 a1
    · obtain ⟨m, hm⟩ : ∃ m, p.1 = m + 1 := ⟨p.1 - 1, by omega⟩
      have em : a - 1 = nI m := by rw [ha, hm, nI_s1]
      have ec : SI τ (Y + 9) m = p.2 m := hcn m (by omega)
      refine ⟨a, pI τ (Y + 9) m (if p.2 m = 0 then 1 else 0), ⟨FrM_p hf, ?_, ?_⟩, fun L => ?_⟩
      · rw [pst_s, if_pos w2, if_pos a2, hps]; exact ha
      · rw [pst_s, if_pos w2, if_pos a2, hps]
        intro j hj
        have hj' : j < p.1 := hj
        rw [SI_pI]
        show _ = updF p.2 (p.1 - 1) (if p.2 (p.1 - 1) = 0 then 1 else 0) j
        rw [hm, Nat.add_sub_cancel]
        unfold updF
        by_cases e : j = m
        · rw [if_pos e, e, up2_s]
        · rw [if_neg e, up2_nj e]; exact hcn j hj'
      · rw [base]
        show (if _ then _ else _) = _
        rw [if_pos w2, if_pos a2, em, cA_of k9 n9 (show m < 100 by omega) (by decide), ix_nI (show m < 2 ^ 31 by omega), ec]
        rfl
    · obtain ⟨m, hm⟩ : ∃ m, p.1 = m + 1 + 1 := ⟨p.1 - 2, by omega⟩
      have em : a + -1 = nI (m + 1) := by rw [ha, hm, show nI (m + 1 + 1) + -1 = nI (m + 1 + 1) - 1 from (Int32.sub_eq_add_neg _ _).symm, nI_s1]
      have em2 : nI (m + 1) - 1 = nI m := nI_s1 m
      have ec : SI τ (Y + 9) m = p.2 m := hcn m (by omega)
      have ec1 : SI τ (Y + 9) (m + 1) = p.2 (m + 1) := hcn (m + 1) (by omega)
      have h9 : sg9 (SI ρ (Y + 1) (605 + 200 * k + 2 * i + 1)) := v2.resolve_left a2
      refine ⟨nI (m + 1), pI τ (Y + 9) m (jn (SI ρ (Y + 1) (605 + 200 * k + 2 * i + 1)) (p.2 m) (p.2 (m + 1))), ⟨FrM_p hf, ?_, ?_⟩, fun L => ?_⟩
      · rw [pst_s, if_pos w2, if_neg a2, hps]
        show nI (m + 1) = nI (p.1 - 1)
        rw [hm, Nat.add_sub_cancel]
      · rw [pst_s, if_pos w2, if_neg a2, hps]
        intro j hj
        have hj' : j < p.1 - 1 := hj
        rw [SI_pI]
        show _ = updF p.2 (p.1 - 2) (jn (SI ρ (Y + 1) (605 + 200 * k + 2 * i + 1)) (p.2 (p.1 - 2)) (p.2 (p.1 - 1))) j
        rw [hm, show m + 1 + 1 - 2 = m by omega, show m + 1 + 1 - 1 = m + 1 by omega]
        unfold updF
        by_cases e : j = m
        · rw [if_pos e, e, up2_s]
        · rw [if_neg e, up2_nj e]; exact hcn j (by omega)
      · rw [base]
        show (if _ then _ else _) = _
        rw [if_pos w2, if_neg a2, em, em2, cA_of k9 n9 (show m < 100 by omega) (by decide), cA_of k9 n9 (show m + 1 < 100 by omega) (by decide), ix_nI (show m < 2 ^ 31 by omega), ix_nI (show m + 1 < 2 ^ 31 by omega), ec, ec1, e_joinedM _ _ _ h9]
        simp only [bd_, Bool.and_self]
        rw [cA_of k9 n9 (show m < 100 by omega) (by decide)]
        rfl
theorem e_worked (hY : LayY Y ρ) {k n : Nat} {key : Int32} {Z : Nat → Int32} (hk : k < 12) (e4 : SI ρ (Y + 1) (604 + 200 * k) = nI n) (hn : n < 96) (hs : ∀ i, i < n → rStep key (Z i) (SI ρ (Y + 1) (605 + 200 * k + 2 * i)) (SI ρ (Y + 1) (605 + 200 * k + 2 * i + 1))) (hp : pileOK (SI ρ (Y + 1)) (605 + 200 * k) n 1) : ∃ τ, f_Model_worked Y (nI k) true ρ = ((pst (SI ρ (Y + 1)) (fun v => SI ρ (Y + 8) (ix v)) (605 + 200 * k) n).2 0, true, τ) ∧ FrM Y ρ τ := by
  have e1 : (pst (SI ρ (Y + 1)) (fun v => SI ρ (Y + 8) (ix v)) (605 + 200 * k) n).1 = 1 := pst_h hp
  unfold f_Model_worked
  rw [lt_, lt_]
  obtain ⟨a, τ, q, e⟩ := lp_exA (body := b_Model_worked_4 Y (nI k)) (bad := fun (x2 : Int32) (x3 : Int32) (b : Bool) (σ : Sto) => (0, false, σ)) n (fun i a τ => msP Y ρ (pst (SI ρ (Y + 1)) (fun v => SI ρ (Y + 8) (ix v)) (605 + 200 * k) i) a τ) (fun a τ => (SI τ (Y + 9) 0, true, τ)) (by omega) (fun i a τ hi q => by
    obtain ⟨g, hg⟩ := pile_pre hp (i + 1) hi
    exact ms_step hY hk e4 hn hi (hs i hi) hg q) (fun L a τ q => by
    have hf := q.1
    have hYt : LayY Y τ := LayY_c hY hf.2.1 hf.2.2.1 hf.2.2.2.1
    have eS : SI τ (Y + 1) = SI ρ (Y + 1) := hf.2.2.2.2.2.2 (Y + 1) (by omega)
    have ct : ∀ q : Bool, f_Model_textAt Y (nI k) q τ = (nI (600 + 200 * k), q, τ) := fun q => e_textAt k q τ
    have i4 : nI (600 + 200 * k) + 4 = nI (604 + 200 * k) := by rw [nI_p4]; congr 1; omega
    unfold b_Model_worked_4
    simp only [bd_, ct, rY_0 hYt, rY_20 hYt, i4, ix_nI (show 604 + 200 * k < 2 ^ 31 by omega), eS, e4, if_neg (nI_nlt (Nat.le_refl n) (by omega)), cK_of (kY_0 hYt), cY hYt (show 604 + 200 * k < 3210 by omega), Bool.and_true, show ix (0 : Int32) = 0 from rfl, show cA τ (Y + 9) 21 0 = true from cA_of (i := 0) (kY_9 hYt) (nY_9 hYt) (by decide) (by decide)]) 0 ρ ⟨FrM_0, rfl, fun j hj => absurd hj (Nat.not_lt_zero _)⟩
  refine ⟨τ, ?_, q.1⟩
  rw [e, q.2.2 0 (by rw [e1]; decide)]
/-- what the text with a number is worth -/
def ev (S : Nat → Int32) (nm : Int32 → Int32) (k : Nat) : Int32 := (pst S nm (605 + 200 * k) (ix (S (604 + 200 * k)))).2 0
theorem ev_both (hX0 : 1 ≤ X) (hW : LayW w σ) (hwX : w + 52 < X + 173) (hY : LayY Y ρ) (hT : rT X σ w (SI ρ (Y + 1))) {nt k : Nat} (hnt : nt ≤ 12) (t3 : SI ρ (Y + 1) 4 = nI nt) (hk : k < nt) (hnm : nmOK (SI ρ (Y + 1) (600 + 200 * k)) (SI σ (w + 13)) (fun v => SI ρ (Y + 8) (ix v))) : (∃ σ', f_Laws_worthOf (w + 11) (SR σ (SR σ (w + 12) k) 4) true σ = (ev (SI ρ (Y + 1)) (fun v => SI ρ (Y + 8) (ix v)) k, true, σ') ∧ FrW w σ σ') ∧ ∃ ρ', f_Model_worked Y (nI k) true ρ = (ev (SI ρ (Y + 1)) (fun v => SI ρ (Y + 8) (ix v)) k, true, ρ') ∧ FrM Y ρ ρ' := by
  obtain ⟨nt', g1, g2, g3, g4, g5⟩ := hT
  have e : nt' = nt := (nI_eq (by omega) (by omega)).mp (g3.symm.trans t3)
  subst e
  obtain ⟨x1, x2, x3, x4, x5⟩ := g5 k hk
  obtain ⟨b1, b2, b3, b4, b5, b6, b7, b8, n, c1, c2, c3, c4, c5, c6⟩ := x5
  have c2' : SI ρ (Y + 1) (604 + 200 * k) = nI n := by rw [show 604 + 200 * k = 600 + 200 * k + 4 by omega]; exact c2
  have c6' : pileOK (SI ρ (Y + 1)) (605 + 200 * k) n 1 := by rw [show 605 + 200 * k = 600 + 200 * k + 5 by omega]; exact c6
  have c5' : ∀ i, i < n → rStep (SI ρ (Y + 1) (600 + 200 * k)) (SI σ (SR σ (SR σ (w + 12) k) 4) i) (SI ρ (Y + 1) (605 + 200 * k + 2 * i)) (SI ρ (Y + 1) (605 + 200 * k + 2 * i + 1)) := fun i hi => by
    have := c5 i hi
    rw [show 600 + 200 * k + 5 + 2 * i = 605 + 200 * k + 2 * i by omega, show 600 + 200 * k + 6 + 2 * i = 605 + 200 * k + 2 * i + 1 by omega] at this
    exact this
  have en : ix (SI ρ (Y + 1) (604 + 200 * k)) = n := by rw [c2', ix_nI (by omega)]
  unfold ev
  rw [en]
  exact ⟨e_worthC hW ⟨by omega, by omega⟩ c3 c4 c1 c5' hnm c6', e_worked hY (by omega) c2' c1 c5' c6'⟩
/-- the class asks: the counting text, or otherwise -/
theorem e_answer (hX0 : 1 ≤ X) (hW : LayW w σ) (hwX : w + 52 < X + 173) (hY : LayY Y ρ) (hT : rT X σ w (SI ρ (Y + 1))) {nt : Nat} (hnt : nt ≤ 12) (t3 : SI ρ (Y + 1) 4 = nI nt) (land key o : Int32) (hnm : nmOK key (SI σ (w + 13)) (fun v => SI ρ (Y + 8) (ix v))) : (cntT (SI ρ (Y + 1)) land key nt = -1 ∧ f_Laws_answerOf (w + 11) land key (SI ρ (Y + 1) 0) o true σ = (o, true, σ)) ∨ ∃ k, k < nt ∧ cntT (SI ρ (Y + 1)) land key nt = nI k ∧ (∃ σ', f_Laws_answerOf (w + 11) land key (SI ρ (Y + 1) 0) o true σ = (ev (SI ρ (Y + 1)) (fun v => SI ρ (Y + 8) (ix v)) k, true, σ') ∧ FrW w σ σ') ∧ ∃ ρ', f_Model_worked Y (nI k) true ρ = (ev (SI ρ (Y + 1)) (fun v => SI ρ (Y + 8) (ix v)) k, true, ρ') ∧ FrM Y ρ ρ' := by
  obtain ⟨nt', g1, g2, g3, g4, g5⟩ := id hT
  have e : nt' = nt := (nI_eq (by omega) (by omega)).mp (g3.symm.trans t3)
  subst e
  obtain ⟨f1, f2⟩ := rT_facts hX0 g5
  obtain ⟨-, hcp⟩ := e_countsM hY hnt t3 land key
  have eC : f_Laws_countingText (w + 11) land key (SI ρ (Y + 1) 0) true σ = (cntT (SI ρ (Y + 1)) land key nt', true, σ) := by
    rw [e_countingC hW hnt g2 f1, ct_same hnt f2]
  rcases hcp with e | ⟨k, hk, e, ek, el⟩
  · refine Or.inl ⟨e, ?_⟩
    have hno : ¬ ((0 : Int32) ≤ -1 ∧ -1 ≤ nI nt' - 1) := fun z => absurd z.1 (by decide)
    unfold f_Laws_answerOf f_Laws_textOf
    simp only [bd_, lt_, cK_of (kW_11 hW), Bool.and_true, eC, e, e_within, g2, inR_e0 hno, if_true]
  · refine Or.inr ⟨k, hk, e, ?_⟩
    obtain ⟨⟨σ', e1, h1⟩, e2⟩ := ev_both hX0 hW hwX hY hT hnt t3 hk (by rw [ek]; exact hnm)
    refine ⟨⟨σ', ?_, h1⟩, e2⟩
    have hin := idx_in (show nt' < 2 ^ 31 by omega) hk
    obtain ⟨h0, h9⟩ := f1 k hk
    unfold f_Laws_answerOf f_Laws_textOf
    simp only [bd_, lt_, cK_of (kW_11 hW), Bool.and_true, eC, e, e_within, g2, inR_e1 hin, i10, if_false, rW_11_0 hW, ix_nI (show k < 2 ^ 31 by omega), cA_of (kW_12 hW) (nW_12 hW) (show k < 12 by omega) (by decide), if_neg h0, cK_of h9, e1]
end WK2
