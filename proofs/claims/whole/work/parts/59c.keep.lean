/-! images kept and gone back to -/
section KP
variable {X Y w d s : Nat} {σ σ' ρ : Sto} {S S' : Nat → Int32}
theorem LayW_c2 (h : LayW w σ) (h1 : Stk σ' = Stk σ) (h2 : Sln σ' = Sln σ) (h3 : ∀ x, w ≤ x → x ≤ w + 52 → x ≠ w + 12 → SR σ' x = SR σ x) : LayW w σ' := by
  unfold LayW LayT
  rw [h1, h2]
  exact ⟨h.1, fun r hr => by rw [h3 (w + r.1) (by omega) (by have := wR_52 r hr; omega) (by have := wR_12 r hr; omega)]; exact h.2 r hr⟩
theorem xR_big : ∀ r ∈ xR, r.1 = 0 ∨ 160 ≤ r.1 := by decide
theorem LayX_c2 (h : LayX X σ) (h1 : Stk σ' = Stk σ) (h2 : Sln σ' = Sln σ) (h3 : ∀ x, x ≠ X + 1 + 12 → x ≠ X + 54 + 12 → x ≠ X + 107 + 12 → SR σ' x = SR σ x) : LayX X σ' := by
  refine ⟨?_, LayW_c2 h.2.1 h1 h2 (fun x _ _ _ => h3 x (by omega) (by omega) (by omega)), LayW_c2 h.2.2.1 h1 h2 (fun x _ _ _ => h3 x (by omega) (by omega) (by omega)), LayW_c2 h.2.2.2 h1 h2 (fun x _ _ _ => h3 x (by omega) (by omega) (by omega))⟩
  unfold LayT
  rw [h1, h2]
  exact ⟨h.1.1, fun r hr => by rw [h3 (X + r.1) (by have := xR_big r hr; omega) (by have := xR_big r hr; omega) (by have := xR_big r hr; omega)]; exact h.1.2 r hr⟩
theorem rT_c2 (h : rT X σ w S) (h0 : Shn σ' = Shn σ) (h1 : Stk σ' = Stk σ) (h2 : Sln σ' = Sln σ) (h3 : SR σ' (w + 12) = SR σ (w + 12)) (h3' : ∀ x, X + 173 ≤ x → SR σ' x = SR σ x) (h4 : SI σ' (w + 11) 1 = SI σ (w + 11) 1) (h5 : ∀ a, X + 173 ≤ a → SI σ' a = SI σ a) (hS : ∀ j, j = 4 ∨ (600 ≤ j ∧ j < 3000) → S' j = S j) : rT X σ' w S' := by
  obtain ⟨nt, g1, g2, g3, g4, g5⟩ := h
  refine ⟨nt, g1, by rw [h4]; exact g2, by rw [hS 4 (by omega)]; exact g3, fun k hk => ?_, fun k hk => ?_⟩
  · rw [h0, h1, h3]
    exact g4 k hk
  · obtain ⟨b1, b2, b3, b4, b5⟩ := g5 k hk
    rw [h0, h3, h3' _ b1]
    exact ⟨b1, b2, b3, b4, rT1_c b5 (by rw [h1]) (h5 _ (by omega)) (h3' _ b1) (by rw [h1]) (by rw [h2]) (h5 _ (by omega)) (fun j j1 j2 => hS j (by omega))⟩
theorem RWd_c2 (h : RWd X σ w S) (h0 : Shn σ' = Shn σ) (h1 : Stk σ' = Stk σ) (h2 : Sln σ' = Sln σ) (h3 : ∀ x, x = w + 12 ∨ X + 173 ≤ x → SR σ' x = SR σ x) (h4 : ∀ a, (w ≤ a ∧ a ≤ w + 52) ∨ X + 173 ≤ a → SI σ' a = SI σ a) (hS : ∀ j, j < 3010 → S' j = S j) : RWd X σ' w S' := by
  obtain ⟨g1, g2, g3, g4, g5, g6, g7, g8⟩ := h
  obtain ⟨np, nf, hp, -, -, hp2, -⟩ := id g2
  exact ⟨rDay_c g1 (h4 _ (by omega)) (hS 0 (by omega)), rG_c g2 (fun a _ _ => h4 a (by omega)) (fun j hj => hS j (by omega)), rQ_c g3 (fun a _ _ => h4 a (by omega)) (fun j hj => hS j (by omega)), rS_c g4 (fun a _ _ => h4 a (by omega)) (fun j hj => hS j (by omega)) (by rw [hS 2 (by omega)]; exact Int32.le_refl _), rA_c g5 (fun a _ _ => h4 a (by omega)) (fun j hj => hS j (by omega)), rB_c g6 hp hp2 (fun a _ _ => h4 a (by omega)) (fun j hj => hS j (by omega)) (fun k hk => hS _ (by omega)) (by rw [hS 2 (by omega)]; exact Int32.le_refl _) (by rw [hS 5 (by omega)]; exact Int32.le_refl _), rW_c g7 (fun a _ => h4 a (by omega)) (fun j hj => hS j (by omega)), rT_c2 g8 h0 h1 h2 (h3 _ (by omega)) (fun x hx => h3 x (by omega)) (by rw [h4 (w + 11) (by omega)]) (fun a ha => h4 a (by omega)) (fun j hj => hS j (by omega))⟩
/-- the copy belongs to what the first belonged to -/
theorem RWd_copy (h : RWd X σ s S) (hd : s + 52 < d ∨ d + 52 < s) (hdX : d + 52 < X + 173) {nw : Nat} (hn : nw ≤ 10) (hw : SI σ s 7 = nI nw) (m : Mv d s σ σ' (allS nw) (fun j => j < 12)) : RWd X σ' d S := by
  obtain ⟨m0, m1, m2, m3, m4, m5, m6, m7, m8⟩ := m
  obtain ⟨g1, g2, g3, g4, g5, g6, g7, g8⟩ := h
  have c0 : ∀ j, j = 7 ∨ j = 8 → SI σ' d j = SI σ s j := fun j hj => by
    have := m6 0 j (by decide) (Or.inr (Or.inr (Or.inr (Or.inr (Or.inr (Or.inr (Or.inl ⟨rfl, hj⟩)))))))
    exact this
  have cg : ∀ a j, gS a j → a ≤ 52 → SI σ' (d + a) j = SI σ (s + a) j := fun a j q ha => m6 a j ha (Or.inl q)
  have cl : SI σ' (d + 11) 1 = SI σ (s + 11) 1 := m6 11 1 (by decide) (Or.inr (Or.inl ⟨rfl, rfl⟩))
  have cp : ∀ a j, poS a j → a ≤ 52 → SI σ' (d + a) j = SI σ (s + a) j := fun a j q ha => m6 a j ha (Or.inr (Or.inr (Or.inl q)))
  have ce : ∀ a j, peS a j → a ≤ 52 → SI σ' (d + a) j = SI σ (s + a) j := fun a j q ha => m6 a j ha (Or.inr (Or.inr (Or.inr (Or.inl q))))
  have cs : ∀ a j, suS a j → a ≤ 52 → SI σ' (d + a) j = SI σ (s + a) j := fun a j q ha => m6 a j ha (Or.inr (Or.inr (Or.inr (Or.inr (Or.inl q)))))
  have ca : ∀ a j, alS a j → a ≤ 52 → SI σ' (d + a) j = SI σ (s + a) j := fun a j q ha => m6 a j ha (Or.inr (Or.inr (Or.inr (Or.inr (Or.inr (Or.inl q))))))
  have cw : ∀ k j, k < nw → j < 18 → SI σ' (d + 43 + k) j = SI σ (s + 43 + k) j := fun k j hk hj => by
    rw [Nat.add_assoc, Nat.add_assoc]
    exact m6 (43 + k) j (by omega) (Or.inr (Or.inr (Or.inr (Or.inr (Or.inr (Or.inr (Or.inr (by omega))))))))
  refine ⟨?_, ?_, ?_, ?_, ?_, ?_, ?_, ?_⟩
  · exact ⟨by rw [c0 8 (by omega)]; exact g1.1, g1.2⟩
  · obtain ⟨np, nf, p1, p2, p3, p4, p5, p6, p7, p8, p9, p10, p11, p12⟩ := g2
    refine ⟨np, nf, p1, p2, by rw [cg 1 10 (by unfold gS; omega) (by decide)]; exact p3, p4, by rw [cg 1 11 (by unfold gS; omega) (by decide)]; exact p5, p6, by rw [cg 1 9 (by unfold gS; omega) (by decide)]; exact p7, p8, fun k hk => ?_, p10, fun k hk => ?_, fun k k1 k2 => ?_⟩
    · rw [cg 2 k (by unfold gS; omega) (by decide), cg 3 k (by unfold gS; omega) (by decide), cg 4 k (by unfold gS; omega) (by decide), cg 5 k (by unfold gS; omega) (by decide)]
      exact p9 k hk
    · rw [cg 7 k (by unfold gS; omega) (by decide), cg 8 k (by unfold gS; omega) (by decide), cg 9 k (by unfold gS; omega) (by decide), cg 10 k (by unfold gS; omega) (by decide)]
      exact p11 k hk
    · rw [cg 6 k (by unfold gS; omega) (by decide)]
      exact p12 k k1 k2
  · obtain ⟨nq, q1, q2, q3, q4, q5⟩ := g3
    refine ⟨nq, q1, by rw [ce 21 3 (by unfold peS; omega) (by decide)]; exact q2, q3, fun k hk => ?_, fun k hk => ?_⟩
    · rw [ce 23 k (by unfold peS; omega) (by decide), ce 24 k (by unfold peS; omega) (by decide)]
      exact q4 k hk
    · rw [ce 22 k (by unfold peS; omega) (by decide)]
      exact q5 k hk
  · obtain ⟨s1, s2, nr, s3, s4, s5, s6⟩ := g4
    refine ⟨by rw [cs 28 0 (by unfold suS; omega) (by decide)]; exact s1, s2, nr, s3, by rw [cs 28 4 (by unfold suS; omega) (by decide)]; exact s4, s5, fun k hk => ?_⟩
    rw [cs 29 k (by unfold suS; omega) (by decide), cs 30 k (by unfold suS; omega) (by decide), cs 31 k (by unfold suS; omega) (by decide)]
    exact s6 k hk
  · obtain ⟨na, a1, a2, a3, a4⟩ := g5
    refine ⟨na, a1, by rw [ca 35 2 (by unfold alS; omega) (by decide)]; exact a2, a3, fun k hk => ?_⟩
    rw [ca 36 k (by unfold alS; omega) (by decide), ca 37 k (by unfold alS; omega) (by decide)]
    exact a4 k hk
  · obtain ⟨nb, b1, b2, b3, b4⟩ := g6
    refine ⟨nb, b1, by rw [cp 15 5 (by unfold poS; omega) (by decide)]; exact b2, b3, fun k hk => ?_⟩
    rw [cp 16 k (by unfold poS; omega) (by decide), cp 17 k (by unfold poS; omega) (by decide), cp 18 k (by unfold poS; omega) (by decide), cp 19 k (by unfold poS; omega) (by decide), cp 20 k (by unfold poS; omega) (by decide)]
    exact b4 k hk
  · obtain ⟨nw', w1, w2, w3, w4⟩ := g7
    have e : nw' = nw := (nI_eq (by omega) (by omega)).mp (w2.symm.trans hw)
    subst e
    refine ⟨nw', w1, by rw [c0 7 (by omega)]; exact w2, w3, fun k hk => ?_⟩
    have hr := w4 k hk
    unfold rW1 at hr ⊢
    rw [cw k 0 hk (by decide), cw k 1 hk (by decide), cw k 2 hk (by decide), cw k 3 hk (by decide), cw k 4 hk (by decide), cw k 5 hk (by decide), cw k 6 hk (by decide), cw k 7 hk (by decide), cw k 8 hk (by decide), cw k 9 hk (by decide), cw k 10 hk (by decide), cw k 11 hk (by decide), cw k 12 hk (by decide), cw k 13 hk (by decide), cw k 14 hk (by decide), cw k 15 hk (by decide), cw k 16 hk (by decide), cw k 17 hk (by decide)]
    exact hr
  · obtain ⟨nt, t1, t2, t3, t4, t5⟩ := g8
    refine ⟨nt, t1, by rw [cl]; exact t2, t3, fun k hk => ?_, fun k hk => ?_⟩
    · rw [m8 k hk, m0, m1]
      exact t4 k hk
    · obtain ⟨x1, x2, x3, x4, x5⟩ := t5 k hk
      rw [m8 k (by omega), m0, m7 (SR σ (s + 12) k) (by omega)]
      exact ⟨x1, x2, x3, x4, rT1_c x5 (by rw [m1]) (m5 _ (by omega)) (m7 _ (by omega)) (by rw [m1]) (by rw [m2]) (m5 _ (by omega)) (fun _ _ _ => rfl)⟩
theorem e_setAside {a b : Nat} (hab : a ≠ b) (ka : Stk ρ a = 21) (na : Sln ρ a = 3210) (kb : Stk ρ b = 21) (nb : Sln ρ b = 3210) : f_Model_setAside Y a b true ρ = ((), true, rI ρ b (wf (SI ρ a) (SI ρ b) 0 3210)) := by
  unfold f_Model_setAside
  rw [lt_]
  obtain ⟨τ, p, e⟩ := lp_ex (body := b_Model_setAside_2 a b) (bad := fun (x3 : Int32) (b : Bool) (σ : Sto) => ((), false, σ)) 3210 (fun i τ => τ = rI ρ b (wf (SI ρ a) (SI ρ b) 0 i)) (fun τ => ((), true, τ)) (by decide) (fun i τ hi p => by
    subst p
    refine ⟨_, rfl, fun L => ?_⟩
    unfold b_Model_setAside_2
    rw [if_pos (show nI i < (3210 : Int32) from nI_lt (b := 3210) hi (by decide))]
    simp only [lt_, cA_rI, cA_of ka na hi (by decide), cA_of kb nb hi (by decide), ix_nI (show i < 2 ^ 31 by omega), Bool.and_true, pI_rI, SI_rI, up1_ne' hab]
    rw [← wf_s, Nat.zero_add]) (fun L τ p => by
    unfold b_Model_setAside_2
    rw [if_neg (show ¬ nI 3210 < (3210 : Int32) by decide)]) ρ (by rw [wf_0, rI_id])
  rw [e, p]
theorem wf_in {F g : Nat → Int32} {n j : Nat} (h : j < n) : wf F g 0 n j = F j := by
  unfold wf
  rw [if_pos (by omega)]
theorem op_42 : Op_42 X Y (REL X Y) := by
  intro σ ρ h
  obtain ⟨g1, g2, hX, hY', g5, g6, g7, g8, g9, g10⟩ := id h
  have hY : LayY Y (stn ρ (Shn σ)) := hY'
  obtain ⟨nw, w1, w2, w3, w4⟩ := g6.2.2.2.2.2.2.1
  obtain ⟨nt, t1, t2, t3, t4, t5⟩ := g6.2.2.2.2.2.2.2
  obtain ⟨σ1, e1, m⟩ := mv_World (d := X + 54) (s := X + 1) (σ := σ) (by omega) hX.2.2.1 hX.2.1 (fun k hk => (t4 k hk).imp id (fun z => z.2.2)) w1 w2
  have hcp := RWd_copy g6 (by omega) (by omega) w1 w2 m
  obtain ⟨m0, m1, m2, m3, m4, m5, m6, m7, m8⟩ := m
  have hX1 : LayX X σ1 := LayX_c2 hX m1 m2 (fun x _ h2 _ => m7 x h2)
  generalize hρ' : rI (pI (stn ρ (Shn σ)) Y 3 1) (Y + 2) (wf (SI ρ (Y + 1)) (SI ρ (Y + 2)) 0 3210) = ρ'
  have q1 : SI ρ' (Y + 1) = SI ρ (Y + 1) := by rw [← hρ', SI_rI, up1_ne' (by omega), SI_pI, up2_ne (by omega)]; rfl
  have q2 : SI ρ' (Y + 2) = wf (SI ρ (Y + 1)) (SI ρ (Y + 2)) 0 3210 := by rw [← hρ', SI_rI, up1_s]
  have qx : ∀ x, x ≠ Y → x ≠ Y + 2 → SI ρ' x = SI ρ x := fun x h1 h2 => by rw [← hρ', SI_rI, up1_ne' h2, SI_pI, up2_ne h1]; rfl
  have qY : ∀ j, j ≠ 3 → SI ρ' Y j = SI ρ Y j := fun j hj => by rw [← hρ', SI_rI, up1_ne' (by omega), SI_pI, up2_nj hj]; rfl
  have q3 : SI ρ' Y 3 = 1 := by rw [← hρ', SI_rI, up1_ne' (by omega), SI_pI, up2_s]
  have fr : Shn ρ' = Shn σ ∧ Stk ρ' = Stk ρ ∧ Sln ρ' = Sln ρ ∧ SR ρ' = SR ρ ∧ SL ρ' = SL ρ := by
    rw [← hρ']
    exact ⟨by rw [Shn_rI, Shn_pI, Shn_stn], by rw [Stk_rI, Stk_pI, Stk_stn], by rw [Sln_rI, Sln_pI, Sln_stn], by rw [SR_rI, SR_pI, SR_stn], by rw [SL_rI, SL_pI, SL_stn]⟩
  obtain ⟨f0, f1, f2, f3, f4⟩ := fr
  have c8 : SI σ1 (X + 1) 8 = SI ρ (Y + 1) 0 := by rw [m5 (X + 1) (by omega)]; exact g6.1.1
  refine OpOK_j (SI ρ (Y + 1) 0) (Shn σ) (pI σ1 X 7 1) ρ' ?_ (by rw [Shn_pI, m0]) ?_ f0 ?_
  · have nn : X + 1 ≠ X := by omega
    unfold f_Trail_keep
    simp only [bd_, lt_, rX_0_0 hX, rX_0_1 hX, cK_of (kX_0 hX), cK_of (kW_0 hX.2.2.1), Bool.and_true, e1, SR_pI, rX_0_0 hX1, cK_pI, cK_of (kX_0 hX1), cK_of (kW_0 hX1.2.1), SI_pI, up2_ne' nn, c8]
  · show f_Model_keep Y true (stn ρ (Shn σ)) = _
    have es : f_Model_setAside Y (Y + 1) (Y + 2) true (pI (stn ρ (Shn σ)) Y 3 1) = ((), true, ρ') := by
      rw [e_setAside (by omega) (by rw [Stk_pI]; exact kY_1 hY) (by rw [Sln_pI]; exact nY_1 hY) (by rw [Stk_pI]; exact kY_2 hY) (by rw [Sln_pI]; exact nY_2 hY), ← hρ', SI_pI, up2_ne (by omega), up2_ne (by omega)]
      rfl
    have hY1 : LayY Y ρ' := LayY_c hY' f1 f2 f3
    unfold f_Model_keep
    simp only [bd_, lt_, SR_pI, rY_0 hY, rY_1 hY, cK_pI, cK_of (kY_0 hY), Bool.and_true, es, rY_0 hY1, cK_of (kY_0 hY1), cYk hY1 0 (v := 0) rfl (by decide), show ix (0 : Int32) = 0 from rfl, q1]
  · have sx : ∀ x, x ≠ X → x < X + 54 ∨ X + 54 + 52 < x → SI (pI σ1 X 7 1) x = SI σ x := fun x h1 h2 => by rw [SI_pI, up2_ne h1, m5 x h2]
    have sX : ∀ j, j ≠ 7 → SI (pI σ1 X 7 1) X j = SI σ X j := fun j hj => by rw [SI_pI, up2_nj hj, m5 X (by omega)]
    refine ⟨g1, by rw [Shn_pI, m0]; exact g2, LayX_c hX1 Stk_pI Sln_pI SR_pI, LayY_c hY' f1 f2 f3, by rw [Scs_pI, m4]; exact g5, ?_, Or.inr ⟨by rw [SI_pI, up2_s], q3, ?_⟩, rTape_c g8 (sx _ (by omega) (by omega)) (sx _ (by omega) (by omega)) (qY 8 (by decide)) (qx _ (by omega) (by omega)), rSh_c g9 (fun b _ _ => ⟨sx b (by omega) (by omega), by rw [SL_pI, m3]⟩) (qx _ (by omega) (by omega)) (qx _ (by omega) (by omega)) (by rw [f4]), rTell_c g10 (sX 6 (by decide)) (sx _ (by omega) (by omega)) (qY 33 (by decide)) (qx _ (by omega) (by omega))⟩
    · exact RWd_c2 g6 (by rw [Shn_pI, m0]) (by rw [Stk_pI, m1]) (by rw [Sln_pI, m2]) (fun x hx => by rw [SR_pI, m7 x (by omega)]) (fun a ha => sx a (by omega) (by omega)) (fun j _ => by rw [q1])
    · exact RWd_c2 hcp (by rw [Shn_pI]) (by rw [Stk_pI]) (by rw [Sln_pI]) (fun x hx => by rw [SR_pI]) (fun a ha => by rw [SI_pI, up2_ne (by omega)]) (fun j hj => by rw [q2, wf_in (by omega)])
theorem op_43 : Op_43 X Y (REL X Y) := by
  intro σ ρ h
  obtain ⟨g1, g2, hX, hY', g5, g6, g7, g8, g9, g10⟩ := id h
  have hY : LayY Y (stn ρ (Shn σ)) := hY'
  rcases g7 with ⟨k1, k2⟩ | ⟨k1, k2, gI⟩
  · refine OpOK_b (-1000000002) h ?_ ?_
    · unfold f_Trail_back
      simp only [k1, if_true, cK_of (kX_0 hX), Bool.and_true]
    · show f_Model_back Y true (stn ρ (Shn σ)) = _
      have k2' : SI (stn ρ (Shn σ)) Y 3 = 0 := k2
      rw [f_Model_back, k2', if_pos rfl, cK_of (kY_0 hY), Bool.and_true]
  · obtain ⟨nw, w1, w2, w3, w4⟩ := gI.2.2.2.2.2.2.1
    obtain ⟨nt, t1, t2, t3, t4, t5⟩ := gI.2.2.2.2.2.2.2
    obtain ⟨σ1, e1, m⟩ := mv_World (d := X + 1) (s := X + 54) (σ := σ) (by omega) hX.2.1 hX.2.2.1 (fun k hk => (t4 k hk).imp id (fun z => z.2.2)) w1 w2
    have hcp := RWd_copy gI (by omega) (by omega) w1 w2 m
    obtain ⟨m0, m1, m2, m3, m4, m5, m6, m7, m8⟩ := m
    have hX1 : LayX X σ1 := LayX_c2 hX m1 m2 (fun x h2 _ _ => m7 x h2)
    generalize hρ' : rI (stn ρ (Shn σ)) (Y + 1) (wf (SI ρ (Y + 2)) (SI ρ (Y + 1)) 0 3210) = ρ'
    have q1 : SI ρ' (Y + 1) = wf (SI ρ (Y + 2)) (SI ρ (Y + 1)) 0 3210 := by rw [← hρ', SI_rI, up1_s]
    have qx : ∀ x, x ≠ Y + 1 → SI ρ' x = SI ρ x := fun x h2 => by rw [← hρ', SI_rI, up1_ne' h2]; rfl
    have fr : Shn ρ' = Shn σ ∧ Stk ρ' = Stk ρ ∧ Sln ρ' = Sln ρ ∧ SR ρ' = SR ρ ∧ SL ρ' = SL ρ := by
      rw [← hρ']
      exact ⟨by rw [Shn_rI, Shn_stn], by rw [Stk_rI, Stk_stn], by rw [Sln_rI, Sln_stn], by rw [SR_rI, SR_stn], by rw [SL_rI, SL_stn]⟩
    obtain ⟨f0, f1, f2, f3, f4⟩ := fr
    have q10 : SI ρ' (Y + 1) 0 = SI ρ (Y + 2) 0 := by rw [q1, wf_in (by decide)]
    have c8 : SI σ1 (X + 1) 8 = SI ρ (Y + 2) 0 := hcp.1.1
    refine OpOK_j (SI ρ (Y + 2) 0) (Shn σ) σ1 ρ' ?_ m0 ?_ f0 ?_
    · unfold f_Trail_back
      simp only [k1, i10, if_false, bd_, rX_0_0 hX, rX_0_1 hX, cK_of (kX_0 hX), cK_of (kW_0 hX.2.1), Bool.and_true, e1, rX_0_0 hX1, cK_of (kX_0 hX1), cK_of (kW_0 hX1.2.1), c8]
    · show f_Model_back Y true (stn ρ (Shn σ)) = _
      have k2' : SI (stn ρ (Shn σ)) Y 3 = 1 := k2
      have es : f_Model_setAside Y (Y + 2) (Y + 1) true (stn ρ (Shn σ)) = ((), true, ρ') := by
        rw [e_setAside (by omega) (kY_2 hY) (nY_2 hY) (kY_1 hY) (nY_1 hY), ← hρ']
        rfl
      have hY1 : LayY Y ρ' := LayY_c hY' f1 f2 f3
      unfold f_Model_back
      simp only [k2', i10, if_false, bd_, rY_0 hY, rY_1 hY, cK_of (kY_0 hY), Bool.and_true, es, rY_0 hY1, cK_of (kY_0 hY1), cYk hY1 0 (v := 0) rfl (by decide), show ix (0 : Int32) = 0 from rfl, q10]
    · have sx : ∀ x, x < X + 1 ∨ X + 1 + 52 < x → SI σ1 x = SI σ x := m5
      refine ⟨g1, by rw [m0]; exact g2, hX1, LayY_c hY' f1 f2 f3, by rw [m4]; exact g5, ?_, Or.inr ⟨by rw [sx X (by omega)]; exact k1, by rw [qx Y (by omega)]; exact k2, ?_⟩, rTape_c g8 (sx _ (by omega)) (sx _ (by omega)) (by rw [qx Y (by omega)]) (qx _ (by omega)), rSh_c g9 (fun b _ _ => ⟨sx b (by omega), by rw [m3]⟩) (qx _ (by omega)) (qx _ (by omega)) (by rw [f4]), rTell_c g10 (by rw [sx X (by omega)]) (sx _ (by omega)) (by rw [qx Y (by omega)]) (qx _ (by omega))⟩
      · exact RWd_c2 hcp rfl rfl rfl (fun _ _ => rfl) (fun _ _ => rfl) (fun j hj => by rw [q1, wf_in (by omega)])
      · exact RWd_c2 gI m0 m1 m2 (fun x hx => m7 x (by omega)) (fun a ha => sx a (by omega)) (fun j _ => by rw [qx (Y + 2) (by omega)])
end KP
