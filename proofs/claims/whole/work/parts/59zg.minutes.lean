/-! minutes -/
section MI
variable {X Y w : Nat} {σ ρ : Sto}
def far0 (I s : Nat) : Nat → Nat := fun v => if v = s then 0 else I
theorem C_least (hW : LayW w σ) {S : Nat → Int32} {nr s t : Nat} (hn : nr ≤ 12) (r2 : SI σ (w + 28) 4 = nI nr) (hr : ∀ k, k < nr → SI σ (w + 29) k = S (480 + 3 * k) ∧ SI σ (w + 30) k = S (481 + 3 * k) ∧ SI σ (w + 31) k = S (482 + 3 * k)) (hS : rdOK S nr) (hs : s < 16) (ht : t < 16) : ∃ τ, Fr1 (w + 32) σ τ ∧ f_Supply_leastMinutes (w + 28) (nI s) (nI t) true σ = (if rnds (rdA S) (rdB S) (rdW S) nr nr (far0 1000000 s) t < 1000000 then nI (rnds (rdA S) (rdB S) (rdW S) nr nr (far0 1000000 s) t) else -1000000005, true, τ) := by
  have hd : ∀ k v, rnds (rdA S) (rdB S) (rdW S) nr k (far0 1000000 s) v ≤ 1000000 := fun k v => Nat.le_trans (rnds_le (k := k) (j := 0) (by omega) v) (by show (if v = s then 0 else 1000000) ≤ 1000000; by_cases e : v = s <;> simp [e])
  generalize hσ1 : rI σ (w + 32) (wf (fun _ => (1000000 : Int32)) (SI σ (w + 32)) 0 16) = σ1
  have f1 : Fr1 (w + 32) σ σ1 := by
    rw [← hσ1]
    exact ⟨Shn_rI, Stk_rI, Sln_rI, SR_rI, SL_rI, Scs_rI, fun x hx => by rw [SI_rI, up1_ne' hx]⟩
  have e1 : ∀ v, v < 16 → SI σ1 (w + 32) v = 1000000 := fun v hv => by rw [← hσ1, SI_rI, up1_s, wf_in (by omega)]
  have ef : f_Arrays_fill_rIIV (w + 32) 1000000 true σ = ((), true, σ1) := by rw [← hσ1]; exact e_fillI (kW_32 hW) (nW_32 hW) (by decide) 1000000
  clear hσ1
  have hL1 : LayW w σ1 := LayT_c hW f1.2.1 f1.2.2.1 f1.2.2.2.1
  have h0 : rowN (pI σ1 (w + 32) s 0) (w + 32) (far0 1000000 s) := fun v hv => by
    unfold far0
    rw [SI_pI]
    by_cases e : v = s
    · rw [if_pos e, e, up2_s]; rfl
    · rw [if_neg e, up2_nj e, e1 v hv]; rfl
  obtain ⟨τ, ⟨p1, p2⟩, e⟩ := lp_ex (body := b_Supply_leastMinutes_18 (w + 28) (nI t)) (bad := fun (x3 : Int32) (b : Bool) (σ : Sto) => (0, false, σ)) nr (fun k τ => Fr1 (w + 32) σ τ ∧ rowN τ (w + 32) (rnds (rdA S) (rdB S) (rdW S) nr k (far0 1000000 s))) (fun τ => (if rnds (rdA S) (rdB S) (rdW S) nr nr (far0 1000000 s) t < 1000000 then nI (rnds (rdA S) (rdB S) (rdW S) nr nr (far0 1000000 s) t) else -1000000005, true, τ)) (by omega)
    (fun i τ hi ⟨q1, q2⟩ => by
      have hL : LayW w τ := LayT_c hW q1.2.1 q1.2.2.1 q1.2.2.2.1
      have t28 : SI τ (w + 28) 4 = nI nr := by rw [q1.2.2.2.2.2.2 _ (by omega), r2]
      obtain ⟨τ', k1, k2⟩ := C_rnd hW hn r2 hr hS (hd i) q1 q2 (nI t)
      refine ⟨τ', k1, fun L => ?_⟩
      unfold b_Supply_leastMinutes_18
      rw [t28, if_pos (nI_lt hi (by omega)), lt_, cK_of (kW_28 hL), Bool.and_true]
      exact k2 (nI i, L))
    (fun L τ ⟨q1, q2⟩ => by
      have hL : LayW w τ := LayT_c hW q1.2.1 q1.2.2.1 q1.2.2.2.1
      have t28 : SI τ (w + 28) 4 = nI nr := by rw [q1.2.2.2.2.2.2 _ (by omega), r2]
      have hb := hd nr t
      unfold b_Supply_leastMinutes_18
      rw [t28, if_neg (nI_nlt (Nat.le_refl nr) (by omega)), rW_28_5 hL, ix_nI (show t < 2 ^ 31 by omega), q2 t ht, cK_of (kW_28 hL), cA_of (kW_32 hL) (nW_32 hL) ht (by decide)]
      by_cases c : rnds (rdA S) (rdB S) (rdW S) nr nr (far0 1000000 s) t < 1000000
      · rw [if_pos c, show (1000000 : Int32) = nI 1000000 from rfl, if_pos (nI_lt c (by decide))]
        rfl
      · rw [if_neg c, show (1000000 : Int32) = nI 1000000 from rfl, if_neg (nI_nlt (by omega) (by omega))]
        rfl)
    (pI σ1 (w + 32) s 0) ⟨Fr1_p f1, h0⟩
  refine ⟨τ, p1, ?_⟩
  unfold f_Supply_leastMinutes
  rw [rW_28_5 hW, cK_of (kW_28 hW), Bool.and_true, ef, bd_]
  dsimp only
  rw [lt_, rW_28_5 hL1, ix_nI (show s < 2 ^ 31 by omega), lt_, cK_of (kW_28 hL1), cA_of (kW_32 hL1) (nW_32 hL1) hs (by decide)]
  exact e
theorem M_ride (hY : LayY Y ρ) {nr s t : Nat} (hn : nr ≤ 12) (r2 : SI ρ (Y + 1) 8 = nI nr) (hS : rdOK (SI ρ (Y + 1)) nr) (hs : s < 16) (ht : t < 16) : ∃ τ, Fr1 (Y + 14) ρ τ ∧ f_Model_rideOf Y (nI s) (nI t) true ρ = (if rnds (rdA (SI ρ (Y + 1))) (rdB (SI ρ (Y + 1))) (rdW (SI ρ (Y + 1))) nr 16 (far0 100000 s) t < 100000 then nI (rnds (rdA (SI ρ (Y + 1))) (rdB (SI ρ (Y + 1))) (rdW (SI ρ (Y + 1))) nr 16 (far0 100000 s) t) else -1, true, τ) := by
  have hd : ∀ k v, rnds (rdA (SI ρ (Y + 1))) (rdB (SI ρ (Y + 1))) (rdW (SI ρ (Y + 1))) nr k (far0 100000 s) v ≤ 100000 := fun k v => Nat.le_trans (rnds_le (k := k) (j := 0) (by omega) v) (by show (if v = s then 0 else 100000) ≤ 100000; by_cases e : v = s <;> simp [e])
  obtain ⟨τ1, ⟨p1, p2⟩, e1⟩ := lp_ex (body := b_Model_rideOf_2 Y (nI s) (nI t)) (bad := fun (x3 : Int32) (b : Bool) (σ : Sto) => (0, false, σ)) 16 (fun k τ => Fr1 (Y + 14) ρ τ ∧ ∀ v, v < k → SI τ (Y + 14) v = nI (far0 100000 s v)) (fun τ => lp_ (b_Model_rideOf_34 Y (nI t)) (fun (x3 : Int32) (b : Bool) (σ : Sto) => (0, false, σ)) fuel_ 0 true τ) (by omega)
    (fun i τ hi ⟨q1, q2⟩ => by
      have hL : LayY Y τ := LayY_c hY q1.2.1 q1.2.2.1 q1.2.2.2.1
      refine ⟨pI τ (Y + 14) i (nI (far0 100000 s i)), ⟨Fr1_p q1, fun v hv => ?_⟩, fun L => ?_⟩
      · rw [SI_pI]
        by_cases e : v = i
        · rw [e, up2_s]
        · rw [up2_nj e]
          exact q2 v (by omega)
      · unfold b_Model_rideOf_2 far0
        rw [if_pos (show nI i < (16 : Int32) from nI_lt (b := 16) hi (by decide)), lt_]
        by_cases e : i = s
        · rw [if_pos (show nI i = nI s by rw [e]), if_pos e, rY_26 hL]
          dsimp only
          rw [ix_nI (show i < 2 ^ 31 by omega), cK_of (kY_0 hL), cA_of (kY_14 hL) (nY_14 hL) hi (by decide)]
          rfl
        · rw [if_neg (show ¬ nI i = nI s from fun z => e ((nI_eq (by omega) (by omega)).mp z)), if_neg e, rY_26 hL]
          dsimp only
          rw [ix_nI (show i < 2 ^ 31 by omega), cK_of (kY_0 hL), cA_of (kY_14 hL) (nY_14 hL) hi (by decide)]
          rfl)
    (fun L τ ⟨q1, q2⟩ => by
      unfold b_Model_rideOf_2
      rw [if_neg (show ¬ nI 16 < (16 : Int32) by decide), lt_])
    ρ ⟨Fr1_0, fun v hv => absurd hv (Nat.not_lt_zero _)⟩
  obtain ⟨τ, ⟨k1, k2⟩, e⟩ := lp_ex (body := b_Model_rideOf_34 Y (nI t)) (bad := fun (x3 : Int32) (b : Bool) (σ : Sto) => (0, false, σ)) 16 (fun k τ => Fr1 (Y + 14) ρ τ ∧ rowN τ (Y + 14) (rnds (rdA (SI ρ (Y + 1))) (rdB (SI ρ (Y + 1))) (rdW (SI ρ (Y + 1))) nr k (far0 100000 s))) (fun τ => (if rnds (rdA (SI ρ (Y + 1))) (rdB (SI ρ (Y + 1))) (rdW (SI ρ (Y + 1))) nr 16 (far0 100000 s) t < 100000 then nI (rnds (rdA (SI ρ (Y + 1))) (rdB (SI ρ (Y + 1))) (rdW (SI ρ (Y + 1))) nr 16 (far0 100000 s) t) else -1, true, τ)) (by omega)
    (fun i τ hi ⟨q1, q2⟩ => by
      obtain ⟨τ', k1, k2⟩ := M_rnd hY hn r2 hS (fun v => Nat.le_trans (hd i v) (by decide)) q1 q2 (nI t)
      refine ⟨τ', k1, fun L => ?_⟩
      unfold b_Model_rideOf_34
      rw [if_pos (show nI i < (16 : Int32) from nI_lt (b := 16) hi (by decide)), lt_]
      exact k2 (nI i, L))
    (fun L τ ⟨q1, q2⟩ => by
      have hL : LayY Y τ := LayY_c hY q1.2.1 q1.2.2.1 q1.2.2.2.1
      have hb := hd 16 t
      unfold b_Model_rideOf_34
      rw [if_neg (show ¬ nI 16 < (16 : Int32) by decide), rY_26 hL, ix_nI (show t < 2 ^ 31 by omega), q2 t ht, cK_of (kY_0 hL), cA_of (kY_14 hL) (nY_14 hL) ht (by decide)]
      by_cases c : rnds (rdA (SI ρ (Y + 1))) (rdB (SI ρ (Y + 1))) (rdW (SI ρ (Y + 1))) nr 16 (far0 100000 s) t < 100000
      · rw [if_pos c, show (100000 : Int32) = nI 100000 from rfl, if_pos (nI_lt c (by decide))]
        rfl
      · rw [if_neg c, show (100000 : Int32) = nI 100000 from rfl, if_neg (nI_nlt (by omega) (by omega))]
        rfl)
    τ1 ⟨p1, p2⟩
  refine ⟨τ, k1, ?_⟩
  unfold f_Model_rideOf
  rw [lt_]
  exact e1.trans e
/-- both the same -/
theorem least_same {S : Nat → Int32} {nr s t : Nat} (hn : nr ≤ 12) (hS : rdOK S nr) (hs : s < 16) (ht : t < 16) : (if (if rnds (rdA S) (rdB S) (rdW S) nr 16 (far0 100000 s) t < 100000 then nI (rnds (rdA S) (rdB S) (rdW S) nr 16 (far0 100000 s) t) else -1) < 0 then (-1000000005 : Int32) else (if rnds (rdA S) (rdB S) (rdW S) nr 16 (far0 100000 s) t < 100000 then nI (rnds (rdA S) (rdB S) (rdW S) nr 16 (far0 100000 s) t) else -1)) = if rnds (rdA S) (rdB S) (rdW S) nr nr (far0 1000000 s) t < 1000000 then nI (rnds (rdA S) (rdB S) (rdW S) nr nr (far0 1000000 s) t) else -1000000005 := by
  rw [rnds_end (src := s) (I := 100000) (fun j hj => (hS j hj).2.2.2.2.2.1) (far0 100000 s) (fun v => rfl) (show nr ≤ 16 by omega) t]
  have f := far_rnds (A := rdA S) (B := rdB S) (W := rdW S) (n := nr) (far_0 (IC := 1000000) (IM := 100000) (src := s) (c := far0 1000000 s) (m := far0 100000 s) hs (by decide) (fun _ => rfl) (fun _ => rfl)) (by decide) (by decide) (fun j hj => ⟨(hS j hj).2.2.2.1, (hS j hj).2.2.2.2.1, (hS j hj).2.2.2.2.2.2⟩) nr t ht
  rcases f with ⟨a1, a2⟩ | ⟨a1, a2, a3⟩
  · rw [a1, a2, if_neg (show ¬ 100000 < 100000 by omega), if_neg (show ¬ 1000000 < 1000000 by omega), if_pos (show (-1 : Int32) < 0 by decide)]
  · rw [a1, if_pos a2, if_pos (show _ < 1000000 by omega), if_neg (nI_pos (by omega))]
/-- rows that serve a call alone have changed -/
theorem REL_row {τ υ : Sto} (h : REL X Y σ ρ) (h0 : Shn τ = Shn σ) (h1 : Stk τ = Stk σ) (h2 : Sln τ = Sln σ) (h3 : SR τ = SR σ) (h4 : ∀ x, X + 164 ≤ x → x ≤ X + 171 → SL τ x = SL σ x) (h5 : Scs τ = Scs σ) (h6 : ∀ x, ¬ (x = X + 1 + 32 ∨ x = X + 1 + 33 ∨ (X + 1 + 38 ≤ x ∧ x ≤ X + 1 + 41)) → SI τ x = SI σ x) (k1 : Stk υ = Stk ρ) (k2 : Sln υ = Sln ρ) (k3 : SR υ = SR ρ) (k4 : SL υ (Y + 6) = SL ρ (Y + 6)) (kx : ∀ x, x < Y + 10 ∨ Y + 19 < x → SI υ x = SI ρ x) : REL X Y τ υ := by
  obtain ⟨g1, g2, g3, g4, g5, g6, g7, g8, g9, g10⟩ := h
  obtain ⟨y1, y2, y3, y4, y5, y6, y7, y8⟩ := g6
  obtain ⟨np, nf, hp, -, -, hp2, -⟩ := id y2
  refine ⟨g1, by rw [h0]; exact g2, LayX_c g3 h1 h2 h3, LayY_c g4 k1 k2 k3, by rw [h5]; exact g5, ?_, ?_, rTape_c g8 (h6 _ (by omega)) (h6 _ (by omega)) (by rw [kx Y (by omega)]) (kx _ (by omega)), rSh_c g9 (fun b b1 b2 => ⟨h6 b (by omega), h4 b b1 b2⟩) (kx _ (by omega)) (kx _ (by omega)) k4, rTell_c g10 (by rw [h6 X (by omega)]) (h6 _ (by omega)) (by rw [kx Y (by omega)]) (kx _ (by omega))⟩
  · rw [kx (Y + 1) (by omega)]
    exact ⟨rDay_c y1 (h6 _ (by omega)) rfl, rG_c y2 (fun a _ _ => h6 a (by omega)) (fun _ _ => rfl), rQ_c y3 (fun a _ _ => h6 a (by omega)) (fun _ _ => rfl), rS_c y4 (fun a _ _ => h6 a (by omega)) (fun _ _ => rfl) (Int32.le_refl _), rA_c y5 (fun a _ _ => h6 a (by omega)) (fun _ _ => rfl), rB_c y6 hp hp2 (fun a _ _ => h6 a (by omega)) (fun _ _ => rfl) (fun _ _ => rfl) (Int32.le_refl _) (Int32.le_refl _), rW_c y7 (fun a _ => h6 a (by omega)) (fun _ _ => rfl), rT_c2 y8 h0 h1 h2 (by rw [h3]) (fun x _ => by rw [h3]) (by rw [h6 (X + 1 + 11) (by omega)]) (fun a ha => h6 a (by omega)) (fun _ _ => rfl)⟩
  · rw [h6 X (by omega), kx Y (by omega), kx (Y + 2) (by omega)]
    rcases g7 with q | ⟨z1, z2, z3⟩
    · exact Or.inl q
    · exact Or.inr ⟨z1, z2, RWd_c z3 h0 h1 h2 h3 (fun a ha => h6 a (by omega)) (fun _ _ => rfl)⟩
theorem rd_ok (h : REL X Y σ ρ) {np nr : Nat} (p1 : np ≤ 16) (p4 : SI ρ (Y + 1) 2 = nI np) (r4 : ∀ k, k < nr → SI σ (X + 1 + 29) k = SI ρ (Y + 1) (480 + 3 * k) ∧ SI σ (X + 1 + 30) k = SI ρ (Y + 1) (481 + 3 * k) ∧ SI σ (X + 1 + 31) k = SI ρ (Y + 1) (482 + 3 * k) ∧ 0 ≤ SI ρ (Y + 1) (480 + 3 * k) ∧ SI ρ (Y + 1) (480 + 3 * k) < SI ρ (Y + 1) 2 ∧ 0 ≤ SI ρ (Y + 1) (481 + 3 * k) ∧ SI ρ (Y + 1) (481 + 3 * k) < SI ρ (Y + 1) 2 ∧ bd (SI ρ (Y + 1) (482 + 3 * k)) 1 999) : rdOK (SI ρ (Y + 1)) nr := by
  intro k hk
  obtain ⟨-, -, -, a1, a2, b1, b2, c1⟩ := r4 k hk
  rw [p4] at a2 b2
  obtain ⟨i, hi, ei⟩ := in_nat (n := np) rfl (by omega) a1 (Int32.le_of_lt a2)
  obtain ⟨j, hj, ej⟩ := in_nat (n := np) rfl (by omega) b1 (Int32.le_of_lt b2)
  obtain ⟨m, hm, em⟩ := bd_nat (n := 999) (v := SI ρ (Y + 1) (482 + 3 * k)) ⟨by have := c1.1; omega, c1.2⟩
  have hi' : i < np := by
    rcases Nat.lt_or_ge i np with z | z
    · exact z
    · rw [ei] at a2; exact absurd a2 (nI_nlt z (by omega))
  have hj' : j < np := by
    rcases Nat.lt_or_ge j np with z | z
    · exact z
    · rw [ej] at b2; exact absurd b2 (nI_nlt z (by omega))
  have hm' : 1 ≤ m := by have := c1.1; rw [em, nI_toInt (by omega)] at this; omega
  unfold rdA rdB rdW
  rw [ei, ej, em, ix_nI (by omega), ix_nI (by omega), ix_nI (by omega)]
  exact ⟨rfl, rfl, rfl, by omega, by omega, hm', hm⟩
theorem op_32 : Op_32 X Y (REL X Y) := by
  intro a a2 σ ρ h
  have hX := h.2.2.1
  have hY : LayY Y (stn ρ (Shn σ)) := h.2.2.2.1
  have hW := hX.2.1
  obtain ⟨np, nf, p1, p2, p3, p4, p5, p6, p7, p8, p9, p10, p11, p12⟩ := (REL_now2 h).2.1
  obtain ⟨s1, s2, nr, r1, r2, r3, r4⟩ := (REL_now2 h).2.2.2.1
  have p4' : SI (stn ρ (Shn σ)) (Y + 1) 2 = nI np := p4
  have r3' : SI (stn ρ (Shn σ)) (Y + 1) 8 = nI nr := r3
  by_cases ha : (0 : Int32) ≤ a ∧ a ≤ nI np - 1
  · by_cases ha2 : (0 : Int32) ≤ a2 ∧ a2 ≤ nI np - 1
    · obtain ⟨k1, hk1, rfl⟩ := in_idx (by omega) ha
      obtain ⟨k2, hk2, rfl⟩ := in_idx (by omega) ha2
      obtain ⟨m1, hm1, em1⟩ := bd_nat (n := 5) (p9 k1 hk1).2.2.2.2.1
      obtain ⟨m2, hm2, em2⟩ := bd_nat (n := 5) (p9 k2 hk2).2.2.2.2.1
      have t1 := e_isTown hW (REL_cs h) (show k1 < 16 by omega) hm1 (show SI σ (X + 1 + 2) k1 = nI m1 by rw [(p9 k1 hk1).1, em1])
      have t2 := e_isTown hW (REL_cs h) (show k2 < 16 by omega) hm2 (show SI σ (X + 1 + 2) k2 = nI m2 by rw [(p9 k2 hk2).1, em2])
      have em1' : SI (stn ρ (Shn σ)) (Y + 1) (30 + 4 * k1) = nI m1 := em1
      have em2' : SI (stn ρ (Shn σ)) (Y + 1) (30 + 4 * k2) = nI m2 := em2
      by_cases e1 : nI m1 = 3
      · by_cases e2 : nI m2 = 3
        · have hS := rd_ok h p1 p4 r4
          obtain ⟨τ, fC, eC⟩ := C_least (s := k1) (t := k2) hW r1 r2 (fun k hk => ⟨(r4 k hk).1, (r4 k hk).2.1, (r4 k hk).2.2.1⟩) hS (by omega) (by omega)
          obtain ⟨υ, fM, eM⟩ := M_ride (s := k1) (t := k2) hY r1 r3' (show rdOK (SI (stn ρ (Shn σ)) (Y + 1)) nr from hS) (by omega) (by omega)
          have ls := least_same (s := k1) (t := k2) r1 hS (by omega) (by omega)
          generalize (if rnds (rdA (SI ρ (Y + 1))) (rdB (SI ρ (Y + 1))) (rdW (SI ρ (Y + 1))) nr nr (far0 1000000 k1) k2 < 1000000 then nI (rnds (rdA (SI ρ (Y + 1))) (rdB (SI ρ (Y + 1))) (rdW (SI ρ (Y + 1))) nr nr (far0 1000000 k1) k2) else -1000000005) = ans at *
          refine OpOK_j ans (Shn σ) τ υ ?_ fC.1 ?_ fM.1 (REL_row h fC.1 fC.2.1 fC.2.2.1 fC.2.2.2.1 (fun x _ _ => by rw [fC.2.2.2.2.1]) fC.2.2.2.2.2.1 (fun x hx => fC.2.2.2.2.2.2 x (by omega)) fM.2.1 fM.2.2.1 fM.2.2.2.1 (by rw [fM.2.2.2.2.1]; rfl) (fun x hx => fM.2.2.2.2.2.2 x (by omega)))
          · unfold f_Trail_minutes
            simp only [bd_, lt_, rX_0_0 hX, rW_0_0 hW, rW_0_4 hW, cK_of (kX_0 hX), cK_of (kW_0 hW), cK_of (kW_1 hW), cK_of (kW_28 hW), Bool.and_true, e_hasPlace (kW_1 hW), p3, inR_e1 ha, inR_e1 ha2, i10, if_false, t1, t2, bI_t e1, bI_t e2, eC]
          · show f_Model_minutes Y (nI k1) (nI k2) true (stn ρ (Shn σ)) = _
            rw [← ls]
            unfold f_Model_minutes
            simp only [bd_, lt_, cK_of (kY_0 hY), Bool.and_true, e_isPlace hY, p4', inR_e1 ha, inR_e1 ha2, i10, if_false, e_kindOf hY (show k1 < 700 by omega), e_kindOf hY (show k2 < 700 by omega), em1', em2', if_pos e1, if_pos e2]
            rw [eM]
            dsimp only
            rw [e_orNone]
            rfl
        · refine OpOK_b (-1000000012) h ?_ ?_
          · unfold f_Trail_minutes
            simp only [bd_, lt_, rX_0_0 hX, rW_0_0 hW, cK_of (kX_0 hX), cK_of (kW_0 hW), cK_of (kW_1 hW), Bool.and_true, e_hasPlace (kW_1 hW), p3, inR_e1 ha, inR_e1 ha2, i10, if_false, t1, t2, bI_t e1, bI_f e2, if_true]
          · show f_Model_minutes Y (nI k1) (nI k2) true (stn ρ (Shn σ)) = _
            unfold f_Model_minutes
            simp only [bd_, lt_, cK_of (kY_0 hY), Bool.and_true, e_isPlace hY, p4', inR_e1 ha, inR_e1 ha2, i10, if_false, e_kindOf hY (show k1 < 700 by omega), e_kindOf hY (show k2 < 700 by omega), em1', em2', if_pos e1, if_neg e2]
      · refine OpOK_b (-1000000012) h ?_ ?_
        · unfold f_Trail_minutes
          simp only [bd_, lt_, rX_0_0 hX, rW_0_0 hW, cK_of (kX_0 hX), cK_of (kW_0 hW), cK_of (kW_1 hW), Bool.and_true, e_hasPlace (kW_1 hW), p3, inR_e1 ha, inR_e1 ha2, i10, if_false, t1, bI_f e1, if_true]
        · show f_Model_minutes Y (nI k1) (nI k2) true (stn ρ (Shn σ)) = _
          unfold f_Model_minutes
          simp only [bd_, lt_, cK_of (kY_0 hY), Bool.and_true, e_isPlace hY, p4', inR_e1 ha, inR_e1 ha2, i10, if_false, e_kindOf hY (show k1 < 700 by omega), em1', if_neg e1]
    · refine OpOK_b (-1000000001) h ?_ ?_
      · unfold f_Trail_minutes
        simp only [bd_, lt_, rX_0_0 hX, rW_0_0 hW, cK_of (kX_0 hX), cK_of (kW_0 hW), cK_of (kW_1 hW), Bool.and_true, e_hasPlace (kW_1 hW), p3, inR_e1 ha, inR_e0 ha2, i10, if_false, if_true]
      · show f_Model_minutes Y a a2 true (stn ρ (Shn σ)) = _
        unfold f_Model_minutes
        simp only [bd_, lt_, cK_of (kY_0 hY), Bool.and_true, e_isPlace hY, p4', inR_e1 ha, inR_e0 ha2, i10, if_false, if_true]
  · refine OpOK_b (-1000000001) h ?_ ?_
    · unfold f_Trail_minutes
      simp only [bd_, lt_, rX_0_0 hX, rW_0_0 hW, cK_of (kX_0 hX), cK_of (kW_0 hW), cK_of (kW_1 hW), Bool.and_true, e_hasPlace (kW_1 hW), p3, inR_e0 ha, if_true]
    · show f_Model_minutes Y a a2 true (stn ρ (Shn σ)) = _
      unfold f_Model_minutes
      simp only [bd_, lt_, cK_of (kY_0 hY), Bool.and_true, e_isPlace hY, p4', inR_e0 ha, if_true]
end MI
