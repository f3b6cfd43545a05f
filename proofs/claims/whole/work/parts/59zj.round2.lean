/-! round 2 -/
section RD2
variable {α : Type} {X Y w : Nat} {σ ρ : Sto} {S : Nat → Int32}
theorem lp_exA2 {A B : Type} {body : (A → B → Int32 → Bool → Sto → Rs α) → A → B → Int32 → Bool → Sto → Rs α} {bad : A → B → Int32 → Bool → Sto → Rs α} (N : Nat) (P : Nat → A → B → Sto → Prop) (K : A → B → Sto → Rs α) (hN : N < 69999)
    (hstep : ∀ i a b τ, i < N → P i a b τ → ∃ a' b' τ', P (i + 1) a' b' τ' ∧ ∀ L, body L a b (nI i) true τ = L a' b' (nI i + 1) true τ') (hexit : ∀ L a b τ, P N a b τ → body L a b (nI N) true τ = K a b τ) (a : A) (b : B) (τ : Sto) (h0 : P 0 a b τ) :
    ∃ a' b' τ', P N a' b' τ' ∧ lp_ body bad fuel_ a b 0 true τ = K a' b' τ' := by
  have key : ∀ n, ∀ i a b τ, i ≤ N → N - i < n → P i a b τ → ∃ a' b' τ', P N a' b' τ' ∧ lp_ body bad n a b (nI i) true τ = K a' b' τ' := by
    intro n
    induction n with
    | zero => exact fun i a b τ _ h _ => absurd h (Nat.not_lt_zero _)
    | succ n ih =>
      intro i a b τ hi hn hp
      rw [lp_S]
      by_cases hlt : i < N
      · obtain ⟨a1, b1, τ1, p1, e1⟩ := hstep i a b τ hlt hp
        rw [e1, show nI i + 1 = nI (i + 1) from nI_1 i]
        exact ih (i + 1) a1 b1 τ1 hlt (by omega) p1
      · have e : i = N := by omega
        subst e
        exact ⟨a, b, τ, hp, hexit _ a b τ hp⟩
  exact key fuel_ 0 a b τ (Nat.zero_le _) (by show N - 0 < 70000; omega) h0
def dmM (S : Nat → Int32) (np i k : Nat) : Prop := ∃ j, j < i ∧ twR S np j = k
theorem dmM_s {np i : Nat} (k : Nat) : (dmM S np i k ∨ k = twR S np i) ↔ dmM S np (i + 1) k := by
  unfold dmM
  refine ⟨fun z => z.elim (fun ⟨j, h1, h2⟩ => ⟨j, by omega, h2⟩) (fun y => ⟨i, by omega, y.symm⟩), fun ⟨j, h1, h2⟩ => ?_⟩
  by_cases e : j = i
  · exact Or.inr (by rw [← h2, e])
  · exact Or.inl ⟨j, by omega, h2⟩
/-- what comes behind the reference's search -/
def rdK (Y : Nat) (x3 x4 : Int32) (σ : Sto) : Rs Int32 := if x3 < 0 then (-1000000005, true, σ) else if x4 < 0 then (-1000000005, true, σ) else bd_ (f_Model_rideOf Y x3 x4 true σ) (fun (r_14 : Int32) (b_14 : Bool) (σ_14 : Sto) => f_Model_orNone r_14 b_14 σ_14)
theorem M_round (hY : LayY Y ρ) (hS : SI ρ (Y + 1) = S) {np f : Nat} (hp : np ≤ 16) (hd : ∀ j k, j < np → k < np → S (31 + 4 * j) = S (31 + 4 * k) → j = k) (hf : f < 6) (ht : ∀ i, i < twN S np → SI ρ (Y + 13) i = nI (twR S np i)) : ∃ u v, PB (okL S (S (100 + 4 * f))) (ltL S) (dmC S np) u ∧ PB (okF S (S (101 + 4 * f))) (ltF S) (dmC S np) v ∧ lp_ (b_Model_round_34 Y (nI f) (nI (twN S np))) (fun (x3 : Int32) (x4 : Int32) (x5 : Int32) (b : Bool) (σ : Sto) => (0, false, σ)) fuel_ (-1) (-1) 0 true ρ = rdK Y u v ρ := by
  obtain ⟨s1, s2, s3⟩ := tw_spec hd np (Nat.le_refl np)
  have hn := twN_le (S := S) (p := np)
  obtain ⟨u, v, τ, ⟨k1, k2, k3⟩, e⟩ := lp_exA2 (body := b_Model_round_34 Y (nI f) (nI (twN S np))) (bad := fun (x3 : Int32) (x4 : Int32) (x5 : Int32) (b : Bool) (σ : Sto) => (0, false, σ)) (twN S np) (fun i u v τ => τ = ρ ∧ PB (okL S (S (100 + 4 * f))) (ltL S) (dmM S np i) u ∧ PB (okF S (S (101 + 4 * f))) (ltF S) (dmM S np i) v) (fun u v τ => rdK Y u v τ) (by omega)
    (fun i u v τ hi ⟨q1, q2, q3⟩ => by
      subst q1
      have hr := (s1 i hi).1
      have em := e_mileOf hY (k := twR S np i) (by omega)
      rw [hS] at em
      have z0 : nI (100 + 4 * f) + 0 = nI (100 + 4 * f) := Int32.add_zero _
      have z1 : nI (100 + 4 * f) + 1 = nI (101 + 4 * f) := by rw [nI_p1]; congr 1; omega
      have pre : ∀ L, b_Model_round_34 Y (nI f) (nI (twN S np)) L u v (nI i) true τ = L (if S (100 + 4 * f) < S (31 + 4 * twR S np i) then u else nI (twR S np i)) (if v < 0 then (if S (31 + 4 * twR S np i) < S (101 + 4 * f) then v else nI (twR S np i)) else v) (nI i + 1) true τ := fun L => by
        unfold b_Model_round_34
        rw [if_pos (nI_lt hi (by omega)), rY_25 hY, ix_nI (show i < 2 ^ 31 by omega), ht i hi, cK_of (kY_0 hY), cA_of (kY_13 hY) (nY_13 hY) (show i < 16 by omega) (by decide)]
        simp only [Bool.and_true]
        rw [em, bd_]
        dsimp only
        rw [cK_of (kY_0 hY)]
        simp only [Bool.and_true]
        rw [e_fireAt, bd_]
        dsimp only
        rw [lt_, z0, rY_0 hY, rY_25 hY, ix_nI (show 100 + 4 * f < 2 ^ 31 by omega), ht i hi, hS, cY hY (show 100 + 4 * f < 3210 by omega), cK_of (kY_0 hY), cA_of (kY_13 hY) (nY_13 hY) (show i < 16 by omega) (by decide)]
        have tail : ∀ (s : Int32) (J77 : Int32 → Bool → Sto → Rs Int32), J77 = (fun (s0_77 : Int32) (b : Bool) (σ : Sto) => (lt_ s0_77 (fun (x3_9 : Int32) => (lt_ (fun (s0_121 : Int32) (b : Bool) (σ : Sto) => (lt_ s0_121 (fun (x4_10 : Int32) => (lt_ (nI i + (1 : Int32)) (fun (x5_11 : Int32) => (L x3_9 x4_10 x5_11 b σ)))))) (fun J121 => (lt_ (fun (b : Bool) (σ : Sto) => (J121 v b σ)) (fun J119 => (if v < 0 then (bd_ (f_Model_mileOf Y (SI σ (SR σ Y 25) i) (((b && cK σ Y 13) && cA σ (SR σ Y 25) 21 (nI i)) && cK σ Y 13) σ) (fun (r_12 : Int32) (b_12 : Bool) (σ_12 : Sto) => (bd_ (f_Model_fireAt Y (nI f) ((b_12 && cK σ_12 Y 13) && cK σ_12 Y 13) σ_12) (fun (r_13 : Int32) (b_13 : Bool) (σ_13 : Sto) => (if r_12 < (SI σ_13 (SR σ_12 Y 0) (ix (r_13 + (1 : Int32)))) then (J119 (b_13 && cA σ_13 (SR σ_12 Y 0) 21 (r_13 + (1 : Int32))) σ_13) else (J121 (SI σ_13 (SR σ_13 Y 25) i) (((b_13 && cA σ_13 (SR σ_12 Y 0) 21 (r_13 + (1 : Int32))) && cK σ_13 Y 13) && cA σ_13 (SR σ_13 Y 25) 21 (nI i)) σ_13)))))) else (J119 b σ))))))))) → J77 s true τ = L s (if v < 0 then (if S (31 + 4 * twR S np i) < S (101 + 4 * f) then v else nI (twR S np i)) else v) (nI i + 1) true τ := fun s J77 hJ => by
          subst hJ
          dsimp only
          rw [lt_, lt_, lt_]
          by_cases c : v < 0
          · rw [if_pos c, if_pos c, rY_25 hY, ht i hi, cK_of (kY_0 hY), cA_of (kY_13 hY) (nY_13 hY) (show i < 16 by omega) (by decide)]
            simp only [Bool.and_true]
            rw [em, bd_]
            dsimp only
            rw [cK_of (kY_0 hY)]
            simp only [Bool.and_true]
            rw [e_fireAt, bd_]
            dsimp only
            rw [z1, rY_0 hY, rY_25 hY, ix_nI (show 101 + 4 * f < 2 ^ 31 by omega), ht i hi, hS, cY hY (show 101 + 4 * f < 3210 by omega), cK_of (kY_0 hY), cA_of (kY_13 hY) (nY_13 hY) (show i < 16 by omega) (by decide)]
            by_cases d : S (31 + 4 * twR S np i) < S (101 + 4 * f)
            · rw [if_pos d, if_pos d]
              rfl
            · rw [if_neg d, if_neg d]
              rfl
          · rw [if_neg c, if_neg c]
            rfl
        by_cases d : S (100 + 4 * f) < S (31 + 4 * twR S np i)
        · rw [if_pos d, if_pos d]
          exact tail u _ rfl
        · rw [if_neg d, if_neg d]
          exact tail (nI (twR S np i)) _ rfl
      refine ⟨_, _, τ, ⟨rfl, PB_cong dmM_s ?_, PB_cong dmM_s ?_⟩, pre⟩
      · by_cases d : S (100 + 4 * f) < S (31 + 4 * twR S np i)
        · rw [if_pos d]
          exact PB_no q2 (fun z => z d)
        · rw [if_neg d]
          refine PB_new (by omega) d (Int.lt_irrefl _) (fun k ⟨j, j1, j2⟩ _ z => ?_)
          have := s2 j i j1 hi
          rw [j2] at this
          unfold ltL at z
          omega
      · by_cases c : v < 0
        · rw [if_pos c]
          rcases id q3 with ⟨h1, h2⟩ | ⟨m, h1, h2, h3, h4, h5⟩
          · by_cases d : S (31 + 4 * twR S np i) < S (101 + 4 * f)
            · rw [if_pos d]
              exact PB_no q3 (fun z => z d)
            · rw [if_neg d]
              exact PB_new (by omega) d (Int.lt_irrefl _) (fun k hk o => absurd o (h2 k hk))
          · rw [h1] at c
            exact absurd c (nI_pos (by omega))
        · rw [if_neg c]
          rcases id q3 with ⟨h1, h2⟩ | ⟨m, h1, h2, ⟨j, j1, j2⟩, h4, h5⟩
          · rw [h1] at c
            exact absurd (show (-1 : Int32) < 0 by decide) c
          · subst h1
            refine PB_keep q3 h2 (fun z => ?_)
            have := s2 j i j1 hi
            rw [j2] at this
            unfold ltF at z
            omega)
    (fun L u v τ ⟨q1, q2, q3⟩ => by
      subst q1
      unfold b_Model_round_34 rdK
      rw [if_neg (nI_nlt (Nat.le_refl _) (by omega)), lt_]
      by_cases c : u < 0
      · rw [if_pos c, if_pos c]
      · rw [if_neg c, if_neg c]
        by_cases d : v < 0
        · rw [if_pos d, if_pos d]
        · rw [if_neg d, if_neg d, cK_of (kY_0 hY), Bool.and_true]
          rfl)
    (-1) (-1) ρ ⟨rfl, Or.inl ⟨rfl, fun k ⟨j, h, _⟩ => absurd h (Nat.not_lt_zero _)⟩, Or.inl ⟨rfl, fun k ⟨j, h, _⟩ => absurd h (Nat.not_lt_zero _)⟩⟩
  subst k1
  have hDE : ∀ k, dmM S np (twN S np) k ↔ dmC S np k := fun k => ⟨fun ⟨j, h1, h2⟩ => by rw [← h2]; exact s1 j h1, fun ⟨h1, h2⟩ => s3 k h1 h2⟩
  exact ⟨u, v, PB_cong hDE k2, PB_cong hDE k3, e⟩
theorem Fr1_c {a b : Nat} {τ υ : Sto} (h : Fr1 a σ τ) (g : Fr1 b τ υ) (x : Nat) (ha : x ≠ a) (hb : x ≠ b) : SI υ x = SI σ x := (g.2.2.2.2.2.2 x hb).trans (h.2.2.2.2.2.2 x ha)
theorem op_33 : Op_33 X Y (REL X Y) := by
  intro a σ ρ h
  have hX := h.2.2.1
  have hY : LayY Y (stn ρ (Shn σ)) := h.2.2.2.1
  have hW := hX.2.1
  obtain ⟨np, nf, p1, p2, p3, p4, p5, p6, p7, p8, p9, p10, p11, p12⟩ := (REL_now2 h).2.1
  obtain ⟨s1, s2, nr, r1, r2, r3, r4⟩ := (REL_now2 h).2.2.2.1
  have hS0 : SI (stn ρ (Shn σ)) (Y + 1) = SI ρ (Y + 1) := rfl
  have z0 : Shn (stn ρ (Shn σ)) = Shn σ := rfl
  have y1 : Stk (stn ρ (Shn σ)) = Stk ρ := rfl
  have y2 : Sln (stn ρ (Shn σ)) = Sln ρ := rfl
  have y3 : SR (stn ρ (Shn σ)) = SR ρ := rfl
  have y4 : SL (stn ρ (Shn σ)) = SL ρ := rfl
  have yx : ∀ x, SI (stn ρ (Shn σ)) x = SI ρ x := fun _ => rfl
  have eh : f_Ground_hasFire (X + 1 + 1) a true σ = (inR a 0 (nI nf - 1), true, σ) := by
    unfold f_Ground_hasFire
    simp only [bd_, e_within, p5, cK_of (kW_1 hW), Bool.and_true, inR_zok]
  have hS := rd_ok h p1 p4 r4
  by_cases ha : (0 : Int32) ≤ a ∧ a ≤ nI nf - 1
  · obtain ⟨f, hf, rfl⟩ := in_idx (by omega) ha
    have p9' : ∀ k, k < np → SI σ (X + 1 + 2) k = SI ρ (Y + 1) (30 + 4 * k) ∧ SI σ (X + 1 + 3) k = SI ρ (Y + 1) (31 + 4 * k) ∧ bd (SI ρ (Y + 1) (30 + 4 * k)) 0 5 := fun k hk => ⟨(p9 k hk).1, (p9 k hk).2.1, (p9 k hk).2.2.2.2.1⟩
    obtain ⟨q1, q2, -⟩ := p11 f hf
    obtain ⟨u, gu, eu⟩ := C_last (S := SI ρ (Y + 1)) hW (REL_cs h) p1 p3 p9' (SI ρ (Y + 1) (100 + 4 * f))
    obtain ⟨v, gv, ev⟩ := C_first (S := SI ρ (Y + 1)) hW (REL_cs h) p1 p3 p9' (SI ρ (Y + 1) (101 + 4 * f))
    generalize hρ0 : stn ρ (Shn σ) = ρ0 at *
    obtain ⟨ρ1, f1, t1, t2, et⟩ := M_towns hY hS0 p1 (show SI ρ (Y + 1) 2 = nI np from p4)
    have hY1 : LayY Y ρ1 := LayY_c hY f1.2.1 f1.2.2.1 f1.2.2.2.1
    have hS1 : SI ρ1 (Y + 1) = SI ρ (Y + 1) := by rw [f1.2.2.2.2.2.2 _ (by omega), hS0]
    obtain ⟨u', v', gu', gv', el⟩ := M_round hY1 hS1 p1 p10 (show f < 6 by omega) t1
    have hu : u = u' := PB_same (fun _ => Iff.rfl) (fun j k hj hk n1 n2 => p10 j k hj.1 hk.1 (Int32.toInt_inj.mp (by unfold ltL at n1 n2; omega))) gu gu'
    have hv : v = v' := PB_same (fun _ => Iff.rfl) (fun j k hj hk n1 n2 => p10 j k hj.1 hk.1 (Int32.toInt_inj.mp (by unfold ltF at n1 n2; omega))) gv gv'
    subst hu hv
    clear gu' gv'
    have eC : f_Trail_round X (nI f) true σ = if u < 0 then (-1000000005, true, σ) else if v < 0 then (-1000000005, true, σ) else bd_ (f_Supply_leastMinutes (X + 1 + 28) u v true σ) (fun (r_7 : Int32) (b_7 : Bool) (σ_7 : Sto) => (r_7, b_7, σ_7)) := by
      unfold f_Trail_round
      rw [lt_, rX_0_0 hX, rW_0_0 hW, cK_of (kX_0 hX), cK_of (kW_0 hW), cK_of (kW_1 hW)]
      simp only [Bool.and_true]
      rw [eh, bd_]
      dsimp only
      rw [inR_e1 ha, if_neg (show ¬ (1 : Int32) = 0 by decide), rW_1_5 hW, ix_nI (show f < 2 ^ 31 by omega), q1, cK_of (kW_1 hW), cA_of (kW_7 hW) (nW_7 hW) (show f < 6 by omega) (by decide)]
      simp only [Bool.and_true]
      rw [eu, bd_]
      dsimp only
      rw [lt_, rW_1_6 hW, q2, cK_of (kW_1 hW), cA_of (kW_8 hW) (nW_8 hW) (show f < 6 by omega) (by decide)]
      simp only [Bool.and_true]
      rw [ev, bd_]
      dsimp only
      rw [lt_, lt_, rX_0_0 hX, rW_0_4 hW, cK_of (kX_0 hX), cK_of (kW_0 hW), cK_of (kW_28 hW)]
      rfl
    have p6' : SI ρ0 (Y + 1) 3 = nI nf := by rw [hS0]; exact p6
    have eM : f_Model_round Y (nI f) true ρ0 = rdK Y u v ρ1 := by
      unfold f_Model_round
      rw [rY_0 hY, show ix (3 : Int32) = 3 from rfl, p6', e_isInL (nI f) 0 _ 0 (nI nf - 1) rfl rfl, inR_e1 ha, bd_, cK_of (kY_0 hY), cYk hY 3 (v := 3) rfl (by decide)]
      dsimp only
      rw [if_neg (show ¬ (1 : Int32) = 0 by decide)]
      simp only [Bool.and_true, cK_of (kY_0 hY)]
      rw [et, bd_]
      dsimp only
      rw [lt_, lt_, lt_, lt_]
      exact el
    have R1 : REL X Y σ ρ1 := REL_row h rfl rfl rfl rfl (fun _ _ _ => rfl) rfl (fun _ _ => rfl) (by rw [f1.2.1, y1]) (by rw [f1.2.2.1, y2]) (by rw [f1.2.2.2.1, y3]) (by rw [f1.2.2.2.2.1, y4]) (fun x hx => by rw [f1.2.2.2.2.2.2 x (by omega), yx])
    rcases gu with ⟨u1, u2⟩ | ⟨m1, rfl, m2, -⟩
    · refine OpOK_j (-1000000005) (Shn σ) σ ρ1 ?_ rfl ?_ (by rw [f1.1, z0]) R1
      · rw [eC, u1, if_pos (show (-1 : Int32) < 0 by decide)]
      · show f_Model_round Y (nI f) true (stn ρ (Shn σ)) = _
        rw [hρ0, eM, rdK, u1, if_pos (show (-1 : Int32) < 0 by decide)]
    · rcases gv with ⟨v1, v2⟩ | ⟨m3, rfl, m4, -⟩
      · refine OpOK_j (-1000000005) (Shn σ) σ ρ1 ?_ rfl ?_ (by rw [f1.1, z0]) R1
        · rw [eC, if_neg (nI_pos (by omega)), v1, if_pos (show (-1 : Int32) < 0 by decide)]
        · show f_Model_round Y (nI f) true (stn ρ (Shn σ)) = _
          rw [hρ0, eM, rdK, if_neg (nI_pos (by omega)), v1, if_pos (show (-1 : Int32) < 0 by decide)]
      · obtain ⟨τ, fC, lC⟩ := C_least (s := m1) (t := m3) hW r1 r2 (fun k hk => ⟨(r4 k hk).1, (r4 k hk).2.1, (r4 k hk).2.2.1⟩) hS m2 m4
        obtain ⟨υ, fM, lM⟩ := M_ride (s := m1) (t := m3) hY1 r1 (by rw [hS1]; exact r3) (by rw [hS1]; exact hS) m2 m4
        rw [hS1] at lM
        have ls := least_same (s := m1) (t := m3) r1 hS m2 m4
        generalize (if rnds (rdA (SI ρ (Y + 1))) (rdB (SI ρ (Y + 1))) (rdW (SI ρ (Y + 1))) nr nr (far0 1000000 m1) m3 < 1000000 then nI (rnds (rdA (SI ρ (Y + 1))) (rdB (SI ρ (Y + 1))) (rdW (SI ρ (Y + 1))) nr nr (far0 1000000 m1) m3) else -1000000005) = ans at *
        refine OpOK_j ans (Shn σ) τ υ ?_ fC.1 ?_ (by rw [fM.1, f1.1, z0]) (REL_row R1 fC.1 fC.2.1 fC.2.2.1 fC.2.2.2.1 (fun x _ _ => by rw [fC.2.2.2.2.1]) fC.2.2.2.2.2.1 (fun x hx => fC.2.2.2.2.2.2 x (by omega)) fM.2.1 fM.2.2.1 fM.2.2.2.1 (by rw [fM.2.2.2.2.1]) (fun x hx => fM.2.2.2.2.2.2 x (by omega)))
        · rw [eC, if_neg (nI_pos (by omega)), if_neg (nI_pos (by omega)), lC, bd_]
        · show f_Model_round Y (nI f) true (stn ρ (Shn σ)) = _
          rw [hρ0, eM, rdK, if_neg (nI_pos (by omega)), if_neg (nI_pos (by omega)), lM, bd_]
          dsimp only
          rw [e_orNone, ls]
  · refine OpOK_b (-1000000001) h ?_ ?_
    · unfold f_Trail_round
      rw [lt_, rX_0_0 hX, rW_0_0 hW, cK_of (kX_0 hX), cK_of (kW_0 hW), cK_of (kW_1 hW)]
      simp only [Bool.and_true]
      rw [eh, bd_]
      dsimp only
      rw [inR_e0 ha, if_pos rfl]
    · show f_Model_round Y a true (stn ρ (Shn σ)) = _
      have p6' : SI (stn ρ (Shn σ)) (Y + 1) 3 = nI nf := p6
      unfold f_Model_round
      rw [rY_0 hY, show ix (3 : Int32) = 3 from rfl, p6', e_isInL a 0 _ 0 (nI nf - 1) rfl rfl, inR_e0 ha, bd_, cK_of (kY_0 hY), cYk hY 3 (v := 3) rfl (by decide)]
      rfl
end RD2
