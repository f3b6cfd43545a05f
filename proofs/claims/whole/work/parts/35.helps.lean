/-! helps for the calls -/
theorem i10 : ((1 : Int32) = 0) = False := by decide
theorem inR_e1 {v a c : Int32} (h : a ≤ v ∧ v ≤ c) : inR v a c = 1 := if_pos h
theorem inR_e0 {v a c : Int32} (h : ¬ (a ≤ v ∧ v ≤ c)) : inR v a c = 0 := if_neg h
theorem zok_1 : zok 1 = true := rfl
theorem zok_0 : zok 0 = true := rfl
theorem nI_mul (a b : Nat) : nI a * nI b = nI (a * b) := (Int32.ofNat_mul a b).symm
theorem nI_s1 (n : Nat) : nI (n + 1) - 1 = nI n := by
  rw [← nI_1, Int32.add_sub_cancel]
theorem in_idx {v : Int32} {n : Nat} (hn : n < 2 ^ 31) (h : 0 ≤ v ∧ v ≤ nI n - 1) : ∃ j : Nat, j < n ∧ v = nI j := by
  cases n with
  | zero => exact absurd (Int32.le_trans h.1 h.2) (by decide)
  | succ n =>
    rw [nI_s1] at h
    obtain ⟨j, hj, e⟩ := in_nat rfl (by omega) h.1 h.2
    exact ⟨j, by omega, e⟩
theorem idx_in {j n : Nat} (hn : n < 2 ^ 31) (h : j < n) : 0 ≤ nI j ∧ nI j ≤ nI n - 1 := by
  cases n with
  | zero => omega
  | succ n =>
    rw [nI_s1]
    exact ⟨Int32.not_lt.mp (nI_pos (by omega)), nI_le (by omega) (by omega)⟩
theorem ar2 (a b k : Nat) : nI a + nI b * nI k = nI (a + b * k) := by rw [nI_mul, nI_add]
theorem nI_p1 (a : Nat) : nI a + 1 = nI (a + 1) := nI_add a 1
theorem nI_p2 (a : Nat) : nI a + 2 = nI (a + 2) := nI_add a 2
theorem nI_p3 (a : Nat) : nI a + 3 = nI (a + 3) := nI_add a 3
theorem nI_p4 (a : Nat) : nI a + 4 = nI (a + 4) := nI_add a 4
section HC
variable {X Y w g : Nat} {σ ρ : Sto}
theorem e_hasPlace (h : Stk σ g = 2) (v : Int32) : f_Ground_hasPlace g v true σ = (inR v 0 (SI σ g 10 - 1), true, σ) := by
  unfold f_Ground_hasPlace
  simp only [bd_, e_within, cK_of h, inR_zok, Bool.and_true]
theorem e_hasMile (h : Stk σ g = 2) (v : Int32) : f_Ground_hasMile g v true σ = (inR v 0 (SI σ g 9), true, σ) := by
  unfold f_Ground_hasMile
  simp only [bd_, e_within, cK_of h, inR_zok, Bool.and_true]
theorem e_hasWalker (h : Stk σ w = 11) (v : Int32) : f_World_hasWalker w v true σ = (inR v 0 (SI σ w 7 - 1), true, σ) := by
  unfold f_World_hasWalker
  simp only [bd_, e_within, cK_of h, inR_zok, Bool.and_true]
theorem e_hasBox (h : Stk σ g = 5) (v : Int32) : f_Post_hasBox g v true σ = (inR v 0 (SI σ g 5 - 1), true, σ) := by
  unfold f_Post_hasBox
  simp only [bd_, e_within, cK_of h, inR_zok, Bool.and_true]
theorem cY (hY : LayY Y ρ) {j : Nat} (hj : j < 3210) : cA ρ (Y + 1) 21 (nI j) = true := cA_of (kY_1 hY) (nY_1 hY) hj (by decide)
theorem cYk (hY : LayY Y ρ) (j : Nat) {v : Int32} (hv : v = nI j) (hj : j < 3210) : cA ρ (Y + 1) 21 v = true := by rw [hv]; exact cY hY hj
theorem e_isMile (hY : LayY Y ρ) (v : Int32) : f_Model_isMile Y v true ρ = (inR v 0 (SI ρ (Y + 1) 1), true, ρ) := by
  unfold f_Model_isMile
  simp only [bd_, rY_0 hY, cK_of (kY_0 hY), cYk hY 1 (v := 1) rfl (by decide), show ix (1 : Int32) = 1 from rfl, e_isInL v 0 _ 0 (SI ρ (Y + 1) 1) rfl rfl, inR_zok, Bool.and_true]
theorem e_isPlace (hY : LayY Y ρ) (v : Int32) : f_Model_isPlace Y v true ρ = (inR v 0 (SI ρ (Y + 1) 2 - 1), true, ρ) := by
  unfold f_Model_isPlace
  simp only [bd_, rY_0 hY, cK_of (kY_0 hY), cYk hY 2 (v := 2) rfl (by decide), show ix (2 : Int32) = 2 from rfl, e_isInL v 0 _ 0 (SI ρ (Y + 1) 2 - 1) rfl rfl, inR_zok, Bool.and_true]
theorem e_isWalker (hY : LayY Y ρ) (v : Int32) : f_Model_isWalker Y v true ρ = (inR v 0 (SI ρ (Y + 1) 5 - 1), true, ρ) := by
  unfold f_Model_isWalker
  simp only [bd_, rY_0 hY, cK_of (kY_0 hY), cYk hY 5 (v := 5) rfl (by decide), show ix (5 : Int32) = 5 from rfl, e_isInL v 0 _ 0 (SI ρ (Y + 1) 5 - 1) rfl rfl, inR_zok, Bool.and_true]
theorem e_isText (hY : LayY Y ρ) (v : Int32) : f_Model_isText Y v true ρ = (inR v 0 (SI ρ (Y + 1) 4 - 1), true, ρ) := by
  unfold f_Model_isText
  simp only [bd_, rY_0 hY, cK_of (kY_0 hY), cYk hY 4 (v := 4) rfl (by decide), show ix (4 : Int32) = 4 from rfl, e_isInL v 0 _ 0 (SI ρ (Y + 1) 4 - 1) rfl rfl, inR_zok, Bool.and_true]
theorem e_placeAt (k : Nat) (b : Bool) (ρ : Sto) : f_Model_placeAt Y (nI k) b ρ = (nI (30 + 4 * k), b, ρ) := by rw [← ar2 30 4 k]; rfl
theorem e_fireAt (k : Nat) (b : Bool) (ρ : Sto) : f_Model_fireAt Y (nI k) b ρ = (nI (100 + 4 * k), b, ρ) := by rw [← ar2 100 4 k]; rfl
theorem e_walkerAt (k : Nat) (b : Bool) (ρ : Sto) : f_Model_walkerAt Y (nI k) b ρ = (nI (130 + 20 * k), b, ρ) := by rw [← ar2 130 20 k]; rfl
theorem e_boxAt (k : Nat) (b : Bool) (ρ : Sto) : f_Model_boxAt Y (nI k) b ρ = (nI (340 + 5 * k), b, ρ) := by rw [← ar2 340 5 k]; rfl
theorem e_textAt (k : Nat) (b : Bool) (ρ : Sto) : f_Model_textAt Y (nI k) b ρ = (nI (600 + 200 * k), b, ρ) := by rw [← ar2 600 200 k]; rfl
theorem e_kindOf (hY : LayY Y ρ) {k : Nat} (hk : k < 700) : f_Model_kindOf Y (nI k) true ρ = (SI ρ (Y + 1) (30 + 4 * k), true, ρ) := by
  unfold f_Model_kindOf
  simp only [bd_, rY_0 hY, cK_of (kY_0 hY), e_placeAt, cY hY (show 30 + 4 * k < 3210 by omega), ix_nI (show 30 + 4 * k < 2 ^ 31 by omega), Bool.and_true]
theorem e_mileOf (hY : LayY Y ρ) {k : Nat} (hk : k < 700) : f_Model_mileOf Y (nI k) true ρ = (SI ρ (Y + 1) (31 + 4 * k), true, ρ) := by
  unfold f_Model_mileOf
  simp only [bd_, rY_0 hY, cK_of (kY_0 hY), e_placeAt, nI_p1, cY hY (show 30 + 4 * k + 1 < 3210 by omega), ix_nI (show 30 + 4 * k + 1 < 2 ^ 31 by omega), Bool.and_true]
  rw [show 30 + 4 * k + 1 = 31 + 4 * k by omega]
def bI (p : Prop) [Decidable p] : Int32 := if p then 1 else 0
theorem e_walks (hY : LayY Y ρ) {k : Nat} (hk : k < 100) : f_Model_walks Y (nI k) true ρ = (bI (SI ρ (Y + 1) (130 + 20 * k) = 1), true, ρ) := by
  unfold f_Model_walks bI
  simp only [bd_, rY_0 hY, cK_of (kY_0 hY), e_walkerAt, cY hY (show 130 + 20 * k < 3210 by omega), ix_nI (show 130 + 20 * k < 2 ^ 31 by omega), Bool.and_true]
  split <;> rfl
theorem rW_42 (h : LayW w σ) {k : Nat} (hk : k < 10) : SR σ (w + 42) k = w + 43 + k := by
  match k, hk with
  | 0, _ => exact rW_42_0 h
  | 1, _ => exact rW_42_1 h
  | 2, _ => exact rW_42_2 h
  | 3, _ => exact rW_42_3 h
  | 4, _ => exact rW_42_4 h
  | 5, _ => exact rW_42_5 h
  | 6, _ => exact rW_42_6 h
  | 7, _ => exact rW_42_7 h
  | 8, _ => exact rW_42_8 h
  | 9, _ => exact rW_42_9 h
  | k + 10, hk => omega
theorem kW_w (h : LayW w σ) {k : Nat} (hk : k < 10) : Stk σ (w + 43 + k) = 10 := by
  match k, hk with
  | 0, _ => exact kW_43 h
  | 1, _ => exact kW_44 h
  | 2, _ => exact kW_45 h
  | 3, _ => exact kW_46 h
  | 4, _ => exact kW_47 h
  | 5, _ => exact kW_48 h
  | 6, _ => exact kW_49 h
  | 7, _ => exact kW_50 h
  | 8, _ => exact kW_51 h
  | 9, _ => exact kW_52 h
  | k + 10, hk => omega
end HC
/-- only ints inside lo..hi differ -/
def SameBut (σ σ' : Sto) (lo hi : Nat) : Prop := Stk σ' = Stk σ ∧ Sln σ' = Sln σ ∧ SR σ' = SR σ ∧ SL σ' = SL σ ∧ Scs σ' = Scs σ ∧ ∀ a, a < lo ∨ hi < a → SI σ' a = SI σ a
theorem SB_0 {σ : Sto} {lo hi : Nat} : SameBut σ σ lo hi := ⟨rfl, rfl, rfl, rfl, rfl, fun _ _ => rfl⟩
theorem SB_n {σ : Sto} {z lo hi : Nat} : SameBut σ (stn σ z) lo hi := ⟨rfl, rfl, rfl, rfl, rfl, fun _ _ => rfl⟩
theorem SB_p {σ σ' : Sto} {lo hi a j : Nat} {v : Int32} (h : SameBut σ σ' lo hi) (h1 : lo ≤ a) (h2 : a ≤ hi) : SameBut σ (pI σ' a j v) lo hi :=
  ⟨h.1, h.2.1, h.2.2.1, h.2.2.2.1, h.2.2.2.2.1, fun b hb => by rw [← h.2.2.2.2.2 b hb]; exact up2_ne (by omega)⟩
theorem SB_w {σ σ' : Sto} {lo hi lo' hi' : Nat} (h : SameBut σ σ' lo hi) (h1 : lo' ≤ lo) (h2 : hi ≤ hi') : SameBut σ σ' lo' hi' :=
  ⟨h.1, h.2.1, h.2.2.1, h.2.2.2.1, h.2.2.2.2.1, fun b hb => h.2.2.2.2.2 b (by omega)⟩
section RK
variable {σ σ' : Sto} {w X : Nat} {S S' : Nat → Int32}
theorem RWd_G (h : RWd X σ w S) (hw : w + 52 < X + 173) (h0 : Shn σ' = Shn σ) (hb : SameBut σ σ' (w + 1) (w + 10)) (hS : ∀ j, ¬ (j = 2 ∨ j = 3 ∨ (11 ≤ j ∧ j ≤ 13) ∨ (30 ≤ j ∧ j < 124)) → S' j = S j) (h2 : S 2 ≤ S' 2) (hk : ∀ k np, k < np → S 2 = nI np → np ≤ 16 → S' (30 + 4 * k) = S (30 + 4 * k)) (hg : rG σ' w S') : RWd X σ' w S' := by
  obtain ⟨g1, g2, g3, g4, g5, g6, g7, g8⟩ := h
  obtain ⟨np, nf, hp, -, -, hp2, -⟩ := id g2
  obtain ⟨q1, q2, q3, q4, q5, q6⟩ := hb
  exact ⟨rDay_c g1 (q6 _ (by omega)) (hS 0 (by omega)), hg, rQ_c g3 (fun a _ _ => q6 a (by omega)) (fun j hj => hS j (by omega)), rS_c g4 (fun a _ _ => q6 a (by omega)) (fun j hj => hS j (by omega)) h2, rA_c g5 (fun a _ _ => q6 a (by omega)) (fun j hj => hS j (by omega)), rB_c g6 hp hp2 (fun a _ _ => q6 a (by omega)) (fun j hj => hS j (by omega)) (fun k hk' => hk k np hk' hp2 hp) h2 (by rw [hS 5 (by omega)]; exact Int32.le_refl _), rW_c g7 (fun a _ => q6 a (by omega)) (fun j hj => hS j (by omega)), rT_c g8 h0 q1 q2 q3 (fun a ha => q6 a (by omega)) (fun j hj => hS j (by omega))⟩
theorem RWd_Q (h : RWd X σ w S) (hw : w + 52 < X + 173) (h0 : Shn σ' = Shn σ) (hb : SameBut σ σ' (w + 21) (w + 24)) (hS : ∀ j, ¬ (j = 7 ∨ (14 ≤ j ∧ j < 21) ∨ (440 ≤ j ∧ j < 472)) → S' j = S j) (hq : rQ σ' w S') : RWd X σ' w S' := by
  obtain ⟨g1, g2, g3, g4, g5, g6, g7, g8⟩ := h
  obtain ⟨np, nf, hp, -, -, hp2, -⟩ := id g2
  obtain ⟨q1, q2, q3, q4, q5, q6⟩ := hb
  have e2 : S 2 ≤ S' 2 := by rw [hS 2 (by omega)]; exact Int32.le_refl _
  exact ⟨rDay_c g1 (q6 _ (by omega)) (hS 0 (by omega)), rG_c g2 (fun a _ _ => q6 a (by omega)) (fun j hj => hS j (by omega)), hq, rS_c g4 (fun a _ _ => q6 a (by omega)) (fun j hj => hS j (by omega)) e2, rA_c g5 (fun a _ _ => q6 a (by omega)) (fun j hj => hS j (by omega)), rB_c g6 hp hp2 (fun a _ _ => q6 a (by omega)) (fun j hj => hS j (by omega)) (fun k hk' => hS _ (by omega)) e2 (by rw [hS 5 (by omega)]; exact Int32.le_refl _), rW_c g7 (fun a _ => q6 a (by omega)) (fun j hj => hS j (by omega)), rT_c g8 h0 q1 q2 q3 (fun a ha => q6 a (by omega)) (fun j hj => hS j (by omega))⟩
theorem RWd_S (h : RWd X σ w S) (hw : w + 52 < X + 173) (h0 : Shn σ' = Shn σ) (hb : SameBut σ σ' (w + 28) (w + 31)) (hS : ∀ j, ¬ (j = 8 ∨ j = 10 ∨ (480 ≤ j ∧ j < 516)) → S' j = S j) (hs : rS σ' w S') : RWd X σ' w S' := by
  obtain ⟨g1, g2, g3, g4, g5, g6, g7, g8⟩ := h
  obtain ⟨np, nf, hp, -, -, hp2, -⟩ := id g2
  obtain ⟨q1, q2, q3, q4, q5, q6⟩ := hb
  have e2 : S 2 ≤ S' 2 := by rw [hS 2 (by omega)]; exact Int32.le_refl _
  exact ⟨rDay_c g1 (q6 _ (by omega)) (hS 0 (by omega)), rG_c g2 (fun a _ _ => q6 a (by omega)) (fun j hj => hS j (by omega)), rQ_c g3 (fun a _ _ => q6 a (by omega)) (fun j hj => hS j (by omega)), hs, rA_c g5 (fun a _ _ => q6 a (by omega)) (fun j hj => hS j (by omega)), rB_c g6 hp hp2 (fun a _ _ => q6 a (by omega)) (fun j hj => hS j (by omega)) (fun k hk' => hS _ (by omega)) e2 (by rw [hS 5 (by omega)]; exact Int32.le_refl _), rW_c g7 (fun a _ => q6 a (by omega)) (fun j hj => hS j (by omega)), rT_c g8 h0 q1 q2 q3 (fun a ha => q6 a (by omega)) (fun j hj => hS j (by omega))⟩
theorem RWd_A (h : RWd X σ w S) (hw : w + 52 < X + 173) (h0 : Shn σ' = Shn σ) (hb : SameBut σ σ' (w + 35) (w + 41)) (hS : ∀ j, ¬ (j = 9 ∨ (520 ≤ j ∧ j < 560)) → S' j = S j) (ha : rA σ' w S') : RWd X σ' w S' := by
  obtain ⟨g1, g2, g3, g4, g5, g6, g7, g8⟩ := h
  obtain ⟨np, nf, hp, -, -, hp2, -⟩ := id g2
  obtain ⟨q1, q2, q3, q4, q5, q6⟩ := hb
  have e2 : S 2 ≤ S' 2 := by rw [hS 2 (by omega)]; exact Int32.le_refl _
  exact ⟨rDay_c g1 (q6 _ (by omega)) (hS 0 (by omega)), rG_c g2 (fun a _ _ => q6 a (by omega)) (fun j hj => hS j (by omega)), rQ_c g3 (fun a _ _ => q6 a (by omega)) (fun j hj => hS j (by omega)), rS_c g4 (fun a _ _ => q6 a (by omega)) (fun j hj => hS j (by omega)) e2, ha, rB_c g6 hp hp2 (fun a _ _ => q6 a (by omega)) (fun j hj => hS j (by omega)) (fun k hk' => hS _ (by omega)) e2 (by rw [hS 5 (by omega)]; exact Int32.le_refl _), rW_c g7 (fun a _ => q6 a (by omega)) (fun j hj => hS j (by omega)), rT_c g8 h0 q1 q2 q3 (fun a ha => q6 a (by omega)) (fun j hj => hS j (by omega))⟩
theorem RWd_B (h : RWd X σ w S) (hw : w + 52 < X + 173) (h0 : Shn σ' = Shn σ) (hb : SameBut σ σ' (w + 15) (w + 20)) (hS : ∀ j, ¬ (j = 6 ∨ (340 ≤ j ∧ j < 440)) → S' j = S j) (hq : rB σ' w S') : RWd X σ' w S' := by
  obtain ⟨g1, g2, g3, g4, g5, g6, g7, g8⟩ := h
  obtain ⟨q1, q2, q3, q4, q5, q6⟩ := hb
  have e2 : S 2 ≤ S' 2 := by rw [hS 2 (by omega)]; exact Int32.le_refl _
  exact ⟨rDay_c g1 (q6 _ (by omega)) (hS 0 (by omega)), rG_c g2 (fun a _ _ => q6 a (by omega)) (fun j hj => hS j (by omega)), rQ_c g3 (fun a _ _ => q6 a (by omega)) (fun j hj => hS j (by omega)), rS_c g4 (fun a _ _ => q6 a (by omega)) (fun j hj => hS j (by omega)) e2, rA_c g5 (fun a _ _ => q6 a (by omega)) (fun j hj => hS j (by omega)), hq, rW_c g7 (fun a _ => q6 a (by omega)) (fun j hj => hS j (by omega)), rT_c g8 h0 q1 q2 q3 (fun a ha => q6 a (by omega)) (fun j hj => hS j (by omega))⟩
/-- the walkers' own fields, their number kept -/
theorem RWd_W (h : RWd X σ w S) (hw : w + 52 < X + 173) (h0 : Shn σ' = Shn σ) (hb : SameBut σ σ' (w + 43) (w + 52)) (hS : ∀ j, ¬ (130 ≤ j ∧ j < 330) → S' j = S j) (hq : ∀ nw k, nw ≤ 10 → S 5 = nI nw → k < nw → rW1 σ (w + 43 + k) S (130 + 20 * k) → rW1 σ' (w + 43 + k) S' (130 + 20 * k)) : RWd X σ' w S' := by
  obtain ⟨g1, g2, g3, g4, g5, g6, g7, g8⟩ := h
  obtain ⟨np, nf, hp, -, -, hp2, -⟩ := id g2
  obtain ⟨q1, q2, q3, q4, q5, q6⟩ := hb
  have e2 : S 2 ≤ S' 2 := by rw [hS 2 (by omega)]; exact Int32.le_refl _
  refine ⟨rDay_c g1 (q6 _ (by omega)) (hS 0 (by omega)), rG_c g2 (fun a _ _ => q6 a (by omega)) (fun j hj => hS j (by omega)), rQ_c g3 (fun a _ _ => q6 a (by omega)) (fun j hj => hS j (by omega)), rS_c g4 (fun a _ _ => q6 a (by omega)) (fun j hj => hS j (by omega)) e2, rA_c g5 (fun a _ _ => q6 a (by omega)) (fun j hj => hS j (by omega)), rB_c g6 hp hp2 (fun a _ _ => q6 a (by omega)) (fun j hj => hS j (by omega)) (fun k hk' => hS _ (by omega)) e2 (by rw [hS 5 (by omega)]; exact Int32.le_refl _), ?_, rT_c g8 h0 q1 q2 q3 (fun a ha => q6 a (by omega)) (fun j hj => hS j (by omega))⟩
  obtain ⟨nw, n1, n2, n3, n4⟩ := g7
  exact ⟨nw, n1, by rw [q6 w (by omega)]; exact n2, by rw [hS 5 (by omega)]; exact n3, fun k hk => hq nw k n1 n3 hk (n4 k hk)⟩
end RK
section RN
variable {X Y : Nat} {σ ρ σ' ρ' : Sto}
/-- the world that is now has changed, and the reference's row, nothing else -/
theorem REL_W (h : REL X Y σ ρ) (h0 : Shn σ' = Shn σ) (hb : SameBut σ σ' (X + 1) (X + 53)) (kb : SameBut ρ ρ' (Y + 1) (Y + 1)) (hw : RWd X σ' (X + 1) (SI ρ' (Y + 1))) : REL X Y σ' ρ' := by
  obtain ⟨g1, g2, g3, g4, g5, g6, g7, g8, g9, g10⟩ := h
  obtain ⟨q1, q2, q3, q4, q5, q6⟩ := hb
  obtain ⟨k1, k2, k3, k4, k5, k6⟩ := kb
  refine ⟨g1, by rw [h0]; exact g2, LayX_c g3 q1 q2 q3, LayY_c g4 k1 k2 k3, by rw [q5]; exact g5, hw, ?_, rTape_c g8 (q6 _ (by omega)) (q6 _ (by omega)) (by rw [k6 Y (by omega)]) (k6 _ (by omega)), rSh_c g9 (fun b _ _ => ⟨q6 _ (by omega), by rw [q4]⟩) (k6 _ (by omega)) (k6 _ (by omega)) (by rw [k4]), rTell_c g10 (by rw [q6 X (by omega)]) (q6 _ (by omega)) (by rw [k6 Y (by omega)]) (k6 _ (by omega))⟩
  rw [q6 X (by omega), k6 Y (by omega), k6 (Y + 2) (by omega)]
  rcases g7 with q | ⟨z1, z2, z3⟩
  · exact Or.inl q
  · exact Or.inr ⟨z1, z2, RWd_c z3 h0 q1 q2 q3 (fun b hb => q6 _ (by omega)) (fun _ _ => rfl)⟩
theorem OpOK_b {C : Rs Int32} {R : Sto → Rs Int32} (c : Int32) (h : REL X Y σ ρ) (hC : C = (c, true, σ)) (hR : R (stn ρ (Shn σ)) = (c, true, stn ρ (Shn σ))) : OpOK (REL X Y) C R ρ := OpOK_i c σ (stn ρ (Shn σ)) hC hR rfl (REL_same h)
end RN
