/-! least ways: the loops -/
section RL
variable {α β : Type} {X Y w : Nat} {σ ρ : Sto}
/-- a loop that ends in whatever comes next -/
theorem lp_exU {γ : Type} {body : γ → (Int32 → Bool → Sto → Rs α) → Int32 → Bool → Sto → Rs α} {bad : Int32 → Bool → Sto → Rs α} (N : Nat) (P : Nat → Sto → Prop) (K : γ → Sto → Rs α) (hN : N < 69999)
    (hstep : ∀ i τ, i < N → P i τ → ∃ τ', P (i + 1) τ' ∧ ∀ g L, body g L (nI i) true τ = L (nI i + 1) true τ') (hexit : ∀ g L τ, P N τ → body g L (nI N) true τ = K g τ) (τ : Sto) (h0 : P 0 τ) :
    ∃ τ', P N τ' ∧ ∀ g, lp_ (body g) bad fuel_ 0 true τ = K g τ' := by
  have key : ∀ n, ∀ i τ, i ≤ N → N - i < n → P i τ → ∃ τ', P N τ' ∧ ∀ g, lp_ (body g) bad n (nI i) true τ = K g τ' := by
    intro n
    induction n with
    | zero => exact fun i τ _ h _ => absurd h (Nat.not_lt_zero _)
    | succ n ih =>
      intro i τ hi hn hp
      by_cases hlt : i < N
      · obtain ⟨τ1, p1, e1⟩ := hstep i τ hlt hp
        obtain ⟨τ2, p2, e2⟩ := ih (i + 1) τ1 hlt (by omega) p1
        refine ⟨τ2, p2, fun g => ?_⟩
        rw [lp_S, e1, show nI i + 1 = nI (i + 1) from nI_1 i]
        exact e2 g
      · have e : i = N := by omega
        subst e
        exact ⟨τ, hp, fun g => by rw [lp_S]; exact hexit g _ τ hp⟩
  exact key fuel_ 0 τ (Nat.zero_le _) (by show N - 0 < 70000; omega) h0
/-- one row alone has changed -/
def Fr1 (a : Nat) (σ τ : Sto) : Prop := Shn τ = Shn σ ∧ Stk τ = Stk σ ∧ Sln τ = Sln σ ∧ SR τ = SR σ ∧ SL τ = SL σ ∧ Scs τ = Scs σ ∧ ∀ x, x ≠ a → SI τ x = SI σ x
theorem Fr1_0 {a : Nat} : Fr1 a σ σ := ⟨rfl, rfl, rfl, rfl, rfl, rfl, fun _ _ => rfl⟩
theorem Fr1_p {a j : Nat} {v : Int32} {τ : Sto} (h : Fr1 a σ τ) : Fr1 a σ (pI τ a j v) :=
  ⟨by rw [Shn_pI, h.1], by rw [Stk_pI, h.2.1], by rw [Sln_pI, h.2.2.1], by rw [SR_pI, h.2.2.2.1], by rw [SL_pI, h.2.2.2.2.1], by rw [Scs_pI, h.2.2.2.2.2.1], fun x hx => by rw [SI_pI, up2_ne hx, h.2.2.2.2.2.2 x hx]⟩
theorem Fr1_t {a : Nat} {τ υ : Sto} (h : Fr1 a σ τ) (g : Fr1 a τ υ) : Fr1 a σ υ :=
  ⟨g.1.trans h.1, g.2.1.trans h.2.1, g.2.2.1.trans h.2.2.1, g.2.2.2.1.trans h.2.2.2.1, g.2.2.2.2.1.trans h.2.2.2.2.1, g.2.2.2.2.2.1.trans h.2.2.2.2.2.1, fun x hx => (g.2.2.2.2.2.2 x hx).trans (h.2.2.2.2.2.2 x hx)⟩
/-- a row of numbers -/
def rowN (τ : Sto) (a : Nat) (d : Nat → Nat) : Prop := ∀ v, v < 16 → SI τ a v = nI (d v)
theorem row_hx {τ : Sto} {a x y u : Nat} {d : Nat → Nat} (h : rowN τ a d) (hx16 : x < 16) (hy : y < 16) (hb : ∀ v, d v ≤ 1000000) (hu : u ≤ 999) : mnI (SI τ a x) (SI τ a y + nI u) = nI (min (d x) (d y + u)) ∧ rowN (pI τ a x (nI (min (d x) (d y + u)))) a (hx x y u d) := by
  have b1 := hb x
  have b2 := hb y
  refine ⟨by rw [h x hx16, h y hy, nI_add, mnI_n (by omega) (by omega)], fun v hv => ?_⟩
  unfold hx
  rw [SI_pI]
  by_cases e : v = x
  · rw [if_pos e, e, up2_s]
  · rw [if_neg e, up2_nj e]
    exact h v hv
/-- the rides of the row of the reference, as plain numbers -/
def rdA (S : Nat → Int32) (k : Nat) : Nat := ix (S (480 + 3 * k))
def rdB (S : Nat → Int32) (k : Nat) : Nat := ix (S (481 + 3 * k))
def rdW (S : Nat → Int32) (k : Nat) : Nat := ix (S (482 + 3 * k))
def rdOK (S : Nat → Int32) (nr : Nat) : Prop := ∀ k, k < nr → S (480 + 3 * k) = nI (rdA S k) ∧ S (481 + 3 * k) = nI (rdB S k) ∧ S (482 + 3 * k) = nI (rdW S k) ∧ rdA S k < 16 ∧ rdB S k < 16 ∧ 1 ≤ rdW S k ∧ rdW S k ≤ 999
/-- the class's rounds -/
theorem C_rnd (hW : LayW w σ) {S : Nat → Int32} {nr : Nat} (hn : nr ≤ 12) (r2 : SI σ (w + 28) 4 = nI nr) (hr : ∀ k, k < nr → SI σ (w + 29) k = S (480 + 3 * k) ∧ SI σ (w + 30) k = S (481 + 3 * k) ∧ SI σ (w + 31) k = S (482 + 3 * k)) (hS : rdOK S nr) {d : Nat → Nat} (hd : ∀ v, d v ≤ 1000000) {τ : Sto} (f : Fr1 (w + 32) σ τ) (h : rowN τ (w + 32) d) (x2 : Int32) : ∃ τ', (Fr1 (w + 32) σ τ' ∧ rowN τ' (w + 32) (rnd (rdA S) (rdB S) (rdW S) nr d)) ∧ ∀ g : Int32 × (Int32 → Bool → Sto → Rs Int32), lp_ (b_Supply_leastMinutes_29 (w + 28) x2 g.1 g.2) (fun (x4 : Int32) (b : Bool) (σ : Sto) => (0, false, σ)) fuel_ 0 true τ = g.2 (g.1 + 1) true τ' := by
  refine lp_exU (body := fun (g : Int32 × (Int32 → Bool → Sto → Rs Int32)) => b_Supply_leastMinutes_29 (w + 28) x2 g.1 g.2) nr (fun k τ => Fr1 (w + 32) σ τ ∧ rowN τ (w + 32) (rnd (rdA S) (rdB S) (rdW S) k d)) (fun g τ => g.2 (g.1 + 1) true τ) (by omega) (fun i τ hi ⟨q1, q2⟩ => ?_) (fun g L τ ⟨q1, q2⟩ => ?_) τ ⟨f, h⟩
  · have hL : LayW w τ := LayT_c hW q1.2.1 q1.2.2.1 q1.2.2.2.1
    obtain ⟨s1, s2, s3, s4, s5, s6, s7⟩ := hS i hi
    obtain ⟨c1, c2, c3⟩ := hr i hi
    have hb : ∀ v, rnd (rdA S) (rdB S) (rdW S) i d v ≤ 1000000 := fun v => Nat.le_trans (rnd_le v) (hd v)
    have t29 : SI τ (w + 29) i = nI (rdA S i) := by rw [q1.2.2.2.2.2.2 _ (by omega), c1, s1]
    have t30 : SI τ (w + 30) i = nI (rdB S i) := by rw [q1.2.2.2.2.2.2 _ (by omega), c2, s2]
    have t31 : SI τ (w + 31) i = nI (rdW S i) := by rw [q1.2.2.2.2.2.2 _ (by omega), c3, s3]
    have t28 : SI τ (w + 28) 4 = nI nr := by rw [q1.2.2.2.2.2.2 _ (by omega), r2]
    obtain ⟨m1, m2⟩ := row_hx q2 s4 s5 hb s7
    have hb2 : ∀ v, hx (rdA S i) (rdB S i) (rdW S i) (rnd (rdA S) (rdB S) (rdW S) i d) v ≤ 1000000 := fun v => Nat.le_trans (hx_le v) (hb v)
    obtain ⟨m3, m4⟩ := row_hx m2 s5 s4 hb2 s7
    refine ⟨_, ⟨Fr1_p (Fr1_p q1), m4⟩, fun g L => ?_⟩
    have f1 : Fr1 (w + 32) σ (pI τ (w + 32) (rdA S i) (nI (min (rnd (rdA S) (rdB S) (rdW S) i d (rdA S i)) (rnd (rdA S) (rdB S) (rdW S) i d (rdB S i) + rdW S i)))) := Fr1_p q1
    have t31' : SI (pI τ (w + 32) (rdA S i) (nI (min (rnd (rdA S) (rdB S) (rdW S) i d (rdA S i)) (rnd (rdA S) (rdB S) (rdW S) i d (rdB S i) + rdW S i)))) (w + 31) i = nI (rdW S i) := by rw [SI_pI, up2_ne' (by omega)]; exact t31
    unfold b_Supply_leastMinutes_29
    rw [t28, if_pos (nI_lt hi (by omega)), lt_, lt_, rW_28_1 hL, rW_28_2 hL, rW_28_3 hL, rW_28_5 hL, ix_nI (show i < 2 ^ 31 by omega), t29, t30, t31, ix_nI (show rdA S i < 2 ^ 31 by omega), ix_nI (show rdB S i < 2 ^ 31 by omega), lt_, m1]
    generalize pI τ (w + 32) (rdA S i) (nI (min (rnd (rdA S) (rdB S) (rdW S) i d (rdA S i)) (rnd (rdA S) (rdB S) (rdW S) i d (rdB S i) + rdW S i))) = τ1 at *
    have hL1 : LayW w τ1 := LayT_c hW f1.2.1 f1.2.2.1 f1.2.2.2.1
    rw [lt_, lt_, rW_28_3 hL1, rW_28_5 hL1, t31', m3, cK_of (kW_28 hL), cA_of (kW_29 hL) (nW_29 hL) (show i < 12 by omega) (by decide), cA_of (kW_30 hL) (nW_30 hL) (show i < 12 by omega) (by decide), cA_of (kW_31 hL) (nW_31 hL) (show i < 12 by omega) (by decide), cA_of (kW_32 hL) (nW_32 hL) s4 (by decide), cA_of (kW_32 hL) (nW_32 hL) s5 (by decide), cK_of (kW_28 hL1), cA_of (kW_31 hL1) (nW_31 hL1) (show i < 12 by omega) (by decide), cA_of (kW_32 hL1) (nW_32 hL1) s4 (by decide), cA_of (kW_32 hL1) (nW_32 hL1) s5 (by decide)]
    rfl
  · have hL : LayW w τ := LayT_c hW q1.2.1 q1.2.2.1 q1.2.2.2.1
    have t28 : SI τ (w + 28) 4 = nI nr := by rw [q1.2.2.2.2.2.2 _ (by omega), r2]
    show b_Supply_leastMinutes_29 (w + 28) x2 g.1 g.2 L (nI nr) true τ = _
    unfold b_Supply_leastMinutes_29
    rw [t28, if_neg (nI_nlt (Nat.le_refl nr) (by omega)), lt_, cK_of (kW_28 hL)]
    rfl
/-- the reference's rounds -/
theorem M_rnd (hY : LayY Y ρ) {nr : Nat} (hn : nr ≤ 12) (r2 : SI ρ (Y + 1) 8 = nI nr) (hS : rdOK (SI ρ (Y + 1)) nr) {d : Nat → Nat} (hd : ∀ v, d v ≤ 1000000) {τ : Sto} (f : Fr1 (Y + 14) ρ τ) (h : rowN τ (Y + 14) d) (x2 : Int32) : ∃ τ', (Fr1 (Y + 14) ρ τ' ∧ rowN τ' (Y + 14) (rnd (rdA (SI ρ (Y + 1))) (rdB (SI ρ (Y + 1))) (rdW (SI ρ (Y + 1))) nr d)) ∧ ∀ g : Int32 × (Int32 → Bool → Sto → Rs Int32), lp_ (b_Model_rideOf_43 Y x2 g.1 g.2) (fun (x4 : Int32) (b : Bool) (σ : Sto) => (0, false, σ)) fuel_ 0 true τ = g.2 (g.1 + 1) true τ' := by
  generalize hSS : SI ρ (Y + 1) = S at *
  refine lp_exU (body := fun (g : Int32 × (Int32 → Bool → Sto → Rs Int32)) => b_Model_rideOf_43 Y x2 g.1 g.2) nr (fun k τ => Fr1 (Y + 14) ρ τ ∧ rowN τ (Y + 14) (rnd (rdA S) (rdB S) (rdW S) k d)) (fun g τ => g.2 (g.1 + 1) true τ) (by omega) (fun i τ hi ⟨q1, q2⟩ => ?_) (fun g L τ ⟨q1, q2⟩ => ?_) τ ⟨f, h⟩
  · have hL : LayY Y τ := LayY_c hY q1.2.1 q1.2.2.1 q1.2.2.2.1
    obtain ⟨s1, s2, s3, s4, s5, s6, s7⟩ := hS i hi
    have hb : ∀ v, rnd (rdA S) (rdB S) (rdW S) i d v ≤ 1000000 := fun v => Nat.le_trans (rnd_le v) (hd v)
    have tS : SI τ (Y + 1) = S := by rw [q1.2.2.2.2.2.2 _ (by omega), hSS]
    obtain ⟨m1, m2⟩ := row_hx q2 s4 s5 hb s7
    have hb2 : ∀ v, hx (rdA S i) (rdB S i) (rdW S i) (rnd (rdA S) (rdB S) (rdW S) i d) v ≤ 1000000 := fun v => Nat.le_trans (hx_le v) (hb v)
    obtain ⟨m3, m4⟩ := row_hx m2 s5 s4 hb2 s7
    refine ⟨_, ⟨Fr1_p (Fr1_p q1), m4⟩, fun g L => ?_⟩
    have f1 : Fr1 (Y + 14) ρ (pI τ (Y + 14) (rdA S i) (nI (min (rnd (rdA S) (rdB S) (rdW S) i d (rdA S i)) (rnd (rdA S) (rdB S) (rdW S) i d (rdB S i) + rdW S i)))) := Fr1_p q1
    have tS' : SI (pI τ (Y + 14) (rdA S i) (nI (min (rnd (rdA S) (rdB S) (rdW S) i d (rdA S i)) (rnd (rdA S) (rdB S) (rdW S) i d (rdB S i) + rdW S i)))) (Y + 1) = S := by rw [SI_pI, up2_ne (by omega)]; exact tS
    have a1 : (480 : Int32) + 3 * nI i = nI (480 + 3 * i) := ar2 480 3 i
    have a2 : nI (480 + 3 * i) + 1 = nI (481 + 3 * i) := by rw [nI_p1]; congr 1; omega
    have a3 : nI (480 + 3 * i) + 2 = nI (482 + 3 * i) := by rw [nI_p2]; congr 1; omega
    have z1 := cY hL (show 480 + 3 * i < 3210 by omega)
    have z2 := cY hL (show 481 + 3 * i < 3210 by omega)
    have z3 := cY hL (show 482 + 3 * i < 3210 by omega)
    have z4 := cA_of (kY_14 hL) (nY_14 hL) s4 (by decide)
    have z5 := cA_of (kY_14 hL) (nY_14 hL) s5 (by decide)
    show b_Model_rideOf_43 Y x2 g.1 g.2 L (nI i) true τ = _
    unfold b_Model_rideOf_43
    rw [rY_0 hL, rY_26 hL, show ix (8 : Int32) = 8 from rfl, tS, r2, if_pos (nI_lt hi (by omega)), lt_, a1, a2, a3, ix_nI (show 480 + 3 * i < 2 ^ 31 by omega), ix_nI (show 481 + 3 * i < 2 ^ 31 by omega), ix_nI (show 482 + 3 * i < 2 ^ 31 by omega), s1, s2, s3, ix_nI (show rdA S i < 2 ^ 31 by omega), ix_nI (show rdB S i < 2 ^ 31 by omega), z1, z2, z3, z4, z5, cK_of (kY_0 hL), cYk hL 8 (v := 8) rfl (by decide)]
    simp only [Bool.and_true]
    rw [e_least, mnI_lt, m1, bd_]
    dsimp only
    rw [lt_, z4]
    generalize pI τ (Y + 14) (rdA S i) (nI (min (rnd (rdA S) (rdB S) (rdW S) i d (rdA S i)) (rnd (rdA S) (rdB S) (rdW S) i d (rdB S i) + rdW S i))) = τ1 at *
    have hL1 : LayY Y τ1 := LayY_c hY f1.2.1 f1.2.2.1 f1.2.2.2.1
    have y1 := cY hL1 (show 480 + 3 * i < 3210 by omega)
    have y2 := cY hL1 (show 481 + 3 * i < 3210 by omega)
    have y3 := cY hL1 (show 482 + 3 * i < 3210 by omega)
    have y4 := cA_of (kY_14 hL1) (nY_14 hL1) s4 (by decide)
    have y5 := cA_of (kY_14 hL1) (nY_14 hL1) s5 (by decide)
    rw [rY_0 hL1, rY_26 hL1, tS', s1, s2, s3, ix_nI (show rdA S i < 2 ^ 31 by omega), ix_nI (show rdB S i < 2 ^ 31 by omega), y1, y2, y3, y4, y5, cK_of (kY_0 hL1)]
    simp only [Bool.and_true]
    rw [e_least, mnI_lt, m3, bd_]
    dsimp only
    rw [lt_, lt_, y5]
    rfl
  · have hL : LayY Y τ := LayY_c hY q1.2.1 q1.2.2.1 q1.2.2.2.1
    have tS : SI τ (Y + 1) = S := by rw [q1.2.2.2.2.2.2 _ (by omega), hSS]
    show b_Model_rideOf_43 Y x2 g.1 g.2 L (nI nr) true τ = _
    unfold b_Model_rideOf_43
    rw [rY_0 hL, show ix (8 : Int32) = 8 from rfl, tS, r2, if_neg (nI_nlt (Nat.le_refl nr) (by omega)), lt_, cK_of (kY_0 hL), cYk hL 8 (v := 8) rfl (by decide)]
    rfl
end RL
