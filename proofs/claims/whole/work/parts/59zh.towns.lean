/-! the towns in their order -/
section TW
variable {α : Type} {X Y w : Nat} {σ ρ : Sto}
/-- p put in at x -/
def insAt (r : Nat → Nat) (p x : Nat) : Nat → Nat := fun i => if i < x then r i else if i = x then p else r (i - 1)
/-- where p belongs among the first x -/
def posI (S : Nat → Int32) (r : Nat → Nat) (p : Nat) : Nat → Nat
  | 0 => 0
  | x + 1 => if S (31 + 4 * p) < S (31 + 4 * r x) then posI S r p x else x + 1
/-- the towns among the first places: how many, which -/
def twN (S : Nat → Int32) : Nat → Nat
  | 0 => 0
  | p + 1 => if S (30 + 4 * p) = 3 then twN S p + 1 else twN S p
def twR (S : Nat → Int32) : Nat → Nat → Nat
  | 0 => fun _ => 0
  | p + 1 => if S (30 + 4 * p) = 3 then insAt (twR S p) p (posI S (twR S p) p (twN S p)) else twR S p
theorem twN_le {S : Nat → Int32} : ∀ {p : Nat}, twN S p ≤ p
  | 0 => Nat.le_refl _
  | p + 1 => by
    have := twN_le (S := S) (p := p)
    unfold twN
    by_cases h : S (30 + 4 * p) = 3
    · rw [if_pos h]; omega
    · rw [if_neg h]; omega
theorem posI_le {S : Nat → Int32} {r : Nat → Nat} {p : Nat} : ∀ {x : Nat}, posI S r p x ≤ x
  | 0 => Nat.le_refl _
  | x + 1 => by
    have := posI_le (S := S) (r := r) (p := p) (x := x)
    unfold posI
    by_cases h : S (31 + 4 * p) < S (31 + 4 * r x)
    · rw [if_pos h]; omega
    · rw [if_neg h]; exact Nat.le_refl _
/-- the loop that puts p in -/
theorem ins_loop {γ : Type} {body : γ → (Int32 → Bool → Sto → Rs α) → Int32 → Bool → Sto → Rs α} {bad : Int32 → Bool → Sto → Rs α} (S : Nat → Int32) (a : Nat) (cd : Nat → Int32) (r : Nat → Nat) (n p : Nat) (K : γ → Sto → Rs α)
    (hstep : ∀ x τ, x < n → Fr1 a σ τ → SI τ a x = cd (r x) → ∀ g L, body g L (nI (x + 1)) true τ = if S (31 + 4 * p) < S (31 + 4 * r x) then L (nI x) true (pI τ a (x + 1) (cd (r x))) else K g (pI τ a (x + 1) (cd p)))
    (h0 : ∀ τ, Fr1 a σ τ → ∀ g L, body g L (nI 0) true τ = K g (pI τ a 0 (cd p))) :
    ∀ x, x ≤ n → ∀ fu τ, x < fu → Fr1 a σ τ → (∀ i, i < x → SI τ a i = cd (r i)) → (∀ i, x < i → i ≤ n → SI τ a i = cd (r (i - 1))) → ∃ τ', Fr1 a σ τ' ∧ (∀ i, i ≤ n → SI τ' a i = cd (insAt r p (posI S r p x) i)) ∧ ∀ g, lp_ (body g) bad fu (nI x) true τ = K g τ' := by
  intro x
  have fin : ∀ x τ, x ≤ n → (∀ i, i < x → SI τ a i = cd (r i)) → (∀ i, x < i → i ≤ n → SI τ a i = cd (r (i - 1))) → ∀ i, i ≤ n → SI (pI τ a x (cd p)) a i = cd (insAt r p x i) := fun x τ hx q1 q2 i hi => by
    unfold insAt
    rw [SI_pI]
    by_cases e : i = x
    · rw [e, up2_s, if_neg (Nat.lt_irrefl x), if_pos rfl]
    · rw [up2_nj e]
      by_cases c : i < x
      · rw [if_pos c, q1 i c]
      · rw [if_neg c, if_neg e, q2 i (by omega) hi]
  induction x with
  | zero =>
    intro hx fu τ hf f q1 q2
    obtain ⟨fu, rfl⟩ : ∃ z, fu = z + 1 := ⟨fu - 1, by omega⟩
    exact ⟨_, Fr1_p f, fin 0 τ hx q1 q2, fun g => by rw [lp_S]; exact h0 τ f g _⟩
  | succ x ih =>
    intro hx fu τ hf f q1 q2
    obtain ⟨fu, rfl⟩ : ∃ z, fu = z + 1 := ⟨fu - 1, by omega⟩
    have hs := hstep x τ (by omega) f (q1 x (by omega))
    unfold posI
    by_cases c : S (31 + 4 * p) < S (31 + 4 * r x)
    · obtain ⟨τ', k1, k2, k3⟩ := ih (by omega) fu (pI τ a (x + 1) (cd (r x))) (by omega) (Fr1_p f) (fun i hi => by rw [SI_pI, up2_nj (by omega)]; exact q1 i (by omega)) (fun i hi hn => by
        rw [SI_pI]
        by_cases e : i = x + 1
        · rw [e, up2_s, Nat.add_sub_cancel]
        · rw [up2_nj e]
          exact q2 i (by omega) hn)
      rw [if_pos c]
      refine ⟨τ', k1, k2, fun g => ?_⟩
      rw [lp_S, hs, if_pos c]
      exact k3 g
    · rw [if_neg c]
      refine ⟨_, Fr1_p f, fin (x + 1) τ hx q1 q2, fun g => ?_⟩
      rw [lp_S, hs, if_neg c]
/-- the towns of the class: their miles in order -/
theorem C_towns (hW : LayW w σ) (hc : Scs σ 0 ≠ 0) {S : Nat → Int32} {np : Nat} (hp : np ≤ 16) (p3 : SI σ (w + 1) 10 = nI np) (p9 : ∀ k, k < np → SI σ (w + 2) k = S (30 + 4 * k) ∧ SI σ (w + 3) k = S (31 + 4 * k) ∧ bd (S (30 + 4 * k)) 0 5) : ∃ τ, Fr1 (w + 33) σ τ ∧ (∀ i, i < twN S np → SI τ (w + 33) i = S (31 + 4 * twR S np i)) ∧ f_Supply_lineUpTowns (w + 28) (w + 1) true σ = (nI (twN S np), true, τ) := by
  obtain ⟨a, τ, ⟨k1, k2, k3⟩, e⟩ := lp_exA (body := b_Supply_lineUpTowns_4 (w + 28) (w + 1)) (bad := fun (x2 : Int32) (x3 : Int32) (b : Bool) (σ : Sto) => (0, false, σ)) np (fun k a τ => a = nI (twN S k) ∧ Fr1 (w + 33) σ τ ∧ ∀ i, i < twN S k → SI τ (w + 33) i = S (31 + 4 * twR S k i)) (fun a τ => (a, true, τ)) (by omega)
    (fun p a τ hpp ⟨q0, q1, q2⟩ => by
      subst q0
      have hL : LayW w τ := LayT_c hW q1.2.1 q1.2.2.1 q1.2.2.2.1
      have hn := twN_le (S := S) (p := p)
      obtain ⟨c1, c2, c3⟩ := p9 p hpp
      have t1 : SI τ (w + 1) 10 = nI np := by rw [q1.2.2.2.2.2.2 _ (by omega), p3]
      have t2 : SI τ (w + 2) p = S (30 + 4 * p) := by rw [q1.2.2.2.2.2.2 _ (by omega), c1]
      have et := e_isTownC hL (by rw [q1.2.2.2.2.2.1]; exact hc) (show p < 16 by omega) (by rw [t2]; exact c3)
      rw [t2] at et
      have pre : ∀ L, b_Supply_lineUpTowns_4 (w + 28) (w + 1) L (nI (twN S p)) (nI p) true τ = (if bI (S (30 + 4 * p) = 3) = 0 then L (nI (twN S p)) (nI p + 1) true τ else lp_ (b_Supply_lineUpTowns_26 (w + 28) (w + 1) (nI (twN S p)) (nI p) (fun (x2_87 : Int32) (b : Bool) (σ : Sto) => lt_ (nI p + 1) (fun (x3_4 : Int32) => L x2_87 x3_4 b σ))) (fun (x4 : Int32) (b : Bool) (σ : Sto) => (0, false, σ)) fuel_ (nI (twN S p)) true τ) := fun L => by
        unfold b_Supply_lineUpTowns_4
        rw [t1, if_pos (nI_lt hpp (by omega)), cK_of (kW_1 hL)]
        simp only [Bool.and_true]
        rw [et, bd_]
        dsimp only
        rw [lt_, lt_]
        rfl
      by_cases c : S (30 + 4 * p) = 3
      · have en : twN S (p + 1) = twN S p + 1 := by show (if S (30 + 4 * p) = 3 then twN S p + 1 else twN S p) = _; rw [if_pos c]
        have er : twR S (p + 1) = insAt (twR S p) p (posI S (twR S p) p (twN S p)) := by show (if S (30 + 4 * p) = 3 then insAt (twR S p) p (posI S (twR S p) p (twN S p)) else twR S p) = _; rw [if_pos c]
        obtain ⟨τ', m1, m2, m3⟩ := ins_loop (σ := σ) (body := fun (g : Int32 → Bool → Sto → Rs Int32) => b_Supply_lineUpTowns_26 (w + 28) (w + 1) (nI (twN S p)) (nI p) g) (bad := fun (x4 : Int32) (b : Bool) (σ : Sto) => (0, false, σ)) S (w + 33) (fun k => S (31 + 4 * k)) (twR S p) (twN S p) p (fun g τ => g (nI (twN S p) + 1) true τ)
          (fun x υ hx f hcell g L => by
            have hL : LayW w υ := LayT_c hW f.2.1 f.2.2.1 f.2.2.2.1
            have t3 : SI υ (w + 3) p = S (31 + 4 * p) := by rw [f.2.2.2.2.2.2 _ (by omega), c2]
            have j1 : nI (x + 1) - 1 = nI x := by rw [← nI_p1, Int32.add_sub_cancel]
            have j2 : nI (x + 1) + -1 = nI x := by rw [← Int32.sub_eq_add_neg]; exact j1
            show b_Supply_lineUpTowns_26 (w + 28) (w + 1) (nI (twN S p)) (nI p) g L (nI (x + 1)) true υ = _
            unfold b_Supply_lineUpTowns_26
            rw [lt_]
            dsimp only
            rw [if_pos (show (0 : Int32) < nI (x + 1) from nI_lt (a := 0) (by omega) (by omega)), j1, j2, rW_1_1 hL, rW_28_6 hL, ix_nI (show p < 2 ^ 31 by omega), ix_nI (show x < 2 ^ 31 by omega), ix_nI (show x + 1 < 2 ^ 31 by omega), t3, hcell, cK_of (kW_28 hL), cK_of (kW_1 hL), cA_of (kW_3 hL) (nW_3 hL) (show p < 16 by omega) (by decide), cA_of (kW_33 hL) (nW_33 hL) (show x < 17 by omega) (by decide), cA_of (kW_33 hL) (nW_33 hL) (show x + 1 < 17 by omega) (by decide)]
            by_cases d : S (31 + 4 * p) < S (31 + 4 * twR S p x)
            · rw [if_pos d, if_pos d]
              rfl
            · rw [if_neg d, if_neg d]
              rfl)
          (fun υ f g L => by
            have hL : LayW w υ := LayT_c hW f.2.1 f.2.2.1 f.2.2.2.1
            have t3 : SI υ (w + 3) p = S (31 + 4 * p) := by rw [f.2.2.2.2.2.2 _ (by omega), c2]
            show b_Supply_lineUpTowns_26 (w + 28) (w + 1) (nI (twN S p)) (nI p) g L (nI 0) true υ = _
            unfold b_Supply_lineUpTowns_26
            rw [lt_]
            dsimp only
            rw [if_neg (show ¬ (0 : Int32) < nI 0 by decide), rW_1_1 hL, rW_28_6 hL, ix_nI (show p < 2 ^ 31 by omega), show ix (nI 0) = 0 from rfl, t3, cK_of (kW_28 hL), cK_of (kW_1 hL), cA_of (kW_3 hL) (nW_3 hL) (show p < 16 by omega) (by decide), cA_of (kW_33 hL) (nW_33 hL) (show 0 < 17 by omega) (by decide)]
            rfl)
          (twN S p) (Nat.le_refl _) fuel_ τ (by show twN S p < 70000; omega) q1 (fun i hi => q2 i hi) (fun i h1 h2 => absurd h1 (by omega))
        refine ⟨nI (twN S p) + 1, τ', ⟨by rw [en]; exact nI_1 _, m1, fun i hi => by rw [er]; exact m2 i (by omega)⟩, fun L => ?_⟩
        rw [pre, bI_t c, if_neg (show ¬ (1 : Int32) = 0 by decide)]
        exact m3 (fun (x2_87 : Int32) (b : Bool) (σ : Sto) => lt_ (nI p + 1) (fun (x3_4 : Int32) => L x2_87 x3_4 b σ))
      · have en : twN S (p + 1) = twN S p := by show (if S (30 + 4 * p) = 3 then twN S p + 1 else twN S p) = _; rw [if_neg c]
        have er : twR S (p + 1) = twR S p := by show (if S (30 + 4 * p) = 3 then insAt (twR S p) p (posI S (twR S p) p (twN S p)) else twR S p) = _; rw [if_neg c]
        refine ⟨nI (twN S p), τ, ⟨by rw [en], q1, fun i hi => by rw [er]; exact q2 i (by omega)⟩, fun L => ?_⟩
        rw [pre, bI_f c, if_pos rfl])
    (fun L a τ ⟨q0, q1, q2⟩ => by
      have hL : LayW w τ := LayT_c hW q1.2.1 q1.2.2.1 q1.2.2.2.1
      have t1 : SI τ (w + 1) 10 = nI np := by rw [q1.2.2.2.2.2.2 _ (by omega), p3]
      unfold b_Supply_lineUpTowns_4
      rw [t1, if_neg (nI_nlt (Nat.le_refl np) (by omega)), cK_of (kW_1 hL)]
      rfl)
    0 σ ⟨rfl, Fr1_0, fun i hi => absurd hi (Nat.not_lt_zero _)⟩
  subst k1
  refine ⟨τ, k2, k3, ?_⟩
  unfold f_Supply_lineUpTowns
  rw [lt_, lt_]
  exact e
/-- the towns of the reference: their numbers in order -/
theorem M_towns (hY : LayY Y ρ) {S : Nat → Int32} (hS : SI ρ (Y + 1) = S) {np : Nat} (hp : np ≤ 16) (p4 : S 2 = nI np) : ∃ τ, Fr1 (Y + 13) ρ τ ∧ (∀ i, i < twN S np → SI τ (Y + 13) i = nI (twR S np i)) ∧ (∀ i, i < twN S np → twR S np i < np) ∧ f_Model_findTowns Y true ρ = (nI (twN S np), true, τ) := by
  obtain ⟨a, τ, ⟨k1, k2, k3, k4⟩, e⟩ := lp_exA (body := b_Model_findTowns_4 Y) (bad := fun (x1 : Int32) (x2 : Int32) (b : Bool) (σ : Sto) => (0, false, σ)) np (fun k a τ => a = nI (twN S k) ∧ Fr1 (Y + 13) ρ τ ∧ (∀ i, i < twN S k → SI τ (Y + 13) i = nI (twR S k i)) ∧ ∀ i, i < twN S k → twR S k i < k) (fun a τ => (a, true, τ)) (by omega)
    (fun p a τ hpp ⟨q0, q1, q2, q3⟩ => by
      subst q0
      have hL : LayY Y τ := LayY_c hY q1.2.1 q1.2.2.1 q1.2.2.2.1
      have hn := twN_le (S := S) (p := p)
      have tS : SI τ (Y + 1) = S := by rw [q1.2.2.2.2.2.2 _ (by omega), hS]
      have pre : ∀ L, b_Model_findTowns_4 Y L (nI (twN S p)) (nI p) true τ = (if S (30 + 4 * p) = 3 then lp_ (b_Model_findTowns_28 Y (nI (twN S p)) (nI p) (fun (x1_82 : Int32) (b : Bool) (σ : Sto) => lt_ (nI p + 1) (fun (x2_4 : Int32) => L x1_82 x2_4 b σ))) (fun (x3 : Int32) (b : Bool) (σ : Sto) => (0, false, σ)) fuel_ (nI (twN S p)) true τ else L (nI (twN S p)) (nI p + 1) true τ) := fun L => by
        unfold b_Model_findTowns_4
        rw [rY_0 hL, show ix (2 : Int32) = 2 from rfl, tS, p4, if_pos (nI_lt hpp (by omega)), cK_of (kY_0 hL), cYk hL 2 (v := 2) rfl (by decide)]
        simp only [Bool.and_true]
        rw [e_kindOf hL (show p < 700 by omega), tS, bd_]
        dsimp only
        rw [lt_, lt_]
        rfl
      by_cases c : S (30 + 4 * p) = 3
      · have en : twN S (p + 1) = twN S p + 1 := by show (if S (30 + 4 * p) = 3 then twN S p + 1 else twN S p) = _; rw [if_pos c]
        have er : twR S (p + 1) = insAt (twR S p) p (posI S (twR S p) p (twN S p)) := by show (if S (30 + 4 * p) = 3 then insAt (twR S p) p (posI S (twR S p) p (twN S p)) else twR S p) = _; rw [if_pos c]
        have hpo := posI_le (S := S) (r := twR S p) (p := p) (x := twN S p)
        obtain ⟨τ', m1, m2, m3⟩ := ins_loop (σ := ρ) (body := fun (g : Int32 → Bool → Sto → Rs Int32) => b_Model_findTowns_28 Y (nI (twN S p)) (nI p) g) (bad := fun (x3 : Int32) (b : Bool) (σ : Sto) => (0, false, σ)) S (Y + 13) (fun k => nI k) (twR S p) (twN S p) p (fun g τ => g (nI (twN S p) + 1) true τ)
          (fun x υ hx f hcell g L => by
            have hL : LayY Y υ := LayY_c hY f.2.1 f.2.2.1 f.2.2.2.1
            have tS : SI υ (Y + 1) = S := by rw [f.2.2.2.2.2.2 _ (by omega), hS]
            have hr := q3 x hx
            have j1 : nI (x + 1) - 1 = nI x := by rw [← nI_p1, Int32.add_sub_cancel]
            have j2 : nI (x + 1) + -1 = nI x := by rw [← Int32.sub_eq_add_neg]; exact j1
            have e1 := e_mileOf hL (k := twR S p x) (by omega)
            have e2 := e_mileOf hL (k := p) (by omega)
            rw [tS] at e1 e2
            show b_Model_findTowns_28 Y (nI (twN S p)) (nI p) g L (nI (x + 1)) true υ = _
            unfold b_Model_findTowns_28
            rw [lt_]
            dsimp only
            rw [if_pos (show (0 : Int32) < nI (x + 1) from nI_lt (a := 0) (by omega) (by omega)), j1, j2, rY_25 hL, ix_nI (show x < 2 ^ 31 by omega), hcell, cK_of (kY_0 hL), cA_of (kY_13 hL) (nY_13 hL) (show x < 16 by omega) (by decide)]
            simp only [Bool.and_true]
            rw [e1, bd_]
            dsimp only
            rw [cK_of (kY_0 hL), Bool.and_true, e2, bd_]
            dsimp only
            rw [rY_25 hL, ix_nI (show x + 1 < 2 ^ 31 by omega), hcell, cK_of (kY_0 hL), cA_of (kY_13 hL) (nY_13 hL) (show x < 16 by omega) (by decide), cA_of (kY_13 hL) (nY_13 hL) (show x + 1 < 16 by omega) (by decide)]
            by_cases d : S (31 + 4 * p) < S (31 + 4 * twR S p x)
            · rw [if_pos d, if_pos d]
              rfl
            · rw [if_neg d, if_neg d]
              rfl)
          (fun υ f g L => by
            have hL : LayY Y υ := LayY_c hY f.2.1 f.2.2.1 f.2.2.2.1
            show b_Model_findTowns_28 Y (nI (twN S p)) (nI p) g L (nI 0) true υ = _
            unfold b_Model_findTowns_28
            rw [lt_]
            dsimp only
            rw [if_neg (show ¬ (0 : Int32) < nI 0 by decide), rY_25 hL, show ix (nI 0) = 0 from rfl, cK_of (kY_0 hL), cA_of (kY_13 hL) (nY_13 hL) (show 0 < 16 by omega) (by decide)]
            rfl)
          (twN S p) (Nat.le_refl _) fuel_ τ (by show twN S p < 70000; omega) q1 (fun i hi => q2 i hi) (fun i h1 h2 => absurd h1 (by omega))
        refine ⟨nI (twN S p) + 1, τ', ⟨by rw [en]; exact nI_1 _, m1, fun i hi => by rw [er]; exact m2 i (by omega), fun i hi => ?_⟩, fun L => ?_⟩
        · rw [er]
          unfold insAt
          rw [en] at hi
          by_cases z1 : i < posI S (twR S p) p (twN S p)
          · rw [if_pos z1]
            have := q3 i (by omega)
            omega
          · rw [if_neg z1]
            by_cases z2 : i = posI S (twR S p) p (twN S p)
            · rw [if_pos z2]; omega
            · rw [if_neg z2]
              have := q3 (i - 1) (by omega)
              omega
        · rw [pre, if_pos c]
          exact m3 (fun (x1_82 : Int32) (b : Bool) (σ : Sto) => lt_ (nI p + 1) (fun (x2_4 : Int32) => L x1_82 x2_4 b σ))
      · have en : twN S (p + 1) = twN S p := by show (if S (30 + 4 * p) = 3 then twN S p + 1 else twN S p) = _; rw [if_neg c]
        have er : twR S (p + 1) = twR S p := by show (if S (30 + 4 * p) = 3 then insAt (twR S p) p (posI S (twR S p) p (twN S p)) else twR S p) = _; rw [if_neg c]
        refine ⟨nI (twN S p), τ, ⟨by rw [en], q1, fun i hi => by rw [er]; exact q2 i (by omega), fun i hi => by rw [er]; have := q3 i (by omega); omega⟩, fun L => ?_⟩
        rw [pre, if_neg c])
    (fun L a τ ⟨q0, q1, q2, q3⟩ => by
      have hL : LayY Y τ := LayY_c hY q1.2.1 q1.2.2.1 q1.2.2.2.1
      have tS : SI τ (Y + 1) = S := by rw [q1.2.2.2.2.2.2 _ (by omega), hS]
      unfold b_Model_findTowns_4
      rw [rY_0 hL, show ix (2 : Int32) = 2 from rfl, tS, p4, if_neg (nI_nlt (Nat.le_refl np) (by omega)), cK_of (kY_0 hL), cYk hL 2 (v := 2) rfl (by decide)]
      rfl)
    0 ρ ⟨rfl, Fr1_0, fun i hi => absurd hi (Nat.not_lt_zero _), fun i hi => absurd hi (Nat.not_lt_zero _)⟩
  subst k1
  refine ⟨τ, k2, k3, k4, ?_⟩
  unfold f_Model_findTowns
  rw [lt_, lt_]
  exact e
end TW
