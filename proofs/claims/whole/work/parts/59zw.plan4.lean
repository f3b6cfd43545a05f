/-! plans: the reference's search, the call -/
section PN4
variable {X Y w : Nat} {σ τ ρ : Sto} {p cr a c : Int32} {cs : Nat} {S : Nat → Int32}
theorem pn_ar1 {T T' O O' i b R : Nat} (h : T + O + b ≤ R) (q1 : T' + 2097152 ≤ T) (q2 : O' ≤ 1048576) (hi : i < 65536) : T' + O' + i ≤ R := by omega
theorem pn_ar2 {T O O' i b R : Nat} (h : T + O + b ≤ R) (q2 : O' + 65536 ≤ O) (hi : i < 65536) : T + O' + i ≤ R := by omega
theorem pn_key1 {t t' o o' i b R : Nat} (h : t * 2097152 + o * 65536 + b ≤ R) (d : t' < t) (ho : o' ≤ 16) (hi : i < 65536) : t' * 2097152 + o' * 65536 + i ≤ R := by
  have q1 : (t' + 1) * 2097152 ≤ t * 2097152 := Nat.mul_le_mul_right _ d
  have q2 : o' * 65536 ≤ 16 * 65536 := Nat.mul_le_mul_right _ ho
  rw [Nat.succ_mul] at q1
  exact pn_ar1 h q1 q2 hi
theorem pn_key2 {t t' o o' i b R : Nat} (h : t * 2097152 + o * 65536 + b ≤ R) (d : t' = t) (ho : o' < o) (hi : i < 65536) : t' * 2097152 + o' * 65536 + i ≤ R := by
  have q2 : (o' + 1) * 65536 ≤ o * 65536 := Nat.mul_le_mul_right _ ho
  rw [Nat.succ_mul] at q2
  subst d
  exact pn_ar2 h q2 hi
theorem M_wbad (hY : LayY Y ρ) {m : Nat → Int32} (hS : SI ρ (Y + 1) = S) (hp : bd p 1 40) {s n k fu : Nat} {x : Int32} (hx : bd x 0 2000) (h1 : bd (S 1) 0 2000) (hf : 0 < fu) (L : Int32) : lp_ (b_Model_weightOf_9 Y (nI s) (nI n) p cr) (fun (x5 : Int32) (x6 : Int32) (x7 : Int32) (b : Bool) (σ : Sto) => (0, false, σ)) fu x (-1) (nI k) true ρ = (-1, true, ρ) := by
  obtain ⟨fu, rfl⟩ : ∃ z, fu = z + 1 := ⟨fu - 1, by omega⟩
  have el := M_leg (cr := cr) (ρ := ρ) hp hx h1
  have tail : ∀ J95 : Bool → Sto → Rs Int32, J95 = (fun (b : Bool) (σ : Sto) => (bd_ (f_Model_leg ((SI σ (SR σ Y 0) (ix (1 : Int32))) - x) p cr ((b && cK σ Y 13) && cA σ (SR σ Y 0) 21 (1 : Int32)) σ) (fun (r_4 : Int32) (b_4 : Bool) (σ_4 : Sto) => (lt_ r_4 (fun (x7_5 : Int32) => (lt_ (fun (b : Bool) (σ : Sto) => ((-1 : Int32), b, σ)) (fun J122 => (if (-1 : Int32) < 0 then (J122 b_4 σ_4) else (if x7_5 < 0 then (J122 b_4 σ_4) else (((-1 : Int32) + x7_5), b_4, σ_4)))))))))) → J95 true ρ = (-1, true, ρ) := fun J95 hJ => by
    subst hJ
    dsimp only
    rw [rY_0 hY, show ix (1 : Int32) = 1 from rfl, hS, cK_of (kY_0 hY), cYk hY 1 (v := 1) rfl (by decide)]
    simp only [Bool.and_true]
    rw [el, bd_]
    dsimp only
    rw [lt_, lt_, if_pos (show (-1 : Int32) < 0 by decide)]
  rw [lp_S]
  unfold b_Model_weightOf_9
  rw [lt_]
  by_cases hk : nI k < nI n
  · rw [if_pos hk, if_pos (show (-1 : Int32) < 0 by decide)]
    exact tail _ rfl
  · rw [if_neg hk]
    exact tail _ rfl
theorem M_weight (hY : LayY Y ρ) (hS : SI ρ (Y + 1) = S) {np : Nat} (hn : np ≤ 16) (hT : ∀ i, i < twN S np → SI ρ (Y + 13) i = nI (twR S np i) ∧ twR S np i < np) (hb : ∀ i, bd (pnT S np i) 0 2000) (c2 : S 10 = nI cs) (hc : cs ≤ 99) (hp : bd p 1 40) {s : Nat} (hs : s < 65536) :
    f_Model_weightOf Y (nI s) (nI (twN S np)) p cr true ρ = (enI (pnE p cr cs (pnT S np) s (twN S np) (S 1)), true, ρ) := by
  have hle := twN_le (S := S) (p := np)
  have h1 : bd (S 1) 0 2000 := by
    have := hb (twN S np)
    rw [show pnT S np (twN S np) = S 1 from if_neg (Nat.lt_irrefl _)] at this
    exact this
  have key : ∀ d k fu q, k + d = twN S np → d < fu → pnS p cr cs (pnT S np) s k = some q → lp_ (b_Model_weightOf_9 Y (nI s) (nI (twN S np)) p cr) (fun (x5 : Int32) (x6 : Int32) (x7 : Int32) (b : Bool) (σ : Sto) => (0, false, σ)) fu q.1 (nI q.2) (nI k) true ρ = (enI (pnE p cr cs (pnT S np) s (twN S np) (S 1)), true, ρ) := by
    intro d
    induction d with
    | zero =>
      intro k fu q hk hf hq
      obtain ⟨fu, rfl⟩ : ∃ z, fu = z + 1 := ⟨fu - 1, by omega⟩
      obtain ⟨q1, q2⟩ := pnS_bd hc hp hb k q hq
      have hk' : k = twN S np := by omega
      subst hk'
      have el := M_leg (cr := cr) (ρ := ρ) hp q1 h1
      have e2 : pnE p cr cs (pnT S np) s (twN S np) (S 1) = (pnL p cr q.1 (S 1)).map (fun v => q.2 + v) := by
        unfold pnE
        rw [hq]
        rfl
      rw [lp_S]
      unfold b_Model_weightOf_9
      rw [lt_, if_neg (nI_nlt (Nat.le_refl _) (by omega))]
      dsimp only
      rw [rY_0 hY, show ix (1 : Int32) = 1 from rfl, hS, cK_of (kY_0 hY), cYk hY 1 (v := 1) rfl (by decide)]
      simp only [Bool.and_true]
      rw [el, bd_]
      dsimp only
      rw [lt_, lt_, if_neg (nI_pos (show q.2 < 2 ^ 31 by omega)), e2]
      unfold pnL
      have hq2 := pnQ_le (pnD_abs hp q1 h1)
      by_cases dd : cr < pnD p q.1 (S 1)
      · rw [if_pos dd, if_pos (show enI none < 0 by decide)]
        rfl
      · rw [if_neg dd, if_neg (show ¬ enI (some (pnQ (pnD p q.1 (S 1)))) < 0 from nI_pos (by omega))]
        show (nI q.2 + nI _, true, ρ) = _
        rw [nI_add]
        rfl
    | succ d ih =>
      intro k fu q hk hf hq
      obtain ⟨fu, rfl⟩ : ∃ z, fu = z + 1 := ⟨fu - 1, by omega⟩
      obtain ⟨q1, q2⟩ := pnS_bd hc hp hb k q hq
      obtain ⟨t1, t2⟩ := hT k (by omega)
      have em := e_mileOf hY (k := twR S np k) (by omega)
      rw [hS, show S (31 + 4 * twR S np k) = pnT S np k from (if_pos (show k < twN S np by omega)).symm] at em
      have el := M_leg (cr := cr) (ρ := ρ) hp q1 (hb k)
      have es : pnS p cr cs (pnT S np) s (k + 1) = if s.testBit k = true then (pnL p cr q.1 (pnT S np k)).map (fun v => (pnT S np k, q.2 + v + cs)) else some q := by
        show (pnS p cr cs (pnT S np) s k).bind (fun q => if s.testBit k = true then (pnL p cr q.1 (pnT S np k)).map (fun v => (pnT S np k, q.2 + v + cs)) else some q) = _
        rw [hq]
        rfl
      rw [lp_S]
      unfold b_Model_weightOf_9
      rw [lt_, if_pos (nI_lt (show k < twN S np by omega) (by omega)), if_neg (nI_pos (show q.2 < 2 ^ 31 by omega)), lt_]
      by_cases b : s.testBit k = true
      · rw [if_pos ((pn_bit hs (by omega)).mpr b), rY_25 hY, ix_nI (show k < 2 ^ 31 by omega), t1, cK_of (kY_0 hY), cA_of (kY_13 hY) (nY_13 hY) (show k < 16 by omega) (by decide)]
        simp only [Bool.and_true]
        rw [em, bd_]
        dsimp only
        rw [el, bd_]
        dsimp only
        rw [lt_, rY_25 hY, t1, cK_of (kY_0 hY), cA_of (kY_13 hY) (nY_13 hY) (show k < 16 by omega) (by decide)]
        simp only [Bool.and_true]
        rw [em, bd_]
        dsimp only
        rw [lt_, lt_, rY_0 hY, show ix (10 : Int32) = 10 from rfl, hS, c2, cK_of (kY_0 hY), cYk hY 10 (v := 10) rfl (by decide)]
        rw [if_pos b] at es
        unfold pnL at es ⊢
        have hq2 := pnQ_le (pnD_abs hp q1 (hb k))
        by_cases dd : cr < pnD p q.1 (pnT S np k)
        · rw [if_pos dd] at es ⊢
          have e3 : pnE p cr cs (pnT S np) s (twN S np) (S 1) = none := by
            have : ∀ e, pnS p cr cs (pnT S np) s (k + 1 + e) = none := fun e => by
              induction e with
              | zero => exact es
              | succ e ihe =>
                show (pnS p cr cs (pnT S np) s (k + 1 + e)).bind _ = none
                rw [ihe]
                rfl
            unfold pnE
            rw [show twN S np = k + 1 + d by omega, this d]
            rfl
          rw [if_pos (show enI none < 0 by decide), e3]
          simp only [lt_]
          rw [nI_1]
          exact M_wbad (m := pnT S np) hY hS hp (hb k) h1 (by omega) 0
        · rw [if_neg dd] at es ⊢
          rw [if_neg (show ¬ enI (some (pnQ (pnD p q.1 (pnT S np k)))) < 0 from nI_pos (by omega))]
          simp only [lt_]
          rw [nI_1]
          have := ih (k + 1) fu (pnT S np k, q.2 + pnQ (pnD p q.1 (pnT S np k)) + cs) (by omega) (by omega) es
          rw [show nI q.2 + enI (some (pnQ (pnD p q.1 (pnT S np k)))) + nI cs = nI (q.2 + pnQ (pnD p q.1 (pnT S np k)) + cs) by rw [show enI (some (pnQ (pnD p q.1 (pnT S np k)))) = nI (pnQ (pnD p q.1 (pnT S np k))) from rfl, nI_add, nI_add]]
          exact this
      · rw [if_neg (fun h => b ((pn_bit hs (by omega)).mp h))]
        rw [if_neg b] at es
        simp only [lt_]
        rw [nI_1]
        exact ih (k + 1) fu q (by omega) (by omega) es
  unfold f_Model_weightOf
  rw [lt_, lt_, lt_]
  exact key (twN S np) 0 fuel_ (0, 0) (by omega) (by show twN S np < 70000; omega) rfl
/-- what comes behind the reference's search -/
def pnF (x3 u v : Int32) (τ : Sto) : Rs Int32 := if u < 0 then ((-1000000005 : Int32), true, τ) else (if x3 = 0 then (v, true, τ) else (if x3 = (1 : Int32) then (bd_ (f_Model_ones u true τ) (fun (r_16 : Int32) (b_16 : Bool) (σ_16 : Sto) => (r_16, b_16, σ_16))) else (u, true, τ)))
theorem M_plan (hY : LayY Y ρ) (hS : SI ρ (Y + 1) = S) {np : Nat} (hn : np ≤ 16) (hT : ∀ i, i < twN S np → SI ρ (Y + 13) i = nI (twR S np i) ∧ twR S np i < np) (hb : ∀ i, bd (pnT S np i) 0 2000) (c2 : S 10 = nI cs) (hc : cs ≤ 99) (hp : bd p 1 40) (x3 : Int32) :
    ∃ u v, ((u = -1 ∧ pnM (fun s => pnK p cr cs (pnT S np) s (twN S np) (S 1)) (2 ^ twN S np) none) ∨ ∃ b t, b < 2 ^ twN S np ∧ u = nI b ∧ v = nI t ∧ t ≤ 17 * 4194304 ∧ pnM (fun s => pnK p cr cs (pnT S np) s (twN S np) (S 1)) (2 ^ twN S np) (some (t * 2097152 + pnO b (twN S np) * 65536 + b))) ∧ lp_ (b_Model_plan_54 Y p cr x3 (nI (twN S np))) (fun (x5 : Int32) (x6 : Int32) (x7 : Int32) (b : Bool) (σ : Sto) => (0, false, σ)) fuel_ (-1) 0 0 true ρ = pnF x3 u v ρ := by
  have hle := twN_le (S := S) (p := np)
  have h1 : bd (S 1) 0 2000 := by
    have := hb (twN S np)
    rw [show pnT S np (twN S np) = S 1 from if_neg (Nat.lt_irrefl _)] at this
    exact this
  have pw : 2 ^ twN S np ≤ 65536 := Nat.pow_le_pow_right (n := 2) (by decide) (show twN S np ≤ 16 by omega)
  have sh : (1 : Int32) <<< (nI (twN S np) &&& 31) = nI (2 ^ twN S np) := by
    have : ∀ n, n < 17 → (1 : Int32) <<< (nI n &&& 31) = nI (2 ^ n) := by decide +kernel
    exact this _ (by omega)
  generalize hN : twN S np = n at *
  have hW : ∀ s, s < 65536 → f_Model_weightOf Y (nI s) (nI n) p cr true ρ = (enI (pnE p cr cs (pnT S np) s n (S 1)), true, ρ) := fun s hs => by
    have := M_weight (cr := cr) hY hS hn (by rw [hN]; exact hT) hb c2 hc hp hs
    rw [hN] at this
    exact this
  obtain ⟨u, v, τ, ⟨k1, k2⟩, e⟩ := lp_exA2 (body := b_Model_plan_54 Y p cr x3 (nI n)) (bad := fun (x5 : Int32) (x6 : Int32) (x7 : Int32) (b : Bool) (σ : Sto) => (0, false, σ)) (2 ^ n) (fun i u v τ => τ = ρ ∧ ((u = -1 ∧ ∀ s, s < i → pnE p cr cs (pnT S np) s n (S 1) = none) ∨ ∃ b t, b < i ∧ u = nI b ∧ pnE p cr cs (pnT S np) b n (S 1) = some t ∧ v = nI t ∧ ∀ s, s < i → ∀ t', pnE p cr cs (pnT S np) s n (S 1) = some t' → t * 2097152 + pnO b n * 65536 + b ≤ t' * 2097152 + pnO s n * 65536 + s)) (fun u v τ => pnF x3 u v τ) (by omega)
    (fun i u v τ hi ⟨q1, q2⟩ => by
      subst q1
      have hi16 : i < 65536 := by omega
      have pre : ∀ L, b_Model_plan_54 Y p cr x3 (nI n) L u v (nI i) true τ = (if enI (pnE p cr cs (pnT S np) i n (S 1)) < 0 then L u v (nI i + 1) true τ else if u < 0 then L (nI i) (enI (pnE p cr cs (pnT S np) i n (S 1))) (nI i + 1) true τ else if enI (pnE p cr cs (pnT S np) i n (S 1)) < v then L (nI i) (enI (pnE p cr cs (pnT S np) i n (S 1))) (nI i + 1) true τ else if enI (pnE p cr cs (pnT S np) i n (S 1)) = v then (bd_ (f_Model_ones (nI i) true τ) (fun (r_14 : Int32) (b_14 : Bool) (σ_14 : Sto) => (bd_ (f_Model_ones u b_14 σ_14) (fun (r_15 : Int32) (b_15 : Bool) (σ_15 : Sto) => (if r_14 < r_15 then L (nI i) (enI (pnE p cr cs (pnT S np) i n (S 1))) (nI i + 1) b_15 σ_15 else L u v (nI i + 1) b_15 σ_15))))) else L u v (nI i + 1) true τ) := fun L => by
        unfold b_Model_plan_54
        rw [sh, if_pos (nI_lt hi (by omega)), cK_of (kY_0 hY), Bool.and_true, hW i hi16, bd_]
        dsimp only
        simp only [lt_]
      cases he : pnE p cr cs (pnT S np) i n (S 1) with
      | none =>
        refine ⟨u, v, τ, ⟨rfl, ?_⟩, fun L => by rw [pre, he, if_pos (show enI none < 0 by decide)]⟩
        rcases q2 with ⟨h1, h2⟩ | ⟨b, t, b1, b2, b3, b4, b5⟩
        · exact Or.inl ⟨h1, fun s hs => by
            by_cases es : s = i
            · rw [es]; exact he
            · exact h2 s (by omega)⟩
        · exact Or.inr ⟨b, t, by omega, b2, b3, b4, fun s hs t' ht => by
            by_cases es : s = i
            · rw [es, he] at ht
              cases ht
            · exact b5 s (by omega) t' ht⟩
      | some t' =>
        have ht' := pnE_bd hc hp hb h1 he
        have ht2 : t' ≤ 17 * 4194304 := Nat.le_trans ht' (Nat.mul_le_mul_right _ (by omega))
        have a1 : ¬ enI (some t') < 0 := nI_pos (by omega)
        have take : (∀ s, s < i → ∀ x, pnE p cr cs (pnT S np) s n (S 1) = some x → t' * 2097152 + pnO i n * 65536 + i ≤ x * 2097152 + pnO s n * 65536 + s) → ∃ b t, b < i + 1 ∧ nI i = nI b ∧ pnE p cr cs (pnT S np) b n (S 1) = some t ∧ enI (some t') = nI t ∧ ∀ s, s < i + 1 → ∀ x, pnE p cr cs (pnT S np) s n (S 1) = some x → t * 2097152 + pnO b n * 65536 + b ≤ x * 2097152 + pnO s n * 65536 + s := fun h => ⟨i, t', by omega, rfl, he, rfl, fun s hs x hx => by
          by_cases es : s = i
          · rw [es] at hx ⊢
            rw [he] at hx
            cases hx
            exact Nat.le_refl _
          · exact h s (by omega) x hx⟩
        rcases q2 with ⟨h1', h2⟩ | ⟨b, t, b1, b2, b3, b4, b5⟩
        · refine ⟨nI i, enI (some t'), τ, ⟨rfl, Or.inr (take (fun s hs x hx => ?_))⟩, fun L => by rw [pre, he, if_neg a1, h1', if_pos (show (-1 : Int32) < 0 by decide)]⟩
          rw [h2 s hs] at hx
          cases hx
        · have tb := Nat.le_trans (pnE_bd hc hp hb h1 b3) (Nat.mul_le_mul_right _ (show n + 1 ≤ 17 by omega))
          have ob := pnO_le (s := b) n
          have oi := pnO_le (s := i) n
          subst b2 b4
          have a2 : ¬ nI b < 0 := nI_pos (by omega)
          have keep : t * 2097152 + pnO b n * 65536 + b ≤ t' * 2097152 + pnO i n * 65536 + i → ∃ b' t'', b' < i + 1 ∧ nI b = nI b' ∧ pnE p cr cs (pnT S np) b' n (S 1) = some t'' ∧ nI t = nI t'' ∧ ∀ s, s < i + 1 → ∀ x, pnE p cr cs (pnT S np) s n (S 1) = some x → t'' * 2097152 + pnO b' n * 65536 + b' ≤ x * 2097152 + pnO s n * 65536 + s := fun h => ⟨b, t, by omega, rfl, b3, rfl, fun s hs x hx => by
            by_cases es : s = i
            · rw [es] at hx ⊢
              rw [he] at hx
              cases hx
              exact h
            · exact b5 s (by omega) x hx⟩
          by_cases d1 : t' < t
          · refine ⟨nI i, enI (some t'), τ, ⟨rfl, Or.inr (take (fun s hs x hx => ?_))⟩, fun L => by rw [pre, he, if_neg a1, if_neg a2, if_pos (show enI (some t') < nI t from nI_lt d1 (by omega))]⟩
            exact pn_key1 (b5 s hs x hx) d1 (Nat.le_trans oi (by omega)) hi16
          · have d1' : ¬ enI (some t') < nI t := nI_nlt (by omega) (by omega)
            by_cases d2 : t' = t
            · have d2' : enI (some t') = nI t := by rw [d2]; rfl
              have o1 := e_ones (ρ := τ) (show i < 2 ^ n from hi) (by omega)
              have o2 := e_ones (ρ := τ) (show b < 2 ^ n by omega) (by omega)
              by_cases d3 : pnO i n < pnO b n
              · refine ⟨nI i, enI (some t'), τ, ⟨rfl, Or.inr (take (fun s hs x hx => ?_))⟩, fun L => ?_⟩
                · exact pn_key2 (b5 s hs x hx) d2 d3 hi16
                · rw [pre, he, if_neg a1, if_neg a2, if_neg d1', if_pos d2', o1, bd_]
                  dsimp only
                  rw [o2, bd_]
                  dsimp only
                  rw [if_pos (nI_lt d3 (by omega))]
              · refine ⟨nI b, nI t, τ, ⟨rfl, Or.inr (keep (by omega))⟩, fun L => ?_⟩
                rw [pre, he, if_neg a1, if_neg a2, if_neg d1', if_pos d2', o1, bd_]
                dsimp only
                rw [o2, bd_]
                dsimp only
                rw [if_neg (nI_nlt (by omega) (by omega))]
            · have d2' : ¬ enI (some t') = nI t := fun h => d2 ((nI_eq (by omega) (by omega)).mp h)
              refine ⟨nI b, nI t, τ, ⟨rfl, Or.inr (keep (by omega))⟩, fun L => ?_⟩
              rw [pre, he, if_neg a1, if_neg a2, if_neg d1', if_neg d2'])
    (fun L u v τ ⟨q1, q2⟩ => by
      unfold b_Model_plan_54 pnF
      rw [sh, if_neg (nI_nlt (Nat.le_refl _) (by omega))])
    (-1) 0 ρ ⟨rfl, Or.inl ⟨rfl, fun s hs => absurd hs (Nat.not_lt_zero _)⟩⟩
  subst k1
  refine ⟨u, v, ?_, e⟩
  have kn : ∀ s, pnK p cr cs (pnT S np) s n (S 1) = (pnE p cr cs (pnT S np) s n (S 1)).map (fun t => t * 2097152 + pnO s n * 65536 + s) := fun _ => rfl
  rcases k2 with ⟨h1', h2⟩ | ⟨b, t, b1, b2, b3, b4, b5⟩
  · exact Or.inl ⟨h1', fun _ s hs => by show pnK p cr cs (pnT S np) s n (S 1) = none; rw [kn, h2 s hs]; rfl, fun v h => by cases h⟩
  · refine Or.inr ⟨b, t, b1, b2, b4, Nat.le_trans (pnE_bd hc hp hb h1 b3) (Nat.mul_le_mul_right _ (by omega)), fun h => (by cases h), fun x hx => ?_⟩
    cases hx
    refine ⟨⟨b, b1, by show pnK p cr cs (pnT S np) b n (S 1) = _; rw [kn, b3]; rfl⟩, fun s hs z hz => ?_⟩
    have hz' : (pnE p cr cs (pnT S np) s n (S 1)).map (fun t => t * 2097152 + pnO s n * 65536 + s) = some z := hz
    cases he : pnE p cr cs (pnT S np) s n (S 1) with
    | none => rw [he] at hz'; cases hz'
    | some x =>
      rw [he] at hz'
      cases hz'
      exact b5 s hs x he
theorem op_30 : Op_30 X Y (REL X Y) := by
  intro a1 a2 a3 σ ρ h
  have hX := h.2.2.1
  have hY : LayY Y (stn ρ (Shn σ)) := h.2.2.2.1
  have hW := hX.2.1
  obtain ⟨np, nf, p1, p2, p3, p4, p5, p6, p7, p8, p9, p10, p11, p12⟩ := (REL_now2 h).2.1
  obtain ⟨s1, s2, nr, r1, r2, r3, r4⟩ := (REL_now2 h).2.2.2.1
  have hS0 : SI (stn ρ (Shn σ)) (Y + 1) = SI ρ (Y + 1) := rfl
  have z0 : Shn (stn ρ (Shn σ)) = Shn σ := rfl
  have y1 : Stk (stn ρ (Shn σ)) = Stk ρ := rfl
  have y2 : Sln (stn ρ (Shn σ)) = Sln ρ := rfl
  have y3 : SR (stn ρ (Shn σ)) = SR ρ := rfl
  have y4 : SL (stn ρ (Shn σ)) = SL ρ := rfl
  have yx : ∀ x, SI (stn ρ (Shn σ)) x = SI ρ x := fun _ => rfl
  by_cases h1 : (1 : Int32) ≤ a1 ∧ a1 ≤ 40
  · by_cases h2 : (1 : Int32) ≤ a2 ∧ a2 ≤ 20
    · by_cases h3 : (0 : Int32) ≤ a3 ∧ a3 ≤ 2
      · have hp : bd a1 1 40 := ⟨Int32.le_iff_toInt_le.mp h1.1, Int32.le_iff_toInt_le.mp h1.2⟩
        have p9' : ∀ k, k < np → SI σ (X + 1 + 2) k = SI ρ (Y + 1) (30 + 4 * k) ∧ SI σ (X + 1 + 3) k = SI ρ (Y + 1) (31 + 4 * k) ∧ bd (SI ρ (Y + 1) (30 + 4 * k)) 0 5 := fun k hk => ⟨(p9 k hk).1, (p9 k hk).2.1, (p9 k hk).2.2.2.2.1⟩
        obtain ⟨cs, hcs, ecs⟩ := bd_nat (n := 99) s2
        obtain ⟨t0, -, t2, -⟩ := M_towns hY hS0 p1 (show SI ρ (Y + 1) 2 = nI np from p4)
        generalize hρ0 : stn ρ (Shn σ) = ρ0 at *
        obtain ⟨ρ1, f1, t1, t2, et⟩ := M_towns hY hS0 p1 (show SI ρ (Y + 1) 2 = nI np from p4)
        have hb : ∀ i, bd (pnT (SI ρ (Y + 1)) np i) 0 2000 := fun i => by
          unfold pnT
          unfold bd at p8 ⊢
          by_cases ei : i < twN (SI ρ (Y + 1)) np
          · rw [if_pos ei]
            have := (p9 _ (t2 i ei)).2.2.2.2.2.1
            unfold bd at this
            omega
          · rw [if_neg ei]
            omega
        have hY1 : LayY Y ρ1 := LayY_c hY f1.2.1 f1.2.2.1 f1.2.2.2.1
        have hS1 : SI ρ1 (Y + 1) = SI ρ (Y + 1) := by rw [f1.2.2.2.2.2.2 _ (by omega), hS0]
        obtain ⟨r, τ1, τ, g1, g2, g3, g4, eC⟩ := C_plan (cr := a2) (S := SI ρ (Y + 1)) hW (REL_cs h) p1 p3 p7 p9' hb (s1.trans ecs) hcs hp
        obtain ⟨u, v, g5, eM⟩ := M_plan (cr := a2) hY1 hS1 p1 (fun i hi => ⟨t1 i hi, t2 i hi⟩) hb ecs hcs hp a3
        have R1 : REL X Y τ ρ1 := REL_row h (g4.1.trans g3.1) (g4.2.1.trans g3.2.1) (g4.2.2.1.trans g3.2.2.1) (g4.2.2.2.1.trans g3.2.2.2.1) (fun x _ _ => by rw [g4.2.2.2.2.2.2 x (by omega), g3.2.2.2.2.1]) (g4.2.2.2.2.2.1.trans g3.2.2.2.2.2.1) (fun x hx => by rw [g4.2.2.2.2.1, g3.2.2.2.2.2.2 x (by omega)]) (by rw [f1.2.1, y1]) (by rw [f1.2.2.1, y2]) (by rw [f1.2.2.2.1, y3]) (by rw [f1.2.2.2.2.1, y4]) (fun x hx => by rw [f1.2.2.2.2.2.2 x (by omega), yx])
        have fC : f_Trail_plan X a1 a2 a3 true σ = (if lg_cmp (enL r) 0 < 0 then ((-1000000005 : Int32), true, τ) else if a3 = 0 then ((enL r >>> (((21 : Int32)).toInt64 &&& 63)).toInt32, true, τ) else if a3 = 1 then ((enL r >>> (((16 : Int32)).toInt64 &&& 63)).toInt32 &&& 31, true, τ) else ((enL r).toInt32 &&& 65535, true, τ)) := by
          unfold f_Trail_plan
          rw [e_within, inR_e1 h1, bd_]
          dsimp only
          rw [lt_, if_neg (show ¬ (1 : Int32) = 0 by decide), e_within, inR_e1 h2, bd_]
          dsimp only
          rw [if_neg (show ¬ (1 : Int32) = 0 by decide), e_within, inR_e1 h3, bd_]
          dsimp only
          rw [if_neg (show ¬ (1 : Int32) = 0 by decide), rX_0_0 hX, rW_0_0 hW, rW_0_4 hW, cK_of (kX_0 hX), cK_of (kW_0 hW), cK_of (kW_28 hW)]
          simp only [Bool.and_true]
          rw [eC, bd_]
          dsimp only
          rw [lt_]
          rfl
        have fM : f_Model_plan Y a1 a2 a3 true ρ0 = pnF a3 u v ρ1 := by
          unfold f_Model_plan
          rw [e_isInL a1 1 40 1 40 rfl rfl, inR_e1 h1, bd_]
          dsimp only
          rw [lt_, if_neg (show ¬ (1 : Int32) = 0 by decide), e_isInL a2 1 20 1 20 rfl rfl, inR_e1 h2, bd_]
          dsimp only
          rw [if_neg (show ¬ (1 : Int32) = 0 by decide), e_isInL a3 0 2 0 2 rfl rfl, inR_e1 h3, bd_]
          dsimp only
          rw [if_neg (show ¬ (1 : Int32) = 0 by decide), cK_of (kY_0 hY), Bool.and_true, et, bd_]
          dsimp only
          rw [lt_, lt_, lt_, lt_]
          exact eM
        rcases g5 with ⟨u1, u2⟩ | ⟨b, t, b1, rfl, rfl, b4, b5⟩
        · have er := pnM_one g1 u2
          subst er
          refine OpOK_j (-1000000005) (Shn σ) τ ρ1 ?_ (g4.1.trans g3.1) ?_ (by rw [f1.1, z0]) R1
          · rw [fC, if_pos (show lg_cmp (enL none) 0 < 0 by decide)]
          · show f_Model_plan Y a1 a2 a3 true (stn ρ (Shn σ)) = _
            rw [hρ0, fM, pnF, u1, if_pos (show (-1 : Int32) < 0 by decide)]
        · have er := pnM_one g1 b5
          subst er
          have hle := twN_le (S := SI ρ (Y + 1)) (p := np)
          have pw : 2 ^ twN (SI ρ (Y + 1)) np ≤ 65536 := Nat.pow_le_pow_right (n := 2) (by decide) (show twN (SI ρ (Y + 1)) np ≤ 16 by omega)
          have ob := pnO_le (s := b) (twN (SI ρ (Y + 1)) np)
          have o1 := e_ones (ρ := ρ1) b1 (show twN (SI ρ (Y + 1)) np ≤ 16 by omega)
          have hv := g2 _ rfl
          have n0 : ¬ lg_cmp (enL (some (t * 2097152 + pnO b (twN (SI ρ (Y + 1)) np) * 65536 + b))) 0 < 0 := pn_lt0 hv
          have n1 : ¬ nI b < 0 := nI_pos (by omega)
          generalize pnO b (twN (SI ρ (Y + 1)) np) = o at *
          rw [if_neg n0, show enL (some (t * 2097152 + o * 65536 + b)) = lN (t * 2097152 + o * 65536 + b) from rfl, pf_shr (d := 21) (by decide) hv, pf_shr (d := 16) (by decide) hv, lN_i, lN_i, lN_i, show (31 : Int32) = nI (2 ^ 5 - 1) from rfl, show (65535 : Int32) = nI (2 ^ 16 - 1) from rfl, nx_and, nx_and, Nat.and_two_pow_sub_one_eq_mod, Nat.and_two_pow_sub_one_eq_mod, show (t * 2097152 + o * 65536 + b) / 2 ^ 21 = t by omega, show (t * 2097152 + o * 65536 + b) / 2 ^ 16 % 2 ^ 5 = o by omega, show (t * 2097152 + o * 65536 + b) % 2 ^ 16 = b by omega] at fC
          rw [pnF, if_neg n1, o1, bd_] at fM
          by_cases c0 : a3 = 0
          · rw [if_pos c0] at fC fM
            exact OpOK_j _ (Shn σ) τ ρ1 fC (g4.1.trans g3.1) (by show f_Model_plan Y a1 a2 a3 true (stn ρ (Shn σ)) = _; rw [hρ0, fM]) (by rw [f1.1, z0]) R1
          · rw [if_neg c0] at fC fM
            by_cases c1 : a3 = 1
            · rw [if_pos c1] at fC fM
              exact OpOK_j _ (Shn σ) τ ρ1 fC (g4.1.trans g3.1) (by show f_Model_plan Y a1 a2 a3 true (stn ρ (Shn σ)) = _; rw [hρ0, fM]) (by rw [f1.1, z0]) R1
            · rw [if_neg c1] at fC fM
              exact OpOK_j _ (Shn σ) τ ρ1 fC (g4.1.trans g3.1) (by show f_Model_plan Y a1 a2 a3 true (stn ρ (Shn σ)) = _; rw [hρ0, fM]) (by rw [f1.1, z0]) R1
      · refine OpOK_b (-1000000001) h ?_ ?_
        · unfold f_Trail_plan
          rw [e_within, inR_e1 h1, bd_]
          dsimp only
          rw [lt_, if_neg (show ¬ (1 : Int32) = 0 by decide), e_within, inR_e1 h2, bd_]
          dsimp only
          rw [if_neg (show ¬ (1 : Int32) = 0 by decide), e_within, inR_e0 h3, bd_]
          dsimp only
          rw [if_pos rfl]
        · show f_Model_plan Y a1 a2 a3 true (stn ρ (Shn σ)) = _
          unfold f_Model_plan
          rw [e_isInL a1 1 40 1 40 rfl rfl, inR_e1 h1, bd_]
          dsimp only
          rw [lt_, if_neg (show ¬ (1 : Int32) = 0 by decide), e_isInL a2 1 20 1 20 rfl rfl, inR_e1 h2, bd_]
          dsimp only
          rw [if_neg (show ¬ (1 : Int32) = 0 by decide), e_isInL a3 0 2 0 2 rfl rfl, inR_e0 h3, bd_]
          dsimp only
          rw [if_pos rfl]
    · refine OpOK_b (-1000000001) h ?_ ?_
      · unfold f_Trail_plan
        rw [e_within, inR_e1 h1, bd_]
        dsimp only
        rw [lt_, if_neg (show ¬ (1 : Int32) = 0 by decide), e_within, inR_e0 h2, bd_]
        dsimp only
        rw [if_pos rfl]
      · show f_Model_plan Y a1 a2 a3 true (stn ρ (Shn σ)) = _
        unfold f_Model_plan
        rw [e_isInL a1 1 40 1 40 rfl rfl, inR_e1 h1, bd_]
        dsimp only
        rw [lt_, if_neg (show ¬ (1 : Int32) = 0 by decide), e_isInL a2 1 20 1 20 rfl rfl, inR_e0 h2, bd_]
        dsimp only
        rw [if_pos rfl]
  · refine OpOK_b (-1000000001) h ?_ ?_
    · unfold f_Trail_plan
      rw [e_within, inR_e0 h1, bd_]
      dsimp only
      rw [lt_, if_pos rfl]
    · show f_Model_plan Y a1 a2 a3 true (stn ρ (Shn σ)) = _
      unfold f_Model_plan
      rw [e_isInL a1 1 40 1 40 rfl rfl, inR_e0 h1, bd_]
      dsimp only
      rw [lt_, if_pos rfl]
end PN4
