/-! plans: the class's call; the reference's loops -/
section PN3
variable {X Y w : Nat} {σ τ ρ : Sto} {p cr a c : Int32} {cs : Nat} {m : Nat → Int32} {S : Nat → Int32}
/-- nothing but a row of longs is written -/
def FrL (a : Nat) (σ τ : Sto) : Prop := Shn τ = Shn σ ∧ Stk τ = Stk σ ∧ Sln τ = Sln σ ∧ SR τ = SR σ ∧ SI τ = SI σ ∧ Scs τ = Scs σ ∧ ∀ x, x ≠ a → SL τ x = SL σ x
theorem FrL_0 {a : Nat} : FrL a σ σ := ⟨rfl, rfl, rfl, rfl, rfl, rfl, fun _ _ => rfl⟩
theorem FrL_p {a j : Nat} {v : Int64} (h : FrL a σ τ) : FrL a σ (pL τ a j v) :=
  ⟨h.1, h.2.1, h.2.2.1, h.2.2.2.1, h.2.2.2.2.1, h.2.2.2.2.2.1, fun x hx => by
    rw [← h.2.2.2.2.2.2 x hx, SL_pL]
    funext y
    exact up2_ne' hx⟩
/-- the miles of the stops: the towns, then the end -/
def pnT (S : Nat → Int32) (np i : Nat) : Int32 := if i < twN S np then S (31 + 4 * twR S np i) else S 1
theorem C_plan (hW : LayW w σ) (hcs : Scs σ 0 ≠ 0) {np : Nat} (hn : np ≤ 16) (p3 : SI σ (w + 1) 10 = nI np) (p7 : SI σ (w + 1) 9 = S 1) (p9 : ∀ k, k < np → SI σ (w + 2) k = S (30 + 4 * k) ∧ SI σ (w + 3) k = S (31 + 4 * k) ∧ bd (S (30 + 4 * k)) 0 5) (hb : ∀ i, bd (pnT S np i) 0 2000) (c1 : SI σ (w + 28) 0 = nI cs) (hc : cs ≤ 99) (hp : bd p 1 40) :
    ∃ r τ1 τ, pnM (fun s => pnK p cr cs (pnT S np) s (twN S np) (S 1)) (2 ^ twN S np) r ∧ (∀ v, r = some v → v < 2 ^ 62) ∧ Fr1 (w + 33) σ τ1 ∧ FrL (w + 34) τ1 τ ∧ f_Supply_leastPlan (w + 28) (w + 1) p cr true σ = (enL r, true, τ) := by
  have hle := twN_le (S := S) (p := np)
  obtain ⟨υ, f1, t1, et⟩ := C_towns (S := S) hW hcs hn p3 p9
  have hLu : LayW w υ := LayT_c hW f1.2.1 f1.2.2.1 f1.2.2.2.1
  have f2 : Fr1 (w + 33) σ (pI υ (w + 33) (twN S np) (S 1)) := Fr1_p f1
  generalize hτ1 : pI υ (w + 33) (twN S np) (S 1) = τ1 at f2
  have hL1 : LayW w τ1 := LayT_c hW f2.2.1 f2.2.2.1 f2.2.2.2.1
  have mi : ∀ i, i ≤ twN S np → SI τ1 (w + 33) i = pnT S np i := fun i hi => by
    rw [← hτ1, SI_pI]
    unfold pnT
    by_cases e : i < twN S np
    · rw [if_pos e, up2_nj (by omega)]
      exact t1 i e
    · rw [if_neg e, show i = twN S np by omega, up2_s]
  have eT : pnT S np (twN S np) = S 1 := if_neg (Nat.lt_irrefl _)
  obtain ⟨τ, ⟨g1, g2⟩, e⟩ := lp_ex (body := b_Supply_leastPlan_21 (w + 28) p cr (nI (twN S np))) (bad := fun (x5 : Int32) (b : Bool) (σ : Sto) => (0, false, σ)) (twN S np) (fun k τ => FrL (w + 34) τ1 τ ∧ ∀ j, j < k → ∃ r, pnM (fun s => pnK p cr cs (pnT S np) s j (pnT S np j)) (2 ^ j) r ∧ (∀ v, r = some v → v ≤ (2 * j + 1) * 17592186044416) ∧ SL τ (w + 34) j = enL (r.map (fun v => v + pnB cs j)))
    (fun τ => bd_ (f_Supply_leastWayTo (w + 28) (nI (twN S np)) p cr true τ) (fun (r_10 : Int64) (b_10 : Bool) (σ_10 : Sto) => (r_10, b_10, σ_10))) (by omega)
    (fun k τ hk ⟨q1, q2⟩ => by
      have hL : LayW w τ := LayT_c hL1 q1.2.1 q1.2.2.1 q1.2.2.2.1
      obtain ⟨r, r1, r2, r3⟩ := C_way (cr := cr) (cs := cs) (m := pnT S np) hL (show k ≤ 16 by omega) hc hp (fun i hi => ⟨by rw [q1.2.2.2.2.1]; exact mi i (by omega), hb i⟩) q2
      have tc : SI τ (w + 28) 0 = nI cs := by rw [q1.2.2.2.2.1, f2.2.2.2.2.2.2 _ (by omega), c1]
      have pw : 2 ^ k ≤ 65536 := Nat.pow_le_pow_right (n := 2) (by decide) (show k ≤ 16 by omega)
      have bx : (((nI cs).toInt64 <<< ((21 : Int32).toInt64 &&& 63)) + (65536 : Int64)) + ((1 : Int64) <<< ((nI k).toInt64 &&& 63)) = lN (pnB cs k) := by
        rw [nI_l (by omega), pn_shl21, show (65536 : Int64) = lN 65536 from rfl, show (1 : Int64) = lN 1 from rfl, wb_shl 1 (k := k) (by omega), lN_add, lN_add, Nat.one_mul]
        rfl
      refine ⟨pL τ (w + 34) k (enL (r.map (fun v => v + pnB cs k))), ⟨FrL_p q1, fun j hj => ?_⟩, fun L => ?_⟩
      · by_cases ej : j = k
        · subst ej
          exact ⟨r, r1, r2, by rw [SL_pL, up2_s]⟩
        · obtain ⟨r', z1, z2, z3⟩ := q2 j (by omega)
          exact ⟨r', z1, z2, by rw [SL_pL, up2_nj ej]; exact z3⟩
      · unfold b_Supply_leastPlan_21
        rw [if_pos (nI_lt hk (by omega)), tc, bx, lt_, cK_of (kW_28 hL)]
        simp only [Bool.and_true]
        rw [r3, bd_]
        dsimp only
        simp only [lt_]
        rw [rW_28_7 hL, ix_nI (show k < 2 ^ 31 by omega), cK_of (kW_28 hL), cA_of (kW_34 hL) (nW_34 hL) (show k < 17 by omega) (by decide)]
        cases r with
        | none =>
          rw [if_pos (show lg_cmp (enL none) 0 < 0 by decide)]
          rfl
        | some v =>
          have hv := r2 v rfl
          rw [if_neg (show ¬ lg_cmp (enL (some v)) 0 < 0 from pn_lt0 (by omega)), show enL (some v) = lN v from rfl, lN_add]
          rfl)
    (fun L τ ⟨q1, q2⟩ => by
      have hL : LayW w τ := LayT_c hL1 q1.2.1 q1.2.2.1 q1.2.2.2.1
      unfold b_Supply_leastPlan_21
      rw [if_neg (nI_nlt (Nat.le_refl _) (by omega)), cK_of (kW_28 hL)]
      rfl)
    τ1 ⟨FrL_0, fun j hj => absurd hj (Nat.not_lt_zero _)⟩
  have hL : LayW w τ := LayT_c hL1 g1.2.1 g1.2.2.1 g1.2.2.2.1
  obtain ⟨r, r1, r2, r3⟩ := C_way (cr := cr) (cs := cs) (m := pnT S np) hL (show twN S np ≤ 16 by omega) hc hp (fun i hi => ⟨by rw [g1.2.2.2.2.1]; exact mi i hi, hb i⟩) g2
  rw [eT] at r1
  refine ⟨r, τ1, τ, r1, fun v e => by have := r2 v e; omega, f2, g1, ?_⟩
  have u9 : SI υ (w + 1) 9 = S 1 := by rw [f1.2.2.2.2.2.2 _ (by omega), p7]
  unfold f_Supply_leastPlan
  rw [cK_of (kW_28 hW), Bool.and_true, et, bd_]
  dsimp only
  rw [lt_, lt_, lt_, rW_28_6 hLu, ix_nI (show twN S np < 2 ^ 31 by omega), u9, hτ1, cK_of (kW_28 hLu), cK_of (kW_1 hLu), cA_of (kW_33 hLu) (nW_33 hLu) (show twN S np < 17 by omega) (by decide)]
  simp only [Bool.and_true]
  rw [e, r3]
  rfl
/-- an answer as an int -/
def enI (r : Option Nat) : Int32 := match r with
  | none => -1
  | some v => nI v
theorem M_leg (hp : bd p 1 40) (ha : bd a 0 2000) (hc : bd c 0 2000) : f_Model_leg (c - a) p cr true ρ = (enI (pnL p cr a c), true, ρ) := by
  have hp1 : ¬ p = 0 := fun h => by rw [h] at hp; exact absurd hp.1 (by decide)
  have hD := pnD_abs hp ha hc
  unfold f_Model_leg
  rw [lt_, decide_eq_false hp1]
  show (if cr < pnD p a c then _ else (pnD p a c * pnD p a c, _, _)) = _
  unfold pnL
  by_cases d : cr < pnD p a c
  · rw [if_pos d, if_pos d]
    rfl
  · rw [if_neg d, if_neg d, pn_sq32 hD]
    rfl
theorem pn_bit {s k : Nat} (hs : s < 65536) (hk : k < 16) : (((nI s >>> (nI k &&& 31)) &&& (1 : Int32)) = 1) ↔ s.testBit k = true := by
  have e1 : ∀ n, n < 32 → ((nI n &&& 31).toBitVec.smod 32).toNat = n := by decide +kernel
  rw [pk_shrN (by omega) _ k (e1 k (by omega)), show (1 : Int32) = nI 1 from rfl, nx_and, show (1 : Nat) = 2 ^ 1 - 1 from rfl, Nat.and_two_pow_sub_one_eq_mod, Nat.testBit_eq_decide_div_mod_eq]
  have hm : s / 2 ^ k % 2 ^ 1 < 2 := Nat.mod_lt _ (by decide)
  rw [nI_eq (by omega) (by decide), decide_eq_true_iff]
theorem pnS_bd (hc : cs ≤ 99) (hp : bd p 1 40) (hb : ∀ i, bd (m i) 0 2000) {s : Nat} : ∀ k q, pnS p cr cs m s k = some q → bd q.1 0 2000 ∧ q.2 ≤ k * 4194304
  | 0, q, h => by
    cases h
    exact ⟨pn_00, Nat.zero_le _⟩
  | k + 1, q, h => by
    have h' : (pnS p cr cs m s k).bind (fun q => if s.testBit k = true then (pnL p cr q.1 (m k)).map (fun v => (m k, q.2 + v + cs)) else some q) = some q := h
    cases e : pnS p cr cs m s k with
    | none => rw [e] at h'; cases h'
    | some z =>
      obtain ⟨z1, z2⟩ := pnS_bd hc hp hb k z e
      rw [e, Option.bind_some] at h'
      have hq := pnQ_le (pnD_abs hp z1 (hb k))
      by_cases b : s.testBit k = true
      · rw [if_pos b] at h'
        unfold pnL at h'
        by_cases d : cr < pnD p z.1 (m k)
        · rw [if_pos d] at h'
          cases h'
        · rw [if_neg d] at h'
          cases h'
          exact ⟨hb k, by show z.2 + pnQ (pnD p z.1 (m k)) + cs ≤ _; omega⟩
      · rw [if_neg b] at h'
        cases h'
        exact ⟨z1, Nat.le_trans z2 (Nat.mul_le_mul_right _ (Nat.le_succ k))⟩
theorem pnE_bd (hc : cs ≤ 99) (hp : bd p 1 40) (hb : ∀ i, bd (m i) 0 2000) (hd : bd c 0 2000) {s k t : Nat} (h : pnE p cr cs m s k c = some t) : t ≤ (k + 1) * 4194304 := by
  unfold pnE at h
  cases e : pnS p cr cs m s k with
  | none => rw [e] at h; cases h
  | some z =>
    obtain ⟨z1, z2⟩ := pnS_bd hc hp hb k z e
    have hq := pnQ_le (pnD_abs hp z1 hd)
    rw [e, Option.bind_some] at h
    unfold pnL at h
    by_cases d : cr < pnD p z.1 c
    · rw [if_pos d] at h
      cases h
    · rw [if_neg d] at h
      cases h
      show z.2 + pnQ (pnD p z.1 c) ≤ _
      omega
theorem M_ones : ∀ k s x fu, s < 2 ^ k → k ≤ 16 → k < fu → lp_ b_Model_ones_4 (fun (x1 : Int32) (x2 : Int32) (b : Bool) (σ : Sto) => (0, false, σ)) fu (nI x) (nI s) true ρ = (nI (x + pnO s k), true, ρ) := by
  intro k
  have z : ∀ x fu, 0 < fu → lp_ b_Model_ones_4 (fun (x1 : Int32) (x2 : Int32) (b : Bool) (σ : Sto) => (0, false, σ)) fu (nI x) (nI 0) true ρ = (nI x, true, ρ) := fun x fu hf => by
    obtain ⟨fu, rfl⟩ : ∃ z, fu = z + 1 := ⟨fu - 1, by omega⟩
    rw [lp_S]
    unfold b_Model_ones_4
    rw [if_neg (show ¬ (0 : Int32) < nI 0 by decide)]
  induction k with
  | zero =>
    intro s x fu hs hk hf
    rw [show s = 0 by omega]
    exact z x fu hf
  | succ k ih =>
    intro s x fu hs hk hf
    by_cases h0 : s = 0
    · subst h0
      have e : pnO 0 (k + 1) = 0 := by
        have := pnO_hi (s := 0) (j := 0) (by decide) (k + 1)
        rw [Nat.zero_add] at this
        exact this
      rw [z x fu (by omega), e]
      rfl
    · obtain ⟨fu, rfl⟩ : ∃ z, fu = z + 1 := ⟨fu - 1, by omega⟩
      have pw : 2 ^ (k + 1) ≤ 65536 := Nat.pow_le_pow_right (n := 2) (by decide) hk
      have hs2 : s / 2 < 2 ^ k := by rw [Nat.pow_succ] at hs; omega
      rw [lp_S]
      unfold b_Model_ones_4
      rw [if_pos (show (0 : Int32) < nI s from nI_lt (a := 0) (by omega) (by omega)), lt_, lt_, show (2 : Int32) = nI 2 from rfl, nI_mod (by omega) (by omega), nI_div (by omega) (by omega), nI_add]
      have := ih (s / 2) (x + s % 2) fu hs2 (by omega) (by omega)
      rw [pnO_half, ← Nat.add_assoc]
      exact this
theorem e_ones {s k : Nat} (hs : s < 2 ^ k) (hk : k ≤ 16) : f_Model_ones (nI s) true ρ = (nI (pnO s k), true, ρ) := by
  unfold f_Model_ones
  rw [lt_, lt_]
  have := M_ones (ρ := ρ) k s 0 fuel_ hs hk (by show k < 70000; omega)
  rw [Nat.zero_add] at this
  exact this
end PN3
