/-! plans: the class's loops -/
section PN2
variable {w : Nat} {σ τ : Sto} {p cr a c : Int32} {cs : Nat} {m : Nat → Int32}
theorem wb_tb (n : Nat) : (lN n).toBitVec = BitVec.ofNat 64 n := rfl
theorem wb_inj {a b : Int64} (h : a.toBitVec = b.toBitVec) : a = b := Int64.toBitVec_inj.mp h
theorem wb_c : ∀ k, k < 64 → ((nI k).toInt64 &&& 63) = lN k := by decide +kernel
theorem wb_sm : ∀ k, k < 64 → (BitVec.ofNat 64 k).smod 64 = BitVec.ofNat 64 k := by decide +kernel
theorem wb_shl (n : Nat) {k : Nat} (hk : k < 64) : lN n <<< ((nI k).toInt64 &&& 63) = lN (n * 2 ^ k) := by
  rw [wb_c k hk]
  apply wb_inj
  rw [Int64.toBitVec_shiftLeft, wb_tb, wb_tb, wb_tb, wb_sm k hk]
  apply BitVec.eq_of_toNat_eq
  rw [BitVec.shiftLeft_eq', BitVec.toNat_shiftLeft, BitVec.toNat_ofNat, BitVec.toNat_ofNat, BitVec.toNat_ofNat, Nat.mod_eq_of_lt (show k < 2 ^ 64 by omega), Nat.shiftLeft_eq, Nat.mul_mod, Nat.mod_mod, ← Nat.mul_mod]
theorem pf_shr {a d : Nat} {D : Int64} (hD : (D.toBitVec.smod 64).toNat = d) (h : a < 2 ^ 62) : lN a >>> D = lN (a / 2 ^ d) := by
  have hd : a / 2 ^ d ≤ a := Nat.div_le_self _ _
  apply Int64.toInt_inj.mp
  have e : (lN a >>> D).toInt = (lN a).toInt >>> d := by
    rw [← hD]
    exact BitVec.toInt_sshiftRight ..
  rw [e, Int.shiftRight_eq_div_pow, pk_lT (by omega), pk_lT (by omega)]
  rfl
theorem nx_and (a b : Nat) : nI a &&& nI b = nI (a &&& b) := by
  apply Int32.toBitVec_inj.1
  show BitVec.ofNat 32 a &&& BitVec.ofNat 32 b = BitVec.ofNat 32 (a &&& b)
  apply BitVec.eq_of_getLsbD_eq
  intro i hi
  simp [hi]
theorem pn_shl21 (v : Nat) : lN v <<< ((21 : Int32).toInt64 &&& 63) = lN (v * 2097152) := wb_shl v (k := 21) (by decide)
theorem pn_lt {a b : Nat} (ha : a < 2 ^ 62) (hb : b < 2 ^ 62) : lg_cmp (lN a) (lN b) < 0 ↔ a < b := by
  rw [lg_neg, Int64.lt_iff_toInt_lt, pk_lT (by omega), pk_lT (by omega)]
  omega
theorem pn_lt0 {a : Nat} (ha : a < 2 ^ 62) : ¬ lg_cmp (lN a) 0 < 0 := fun h => absurd ((pn_lt (b := 0) ha (by decide)).mp h) (Nat.not_lt_zero _)
theorem pnD_abs (hp : bd p 1 40) (ha : bd a 0 2000) (hc : bd c 0 2000) : (pnD p a c).toInt.natAbs ≤ 2047 := by
  unfold bd at hp ha hc
  have e1 : (c - a).toInt = c.toInt - a.toInt := by rw [Int32.toInt_sub]; exact Int.bmod_eq_of_le (by omega) (by omega)
  have e2 : (c - a + p).toInt = c.toInt - a.toInt + p.toInt := by rw [Int32.toInt_add, e1]; exact Int.bmod_eq_of_le (by omega) (by omega)
  have e3 : (c - a + p - 1).toInt = c.toInt - a.toInt + p.toInt - 1 := by rw [Int32.toInt_sub, e2]; exact Int.bmod_eq_of_le (by show _ ≤ c.toInt - a.toInt + p.toInt - 1; omega) (by show c.toInt - a.toInt + p.toInt - 1 < _; omega)
  have hne : p ≠ -1 := fun h => by rw [h] at hp; exact absurd hp.1 (by decide)
  have e4 : (pnD p a c).toInt = (c.toInt - a.toInt + p.toInt - 1).tdiv p.toInt := by
    unfold pnD
    rw [Int32.toInt_div_of_ne_right _ _ hne, e3]
  rw [e4, Int.natAbs_tdiv]
  exact Nat.le_trans (Nat.div_le_self _ _) (by omega)
theorem pn_00 : bd 0 0 2000 := ⟨by decide, by decide⟩
theorem pnQ_le {x : Int32} (h : x.toInt.natAbs ≤ 2047) : pnQ x ≤ 4190209 := Nat.mul_le_mul h h
theorem pnQ_i (x : Int32) : x.toInt * x.toInt = (pnQ x : Int) := by
  unfold pnQ
  rw [Int.natCast_mul]
  exact (Int.natAbs_mul_self' _).symm
theorem pn_sq64 {x : Int32} (h : x.toInt.natAbs ≤ 2047) : x.toInt64 * x.toInt64 = lN (pnQ x) := by
  have hq := pnQ_le h
  apply Int64.toInt_inj.mp
  rw [Int64.toInt_mul, Int32.toInt_toInt64, pk_lT (by omega), pnQ_i]
  exact Int.bmod_eq_of_le (by omega) (by omega)
theorem pn_sq32 {x : Int32} (h : x.toInt.natAbs ≤ 2047) : x * x = nI (pnQ x) := by
  have hq := pnQ_le h
  apply Int32.toInt_inj.mp
  rw [Int32.toInt_mul, nI_toInt (by omega), pnQ_i]
  exact Int.bmod_eq_of_le (by omega) (by omega)
/-- an answer as a long -/
def enL (r : Option Nat) : Int64 := match r with
  | none => -1
  | some v => lN v
theorem pn2_or {a b : Option Nat} {v : Nat} (h : pn2 a b = some v) : a = some v ∨ b = some v := by
  cases a with
  | none => exact Or.inr h
  | some x =>
    cases b with
    | none => exact Or.inl h
    | some y =>
      have h' : (if y < x then some y else some x) = some v := h
      by_cases c : y < x
      · rw [if_pos c] at h'
        exact Or.inr h'
      · rw [if_neg c] at h'
        exact Or.inl h'
/-- one turn -/
theorem pn_turn {β : Type} (K : Int64 → β) {D : Int32} (hD : D.toInt.natAbs ≤ 2047) {x y : Option Nat} (hx : ∀ v, x = some v → v ≤ 1125899906842624) (hy : ∀ v, y = some v → v ≤ 1125899906842624) :
    (if lg_cmp (enL y) 0 < 0 then K (enL x) else if 0 < lg_cmp D.toInt64 cr.toInt64 then K (enL x) else if lg_cmp (enL x) 0 < 0 then K (enL y + ((D.toInt64 * D.toInt64) <<< ((21 : Int32).toInt64 &&& 63))) else if lg_cmp (enL y + ((D.toInt64 * D.toInt64) <<< ((21 : Int32).toInt64 &&& 63))) (enL x) < 0 then K (enL y + ((D.toInt64 * D.toInt64) <<< ((21 : Int32).toInt64 &&& 63))) else K (enL x)) = K (enL (pn2 x (pnC y (if cr < D then none else some (pnQ D))))) := by
  cases y with
  | none =>
    rw [if_pos (show lg_cmp (enL none) 0 < 0 by decide)]
    cases x <;> rfl
  | some v =>
    have hv := hy v rfl
    have hq := pnQ_le hD
    rw [if_neg (show ¬ lg_cmp (enL (some v)) 0 < 0 from pn_lt0 (by omega))]
    have hc : 0 < lg_cmp D.toInt64 cr.toInt64 ↔ cr < D := by rw [lg_pos, w_lt]
    by_cases c : cr < D
    · rw [if_pos (hc.mpr c), if_pos c]
      cases x <;> rfl
    · rw [if_neg (fun h => c (hc.mp h)), if_neg c, pn_sq64 hD, pn_shl21, show enL (some v) = lN v from rfl, lN_add]
      cases x with
      | none =>
        rw [if_pos (show lg_cmp (enL none) 0 < 0 by decide)]
        rfl
      | some u =>
        have hu := hx u rfl
        rw [if_neg (show ¬ lg_cmp (enL (some u)) 0 < 0 from pn_lt0 (by omega)), show enL (some u) = lN u from rfl]
        show _ = K (enL (if v + pnQ D * 2097152 < u then some (v + pnQ D * 2097152) else some u))
        by_cases d : v + pnQ D * 2097152 < u
        · rw [if_pos ((pn_lt (by omega) (by omega)).mpr d), if_pos d]
          rfl
        · rw [if_neg (fun h => d ((pn_lt (by omega) (by omega)).mp h)), if_neg d]
          rfl
theorem b_way_j (hW : LayW w τ) {k j : Nat} (hk : k ≤ 16) (hj : j < k) (hp : bd p 1 40) (hmk : SI τ (w + 33) k = m k) (hmj : SI τ (w + 33) j = m j) (bk : bd (m k) 0 2000) (bj : bd (m j) 0 2000) {x y : Option Nat} (hpl : SL τ (w + 34) j = enL y) (hx : ∀ v, x = some v → v ≤ 1125899906842624) (hy : ∀ v, y = some v → v ≤ 1125899906842624) (L : Int64 → Int32 → Bool → Sto → Rs Int64) :
    b_Supply_leastWayTo_8 (w + 28) (nI k) p cr L (enL x) (nI j) true τ = L (enL (pn2 x (pnC y (pnL p cr (m j) (m k))))) (nI j + 1) true τ := by
  have hp0 : 0 < p := by rw [Int32.lt_iff_toInt_lt]; exact hp.1
  have hp1 : ¬ p = 0 := fun h => by rw [h] at hp0; exact absurd hp0 (by decide)
  unfold b_Supply_leastWayTo_8
  rw [if_pos (nI_lt hj (by omega))]
  simp only [lt_]
  rw [if_neg (nI_pos (show j < 2 ^ 31 by omega)), if_neg (nI_pos (show j < 2 ^ 31 by omega)), if_pos hp0, rW_28_6 hW, rW_28_7 hW, ix_nI (show j < 2 ^ 31 by omega), ix_nI (show k < 2 ^ 31 by omega), hmk, hmj, hpl, cK_of (kW_28 hW), cA_of (kW_33 hW) (nW_33 hW) (show j < 17 by omega) (by decide), cA_of (kW_33 hW) (nW_33 hW) (show k < 17 by omega) (by decide), cA_of (kW_34 hW) (nW_34 hW) (show j < 17 by omega) (by decide), decide_eq_false hp1]
  exact pn_turn (fun z => L z (nI j + 1) true τ) (pnD_abs hp bj bk) hx hy
theorem b_way_0 (hW : LayW w τ) {k : Nat} (hk : k ≤ 16) (hp : bd p 1 40) (hmk : SI τ (w + 33) k = m k) (bk : bd (m k) 0 2000) (L : Int64 → Int32 → Bool → Sto → Rs Int64) :
    b_Supply_leastWayTo_8 (w + 28) (nI k) p cr L (-1) (-1) true τ = L (enL (pnC (some 0) (pnL p cr 0 (m k)))) 0 true τ := by
  have hp0 : 0 < p := by rw [Int32.lt_iff_toInt_lt]; exact hp.1
  have hp1 : ¬ p = 0 := fun h => by rw [h] at hp0; exact absurd hp0 (by decide)
  unfold b_Supply_leastWayTo_8
  rw [if_pos (show (-1 : Int32) < nI k from Int32.lt_of_lt_of_le (by decide) (nI_pos' (by omega)))]
  simp only [lt_]
  rw [if_pos (show (-1 : Int32) < 0 by decide), if_pos (show (-1 : Int32) < 0 by decide), if_pos hp0, rW_28_6 hW, ix_nI (show k < 2 ^ 31 by omega), hmk, cK_of (kW_28 hW), cA_of (kW_33 hW) (nW_33 hW) (show k < 17 by omega) (by decide), decide_eq_false hp1, show (-1 : Int32) + 1 = 0 by decide]
  exact pn_turn (fun z => L z 0 true τ) (x := none) (y := some 0) (pnD_abs (a := 0) hp pn_00 bk) (fun v h => by cases h) (fun v h => by cases h; exact Nat.zero_le _)
/-- the least way to a stop -/
theorem C_way (hW : LayW w τ) {k : Nat} (hk : k ≤ 16) (hc : cs ≤ 99) (hp : bd p 1 40) (hm : ∀ i, i ≤ k → SI τ (w + 33) i = m i ∧ bd (m i) 0 2000) (hP : ∀ j, j < k → ∃ r, pnM (fun s => pnK p cr cs m s j (m j)) (2 ^ j) r ∧ (∀ v, r = some v → v ≤ (2 * j + 1) * 17592186044416) ∧ SL τ (w + 34) j = enL (r.map (fun v => v + pnB cs j))) :
    ∃ r, pnM (fun s => pnK p cr cs m s k (m k)) (2 ^ k) r ∧ (∀ v, r = some v → v ≤ (2 * k + 1) * 17592186044416) ∧ f_Supply_leastWayTo (w + 28) (nI k) p cr true τ = (enL r, true, τ) := by
  obtain ⟨mk1, mk2⟩ := hm k (Nat.le_refl _)
  have candB : ∀ (y : Option Nat) (a : Int32) (j : Nat), (∀ v, y = some v → v ≤ (2 * j) * 17592186044416) → j ≤ k → bd a 0 2000 → ∀ v, pnC y (pnL p cr a (m k)) = some v → v ≤ (2 * k + 1) * 17592186044416 := fun y a j hy hj ha v e => by
    have hq := pnQ_le (pnD_abs hp ha mk2)
    cases y with
    | none => cases e
    | some z =>
      have hz := hy z rfl
      unfold pnL at e
      by_cases d : cr < pnD p a (m k)
      · rw [if_pos d] at e
        cases e
      · rw [if_neg d] at e
        cases e
        show z + pnQ (pnD p a (m k)) * 2097152 ≤ _
        omega
  have key : ∀ d j (x : Option Nat) fu, j + d = k → d < fu → (∀ v, x = some v → v ≤ (2 * k + 1) * 17592186044416) → pnM (fun s => pnK p cr cs m s k (m k)) (2 ^ j) x → ∃ r, pnM (fun s => pnK p cr cs m s k (m k)) (2 ^ k) r ∧ (∀ v, r = some v → v ≤ (2 * k + 1) * 17592186044416) ∧ lp_ (b_Supply_leastWayTo_8 (w + 28) (nI k) p cr) (fun (l4 : Int64) (x6 : Int32) (b : Bool) (σ : Sto) => (0, false, σ)) fu (enL x) (nI j) true τ = (enL r, true, τ) := by
    intro d
    induction d with
    | zero =>
      intro j x fu hj hf hx hM
      obtain ⟨fu, rfl⟩ : ∃ z, fu = z + 1 := ⟨fu - 1, by omega⟩
      have hj' : j = k := by omega
      subst hj'
      refine ⟨x, hM, hx, ?_⟩
      rw [lp_S]
      unfold b_Supply_leastWayTo_8
      rw [if_neg (nI_nlt (Nat.le_refl _) (by omega))]
    | succ d ih =>
      intro j x fu hj hf hx hM
      obtain ⟨fu, rfl⟩ : ∃ z, fu = z + 1 := ⟨fu - 1, by omega⟩
      obtain ⟨r, r1, r2, r3⟩ := hP j (by omega)
      obtain ⟨mj1, mj2⟩ := hm j (by omega)
      have pw : 2 ^ j ≤ 65536 := Nat.pow_le_pow_right (n := 2) (by decide) (show j ≤ 16 by omega)
      have hy : ∀ v, r.map (fun v => v + pnB cs j) = some v → v ≤ (2 * (j + 1)) * 17592186044416 := fun v e => by
        cases r with
        | none => cases e
        | some z =>
          have hz := r2 z rfl
          cases e
          show z + pnB cs j ≤ _
          unfold pnB
          omega
      have hM2 : pnM (fun s => pnK p cr cs m s k (m k)) (2 ^ (j + 1)) (pn2 x (pnC (r.map (fun v => v + pnB cs j)) (pnL p cr (m j) (m k)))) := by
        rw [Nat.pow_succ, Nat.mul_two]
        exact pnM_j hM (pnM_cong (pnM_C (pnM_map r1 (pnB cs j)) (pnL p cr (m j) (m k))) (fun s hs => (pnK_top (by omega) hs).symm))
      obtain ⟨q, q1, q2, q3⟩ := ih (j + 1) _ fu (by omega) (by omega) (fun v e => by
        rcases pn2_or e with e | e
        · exact hx v e
        · exact candB _ _ (j + 1) hy (by omega) mj2 v e) hM2
      refine ⟨q, q1, q2, ?_⟩
      rw [lp_S, b_way_j hW hk (by omega) hp mk1 mj1 mk2 mj2 r3 (fun v e => by have := hx v e; omega) (fun v e => by have := hy v e; omega), nI_1]
      exact q3
  have h0 : pnM (fun s => pnK p cr cs m s k (m k)) (2 ^ 0) (pnC (some 0) (pnL p cr 0 (m k))) := pnM_1 pnK_0
  obtain ⟨N, hN, hN2⟩ : ∃ N, fuel_ = N + 1 ∧ 60000 < N := ⟨69999, rfl, by decide⟩
  obtain ⟨r, r1, r2, r3⟩ := key k 0 _ N (by omega) (by omega) (candB (some 0) 0 0 (fun v e => by cases e; exact Nat.zero_le _) (by omega) pn_00) h0
  refine ⟨r, r1, r2, ?_⟩
  unfold f_Supply_leastWayTo
  rw [lt_, lt_, hN, lp_S, b_way_0 hW hk hp mk1 mk2]
  exact r3
end PN2
