/-! rows of pictures: all of the reference's -/
section AL7
variable {X Y w : Nat} {σ ρ : Sto} {S : Nat → Int32}
theorem cntN_true : ∀ {n : Nat}, cntN (fun _ => True) n = n
  | 0 => rfl
  | n + 1 => by
    unfold cntN
    rw [cntN_true, if_pos trivial]
theorem cntN_all {p : Nat → Prop} {n : Nat} (h : ∀ i, i < n → p i) : cntN p n = n := Nat.le_antisymm cntN_le (by
  have := cntN_mono (p := fun _ => True) (q := p) (n := n) (fun i hi _ => h i hi)
  rw [cntN_true] at this
  exact this)
theorem cntN_full {p : Nat → Prop} {n : Nat} (h : cntN p n = n) : ∀ i, i < n → p i := fun i hi => Classical.byContradiction (fun z => by
  have := cntN_lt (p := p) (q := fun _ => True) (n := n) (j := i) (fun _ _ _ => trivial) hi z trivial
  rw [cntN_true] at this
  omega)
theorem cntN_one {p q : Nat → Prop} {m : Nat} : ∀ {n : Nat}, (∀ i, i < n → i ≠ m → q i → p i) → cntN q n ≤ cntN p n + 1
  | 0, _ => by unfold cntN; omega
  | n + 1, h => by
    have ih := cntN_one (p := p) (q := q) (m := m) (n := n) (fun i hi => h i (by omega))
    unfold cntN
    by_cases e : n = m
    · have ih' := cntN_mono (p := q) (q := p) (n := n) (fun i hi => h i (by omega) (by omega))
      by_cases hq : q n
      · by_cases hp : p n
        · rw [if_pos hq, if_pos hp]; omega
        · rw [if_pos hq, if_neg hp]; omega
      · rw [if_neg hq]; omega
    · by_cases hq : q n
      · rw [if_pos hq, if_pos (h n (by omega) e hq)]; omega
      · rw [if_neg hq]; omega
def rowP (Y : Nat) (S : Nat → Int32) (v : Int32) (n : Nat) (ρ : Sto) (i : Nat) (τ : Sto) : Prop := FrB Y ρ τ ∧ cntN (fun k => SI τ (Y + 18) k ≠ 0) n = i ∧ (∀ a k, a < n → k < n → SI τ (Y + 18) a ≠ 0 → SI τ (Y + 18) k = 0 → (S (520 + 2 * k)).toInt ≤ (S (520 + 2 * a)).toInt) ∧ ∀ a, a < n → SI τ (Y + 18) a ≠ 0 → spA (fwP S v n) (fun k => S (521 + 2 * k)) n (SI τ (Y + 15)) (SI τ (Y + 16)) (SI τ (Y + 17)) a ∧ bd (SI τ (Y + 15) a) 1 i
theorem rowP_step {n i m : Nat} {v : Int32} {τ τ' : Sto} (hi : i < n) (hn : n ≤ 20) (hb : ∀ k, k < n → bd (S (520 + 2 * k)) 0 999) (h : rowP Y S v n ρ i τ) (hm : m < n) (hF : SI τ (Y + 18) m = 0) (hmax : ∀ j, j < n → SI τ (Y + 18) j = 0 → (S (520 + 2 * j)).toInt ≤ (S (520 + 2 * m)).toInt) (hu : upP Y S τ m (bstP (fwP S v n) (SI τ (Y + 15)) (SI τ (Y + 16)) m n) τ') : rowP Y S v n ρ (i + 1) τ' := by
  obtain ⟨h1, h2, h3, h4⟩ := h
  obtain ⟨u1, u2, u3, u4, u5, u6⟩ := hu
  have f0 : ∀ k, k ≠ m → SI τ' (Y + 18) k = SI τ (Y + 18) k := fun k hk => by rw [u2 k, if_neg hk]
  have fm : SI τ' (Y + 18) m = 1 := by rw [u2 m, if_pos rfl]
  have fm' : SI τ' (Y + 18) m ≠ 0 := by rw [fm]; decide
  have hfd : ∀ b, b < n → fwP S v n m b → SI τ (Y + 18) b ≠ 0 := fun b hbn hf z => by
    have := hmax b hbn z
    have := fw_day hb hf
    omega
  refine ⟨FrB_t h1 u1, Nat.le_antisymm ?_ ?_, fun a k ha hk fa fk => ?_, fun a ha fa => ?_⟩
  · rw [← h2]
    exact cntN_one (m := m) (fun k _ hk z => by rw [← f0 k hk]; exact z)
  · rw [← h2]
    exact cntN_lt (j := m) (fun k _ z => by
      by_cases e : k = m
      · rw [e]; exact fm'
      · rw [f0 k e]; exact z) hm (fun z => z hF) fm'
  · have hk' : k ≠ m := fun z => fm' (by rw [← z]; exact fk)
    rw [f0 k hk'] at fk
    by_cases e : a = m
    · rw [e]; exact hmax k hk fk
    · rw [f0 a e] at fa
      exact h3 a k ha hk fa fk
  · by_cases e : a = m
    · subst e
      have ec := bstP_congr (fw := fwP S v n) (M := SI τ' (Y + 15)) (E := SI τ' (Y + 16)) (M' := SI τ (Y + 15)) (E' := SI τ (Y + 16)) (a := a) (k := n) (fun b _ hf => by
        have hba : b ≠ a := fun z => by rw [z] at hf; exact fw_self hb hf
        exact ⟨(u3 b hba).1, (u3 b hba).2.1⟩)
      unfold spA
      rw [ec, u4, u5, u6]
      cases hx : bstP (fwP S v n) (SI τ (Y + 15)) (SI τ (Y + 16)) a n with
      | none => exact ⟨⟨rfl, rfl, rfl⟩, by show bd (1 : Int32) 1 _; exact ⟨by decide, by rw [show (1 : Int32).toInt = 1 from rfl]; omega⟩⟩
      | some x =>
        have xi := bstP_in hx
        have hxa : x ≠ a := fun z => by rw [z] at xi; exact fw_self hb xi.2
        obtain ⟨-, bx⟩ := h4 x xi.1 (hfd x xi.1 xi.2)
        obtain ⟨y, hy, ey⟩ := bd_nat (n := i) (v := SI τ (Y + 15) x) ⟨by have := bx.1; omega, bx.2⟩
        dsimp only
        rw [(u3 x hxa).1, (u3 x hxa).2.1]
        refine ⟨⟨?_, rfl, rfl⟩, ?_⟩
        · show SI τ (Y + 15) x + 1 = 1 + SI τ (Y + 15) x
          exact Int32.add_comm _ _
        · show bd (SI τ (Y + 15) x + 1) 1 _
          rw [ey, nI_p1]
          unfold bd
          rw [nI_toInt (by omega)]
          omega
    · rw [f0 a e] at fa
      obtain ⟨s1, s2⟩ := h4 a ha fa
      refine ⟨spA_congr (fun b hbn hf => ?_) (u3 a e).2.2.symm ha s1, ?_⟩
      · have hbm : b ≠ m := fun z => by
          rcases hf with hf | hf
          · have := fw_day hb hf
            rw [z] at this
            have := h3 a m ha hm fa hF
            omega
          · exact e (hf.symm.trans z)
        exact ⟨(u3 b hbm).1.symm, (u3 b hbm).2.1.symm⟩
      · rw [(u3 a e).1]
        exact ⟨s2.1, by have := s2.2; omega⟩
theorem M_rows (hY : LayY Y ρ) (hS : SI ρ (Y + 1) = S) {n : Nat} {v : Int32} (hn : n ≤ 20) (a9 : S 9 = nI n) (hb : ∀ k, k < n → bd (S (520 + 2 * k)) 0 999) : ∃ τ, FrB Y ρ τ ∧ (∀ a, a < n → spA (fwP S v n) (fun k => S (521 + 2 * k)) n (SI τ (Y + 15)) (SI τ (Y + 16)) (SI τ (Y + 17)) a ∧ bd (SI τ (Y + 15) a) 1 20) ∧ f_Model_findRows Y v true ρ = ((), true, τ) := by
  obtain ⟨τ1, ⟨p1, p2⟩, e1⟩ := lp_ex (body := b_Model_findRows_2 Y v) (bad := fun (x2 : Int32) (b : Bool) (σ : Sto) => ((), false, σ)) 20 (fun k τ => FrB Y ρ τ ∧ ∀ j, j < k → SI τ (Y + 18) j = 0) (fun τ => lp_ (b_Model_findRows_23 Y v) (fun (x2 : Int32) (b : Bool) (σ : Sto) => ((), false, σ)) fuel_ 0 true τ) (by omega)
    (fun i τ hi ⟨q1, q2⟩ => by
      have hL : LayY Y τ := LayY_c hY q1.2.1 q1.2.2.1 q1.2.2.2.1
      refine ⟨pI τ (Y + 18) i 0, ⟨FrB_p q1 (by omega), fun j hj => ?_⟩, fun L => ?_⟩
      · rw [SI_pI]
        by_cases e : j = i
        · rw [e, up2_s]
        · rw [up2_nj e]; exact q2 j (by omega)
      · unfold b_Model_findRows_2
        rw [if_pos (show nI i < (20 : Int32) from nI_lt (b := 20) hi (by decide)), lt_, lt_, rY_30 hL, ix_nI (show i < 2 ^ 31 by omega), show (0 : Int32) &&& 1 = 0 by decide, cK_of (kY_0 hL), cA_of (kY_18 hL) (nY_18 hL) hi (by decide)]
        rfl)
    (fun L τ ⟨q1, q2⟩ => by
      unfold b_Model_findRows_2
      rw [if_neg (show ¬ nI 20 < (20 : Int32) by decide), lt_])
    ρ ⟨FrB_0, fun j hj => absurd hj (Nat.not_lt_zero _)⟩
  have h0 : rowP Y S v n ρ 0 τ1 := ⟨p1, by
    have := cntN_mono (p := fun k => SI τ1 (Y + 18) k ≠ 0) (q := fun _ => False) (n := n) (fun k hk z => z (p2 k (by omega)))
    have z : ∀ n, cntN (fun _ => False) n = 0 := fun n => by
      induction n with
      | zero => rfl
      | succ n ih => unfold cntN; rw [ih, if_neg (fun z => z)]
    rw [z] at this
    omega, fun a k ha _ fa => absurd (p2 a (by omega)) fa, fun a ha fa => absurd (p2 a (by omega)) fa⟩
  obtain ⟨τ, k, e2⟩ := lp_ex (body := b_Model_findRows_23 Y v) (bad := fun (x2 : Int32) (b : Bool) (σ : Sto) => ((), false, σ)) n (fun i τ => rowP Y S v n ρ i τ) (fun τ => ((), true, τ)) (by omega)
    (fun i τ hi q => by
      obtain ⟨q1, q2, q3, q4⟩ := id q
      have hL : LayY Y τ := LayY_c hY q1.2.1 q1.2.2.1 q1.2.2.2.1
      have tS : SI τ (Y + 1) = S := by rw [q1.2.2.2.2.2.2 _ (by omega), hS]
      have hun : ∃ k, k < n ∧ SI τ (Y + 18) k = 0 := Classical.byContradiction (fun z => by
        have := cntN_all (p := fun k => SI τ (Y + 18) k ≠ 0) (n := n) (fun k hk y => z ⟨k, hk, y⟩)
        omega)
      obtain ⟨m, m1, m2, m3, m4⟩ := M_sel (i := i) (v := v) hL tS hn a9 hun
      obtain ⟨τ', u1, u2⟩ := M_upd (i := i) (v := v) hL tS hn m1 a9 (fun b => fw_self hb) (fun b hbn hf z => by
        have := m3 b hbn z
        have := fw_day hb hf
        omega) (fun b hbn hf => by
        have := (q4 b hbn hf).2
        exact ⟨this.1, by have := this.2; omega⟩)
      refine ⟨τ', rowP_step hi hn hb q m1 m2 m3 u1, fun L => ?_⟩
      unfold b_Model_findRows_23
      rw [rY_0 hL, show ix (9 : Int32) = 9 from rfl, tS, a9, if_pos (nI_lt hi (by omega)), lt_, lt_, cK_of (kY_0 hL), cYk hL 9 (v := 9) rfl (by decide)]
      exact (m4 L).trans (u2 L))
    (fun L τ q => by
      have q1 := q.1
      have hL : LayY Y τ := LayY_c hY q1.2.1 q1.2.2.1 q1.2.2.2.1
      have tS : SI τ (Y + 1) = S := by rw [q1.2.2.2.2.2.2 _ (by omega), hS]
      unfold b_Model_findRows_23
      rw [rY_0 hL, show ix (9 : Int32) = 9 from rfl, tS, a9, if_neg (nI_nlt (Nat.le_refl n) (by omega)), cK_of (kY_0 hL), cYk hL 9 (v := 9) rfl (by decide)]
      rfl)
    τ1 h0
  obtain ⟨k1, k2, k3, k4⟩ := k
  refine ⟨τ, k1, fun a ha => ?_, ?_⟩
  · obtain ⟨s1, s2⟩ := k4 a ha (cntN_full k2 a ha)
    exact ⟨s1, s2.1, by have := s2.2; omega⟩
  · unfold f_Model_findRows
    rw [lt_]
    exact e1.trans e2
end AL7
