/-! rows of pictures: the reference's, filled -/
section AL6
variable {X Y w : Nat} {σ ρ : Sto} {S : Nat → Int32}
theorem bd1_lt {x y : Int32} (hx : bd x 0 20) (hy : bd y 0 20) : (x + 1 < y + 1 ↔ x < y) ∧ (y + 1 = x + 1 ↔ y = x) := by
  obtain ⟨a, ha, rfl⟩ := bd_nat (n := 20) hx
  obtain ⟨b, hb, rfl⟩ := bd_nat (n := 20) hy
  rw [nI_p1, nI_p1]
  refine ⟨⟨fun h => ?_, fun h => ?_⟩, ⟨fun h => ?_, fun h => by rw [← nI_p1, h, nI_p1]⟩⟩
  · rcases Nat.lt_or_ge a b with z | z
    · exact nI_lt z (by omega)
    · exact absurd h (nI_nlt (by omega) (by omega))
  · rcases Nat.lt_or_ge a b with z | z
    · exact nI_lt (by omega) (by omega)
    · exact absurd h (nI_nlt (by omega) (by omega))
  · have := (nI_eq (by omega) (by omega)).mp h
    rw [show b = a by omega]
def vMk (ρ : Sto) (Y : Nat) : Option Nat → Int32
  | none => 1
  | some x => SI ρ (Y + 15) x + 1
def vEk (ρ : Sto) (Y : Nat) (e : Int32) : Option Nat → Int32
  | none => e
  | some x => SI ρ (Y + 16) x
/-- what the rows hold while followers are tried -/
def upP (Y : Nat) (S : Nat → Int32) (ρ : Sto) (m : Nat) (o : Option Nat) (τ : Sto) : Prop := FrB Y ρ τ ∧ (∀ x, SI τ (Y + 18) x = if x = m then 1 else SI ρ (Y + 18) x) ∧ (∀ x, x ≠ m → SI τ (Y + 15) x = SI ρ (Y + 15) x ∧ SI τ (Y + 16) x = SI ρ (Y + 16) x ∧ SI τ (Y + 17) x = SI ρ (Y + 17) x) ∧ SI τ (Y + 15) m = vMk ρ Y o ∧ SI τ (Y + 16) m = vEk ρ Y (S (521 + 2 * m)) o ∧ SI τ (Y + 17) m = cdO o
theorem upP_0 {m : Nat} : upP Y S ρ m none (bgA Y S m ρ) := by
  unfold bgA
  refine ⟨FrB_p (FrB_p (FrB_p (FrB_p FrB_0 (by omega)) (by omega)) (by omega)) (by omega), fun x => ?_, fun x hx => ⟨?_, ?_, ?_⟩, ?_, ?_, ?_⟩
  · rw [SI_pI, up2_ne' (by omega), SI_pI, up2_ne' (by omega), SI_pI, up2_ne' (by omega), SI_pI]
    by_cases e : x = m
    · rw [e, up2_s, if_pos rfl]
    · rw [up2_nj e, if_neg e]
  · rw [SI_pI, up2_ne' (by omega), SI_pI, up2_ne' (by omega), SI_pI, up2_nj hx, SI_pI, up2_ne' (by omega)]
  · rw [SI_pI, up2_ne' (by omega), SI_pI, up2_nj hx, SI_pI, up2_ne' (by omega), SI_pI, up2_ne' (by omega)]
  · rw [SI_pI, up2_nj hx, SI_pI, up2_ne' (by omega), SI_pI, up2_ne' (by omega), SI_pI, up2_ne' (by omega)]
  · rw [SI_pI, up2_ne' (by omega), SI_pI, up2_ne' (by omega), SI_pI, up2_s]
    rfl
  · rw [SI_pI, up2_ne' (by omega), SI_pI, up2_s]
    rfl
  · rw [SI_pI, up2_s]
    rfl
/-- another follower taken -/
def nwA (Y m k : Nat) (τ : Sto) : Sto := pI (pI (pI τ (Y + 15) m (SI τ (Y + 15) k + 1)) (Y + 16) m (SI τ (Y + 16) k)) (Y + 17) m (nI k)
theorem upP_n {m k : Nat} {o : Option Nat} {τ : Sto} (hk : k ≠ m) (h : upP Y S ρ m o τ) : upP Y S ρ m (some k) (nwA Y m k τ) := by
  obtain ⟨h1, h2, h3, h4, h5, h6⟩ := h
  unfold nwA
  refine ⟨FrB_p (FrB_p (FrB_p h1 (by omega)) (by omega)) (by omega), fun x => ?_, fun x hx => ⟨?_, ?_, ?_⟩, ?_, ?_, ?_⟩
  · rw [SI_pI, up2_ne' (by omega), SI_pI, up2_ne' (by omega), SI_pI, up2_ne' (by omega)]
    exact h2 x
  · rw [SI_pI, up2_ne' (by omega), SI_pI, up2_ne' (by omega), SI_pI, up2_nj hx]
    exact (h3 x hx).1
  · rw [SI_pI, up2_ne' (by omega), SI_pI, up2_nj hx, SI_pI, up2_ne' (by omega)]
    exact (h3 x hx).2.1
  · rw [SI_pI, up2_nj hx, SI_pI, up2_ne' (by omega), SI_pI, up2_ne' (by omega)]
    exact (h3 x hx).2.2
  · rw [SI_pI, up2_ne' (by omega), SI_pI, up2_ne' (by omega), SI_pI, up2_s, (h3 k hk).1]
    rfl
  · rw [SI_pI, up2_ne' (by omega), SI_pI, up2_s, (h3 k hk).2.1]
    rfl
  · rw [SI_pI, up2_s]
    rfl
theorem M_upd (hY : LayY Y ρ) (hS : SI ρ (Y + 1) = S) {n m i : Nat} {v : Int32} (hn : n ≤ 20) (hm : m < n) (a9 : S 9 = nI n) (hself : ∀ b, ¬ fwP S v n b b) (hfd : ∀ b, b < n → fwP S v n m b → SI ρ (Y + 18) b ≠ 0) (hbd : ∀ b, b < n → SI ρ (Y + 18) b ≠ 0 → bd (SI ρ (Y + 15) b) 1 20) : ∃ τ, upP Y S ρ m (bstP (fwP S v n) (SI ρ (Y + 15)) (SI ρ (Y + 16)) m n) τ ∧ ∀ L23, lp_ (b_Model_findRows_150 Y v (nI i) (nI m) L23) (fun (x4 : Int32) (b : Bool) (σ : Sto) => ((), false, σ)) fuel_ 0 true (bgA Y S m ρ) = L23 (nI i + 1) true τ := by
  refine lp_exU (body := fun (g : Int32 → Bool → Sto → Rs Unit) => b_Model_findRows_150 Y v (nI i) (nI m) g) n (fun k τ => upP Y S ρ m (bstP (fwP S v n) (SI ρ (Y + 15)) (SI ρ (Y + 16)) m k) τ) (fun g τ => g (nI i + 1) true τ) (by omega) (fun k τ hk q => ?_) (fun g L τ q => ?_) (bgA Y S m ρ) upP_0
  · obtain ⟨q1, q2, q3, q4, q5, q6⟩ := id q
    have hL : LayY Y τ := LayY_c hY q1.2.1 q1.2.2.1 q1.2.2.2.1
    have tS : SI τ (Y + 1) = S := by rw [q1.2.2.2.2.2.2 _ (by omega), hS]
    have im : ix (nI m) = m := ix_nI (by omega)
    have ik : ix (nI k) = k := ix_nI (by omega)
    have c15 := cA_of (kY_15 hL) (nY_15 hL) (show m < 20 by omega) (by decide)
    have c15k := cA_of (kY_15 hL) (nY_15 hL) (show k < 20 by omega) (by decide)
    have c16 := cA_of (kY_16 hL) (nY_16 hL) (show m < 20 by omega) (by decide)
    have c16k := cA_of (kY_16 hL) (nY_16 hL) (show k < 20 by omega) (by decide)
    have pre0 : SI τ (Y + 18) k = 0 ∨ f_Model_follows Y (nI m) (nI k) v true τ = (0, true, τ) → ∀ g L, b_Model_findRows_150 Y v (nI i) (nI m) g L (nI k) true τ = L (nI k + 1) true τ := fun hc g L => by
      unfold b_Model_findRows_150
      rw [rY_0 hL, show ix (9 : Int32) = 9 from rfl, tS, a9, if_pos (nI_lt hk (by omega)), lt_, lt_, rY_30 hL, ik, cK_of (kY_0 hL), cYk hL 9 (v := 9) rfl (by decide), cA_of (kY_18 hL) (nY_18 hL) (show k < 20 by omega) (by decide)]
      simp only [Bool.and_true]
      by_cases z : SI τ (Y + 18) k = 0
      · rw [if_pos z, lt_, lt_, if_pos rfl]
        rfl
      · rcases hc with hc | hc
        · exact absurd hc z
        · rw [if_neg z, hc, bd_]
          dsimp only
          rw [if_pos rfl, lt_, lt_, if_pos rfl]
          rfl
    have pre1 : SI τ (Y + 18) k ≠ 0 → f_Model_follows Y (nI m) (nI k) v true τ = (1, true, τ) → ∀ g L, b_Model_findRows_150 Y v (nI i) (nI m) g L (nI k) true τ = if SI τ (Y + 15) m < SI τ (Y + 15) k + 1 ∨ (SI τ (Y + 15) k + 1 = SI τ (Y + 15) m ∧ SI τ (Y + 16) m < SI τ (Y + 16) k) then L (nI k + 1) true (nwA Y m k τ) else L (nI k + 1) true τ := fun hz hc g L => by
      have j247 : ∀ (J283 : Bool → Sto → Rs Unit), (fun (b : Bool) (σ : Sto) => (lt_ (pI σ (SR σ Y 27) m ((SI σ (SR σ Y 27) k) + (1 : Int32))) (fun (σ_16 : Sto) => (lt_ (pI σ_16 (SR σ_16 Y 28) m (SI σ_16 (SR σ_16 Y 28) k)) (fun (σ_17 : Sto) => (lt_ (pI σ_17 (SR σ_17 Y 29) m (nI k)) (fun (σ_18 : Sto) => (J283 ((((((((((b && cK σ Y 13) && cK σ Y 13) && cA σ (SR σ Y 27) 21 (nI k)) && cA σ (SR σ Y 27) 21 (nI m)) && cK σ_16 Y 13) && cK σ_16 Y 13) && cA σ_16 (SR σ_16 Y 28) 21 (nI k)) && cA σ_16 (SR σ_16 Y 28) 21 (nI m)) && cK σ_17 Y 13) && cA σ_17 (SR σ_17 Y 29) 21 (nI m)) σ_18)))))))) true τ = J283 true (nwA Y m k τ) := fun J283 => by
        dsimp only
        unfold nwA
        rw [lt_, rY_27 hL, cK_of (kY_0 hL), c15, c15k]
        have hy1 : LayY Y (pI τ (Y + 15) m (SI τ (Y + 15) k + 1)) := LayY_c hL Stk_pI Sln_pI SR_pI
        have e1 : SI (pI τ (Y + 15) m (SI τ (Y + 15) k + 1)) (Y + 16) k = SI τ (Y + 16) k := by rw [SI_pI, up2_ne' (by omega)]
        generalize pI τ (Y + 15) m (SI τ (Y + 15) k + 1) = τ1 at *
        rw [lt_, rY_28 hy1, e1, cK_of (kY_0 hy1), cA_of (kY_16 hy1) (nY_16 hy1) (show m < 20 by omega) (by decide), cA_of (kY_16 hy1) (nY_16 hy1) (show k < 20 by omega) (by decide)]
        have hy2 : LayY Y (pI τ1 (Y + 16) m (SI τ (Y + 16) k)) := LayY_c hy1 Stk_pI Sln_pI SR_pI
        generalize pI τ1 (Y + 16) m (SI τ (Y + 16) k) = τ2 at *
        rw [lt_, rY_29 hy2, cK_of (kY_0 hy2), cA_of (kY_17 hy2) (nY_17 hy2) (show m < 20 by omega) (by decide)]
        rfl
      unfold b_Model_findRows_150
      rw [rY_0 hL, show ix (9 : Int32) = 9 from rfl, tS, a9, if_pos (nI_lt hk (by omega)), lt_, lt_, rY_30 hL, ik, im, cK_of (kY_0 hL), cYk hL 9 (v := 9) rfl (by decide), cA_of (kY_18 hL) (nY_18 hL) (show k < 20 by omega) (by decide)]
      simp only [Bool.and_true]
      rw [if_neg hz, hc, bd_]
      dsimp only
      rw [if_neg (show ¬ (1 : Int32) = 0 by decide), lt_, lt_, if_neg (show ¬ (1 : Int32) = 0 by decide), lt_, rY_27 hL, rY_28 hL, cK_of (kY_0 hL), c15, c15k, c16, c16k]
      simp only [Bool.and_true, Bool.and_self]
      by_cases d1 : SI τ (Y + 15) m < SI τ (Y + 15) k + 1
      · rw [if_pos d1, if_pos (Or.inl d1)]
        exact j247 _
      · rw [if_neg d1]
        by_cases d2 : SI τ (Y + 15) k + 1 = SI τ (Y + 15) m
        · rw [if_pos d2]
          by_cases d3 : SI τ (Y + 16) m < SI τ (Y + 16) k
          · rw [if_pos d3, if_pos (Or.inr ⟨d2, d3⟩)]
            exact j247 _
          · rw [if_neg d3, if_neg (fun z => z.elim d1 (fun y => d3 y.2)), lt_]
        · rw [if_neg d2, if_neg (fun z => z.elim d1 (fun y => d2 y.1)), lt_]
    rcases M_follows (v := v) hL tS hn hm hk with ⟨c, ec⟩ | ⟨c, ec⟩
    · have hkm : k ≠ m := fun z => by rw [z] at c; exact hself m c
      have fk : SI τ (Y + 18) k ≠ 0 := by rw [q2 k, if_neg hkm]; exact hfd k hk c
      obtain ⟨e15, e16, -⟩ := q3 k hkm
      have bk := hbd k hk (hfd k hk c)
      have p1 := pre1 fk ec
      rw [q4, q5, e15, e16] at p1
      cases hb : bstP (fwP S v n) (SI ρ (Y + 15)) (SI ρ (Y + 16)) m k with
      | none =>
        rw [hb] at p1 q
        refine ⟨nwA Y m k τ, by rw [bstP_y c, hb]; exact upP_n hkm q, fun g L => ?_⟩
        show b_Model_findRows_150 Y v (nI i) (nI m) g L (nI k) true τ = _
        rw [p1, if_pos (Or.inl ?_)]
        obtain ⟨y, hy, ey⟩ := bd_nat (n := 20) (v := SI ρ (Y + 15) k) ⟨by have := bk.1; omega, bk.2⟩
        have b1 := bk.1
        rw [ey, nI_toInt (by omega)] at b1
        show (1 : Int32) < SI ρ (Y + 15) k + 1
        rw [ey, nI_p1]
        exact nI_lt (a := 1) (by omega) (by omega)
      | some x =>
        have hx := bstP_in hb
        have bx := hbd x (by omega) (hfd x (by omega) hx.2)
        obtain ⟨l1, l2⟩ := bd1_lt (x := SI ρ (Y + 15) x) (y := SI ρ (Y + 15) k) ⟨by have := bx.1; omega, bx.2⟩ ⟨by have := bk.1; omega, bk.2⟩
        rw [hb] at p1 q
        by_cases d : SI ρ (Y + 15) x < SI ρ (Y + 15) k ∨ (SI ρ (Y + 15) k = SI ρ (Y + 15) x ∧ SI ρ (Y + 16) x < SI ρ (Y + 16) k)
        · refine ⟨nwA Y m k τ, by rw [bstP_y c, hb]; dsimp only; rw [if_pos d]; exact upP_n hkm q, fun g L => ?_⟩
          show b_Model_findRows_150 Y v (nI i) (nI m) g L (nI k) true τ = _
          rw [p1, show vMk ρ Y (some x) = SI ρ (Y + 15) x + 1 from rfl, show vEk ρ Y (S (521 + 2 * m)) (some x) = SI ρ (Y + 16) x from rfl, if_pos (d.imp (fun z => l1.mpr z) (fun z => ⟨l2.mpr z.1, z.2⟩))]
        · refine ⟨τ, by rw [bstP_y c, hb]; dsimp only; rw [if_neg d]; exact q, fun g L => ?_⟩
          show b_Model_findRows_150 Y v (nI i) (nI m) g L (nI k) true τ = _
          rw [p1, show vMk ρ Y (some x) = SI ρ (Y + 15) x + 1 from rfl, show vEk ρ Y (S (521 + 2 * m)) (some x) = SI ρ (Y + 16) x from rfl, if_neg (fun z => d (z.imp (fun y => l1.mp y) (fun y => ⟨l2.mp y.1, y.2⟩)))]
    · refine ⟨τ, by rw [bstP_n c]; exact q, fun g L => ?_⟩
      exact pre0 (Or.inr ec) g L
  · have q1 := q.1
    have hL : LayY Y τ := LayY_c hY q1.2.1 q1.2.2.1 q1.2.2.2.1
    have tS : SI τ (Y + 1) = S := by rw [q1.2.2.2.2.2.2 _ (by omega), hS]
    show b_Model_findRows_150 Y v (nI i) (nI m) g L (nI n) true τ = _
    unfold b_Model_findRows_150
    rw [rY_0 hL, show ix (9 : Int32) = 9 from rfl, tS, a9, if_neg (nI_nlt (Nat.le_refl n) (by omega)), lt_, cK_of (kY_0 hL), cYk hL 9 (v := 9) rfl (by decide)]
    rfl
end AL6
