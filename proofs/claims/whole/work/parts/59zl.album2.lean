/-! rows of pictures: the class's -/
section AL2
variable {X Y w : Nat} {σ ρ : Sto} {S : Nat → Int32}
/-- the order by days, the latest first, as an order of towns -/
def dyS (S : Nat → Int32) : Nat → Int32 := fun j => if j % 4 = 2 then 3 else 1000 - S (520 + 2 * ((j - 31) / 4))
theorem dyS_k (k : Nat) : dyS S (30 + 4 * k) = 3 := by unfold dyS; rw [if_pos (by omega)]
theorem dyS_d (k : Nat) : dyS S (31 + 4 * k) = 1000 - S (520 + 2 * k) := by
  unfold dyS
  rw [if_neg (by omega), show (31 + 4 * k - 31) / 4 = k by omega]
theorem dyS_t {n k : Nat} (hb : ∀ k, k < n → bd (S (520 + 2 * k)) 0 999) (hk : k < n) : (dyS S (31 + 4 * k)).toInt = 1000 - (S (520 + 2 * k)).toInt := by
  obtain ⟨m, hm, em⟩ := bd_nat (n := 999) (hb k hk)
  rw [dyS_d, em, show (1000 : Int32) = nI 1000 from rfl, nI_sub (by omega), nI_toInt (by omega), nI_toInt (by omega)]
  omega
theorem dyS_lt {n j k : Nat} (hb : ∀ k, k < n → bd (S (520 + 2 * k)) 0 999) (hj : j < n) (hk : k < n) : (dyS S (31 + 4 * j) < dyS S (31 + 4 * k)) ↔ S (520 + 2 * k) < S (520 + 2 * j) := by
  rw [Int32.lt_iff_toInt_lt, Int32.lt_iff_toInt_lt, dyS_t hb hj, dyS_t hb hk]
  omega
theorem dyS_n : ∀ k, twN (dyS S) k = k
  | 0 => rfl
  | k + 1 => by
    show (if dyS S (30 + 4 * k) = 3 then twN (dyS S) k + 1 else twN (dyS S) k) = _
    rw [if_pos (dyS_k k), dyS_n k]
theorem dyS_r (k : Nat) : twR (dyS S) (k + 1) = insAt (twR (dyS S) k) k (posI (dyS S) (twR (dyS S) k) k k) := by
  show (if dyS S (30 + 4 * k) = 3 then insAt (twR (dyS S) k) k (posI (dyS S) (twR (dyS S) k) k (twN (dyS S) k)) else twR (dyS S) k) = _
  rw [if_pos (dyS_k k), dyS_n k]
/-- each once, none before a later one -/
theorem dy_spec : ∀ p, (∀ i, i < p → twR (dyS S) p i < p) ∧ (∀ i j, i < j → j < p → (dyS S (31 + 4 * twR (dyS S) p i)).toInt ≤ (dyS S (31 + 4 * twR (dyS S) p j)).toInt) ∧ (∀ k, k < p → ∃ i, i < p ∧ twR (dyS S) p i = k)
  | 0 => ⟨fun i h => absurd h (Nat.not_lt_zero _), fun i j _ h => absurd h (Nat.not_lt_zero _), fun k h => absurd h (Nat.not_lt_zero _)⟩
  | p + 1 => by
    obtain ⟨h1, h2, h3⟩ := dy_spec p
    have er := dyS_r (S := S) p
    obtain ⟨s1, s2⟩ := posI_spec (S := dyS S) (r := twR (dyS S) p) (p := p) (x := p)
    have hpo := posI_le (S := dyS S) (r := twR (dyS S) p) (p := p) (x := p)
    have lo : ∀ i, i < posI (dyS S) (twR (dyS S) p) p p → (dyS S (31 + 4 * twR (dyS S) p i)).toInt ≤ (dyS S (31 + 4 * p)).toInt := fun i hi => by
      have a1 := s2 (by omega)
      rw [Int32.lt_iff_toInt_lt] at a1
      have a2 : (dyS S (31 + 4 * twR (dyS S) p i)).toInt ≤ (dyS S (31 + 4 * twR (dyS S) p (posI (dyS S) (twR (dyS S) p) p p - 1))).toInt := by
        by_cases e : i = posI (dyS S) (twR (dyS S) p) p p - 1
        · rw [← e]; exact Int.le_refl _
        · exact h2 i _ (by omega) (by omega)
      omega
    have hi : ∀ i, posI (dyS S) (twR (dyS S) p) p p ≤ i → i < p → (dyS S (31 + 4 * p)).toInt ≤ (dyS S (31 + 4 * twR (dyS S) p i)).toInt := fun i a b => Int.le_of_lt (Int32.lt_iff_toInt_lt.mp (s1 i a b))
    rw [er]
    generalize posI (dyS S) (twR (dyS S) p) p p = x at *
    unfold insAt
    refine ⟨fun i hin => ?_, fun i j hij hj => ?_, fun k hk => ?_⟩
    · by_cases z1 : i < x
      · rw [if_pos z1]
        have := h1 i (by omega)
        omega
      · rw [if_neg z1]
        by_cases z2 : i = x
        · rw [if_pos z2]; omega
        · rw [if_neg z2]
          have := h1 (i - 1) (by omega)
          omega
    · by_cases z1 : i < x
      · rw [if_pos z1]
        by_cases y1 : j < x
        · rw [if_pos y1]; exact h2 i j hij (by omega)
        · rw [if_neg y1]
          by_cases y2 : j = x
          · rw [if_pos y2]; exact lo i z1
          · rw [if_neg y2]; exact h2 i (j - 1) (by omega) (by omega)
      · rw [if_neg z1, if_neg (show ¬ j < x by omega), if_neg (show ¬ j = x by omega)]
        by_cases z2 : i = x
        · rw [if_pos z2]; exact hi (j - 1) (by omega) (by omega)
        · rw [if_neg z2]; exact h2 (i - 1) (j - 1) (by omega) (by omega)
    · by_cases e : k = p
      · exact ⟨x, by omega, by rw [if_neg (Nat.lt_irrefl x), if_pos rfl, e]⟩
      · obtain ⟨i, i1, i2⟩ := h3 k (by omega)
        by_cases z : i < x
        · exact ⟨i, by omega, by rw [if_pos z]; exact i2⟩
        · exact ⟨i + 1, by omega, by rw [if_neg (show ¬ i + 1 < x by omega), if_neg (show ¬ i + 1 = x by omega), Nat.add_sub_cancel]; exact i2⟩
theorem C_line (hW : LayW w σ) {n : Nat} (hn : n ≤ 20) (a2 : SI σ (w + 35) 2 = nI n) (a4 : ∀ k, k < n → SI σ (w + 36) k = S (520 + 2 * k)) (hb : ∀ k, k < n → bd (S (520 + 2 * k)) 0 999) : ∃ τ, Fr1 (w + 38) σ τ ∧ (∀ i, i < n → SI τ (w + 38) i = nI (twR (dyS S) n i)) ∧ f_Album_lineUpByDays (w + 35) true σ = ((), true, τ) := by
  obtain ⟨τ, ⟨k2, k3⟩, e⟩ := lp_ex (body := b_Album_lineUpByDays_2 (w + 35)) (bad := fun (x1 : Int32) (b : Bool) (σ : Sto) => ((), false, σ)) n (fun k τ => Fr1 (w + 38) σ τ ∧ ∀ i, i < k → SI τ (w + 38) i = nI (twR (dyS S) k i)) (fun τ => ((), true, τ)) (by omega)
    (fun p τ hpp ⟨q1, q2⟩ => by
      have hL : LayW w τ := LayT_c hW q1.2.1 q1.2.2.1 q1.2.2.2.1
      have t1 : SI τ (w + 35) 2 = nI n := by rw [q1.2.2.2.2.2.2 _ (by omega), a2]
      have hsp := (dy_spec (S := S) p).1
      obtain ⟨τ', m1, m2, m3⟩ := ins_loop (σ := σ) (body := fun (g : Int32 → Bool → Sto → Rs Unit) => b_Album_lineUpByDays_12 (w + 35) (nI p) g) (bad := fun (x2 : Int32) (b : Bool) (σ : Sto) => ((), false, σ)) (dyS S) (w + 38) (fun k => nI k) (twR (dyS S) p) p p (fun g τ => g (nI p + 1) true τ)
        (fun x υ hx f hcell g L => by
          have hL : LayW w υ := LayT_c hW f.2.1 f.2.2.1 f.2.2.2.1
          have hr := hsp x hx
          have t3 : SI υ (w + 36) p = S (520 + 2 * p) := by rw [f.2.2.2.2.2.2 _ (by omega), a4 p hpp]
          have t4 : SI υ (w + 36) (twR (dyS S) p x) = S (520 + 2 * twR (dyS S) p x) := by rw [f.2.2.2.2.2.2 _ (by omega), a4 _ (by omega)]
          have j1 : nI (x + 1) - 1 = nI x := by rw [← nI_p1, Int32.add_sub_cancel]
          have j2 : nI (x + 1) + -1 = nI x := by rw [← Int32.sub_eq_add_neg]; exact j1
          have hlt := dyS_lt hb hpp (show twR (dyS S) p x < n by omega)
          show b_Album_lineUpByDays_12 (w + 35) (nI p) g L (nI (x + 1)) true υ = _
          unfold b_Album_lineUpByDays_12
          rw [lt_]
          dsimp only
          rw [if_pos (show (0 : Int32) < nI (x + 1) from nI_lt (a := 0) (by omega) (by omega)), j1, j2, rW_35_0 hL, rW_35_3 hL, ix_nI (show p < 2 ^ 31 by omega), ix_nI (show x < 2 ^ 31 by omega), ix_nI (show x + 1 < 2 ^ 31 by omega), hcell, ix_nI (show twR (dyS S) p x < 2 ^ 31 by omega), t3, t4, cK_of (kW_35 hL), cA_of (kW_36 hL) (nW_36 hL) (show p < 20 by omega) (by decide), cA_of (kW_36 hL) (nW_36 hL) (show twR (dyS S) p x < 20 by omega) (by decide), cA_of (kW_38 hL) (nW_38 hL) (show x < 20 by omega) (by decide), cA_of (kW_38 hL) (nW_38 hL) (show x + 1 < 20 by omega) (by decide)]
          by_cases d : S (520 + 2 * twR (dyS S) p x) < S (520 + 2 * p)
          · rw [if_pos d, if_pos (hlt.mpr d)]
            rfl
          · rw [if_neg d, if_neg (fun z => d (hlt.mp z))]
            rfl)
        (fun υ f g L => by
          have hL : LayW w υ := LayT_c hW f.2.1 f.2.2.1 f.2.2.2.1
          show b_Album_lineUpByDays_12 (w + 35) (nI p) g L (nI 0) true υ = _
          unfold b_Album_lineUpByDays_12
          rw [lt_]
          dsimp only
          rw [if_neg (show ¬ (0 : Int32) < nI 0 by decide), rW_35_3 hL, show ix (nI 0) = 0 from rfl, cK_of (kW_35 hL), cA_of (kW_38 hL) (nW_38 hL) (show 0 < 20 by omega) (by decide)]
          rfl)
        p (Nat.le_refl _) fuel_ τ (by show p < 70000; omega) q1 (fun i hi => q2 i hi) (fun i h1 h2 => absurd h1 (by omega))
      refine ⟨τ', ⟨m1, fun i hi => by rw [dyS_r]; exact m2 i (by omega)⟩, fun L => ?_⟩
      unfold b_Album_lineUpByDays_2
      rw [t1, if_pos (nI_lt hpp (by omega)), lt_, cK_of (kW_35 hL), Bool.and_true]
      exact m3 L)
    (fun L τ ⟨q1, q2⟩ => by
      have hL : LayW w τ := LayT_c hW q1.2.1 q1.2.2.1 q1.2.2.2.1
      have t1 : SI τ (w + 35) 2 = nI n := by rw [q1.2.2.2.2.2.2 _ (by omega), a2]
      unfold b_Album_lineUpByDays_2
      rw [t1, if_neg (nI_nlt (Nat.le_refl n) (by omega)), cK_of (kW_35 hL)]
      rfl)
    σ ⟨Fr1_0, fun i hi => absurd hi (Nat.not_lt_zero _)⟩
  refine ⟨τ, k2, k3, ?_⟩
  unfold f_Album_lineUpByDays
  rw [lt_]
  exact e
end AL2
