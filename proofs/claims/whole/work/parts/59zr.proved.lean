/-! proved -/
section PR
variable {X Y w : Nat} {σ ρ : Sto} {S : Nat → Int32}
/-- the best row -/
def fbP (M E ml : Nat → Int32) : Nat → Option Nat
  | 0 => none
  | k + 1 => match fbP M E ml k with | none => some k | some x => if M x < M k ∨ (M k = M x ∧ E x - ml x < E k - ml k) then some k else some x
theorem fbP_in {M E ml : Nat → Int32} : ∀ {k x : Nat}, fbP M E ml k = some x → x < k
  | 0, _, h => by cases h
  | k + 1, x, h => by
    unfold fbP at h
    cases hb : fbP M E ml k with
    | none =>
      rw [hb] at h
      injection h with h
      omega
    | some y =>
      have := fbP_in hb
      rw [hb] at h
      dsimp only at h
      by_cases d : M y < M k ∨ (M k = M y ∧ E y - ml y < E k - ml k)
      · rw [if_pos d] at h
        injection h with h
        omega
      · rw [if_neg d] at h
        injection h with h
        omega
theorem fbP_congr {M E M' E' ml : Nat → Int32} : ∀ {k : Nat}, (∀ b, b < k → M b = M' b ∧ E b = E' b) → fbP M E ml k = fbP M' E' ml k
  | 0, _ => rfl
  | k + 1, h => by
    have ih := fbP_congr (ml := ml) (k := k) (fun b hb => h b (by omega))
    unfold fbP
    rw [ih]
    cases hb : fbP M' E' ml k with
    | none => rfl
    | some y =>
      have hy := fbP_in hb
      dsimp only
      rw [(h y (by omega)).1, (h y (by omega)).2, (h k (by omega)).1, (h k (by omega)).2]
theorem C_rm (hW : LayW w σ) {x : Nat} (hx : x < 20) : f_Album_rowMiles (w + 35) (nI x) true σ = (SI σ (w + 40) x - SI σ (w + 37) x, true, σ) := by
  unfold f_Album_rowMiles
  rw [rW_35_5 hW, rW_35_1 hW, ix_nI (show x < 2 ^ 31 by omega), cK_of (kW_35 hW), cA_of (kW_40 hW) (nW_40 hW) hx (by decide), cA_of (kW_37 hW) (nW_37 hW) hx (by decide)]
  rfl
theorem C_best (hW : LayW w σ) {n : Nat} (hn : n ≤ 20) (a2 : SI σ (w + 35) 2 = nI n) : lp_ (b_Album_firstOfBestRow_35 (w + 35)) (fun (x2 : Int32) (x3 : Int32) (b : Bool) (σ : Sto) => (0, false, σ)) fuel_ (-1) 0 true σ = (cdO (fbP (SI σ (w + 39)) (SI σ (w + 40)) (SI σ (w + 37)) n), true, σ) := by
  obtain ⟨a, τ, ⟨k1, k2⟩, e⟩ := lp_exA (body := b_Album_firstOfBestRow_35 (w + 35)) (bad := fun (x2 : Int32) (x3 : Int32) (b : Bool) (σ : Sto) => (0, false, σ)) n (fun k a τ => τ = σ ∧ a = cdO (fbP (SI σ (w + 39)) (SI σ (w + 40)) (SI σ (w + 37)) k)) (fun a τ => (a, true, τ)) (by omega)
    (fun k a τ hk ⟨q1, q2⟩ => by
      subst q1 q2
      have pre : ∀ L a, b_Album_firstOfBestRow_35 (w + 35) L a (nI k) true τ = if a < 0 then L (nI k) (nI k + 1) true τ else if SI τ (w + 39) (ix a) < SI τ (w + 39) k then L (nI k) (nI k + 1) (true && cA τ (w + 39) 21 a) τ else if SI τ (w + 39) k = SI τ (w + 39) (ix a) then (bd_ (f_Album_rowMiles (w + 35) (nI k) (true && cA τ (w + 39) 21 a && cA τ (w + 39) 21 a) τ) (fun (r_9 : Int32) (b_9 : Bool) (σ_9 : Sto) => (bd_ (f_Album_rowMiles (w + 35) a (b_9 && cK σ_9 (w + 35) 1) σ_9) (fun (r_10 : Int32) (b_10 : Bool) (σ_10 : Sto) => (if r_10 < r_9 then L (nI k) (nI k + 1) b_10 σ_10 else L a (nI k + 1) b_10 σ_10))))) else L a (nI k + 1) (true && cA τ (w + 39) 21 a && cA τ (w + 39) 21 a) τ := fun L a => by
        unfold b_Album_firstOfBestRow_35
        rw [a2, if_pos (nI_lt hk (by omega)), lt_, lt_, rW_35_4 hW, ix_nI (show k < 2 ^ 31 by omega), cK_of (kW_35 hW), cA_of (kW_39 hW) (nW_39 hW) (show k < 20 by omega) (by decide)]
        simp only [Bool.and_true, lt_]
      cases hb : fbP (SI τ (w + 39)) (SI τ (w + 40)) (SI τ (w + 37)) k with
      | none =>
        refine ⟨nI k, τ, ⟨rfl, by unfold fbP; rw [hb]; rfl⟩, fun L => ?_⟩
        rw [pre, if_pos (show cdO none < 0 by decide)]
      | some x =>
        have hx := fbP_in hb
        have m1 := C_rm (σ := τ) hW (show k < 20 by omega)
        have m2 := C_rm (σ := τ) hW (show x < 20 by omega)
        have cx := cA_of (kW_39 hW) (nW_39 hW) (show x < 20 by omega) (by decide)
        have p := fun L => pre L (nI x)
        rw [ix_nI (show x < 2 ^ 31 by omega), cx] at p
        simp only [Bool.and_true] at p
        by_cases d1 : SI τ (w + 39) x < SI τ (w + 39) k
        · refine ⟨nI k, τ, ⟨rfl, by unfold fbP; rw [hb]; dsimp only; rw [if_pos (Or.inl d1)]; rfl⟩, fun L => ?_⟩
          show b_Album_firstOfBestRow_35 (w + 35) L (nI x) (nI k) true τ = _
          rw [p, if_neg (nI_pos (by omega)), if_pos d1]
        · by_cases d2 : SI τ (w + 39) k = SI τ (w + 39) x
          · by_cases d3 : SI τ (w + 40) x - SI τ (w + 37) x < SI τ (w + 40) k - SI τ (w + 37) k
            · refine ⟨nI k, τ, ⟨rfl, by unfold fbP; rw [hb]; dsimp only; rw [if_pos (Or.inr ⟨d2, d3⟩)]; rfl⟩, fun L => ?_⟩
              show b_Album_firstOfBestRow_35 (w + 35) L (nI x) (nI k) true τ = _
              rw [p, if_neg (nI_pos (by omega)), if_neg d1, if_pos d2, m1, bd_]
              dsimp only
              rw [cK_of (kW_35 hW), Bool.and_true, m2, bd_]
              dsimp only
              rw [if_pos d3]
            · refine ⟨nI x, τ, ⟨rfl, by unfold fbP; rw [hb]; dsimp only; rw [if_neg (fun z => z.elim d1 (fun y => d3 y.2))]; rfl⟩, fun L => ?_⟩
              show b_Album_firstOfBestRow_35 (w + 35) L (nI x) (nI k) true τ = _
              rw [p, if_neg (nI_pos (by omega)), if_neg d1, if_pos d2, m1, bd_]
              dsimp only
              rw [cK_of (kW_35 hW), Bool.and_true, m2, bd_]
              dsimp only
              rw [if_neg d3]
          · refine ⟨nI x, τ, ⟨rfl, by unfold fbP; rw [hb]; dsimp only; rw [if_neg (fun z => z.elim d1 (fun y => d2 y.1))]; rfl⟩, fun L => ?_⟩
            show b_Album_firstOfBestRow_35 (w + 35) L (nI x) (nI k) true τ = _
            rw [p, if_neg (nI_pos (by omega)), if_neg d1, if_neg d2])
    (fun L a τ ⟨q1, q2⟩ => by
      subst q1 q2
      unfold b_Album_firstOfBestRow_35
      rw [a2, if_neg (nI_nlt (Nat.le_refl n) (by omega)), cK_of (kW_35 hW)]
      rfl)
    (-1) σ ⟨rfl, rfl⟩
  rw [e, k1, k2]
/-- what the reference does behind its search -/
def pvK (Y : Nat) (x2 x3 x4 : Int32) (σ : Sto) : Rs Int32 := if x2 < 2 then (if x3 < 0 then (0, true, σ) else if x2 = 0 then (SI σ (Y + 15) (ix x3), (true && cA σ (Y + 15) 21 x3), σ) else (x4, true, σ)) else lp_ (b_Model_proved_160 Y x2) (fun (x5 : Int32) (x6 : Int32) (b : Bool) (σ : Sto) => (0, false, σ)) fuel_ x3 2 true σ
theorem M_best (hY : LayY Y ρ) (hS : SI ρ (Y + 1) = S) {n : Nat} (hn : n ≤ 20) (a9 : S 9 = nI n) (x2 : Int32) : lp_ (b_Model_proved_32 Y x2) (fun (x3 : Int32) (x4 : Int32) (x5 : Int32) (b : Bool) (σ : Sto) => (0, false, σ)) fuel_ (-1) 0 0 true ρ = pvK Y x2 (cdO (fbP (SI ρ (Y + 15)) (SI ρ (Y + 16)) (fun k => S (521 + 2 * k)) n)) (match fbP (SI ρ (Y + 15)) (SI ρ (Y + 16)) (fun k => S (521 + 2 * k)) n with | none => 0 | some x => SI ρ (Y + 16) x - S (521 + 2 * x)) ρ := by
  obtain ⟨a, b, τ, ⟨k1, k2, k3⟩, e⟩ := lp_exA2 (body := b_Model_proved_32 Y x2) (bad := fun (x3 : Int32) (x4 : Int32) (x5 : Int32) (b : Bool) (σ : Sto) => (0, false, σ)) n (fun k a b τ => τ = ρ ∧ a = cdO (fbP (SI ρ (Y + 15)) (SI ρ (Y + 16)) (fun k => S (521 + 2 * k)) k) ∧ b = (match fbP (SI ρ (Y + 15)) (SI ρ (Y + 16)) (fun k => S (521 + 2 * k)) k with | none => 0 | some x => SI ρ (Y + 16) x - S (521 + 2 * x))) (fun a b τ => pvK Y x2 a b τ) (by omega)
    (fun k a b τ hk ⟨q1, q2, q3⟩ => by
      subst q1
      have j1 : (520 : Int32) + 2 * nI k + 1 = nI (521 + 2 * k) := by rw [show (520 : Int32) + 2 * nI k = nI (520 + 2 * k) from ar2 520 2 k, nI_p1]; congr 1; omega
      have pre : ∀ L a b, b_Model_proved_32 Y x2 L a b (nI k) true τ = if a < 0 then L (nI k) (SI τ (Y + 16) k - S (521 + 2 * k)) (nI k + 1) true τ else if SI τ (Y + 15) (ix a) < SI τ (Y + 15) k then L (nI k) (SI τ (Y + 16) k - S (521 + 2 * k)) (nI k + 1) (true && cA τ (Y + 15) 21 a) τ else if SI τ (Y + 15) k = SI τ (Y + 15) (ix a) then (if b < SI τ (Y + 16) k - S (521 + 2 * k) then L (nI k) (SI τ (Y + 16) k - S (521 + 2 * k)) (nI k + 1) (true && cA τ (Y + 15) 21 a && cA τ (Y + 15) 21 a) τ else L a b (nI k + 1) (true && cA τ (Y + 15) 21 a && cA τ (Y + 15) 21 a) τ) else L a b (nI k + 1) (true && cA τ (Y + 15) 21 a && cA τ (Y + 15) 21 a) τ := fun L a b => by
        unfold b_Model_proved_32
        rw [rY_0 hY, show ix (9 : Int32) = 9 from rfl, hS, a9, if_pos (nI_lt hk (by omega)), lt_, lt_, lt_, rY_27 hY, rY_28 hY, j1, ix_nI (show k < 2 ^ 31 by omega), ix_nI (show 521 + 2 * k < 2 ^ 31 by omega), cK_of (kY_0 hY), cYk hY 9 (v := 9) rfl (by decide), cY hY (show 521 + 2 * k < 3210 by omega), cA_of (kY_15 hY) (nY_15 hY) (show k < 20 by omega) (by decide), cA_of (kY_16 hY) (nY_16 hY) (show k < 20 by omega) (by decide)]
        simp only [Bool.and_true, lt_]
      cases hb : fbP (SI τ (Y + 15)) (SI τ (Y + 16)) (fun k => S (521 + 2 * k)) k with
      | none =>
        rw [hb] at q2 q3
        subst q2 q3
        refine ⟨nI k, SI τ (Y + 16) k - S (521 + 2 * k), τ, ⟨rfl, by unfold fbP; rw [hb]; rfl, by unfold fbP; rw [hb]⟩, fun L => ?_⟩
        rw [pre, if_pos (show cdO none < 0 by decide)]
      | some x =>
        have hx := fbP_in hb
        rw [hb] at q2 q3
        dsimp only at q3
        have cx := cA_of (kY_15 hY) (nY_15 hY) (show x < 20 by omega) (by decide)
        have p := fun L => pre L (nI x) (SI τ (Y + 16) x - S (521 + 2 * x))
        rw [ix_nI (show x < 2 ^ 31 by omega), cx] at p
        simp only [Bool.and_true] at p
        subst q2 q3
        by_cases d1 : SI τ (Y + 15) x < SI τ (Y + 15) k
        · refine ⟨nI k, SI τ (Y + 16) k - S (521 + 2 * k), τ, ⟨rfl, by unfold fbP; rw [hb]; dsimp only; rw [if_pos (Or.inl d1)]; rfl, by unfold fbP; rw [hb]; dsimp only; rw [if_pos (Or.inl d1)]⟩, fun L => ?_⟩
          show b_Model_proved_32 Y x2 L (nI x) _ (nI k) true τ = _
          rw [p, if_neg (nI_pos (by omega)), if_pos d1]
        · by_cases d2 : SI τ (Y + 15) k = SI τ (Y + 15) x
          · by_cases d3 : SI τ (Y + 16) x - S (521 + 2 * x) < SI τ (Y + 16) k - S (521 + 2 * k)
            · refine ⟨nI k, SI τ (Y + 16) k - S (521 + 2 * k), τ, ⟨rfl, by unfold fbP; rw [hb]; dsimp only; rw [if_pos (Or.inr ⟨d2, d3⟩)]; rfl, by unfold fbP; rw [hb]; dsimp only; rw [if_pos (Or.inr ⟨d2, d3⟩)]⟩, fun L => ?_⟩
              show b_Model_proved_32 Y x2 L (nI x) _ (nI k) true τ = _
              rw [p, if_neg (nI_pos (by omega)), if_neg d1, if_pos d2, if_pos d3]
            · have no : ¬ (SI τ (Y + 15) x < SI τ (Y + 15) k ∨ (SI τ (Y + 15) k = SI τ (Y + 15) x ∧ SI τ (Y + 16) x - S (521 + 2 * x) < SI τ (Y + 16) k - S (521 + 2 * k))) := fun z => z.elim d1 (fun y => d3 y.2)
              refine ⟨nI x, SI τ (Y + 16) x - S (521 + 2 * x), τ, ⟨rfl, by unfold fbP; rw [hb]; dsimp only; rw [if_neg no]; rfl, by unfold fbP; rw [hb]; dsimp only; rw [if_neg no]⟩, fun L => ?_⟩
              show b_Model_proved_32 Y x2 L (nI x) _ (nI k) true τ = _
              rw [p, if_neg (nI_pos (by omega)), if_neg d1, if_pos d2, if_neg d3]
          · have no : ¬ (SI τ (Y + 15) x < SI τ (Y + 15) k ∨ (SI τ (Y + 15) k = SI τ (Y + 15) x ∧ SI τ (Y + 16) x - S (521 + 2 * x) < SI τ (Y + 16) k - S (521 + 2 * k))) := fun z => z.elim d1 (fun y => d2 y.1)
            refine ⟨nI x, SI τ (Y + 16) x - S (521 + 2 * x), τ, ⟨rfl, by unfold fbP; rw [hb]; dsimp only; rw [if_neg no]; rfl, by unfold fbP; rw [hb]; dsimp only; rw [if_neg no]⟩, fun L => ?_⟩
            show b_Model_proved_32 Y x2 L (nI x) _ (nI k) true τ = _
            rw [p, if_neg (nI_pos (by omega)), if_neg d1, if_neg d2])
    (fun L a b τ ⟨q1, q2, q3⟩ => by
      clear q2 q3
      subst q1
      unfold b_Model_proved_32 pvK
      rw [rY_0 hY, show ix (9 : Int32) = 9 from rfl, hS, a9, if_neg (nI_nlt (Nat.le_refl n) (by omega)), rY_27 hY, cK_of (kY_0 hY), cYk hY 9 (v := 9) rfl (by decide)]
      simp only [Bool.and_true]
      by_cases c : x2 < 2
      · rw [if_pos c, if_pos c]
      · rw [if_neg c, if_neg c, lt_, lt_])
    (-1) 0 ρ ⟨rfl, rfl, rfl⟩
  rw [e, k1, k2, k3]
/-- the picture s steps further in a row -/
def wkP (N : Nat → Int32) : Nat → Nat → Nat
  | 0, x => x
  | s + 1, x => wkP N s (ix (N x))
/-- rows: how long they are -/
def lnP (M N : Nat → Int32) (n : Nat) : Prop := ∀ a, a < n → ∃ c, c ≤ 20 ∧ M a = nI c ∧ ((c = 1 ∧ N a = -1) ∨ ∃ x, x < n ∧ N a = nI x ∧ 1 ≤ c ∧ M x = nI (c - 1) ∧ 2 ≤ c)
theorem lnP_of {fw : Nat → Nat → Prop} {ml M E N : Nat → Int32} {n : Nat} (h : ∀ a, a < n → spA fw ml n M E N a ∧ bd (M a) 1 20) : lnP M N n := fun a ha => by
  obtain ⟨s, b⟩ := h a ha
  obtain ⟨c, hc, ec⟩ := bd_nat (n := 20) (v := M a) ⟨by have := b.1; omega, b.2⟩
  refine ⟨c, hc, ec, ?_⟩
  unfold spA at s
  cases hx : bstP fw M E a n with
  | none =>
    rw [hx] at s
    left
    refine ⟨(nI_eq (b := 1) (by omega) (by omega)).mp (by rw [← ec]; exact s.1), s.2.2⟩
  | some x =>
    rw [hx] at s
    have hxn := (bstP_in hx).1
    obtain ⟨-, bx⟩ := h x hxn
    obtain ⟨d, hd, ed⟩ := bd_nat (n := 20) (v := M x) ⟨by have := bx.1; omega, bx.2⟩
    have b1 := bx.1
    rw [ed, nI_toInt (by omega)] at b1
    have e1 : c = d + 1 := (nI_eq (by omega) (by omega)).mp (by rw [← ec, s.1, ed, Int32.add_comm, nI_p1])
    exact Or.inr ⟨x, hxn, s.2.2, by omega, by rw [ed]; congr 1; omega, by omega⟩
theorem C_walk (hW : LayW w σ) {n : Nat} (hn : n ≤ 20) (hl : lnP (SI σ (w + 39)) (SI σ (w + 41)) n) (bad : Int32 → Int32 → Bool → Sto → Rs Int32) : ∀ s x c k fu, x < n → s < fu → k + s < 2 ^ 31 → SI σ (w + 39) x = nI c → s < c → c ≤ 20 → lp_ (b_Album_pictureOfRow_26 (w + 35) (nI (k + s))) bad fu (nI x) (nI k) true σ = (nI (wkP (SI σ (w + 41)) s x), true, σ) := by
  intro s
  induction s with
  | zero =>
    intro x c k fu hx hf hk hc hs hc20
    obtain ⟨fu, rfl⟩ : ∃ z, fu = z + 1 := ⟨fu - 1, by omega⟩
    rw [lp_S]
    unfold b_Album_pictureOfRow_26
    rw [lt_, if_neg (nI_nlt (by omega) (by omega))]
    rfl
  | succ s ih =>
    intro x c k fu hx hf hk hc hs hc20
    obtain ⟨fu, rfl⟩ : ∃ z, fu = z + 1 := ⟨fu - 1, by omega⟩
    obtain ⟨c', hc', ec, hq⟩ := hl x hx
    have : c' = c := (nI_eq (by omega) (by omega)).mp (ec.symm.trans hc)
    subst this
    rcases hq with ⟨h1, h2⟩ | ⟨y, hy, h2, h3, h4, h5⟩
    · omega
    · rw [lp_S]
      generalize hG : lp_ (b_Album_pictureOfRow_26 (w + 35) (nI (k + (s + 1)))) bad fu = G
      unfold b_Album_pictureOfRow_26
      rw [lt_, if_pos (nI_lt (by omega) (by omega)), rW_35_6 hW, ix_nI (show x < 2 ^ 31 by omega), h2, if_neg (nI_pos (by omega)), lt_, lt_, cK_of (kW_35 hW), cA_of (kW_41 hW) (nW_41 hW) (show x < 20 by omega) (by decide), nI_p1]
      have := ih y (c' - 1) (k + 1) fu hy (by omega) (by omega) h4 (by omega) (by omega)
      rw [show k + 1 + s = k + (s + 1) by omega] at this
      show G (nI y) (nI (k + 1)) true σ = _
      rw [← hG, this]
      show _ = (nI (wkP (SI σ (w + 41)) s (ix (SI σ (w + 41) x))), true, σ)
      rw [h2, ix_nI (show y < 2 ^ 31 by omega)]
theorem M_walk (hY : LayY Y ρ) {n : Nat} (hn : n ≤ 20) (hl : lnP (SI ρ (Y + 15)) (SI ρ (Y + 17)) n) (bad : Int32 → Int32 → Bool → Sto → Rs Int32) : ∀ c s x k fu, x < n → c + 1 < fu → k + s < 2 ^ 31 → SI ρ (Y + 15) x = nI c → c ≤ 20 → lp_ (b_Model_proved_160 Y (nI (k + s))) bad fu (nI x) (nI k) true ρ = (if s < c then nI (wkP (SI ρ (Y + 17)) s x) else -1000000005, true, ρ) := by
  intro c
  induction c with
  | zero =>
    intro s x k fu hx hf hk hc hc20
    obtain ⟨c', hc', ec, hq⟩ := hl x hx
    have : c' = 0 := (nI_eq (by omega) (by omega)).mp (ec.symm.trans hc)
    omega
  | succ c ih =>
    intro s x k fu hx hf hk hc hc20
    obtain ⟨fu, rfl⟩ : ∃ z, fu = z + 2 := ⟨fu - 2, by omega⟩
    obtain ⟨c', hc', ec, hq⟩ := hl x hx
    have : c' = c + 1 := (nI_eq (by omega) (by omega)).mp (ec.symm.trans hc)
    subst this
    cases s with
    | zero =>
      rw [lp_S]
      unfold b_Model_proved_160
      rw [lt_, if_neg (nI_nlt (by omega) (by omega)), if_pos (by omega)]
      dsimp only
      rw [e_orNone, bd_, if_neg (nI_pos (by omega))]
      rfl
    | succ s =>
      rw [lp_S]
      generalize hG : lp_ (b_Model_proved_160 Y (nI (k + (s + 1)))) bad (fu + 1) = G
      unfold b_Model_proved_160
      rw [lt_, if_pos (nI_lt (by omega) (by omega)), if_neg (nI_pos (by omega)), lt_, lt_, rY_29 hY, ix_nI (show x < 2 ^ 31 by omega), cK_of (kY_0 hY), cA_of (kY_17 hY) (nY_17 hY) (show x < 20 by omega) (by decide), nI_p1]
      rcases hq with ⟨h1, h2⟩ | ⟨y, hy, h2, h3, h4, h5⟩
      · rw [h2, if_neg (show ¬ s + 1 < c + 1 by omega)]
        show G (-1) (nI (k + 1)) true ρ = _
        rw [← hG, lp_S]
        unfold b_Model_proved_160
        rw [lt_]
        by_cases z : nI (k + 1) < nI (k + (s + 1))
        · rw [if_pos z, if_pos (show (-1 : Int32) < 0 by decide)]
          dsimp only
          rw [e_orNone, bd_, if_pos (show (-1 : Int32) < 0 by decide)]
        · rw [if_neg z]
          dsimp only
          rw [e_orNone, bd_, if_pos (show (-1 : Int32) < 0 by decide)]
      · rw [h2]
        show G (nI y) (nI (k + 1)) true ρ = _
        rw [← hG]
        have := ih s y (k + 1) (fu + 1) hy (by omega) (by omega) (by rw [h4]; congr 1) (by omega)
        rw [show k + 1 + s = k + (s + 1) by omega] at this
        rw [this]
        by_cases z : s < c
        · rw [if_pos z, if_pos (show s + 1 < c + 1 by omega)]
          show _ = (nI (wkP (SI ρ (Y + 17)) s (ix (SI ρ (Y + 17) x))), true, ρ)
          rw [h2, ix_nI (show y < 2 ^ 31 by omega)]
        · rw [if_neg z, if_neg (show ¬ s + 1 < c + 1 by omega)]
theorem wkP_congr {M N N' : Nat → Int32} {n : Nat} (hl : lnP M N n) (h : ∀ a, a < n → N a = N' a) (hn : n ≤ 20) : ∀ s x c, x < n → M x = nI c → c ≤ 20 → s < c → wkP N s x = wkP N' s x
  | 0, _, _, _, _, _, _ => rfl
  | s + 1, x, c, hx, hc, hc20, hs => by
    show wkP N s (ix (N x)) = wkP N' s (ix (N' x))
    rw [← h x hx]
    obtain ⟨c', hc', ec, hq⟩ := hl x hx
    have : c' = c := (nI_eq (by omega) (by omega)).mp (ec.symm.trans hc)
    subst this
    rcases hq with ⟨h1, h2⟩ | ⟨y, hy, h2, h3, h4, h5⟩
    · omega
    · rw [h2, ix_nI (show y < 2 ^ 31 by omega)]
      exact wkP_congr hl h hn s y (c' - 1) hy h4 (by omega) (by omega)
end PR
