/-! the start: what the constructors make, as a row of writes -/
section SR1
variable {w n : Nat} {σ : Sto}
/-- a write: 0 a new cell (kind, length), 1 a reference, 2 an int -/
def rn1 (w : Nat) (o : Nat × Nat × Nat × Nat × Int32) (σ : Sto) : Sto := match o.1 with
  | 0 => nC σ o.2.1 o.2.2.1
  | 1 => pR σ (w + o.2.1) o.2.2.1 (w + o.2.2.2.1)
  | _ => pI σ (w + o.2.1) o.2.2.1 o.2.2.2.2
def rns (w : Nat) : List (Nat × Nat × Nat × Nat × Int32) → Sto → Sto
  | [], σ => σ
  | o :: l, σ => rns w l (rn1 w o σ)
theorem rn_n : rns w [] σ = σ := rfl
theorem rn_0 {k m r : Nat} {v : Int32} {l : List (Nat × Nat × Nat × Nat × Int32)} : rns w ((0, k, m, r, v) :: l) σ = rns w l (nC σ k m) := rfl
theorem rn_1 {a j r : Nat} {v : Int32} {l : List (Nat × Nat × Nat × Nat × Int32)} : rns w ((1, a, j, r, v) :: l) σ = rns w l (pR σ (w + a) j (w + r)) := rfl
theorem rn_2 {a j r : Nat} {v : Int32} {l : List (Nat × Nat × Nat × Nat × Int32)} : rns w ((2, a, j, r, v) :: l) σ = rns w l (pI σ (w + a) j v) := rfl
theorem rn_app {l l' : List (Nat × Nat × Nat × Nat × Int32)} : ∀ {σ : Sto}, rns w (l ++ l') σ = rns w l' (rns w l σ) := by
  induction l with
  | nil => intro σ; rfl
  | cons o l ih => intro σ; exact ih
/-- the same writes from another base -/
def shO (a : Nat) (o : Nat × Nat × Nat × Nat × Int32) : Nat × Nat × Nat × Nat × Int32 := if o.1 = 0 then o else (o.1, a + o.2.1, o.2.2.1, a + o.2.2.2.1, o.2.2.2.2)
def shL (a : Nat) : List (Nat × Nat × Nat × Nat × Int32) → List (Nat × Nat × Nat × Nat × Int32)
  | [] => []
  | o :: l => shO a o :: shL a l
theorem rn_sh {a : Nat} {l : List (Nat × Nat × Nat × Nat × Int32)} : ∀ {σ : Sto}, rns (w + a) l σ = rns w (shL a l) σ := by
  induction l with
  | nil => intro σ; rfl
  | cons o l ih =>
    intro σ
    obtain ⟨k, x, j, r, v⟩ := o
    have e : rn1 (w + a) (k, x, j, r, v) σ = rn1 w (shO a (k, x, j, r, v)) σ := by
      unfold shO
      match k with
      | 0 => rfl
      | 1 =>
        show pR σ (w + a + x) j (w + a + r) = pR σ (w + (a + x)) j (w + (a + r))
        rw [Nat.add_assoc, Nat.add_assoc]
      | k + 2 =>
        show pI σ (w + a + x) j v = pI σ (w + (a + x)) j v
        rw [Nat.add_assoc]
    show rns (w + a) l (rn1 (w + a) (k, x, j, r, v) σ) = rns w (shL a l) (rn1 w (shO a (k, x, j, r, v)) σ)
    rw [e]
    exact ih
/-- how many cells -/
def dC : List (Nat × Nat × Nat × Nat × Int32) → Nat → Nat
  | [], n => n
  | o :: l, n => dC l (if o.1 = 0 then n + 1 else n)
theorem rn_hn : ∀ {l : List (Nat × Nat × Nat × Nat × Int32)} {n : Nat} {σ : Sto}, Shn σ = w + n → Shn (rns w l σ) = w + dC l n
  | [], n, σ, h => h
  | (k, x, j, r, v) :: l, n, σ, h => by
    match k with
    | 0 => exact rn_hn (l := l) (σ := nC σ x j) (by rw [Shn_nC, h, Nat.add_assoc]; rfl)
    | 1 => exact rn_hn (l := l) (σ := pR σ (w + x) j (w + r)) h
    | k + 2 => exact rn_hn (l := l) (σ := pI σ (w + x) j v) h
theorem rn_cs : ∀ {l : List (Nat × Nat × Nat × Nat × Int32)} {σ : Sto}, Scs (rns w l σ) = Scs σ
  | [], σ => rfl
  | (k, x, j, r, v) :: l, σ => by
    match k with
    | 0 => exact rn_cs (l := l) (σ := nC σ x j)
    | 1 => exact rn_cs (l := l) (σ := pR σ (w + x) j (w + r))
    | k + 2 => exact rn_cs (l := l) (σ := pI σ (w + x) j v)
/-- ahead of the base nothing changes -/
theorem rn_old {x : Nat} (hx : x < w) : ∀ {l : List (Nat × Nat × Nat × Nat × Int32)} {n : Nat} {σ : Sto}, Shn σ = w + n → Stk (rns w l σ) x = Stk σ x ∧ Sln (rns w l σ) x = Sln σ x ∧ SI (rns w l σ) x = SI σ x ∧ SL (rns w l σ) x = SL σ x ∧ SR (rns w l σ) x = SR σ x
  | [], n, σ, h => ⟨rfl, rfl, rfl, rfl, rfl⟩
  | (k, a, j, r, v) :: l, n, σ, h => by
    match k with
    | 0 =>
      obtain ⟨h1, h2, h3, h4, h5⟩ := rn_old hx (l := l) (n := n + 1) (σ := nC σ a j) (by rw [Shn_nC, h, Nat.add_assoc])
      have hne : x ≠ Shn σ := by omega
      refine ⟨h1.trans ?_, h2.trans ?_, h3.trans ?_, h4.trans ?_, h5.trans ?_⟩
      · rw [Stk_nC, up1_ne' hne]
      · rw [Sln_nC, up1_ne' hne]
      · rw [SI_nC, up1_ne' hne]
      · rw [SL_nC, up1_ne' hne]
      · rw [SR_nC, up1_ne' hne]
    | 1 =>
      obtain ⟨h1, h2, h3, h4, h5⟩ := rn_old hx (l := l) (n := n) (σ := pR σ (w + a) j (w + r)) h
      refine ⟨h1, h2, h3, h4, h5.trans ?_⟩
      funext y
      rw [SR_pR, up2_ne' (by omega)]
    | k + 2 =>
      obtain ⟨h1, h2, h3, h4, h5⟩ := rn_old hx (l := l) (n := n) (σ := pI σ (w + a) j v) h
      refine ⟨h1, h2, h3.trans ?_, h4, h5⟩
      funext y
      rw [SI_pI, up2_ne' (by omega)]
/-- what lies at an offset, by the data alone -/
def dK (i : Nat) : List (Nat × Nat × Nat × Nat × Int32) → Nat → Nat × Nat → Nat × Nat
  | [], _, v => v
  | o :: l, n, v => if o.1 = 0 then dK i l (n + 1) (if i = n then (o.2.1, o.2.2.1) else v) else dK i l n v
def dR (i j : Nat) : List (Nat × Nat × Nat × Nat × Int32) → Nat → Option Nat → Option Nat
  | [], _, v => v
  | o :: l, n, v => if o.1 = 0 then dR i j l (n + 1) (if i = n then none else v) else dR i j l n (if o.1 = 1 then (if i = o.2.1 then (if j = o.2.2.1 then some o.2.2.2.1 else v) else v) else v)
def dI (i j : Nat) : List (Nat × Nat × Nat × Nat × Int32) → Nat → Int32 → Int32
  | [], _, v => v
  | o :: l, n, v => if o.1 = 0 then dI i j l (n + 1) (if i = n then 0 else v) else dI i j l n (if o.1 = 1 then v else (if i = o.2.1 then (if j = o.2.2.1 then o.2.2.2.2 else v) else v))
def enR (w : Nat) (v : Option Nat) : Nat := match v with
  | none => 0
  | some r => w + r
theorem rn_K {i : Nat} : ∀ {l : List (Nat × Nat × Nat × Nat × Int32)} {n : Nat} {σ : Sto} {v : Nat × Nat}, Shn σ = w + n → (i < n → Stk σ (w + i) = v.1 ∧ Sln σ (w + i) = v.2) → i < dC l n → Stk (rns w l σ) (w + i) = (dK i l n v).1 ∧ Sln (rns w l σ) (w + i) = (dK i l n v).2
  | [], n, σ, v, h, hv, hi => hv hi
  | (k, a, j, r, x) :: l, n, σ, v, h, hv, hi => by
    match k with
    | 0 =>
      refine rn_K (l := l) (n := n + 1) (σ := nC σ a j) (v := if i = n then (a, j) else v) (by rw [Shn_nC, h, Nat.add_assoc]) (fun hi2 => ?_) hi
      rw [Stk_nC, Sln_nC, h]
      by_cases e : i = n
      · rw [e, if_pos rfl, up1_s, up1_s]
        exact ⟨rfl, rfl⟩
      · rw [if_neg e, up1_ne' (by omega), up1_ne' (by omega)]
        exact hv (by omega)
    | 1 => exact rn_K (l := l) (n := n) (σ := pR σ (w + a) j (w + r)) h hv hi
    | k + 2 => exact rn_K (l := l) (n := n) (σ := pI σ (w + a) j x) h hv hi
theorem rn_R {i y : Nat} : ∀ {l : List (Nat × Nat × Nat × Nat × Int32)} {n : Nat} {σ : Sto} {v : Option Nat}, Shn σ = w + n → (i < n → SR σ (w + i) y = enR w v) → i < dC l n → SR (rns w l σ) (w + i) y = enR w (dR i y l n v)
  | [], n, σ, v, h, hv, hi => hv hi
  | (k, a, j, r, x) :: l, n, σ, v, h, hv, hi => by
    match k with
    | 0 =>
      refine rn_R (l := l) (n := n + 1) (σ := nC σ a j) (v := if i = n then none else v) (by rw [Shn_nC, h, Nat.add_assoc]) (fun hi2 => ?_) hi
      rw [SR_nC, h]
      by_cases e : i = n
      · rw [e, if_pos rfl, up1_s]
        rfl
      · rw [if_neg e, up1_ne' (by omega)]
        exact hv (by omega)
    | 1 =>
      refine rn_R (l := l) (n := n) (σ := pR σ (w + a) j (w + r)) (v := if i = a then (if y = j then some r else v) else v) h (fun hi2 => ?_) hi
      rw [SR_pR]
      by_cases e : i = a
      · rw [if_pos e, e]
        by_cases f : y = j
        · rw [if_pos f, f, up2_s]
          rfl
        · rw [if_neg f, up2_nj f, ← e]
          exact hv hi2
      · rw [if_neg e, up2_ne' (by omega)]
        exact hv hi2
    | k + 2 => exact rn_R (l := l) (n := n) (σ := pI σ (w + a) j x) h hv hi
theorem rn_I {i y : Nat} : ∀ {l : List (Nat × Nat × Nat × Nat × Int32)} {n : Nat} {σ : Sto} {v : Int32}, Shn σ = w + n → (i < n → SI σ (w + i) y = v) → i < dC l n → SI (rns w l σ) (w + i) y = dI i y l n v
  | [], n, σ, v, h, hv, hi => hv hi
  | (k, a, j, r, x) :: l, n, σ, v, h, hv, hi => by
    match k with
    | 0 =>
      refine rn_I (l := l) (n := n + 1) (σ := nC σ a j) (v := if i = n then 0 else v) (by rw [Shn_nC, h, Nat.add_assoc]) (fun hi2 => ?_) hi
      rw [SI_nC, h]
      by_cases e : i = n
      · rw [e, if_pos rfl, up1_s]
      · rw [if_neg e, up1_ne' (by omega)]
        exact hv (by omega)
    | 1 => exact rn_I (l := l) (n := n) (σ := pR σ (w + a) j (w + r)) h hv hi
    | k + 2 =>
      refine rn_I (l := l) (n := n) (σ := pI σ (w + a) j x) (v := if i = a then (if y = j then x else v) else v) h (fun hi2 => ?_) hi
      rw [SI_pI]
      by_cases e : i = a
      · rw [if_pos e, e]
        by_cases f : y = j
        · rw [if_pos f, f, up2_s]
        · rw [if_neg f, up2_nj f, ← e]
          exact hv hi2
      · rw [if_neg e, up2_ne' (by omega)]
        exact hv hi2
theorem rn_L {i y : Nat} : ∀ {l : List (Nat × Nat × Nat × Nat × Int32)} {n : Nat} {σ : Sto}, Shn σ = w + n → (i < n → SL σ (w + i) y = 0) → i < dC l n → SL (rns w l σ) (w + i) y = 0
  | [], n, σ, h, hv, hi => hv hi
  | (k, a, j, r, x) :: l, n, σ, h, hv, hi => by
    match k with
    | 0 =>
      refine rn_L (l := l) (n := n + 1) (σ := nC σ a j) (by rw [Shn_nC, h, Nat.add_assoc]) (fun hi2 => ?_) hi
      rw [SL_nC, h]
      by_cases e : i = n
      · rw [e, up1_s]
      · rw [up1_ne' (by omega)]
        exact hv (by omega)
    | 1 => exact rn_L (l := l) (n := n) (σ := pR σ (w + a) j (w + r)) h hv hi
    | k + 2 => exact rn_L (l := l) (n := n) (σ := pI σ (w + a) j x) h hv hi
end SR1
