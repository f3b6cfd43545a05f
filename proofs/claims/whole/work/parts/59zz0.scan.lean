/-! texts: the scanner, plain; the class's side -/
section TX1
variable {α : Type} {h n : Nat} {g : Nat → Nat} {σ : Sto} {f t : Nat → Int32}
/-- how far a run goes -/
def ru (c : Nat → Bool) : Nat → Nat → Nat
  | i, 0 => i
  | i, d + 1 => if c i = true then ru c (i + 1) d else i
theorem ru_le {c : Nat → Bool} : ∀ {d i : Nat}, i ≤ ru c i d ∧ ru c i d ≤ i + d
  | 0, i => ⟨Nat.le_refl _, Nat.le_refl _⟩
  | d + 1, i => by
    have := ru_le (c := c) (d := d) (i := i + 1)
    unfold ru
    split <;> omega
theorem ru_in {c : Nat → Bool} : ∀ {d i j : Nat}, i ≤ j → j < ru c i d → c j = true
  | 0, i, j, h1, h2 => absurd h2 (by unfold ru; omega)
  | d + 1, i, j, h1, h2 => by
    unfold ru at h2
    by_cases hc : c i = true
    · rw [if_pos hc] at h2
      by_cases e : j = i
      · rw [e]; exact hc
      · exact ru_in (d := d) (i := i + 1) (by omega) h2
    · rw [if_neg hc] at h2
      omega
theorem ru_1 {c : Nat → Bool} {d i : Nat} (hc : c i = true) (hd : 0 < d) : i < ru c i d := by
  obtain ⟨d, rfl⟩ : ∃ z, d = z + 1 := ⟨d - 1, by omega⟩
  unfold ru
  rw [if_pos hc]
  have := ru_le (c := c) (d := d) (i := i + 1)
  omega
def isLN (c : Nat) : Bool := decide (97 ≤ c ∧ c ≤ 122)
def isDN (c : Nat) : Bool := decide (48 ≤ c ∧ c ≤ 57)
def byt (c : Nat) : Int32 := (nI c).toInt8.toInt32
theorem byt_32 : ∀ c, c < 256 → (byt c = 32 ↔ c = 32) := by decide +kernel
theorem byt_L : ∀ c, c < 256 → (if byt c < 97 then (0 : Int32) else if 122 < byt c then 0 else 1) = if isLN c = true then 1 else 0 := by decide +kernel
theorem byt_D : ∀ c, c < 256 → (if byt c < 48 then (0 : Int32) else if 57 < byt c then 0 else 1) = if isDN c = true then 1 else 0 := by decide +kernel
theorem byt_d : ∀ c, c < 256 → isDN c = true → byt c = nI c := by decide +kernel
theorem e_letC {c : Nat} (hc : c < 256) (b : Bool) (τ : Sto) : f_Tape_isLetter (byt c) b τ = (if isLN c = true then 1 else 0, b, τ) := by
  rw [← byt_L c hc]
  unfold f_Tape_isLetter
  simp only [lt_]
  split
  · rfl
  · split <;> rfl
theorem e_digC {c : Nat} (hc : c < 256) (b : Bool) (τ : Sto) : f_Tape_isDigit (byt c) b τ = (if isDN c = true then 1 else 0, b, τ) := by
  rw [← byt_D c hc]
  unfold f_Tape_isDigit
  simp only [lt_]
  split
  · rfl
  · split <;> rfl
/-- the number of a run of digits -/
def nv (g : Nat → Nat) : Int32 → Nat → Nat → Int32
  | x, _, 0 => x
  | x, i, m + 1 => nv g (10 * x + nI (g i) - 48) (i + 1) m
theorem nv_bd (hd : ∀ j, isDN (g j) = true ∨ isDN (g j) = false) : ∀ m i x, (∀ j, i ≤ j → j < i + m → isDN (g j) = true) → ∃ y, y < (x + 1) * 10 ^ m ∧ nv g (nI x) i m = nI y
  | 0, i, x, _ => ⟨x, by rw [Nat.pow_zero]; omega, rfl⟩
  | m + 1, i, x, hh => by
    have h0 := hh i (Nat.le_refl _) (by omega)
    unfold isDN at h0
    have h1 := of_decide_eq_true h0
    have e : 10 * nI x + nI (g i) - 48 = nI (10 * x + (g i - 48)) := by
      show nI 10 * nI x + nI (g i) - nI 48 = _
      rw [nI_mul, nI_add, nI_sub (by omega)]
      congr 1
      omega
    obtain ⟨y, y1, y2⟩ := nv_bd hd m (i + 1) (10 * x + (g i - 48)) (fun j h2 h3 => hh j (by omega) (by omega))
    refine ⟨y, Nat.lt_of_lt_of_le y1 ?_, ?_⟩
    · rw [Nat.pow_succ, Nat.mul_comm (10 ^ m) 10, ← Nat.mul_assoc]
      exact Nat.mul_le_mul_right _ (by omega)
    · show nv g (10 * nI x + nI (g i) - 48) (i + 1) m = nI y
      rw [e]
      exact y2
/-- where the next word begins, where it ends, its sort: 0 end, 1 letters, 2 number, 3 sign, 4 wrong -/
def tkB (g : Nat → Nat) (n e : Nat) : Nat := ru (fun i => decide (g i = 32)) e (n - e)
def tkE (g : Nat → Nat) (n b : Nat) : Nat := if n ≤ b then b else if isLN (g b) = true then ru (fun i => isLN (g i)) b (n - b) else if isDN (g b) = true then ru (fun i => isDN (g i)) b (n - b) else b + 1
def tkK (g : Nat → Nat) (n b : Nat) (ti : Prop) [Decidable ti] : Nat := if n ≤ b then 0 else if isLN (g b) = true then (if ti then 4 else 1) else if isDN (g b) = true then (if ti ∨ 4 < tkE g n b - b then 4 else 2) else 3
def cdK (k : Nat) : Int32 := if k = 0 then 5 else nI k
/-- the tape's two rows over a store -/
def tS (σ : Sto) (h : Nat) (f t : Nat → Int32) : Sto := rI (rI σ (h + 2) t) h f
def TC (h n : Nat) (g : Nat → Nat) (σ : Sto) : Prop := (Stk σ h = 8 ∧ SR σ h 0 = h + 1 ∧ SR σ h 8 = h + 2) ∧ (Stk σ (h + 1) = 22 ∧ Sln σ (h + 1) = 96) ∧ (Stk σ (h + 2) = 21 ∧ Sln σ (h + 2) = 96) ∧ n ≤ 96 ∧ ∀ k, k < n → SI σ (h + 1) k = byt (g k) ∧ g k < 256
theorem tS_f : SI (tS σ h f t) h = f := up1_s
theorem tS_t : SI (tS σ h f t) (h + 2) = t := by
  show up1 (up1 (SI σ) (h + 2) t) h f (h + 2) = t
  rw [up1_ne' (by omega), up1_s]
theorem tS_b : SI (tS σ h f t) (h + 1) = SI σ (h + 1) := by
  show up1 (up1 (SI σ) (h + 2) t) h f (h + 1) = _
  rw [up1_ne' (by omega), up1_ne' (by omega)]
theorem tS_x {x : Nat} (h1 : x ≠ h) (h2 : x ≠ h + 2) : SI (tS σ h f t) x = SI σ x := by
  show up1 (up1 (SI σ) (h + 2) t) h f x = _
  rw [up1_ne' h1, up1_ne' h2]
theorem tS_p {j : Nat} {v : Int32} : pI (tS σ h f t) h j v = tS σ h (up1 f j v) t := pI_rI
theorem rI_comm {a b : Nat} {u v : Nat → Int32} (hab : a ≠ b) : rI (rI σ a u) b v = rI (rI σ b v) a u := by
  show (σ.1, σ.2.1, σ.2.2.1, up1 (up1 σ.2.2.2.1 a u) b v, σ.2.2.2.2) = (σ.1, σ.2.1, σ.2.2.1, up1 (up1 σ.2.2.2.1 b v) a u, σ.2.2.2.2)
  have e : up1 (up1 σ.2.2.2.1 a u) b v = up1 (up1 σ.2.2.2.1 b v) a u := by
    funext x
    unfold up1
    by_cases q1 : x = b
    · rw [if_pos q1, if_neg (by omega), if_pos q1]
    · rw [if_neg q1]
      by_cases q2 : x = a
      · rw [if_pos q2, if_pos q2]
      · rw [if_neg q2, if_neg q2, if_neg q1]
  rw [e]
theorem tS_q {j : Nat} {v : Int32} : pI (tS σ h f t) (h + 2) j v = tS σ h f (up1 t j v) := by
  show pI (rI (rI σ (h + 2) t) h f) (h + 2) j v = rI (rI σ (h + 2) (up1 t j v)) h f
  rw [rI_comm (show h + 2 ≠ h by omega), pI_rI, rI_comm (show h ≠ h + 2 by omega)]
  rfl
theorem tS_k (hT : TC h n g σ) : cK (tS σ h f t) h 8 = true := cK_of (show Stk σ h = 8 from hT.1.1)
theorem tS_0 (hT : TC h n g σ) : SR (tS σ h f t) h 0 = h + 1 := hT.1.2.1
theorem tS_8 (hT : TC h n g σ) : SR (tS σ h f t) h 8 = h + 2 := hT.1.2.2
theorem tS_a (hT : TC h n g σ) {i : Nat} (hi : i < 96) : cA (tS σ h f t) (h + 1) 22 (nI i) = true := cA_of (show Stk σ (h + 1) = 22 from hT.2.1.1) (show Sln σ (h + 1) = 96 from hT.2.1.2) hi (by decide)
theorem tS_k2 (hT : TC h n g σ) : cK (tS σ h f t) (h + 2) 21 = true := cK_of (show Stk σ (h + 2) = 21 from hT.2.2.1.1)
theorem tS_l (hT : TC h n g σ) : Sln (tS σ h f t) (h + 2) = 96 := hT.2.2.1.2
theorem tS_a2 (hT : TC h n g σ) {i : Nat} (hi : i < 96) : cA (tS σ h f t) (h + 2) 21 (nI i) = true := cA_of (show Stk σ (h + 2) = 21 from hT.2.2.1.1) (show Sln σ (h + 2) = 96 from hT.2.2.1.2) hi (by decide)
theorem up1_v {β : Type} {u : Nat → β} {a x : Nat} {v : β} : up1 u a v x = if x = a then v else u x := rfl
theorem up1_2 {β : Type} {u : Nat → β} {a : Nat} {v w : β} : up1 (up1 u a v) a w = up1 u a w := by
  funext x
  unfold up1
  split <;> rfl
theorem up1_c {β : Type} {u : Nat → β} {a b : Nat} {v w : β} (hab : a ≠ b) : up1 (up1 u a v) b w = up1 (up1 u b w) a v := by
  funext x
  unfold up1
  by_cases q1 : x = b
  · rw [if_pos q1, if_neg (by omega), if_pos q1]
  · rw [if_neg q1]
    by_cases q2 : x = a
    · rw [if_pos q2, if_pos q2]
    · rw [if_neg q2, if_neg q2, if_neg q1]
/-- letters -/
theorem C_let (hT : TC h n g σ) (f1 : f 1 = nI n) : ∀ d i fu, i + d = n → d < fu → lp_ (b_Tape_takeLetters_5 h) (fun (b : Bool) (σ : Sto) => ((), false, σ)) fu true (tS σ h (up1 f 3 (nI i)) t) = ((), true, tS σ h (up1 f 3 (nI (ru (fun i => isLN (g i)) i d))) t) := by
  have hn := hT.2.2.2.1
  intro d
  induction d with
  | zero =>
    intro i fu hi hf
    obtain ⟨fu, rfl⟩ : ∃ z, fu = z + 1 := ⟨fu - 1, by omega⟩
    rw [lp_S]
    unfold b_Tape_takeLetters_5
    rw [tS_f, up1_s, up1_ne' (show 1 ≠ 3 by decide), f1, if_neg (nI_nlt (by omega) (by omega)), tS_k hT]
    rfl
  | succ d ih =>
    intro i fu hi hf
    obtain ⟨fu, rfl⟩ : ∃ z, fu = z + 1 := ⟨fu - 1, by omega⟩
    obtain ⟨b1, b2⟩ := hT.2.2.2.2 i (by omega)
    rw [lp_S]
    unfold b_Tape_takeLetters_5
    rw [tS_f, up1_s, up1_ne' (show 1 ≠ 3 by decide), f1, if_pos (nI_lt (by omega) (by omega)), tS_0 hT, ix_nI (show i < 2 ^ 31 by omega), tS_b, b1, e_letC b2, bd_]
    dsimp only
    rw [tS_k hT, tS_a hT (show i < 96 by omega)]
    unfold ru
    by_cases c : isLN (g i) = true
    · rw [if_pos c, if_neg (by decide), lt_, tS_f, up1_s, tS_p, up1_2, nI_1, if_pos c]
      exact ih (i + 1) fu (by omega) (by omega)
    · rw [if_neg c, if_pos rfl, if_neg c]
      rfl
theorem e_takeL (hT : TC h n g σ) (f1 : f 1 = nI n) {b : Nat} (f3 : f 3 = nI b) (hb : b ≤ n) : f_Tape_takeLetters h true (tS σ h f t) = ((), true, tS σ h (up1 (up1 f 4 1) 3 (nI (ru (fun i => isLN (g i)) b (n - b)))) t) := by
  have hn := hT.2.2.2.1
  unfold f_Tape_takeLetters
  rw [lt_, tS_p, tS_k hT, Bool.and_true]
  have e : up1 f 4 1 = up1 (up1 f 4 1) 3 (nI b) := by
    funext x
    unfold up1
    by_cases q : x = 3
    · rw [if_pos q, if_neg (by omega), q, f3]
    · rw [if_neg q]
  rw [e, C_let hT (by rw [up1_ne' (by decide)]; exact f1) (n - b) b fuel_ (by omega) (by show n - b < 70000; omega), ← e]
/-- digits -/
theorem C_dig (hT : TC h n g σ) (f1 : f 1 = nI n) {b : Nat} (f2 : f 2 = nI b) : ∀ d i x fu, i + d = n → b ≤ i → d < fu → lp_ (b_Tape_takeDigits_5 h) (fun (b : Bool) (σ : Sto) => ((), false, σ)) fu true (tS σ h (up1 (up1 f 6 x) 3 (nI i)) t) = ((), true, tS σ h (up1 (up1 (up1 f 6 (nv g x i (ru (fun i => isDN (g i)) i d - i))) 3 (nI (ru (fun i => isDN (g i)) i d))) 4 (if 4 < ru (fun i => isDN (g i)) i d - b then 4 else 2)) t) := by
  have hn := hT.2.2.2.1
  have ex : ∀ i x, b ≤ i → i ≤ n → ¬ (i < n ∧ isDN (g i) = true) → ∀ L, b_Tape_takeDigits_5 h L true (tS σ h (up1 (up1 f 6 x) 3 (nI i)) t) = ((), true, tS σ h (up1 (up1 (up1 f 6 x) 3 (nI i)) 4 (if 4 < i - b then 4 else 2)) t) := fun i x hbi hin hc L => by
    have fin : (if (4 : Int32) < nI (i - b) then (((), true, tS σ h (up1 (up1 (up1 f 6 x) 3 (nI i)) 4 4) t) : Rs Unit) else ((), true, tS σ h (up1 (up1 (up1 f 6 x) 3 (nI i)) 4 2) t)) = ((), true, tS σ h (up1 (up1 (up1 f 6 x) 3 (nI i)) 4 (if 4 < i - b then 4 else 2)) t) := by
      by_cases c : 4 < i - b
      · rw [if_pos c, if_pos (show (4 : Int32) < nI (i - b) from nI_lt (a := 4) c (by omega))]
      · rw [if_neg c, if_neg (show ¬ (4 : Int32) < nI (i - b) from nI_nlt (a := 4) (by omega) (by decide))]
    unfold b_Tape_takeDigits_5
    simp only [lt_, tS_f, up1_v, reduceIte, Nat.reduceEqDiff, f1, f2, nI_sub hbi, tS_p, tS_k hT, Bool.and_true]
    by_cases hi : i < n
    · obtain ⟨b1, b2⟩ := hT.2.2.2.2 i hi
      rw [if_pos (nI_lt hi (by omega)), tS_0 hT, ix_nI (show i < 2 ^ 31 by omega), tS_b, b1, tS_a hT (show i < 96 by omega), e_digC b2, if_neg (fun z => hc ⟨hi, z⟩), bd_]
      simp only [tS_f, up1_v, reduceIte, Nat.reduceEqDiff, f2, nI_sub hbi, tS_p, tS_k hT, Bool.and_true]
      exact fin
    · rw [if_neg (nI_nlt (by omega) (by omega))]
      exact fin
  have st : ∀ i x, i < n → isDN (g i) = true → ∀ L, b_Tape_takeDigits_5 h L true (tS σ h (up1 (up1 f 6 x) 3 (nI i)) t) = L true (tS σ h (up1 (up1 f 6 (10 * x + nI (g i) - 48)) 3 (nI (i + 1))) t) := fun i x hi c L => by
    obtain ⟨b1, b2⟩ := hT.2.2.2.2 i hi
    unfold b_Tape_takeDigits_5
    simp only [lt_, tS_f, up1_v, reduceIte, Nat.reduceEqDiff, f1, tS_k hT, Bool.and_true]
    rw [if_pos (nI_lt hi (by omega)), tS_0 hT, ix_nI (show i < 2 ^ 31 by omega), tS_b, b1, tS_a hT (show i < 96 by omega), e_digC b2, if_pos c, bd_]
    simp only [tS_f, up1_v, reduceIte, Nat.reduceEqDiff, tS_p, tS_k hT, Bool.and_true, tS_0 hT, ix_nI (show i < 2 ^ 31 by omega), tS_b, b1, byt_d _ b2 c, tS_a hT (show i < 96 by omega), nI_1]
    rw [if_neg (by decide), up1_c (show 3 ≠ 6 by decide), up1_2, up1_2]
  intro d
  induction d with
  | zero =>
    intro i x fu hi hb hf
    obtain ⟨fu, rfl⟩ : ∃ z, fu = z + 1 := ⟨fu - 1, by omega⟩
    have e3 : ru (fun i => isDN (g i)) i 0 = i := rfl
    rw [lp_S, e3, Nat.sub_self, ex i x hb (by omega) (fun z => absurd z.1 (by omega))]
    rfl
  | succ d ih =>
    intro i x fu hi hb hf
    obtain ⟨fu, rfl⟩ : ∃ z, fu = z + 1 := ⟨fu - 1, by omega⟩
    by_cases c : isDN (g i) = true
    · have e3 : ru (fun i => isDN (g i)) i (d + 1) = ru (fun i => isDN (g i)) (i + 1) d := by
        show (if isDN (g i) = true then _ else i) = _
        rw [if_pos c]
      have hle := ru_le (c := fun i => isDN (g i)) (d := d) (i := i + 1)
      have e4 : nv g x i (ru (fun i => isDN (g i)) (i + 1) d - i) = nv g (10 * x + nI (g i) - 48) (i + 1) (ru (fun i => isDN (g i)) (i + 1) d - (i + 1)) := by
        rw [show ru (fun i => isDN (g i)) (i + 1) d - i = (ru (fun i => isDN (g i)) (i + 1) d - (i + 1)) + 1 by omega]
        rfl
      rw [lp_S, st i x (by omega) c, e3, e4]
      exact ih (i + 1) _ fu (by omega) (by omega) (by omega)
    · have e3 : ru (fun i => isDN (g i)) i (d + 1) = i := by
        show (if isDN (g i) = true then _ else i) = _
        rw [if_neg c]
      rw [lp_S, e3, Nat.sub_self, ex i x hb (by omega) (fun z => c z.2)]
      rfl
theorem e_takeD (hT : TC h n g σ) (f1 : f 1 = nI n) {b : Nat} (f2 : f 2 = nI b) (f3 : f 3 = nI b) (hb : b ≤ n) : f_Tape_takeDigits h true (tS σ h f t) = ((), true, tS σ h (up1 (up1 (up1 f 6 (nv g 0 b (ru (fun i => isDN (g i)) b (n - b) - b))) 3 (nI (ru (fun i => isDN (g i)) b (n - b)))) 4 (if 4 < ru (fun i => isDN (g i)) b (n - b) - b then 4 else 2)) t) := by
  have hn := hT.2.2.2.1
  unfold f_Tape_takeDigits
  rw [lt_, tS_p, tS_k hT, Bool.and_true]
  have e : up1 f 6 0 = up1 (up1 f 6 0) 3 (nI b) := by
    funext x
    unfold up1
    by_cases q : x = 3
    · rw [if_pos q, if_neg (by omega), q, f3]
    · rw [if_neg q]
  rw [e, C_dig hT f1 f2 (n - b) b 0 fuel_ (by omega) (Nat.le_refl _) (by show n - b < 70000; omega)]

def nwJ (h0 : Nat) (x1_1 x2_2 : Int32) (b : Bool) (σ : Sto) : Rs Unit := (if x1_1 = 0 then ((), b, σ) else (if (SI σ h0 2) = x2_2 then (lt_ (fun (b : Bool) (σ : Sto) => (lt_ (pI σ h0 4 (4 : Int32)) (fun (σ_6 : Sto) => ((), (b && cK σ h0 8), σ_6)))) (fun J205 => (if (SI σ h0 4) = (1 : Int32) then (J205 ((b && cK σ h0 8) && cK σ h0 8) σ) else (if (SI σ h0 4) = (2 : Int32) then (J205 (((b && cK σ h0 8) && cK σ h0 8) && cK σ h0 8) σ) else ((), (((b && cK σ h0 8) && cK σ h0 8) && cK σ h0 8), σ))))) else ((), (b && cK σ h0 8), σ)))
def nwC (h0 : Nat) (x1_1 x2_2 : Int32) (b : Bool) (σ : Sto) : Rs Unit := (lt_ (pI σ h0 3 (SI σ h0 2)) (fun (σ_4 : Sto) => (lt_ (pI σ_4 h0 5 (0 : Int32)) (fun (σ_5 : Sto) => (lt_ (fun (b : Bool) (σ : Sto) => (if x1_1 = 0 then ((), b, σ) else (if (SI σ h0 2) = x2_2 then (lt_ (fun (b : Bool) (σ : Sto) => (lt_ (pI σ h0 4 (4 : Int32)) (fun (σ_6 : Sto) => ((), (b && cK σ h0 8), σ_6)))) (fun J205 => (if (SI σ h0 4) = (1 : Int32) then (J205 ((b && cK σ h0 8) && cK σ h0 8) σ) else (if (SI σ h0 4) = (2 : Int32) then (J205 (((b && cK σ h0 8) && cK σ h0 8) && cK σ h0 8) σ) else ((), (((b && cK σ h0 8) && cK σ h0 8) && cK σ h0 8), σ))))) else ((), (b && cK σ h0 8), σ)))) (fun J177 => (if (SI σ_5 h0 2) < (SI σ_5 h0 1) then (bd_ (f_Tape_isLetter (SI σ_5 (SR σ_5 h0 0) (ix (SI σ_5 h0 2))) ((((((((b && cK σ h0 8) && cK σ h0 8) && cK σ_4 h0 8) && cK σ_5 h0 8) && cK σ_5 h0 8) && cK σ_5 h0 8) && cK σ_5 h0 8) && cA σ_5 (SR σ_5 h0 0) 22 (SI σ_5 h0 2)) σ_5) (fun (r_7 : Int32) (b_7 : Bool) (σ_7 : Sto) => (if r_7 = 0 then (bd_ (f_Tape_isDigit (SI σ_7 (SR σ_7 h0 0) (ix (SI σ_7 h0 2))) (((b_7 && cK σ_7 h0 8) && cK σ_7 h0 8) && cA σ_7 (SR σ_7 h0 0) 22 (SI σ_7 h0 2)) σ_7) (fun (r_8 : Int32) (b_8 : Bool) (σ_8 : Sto) => (if r_8 = 0 then (lt_ (pI σ_8 h0 4 (3 : Int32)) (fun (σ_9 : Sto) => (lt_ (pI σ_9 h0 5 (SI σ_9 (SR σ_9 h0 0) (ix (SI σ_9 h0 2)))) (fun (σ_10 : Sto) => (lt_ (pI σ_10 h0 3 ((SI σ_10 h0 2) + (1 : Int32))) (fun (σ_11 : Sto) => (J177 (((((((b_8 && cK σ_8 h0 8) && cK σ_9 h0 8) && cK σ_9 h0 8) && cA σ_9 (SR σ_9 h0 0) 22 (SI σ_9 h0 2)) && cK σ_9 h0 8) && cK σ_10 h0 8) && cK σ_10 h0 8) σ_11))))))) else (bd_ (f_Tape_takeDigits h0 (b_8 && cK σ_8 h0 8) σ_8) (fun (r_12 : Unit) (b_12 : Bool) (σ_12 : Sto) => (J177 b_12 σ_12)))))) else (bd_ (f_Tape_takeLetters h0 (b_7 && cK σ_7 h0 8) σ_7) (fun (r_13 : Unit) (b_13 : Bool) (σ_13 : Sto) => (J177 b_13 σ_13)))))) else (lt_ (pI σ_5 h0 4 (5 : Int32)) (fun (σ_14 : Sto) => (J177 ((((((b && cK σ h0 8) && cK σ h0 8) && cK σ_4 h0 8) && cK σ_5 h0 8) && cK σ_5 h0 8) && cK σ_5 h0 8) σ_14))))))))))
theorem e_nwJ (hT : TC h n g σ) (x1 x2 : Int32) : nwJ h x1 x2 true (tS σ h f t) = ((), true, tS σ h (if (x1 ≠ 0 ∧ f 2 = x2) ∧ (f 4 = 1 ∨ f 4 = 2) then up1 f 4 4 else f) t) := by
  unfold nwJ
  rw [tS_f]
  simp only [lt_]
  rw [tS_k hT, tS_p]
  by_cases c1 : x1 = 0
  · rw [if_pos c1, if_neg (fun z => z.1.1 c1)]
  · rw [if_neg c1]
    by_cases c2 : f 2 = x2
    · rw [if_pos c2]
      by_cases c3 : f 4 = 1
      · rw [if_pos c3, if_pos ⟨⟨c1, c2⟩, Or.inl c3⟩]
        rfl
      · rw [if_neg c3]
        by_cases c4 : f 4 = 2
        · rw [if_pos c4, if_pos ⟨⟨c1, c2⟩, Or.inr c4⟩]
          rfl
        · rw [if_neg c4, if_neg (fun z => z.2.elim c3 c4)]
          rfl
    · rw [if_neg c2, if_neg (fun z => c2 z.1.2)]
      rfl
end TX1
