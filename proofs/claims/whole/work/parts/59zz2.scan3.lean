/-! texts: the reference's next word -/
section TX3
variable {α : Type} {Y n : Nat} {g : Nat → Nat} {ρ : Sto} {F s : Nat → Int32}
def nxJ (h0 : Nat) (s0_89 : Int32) (b : Bool) (σ : Sto) : Rs Unit := (lt_ s0_89 (fun (x1_3 : Int32) => (lt_ (pI σ h0 9 (SI σ h0 10)) (fun (σ_4 : Sto) => (if (SI σ_4 h0 9) = (SI σ_4 h0 8) then (lt_ (pI σ_4 h0 11 (0 : Int32)) (fun (σ_5 : Sto) => ((), (((((b && cK σ h0 13) && cK σ h0 13) && cK σ_4 h0 13) && cK σ_4 h0 13) && cK σ_4 h0 13), σ_5))) else (bd_ (f_Model_isLetter h0 (SI σ_4 h0 9) ((((((b && cK σ h0 13) && cK σ h0 13) && cK σ_4 h0 13) && cK σ_4 h0 13) && cK σ_4 h0 13) && cK σ_4 h0 13) σ_4) (fun (r_6 : Int32) (b_6 : Bool) (σ_6 : Sto) => (if r_6 = 0 then (bd_ (f_Model_isDigit h0 (SI σ_6 h0 9) ((b_6 && cK σ_6 h0 13) && cK σ_6 h0 13) σ_6) (fun (r_7 : Int32) (b_7 : Bool) (σ_7 : Sto) => (if r_7 = 0 then (lt_ (pI σ_7 h0 11 (3 : Int32)) (fun (σ_8 : Sto) => (lt_ (pI σ_8 h0 13 (SI σ_8 (SR σ_8 h0 7) (ix (SI σ_8 h0 9)))) (fun (σ_9 : Sto) => (lt_ (pI σ_9 h0 10 ((SI σ_9 h0 10) + (1 : Int32))) (fun (σ_10 : Sto) => ((), (((((((b_7 && cK σ_7 h0 13) && cK σ_8 h0 13) && cK σ_8 h0 13) && cA σ_8 (SR σ_8 h0 7) 21 (SI σ_8 h0 9)) && cK σ_8 h0 13) && cK σ_9 h0 13) && cK σ_9 h0 13), σ_10))))))) else (lt_ (pI σ_7 h0 12 (0 : Int32)) (fun (σ_11 : Sto) => (lp_ (b_Model_next_214 h0 x1_3) (fun (b : Bool) (σ : Sto) => ((), false, σ)) fuel_ (b_7 && cK σ_7 h0 13) σ_11)))))) else (lp_ (b_Model_next_128 h0 x1_3) (fun (b : Bool) (σ : Sto) => ((), false, σ)) fuel_ b_6 σ_6)))))))))
def nxC (h0 : Nat) (x1_1 x2_2 : Int32) (b : Bool) (σ : Sto) : Rs Unit := (lt_ (fun (s0_89 : Int32) (b : Bool) (σ : Sto) => (lt_ s0_89 (fun (x1_3 : Int32) => (lt_ (pI σ h0 9 (SI σ h0 10)) (fun (σ_4 : Sto) => (if (SI σ_4 h0 9) = (SI σ_4 h0 8) then (lt_ (pI σ_4 h0 11 (0 : Int32)) (fun (σ_5 : Sto) => ((), (((((b && cK σ h0 13) && cK σ h0 13) && cK σ_4 h0 13) && cK σ_4 h0 13) && cK σ_4 h0 13), σ_5))) else (bd_ (f_Model_isLetter h0 (SI σ_4 h0 9) ((((((b && cK σ h0 13) && cK σ h0 13) && cK σ_4 h0 13) && cK σ_4 h0 13) && cK σ_4 h0 13) && cK σ_4 h0 13) σ_4) (fun (r_6 : Int32) (b_6 : Bool) (σ_6 : Sto) => (if r_6 = 0 then (bd_ (f_Model_isDigit h0 (SI σ_6 h0 9) ((b_6 && cK σ_6 h0 13) && cK σ_6 h0 13) σ_6) (fun (r_7 : Int32) (b_7 : Bool) (σ_7 : Sto) => (if r_7 = 0 then (lt_ (pI σ_7 h0 11 (3 : Int32)) (fun (σ_8 : Sto) => (lt_ (pI σ_8 h0 13 (SI σ_8 (SR σ_8 h0 7) (ix (SI σ_8 h0 9)))) (fun (σ_9 : Sto) => (lt_ (pI σ_9 h0 10 ((SI σ_9 h0 10) + (1 : Int32))) (fun (σ_10 : Sto) => ((), (((((((b_7 && cK σ_7 h0 13) && cK σ_8 h0 13) && cK σ_8 h0 13) && cA σ_8 (SR σ_8 h0 7) 21 (SI σ_8 h0 9)) && cK σ_8 h0 13) && cK σ_9 h0 13) && cK σ_9 h0 13), σ_10))))))) else (lt_ (pI σ_7 h0 12 (0 : Int32)) (fun (σ_11 : Sto) => (lp_ (b_Model_next_214 h0 x1_3) (fun (b : Bool) (σ : Sto) => ((), false, σ)) fuel_ (b_7 && cK σ_7 h0 13) σ_11)))))) else (lp_ (b_Model_next_128 h0 x1_3) (fun (b : Bool) (σ : Sto) => ((), false, σ)) fuel_ b_6 σ_6)))))))))) (fun J89 => (lt_ (fun (b : Bool) (σ : Sto) => (J89 (0 : Int32) b σ)) (fun J88 => (if x1_1 = 0 then (J88 b σ) else (if x2_2 = (SI σ h0 10) then (J89 (1 : Int32) (b && cK σ h0 13) σ) else (J88 (b && cK σ h0 13) σ)))))))
def mS (ρ : Sto) (Y : Nat) (F s : Nat → Int32) : Sto := rI (rI ρ (Y + 1) s) Y F
def TM (Y n : Nat) (g : Nat → Nat) (ρ : Sto) : Prop := LayY Y ρ ∧ n ≤ 96 ∧ ∀ k, k < n → SI ρ (Y + 7) k = nI (g k) ∧ g k < 256
theorem mS_f : SI (mS ρ Y F s) Y = F := up1_s
theorem mS_s : SI (mS ρ Y F s) (Y + 1) = s := by
  show up1 (up1 (SI ρ) (Y + 1) s) Y F (Y + 1) = s
  rw [up1_ne' (by omega), up1_s]
theorem mS_x {x : Nat} (h1 : x ≠ Y) (h2 : x ≠ Y + 1) : SI (mS ρ Y F s) x = SI ρ x := by
  show up1 (up1 (SI ρ) (Y + 1) s) Y F x = _
  rw [up1_ne' h1, up1_ne' h2]
theorem mS_b : SI (mS ρ Y F s) (Y + 7) = SI ρ (Y + 7) := mS_x (by omega) (by omega)
theorem mS_p {j : Nat} {v : Int32} : pI (mS ρ Y F s) Y j v = mS ρ Y (up1 F j v) s := pI_rI
theorem mS_q {j : Nat} {v : Int32} : pI (mS ρ Y F s) (Y + 1) j v = mS ρ Y F (up1 s j v) := by
  show pI (rI (rI ρ (Y + 1) s) Y F) (Y + 1) j v = rI (rI ρ (Y + 1) (up1 s j v)) Y F
  rw [rI_comm (show Y + 1 ≠ Y by omega), pI_rI, rI_comm (show Y ≠ Y + 1 by omega)]
  rfl
theorem mS_k (hM : TM Y n g ρ) : cK (mS ρ Y F s) Y 13 = true := cK_of (show Stk ρ Y = 13 from kY_0 hM.1)
theorem mS_7 (hM : TM Y n g ρ) : SR (mS ρ Y F s) Y 7 = Y + 7 := rY_7 hM.1
theorem mS_0 (hM : TM Y n g ρ) : SR (mS ρ Y F s) Y 0 = Y + 1 := rY_0 hM.1
theorem mS_a (hM : TM Y n g ρ) {i : Nat} (hi : i < 96) : cA (mS ρ Y F s) (Y + 7) 21 (nI i) = true := cA_of (show Stk ρ (Y + 7) = 21 from kY_7 hM.1) (show Sln ρ (Y + 7) = 96 from nY_7 hM.1) hi (by decide)
theorem mS_a1 (hM : TM Y n g ρ) {i : Nat} (hi : i < 3210) : cA (mS ρ Y F s) (Y + 1) 21 (nI i) = true := cY (ρ := ρ) hM.1 hi
theorem in_L : ∀ c, c < 256 → inR (nI c) 97 122 = if isLN c = true then 1 else 0 := by decide +kernel
theorem in_D : ∀ c, c < 256 → inR (nI c) 48 57 = if isDN c = true then 1 else 0 := by decide +kernel
theorem e_letM (hM : TM Y n g ρ) (F8 : F 8 = nI n) {i : Nat} (hi : i ≤ n) : f_Model_isLetter Y (nI i) true (mS ρ Y F s) = (if i < n ∧ isLN (g i) = true then 1 else 0, true, mS ρ Y F s) := by
  have hn := hM.2.1
  unfold f_Model_isLetter
  rw [lt_, mS_f, F8]
  by_cases c : i < n
  · obtain ⟨b1, b2⟩ := hM.2.2 i c
    rw [if_pos (nI_lt c (by omega)), mS_7 hM, ix_nI (show i < 2 ^ 31 by omega), mS_b, b1, e_isInL (nI (g i)) 97 122 97 122 rfl rfl, in_L _ b2, bd_, mS_k hM, mS_a hM (show i < 96 by omega)]
    dsimp only
    by_cases d : isLN (g i) = true
    · rw [if_pos d, if_neg (by decide), if_pos ⟨c, d⟩]
      rfl
    · rw [if_neg d, if_pos rfl, if_neg (fun z => d z.2)]
      rfl
  · rw [if_neg (nI_nlt (by omega) (by omega)), if_neg (fun z => c z.1), mS_k hM]
    rfl
theorem e_digM (hM : TM Y n g ρ) (F8 : F 8 = nI n) {i : Nat} (hi : i ≤ n) : f_Model_isDigit Y (nI i) true (mS ρ Y F s) = (if i < n ∧ isDN (g i) = true then 1 else 0, true, mS ρ Y F s) := by
  have hn := hM.2.1
  unfold f_Model_isDigit
  rw [lt_, mS_f, F8]
  by_cases c : i < n
  · obtain ⟨b1, b2⟩ := hM.2.2 i c
    rw [if_pos (nI_lt c (by omega)), mS_7 hM, ix_nI (show i < 2 ^ 31 by omega), mS_b, b1, e_isInL (nI (g i)) 48 57 48 57 rfl rfl, in_D _ b2, bd_, mS_k hM, mS_a hM (show i < 96 by omega)]
    dsimp only
    by_cases d : isDN (g i) = true
    · rw [if_pos d, if_neg (by decide), if_pos ⟨c, d⟩]
      rfl
    · rw [if_neg d, if_pos rfl, if_neg (fun z => d z.2)]
      rfl
  · rw [if_neg (nI_nlt (by omega) (by omega)), if_neg (fun z => c z.1), mS_k hM]
    rfl
/-- letters -/
theorem M_let (hM : TM Y n g ρ) (F8 : F 8 = nI n) {b : Nat} (F9 : F 9 = nI b) (hbn : b < n) (x3 : Int32) : ∀ d i fu, i + d = n → b ≤ i → d < fu → lp_ (b_Model_next_128 Y x3) (fun (b : Bool) (σ : Sto) => ((), false, σ)) fu true (mS ρ Y (up1 F 10 (nI i)) s) = ((), true, mS ρ Y (up1 (up1 (up1 F 10 (nI (ru (fun i => isLN (g i)) i d))) 11 (if x3 = 0 then 1 else 4)) 13 (if ru (fun i => isLN (g i)) i d - b = 1 then nI (g b) else 0)) s) := by
  have hn := hM.2.1
  obtain ⟨b1, b2⟩ := hM.2.2 b hbn
  have ex : ∀ i, b ≤ i → i ≤ n → ¬ (i < n ∧ isLN (g i) = true) → ∀ L, b_Model_next_128 Y x3 L true (mS ρ Y (up1 F 10 (nI i)) s) = ((), true, mS ρ Y (up1 (up1 (up1 F 10 (nI i)) 11 (if x3 = 0 then 1 else 4)) 13 (if i - b = 1 then nI (g b) else 0)) s) := fun i hbi hin hc L => by
    unfold b_Model_next_128
    rw [mS_f, up1_s, mS_k hM]
    simp only [Bool.and_true]
    rw [e_letM hM (by rw [up1_ne' (by decide)]; exact F8) hin, bd_, if_neg hc]
    dsimp only
    rw [if_pos rfl]
    simp only [lt_]
    have tail : ∀ v : Int32, (if SI (pI (mS ρ Y (up1 F 10 (nI i)) s) Y 11 v) Y 10 - SI (pI (mS ρ Y (up1 F 10 (nI i)) s) Y 11 v) Y 9 = 1 then (((), (((((((true && cK (mS ρ Y (up1 F 10 (nI i)) s) Y 13) && cK (pI (mS ρ Y (up1 F 10 (nI i)) s) Y 11 v) Y 13) && cK (pI (mS ρ Y (up1 F 10 (nI i)) s) Y 11 v) Y 13) && cK (pI (mS ρ Y (up1 F 10 (nI i)) s) Y 11 v) Y 13) && cK (pI (mS ρ Y (up1 F 10 (nI i)) s) Y 11 v) Y 13) && cA (pI (mS ρ Y (up1 F 10 (nI i)) s) Y 11 v) (SR (pI (mS ρ Y (up1 F 10 (nI i)) s) Y 11 v) Y 7) 21 (SI (pI (mS ρ Y (up1 F 10 (nI i)) s) Y 11 v) Y 9)) && cK (pI (mS ρ Y (up1 F 10 (nI i)) s) Y 11 v) Y 13), pI (pI (mS ρ Y (up1 F 10 (nI i)) s) Y 11 v) Y 13 (SI (pI (mS ρ Y (up1 F 10 (nI i)) s) Y 11 v) (SR (pI (mS ρ Y (up1 F 10 (nI i)) s) Y 11 v) Y 7) (ix (SI (pI (mS ρ Y (up1 F 10 (nI i)) s) Y 11 v) Y 9)))) : Rs Unit) else ((), ((((true && cK (mS ρ Y (up1 F 10 (nI i)) s) Y 13) && cK (pI (mS ρ Y (up1 F 10 (nI i)) s) Y 11 v) Y 13) && cK (pI (mS ρ Y (up1 F 10 (nI i)) s) Y 11 v) Y 13) && cK (pI (mS ρ Y (up1 F 10 (nI i)) s) Y 11 v) Y 13), pI (pI (mS ρ Y (up1 F 10 (nI i)) s) Y 11 v) Y 13 0)) = ((), true, mS ρ Y (up1 (up1 (up1 F 10 (nI i)) 11 v) 13 (if i - b = 1 then nI (g b) else 0)) s) := fun v => by
      rw [mS_p, mS_f, up1_ne' (show 10 ≠ 11 by decide), up1_s, up1_ne' (show 9 ≠ 11 by decide), up1_ne' (show 9 ≠ 10 by decide), F9, nI_sub hbi, mS_7 hM, ix_nI (show b < 2 ^ 31 by omega), mS_b, b1, mS_k hM, mS_k hM, mS_a hM (show b < 96 by omega), mS_p, mS_p]
      by_cases c : i - b = 1
      · rw [if_pos c, if_pos (show nI (i - b) = 1 by rw [c]; rfl)]
        rfl
      · rw [if_neg c, if_neg (show ¬ nI (i - b) = 1 from fun z => c ((nI_eq (b := 1) (by omega) (by decide)).mp z))]
        rfl
    by_cases x0 : x3 = 0
    · rw [if_pos x0, if_pos x0]
      exact tail 1
    · rw [if_neg x0, if_neg x0]
      exact tail 4
  intro d
  induction d with
  | zero =>
    intro i fu hi hb hf
    obtain ⟨fu, rfl⟩ : ∃ z, fu = z + 1 := ⟨fu - 1, by omega⟩
    rw [lp_S]
    exact ex i hb (by omega) (fun z => absurd z.1 (by omega)) _
  | succ d ih =>
    intro i fu hi hb hf
    obtain ⟨fu, rfl⟩ : ∃ z, fu = z + 1 := ⟨fu - 1, by omega⟩
    by_cases c : isLN (g i) = true
    · have e3 : ru (fun i => isLN (g i)) i (d + 1) = ru (fun i => isLN (g i)) (i + 1) d := by
        show (if isLN (g i) = true then _ else i) = _
        rw [if_pos c]
      rw [lp_S, e3]
      unfold b_Model_next_128
      rw [mS_f, up1_s, mS_k hM]
      simp only [Bool.and_true]
      rw [e_letM hM (by rw [up1_ne' (by decide)]; exact F8) (by omega), bd_, if_pos (show i < n ∧ isLN (g i) = true from ⟨by omega, c⟩)]
      dsimp only
      rw [if_neg (show ¬ (1 : Int32) = 0 by decide), lt_, mS_f, up1_s, mS_p, up1_2, nI_1, mS_k hM]
      exact ih (i + 1) fu (by omega) (by omega) (by omega)
    · have e3 : ru (fun i => isLN (g i)) i (d + 1) = i := by
        show (if isLN (g i) = true then _ else i) = _
        rw [if_neg c]
      rw [lp_S, e3]
      exact ex i hb (by omega) (fun z => c z.2) _
/-- digits -/
theorem M_dig (hM : TM Y n g ρ) (F8 : F 8 = nI n) {b : Nat} (F9 : F 9 = nI b) (x3 : Int32) : ∀ d i x fu, i + d = n → b ≤ i → d < fu → ∃ x', lp_ (b_Model_next_214 Y x3) (fun (b : Bool) (σ : Sto) => ((), false, σ)) fu true (mS ρ Y (up1 (up1 F 12 x) 10 (nI i)) s) = ((), true, mS ρ Y (up1 (up1 (up1 F 12 x') 10 (nI (ru (fun i => isDN (g i)) i d))) 11 (if x3 ≠ 0 ∨ 4 < ru (fun i => isDN (g i)) i d - b then 4 else 2)) s) ∧ (ru (fun i => isDN (g i)) i d - b ≤ 4 → x' = nv g x i (ru (fun i => isDN (g i)) i d - i)) := by
  have hn := hM.2.1
  have ex : ∀ i x, b ≤ i → i ≤ n → ¬ (i < n ∧ isDN (g i) = true) → ∀ L, b_Model_next_214 Y x3 L true (mS ρ Y (up1 (up1 F 12 x) 10 (nI i)) s) = ((), true, mS ρ Y (up1 (up1 (up1 F 12 x) 10 (nI i)) 11 (if x3 ≠ 0 ∨ 4 < i - b then 4 else 2)) s) := fun i x hbi hin hc L => by
    unfold b_Model_next_214
    rw [mS_f, up1_s, mS_k hM]
    simp only [Bool.and_true]
    rw [e_digM hM (by rw [up1_ne' (by decide), up1_ne' (by decide)]; exact F8) hin, bd_, if_neg hc]
    dsimp only
    rw [if_pos rfl]
    simp only [lt_]
    rw [mS_f, up1_s, up1_ne' (show 9 ≠ 10 by decide), up1_ne' (show 9 ≠ 12 by decide), F9, nI_sub hbi, mS_k hM, mS_p, mS_p]
    by_cases x0 : x3 = 0
    · rw [if_pos x0]
      by_cases c : 4 < i - b
      · rw [if_pos (show (4 : Int32) < nI (i - b) from nI_lt (a := 4) c (by omega)), if_pos (Or.inr c)]
        rfl
      · rw [if_neg (show ¬ (4 : Int32) < nI (i - b) from nI_nlt (a := 4) (by omega) (by decide)), if_neg (fun z => z.elim (fun y => y x0) c)]
        rfl
    · rw [if_neg x0, if_pos (Or.inl x0)]
      rfl
  have st : ∀ i x, b ≤ i → i < n → isDN (g i) = true → ∀ L, b_Model_next_214 Y x3 L true (mS ρ Y (up1 (up1 F 12 x) 10 (nI i)) s) = L true (mS ρ Y (up1 (up1 F 12 (if i - b < 4 then 10 * x + nI (g i) - 48 else x)) 10 (nI (i + 1))) s) := fun i x hbi hi c L => by
    obtain ⟨b1, b2⟩ := hM.2.2 i hi
    unfold b_Model_next_214
    rw [mS_f, up1_s, mS_k hM]
    simp only [Bool.and_true]
    rw [e_digM hM (by rw [up1_ne' (by decide), up1_ne' (by decide)]; exact F8) (by omega), bd_, if_pos (show i < n ∧ isDN (g i) = true from ⟨hi, c⟩)]
    dsimp only
    rw [if_neg (show ¬ (1 : Int32) = 0 by decide)]
    simp only [lt_, mS_f, up1_v, reduceIte, Nat.reduceEqDiff, F9, nI_sub hbi, mS_k hM, mS_7 hM, ix_nI (show i < 2 ^ 31 by omega), mS_b, b1, mS_a hM (show i < 96 by omega), mS_p, nI_1, Bool.and_true]
    by_cases q : i - b < 4
    · rw [if_pos q, if_pos (show nI (i - b) < 4 from nI_lt (b := 4) q (by decide)), up1_c (show 10 ≠ 12 by decide), up1_2, up1_2]
    · rw [if_neg q, if_neg (show ¬ nI (i - b) < 4 from nI_nlt (b := 4) (by omega) (by omega)), up1_c (show 10 ≠ 12 by decide), up1_2, up1_2]
  intro d
  induction d with
  | zero =>
    intro i x fu hi hb hf
    obtain ⟨fu, rfl⟩ : ∃ z, fu = z + 1 := ⟨fu - 1, by omega⟩
    refine ⟨x, ?_, fun _ => ?_⟩
    · rw [lp_S]
      exact ex i x hb (by omega) (fun z => absurd z.1 (by omega)) _
    · show x = nv g x i (i - i)
      rw [Nat.sub_self]
      rfl
  | succ d ih =>
    intro i x fu hi hb hf
    obtain ⟨fu, rfl⟩ : ∃ z, fu = z + 1 := ⟨fu - 1, by omega⟩
    by_cases c : isDN (g i) = true
    · have e3 : ru (fun i => isDN (g i)) i (d + 1) = ru (fun i => isDN (g i)) (i + 1) d := by
        show (if isDN (g i) = true then _ else i) = _
        rw [if_pos c]
      have hle := ru_le (c := fun i => isDN (g i)) (d := d) (i := i + 1)
      obtain ⟨b1, b2⟩ := hM.2.2 i (by omega)
      obtain ⟨x', k1, k2⟩ := ih (i + 1) (if i - b < 4 then 10 * x + nI (g i) - 48 else x) fu (by omega) (by omega) (by omega)
      rw [e3]
      refine ⟨x', ?_, fun h4 => ?_⟩
      · rw [lp_S, st i x hb (by omega) c]
        exact k1
      · rw [k2 h4, if_pos (by omega), show ru (fun i => isDN (g i)) (i + 1) d - i = (ru (fun i => isDN (g i)) (i + 1) d - (i + 1)) + 1 by omega]
        rfl
    · have e3 : ru (fun i => isDN (g i)) i (d + 1) = i := by
        show (if isDN (g i) = true then _ else i) = _
        rw [if_neg c]
      rw [e3]
      refine ⟨x, ?_, fun _ => ?_⟩
      · rw [lp_S]
        exact ex i x hb (by omega) (fun z => c z.2) _
      · rw [Nat.sub_self]
        rfl
end TX3
