/-! texts: names and keys -/
section TX6
variable {α : Type} {h Y n : Nat} {g : Nat → Nat} {σ ρ : Sto} {f t F s : Nat → Int32}
theorem bd_id (x : Rs Unit) : bd_ x (fun (_ : Unit) (b : Bool) (σ : Sto) => ((), b, σ)) = x := rfl
theorem bok_0 : bok 0 = true := decide_eq_true rfl
/-- where a letter stands in a constant -/
def nmF (q c : Nat) : Int32 := match findI (fun i => decide ((sbyt.getD q []).getD i 0 = byt c)) 0 (slen.getD q 0) with
  | some j => nI j
  | none => -1
theorem e_indexOf (hS : SS σ) {q c : Nat} (hq : q < 5) (hc : c < 256) : f_String_indexOf_II (Scs σ (1 + q)) (nI c) true σ = (nmF q c, true, σ) := by
  have hl : ∀ q, q < 5 → slen.getD q 0 ≤ 16 ∧ 0 < slen.getD q 0 := by decide
  obtain ⟨hl1, hl2⟩ := hl q hq
  have eL : f_String_length (Scs σ (1 + q)) true σ = (nI (slen.getD q 0), true, σ) := by
    unfold f_String_length f_String_coder
    rw [sval_q hS hq, sok_q hS hq, sokv_q hS hq, slen_q hS hq, if_neg (by decide), bok_0, bd_]
    dsimp only
    rw [show Int32.ofNat (slen.getD q 0) = nI (slen.getD q 0) from rfl, sc_shr0 (by omega)]
    rfl
  have eC : f_StringLatin1_indexOfChar (Scs σ (6 + q)) (nI c) 0 (nI (slen.getD q 0)) true σ = (nmF q c, true, σ) := by
    unfold f_StringLatin1_indexOfChar
    rw [lt_, lt_]
    have := lp_find (body := b_StringLatin1_indexOfChar_7 (Scs σ (6 + q)) (nI (slen.getD q 0)) (byt c)) (bad := fun (x5 : Int32) (b : Bool) (σ : Sto) => (0, false, σ)) (σ := σ) (slen.getD q 0) (fun i => decide ((sbyt.getD q []).getD i 0 = byt c)) (fun j => (nI j, true, σ)) ((-1 : Int32), true, σ) (by omega)
      (fun L i hi => by
        unfold b_StringLatin1_indexOfChar_7
        rw [if_pos (nI_lt hi (by omega)), sbyt_q hS hq, ix_nI (show i < 2 ^ 31 by omega), sokv_q hS hq, slen_q hS hq, inb_of hi (by omega)]
        by_cases d : (sbyt.getD q []).getD i 0 = byt c
        · rw [if_pos d, if_pos (decide_eq_true d)]
          rfl
        · rw [if_neg d, if_neg (by rw [decide_eq_false d]; decide)]
          rfl)
      (fun L => by
        unfold b_StringLatin1_indexOfChar_7
        rw [if_neg (nI_nlt (Nat.le_refl _) (by omega))]) 0 (Nat.zero_le _)
    rw [Nat.sub_zero] at this
    refine Eq.trans this ?_
    unfold nmF
    cases findI (fun i => decide ((sbyt.getD q []).getD i 0 = byt c)) 0 (slen.getD q 0) with
    | none => rfl
    | some j => rfl
  have eX : mxI 0 0 = 0 := by decide
  have eN : mnI (nI (slen.getD q 0)) (nI (slen.getD q 0)) = nI (slen.getD q 0) := by
    unfold mnI
    split <;> rfl
  unfold f_String_indexOf_II f_String_indexOf_III
  rw [sok_q hS hq]
  simp only [Bool.and_true]
  rw [e_isLatin hS hq, bd_, bd_]
  dsimp only
  rw [if_neg (by decide), sok_q hS hq]
  simp only [Bool.and_true]
  rw [eL, bd_]
  dsimp only
  unfold f_StringLatin1_indexOf_rBIIII f_StringLatin1_canEncode
  rw [lt_, if_neg (nI_pos (by omega)), if_neg (show ¬ (255 : Int32) < nI c from nI_nlt (a := 255) (by omega) (by decide)), bd_, bd_]
  dsimp only
  rw [if_neg (show ¬ (1 : Int32) = 0 by decide), sval_q hS hq, lt_, eX, lt_, slen_q hS hq, show Int32.ofNat (slen.getD q 0) = nI (slen.getD q 0) from rfl, eN, if_pos (show (0 : Int32) < nI (slen.getD q 0) from nI_lt (a := 0) hl2 (by omega)), sokv_q hS hq, Bool.and_true, eC]
  rfl
theorem e_namesOf (hS : SS σ) {q : Nat} (hq : q < 4) : f_Tape_namesOf (nI q) true σ = (Scs σ (1 + (1 + q)), true, σ) := by
  unfold f_Tape_namesOf
  rcases (show q = 0 ∨ q = 1 ∨ q = 2 ∨ q = 3 by omega) with rfl | rfl | rfl | rfl
  · rw [if_pos (by decide), decide_eq_false (hS.1 2 (by decide))]
    rfl
  · rw [if_neg (by decide), if_pos (by decide), decide_eq_false (hS.1 3 (by decide))]
    rfl
  · rw [if_neg (by decide), if_neg (by decide), if_pos (by decide), decide_eq_false (hS.1 4 (by decide))]
    rfl
  · rw [if_neg (by decide), if_neg (by decide), if_neg (by decide), decide_eq_false (hS.1 5 (by decide))]
    rfl
def nmI (x0 x1 : Int32) : Int32 := if x0 = 0 then (if x1 = 109 then 1 else if x1 = 110 then 1 else 0) else if x0 = 1 then (if x1 = 108 then 1 else if x1 = 102 then 1 else 0) else if x0 = 2 then (if x1 = 104 then 1 else if x1 = 116 then 1 else if x1 = 115 then 1 else if x1 = 119 then 1 else 0) else (if x1 = 100 then 1 else if x1 = 112 then 1 else 0)
theorem e_isName (x0 x1 : Int32) (b : Bool) (τ : Sto) : f_Model_isName x0 x1 b τ = (nmI x0 x1, b, τ) := by
  unfold f_Model_isName nmI
  simp only [lt_, if_pair]
theorem nm_0 : ∀ c, c < 256 → (nmF (1 + 0) c < 0 ∧ nmI (nI 0) (nI c) = 0) ∨ (¬ nmF (1 + 0) c < 0 ∧ nmI (nI 0) (nI c) = 1 ∧ ((nI c = 109 ∧ -1 - nmF (1 + 0) c = -1) ∨ (nI c = 110 ∧ -1 - nmF (1 + 0) c = -2))) := by decide +kernel
theorem nm_1 : ∀ c, c < 256 → (nmF (1 + 1) c < 0 ∧ nmI (nI 1) (nI c) = 0) ∨ (¬ nmF (1 + 1) c < 0 ∧ nmI (nI 1) (nI c) = 1 ∧ ((nI c = 108 ∧ -1 - nmF (1 + 1) c = -1) ∨ (nI c = 102 ∧ -1 - nmF (1 + 1) c = -2))) := by decide +kernel
theorem nm_2 : ∀ c, c < 256 → (nmF (1 + 2) c < 0 ∧ nmI (nI 2) (nI c) = 0) ∨ (¬ nmF (1 + 2) c < 0 ∧ nmI (nI 2) (nI c) = 1 ∧ ((nI c = 104 ∧ -1 - nmF (1 + 2) c = -1) ∨ (nI c = 116 ∧ -1 - nmF (1 + 2) c = -2) ∨ (nI c = 115 ∧ -1 - nmF (1 + 2) c = -3) ∨ (nI c = 119 ∧ -1 - nmF (1 + 2) c = -4))) := by decide +kernel
theorem nm_3 : ∀ c, c < 256 → (nmF (1 + 3) c < 0 ∧ nmI (nI 3) (nI c) = 0) ∨ (¬ nmF (1 + 3) c < 0 ∧ nmI (nI 3) (nI c) = 1 ∧ ((nI c = 100 ∧ -1 - nmF (1 + 3) c = -1) ∨ (nI c = 112 ∧ -1 - nmF (1 + 3) c = -2))) := by decide +kernel
theorem nm_all : ∀ q, q < 4 → ∀ c, c < 256 → (nmF (1 + q) c < 0 ∧ nmI (nI q) (nI c) = 0) ∨ (¬ nmF (1 + q) c < 0 ∧ nmI (nI q) (nI c) = 1 ∧ ((nI q = 0 ∧ ((nI c = 109 ∧ -1 - nmF (1 + q) c = -1) ∨ (nI c = 110 ∧ -1 - nmF (1 + q) c = -2))) ∨ (nI q = 1 ∧ ((nI c = 108 ∧ -1 - nmF (1 + q) c = -1) ∨ (nI c = 102 ∧ -1 - nmF (1 + q) c = -2))) ∨ (nI q = 2 ∧ ((nI c = 104 ∧ -1 - nmF (1 + q) c = -1) ∨ (nI c = 116 ∧ -1 - nmF (1 + q) c = -2) ∨ (nI c = 115 ∧ -1 - nmF (1 + q) c = -3) ∨ (nI c = 119 ∧ -1 - nmF (1 + q) c = -4))) ∨ (nI q = 3 ∧ ((nI c = 100 ∧ -1 - nmF (1 + q) c = -1) ∨ (nI c = 112 ∧ -1 - nmF (1 + q) c = -2))))) := by
  intro q hq c hc
  rcases (show q = 0 ∨ q = 1 ∨ q = 2 ∨ q = 3 by omega) with rfl | rfl | rfl | rfl
  · exact (nm_0 c hc).imp id (fun z => ⟨z.1, z.2.1, Or.inl ⟨rfl, z.2.2⟩⟩)
  · exact (nm_1 c hc).imp id (fun z => ⟨z.1, z.2.1, Or.inr (Or.inl ⟨rfl, z.2.2⟩)⟩)
  · exact (nm_2 c hc).imp id (fun z => ⟨z.1, z.2.1, Or.inr (Or.inr (Or.inl ⟨rfl, z.2.2⟩))⟩)
  · exact (nm_3 c hc).imp id (fun z => ⟨z.1, z.2.1, Or.inr (Or.inr (Or.inr ⟨rfl, z.2.2⟩))⟩)
theorem ch_L : ∀ c, c < 256 → isLN c = true → ((byt c).toUInt32 % 65536).toInt32 = nI c ∧ c ≠ 0 := by decide +kernel
theorem e_nameHere (hT : TC h n g σ) (hS : SS σ) {b e q : Nat} (hq : q < 4) (f7 : f 7 = nI q) (f2 : f 2 = nI b) (f3 : f 3 = nI e) (f4 : f 4 = 1) (hbe : b < e) (hen : e ≤ n) (hL : isLN (g b) = true) : f_Tape_nameHere h true (tS σ h f t) = ((if e - b = 1 then nmF (1 + q) (g b) else -1), true, tS σ h f t) := by
  have hn := hT.2.2.2.1
  obtain ⟨b1, b2⟩ := hT.2.2.2.2 b (by omega)
  have hS' : SS (tS σ h f t) := hS
  unfold f_Tape_nameHere
  rw [lt_, tS_f, f4, if_pos (show (1 : Int32) = 1 from rfl), f2, f3, f7, nI_sub (show b ≤ e by omega), tS_k hT]
  simp only [Bool.and_true]
  by_cases c : e - b = 1
  · rw [if_pos c, if_pos (show nI (e - b) = 1 by rw [c]; rfl), e_namesOf hS' hq, bd_]
    dsimp only
    rw [tS_f, f2, tS_0 hT, ix_nI (show b < 2 ^ 31 by omega), tS_b, b1, (ch_L _ b2 hL).1, tS_k hT, tS_a hT (show b < 96 by omega), sok_q hS' (show 1 + q < 5 by omega)]
    simp only [Bool.and_true]
    rw [e_indexOf hS' (show 1 + q < 5 by omega) b2]
    rfl
  · rw [if_neg c, if_neg (show ¬ nI (e - b) = 1 from fun z => c ((nI_eq (b := 1) (by omega) (by decide)).mp z))]
theorem e_nameHere0 (hT : TC h n g σ) (f4 : ¬ f 4 = 1) : f_Tape_nameHere h true (tS σ h f t) = (-1, true, tS σ h f t) := by
  unfold f_Tape_nameHere
  rw [lt_, tS_f, if_neg f4, tS_k hT]
  rfl
/-- the four keys -/
def kwC (i j : Nat) : Nat := (([[99, 97, 109, 112], [115, 107, 105, 112], [113, 117, 105, 116], [100, 114, 97, 119]] : List (List Nat)).getD i []).getD j 0
abbrev kwW (g : Nat → Nat) (b e k i : Nat) : Prop := k = 1 ∧ e - b = 4 ∧ g b = kwC i 0 ∧ g (b + 1) = kwC i 1 ∧ g (b + 2) = kwC i 2 ∧ g (b + 3) = kwC i 3
theorem kw_byt : ∀ i, i < 4 → ∀ j, j < 4 → ∀ c, c < 256 → (byt c = (sbyt.getD 0 []).getD (4 * i + j) 0 ↔ c = kwC i j) := by decide +kernel
theorem e_stands (hT : TC h n g σ) (hS : SS σ) {b i : Nat} (hi : i < 4) (f2 : f 2 = nI b) (hb : b + 4 ≤ n) : f_Tape_standsAt h (nI (i * 4)) true (tS σ h f t) = (if g b = kwC i 0 ∧ g (b + 1) = kwC i 1 ∧ g (b + 2) = kwC i 2 ∧ g (b + 3) = kwC i 3 then 1 else 0, true, tS σ h f t) := by
  have hn := hT.2.2.2.1
  have hS' : SS (tS σ h f t) := hS
  have st : ∀ j, j < 4 → ∀ L, b_Tape_standsAt_2 h (nI (i * 4)) L (nI j) true (tS σ h f t) = if g (b + j) = kwC i j then L (nI (j + 1)) true (tS σ h f t) else ((0 : Int32), true, tS σ h f t) := fun j hj L => by
    obtain ⟨b1, b2⟩ := hT.2.2.2.2 (b + j) (by omega)
    unfold b_Tape_standsAt_2
    rw [if_pos (show nI j < 4 from nI_lt (b := 4) hj (by decide)), tS_f, f2, nI_add, nI_add, tS_0 hT, ix_nI (show b + j < 2 ^ 31 by omega), tS_b, b1, tS_k hT, tS_a hT (show b + j < 96 by omega), sok_q hS' (q := 0) (by decide), decide_eq_false (hS'.1 1 (by decide))]
    simp only [Bool.not_false, Bool.and_true]
    have ec := e_charAt hS' (q := 0) (i := i * 4 + j) (by decide) (show i * 4 + j < 16 by omega)
    rw [show Scs (tS σ h f t) 1 = Scs (tS σ h f t) (1 + 0) from rfl, ec, bd_]
    dsimp only
    rw [lt_, nI_1, show i * 4 + j = 4 * i + j by omega]
    by_cases d : g (b + j) = kwC i j
    · rw [if_pos d, if_pos ((kw_byt i hi j hj _ b2).mpr d)]
    · rw [if_neg d, if_neg (fun z => d ((kw_byt i hi j hj _ b2).mp z))]
  have ex : ∀ L, b_Tape_standsAt_2 h (nI (i * 4)) L (nI 4) true (tS σ h f t) = ((1 : Int32), true, tS σ h f t) := fun L => by
    unfold b_Tape_standsAt_2
    rw [if_neg (by decide)]
  obtain ⟨N, hN⟩ : ∃ N, fuel_ = N + 5 := ⟨69995, rfl⟩
  unfold f_Tape_standsAt
  rw [lt_, hN, show N + 5 = N + 4 + 1 from rfl, lp_S, show (0 : Int32) = nI 0 from rfl, st 0 (by decide), show N + 4 = N + 3 + 1 from rfl, lp_S, st 1 (by decide), show N + 3 = N + 2 + 1 from rfl, lp_S, st 2 (by decide), show N + 2 = N + 1 + 1 from rfl, lp_S, st 3 (by decide), lp_S, ex]
  by_cases c0 : g (b + 0) = kwC i 0
  · rw [if_pos c0]
    by_cases c1 : g (b + 1) = kwC i 1
    · rw [if_pos c1]
      by_cases c2 : g (b + 2) = kwC i 2
      · rw [if_pos c2]
        by_cases c3 : g (b + 3) = kwC i 3
        · rw [if_pos c3, if_pos (show g b = kwC i 0 ∧ _ from ⟨c0, c1, c2, c3⟩)]
        · rw [if_neg c3, if_neg (fun z => c3 z.2.2.2)]
          rfl
      · rw [if_neg c2, if_neg (fun z => c2 z.2.2.1)]
        rfl
    · rw [if_neg c1, if_neg (fun z => c1 z.2.1)]
      rfl
  · rw [if_neg c0, if_neg (fun z => c0 z.1)]
    rfl
theorem e_readKey (hT : TC h n g σ) (hS : SS σ) {b e k : Nat} (f2 : f 2 = nI b) (f3 : f 3 = nI e) (f4 : f 4 = cdK k) (hk : k < 5) (hbe : b ≤ e) (hen : e ≤ n) : (∀ q, q < 4 → kwW g b e k q → (∀ i, i < q → ¬ kwW g b e k i) → f_Tape_readKey h true (tS σ h f t) = f_Tape_nextWord h true (tS σ h (up1 f 7 (nI q)) t)) ∧ ((∀ i, i < 4 → ¬ kwW g b e k i) → f_Tape_readKey h true (tS σ h f t) = f_Tape_noteFault h true (tS σ h f t)) := by
  have hn := hT.2.2.2.1
  have st : ∀ i, i < 4 → ∀ L, b_Tape_readKey_2 h L (nI i) true (tS σ h f t) = if kwW g b e k i then f_Tape_nextWord h true (tS σ h (up1 f 7 (nI i)) t) else L (nI (i + 1)) true (tS σ h f t) := fun i hi L => by
    unfold b_Tape_readKey_2
    simp only [bd_id]
    rw [if_neg (show ¬ (3 : Int32) < nI i from nI_nlt (a := 3) (by omega) (by decide)), lt_, tS_f, f2, f3, f4, tS_k hT, nI_1]
    simp only [Bool.and_true]
    by_cases c1 : k = 1
    · rw [if_pos ((cdK_1 k hk).mpr c1), nI_sub hbe]
      by_cases c2 : e - b = 4
      · rw [if_pos (show nI (e - b) = 4 by rw [c2]; rfl), show nI i * 4 = nI (i * 4) from nI_mul i 4, e_stands hT hS hi f2 (by omega), bd_]
        dsimp only
        by_cases c3 : g b = kwC i 0 ∧ g (b + 1) = kwC i 1 ∧ g (b + 2) = kwC i 2 ∧ g (b + 3) = kwC i 3
        · rw [if_pos c3, if_neg (by decide), if_pos ⟨c1, c2, c3⟩, lt_, tS_p, tS_k hT, tS_k hT]
          rfl
        · rw [if_neg c3, if_pos rfl, if_neg (fun z => c3 z.2.2), lt_]
      · rw [if_neg (show ¬ nI (e - b) = 4 from fun z => c2 ((nI_eq (b := 4) (by omega) (by decide)).mp z)), if_neg (fun z => c2 z.2.1), lt_]
    · rw [if_neg (fun z => c1 ((cdK_1 k hk).mp z)), if_neg (fun z => c1 z.1), lt_]
  have ex : ∀ L, b_Tape_readKey_2 h L (nI 4) true (tS σ h f t) = f_Tape_noteFault h true (tS σ h f t) := fun L => by
    unfold b_Tape_readKey_2
    simp only [bd_id]
    rw [if_pos (by decide), tS_k hT]
    rfl
  have key : ∀ d i fu, i + d = 4 → d < fu → (∀ j, j < i → ¬ kwW g b e k j) → (∀ q, q < 4 → kwW g b e k q → (∀ i, i < q → ¬ kwW g b e k i) → lp_ (b_Tape_readKey_2 h) (fun (x1 : Int32) (b : Bool) (σ : Sto) => ((), false, σ)) fu (nI i) true (tS σ h f t) = f_Tape_nextWord h true (tS σ h (up1 f 7 (nI q)) t)) ∧ ((∀ i, i < 4 → ¬ kwW g b e k i) → lp_ (b_Tape_readKey_2 h) (fun (x1 : Int32) (b : Bool) (σ : Sto) => ((), false, σ)) fu (nI i) true (tS σ h f t) = f_Tape_noteFault h true (tS σ h f t)) := by
    intro d
    induction d with
    | zero =>
      intro i fu hi hf hj
      obtain ⟨fu, rfl⟩ : ∃ z, fu = z + 1 := ⟨fu - 1, by omega⟩
      rw [lp_S, show i = 4 by omega, ex]
      exact ⟨fun q hq hw _ => absurd hw (hj q (by omega)), fun _ => rfl⟩
    | succ d ih =>
      intro i fu hi hf hj
      obtain ⟨fu, rfl⟩ : ∃ z, fu = z + 1 := ⟨fu - 1, by omega⟩
      rw [lp_S, st i (by omega)]
      by_cases c : kwW g b e k i
      · rw [if_pos c]
        refine ⟨fun q hq hw hz => ?_, fun hz => absurd c (hz i (by omega))⟩
        have : q = i := by
          by_cases q1 : q < i
          · exact absurd hw (hj q q1)
          · by_cases q2 : i < q
            · exact absurd c (hz i q2)
            · omega
        rw [this]
      · rw [if_neg c]
        exact ih (i + 1) fu (by omega) (by omega) (fun j h1 => by
          by_cases e1 : j = i
          · rw [e1]; exact c
          · exact hj j (by omega))
  unfold f_Tape_readKey
  rw [lt_]
  exact key 4 0 fuel_ rfl (by show 4 < 70000; decide) (fun j hj => absurd hj (Nat.not_lt_zero _))
theorem e_word (hM : TM Y n g ρ) {b e k : Nat} (F9 : F 9 = nI b) (F10 : F 10 = nI e) (F11 : F 11 = nI k) (hk : k < 5) (hbe : b ≤ e) (hen : e ≤ n) {c0 c1 c2 c3 : Nat} (hc : c0 < 256 ∧ c1 < 256 ∧ c2 < 256 ∧ c3 < 256) : f_Model_isWordAt Y (nI c0) (nI c1) (nI c2) (nI c3) true (mS ρ Y F s) = (if k = 1 ∧ e - b = 4 ∧ g b = c0 ∧ g (b + 1) = c1 ∧ g (b + 2) = c2 ∧ g (b + 3) = c3 then 1 else 0, true, mS ρ Y F s) := by
  have hn := hM.2.1
  have e1 : ∀ k, k < 5 → (nI k = 1 ↔ k = 1) := by decide
  unfold f_Model_isWordAt
  rw [lt_, mS_f, F9, F10, F11, nI_p1, nI_p2, nI_p3, nI_sub hbe, mS_7 hM]
  simp only [mS_k hM, Bool.and_true]
  by_cases q1 : k = 1
  · rw [if_pos ((e1 k hk).mpr q1)]
    by_cases q2 : e - b = 4
    · obtain ⟨a0, z0⟩ := hM.2.2 b (by omega)
      obtain ⟨a1, z1⟩ := hM.2.2 (b + 1) (by omega)
      obtain ⟨a2, z2⟩ := hM.2.2 (b + 2) (by omega)
      obtain ⟨a3, z3⟩ := hM.2.2 (b + 3) (by omega)
      rw [if_pos (show nI (e - b) = 4 by rw [q2]; rfl), ix_nI (show b < 2 ^ 31 by omega), ix_nI (show b + 1 < 2 ^ 31 by omega), ix_nI (show b + 2 < 2 ^ 31 by omega), ix_nI (show b + 3 < 2 ^ 31 by omega), mS_b, a0, a1, a2, a3]
      simp only [mS_a hM (show b < 96 by omega), mS_a hM (show b + 1 < 96 by omega), mS_a hM (show b + 2 < 96 by omega), mS_a hM (show b + 3 < 96 by omega), Bool.and_true]
      by_cases d0 : g b = c0
      · rw [if_pos (show nI (g b) = nI c0 by rw [d0])]
        by_cases d1 : g (b + 1) = c1
        · rw [if_pos (show nI (g (b + 1)) = nI c1 by rw [d1])]
          by_cases d2 : g (b + 2) = c2
          · rw [if_pos (show nI (g (b + 2)) = nI c2 by rw [d2])]
            by_cases d3 : g (b + 3) = c3
            · rw [if_pos (show nI (g (b + 3)) = nI c3 by rw [d3]), if_pos ⟨q1, q2, d0, d1, d2, d3⟩]
            · rw [if_neg (fun z => d3 ((nI_eq (by omega) (by omega)).mp z)), if_neg (fun z => d3 z.2.2.2.2.2)]
          · rw [if_neg (fun z => d2 ((nI_eq (by omega) (by omega)).mp z)), if_neg (fun z => d2 z.2.2.2.2.1)]
        · rw [if_neg (fun z => d1 ((nI_eq (by omega) (by omega)).mp z)), if_neg (fun z => d1 z.2.2.2.1)]
      · rw [if_neg (fun z => d0 ((nI_eq (by omega) (by omega)).mp z)), if_neg (fun z => d0 z.2.2.1)]
    · rw [if_neg (show ¬ nI (e - b) = 4 from fun z => q2 ((nI_eq (b := 4) (by omega) (by decide)).mp z)), if_neg (fun z => q2 z.2.1)]
  · rw [if_neg (fun z => q1 ((e1 k hk).mp z)), if_neg (fun z => q1 z.1)]
theorem e_keyM (hM : TM Y n g ρ) {b e k : Nat} (F9 : F 9 = nI b) (F10 : F 10 = nI e) (F11 : F 11 = nI k) (hk : k < 5) (hbe : b ≤ e) (hen : e ≤ n) : f_Model_key Y true (mS ρ Y F s) = (if kwW g b e k 0 then 0 else if kwW g b e k 1 then 1 else if kwW g b e k 2 then 2 else if kwW g b e k 3 then 3 else -1, true, mS ρ Y F s) := by
  have w0 := e_word (s := s) hM F9 F10 F11 hk hbe hen (c0 := 99) (c1 := 97) (c2 := 109) (c3 := 112) (by decide)
  have w1 := e_word (s := s) hM F9 F10 F11 hk hbe hen (c0 := 115) (c1 := 107) (c2 := 105) (c3 := 112) (by decide)
  have w2 := e_word (s := s) hM F9 F10 F11 hk hbe hen (c0 := 113) (c1 := 117) (c2 := 105) (c3 := 116) (by decide)
  have w3 := e_word (s := s) hM F9 F10 F11 hk hbe hen (c0 := 100) (c1 := 114) (c2 := 97) (c3 := 119) (by decide)
  unfold f_Model_key
  rw [mS_k hM, Bool.and_true, show (99 : Int32) = nI 99 from rfl, show (97 : Int32) = nI 97 from rfl, show (109 : Int32) = nI 109 from rfl, show (112 : Int32) = nI 112 from rfl, show (115 : Int32) = nI 115 from rfl, show (107 : Int32) = nI 107 from rfl, show (105 : Int32) = nI 105 from rfl, show (113 : Int32) = nI 113 from rfl, show (117 : Int32) = nI 117 from rfl, show (116 : Int32) = nI 116 from rfl, show (100 : Int32) = nI 100 from rfl, show (114 : Int32) = nI 114 from rfl, show (119 : Int32) = nI 119 from rfl, w0, bd_]
  dsimp only
  by_cases c0 : kwW g b e k 0
  · rw [if_pos (show k = 1 ∧ e - b = 4 ∧ g b = 99 ∧ g (b + 1) = 97 ∧ g (b + 2) = 109 ∧ g (b + 3) = 112 from c0), if_neg (by decide), if_pos c0]
  · rw [if_neg (show ¬ (k = 1 ∧ e - b = 4 ∧ g b = 99 ∧ g (b + 1) = 97 ∧ g (b + 2) = 109 ∧ g (b + 3) = 112) from c0), if_pos rfl, if_neg c0, mS_k hM, Bool.and_true, w1, bd_]
    dsimp only
    by_cases c1 : kwW g b e k 1
    · rw [if_pos (show k = 1 ∧ e - b = 4 ∧ g b = 115 ∧ g (b + 1) = 107 ∧ g (b + 2) = 105 ∧ g (b + 3) = 112 from c1), if_neg (by decide), if_pos c1]
    · rw [if_neg (show ¬ (k = 1 ∧ e - b = 4 ∧ g b = 115 ∧ g (b + 1) = 107 ∧ g (b + 2) = 105 ∧ g (b + 3) = 112) from c1), if_pos rfl, if_neg c1, mS_k hM, Bool.and_true, w2, bd_]
      dsimp only
      by_cases c2 : kwW g b e k 2
      · rw [if_pos (show k = 1 ∧ e - b = 4 ∧ g b = 113 ∧ g (b + 1) = 117 ∧ g (b + 2) = 105 ∧ g (b + 3) = 116 from c2), if_neg (by decide), if_pos c2]
      · rw [if_neg (show ¬ (k = 1 ∧ e - b = 4 ∧ g b = 113 ∧ g (b + 1) = 117 ∧ g (b + 2) = 105 ∧ g (b + 3) = 116) from c2), if_pos rfl, if_neg c2, mS_k hM, Bool.and_true, w3, bd_]
        dsimp only
        by_cases c3 : kwW g b e k 3
        · rw [if_pos (show k = 1 ∧ e - b = 4 ∧ g b = 100 ∧ g (b + 1) = 114 ∧ g (b + 2) = 97 ∧ g (b + 3) = 119 from c3), if_neg (by decide), if_pos c3]
        · rw [if_neg (show ¬ (k = 1 ∧ e - b = 4 ∧ g b = 100 ∧ g (b + 1) = 114 ∧ g (b + 2) = 97 ∧ g (b + 3) = 119) from c3), if_pos rfl, if_neg c3]
end TX6
