/-! texts: faults, steps, levels, names, keys -/
section TX5
variable {α : Type} {h Y n : Nat} {g : Nat → Nat} {σ ρ : Sto} {f t F s : Nat → Int32}
theorem e_note (hT : TC h n g σ) : f_Tape_noteFault h true (tS σ h f t) = ((), true, tS σ h (if f 11 < 0 then up1 f 11 (f 2) else f) t) := by
  unfold f_Tape_noteFault
  rw [tS_f, tS_k hT]
  by_cases c : f 11 < 0
  · rw [if_pos c, if_pos c, lt_, tS_p]
    rfl
  · rw [if_neg c, if_neg c]
    rfl
theorem e_addStep (hT : TC h n g σ) {m : Nat} (hm : m ≤ 96) (f9 : f 9 = nI m) (v : Int32) : f_Tape_addStep h v true (tS σ h f t) = ((), true, if m < 96 then tS σ h (up1 f 9 (nI (m + 1))) (up1 t m v) else tS σ h f t) := by
  unfold f_Tape_addStep
  rw [tS_8 hT, tS_l hT, tS_f, f9, show Int32.ofNat 96 = nI 96 from rfl]
  by_cases c : m < 96
  · rw [if_pos (nI_lt c (by decide)), if_pos c, ix_nI (show m < 2 ^ 31 by omega), tS_k hT, tS_k2 hT, tS_a2 hT c, lt_, tS_q, lt_, tS_f, f9, tS_p, nI_1, tS_k hT]
    rfl
  · rw [if_neg (nI_nlt (by omega) (by omega)), if_neg c, tS_k hT, tS_k2 hT]
    rfl
/-- the level of a sign -/
def lvI (v : Int32) : Int32 := if v = 38 then 1 else if v = 42 then 4 else if v = 43 then 3 else if v = 45 then 3 else if v = 47 then 4 else if v = 60 then 2 else if v = 61 then 2 else if v = 62 then 2 else if v = 124 then 0 else -1
theorem e_levelOf (v : Int32) (b : Bool) (τ : Sto) : f_Tape_levelOf v b τ = (lvI v, b, τ) := by
  unfold f_Tape_levelOf lvI
  by_cases c1 : v = 38
  · rw [if_pos c1, if_pos c1]
  rw [if_neg c1, if_neg c1]
  by_cases c2 : v = 42
  · rw [if_pos c2, if_pos c2]
  rw [if_neg c2, if_neg c2]
  by_cases c3 : v = 43
  · rw [if_pos c3, if_pos c3]
  rw [if_neg c3, if_neg c3]
  by_cases c4 : v = 45
  · rw [if_pos c4, if_pos c4]
  rw [if_neg c4, if_neg c4]
  by_cases c5 : v = 47
  · rw [if_pos c5, if_pos c5]
  rw [if_neg c5, if_neg c5]
  by_cases c6 : v = 60
  · rw [if_pos c6, if_pos c6]
  rw [if_neg c6, if_neg c6]
  by_cases c7 : v = 61
  · rw [if_pos c7, if_pos c7]
  rw [if_neg c7, if_neg c7]
  by_cases c8 : v = 62
  · rw [if_pos c8, if_pos c8]
  rw [if_neg c8, if_neg c8]
  by_cases c9 : v = 124
  · rw [if_pos c9, if_pos c9]
  rw [if_neg c9, if_neg c9]
def lvN (c : Nat) : Nat := if c = 38 then 1 else if c = 42 then 4 else if c = 43 then 3 else if c = 45 then 3 else if c = 47 then 4 else if c = 60 then 2 else if c = 61 then 2 else if c = 62 then 2 else if c = 124 then 0 else 9
/-- the level of the word that is looked at; 9: none -/
def slv (k c : Nat) : Nat := if k = 3 then lvN c else 9
theorem lv_byt : ∀ c, c < 256 → ∀ l, l < 5 → (lvI (byt c) = nI l ↔ lvN c = l) := by decide +kernel
theorem lv_0 : ∀ l, l < 5 → ¬ lvI 0 = nI l := by decide
theorem lv_v : ∀ c, c < 256 → lvN c < 5 → byt c = nI c ∧ (nI c = 33 ∨ nI c = 38 ∨ nI c = 42 ∨ nI c = 43 ∨ nI c = 45 ∨ nI c = 47 ∨ nI c = 60 ∨ nI c = 61 ∨ nI c = 62 ∨ nI c = 124) ∧ nI c ≠ 33 := by decide +kernel
/-- a sign of the reference -/
theorem e_isSign (hM : TM Y n g ρ) (v : Int32) : f_Model_isSign Y v true (mS ρ Y F s) = (if F 11 = 3 ∧ F 13 = v then 1 else 0, true, mS ρ Y F s) := by
  unfold f_Model_isSign
  rw [lt_, mS_f, mS_k hM]
  by_cases c1 : F 11 = 3
  · rw [if_pos c1]
    by_cases c2 : F 13 = v
    · rw [if_pos c2, if_pos ⟨c1, c2⟩]
      rfl
    · rw [if_neg c2, if_neg (fun z => c2 z.2)]
      rfl
  · rw [if_neg c1, if_neg (fun z => c1 z.1)]
    rfl
theorem sg_iff {b e k : Nat} (hk : Tok g n b e k f F) (hg : ∀ j, j < n → g j < 256) {c : Nat} (hc : c < 256) : (F 11 = 3 ∧ F 13 = nI c) ↔ (k = 3 ∧ g b = c) := by
  obtain ⟨-, -, ⟨-, -, a9⟩, a10, -, -, a13, a14, a15, a16⟩ := hk
  have e1 : ∀ k, k < 5 → (nI k = 3 ↔ k = 3) := by decide
  rw [a9, e1 k a13]
  refine ⟨fun z => ⟨z.1, ?_⟩, fun z => ⟨z.1, ?_⟩⟩
  · have := a16 (by omega)
    rw [a10 z.1] at z
    exact (nI_eq (by have := hg b (by omega); omega) (by omega)).mp z.2
  · rw [a10 z.1, z.2]
/-- a step of the reference -/
theorem e_step (hM : TM Y n g ρ) {m A : Nat} (hA : A + 2 * m + 1 < 3210) (F16 : F 16 = nI m) (F17 : F 17 = nI A) (x v : Int32) : f_Model_step Y x v true (mS ρ Y F s) = ((), true, mS ρ Y (up1 F 16 (nI (m + 1))) (up1 (up1 s (A + 2 * m) x) (A + 2 * m + 1) v)) := by
  have e0 : nI A + 2 * nI m = nI (A + 2 * m) := by
    show nI A + nI 2 * nI m = _
    rw [nI_mul, nI_add]
  unfold f_Model_step
  rw [mS_f, F16, F17, e0, mS_0 hM, ix_nI (show A + 2 * m < 2 ^ 31 by omega), mS_q, lt_, mS_f, F16, F17, e0, nI_1, mS_0 hM, ix_nI (show A + 2 * m + 1 < 2 ^ 31 by omega), mS_q, lt_, mS_f, F16, mS_p, lt_, nI_1, mS_k hM, mS_k hM, mS_k hM, mS_a1 hM (show A + 2 * m < 3210 by omega), mS_a1 hM (show A + 2 * m + 1 < 3210 by omega)]
  rfl
/-- the String constants -/
def SS (σ : Sto) : Prop := (∀ i, i ≤ 10 → Scs σ i ≠ 0) ∧ DS (Scs σ)
theorem sidx_q (hS : SS σ) : ∀ q, q < 5 → sidx σ (Scs σ (1 + q)) = q := fun q hq => by
  have d : ∀ i j, 1 ≤ i → i ≤ 5 → 1 ≤ j → j ≤ 5 → i ≠ j → ¬ Scs σ i = Scs σ j := fun i j h1 h2 h3 h4 h5 h6 => h5 (hS.2.1 i j h1 h2 h3 h4 h6)
  unfold sidx
  rcases (show q = 0 ∨ q = 1 ∨ q = 2 ∨ q = 3 ∨ q = 4 by omega) with rfl | rfl | rfl | rfl | rfl
  · rw [if_pos rfl]
  · rw [if_neg (d 2 1 (by omega) (by omega) (by omega) (by omega) (by omega)), if_pos rfl]
  · rw [if_neg (d 3 1 (by omega) (by omega) (by omega) (by omega) (by omega)), if_neg (d 3 2 (by omega) (by omega) (by omega) (by omega) (by omega)), if_pos rfl]
  · rw [if_neg (d 4 1 (by omega) (by omega) (by omega) (by omega) (by omega)), if_neg (d 4 2 (by omega) (by omega) (by omega) (by omega) (by omega)), if_neg (d 4 3 (by omega) (by omega) (by omega) (by omega) (by omega)), if_pos rfl]
  · rw [if_neg (d 5 1 (by omega) (by omega) (by omega) (by omega) (by omega)), if_neg (d 5 2 (by omega) (by omega) (by omega) (by omega) (by omega)), if_neg (d 5 3 (by omega) (by omega) (by omega) (by omega) (by omega)), if_neg (d 5 4 (by omega) (by omega) (by omega) (by omega) (by omega)), if_pos rfl]
theorem vidx_q (hS : SS σ) : ∀ q, q < 5 → vidx σ (Scs σ (6 + q)) = q := fun q hq => by
  have d : ∀ i j, 6 ≤ i → i ≤ 10 → 6 ≤ j → j ≤ 10 → i ≠ j → ¬ Scs σ i = Scs σ j := fun i j h1 h2 h3 h4 h5 h6 => h5 (hS.2.2 i j h1 h2 h3 h4 h6)
  unfold vidx
  rcases (show q = 0 ∨ q = 1 ∨ q = 2 ∨ q = 3 ∨ q = 4 by omega) with rfl | rfl | rfl | rfl | rfl
  · rw [if_pos rfl]
  · rw [if_neg (d 7 6 (by omega) (by omega) (by omega) (by omega) (by omega)), if_pos rfl]
  · rw [if_neg (d 8 6 (by omega) (by omega) (by omega) (by omega) (by omega)), if_neg (d 8 7 (by omega) (by omega) (by omega) (by omega) (by omega)), if_pos rfl]
  · rw [if_neg (d 9 6 (by omega) (by omega) (by omega) (by omega) (by omega)), if_neg (d 9 7 (by omega) (by omega) (by omega) (by omega) (by omega)), if_neg (d 9 8 (by omega) (by omega) (by omega) (by omega) (by omega)), if_pos rfl]
  · rw [if_neg (d 10 6 (by omega) (by omega) (by omega) (by omega) (by omega)), if_neg (d 10 7 (by omega) (by omega) (by omega) (by omega) (by omega)), if_neg (d 10 8 (by omega) (by omega) (by omega) (by omega) (by omega)), if_neg (d 10 9 (by omega) (by omega) (by omega) (by omega) (by omega)), if_pos rfl]
theorem sval_q (hS : SS σ) {q : Nat} (hq : q < 5) : sval σ (Scs σ (1 + q)) = Scs σ (6 + q) := by
  unfold sval
  rw [sidx_q hS q hq]
theorem sok_q (hS : SS σ) {q : Nat} (hq : q < 5) : sok σ (Scs σ (1 + q)) = true := by
  unfold sok
  rw [sval_q hS hq, sidx_q hS q hq, decide_eq_false (hS.1 (1 + q) (by omega)), decide_eq_false (hS.1 (6 + q) (by omega)), decide_eq_true hq]
  rfl
theorem sokv_q (hS : SS σ) {q : Nat} (hq : q < 5) : sokv σ (Scs σ (6 + q)) = true := by
  unfold sokv
  rw [vidx_q hS q hq, decide_eq_false (hS.1 (6 + q) (by omega)), decide_eq_true hq]
  rfl
theorem slen_q (hS : SS σ) {q : Nat} (hq : q < 5) : slen_ σ (Scs σ (6 + q)) = slen.getD q 0 := by
  unfold slen_
  rw [vidx_q hS q hq]
theorem sbyt_q (hS : SS σ) {q : Nat} (hq : q < 5) (j : Nat) : sbyt_ σ (Scs σ (6 + q)) j = (sbyt.getD q []).getD j 0 := by
  unfold sbyt_
  rw [vidx_q hS q hq]
theorem e_isLatin (hS : SS σ) {q : Nat} (hq : q < 5) : f_String_isLatin1 (Scs σ (1 + q)) true σ = (1, true, σ) := by
  unfold f_String_isLatin1
  rw [lt_, if_neg (by decide), if_pos rfl, sok_q hS hq]
  rfl
/-- a letter of a constant -/
theorem e_charAt (hS : SS σ) {q i : Nat} (hq : q < 5) (hi : i < slen.getD q 0) : f_String_charAt (Scs σ (1 + q)) (nI i) true σ = ((sbyt.getD q []).getD i 0, true, σ) := by
  have hl : ∀ q, q < 5 → slen.getD q 0 ≤ 16 := by decide
  have hl' := hl q hq
  have hc : ∀ q, q < 5 → ∀ i, i < 16 → (((((sbyt.getD q []).getD i 0) &&& 255).toUInt32 % 65536).toInt32 = (sbyt.getD q []).getD i 0) := by decide +kernel
  have hd : ∀ q, q < 5 → ∀ i, i < 16 → ((sbyt.getD q []).getD i 0) &&& 255 = (sbyt.getD q []).getD i 0 := by decide +kernel
  have hk : ∀ q, q < 5 → ∀ i, i < 16 → cok ((sbyt.getD q []).getD i 0) = true := fun q hq i hi => by
    have e := hd q hq i hi
    unfold cok
    rw [← e]
    exact decide_eq_true (sc_nar _)
  unfold f_String_charAt
  rw [sok_q hS hq]
  simp only [Bool.and_true]
  rw [e_isLatin hS hq, bd_]
  dsimp only
  rw [if_neg (by decide), sval_q hS hq, sok_q hS hq]
  unfold f_StringLatin1_charAt f_String_checkIndex f_Preconditions_checkIndex
  rw [slen_q hS hq, sokv_q hS hq, show Int32.ofNat (slen.getD q 0) = nI (slen.getD q 0) from rfl, if_neg (nI_pos (by omega)), if_pos (nI_lt hi (by omega))]
  simp only [bd_, Bool.and_true]
  rw [sbyt_q hS hq, ix_nI (show i < 2 ^ 31 by omega), hc q hq i (by omega), hk q hq i (by omega), sokv_q hS hq, slen_q hS hq, inb_of hi (by omega)]
  rfl
end TX5
