/-! texts: the reference's next word; both together -/
section TX4
variable {α : Type} {h Y n : Nat} {g : Nat → Nat} {σ ρ : Sto} {f t F s : Nat → Int32}
def NxM (g : Nat → Nat) (b e k : Nat) (F F' : Nat → Int32) : Prop := F' 9 = nI b ∧ F' 10 = nI e ∧ F' 11 = nI k ∧ (k = 3 → F' 13 = nI (g b)) ∧ (k = 1 → F' 13 = if e - b = 1 then nI (g b) else 0) ∧ (k = 2 → F' 12 = nv g 0 b (e - b)) ∧ ∀ j, j ≤ 8 ∨ 14 ≤ j → F' j = F j
theorem up1_id {β : Type} {u : Nat → β} {a : Nat} {v : β} (e : u a = v) : up1 u a v = u := by
  funext x
  unfold up1
  by_cases q : x = a
  · rw [if_pos q, q, e]
  · rw [if_neg q]
theorem e_nxJ (hM : TM Y n g ρ) (F8 : F 8 = nI n) {b : Nat} (F10 : F 10 = nI b) (hb : b ≤ n) (x3 : Int32) : ∃ F', nxJ Y x3 true (mS ρ Y F s) = ((), true, mS ρ Y F' s) ∧ NxM g b (tkE g n b) (tkK g n b (x3 ≠ 0)) F F' := by
  have hn := hM.2.1
  unfold nxJ
  rw [lt_, lt_, mS_f, F10, mS_p]
  generalize hF4 : up1 F 9 (nI b) = F4
  have v8 : F4 8 = nI n := by rw [← hF4, up1_ne' (by decide), F8]
  have v9 : F4 9 = nI b := by rw [← hF4, up1_s]
  have v10 : F4 10 = nI b := by rw [← hF4, up1_ne' (by decide), F10]
  have vj : ∀ j, j ≤ 8 ∨ 14 ≤ j → F4 j = F j := fun j hj => by rw [← hF4, up1_ne' (by omega)]
  rw [mS_f, v8, v9, mS_k hM, mS_k hM]
  simp only [Bool.and_true]
  by_cases hlt : b < n
  · obtain ⟨b1, b2⟩ := hM.2.2 b hlt
    rw [if_neg (fun z => absurd ((nI_eq (by omega) (by omega)).mp z) (by omega)), e_letM hM v8 hb, bd_]
    dsimp only
    by_cases cL : isLN (g b) = true
    · have eE : tkE g n b = ru (fun i => isLN (g i)) b (n - b) := by
        unfold tkE
        rw [if_neg (by omega), if_pos cL]
      rw [if_pos (show b < n ∧ isLN (g b) = true from ⟨hlt, cL⟩), if_neg (show ¬ (1 : Int32) = 0 by decide)]
      have := M_let (s := s) hM v8 v9 hlt x3 (n - b) b fuel_ (by omega) (Nat.le_refl _) (by show n - b < 70000; omega)
      rw [up1_id v10, ← eE] at this
      refine ⟨_, this, ?_, ?_, ?_, ?_, ?_, ?_, fun j hj => ?_⟩
      · rw [up1_ne' (by decide), up1_ne' (by decide), up1_ne' (by decide)]; exact v9
      · rw [up1_ne' (by decide), up1_ne' (by decide), up1_s]
      · rw [up1_ne' (by decide), up1_s]
        unfold tkK
        rw [if_neg (show ¬ n ≤ b by omega), if_pos cL]
        by_cases x0 : x3 = 0
        · rw [if_pos x0, if_neg (fun z => z x0)]; rfl
        · rw [if_neg x0, if_pos x0]; rfl
      · intro z
        unfold tkK at z
        rw [if_neg (by omega), if_pos cL] at z
        split at z <;> cases z
      · intro _
        rw [up1_s]
      · intro z
        unfold tkK at z
        rw [if_neg (by omega), if_pos cL] at z
        split at z <;> cases z
      · rw [up1_ne' (by omega), up1_ne' (by omega), up1_ne' (by omega)]; exact vj j hj
    · rw [if_neg (show ¬ (b < n ∧ isLN (g b) = true) from fun z => cL z.2), if_pos (show (0 : Int32) = 0 from rfl), mS_f, v9, mS_k hM]
      simp only [Bool.and_true]
      rw [e_digM hM v8 hb, bd_]
      dsimp only
      by_cases cD : isDN (g b) = true
      · have eE : tkE g n b = ru (fun i => isDN (g i)) b (n - b) := by
          unfold tkE
          rw [if_neg (by omega), if_neg cL, if_pos cD]
        have eK : tkK g n b (x3 ≠ 0) = if x3 ≠ 0 ∨ 4 < tkE g n b - b then 4 else 2 := by
          unfold tkK
          rw [if_neg (by omega), if_neg cL, if_pos cD]
        rw [if_pos (show b < n ∧ isDN (g b) = true from ⟨hlt, cD⟩), if_neg (show ¬ (1 : Int32) = 0 by decide), lt_, mS_p, mS_k hM, Bool.and_true]
        obtain ⟨x', k1, k2⟩ := M_dig (s := s) hM (F := F4) v8 v9 x3 (n - b) b 0 fuel_ (by omega) (Nat.le_refl _) (by show n - b < 70000; omega)
        rw [up1_id (show up1 F4 12 0 10 = nI b by rw [up1_ne' (by decide)]; exact v10), ← eE] at k1
        rw [← eE] at k2
        refine ⟨_, k1, ?_, ?_, ?_, ?_, ?_, ?_, fun j hj => ?_⟩
        · rw [up1_ne' (by decide), up1_ne' (by decide), up1_ne' (by decide)]; exact v9
        · rw [up1_ne' (by decide), up1_s]
        · rw [up1_s, eK]
          split <;> rfl
        · intro z
          rw [eK] at z
          split at z <;> cases z
        · intro z
          rw [eK] at z
          split at z <;> cases z
        · intro z
          rw [eK] at z
          by_cases c4 : x3 ≠ 0 ∨ 4 < tkE g n b - b
          · rw [if_pos c4] at z
            cases z
          · rw [up1_ne' (by decide), up1_ne' (by decide), up1_s]
            exact k2 (by
              have : ¬ 4 < tkE g n b - b := fun y => c4 (Or.inr y)
              omega)
        · rw [up1_ne' (by omega), up1_ne' (by omega), up1_ne' (by omega)]; exact vj j hj
      · have eE : tkE g n b = b + 1 := by
          unfold tkE
          rw [if_neg (by omega), if_neg cL, if_neg cD]
        have eK : tkK g n b (x3 ≠ 0) = 3 := by
          unfold tkK
          rw [if_neg (by omega), if_neg cL, if_neg cD]
        rw [if_neg (show ¬ (b < n ∧ isDN (g b) = true) from fun z => cD z.2), if_pos (show (0 : Int32) = 0 from rfl), lt_, mS_p, lt_, mS_f, up1_ne' (show 9 ≠ 11 by decide), v9, mS_7 hM, ix_nI (show b < 2 ^ 31 by omega), mS_b, b1, mS_p, lt_, mS_f, up1_ne' (show 10 ≠ 13 by decide), up1_ne' (show 10 ≠ 11 by decide), v10, mS_p, mS_k hM, mS_k hM, mS_k hM, mS_a hM (show b < 96 by omega), eE, eK]
        refine ⟨_, rfl, ?_, ?_, ?_, fun _ => ?_, fun z => absurd z (by decide), fun z => absurd z (by decide), fun j hj => ?_⟩
        · rw [up1_ne' (by decide), up1_ne' (by decide), up1_ne' (by decide)]; exact v9
        · rw [up1_s, nI_1]
        · rw [up1_ne' (by decide), up1_ne' (by decide), up1_s]; rfl
        · rw [up1_ne' (by decide), up1_s]
        · rw [up1_ne' (by omega), up1_ne' (by omega), up1_ne' (by omega)]; exact vj j hj
  · have hbn : b = n := by omega
    have eE : tkE g n b = b := by
      unfold tkE
      rw [if_pos (by omega)]
    have eK : tkK g n b (x3 ≠ 0) = 0 := by
      unfold tkK
      rw [if_pos (by omega)]
    rw [if_pos (show nI b = nI n by rw [hbn]), lt_, mS_p, eE, eK]
    refine ⟨_, rfl, ?_, ?_, ?_, fun z => absurd z (by decide), fun z => absurd z (by decide), fun z => absurd z (by decide), fun j hj => ?_⟩
    · rw [up1_ne' (by decide)]; exact v9
    · rw [up1_ne' (by decide)]; exact v10
    · rw [up1_s]; rfl
    · rw [up1_ne' (by omega)]; exact vj j hj
theorem tkK_c {b : Nat} {p q : Prop} [Decidable p] [Decidable q] (hpq : p ↔ q) : tkK g n b p = tkK g n b q := by
  unfold tkK
  simp only [hpq]
theorem e_nxC (hM : TM Y n g ρ) (F8 : F 8 = nI n) {b e : Nat} (F10 : F 10 = nI b) (hb : b ≤ n) (he : e ≤ n) (x1 : Int32) : ∃ F', nxC Y x1 (nI e) true (mS ρ Y F s) = ((), true, mS ρ Y F' s) ∧ NxM g b (tkE g n b) (tkK g n b (x1 ≠ 0 ∧ b = e)) F F' := by
  have hn := hM.2.1
  unfold nxC
  rw [lt_, lt_, mS_f, F10, mS_k hM]
  simp only [Bool.and_true]
  by_cases c1 : x1 = 0
  · rw [if_pos c1]
    obtain ⟨F', k1, k2⟩ := e_nxJ (s := s) hM F8 F10 hb 0
    rw [tkK_c (g := g) (n := n) (b := b) (p := (0 : Int32) ≠ 0) (q := x1 ≠ 0 ∧ b = e) ⟨fun z => absurd rfl z, fun z => absurd c1 z.1⟩] at k2
    exact ⟨F', k1, k2⟩
  · rw [if_neg c1]
    by_cases c2 : b = e
    · rw [if_pos (show nI e = nI b by rw [c2])]
      obtain ⟨F', k1, k2⟩ := e_nxJ (s := s) hM F8 F10 hb 1
      rw [tkK_c (g := g) (n := n) (b := b) (p := (1 : Int32) ≠ 0) (q := x1 ≠ 0 ∧ b = e) ⟨fun _ => ⟨c1, c2⟩, fun _ => by decide⟩] at k2
      exact ⟨F', k1, k2⟩
    · rw [if_neg (fun z => c2 ((nI_eq (by omega) (by omega)).mp z).symm)]
      obtain ⟨F', k1, k2⟩ := e_nxJ (s := s) hM F8 F10 hb 0
      rw [tkK_c (g := g) (n := n) (b := b) (p := (0 : Int32) ≠ 0) (q := x1 ≠ 0 ∧ b = e) ⟨fun z => absurd rfl z, fun z => absurd z.2 c2⟩] at k2
      exact ⟨F', k1, k2⟩
theorem M_sp (hM : TM Y n g ρ) (F8 : F 8 = nI n) (x1 x2 : Int32) : ∀ d i fu, i + d = n → d < fu → lp_ (b_Model_next_34 Y x1 x2) (fun (b : Bool) (σ : Sto) => ((), false, σ)) fu true (mS ρ Y (up1 F 10 (nI i)) s) = nxC Y x1 x2 true (mS ρ Y (up1 F 10 (nI (ru (fun i => decide (g i = 32)) i d))) s) := by
  have hn := hM.2.1
  intro d
  induction d with
  | zero =>
    intro i fu hi hf
    obtain ⟨fu, rfl⟩ : ∃ z, fu = z + 1 := ⟨fu - 1, by omega⟩
    rw [lp_S]
    unfold b_Model_next_34
    rw [lt_, mS_f, up1_s, up1_ne' (show 8 ≠ 10 by decide), F8, if_neg (nI_nlt (by omega) (by omega)), mS_k hM]
    rfl
  | succ d ih =>
    intro i fu hi hf
    obtain ⟨fu, rfl⟩ : ∃ z, fu = z + 1 := ⟨fu - 1, by omega⟩
    obtain ⟨b1, b2⟩ := hM.2.2 i (by omega)
    rw [lp_S]
    unfold b_Model_next_34
    rw [lt_, mS_f, up1_s, up1_ne' (show 8 ≠ 10 by decide), F8, if_pos (nI_lt (by omega) (by omega)), mS_7 hM, ix_nI (show i < 2 ^ 31 by omega), mS_b, b1, mS_k hM, mS_a hM (show i < 96 by omega)]
    unfold ru
    by_cases c : g i = 32
    · rw [if_pos (show nI (g i) = 32 by rw [c]; rfl), lt_, mS_p, up1_2, nI_1, if_pos (show decide (g i = 32) = true from decide_eq_true c)]
      exact ih (i + 1) fu (by omega) (by omega)
    · rw [if_neg (show ¬ nI (g i) = 32 from fun z => c ((nI_eq (b := 32) (by omega) (by decide)).mp z)), if_neg (show ¬ decide (g i = 32) = true by rw [decide_eq_false c]; decide)]
      rfl
theorem e_nextM (hM : TM Y n g ρ) (F8 : F 8 = nI n) {e : Nat} (F10 : F 10 = nI e) (he : e ≤ n) (h0 : F 11 = 1 ∨ F 11 = 2 → 0 < e) : ∃ F', f_Model_next Y true (mS ρ Y F s) = ((), true, mS ρ Y F' s) ∧ NxM g (tkB g n e) (tkE g n (tkB g n e)) (tkK g n (tkB g n e) ((F 11 = 1 ∨ F 11 = 2) ∧ tkB g n e = e)) F F' := by
  have hn := hM.2.1
  have hB := ru_le (c := fun i => decide (g i = 32)) (d := n - e) (i := e)
  have hB' : tkB g n e ≤ n := by unfold tkB; omega
  have go : ∀ x1 : Int32, (x1 ≠ 0 ↔ (F 11 = 1 ∨ F 11 = 2)) → ∃ F', lp_ (b_Model_next_34 Y x1 (nI e)) (fun (b : Bool) (σ : Sto) => ((), false, σ)) fuel_ true (mS ρ Y F s) = ((), true, mS ρ Y F' s) ∧ NxM g (tkB g n e) (tkE g n (tkB g n e)) (tkK g n (tkB g n e) ((F 11 = 1 ∨ F 11 = 2) ∧ tkB g n e = e)) F F' := fun x1 hx => by
    have l := M_sp (s := s) hM F8 x1 (nI e) (n - e) e fuel_ (by omega) (by show n - e < 70000; omega)
    rw [up1_id F10] at l
    rw [l]
    obtain ⟨F', e1, e2⟩ := e_nxC (s := s) hM (F := up1 F 10 (nI (tkB g n e))) (by rw [up1_ne' (by decide)]; exact F8) (b := tkB g n e) (e := e) up1_s hB' he x1
    refine ⟨F', e1, ?_⟩
    rw [tkK_c (p := x1 ≠ 0 ∧ tkB g n e = e) (q := (F 11 = 1 ∨ F 11 = 2) ∧ tkB g n e = e) (by rw [hx])] at e2
    obtain ⟨q1, q2, q3, q4, q5, q6, q7⟩ := e2
    exact ⟨q1, q2, q3, q4, q5, q6, fun j hj => by rw [q7 j hj, up1_ne' (by omega)]⟩
  unfold f_Model_next
  rw [lt_, lt_, mS_f, F10]
  by_cases c0 : 0 < e
  · rw [if_pos (show (0 : Int32) < nI e from nI_lt (a := 0) c0 (by omega))]
    by_cases c1 : F 11 = 1
    · simp only [lt_]
      rw [if_pos c1, mS_k hM, mS_f, F10]
      exact go 1 ⟨fun _ => Or.inl c1, fun _ => by decide⟩
    · by_cases c2 : F 11 = 2
      · simp only [lt_]
        rw [if_neg c1, if_pos c2, mS_k hM, mS_f, F10]
        exact go 1 ⟨fun _ => Or.inr c2, fun _ => by decide⟩
      · simp only [lt_]
        rw [if_neg c1, if_neg c2, mS_k hM, mS_f, F10]
        exact go 0 ⟨fun z => absurd rfl z, fun z => z.elim (fun y => absurd y c1) (fun y => absurd y c2)⟩
  · rw [if_neg (show ¬ (0 : Int32) < nI e from nI_nlt (b := e) (a := 0) (by omega) (by decide) |> fun z y => absurd y (by rw [show e = 0 by omega]; decide))]
    simp only [lt_]
    rw [mS_k hM, mS_f, F10]
    exact go 0 ⟨fun z => absurd rfl z, fun z => absurd (h0 z) c0⟩
/-- the two sides look at the same word -/
def Tok (g : Nat → Nat) (n b e k : Nat) (f F : Nat → Int32) : Prop := (f 1 = nI n ∧ F 8 = nI n) ∧ (f 2 = nI b ∧ f 3 = nI e ∧ f 4 = cdK k ∧ f 5 = (if k = 3 then byt (g b) else 0)) ∧ (F 9 = nI b ∧ F 10 = nI e ∧ F 11 = nI k) ∧ (k = 3 → F 13 = nI (g b)) ∧ (k = 1 → F 13 = (if e - b = 1 then nI (g b) else 0) ∧ isLN (g b) = true) ∧ (k = 2 → ∃ v, v ≤ 9999 ∧ f 6 = nI v ∧ F 12 = nI v) ∧ k < 5 ∧ b ≤ e ∧ e ≤ n ∧ (k ≠ 0 → b < e)
theorem N_sim0 (hT : TC h n g σ) (hM : TM Y n g ρ) (f1 : f 1 = nI n) (F8 : F 8 = nI n) {e : Nat} (f3 : f 3 = nI e) (F10 : F 10 = nI e) (he : e ≤ n) (hw : (f 4 = 1 ∨ f 4 = 2) ↔ (F 11 = 1 ∨ F 11 = 2)) (h0 : F 11 = 1 ∨ F 11 = 2 → 0 < e) :
    ∃ f' F' b' e' k', f_Tape_nextWord h true (tS σ h f t) = ((), true, tS σ h f' t) ∧ f_Model_next Y true (mS ρ Y F s) = ((), true, mS ρ Y F' s) ∧ Tok g n b' e' k' f' F' ∧ e ≤ b' ∧ (∀ j, 7 ≤ j → f' j = f j) ∧ ∀ j, j ≤ 8 ∨ 14 ≤ j → F' j = F j := by
  have hn := hM.2.1
  have hB := ru_le (c := fun i => decide (g i = 32)) (d := n - e) (i := e)
  have hB' : tkB g n e ≤ n ∧ e ≤ tkB g n e := by unfold tkB; omega
  obtain ⟨f', c1, c2, c3, c4, c5, c6, c7⟩ := e_nextC (t := t) hT f1 f3 he
  obtain ⟨F', m1, m2, m3, m4, m5, m6, m7, m8⟩ := e_nextM (s := s) hM F8 F10 he h0
  rw [tkK_c (p := (f 4 = 1 ∨ f 4 = 2) ∧ tkB g n e = e) (q := (F 11 = 1 ∨ F 11 = 2) ∧ tkB g n e = e) (by rw [hw])] at c4 c5 c6
  generalize tkB g n e = b at *
  have hE : b ≤ tkE g n b ∧ tkE g n b ≤ n ∧ (b < n → b < tkE g n b) := by
    have l1 := ru_le (c := fun i => isLN (g i)) (d := n - b) (i := b)
    have l2 := ru_le (c := fun i => isDN (g i)) (d := n - b) (i := b)
    unfold tkE
    by_cases q0 : n ≤ b
    · rw [if_pos q0]
      omega
    · rw [if_neg q0]
      by_cases q1 : isLN (g b) = true
      · rw [if_pos q1]
        have := ru_1 (c := fun i => isLN (g i)) (i := b) q1 (show 0 < n - b by omega)
        omega
      · rw [if_neg q1]
        by_cases q2 : isDN (g b) = true
        · rw [if_pos q2]
          have := ru_1 (c := fun i => isDN (g i)) (i := b) q2 (show 0 < n - b by omega)
          omega
        · rw [if_neg q2]
          omega
  have hK0 : ∀ p : Prop, ∀ _ : Decidable p, tkK g n b p < 5 ∧ (tkK g n b p ≠ 0 → b < n) ∧ (tkK g n b p = 1 → isLN (g b) = true) ∧ (tkK g n b p = 2 → tkE g n b - b ≤ 4 ∧ ∀ j, b ≤ j → j < tkE g n b → isDN (g j) = true) := fun p _ => by
    unfold tkK
    by_cases q0 : n ≤ b
    · rw [if_pos q0]
      exact ⟨by decide, fun z => absurd rfl z, fun z => absurd z (by decide), fun z => absurd z (by decide)⟩
    · rw [if_neg q0]
      by_cases q1 : isLN (g b) = true
      · rw [if_pos q1]
        exact ⟨by split <;> decide, fun _ => by omega, fun _ => q1, fun z => by split at z <;> cases z⟩
      · rw [if_neg q1]
        by_cases q2 : isDN (g b) = true
        · rw [if_pos q2]
          refine ⟨by split <;> decide, fun _ => by omega, fun z => (by split at z <;> cases z), fun z => ?_⟩
          have eE : tkE g n b = ru (fun i => isDN (g i)) b (n - b) := by
            unfold tkE
            rw [if_neg q0, if_neg q1, if_pos q2]
          by_cases c4 : p ∨ 4 < tkE g n b - b
          · rw [if_pos c4] at z
            cases z
          · refine ⟨?_, fun j j1 j2 => ?_⟩
            · have : ¬ 4 < tkE g n b - b := fun y => c4 (Or.inr y)
              omega
            · rw [eE] at j2
              exact ru_in (c := fun i => isDN (g i)) j1 j2
        · rw [if_neg q2]
          exact ⟨by decide, fun _ => by omega, fun z => absurd z (by decide), fun z => absurd z (by decide)⟩
  obtain ⟨k5, k6, k7, k8⟩ := hK0 ((F 11 = 1 ∨ F 11 = 2) ∧ b = e) inferInstance
  generalize tkK g n b ((F 11 = 1 ∨ F 11 = 2) ∧ b = e) = k at *
  refine ⟨f', F', b, tkE g n b, k, c1, m1, ⟨⟨by rw [c7 1 (Or.inl rfl), f1], by rw [m8 8 (by omega), F8]⟩, ⟨c2, c3, c4, c5⟩, ⟨m2, m3, m4⟩, m5, fun z => ⟨m6 z, k7 z⟩, fun z => ?_, k5, hE.1, hE.2.1, fun z => hE.2.2 (k6 z)⟩, hB'.2, fun j hj => c7 j (Or.inr hj), m8⟩
  obtain ⟨d1, d2⟩ := k8 z
  obtain ⟨v, v1, v2⟩ := nv_bd (g := g) (fun j => by cases isDN (g j) <;> simp) (tkE g n b - b) b 0 (fun j j1 j2 => d2 j j1 (by omega))
  have pw : 10 ^ (tkE g n b - b) ≤ 10 ^ 4 := Nat.pow_le_pow_right (by decide) d1
  refine ⟨v, ?_, (c6 z).trans v2, (m7 z).trans v2⟩
  rw [Nat.zero_add, Nat.one_mul] at v1
  have : (10 : Nat) ^ 4 = 10000 := by decide
  omega
theorem N_sim (hT : TC h n g σ) (hM : TM Y n g ρ) {b e k : Nat} (hk : Tok g n b e k f F) : ∃ f' F' b' e' k', f_Tape_nextWord h true (tS σ h f t) = ((), true, tS σ h f' t) ∧ f_Model_next Y true (mS ρ Y F s) = ((), true, mS ρ Y F' s) ∧ Tok g n b' e' k' f' F' ∧ e ≤ b' ∧ (∀ j, 7 ≤ j → f' j = f j) ∧ ∀ j, j ≤ 8 ∨ 14 ≤ j → F' j = F j := by
  obtain ⟨⟨a1, a2⟩, ⟨a3, a4, a5, a6⟩, ⟨a7, a8, a9⟩, a10, a11, a12, a13, a14, a15, a16⟩ := hk
  have e1 : ∀ k, k < 5 → (nI k = 1 ↔ k = 1) ∧ (nI k = 2 ↔ k = 2) := by decide
  refine N_sim0 hT hM a1 a2 a4 a8 a15 ?_ ?_
  · rw [a5, a9, cdK_1 k a13, cdK_2 k a13, (e1 k a13).1, (e1 k a13).2]
  · rw [a9, (e1 k a13).1, (e1 k a13).2]
    intro z
    have := a16 (by omega)
    omega
end TX4
