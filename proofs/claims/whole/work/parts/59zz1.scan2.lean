/-! texts: the class's next word -/
section TX2
variable {α : Type} {h n : Nat} {g : Nat → Nat} {σ : Sto} {f t : Nat → Int32}
def NxC (g : Nat → Nat) (b e k : Nat) (f f' : Nat → Int32) : Prop := f' 2 = nI b ∧ f' 3 = nI e ∧ f' 4 = cdK k ∧ f' 5 = (if k = 3 then byt (g b) else 0) ∧ (k = 2 → f' 6 = nv g 0 b (e - b)) ∧ ∀ j, j = 1 ∨ 7 ≤ j → f' j = f j
theorem cdK_1 : ∀ k, k < 5 → (cdK k = 1 ↔ k = 1) := by decide
theorem cdK_2 : ∀ k, k < 5 → (cdK k = 2 ↔ k = 2) := by decide
theorem cdK_5 : ∀ k, k < 5 → (cdK k = 5 ↔ k = 0) := by decide
/-- behind the last look at what stood ahead -/
theorem NxC_J {b e k : Nat} {F : Nat → Int32} (hk : k < 5) (hN : NxC g b e k f F) {x1 x2 : Int32} {k' : Nat} (hk' : k' = if (x1 ≠ 0 ∧ nI b = x2) ∧ (k = 1 ∨ k = 2) then 4 else k) : NxC g b e k' f (if (x1 ≠ 0 ∧ F 2 = x2) ∧ (F 4 = 1 ∨ F 4 = 2) then up1 F 4 4 else F) := by
  obtain ⟨h2, h3, h4, h5, h6, h7⟩ := hN
  simp only [h2, h4, cdK_1 k hk, cdK_2 k hk]
  by_cases c : (x1 ≠ 0 ∧ nI b = x2) ∧ (k = 1 ∨ k = 2)
  · rw [if_pos c] at hk' ⊢
    subst hk'
    refine ⟨?_, ?_, ?_, ?_, fun z => absurd z (by decide), fun j hj => ?_⟩
    · rw [up1_ne' (by decide)]; exact h2
    · rw [up1_ne' (by decide)]; exact h3
    · rw [up1_s]; rfl
    · rw [up1_ne' (by decide), h5, if_neg (by omega), if_neg (by decide)]
    · rw [up1_ne' (by omega)]; exact h7 j hj
  · rw [if_neg c] at hk' ⊢
    subst hk'
    exact ⟨h2, h3, h4, h5, h6, h7⟩
theorem e_nwC (hT : TC h n g σ) (f1 : f 1 = nI n) {b : Nat} (f2 : f 2 = nI b) (hb : b ≤ n) (x1 x2 : Int32) : ∃ f', nwC h x1 x2 true (tS σ h f t) = ((), true, tS σ h f' t) ∧ NxC g b (tkE g n b) (tkK g n b (x1 ≠ 0 ∧ nI b = x2)) f f' := by
  have hn := hT.2.2.2.1
  unfold nwC
  rw [lt_, tS_f, f2, tS_p, lt_, tS_p, lt_]
  generalize hf5 : up1 (up1 f 3 (nI b)) 5 0 = f5
  have v1 : f5 1 = nI n := by rw [← hf5, up1_ne' (by decide), up1_ne' (by decide), f1]
  have v2 : f5 2 = nI b := by rw [← hf5, up1_ne' (by decide), up1_ne' (by decide), f2]
  have v3 : f5 3 = nI b := by rw [← hf5, up1_ne' (by decide), up1_s]
  have v5 : f5 5 = 0 := by rw [← hf5, up1_s]
  have vj : ∀ j, j = 1 ∨ 7 ≤ j → f5 j = f j := fun j hj => by rw [← hf5, up1_ne' (by omega), up1_ne' (by omega)]
  rw [tS_f, v1, v2]
  by_cases hlt : b < n
  · obtain ⟨b1, b2⟩ := hT.2.2.2.2 b hlt
    rw [if_pos (nI_lt hlt (by omega)), tS_0 hT, ix_nI (show b < 2 ^ 31 by omega), tS_b, b1, e_letC b2, bd_]
    dsimp only
    by_cases cL : isLN (g b) = true
    · have eE : tkE g n b = ru (fun i => isLN (g i)) b (n - b) := by
        unfold tkE
        rw [if_neg (by omega), if_pos cL]
      rw [if_pos cL, if_neg (by decide)]
      simp only [tS_k hT, tS_a hT (show b < 96 by omega), Bool.and_true]
      rw [e_takeL hT v1 v3 hb, bd_]
      dsimp only
      refine ⟨_, e_nwJ hT x1 x2, NxC_J (k := 1) (by decide) ?_ ?_⟩
      · rw [eE]
        refine ⟨?_, ?_, ?_, ?_, fun z => absurd z (by decide), fun j hj => ?_⟩
        · rw [up1_ne' (by decide), up1_ne' (by decide)]; exact v2
        · rw [up1_s]
        · rw [up1_ne' (by decide), up1_s]; rfl
        · rw [up1_ne' (by decide), up1_ne' (by decide), v5, if_neg (by decide)]
        · rw [up1_ne' (by omega), up1_ne' (by omega)]; exact vj j hj
      · unfold tkK
        rw [if_neg (by omega), if_pos cL]
        by_cases ti : x1 ≠ 0 ∧ nI b = x2
        · rw [if_pos ti, if_pos ⟨ti, Or.inl rfl⟩]
        · rw [if_neg ti, if_neg (fun z => ti z.1)]
    · rw [if_neg cL, if_pos rfl, tS_f, v2, tS_0 hT, ix_nI (show b < 2 ^ 31 by omega), tS_b, b1, e_digC b2, bd_]
      dsimp only
      simp only [tS_k hT, tS_a hT (show b < 96 by omega), Bool.and_true]
      by_cases cD : isDN (g b) = true
      · have eE : tkE g n b = ru (fun i => isDN (g i)) b (n - b) := by
          unfold tkE
          rw [if_neg (by omega), if_neg cL, if_pos cD]
        rw [if_pos cD, if_neg (by decide)]
        rw [e_takeD hT v1 v2 v3 hb, bd_]
        dsimp only
        rw [← eE]
        refine ⟨_, e_nwJ hT x1 x2, NxC_J (k := if 4 < tkE g n b - b then 4 else 2) (by split <;> decide) ?_ ?_⟩
        · refine ⟨?_, ?_, ?_, ?_, fun z => ?_, fun j hj => ?_⟩
          · rw [up1_ne' (by decide), up1_ne' (by decide), up1_ne' (by decide)]; exact v2
          · rw [up1_ne' (by decide), up1_s]
          · rw [up1_s]
            split <;> rfl
          · rw [up1_ne' (by decide), up1_ne' (by decide), up1_ne' (by decide), v5, if_neg (by split <;> decide)]
          · rw [up1_ne' (by decide), up1_ne' (by decide), up1_s]
          · rw [up1_ne' (by omega), up1_ne' (by omega), up1_ne' (by omega)]; exact vj j hj
        · unfold tkK
          rw [if_neg (by omega), if_neg cL, if_pos cD]
          by_cases ti : x1 ≠ 0 ∧ nI b = x2
          · rw [if_pos (Or.inl ti)]
            by_cases c4 : 4 < tkE g n b - b
            · rw [if_pos c4]
              split <;> rfl
            · rw [if_neg c4, if_pos ⟨ti, Or.inr rfl⟩]
          · rw [if_neg (show ¬ ((x1 ≠ 0 ∧ nI b = x2) ∧ _) from fun z => ti z.1)]
            by_cases c4 : 4 < tkE g n b - b
            · rw [if_pos c4, if_pos (Or.inr c4)]
            · rw [if_neg c4, if_neg (fun z => z.elim ti c4)]
      · have eE : tkE g n b = b + 1 := by
          unfold tkE
          rw [if_neg (by omega), if_neg cL, if_neg cD]
        rw [if_neg cD, if_pos rfl, lt_, tS_p, lt_, tS_f, up1_ne' (show 2 ≠ 4 by decide), v2, tS_0 hT, ix_nI (show b < 2 ^ 31 by omega), tS_b, b1, tS_p, lt_, tS_f, up1_ne' (show 2 ≠ 5 by decide), up1_ne' (show 2 ≠ 4 by decide), v2, tS_p]
        simp only [tS_k hT, tS_a hT (show b < 96 by omega), Bool.and_true]
        have J := e_nwJ (f := up1 (up1 (up1 f5 4 3) 5 (byt (g b))) 3 (nI b + 1)) (t := t) hT x1 x2
        unfold nwJ at J
        simp only [tS_k hT, Bool.and_true] at J
        refine ⟨_, J, NxC_J (k := 3) (by decide) ?_ ?_⟩
        · rw [eE]
          refine ⟨?_, ?_, ?_, ?_, fun z => absurd z (by decide), fun j hj => ?_⟩
          · rw [up1_ne' (by decide), up1_ne' (by decide), up1_ne' (by decide)]; exact v2
          · rw [up1_s, nI_1]
          · rw [up1_ne' (by decide), up1_ne' (by decide), up1_s]; rfl
          · rw [up1_ne' (by decide), up1_s, if_pos rfl]
          · rw [up1_ne' (by omega), up1_ne' (by omega), up1_ne' (by omega)]; exact vj j hj
        · unfold tkK
          rw [if_neg (by omega), if_neg cL, if_neg cD, if_neg (fun z => z.2.elim (by decide) (by decide))]
  · have eE : tkE g n b = b := by
      unfold tkE
      rw [if_pos (by omega)]
    rw [if_neg (nI_nlt (by omega) (by omega)), lt_, tS_p]
    simp only [tS_k hT, Bool.and_true]
    have J := e_nwJ (f := up1 f5 4 5) (t := t) hT x1 x2
    unfold nwJ at J
    simp only [tS_k hT, Bool.and_true] at J
    refine ⟨_, J, NxC_J (k := 0) (by decide) ?_ ?_⟩
    · rw [eE]
      refine ⟨?_, ?_, ?_, ?_, fun z => absurd z (by decide), fun j hj => ?_⟩
      · rw [up1_ne' (by decide)]; exact v2
      · rw [up1_ne' (by decide)]; exact v3
      · rw [up1_s]; rfl
      · rw [up1_ne' (by decide), v5, if_neg (by decide)]
      · rw [up1_ne' (by omega)]; exact vj j hj
    · unfold tkK
      rw [if_pos (by omega), if_neg (fun z => z.2.elim (by decide) (by decide))]
theorem C_sp (hT : TC h n g σ) (f1 : f 1 = nI n) (x1 x2 : Int32) : ∀ d i fu, i + d = n → d < fu → lp_ (b_Tape_nextWord_35 h x1 x2) (fun (b : Bool) (σ : Sto) => ((), false, σ)) fu true (tS σ h (up1 f 2 (nI i)) t) = nwC h x1 x2 true (tS σ h (up1 f 2 (nI (ru (fun i => decide (g i = 32)) i d))) t) := by
  have hn := hT.2.2.2.1
  intro d
  induction d with
  | zero =>
    intro i fu hi hf
    obtain ⟨fu, rfl⟩ : ∃ z, fu = z + 1 := ⟨fu - 1, by omega⟩
    rw [lp_S]
    unfold b_Tape_nextWord_35
    rw [lt_, tS_f, up1_s, up1_ne' (show 1 ≠ 2 by decide), f1, if_neg (nI_nlt (by omega) (by omega)), tS_k hT]
    rfl
  | succ d ih =>
    intro i fu hi hf
    obtain ⟨fu, rfl⟩ : ∃ z, fu = z + 1 := ⟨fu - 1, by omega⟩
    obtain ⟨b1, b2⟩ := hT.2.2.2.2 i (by omega)
    rw [lp_S]
    unfold b_Tape_nextWord_35
    rw [lt_, tS_f, up1_s, up1_ne' (show 1 ≠ 2 by decide), f1, if_pos (nI_lt (by omega) (by omega)), tS_0 hT, ix_nI (show i < 2 ^ 31 by omega), tS_b, b1, tS_k hT, tS_a hT (show i < 96 by omega)]
    unfold ru
    by_cases c : g i = 32
    · rw [if_pos ((byt_32 _ b2).mpr c), lt_, tS_p, up1_2, nI_1, if_pos (show decide (g i = 32) = true from decide_eq_true c)]
      exact ih (i + 1) fu (by omega) (by omega)
    · rw [if_neg (fun z => c ((byt_32 _ b2).mp z)), if_neg (show ¬ decide (g i = 32) = true by rw [decide_eq_false c]; decide)]
      rfl
theorem e_nextC (hT : TC h n g σ) (f1 : f 1 = nI n) {e : Nat} (f3 : f 3 = nI e) (he : e ≤ n) : ∃ f', f_Tape_nextWord h true (tS σ h f t) = ((), true, tS σ h f' t) ∧ NxC g (tkB g n e) (tkE g n (tkB g n e)) (tkK g n (tkB g n e) ((f 4 = 1 ∨ f 4 = 2) ∧ tkB g n e = e)) f f' := by
  have hn := hT.2.2.2.1
  have hB := ru_le (c := fun i => decide (g i = 32)) (d := n - e) (i := e)
  have hB' : tkB g n e ≤ n := by unfold tkB; omega
  have go : ∀ x1 : Int32, (x1 ≠ 0 ↔ (f 4 = 1 ∨ f 4 = 2)) → ∃ f', lp_ (b_Tape_nextWord_35 h x1 (nI e)) (fun (b : Bool) (σ : Sto) => ((), false, σ)) fuel_ true (tS σ h (up1 f 2 (nI e)) t) = ((), true, tS σ h f' t) ∧ NxC g (tkB g n e) (tkE g n (tkB g n e)) (tkK g n (tkB g n e) ((f 4 = 1 ∨ f 4 = 2) ∧ tkB g n e = e)) f f' := fun x1 hx => by
    rw [C_sp hT f1 x1 (nI e) (n - e) e fuel_ (by omega) (by show n - e < 70000; omega)]
    obtain ⟨f', e1, e2⟩ := e_nwC (t := t) hT (f := up1 f 2 (nI (tkB g n e))) (by rw [up1_ne' (by decide)]; exact f1) up1_s hB' x1 (nI e)
    refine ⟨f', e1, ?_⟩
    have hc : (x1 ≠ 0 ∧ nI (tkB g n e) = nI e) ↔ ((f 4 = 1 ∨ f 4 = 2) ∧ tkB g n e = e) := by rw [hx, nI_eq (by omega) (by omega)]
    have ek : tkK g n (tkB g n e) (x1 ≠ 0 ∧ nI (tkB g n e) = nI e) = tkK g n (tkB g n e) ((f 4 = 1 ∨ f 4 = 2) ∧ tkB g n e = e) := by
      unfold tkK
      simp only [hc]
    rw [ek] at e2
    obtain ⟨q2, q3, q4, q5, q6, q7⟩ := e2
    exact ⟨q2, q3, q4, q5, q6, fun j hj => by rw [q7 j hj, up1_ne' (by omega)]⟩
  unfold f_Tape_nextWord
  rw [lt_, lt_, tS_f]
  by_cases c1 : f 4 = 1
  · rw [if_pos c1]
    simp only [lt_]
    rw [tS_k hT, tS_f, f3, tS_p]
    exact go 1 ⟨fun _ => Or.inl c1, fun _ => by decide⟩
  · rw [if_neg c1]
    by_cases c2 : f 4 = 2
    · rw [if_pos c2]
      simp only [lt_]
      rw [tS_k hT, tS_f, f3, tS_p]
      exact go 1 ⟨fun _ => Or.inr c2, fun _ => by decide⟩
    · rw [if_neg c2]
      simp only [lt_]
      rw [tS_k hT, tS_f, f3, tS_p]
      exact go 0 ⟨fun z => absurd rfl z, fun z => z.elim (fun y => absurd y c1) (fun y => absurd y c2)⟩
end TX2
