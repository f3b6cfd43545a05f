/-! which text counts -/
section WHY
variable {α β : Type} {X Y w : Nat} {σ ρ : Sto}
theorem lp_accP {body : (β → Int32 → Bool → Sto → Rs α) → β → Int32 → Bool → Sto → Rs α} {bad : β → Int32 → Bool → Sto → Rs α} {σ : Sto} (N : Nat) (P : Nat → β → Prop) (g : Nat → β → β) (k : β → Rs α) (hN : N < 69999)
    (hstep : ∀ L i a, i < N → P i a → body L a (nI i) true σ = L (g i a) (nI i + 1) true σ) (hP : ∀ i a, i < N → P i a → P (i + 1) (g i a)) (hexit : ∀ L a, P N a → body L a (nI N) true σ = k a) (a : β) (h0 : P 0 a) :
    lp_ body bad fuel_ a 0 true σ = k (foldI g 0 N a) ∧ P N (foldI g 0 N a) := by
  have key : ∀ n, ∀ i a, i ≤ N → N - i < n → P i a → lp_ body bad n a (nI i) true σ = k (foldI g i (N - i) a) ∧ P N (foldI g i (N - i) a) := by
    intro n
    induction n with
    | zero => exact fun i a _ h _ => absurd h (Nat.not_lt_zero _)
    | succ n ih =>
      intro i a hi hn hp
      rw [lp_S]
      by_cases hlt : i < N
      · rw [hstep _ i a hlt hp, show nI i + 1 = nI (i + 1) from nI_1 i, show N - i = (N - (i + 1)) + 1 by omega]
        exact ih (i + 1) (g i a) hlt (by omega) (hP i a hlt hp)
      · have e : i = N := by omega
        subst e
        rw [hexit _ a hp, Nat.sub_self]
        exact ⟨rfl, hp⟩
  exact key fuel_ 0 a (Nat.zero_le _) (by show N - 0 < 70000; omega) h0
theorem lp_acc2 {body : (Int32 → Int32 → Int32 → Bool → Sto → Rs α) → Int32 → Int32 → Int32 → Bool → Sto → Rs α} {bad : Int32 → Int32 → Int32 → Bool → Sto → Rs α} {σ : Sto} (N : Nat) (g : Nat → Int32 × Int32 → Int32 × Int32) (k : Int32 → Int32 → Rs α) (hN : N < 69999)
    (hstep : ∀ L i a b, i < N → body L a b (nI i) true σ = L (g i (a, b)).1 (g i (a, b)).2 (nI i + 1) true σ) (hexit : ∀ L a b, body L a b (nI N) true σ = k a b) (a b : Int32) :
    lp_ body bad fuel_ a b 0 true σ = k (foldI g 0 N (a, b)).1 (foldI g 0 N (a, b)).2 := by
  have key : ∀ n, ∀ i a b, i ≤ N → N - i < n → lp_ body bad n a b (nI i) true σ = k (foldI g i (N - i) (a, b)).1 (foldI g i (N - i) (a, b)).2 := by
    intro n
    induction n with
    | zero => exact fun i a b _ h => absurd h (Nat.not_lt_zero _)
    | succ n ih =>
      intro i a b hi hn
      rw [lp_S]
      by_cases hlt : i < N
      · rw [hstep _ i a b hlt, show nI i + 1 = nI (i + 1) from nI_1 i, show N - i = (N - (i + 1)) + 1 by omega]
        exact ih (i + 1) _ _ hlt (by omega)
      · have e : i = N := by omega
        subst e
        rw [hexit _ a b, Nat.sub_self]
        rfl
  exact key fuel_ 0 a b (Nat.zero_le _) (by show N - 0 < 70000; omega)
/-- the reference's step -/
def ctM (S : Nat → Int32) (land key : Int32) (i : Nat) (x : Int32) : Int32 := if (S (600 + 200 * i) = key ∧ S (601 + 200 * i) = land ∧ ¬ S 0 < S (602 + 200 * i)) ∧ (x < 0 ∨ ¬ S (602 + 200 * i) < S (602 + 200 * ix x)) then nI i else x
def cntT (S : Nat → Int32) (land key : Int32) (nt : Nat) : Int32 := foldI (ctM S land key) 0 nt (-1)
def ctP (S : Nat → Int32) (land key : Int32) (n : Nat) (x : Int32) : Prop := x = -1 ∨ ∃ j, j < n ∧ x = nI j ∧ S (600 + 200 * j) = key ∧ S (601 + 200 * j) = land
theorem ctP_s {S : Nat → Int32} {land key : Int32} {i : Nat} {x : Int32} (h : ctP S land key i x) : ctP S land key (i + 1) (ctM S land key i x) := by
  unfold ctM
  by_cases c : (S (600 + 200 * i) = key ∧ S (601 + 200 * i) = land ∧ ¬ S 0 < S (602 + 200 * i)) ∧ (x < 0 ∨ ¬ S (602 + 200 * i) < S (602 + 200 * ix x))
  · rw [if_pos c]
    exact Or.inr ⟨i, by omega, rfl, c.1.1, c.1.2.1⟩
  · rw [if_neg c]
    rcases h with h | ⟨j, h1, h2⟩
    · exact Or.inl h
    · exact Or.inr ⟨j, by omega, h2⟩
theorem e_countsM (hY : LayY Y ρ) {nt : Nat} (hn : nt ≤ 12) (t3 : SI ρ (Y + 1) 4 = nI nt) (land key : Int32) : f_Model_counts Y land key true ρ = (cntT (SI ρ (Y + 1)) land key nt, true, ρ) ∧ ctP (SI ρ (Y + 1)) land key nt (cntT (SI ρ (Y + 1)) land key nt) := by
  unfold f_Model_counts cntT
  rw [lt_, lt_]
  refine lp_accP (σ := ρ) nt (ctP (SI ρ (Y + 1)) land key) (ctM (SI ρ (Y + 1)) land key) (fun x => (x, true, ρ)) (by omega) (fun L i x hi hp => ?_) (fun i x hi hp => ctP_s hp) (fun L x hp => ?_) (-1) (Or.inl rfl)
  · have ct : ∀ q : Bool, f_Model_textAt Y (nI i) q ρ = (nI (600 + 200 * i), q, ρ) := fun q => e_textAt i q ρ
    unfold b_Model_counts_5 ctM
    simp only [bd_, lt_, rY_0 hY, show ix (4 : Int32) = 4 from rfl, show ix (0 : Int32) = 0 from rfl, t3, cK_of (kY_0 hY), cYk hY 4 (v := 4) rfl (by decide), cYk hY 0 (v := 0) rfl (by decide), Bool.and_true, if_pos (show nI i < nI nt from nI_lt hi (by omega)), ct, nI_p1, nI_p2, show nI (600 + 200 * i) + 0 = nI (600 + 200 * i) from nI_add _ 0, cY hY (show 600 + 200 * i < 3210 by omega), cY hY (show 600 + 200 * i + 1 < 3210 by omega), cY hY (show 600 + 200 * i + 2 < 3210 by omega), ix_nI (show 600 + 200 * i < 2 ^ 31 by omega), ix_nI (show 600 + 200 * i + 1 < 2 ^ 31 by omega), ix_nI (show 600 + 200 * i + 2 < 2 ^ 31 by omega), show 601 + 200 * i = 600 + 200 * i + 1 by omega, show 602 + 200 * i = 600 + 200 * i + 2 by omega]
    by_cases a : SI ρ (Y + 1) (600 + 200 * i) = key
    · by_cases b : SI ρ (Y + 1) (600 + 200 * i + 1) = land
      · by_cases c : SI ρ (Y + 1) 0 < SI ρ (Y + 1) (600 + 200 * i + 2)
        · simp only [if_pos a, if_pos b, if_pos c, if_true]
          rw [if_neg (fun z => z.1.2.2 c)]
        · simp only [if_pos a, if_pos b, if_neg c, i10, if_false]
          rcases hp with e | ⟨j, hj, e, -⟩
          · rw [e, if_pos (by decide), if_pos ⟨⟨a, b, c⟩, Or.inl (by decide)⟩]
          · have hn0 : ¬ nI j < 0 := nI_pos (by omega)
            have cj : ∀ q : Bool, f_Model_textAt Y (nI j) q ρ = (nI (600 + 200 * j), q, ρ) := fun q => e_textAt j q ρ
            rw [e, if_neg hn0, ix_nI (show j < 2 ^ 31 by omega)]
            simp only [cj, nI_p2, cY hY (show 600 + 200 * j + 2 < 3210 by omega), ix_nI (show 600 + 200 * j + 2 < 2 ^ 31 by omega), Bool.and_true, show 602 + 200 * j = 600 + 200 * j + 2 by omega]
            by_cases d : SI ρ (Y + 1) (600 + 200 * i + 2) < SI ρ (Y + 1) (600 + 200 * j + 2)
            · rw [if_pos d, if_neg (fun z => z.2.elim hn0 (fun y => y d))]
            · rw [if_neg d, if_pos ⟨⟨a, b, c⟩, Or.inr d⟩]
      · simp only [if_pos a, if_neg b, if_true]
        rw [if_neg (fun z => b z.1.2.1)]
    · simp only [if_neg a, if_true]
      rw [if_neg (fun z => a z.1.1)]
  · unfold b_Model_counts_5
    simp only [lt_, rY_0 hY, show ix (4 : Int32) = 4 from rfl, t3, cK_of (kY_0 hY), cYk hY 4 (v := 4) rfl (by decide), Bool.and_true, if_neg (nI_nlt (Nat.le_refl nt) (by omega))]
def ctC (σ : Sto) (w : Nat) (land key day : Int32) (i : Nat) (p : Int32 × Int32) : Int32 × Int32 := if SI σ (SR σ (w + 12) i) 1 = land ∧ SI σ (SR σ (w + 12) i) 0 = key ∧ inR (SI σ (SR σ (w + 12) i) 2) p.2 day = 1 then (nI i, SI σ (SR σ (w + 12) i) 2) else p
theorem e_countingC (hW : LayW w σ) {nt : Nat} (hn : nt ≤ 12) (t2 : SI σ (w + 11) 1 = nI nt) (ht : ∀ k, k < nt → SR σ (w + 12) k ≠ 0 ∧ Stk σ (SR σ (w + 12) k) = 9) (land key day : Int32) : f_Laws_countingText (w + 11) land key day true σ = ((foldI (ctC σ w land key day) 0 nt (-1, -1)).1, true, σ) := by
  unfold f_Laws_countingText
  rw [lt_, lt_, lt_]
  refine lp_acc2 (σ := σ) nt (ctC σ w land key day) (fun x _ => (x, true, σ)) (by omega) (fun L i a b hi => ?_) (fun L a b => ?_) (-1) (-1)
  · obtain ⟨h0, h9⟩ := ht i hi
    unfold b_Laws_countingText_9 ctC
    simp only [bd_, lt_, t2, rW_11_0 hW, cK_of (kW_11 hW), ix_nI (show i < 2 ^ 31 by omega), cA_of (kW_12 hW) (nW_12 hW) (show i < 12 by omega) (by decide), Bool.and_true, if_pos (show nI i < nI nt from nI_lt hi (by omega)), if_neg h0, cK_of h9, e_within]
    by_cases x1 : SI σ (SR σ (w + 12) i) 1 = land
    · by_cases x2 : SI σ (SR σ (w + 12) i) 0 = key
      · rcases inR_01 (SI σ (SR σ (w + 12) i) 2) b day with e | e
        · simp only [if_pos x1, if_pos x2, if_pos e]
          rw [if_neg (fun z => absurd (e.symm.trans z.2.2) (by decide))]
        · simp only [if_pos x1, if_pos x2, if_neg (show ¬ inR (SI σ (SR σ (w + 12) i) 2) b day = 0 by rw [e]; decide)]
          rw [if_pos ⟨x1, x2, e⟩]
      · simp only [if_pos x1, if_neg x2]
        rw [if_neg (fun z => x2 z.2.1)]
    · simp only [if_neg x1]
      rw [if_neg (fun z => x1 z.1)]
  · unfold b_Laws_countingText_9
    simp only [lt_, t2, cK_of (kW_11 hW), Bool.and_true, if_neg (nI_nlt (Nat.le_refl nt) (by omega))]
theorem ct_same {S : Nat → Int32} {land key : Int32} {nt : Nat} (hn : nt ≤ 12) (ht : ∀ k, k < nt → SI σ (SR σ (w + 12) k) 0 = S (600 + 200 * k) ∧ SI σ (SR σ (w + 12) k) 1 = S (601 + 200 * k) ∧ SI σ (SR σ (w + 12) k) 2 = S (602 + 200 * k) ∧ bd (S (602 + 200 * k)) 0 999) : (foldI (ctC σ w land key (S 0)) 0 nt (-1, -1)).1 = cntT S land key nt := by
  have r := foldI_rel (R := fun (p : Int32 × Int32) (x : Int32) => p.1 = x ∧ ((x = -1 ∧ p.2 = -1) ∨ ∃ j, j < nt ∧ x = nI j ∧ p.2 = S (602 + 200 * j))) (g := ctC σ w land key (S 0)) (h := ctM S land key) (n := nt) (i := 0) (a := (-1, -1)) (b := -1) ⟨rfl, Or.inl ⟨rfl, rfl⟩⟩ (fun k p x _ hk r => by
    obtain ⟨t0, t1, t2, t3⟩ := ht k (by omega)
    obtain ⟨r1, r2⟩ := r
    unfold ctC ctM
    rw [t0, t1, t2]
    by_cases a : S (600 + 200 * k) = key
    · by_cases b : S (601 + 200 * k) = land
      · by_cases c : S 0 < S (602 + 200 * k)
        · rw [if_neg (fun z => absurd (inR_1.mp z.2.2).2 (Int32.not_le.mpr c)), if_neg (fun z => z.1.2.2 c)]
          exact ⟨r1, r2⟩
        · rcases r2 with ⟨e1, e2⟩ | ⟨j, hj, e1, e2⟩
          · have lo : (-1 : Int32) ≤ S (602 + 200 * k) := Int32.le_iff_toInt_le.mpr (by rw [show (-1 : Int32).toInt = -1 by decide]; have := t3.1; omega)
            rw [e2, if_pos ⟨b, a, inR_1.mpr ⟨lo, Int32.not_lt.mp c⟩⟩, if_pos ⟨⟨a, b, c⟩, Or.inl (by rw [e1]; decide)⟩]
            exact ⟨rfl, Or.inr ⟨k, by omega, rfl, rfl⟩⟩
          · have n0 : ¬ x < 0 := by rw [e1]; exact nI_pos (by omega)
            by_cases d : S (602 + 200 * k) < S (602 + 200 * j)
            · rw [e2, if_neg (fun z => absurd (inR_1.mp z.2.2).1 (Int32.not_le.mpr d)), if_neg (fun z => z.2.elim n0 (fun y => y (by rw [e1, ix_nI (by omega)]; exact d)))]
              exact ⟨r1, Or.inr ⟨j, hj, e1, e2⟩⟩
            · rw [e2, if_pos ⟨b, a, inR_1.mpr ⟨Int32.not_lt.mp d, Int32.not_lt.mp c⟩⟩, if_pos ⟨⟨a, b, c⟩, Or.inr (by rw [e1, ix_nI (by omega)]; exact d)⟩]
              exact ⟨rfl, Or.inr ⟨k, by omega, rfl, rfl⟩⟩
      · rw [if_neg (fun z => b z.1), if_neg (fun z => b z.1.2.1)]
        exact ⟨r1, r2⟩
    · rw [if_neg (fun z => a z.2.1), if_neg (fun z => a z.1.1)]
      exact ⟨r1, r2⟩)
  exact r.1
/-- what a text's cell shows -/
theorem rT_facts {S : Nat → Int32} {nt : Nat} (hX0 : 1 ≤ X) (h : ∀ k, k < nt → X + 173 ≤ SR σ (w + 12) k ∧ SR σ (w + 12) k < Shn σ ∧ X + 173 ≤ SR σ (SR σ (w + 12) k) 4 ∧ SR σ (SR σ (w + 12) k) 4 < Shn σ ∧ rT1 σ (SR σ (w + 12) k) S (600 + 200 * k)) : (∀ k, k < nt → SR σ (w + 12) k ≠ 0 ∧ Stk σ (SR σ (w + 12) k) = 9) ∧ ∀ k, k < nt → SI σ (SR σ (w + 12) k) 0 = S (600 + 200 * k) ∧ SI σ (SR σ (w + 12) k) 1 = S (601 + 200 * k) ∧ SI σ (SR σ (w + 12) k) 2 = S (602 + 200 * k) ∧ bd (S (602 + 200 * k)) 0 999 := by
  refine ⟨fun k hk => ?_, fun k hk => ?_⟩
  · obtain ⟨a1, a2, a3, a4, b1, -⟩ := h k hk
    exact ⟨by omega, b1⟩
  · obtain ⟨a1, a2, a3, a4, b1, b2, b3, b4, b5, b6, b7, b8, -⟩ := h k hk
    rw [show 601 + 200 * k = 600 + 200 * k + 1 by omega, show 602 + 200 * k = 600 + 200 * k + 2 by omega]
    exact ⟨b2, b3, b4, b8⟩
theorem op_14 : Op_14 X Y (REL X Y) := by
  intro a v σ ρ h
  have hX := h.2.2.1
  have hY : LayY Y (stn ρ (Shn σ)) := h.2.2.2.1
  have hW := hX.2.1
  obtain ⟨d1, d2⟩ := (REL_now2 h).1
  obtain ⟨nt, t1, t2, t3, t4, t5⟩ := (REL_now2 h).2.2.2.2.2.2.2
  obtain ⟨f1, f2⟩ := rT_facts h.1 t5
  by_cases ha : (0 : Int32) ≤ a ∧ a ≤ 3
  · by_cases hv : (0 : Int32) ≤ v ∧ v ≤ 3
    · obtain ⟨eM, -⟩ := e_countsM hY t1 t3 a v
      refine OpOK_b (if cntT (SI ρ (Y + 1)) a v nt < 0 then -1000000005 else cntT (SI ρ (Y + 1)) a v nt) h ?_ ?_
      · unfold f_Trail_why
        simp only [bd_, lt_, e_within, inR_e1 ha, inR_e1 hv, i10, if_false, rX_0_0 hX, rW_0_1 hW, cK_of (kX_0 hX), cK_of (kW_0 hW), cK_of (kW_11 hW), Bool.and_true, d1, e_countingC hW t1 t2 f1, ct_same t1 f2, if_pair]
      · show f_Model_why Y a v true (stn ρ (Shn σ)) = _
        unfold f_Model_why
        simp only [bd_, lt_, e_isInL a 0 3 0 3 rfl rfl, e_isInL v 0 3 0 3 rfl rfl, inR_e1 ha, inR_e1 hv, i10, if_false, cK_of (kY_0 hY), Bool.and_true, eM, e_orNone]
        rfl
    · refine OpOK_b (-1000000001) h ?_ ?_
      · unfold f_Trail_why
        simp only [bd_, lt_, e_within, inR_e1 ha, inR_e0 hv, i10, if_false, if_true]
      · show f_Model_why Y a v true (stn ρ (Shn σ)) = _
        unfold f_Model_why
        simp only [bd_, lt_, e_isInL a 0 3 0 3 rfl rfl, e_isInL v 0 3 0 3 rfl rfl, inR_e1 ha, inR_e0 hv, i10, if_false, if_true]
  · refine OpOK_b (-1000000001) h ?_ ?_
    · unfold f_Trail_why
      simp only [bd_, lt_, e_within, inR_e0 ha, if_true]
    · show f_Model_why Y a v true (stn ρ (Shn σ)) = _
      unfold f_Model_why
      simp only [bd_, lt_, e_isInL a 0 3 0 3 rfl rfl, inR_e0 ha, if_true]
end WHY
