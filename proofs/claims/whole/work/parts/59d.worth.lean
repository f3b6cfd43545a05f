/-! what a text is worth -/
section WO
variable {α β : Type} {X Y w : Nat} {σ ρ : Sto} {S : Nat → Int32} {nm : Int32 → Int32}
theorem lp_exA {body : (β → Int32 → Bool → Sto → Rs α) → β → Int32 → Bool → Sto → Rs α} {bad : β → Int32 → Bool → Sto → Rs α} (N : Nat) (P : Nat → β → Sto → Prop) (K : β → Sto → Rs α) (hN : N < 69999)
    (hstep : ∀ i a τ, i < N → P i a τ → ∃ a' τ', P (i + 1) a' τ' ∧ ∀ L, body L a (nI i) true τ = L a' (nI i + 1) true τ') (hexit : ∀ L a τ, P N a τ → body L a (nI N) true τ = K a τ) (a : β) (τ : Sto) (h0 : P 0 a τ) :
    ∃ a' τ', P N a' τ' ∧ lp_ body bad fuel_ a 0 true τ = K a' τ' := by
  have key : ∀ n, ∀ i a τ, i ≤ N → N - i < n → P i a τ → ∃ a' τ', P N a' τ' ∧ lp_ body bad n a (nI i) true τ = K a' τ' := by
    intro n
    induction n with
    | zero => exact fun i a τ _ h _ => absurd h (Nat.not_lt_zero _)
    | succ n ih =>
      intro i a τ hi hn hp
      rw [lp_S]
      by_cases hlt : i < N
      · obtain ⟨a1, τ1, p1, e1⟩ := hstep i a τ hlt hp
        rw [e1, show nI i + 1 = nI (i + 1) from nI_1 i]
        exact ih (i + 1) a1 τ1 hlt (by omega) p1
      · have e : i = N := by omega
        subst e
        exact ⟨a, τ, hp, hexit _ a τ hp⟩
  exact key fuel_ 0 a τ (Nat.zero_le _) (by show N - 0 < 70000; omega) h0
/-- two numbers joined by a sign -/
def jn (c x y : Int32) : Int32 := if c = 38 then (if x = 0 then 0 else if y = 0 then 0 else 1) else if c = 42 then x * y else if c = 43 then x + y else if c = 45 then x - y else if c = 60 then (if x < y then 1 else 0) else if c = 61 then (if x = y then 1 else 0) else if c = 62 then (if y < x then 1 else 0) else if c = 124 then (if x = 0 then (if y = 0 then 0 else 1) else 1) else (if y = 0 then 0 else x / y)
theorem e_joinedC (c x y : Int32) (b : Bool) (σ : Sto) : f_Laws_joined c x y b σ = (jn c x y, b, σ) := by
  unfold f_Laws_joined jn
  simp only [lt_, if_pair]
  by_cases hy : y = 0
  · simp only [if_pos hy, if_pair]
  · simp only [if_neg hy, decide_eq_false hy, Bool.not_false, Bool.and_true, if_pair]
theorem div_m1 (x : Int32) : x / -1 = -x := by
  apply Int32.toInt_inj.mp
  rw [Int32.toInt_div, show (-1 : Int32).toInt = -1 by decide, Int.tdiv_neg, Int.tdiv_one, Int32.toInt_neg]
abbrev sg9 (v : Int32) : Prop := v = 38 ∨ v = 42 ∨ v = 43 ∨ v = 45 ∨ v = 47 ∨ v = 60 ∨ v = 61 ∨ v = 62 ∨ v = 124
theorem e_joinedM (c x y : Int32) (hc : sg9 c) (b : Bool) (ρ : Sto) : f_Model_joined c x y b ρ = (jn c x y, b, ρ) := by
  unfold f_Model_joined jn
  simp only [lt_, if_pair]
  rcases hc with rfl | rfl | rfl | rfl | rfl | rfl | rfl | rfl | rfl
  · simp only [if_true, if_pair]
  · simp only [show ((42 : Int32) = 38) = False by decide, if_false, if_true, if_pair]
  · simp only [show ((43 : Int32) = 38) = False by decide, show ((43 : Int32) = 42) = False by decide, if_false, if_true, if_pair]
  · simp only [show ((45 : Int32) = 38) = False by decide, show ((45 : Int32) = 42) = False by decide, show ((45 : Int32) = 43) = False by decide, if_false, if_true, if_pair]
  · simp only [show ((47 : Int32) = 38) = False by decide, show ((47 : Int32) = 42) = False by decide, show ((47 : Int32) = 43) = False by decide, show ((47 : Int32) = 45) = False by decide, show ((47 : Int32) = 60) = False by decide, show ((47 : Int32) = 61) = False by decide, show ((47 : Int32) = 62) = False by decide, show ((47 : Int32) = 124) = False by decide, if_false, if_true]
    by_cases hy : y = 0
    · simp only [if_pos hy]
    · simp only [if_neg hy, decide_eq_false hy, Bool.not_false, Bool.and_true]
      by_cases h1 : y = -1
      · rw [if_pos h1, h1, div_m1]
      · rw [if_neg h1]
  · simp only [show ((60 : Int32) = 38) = False by decide, show ((60 : Int32) = 42) = False by decide, show ((60 : Int32) = 43) = False by decide, show ((60 : Int32) = 45) = False by decide, show ((60 : Int32) = 47) = False by decide, if_false, if_true, if_pair]
  · simp only [show ((61 : Int32) = 38) = False by decide, show ((61 : Int32) = 42) = False by decide, show ((61 : Int32) = 43) = False by decide, show ((61 : Int32) = 45) = False by decide, show ((61 : Int32) = 47) = False by decide, show ((61 : Int32) = 60) = False by decide, if_false, if_true, if_pair]
  · simp only [show ((62 : Int32) = 38) = False by decide, show ((62 : Int32) = 42) = False by decide, show ((62 : Int32) = 43) = False by decide, show ((62 : Int32) = 45) = False by decide, show ((62 : Int32) = 47) = False by decide, show ((62 : Int32) = 60) = False by decide, show ((62 : Int32) = 61) = False by decide, if_false, if_true, if_pair]
  · simp only [show ((124 : Int32) = 38) = False by decide, show ((124 : Int32) = 42) = False by decide, show ((124 : Int32) = 43) = False by decide, show ((124 : Int32) = 45) = False by decide, show ((124 : Int32) = 47) = False by decide, show ((124 : Int32) = 60) = False by decide, show ((124 : Int32) = 61) = False by decide, show ((124 : Int32) = 62) = False by decide, if_false, if_true, if_pair]
/-- the pile behind the first steps of a row -/
def updF (c : Nat → Int32) (i : Nat) (v : Int32) : Nat → Int32 := fun x => if x = i then v else c x
def pst (S : Nat → Int32) (nm : Int32 → Int32) (r : Nat) : Nat → Nat × (Nat → Int32)
  | 0 => (0, fun _ => 0)
  | i + 1 => if S (r + 2 * i) = 2 then (if S (r + 2 * i + 1) = 33 then ((pst S nm r i).1, updF (pst S nm r i).2 ((pst S nm r i).1 - 1) (if (pst S nm r i).2 ((pst S nm r i).1 - 1) = 0 then 1 else 0)) else ((pst S nm r i).1 - 1, updF (pst S nm r i).2 ((pst S nm r i).1 - 2) (jn (S (r + 2 * i + 1)) ((pst S nm r i).2 ((pst S nm r i).1 - 2)) ((pst S nm r i).2 ((pst S nm r i).1 - 1))))) else ((pst S nm r i).1 + 1, updF (pst S nm r i).2 (pst S nm r i).1 (if S (r + 2 * i) = 0 then S (r + 2 * i + 1) else nm (S (r + 2 * i + 1))))
theorem pst_s (S : Nat → Int32) (nm : Int32 → Int32) (r i : Nat) : pst S nm r (i + 1) = if S (r + 2 * i) = 2 then (if S (r + 2 * i + 1) = 33 then ((pst S nm r i).1, updF (pst S nm r i).2 ((pst S nm r i).1 - 1) (if (pst S nm r i).2 ((pst S nm r i).1 - 1) = 0 then 1 else 0)) else ((pst S nm r i).1 - 1, updF (pst S nm r i).2 ((pst S nm r i).1 - 2) (jn (S (r + 2 * i + 1)) ((pst S nm r i).2 ((pst S nm r i).1 - 2)) ((pst S nm r i).2 ((pst S nm r i).1 - 1))))) else ((pst S nm r i).1 + 1, updF (pst S nm r i).2 (pst S nm r i).1 (if S (r + 2 * i) = 0 then S (r + 2 * i + 1) else nm (S (r + 2 * i + 1)))) := rfl
theorem pile_le {r : Nat} : ∀ {n h : Nat}, pileOK S r n h → h ≤ n
  | 0, _, e => by have : _ = 0 := e; omega
  | n + 1, h, e => by
    obtain ⟨g, e1, e2⟩ := e
    have := pile_le e1
    rcases e2 with ⟨-, e2⟩ | ⟨-, -, -, e2⟩ | ⟨-, -, -, e2⟩ <;> omega
theorem pst_h {r : Nat} : ∀ {n h : Nat}, pileOK S r n h → (pst S nm r n).1 = h
  | 0, _, e => by have : _ = 0 := e; rw [this]; rfl
  | n + 1, h, e => by
    obtain ⟨g, e1, e2⟩ := e
    have ih := pst_h e1
    unfold pst
    rcases e2 with ⟨a1, a2⟩ | ⟨a1, a2, a3, a4⟩ | ⟨a1, a2, a3, a4⟩
    · rw [if_neg a1, ih]; exact a2.symm
    · rw [if_pos a1, if_pos a2, ih]; exact a4.symm
    · rw [if_pos a1, if_neg a2]
      show (pst S nm r n).1 - 1 = h
      omega
theorem pile_pre {r : Nat} : ∀ {n h : Nat}, pileOK S r n h → ∀ i, i ≤ n → ∃ g, pileOK S r i g
  | 0, h, e, i, hi => ⟨h, by have : i = 0 := by omega
                             subst this; exact e⟩
  | n + 1, h, e, i, hi => by
    by_cases c : i = n + 1
    · subst c; exact ⟨h, e⟩
    · obtain ⟨g, e1, -⟩ := e
      exact pile_pre e1 i (by omega)
-- the class's pile
def FrW (w : Nat) (σ τ : Sto) : Prop := Shn τ = Shn σ ∧ Stk τ = Stk σ ∧ Sln τ = Sln σ ∧ SR τ = SR σ ∧ SL τ = SL σ ∧ Scs τ = Scs σ ∧ (∀ x, x ≠ w + 11 → x ≠ w + 14 → SI τ x = SI σ x) ∧ (∀ j, j ≠ 4 → SI τ (w + 11) j = SI σ (w + 11) j)
theorem FrW_0 : FrW w σ σ := ⟨rfl, rfl, rfl, rfl, rfl, rfl, fun _ _ _ => rfl, fun _ _ => rfl⟩
theorem FrW_4 {τ : Sto} {v : Int32} (h : FrW w σ τ) : FrW w σ (pI τ (w + 11) 4 v) :=
  ⟨by rw [Shn_pI, h.1], by rw [Stk_pI, h.2.1], by rw [Sln_pI, h.2.2.1], by rw [SR_pI, h.2.2.2.1], by rw [SL_pI, h.2.2.2.2.1], by rw [Scs_pI, h.2.2.2.2.2.1], fun x h1 h2 => by rw [SI_pI, up2_ne h1, h.2.2.2.2.2.2.1 x h1 h2], fun j hj => by rw [SI_pI, up2_nj hj, h.2.2.2.2.2.2.2 j hj]⟩
theorem FrW_14 {τ : Sto} {j : Nat} {v : Int32} (h : FrW w σ τ) : FrW w σ (pI τ (w + 14) j v) :=
  ⟨by rw [Shn_pI, h.1], by rw [Stk_pI, h.2.1], by rw [Sln_pI, h.2.2.1], by rw [SR_pI, h.2.2.2.1], by rw [SL_pI, h.2.2.2.2.1], by rw [Scs_pI, h.2.2.2.2.2.1], fun x h1 h2 => by rw [SI_pI, up2_ne h2, h.2.2.2.2.2.2.1 x h1 h2], fun i hi => by rw [SI_pI, up2_ne' (by omega), h.2.2.2.2.2.2.2 i hi]⟩
theorem FrW_L {τ : Sto} (h : FrW w σ τ) {u : Nat} (hL : LayW u σ) : LayW u τ := LayT_c hL h.2.1 h.2.2.1 h.2.2.2.1
theorem e_push {τ : Sto} (hW : LayW w τ) {h : Nat} (hh : h < 96) (q : SI τ (w + 11) 4 = nI h) (v : Int32) : f_Laws_push (w + 11) v true τ = ((), true, pI (pI τ (w + 14) h v) (w + 11) 4 (nI (h + 1))) := by
  have n1 : w + 11 ≠ w + 14 := by omega
  unfold f_Laws_push
  simp only [lt_, q, rW_11_3 hW, nW_14 hW, ofN, if_pos (show nI h < nI 96 from nI_lt hh (by decide)), cK_pI, SI_pI, up2_ne' n1, ix_nI (show h < 2 ^ 31 by omega), cK_of (kW_11 hW), cK_of (kW_14 hW), cA_of (kW_14 hW) (nW_14 hW) hh (by decide), Bool.and_true, nI_1]
theorem e_pop {τ : Sto} (hW : LayW w τ) {h : Nat} (hh : h < 96) (q : SI τ (w + 11) 4 = nI (h + 1)) : f_Laws_pop (w + 11) true τ = (SI τ (w + 14) h, true, pI τ (w + 11) 4 (nI h)) := by
  have n1 : w + 14 ≠ w + 11 := by omega
  unfold f_Laws_pop
  simp only [lt_, q, if_pos (show (0 : Int32) < nI (h + 1) from nI_lt (a := 0) (by omega) (by omega)), nI_s1, SR_pI, rW_11_3 hW, cK_pI, cA_pI, SI_pI, up2_s, up2_ne' n1, ix_nI (show h < 2 ^ 31 by omega), cK_of (kW_11 hW), cA_of (kW_14 hW) (nW_14 hW) hh (by decide), Bool.and_true]
/-- how the class's names stand to the reference's -/
def nmOK (key : Int32) (N : Nat → Int32) (nm : Int32 → Int32) : Prop := (key = 0 ∧ N 0 = nm 109 ∧ N 1 = nm 110) ∨ (key = 1 ∧ N 0 = nm 108 ∧ N 1 = nm 102) ∨ (key = 2 ∧ N 0 = nm 104 ∧ N 1 = nm 116 ∧ N 2 = nm 115 ∧ N 3 = nm 119) ∨ (key = 3 ∧ N 0 = nm 100 ∧ N 1 = nm 112)
theorem nm_step {key z v : Int32} {N : Nat → Int32} (hn : nmOK key N nm) (h : (key = 0 ∧ ((v = 109 ∧ z = -1) ∨ (v = 110 ∧ z = -2))) ∨ (key = 1 ∧ ((v = 108 ∧ z = -1) ∨ (v = 102 ∧ z = -2))) ∨ (key = 2 ∧ ((v = 104 ∧ z = -1) ∨ (v = 116 ∧ z = -2) ∨ (v = 115 ∧ z = -3) ∨ (v = 119 ∧ z = -4))) ∨ (key = 3 ∧ ((v = 100 ∧ z = -1) ∨ (v = 112 ∧ z = -2)))) : ∃ i, i < 4 ∧ -1 - z = nI i ∧ N i = nm v ∧ z < 0 ∧ ¬ z < -4 := by
  rcases h with ⟨k, h⟩ | ⟨k, h⟩ | ⟨k, h⟩ | ⟨k, h⟩
  · rcases hn with ⟨-, a, b⟩ | ⟨k', -⟩ | ⟨k', -⟩ | ⟨k', -⟩
    · rcases h with ⟨rfl, rfl⟩ | ⟨rfl, rfl⟩
      · exact ⟨0, by decide, by decide, a, by decide, by decide⟩
      · exact ⟨1, by decide, by decide, b, by decide, by decide⟩
    all_goals exact absurd (k.symm.trans k') (by decide)
  · rcases hn with ⟨k', -⟩ | ⟨-, a, b⟩ | ⟨k', -⟩ | ⟨k', -⟩
    · exact absurd (k.symm.trans k') (by decide)
    · rcases h with ⟨rfl, rfl⟩ | ⟨rfl, rfl⟩
      · exact ⟨0, by decide, by decide, a, by decide, by decide⟩
      · exact ⟨1, by decide, by decide, b, by decide, by decide⟩
    all_goals exact absurd (k.symm.trans k') (by decide)
  · rcases hn with ⟨k', -⟩ | ⟨k', -⟩ | ⟨-, a, b, c, d⟩ | ⟨k', -⟩
    · exact absurd (k.symm.trans k') (by decide)
    · exact absurd (k.symm.trans k') (by decide)
    · rcases h with ⟨rfl, rfl⟩ | ⟨rfl, rfl⟩ | ⟨rfl, rfl⟩ | ⟨rfl, rfl⟩
      · exact ⟨0, by decide, by decide, a, by decide, by decide⟩
      · exact ⟨1, by decide, by decide, b, by decide, by decide⟩
      · exact ⟨2, by decide, by decide, c, by decide, by decide⟩
      · exact ⟨3, by decide, by decide, d, by decide, by decide⟩
    · exact absurd (k.symm.trans k') (by decide)
  · rcases hn with ⟨k', -⟩ | ⟨k', -⟩ | ⟨k', -⟩ | ⟨-, a, b⟩
    · exact absurd (k.symm.trans k') (by decide)
    · exact absurd (k.symm.trans k') (by decide)
    · exact absurd (k.symm.trans k') (by decide)
    · rcases h with ⟨rfl, rfl⟩ | ⟨rfl, rfl⟩
      · exact ⟨0, by decide, by decide, a, by decide, by decide⟩
      · exact ⟨1, by decide, by decide, b, by decide, by decide⟩
def wsP (w : Nat) (σ : Sto) (p : Nat × (Nat → Int32)) (τ : Sto) : Prop := FrW w σ τ ∧ SI τ (w + 11) 4 = nI p.1 ∧ ∀ j, j < p.1 → SI τ (w + 14) j = p.2 j
theorem wsP_push {τ : Sto} {p : Nat × (Nat → Int32)} (h : wsP w σ p τ) (v : Int32) : wsP w σ (p.1 + 1, updF p.2 p.1 v) (pI (pI τ (w + 14) p.1 v) (w + 11) 4 (nI (p.1 + 1))) := by
  obtain ⟨f, q, c⟩ := h
  refine ⟨FrW_4 (FrW_14 f), by rw [SI_pI, up2_s], fun j hj => ?_⟩
  rw [SI_pI, up2_ne' (by omega), SI_pI]
  unfold updF
  show _ = if j = p.1 then v else p.2 j
  by_cases e : j = p.1
  · rw [if_pos e, e, up2_s]
  · rw [if_neg e, up2_nj e]
    have hj' : j < p.1 + 1 := hj
    exact c j (by omega)
theorem wsP_pop {τ : Sto} {h : Nat} {c : Nat → Int32} (q : wsP w σ (h + 1, c) τ) : wsP w σ (h, c) (pI τ (w + 11) 4 (nI h)) := by
  obtain ⟨f, q, c'⟩ := q
  refine ⟨FrW_4 f, by rw [SI_pI, up2_s], fun j hj => ?_⟩
  rw [SI_pI, up2_ne' (by omega)]
  exact c' j (Nat.lt_succ_of_lt hj)
/-- one step of the class -/
theorem ws_step {τ : Sto} (hW : LayW w σ) {st n r i g' : Nat} {key : Int32} (hst : st ≠ w + 11 ∧ st ≠ w + 14) (k1 : Stk σ st = 21) (n1 : Sln σ st = n) (hn : n < 96) (hi : i < n) (hs : rStep key (SI σ st i) (S (r + 2 * i)) (S (r + 2 * i + 1))) (hnm : nmOK key (SI σ (w + 13)) nm) (hp : pileOK S r (i + 1) g') (h : wsP w σ (pst S nm r i) τ) : ∃ τ', wsP w σ (pst S nm r (i + 1)) τ' ∧ ∀ L, b_Laws_worthOf_7 (w + 11) st L (nI i) true τ = L (nI i + 1) true τ' := by
  obtain ⟨g, hg, hc⟩ := hp
  have eg := pst_h (nm := nm) hg
  have gle := pile_le hg
  have hf := h.1
  have hW' : LayW w τ := FrW_L hf hW
  have kt : Stk τ st = 21 := by rw [hf.2.1]; exact k1
  have nt : Sln τ st = n := by rw [hf.2.2.1]; exact n1
  have ez : SI τ st i = SI σ st i := by rw [hf.2.2.2.2.2.2.1 st hst.1 hst.2]
  have lt : nI i < nI n := nI_lt hi (by omega)
  have cA' := cA_of kt nt hi (by omega)
  rcases hs with ⟨w0, z0, v0⟩ | ⟨w1, hz⟩ | ⟨w2, z2, v2⟩
  · have hz0 : ¬ SI τ st i < 0 := by
      rw [ez, z0]
      obtain ⟨m, hm, e⟩ := bd_nat (n := 9999) v0
      rw [e]; exact nI_pos (by omega)
    refine ⟨(pI (pI τ (w + 14) (pst S nm r i).1 (SI τ st i)) (w + 11) 4 (nI ((pst S nm r i).1 + 1))), ?_, fun L => ?_⟩
    rotate_left
    · unfold b_Laws_worthOf_7
      simp only [bd_, lt_, nt, ofN, if_pos lt, ix_nI (show i < 2 ^ 31 by omega), if_neg hz0, cK_of kt, cA', cK_of (kW_11 hW'), Bool.and_true, e_push hW' (show (pst S nm r i).1 < 96 by omega) h.2.1]
    · have := wsP_push h (SI τ st i)
      rw [pst_s, if_neg (by rw [w0]; decide), if_pos w0, ← z0, ← ez]
      exact this
  · obtain ⟨k, hk, e1, e2, zn, z4⟩ := nm_step hnm hz
    have en : SI τ (w + 13) = SI σ (w + 13) := hf.2.2.2.2.2.2.1 (w + 13) (by omega) (by omega)
    refine ⟨(pI (pI τ (w + 14) (pst S nm r i).1 (SI τ (w + 13) k)) (w + 11) 4 (nI ((pst S nm r i).1 + 1))), ?_, fun L => ?_⟩
    rotate_left
    · unfold b_Laws_worthOf_7
      simp only [bd_, lt_, nt, ofN, if_pos lt, ix_nI (show i < 2 ^ 31 by omega), ez, if_pos zn, if_neg z4, e1, ix_nI (show k < 2 ^ 31 by omega), rW_11_2 hW', cK_of kt, cA', cK_of (kW_11 hW'), cA_of (kW_13 hW') (nW_13 hW') hk (by decide), Bool.and_true, e_push hW' (show (pst S nm r i).1 < 96 by omega) h.2.1]
    · have := wsP_push h (SI τ (w + 13) k)
      rw [pst_s, if_neg (by rw [w1]; decide), if_neg (by rw [w1]; decide), ← e2, ← en]
      exact this
  · have zneg : SI σ st i < 0 ∧ SI σ st i < -4 ∧ (SI σ st i = -33 ↔ S (r + 2 * i + 1) = 33) ∧ -SI σ st i = S (r + 2 * i + 1) := by
      rw [z2]
      rcases v2 with e | e | e | e | e | e | e | e | e | e <;> (rw [e]; decide)
    obtain ⟨zn, z4, z33, zm⟩ := zneg
    rcases hc with ⟨a1, -⟩ | ⟨a1, a2, a3, a4⟩ | ⟨a1, a2, a3, a4⟩
    · exact absurd w2 a1
    · obtain ⟨m, hm⟩ : ∃ m, (pst S nm r i).1 = m + 1 := ⟨(pst S nm r i).1 - 1, by omega⟩
      have hq : wsP w σ (m + 1, (pst S nm r i).2) τ := by rw [← hm]; exact h
      have hp := wsP_pop hq
      have ev : SI τ (w + 14) m = (pst S nm r i).2 m := hq.2.2 m (Nat.lt_succ_self m)
      have hWp : LayW w (pI τ (w + 11) 4 (nI m)) := LayT_c hW' Stk_pI Sln_pI SR_pI
      refine ⟨(pI (pI (pI τ (w + 11) 4 (nI m)) (w + 14) m (if (pst S nm r i).2 m = 0 then 1 else 0)) (w + 11) 4 (nI (m + 1))), ?_, fun L => ?_⟩
      rotate_left
      · unfold b_Laws_worthOf_7
        simp only [bd_, lt_, nt, ofN, if_pos lt, ix_nI (show i < 2 ^ 31 by omega), ez, if_pos zn, if_pos z4, if_pos (z33.mpr a2), cK_of kt, cA', cK_of (kW_11 hW'), Bool.and_true, e_pop hW' (show m < 96 by omega) hq.2.1, ev]
        simp only [cK_of (kW_11 hWp), Bool.and_self, e_push hWp (show m < 96 by omega) hp.2.1]
        by_cases c : (pst S nm r i).2 m = 0
        · rw [if_pos c, if_pos c]
        · rw [if_neg c, if_neg c]
      · have := wsP_push hp (if (pst S nm r i).2 m = 0 then 1 else 0)
        rw [pst_s, if_pos w2, if_pos a2, hm, Nat.add_sub_cancel]
        exact this
    · obtain ⟨m, hm⟩ : ∃ m, (pst S nm r i).1 = m + 1 + 1 := ⟨(pst S nm r i).1 - 2, by omega⟩
      have hq : wsP w σ (m + 1 + 1, (pst S nm r i).2) τ := by rw [← hm]; exact h
      have hp := wsP_pop hq
      have hp2 := wsP_pop hp
      have hWp : LayW w (pI τ (w + 11) 4 (nI (m + 1))) := LayT_c hW' Stk_pI Sln_pI SR_pI
      have hWp2 : LayW w (pI (pI τ (w + 11) 4 (nI (m + 1))) (w + 11) 4 (nI m)) := LayT_c hWp Stk_pI Sln_pI SR_pI
      have ev1 : SI τ (w + 14) (m + 1) = (pst S nm r i).2 (m + 1) := hq.2.2 (m + 1) (Nat.lt_succ_self _)
      have ev2 : SI (pI τ (w + 11) 4 (nI (m + 1))) (w + 14) m = (pst S nm r i).2 m := hp.2.2 m (Nat.lt_succ_self _)
      refine ⟨(pI (pI (pI (pI τ (w + 11) 4 (nI (m + 1))) (w + 11) 4 (nI m)) (w + 14) m (jn (S (r + 2 * i + 1)) ((pst S nm r i).2 m) ((pst S nm r i).2 (m + 1)))) (w + 11) 4 (nI (m + 1))), ?_, fun L => ?_⟩
      rotate_left
      · unfold b_Laws_worthOf_7
        simp only [bd_, lt_, nt, ofN, if_pos lt, ix_nI (show i < 2 ^ 31 by omega), ez, if_pos zn, if_pos z4, if_neg (fun e => a2 (z33.mp e)), cK_of kt, cA', cK_of (kW_11 hW'), Bool.and_true, e_pop hW' (show m + 1 < 96 by omega) hq.2.1, ev1, cK_of (kW_11 hWp), e_pop hWp (show m < 96 by omega) hp.2.1, ev2, e_joinedC, zm, cK_of (kW_11 hWp2), e_push hWp2 (show m < 96 by omega) hp2.2.1]
      · have := wsP_push hp2 (jn (S (r + 2 * i + 1)) ((pst S nm r i).2 m) ((pst S nm r i).2 (m + 1)))
        rw [pst_s, if_pos w2, if_neg a2, hm, show m + 1 + 1 - 1 = m + 1 by omega, show m + 1 + 1 - 2 = m by omega]
        exact this
end WO
