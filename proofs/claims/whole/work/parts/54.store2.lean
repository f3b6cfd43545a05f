/-! loops that write; whole rows written; the other pieces of what belongs together -/
section ST2
variable {α β : Type} {σ ρ : Sto} {X Y w : Nat}
theorem lp_ex {body : (Int32 → Bool → Sto → Rs α) → Int32 → Bool → Sto → Rs α} {bad : Int32 → Bool → Sto → Rs α} (N : Nat) (P : Nat → Sto → Prop) (K : Sto → Rs α) (hN : N < 69999)
    (hstep : ∀ i τ, i < N → P i τ → ∃ τ', P (i + 1) τ' ∧ ∀ L, body L (nI i) true τ = L (nI i + 1) true τ') (hexit : ∀ L τ, P N τ → body L (nI N) true τ = K τ) (τ : Sto) (h0 : P 0 τ) :
    ∃ τ', P N τ' ∧ lp_ body bad fuel_ 0 true τ = K τ' := by
  have key : ∀ n, ∀ i τ, i ≤ N → N - i < n → P i τ → ∃ τ', P N τ' ∧ lp_ body bad n (nI i) true τ = K τ' := by
    intro n
    induction n with
    | zero => exact fun i τ _ h _ => absurd h (Nat.not_lt_zero _)
    | succ n ih =>
      intro i τ hi hn hp
      rw [lp_S]
      by_cases hlt : i < N
      · obtain ⟨τ1, p1, e1⟩ := hstep i τ hlt hp
        rw [e1, show nI i + 1 = nI (i + 1) from nI_1 i]
        exact ih (i + 1) τ1 hlt (by omega) p1
      · have e : i = N := by omega
        subst e
        exact ⟨τ, hp, hexit _ τ hp⟩
  exact key fuel_ 0 τ (Nat.zero_le _) (by show N - 0 < 70000; omega) h0
/-- two loops side by side -/
theorem lp_ex2 {body : (Int32 → Bool → Sto → Rs α) → Int32 → Bool → Sto → Rs α} {bad : Int32 → Bool → Sto → Rs α} {body' : (Int32 → Bool → Sto → Rs β) → Int32 → Bool → Sto → Rs β} {bad' : Int32 → Bool → Sto → Rs β} (N : Nat) (P : Nat → Sto → Sto → Prop) (K : Sto → Rs α) (K' : Sto → Rs β) (hN : N < 69999)
    (hstep : ∀ i τ υ, i < N → P i τ υ → ∃ τ' υ', P (i + 1) τ' υ' ∧ (∀ L, body L (nI i) true τ = L (nI i + 1) true τ') ∧ ∀ L, body' L (nI i) true υ = L (nI i + 1) true υ') (hexit : ∀ L τ υ, P N τ υ → body L (nI N) true τ = K τ) (hexit' : ∀ L τ υ, P N τ υ → body' L (nI N) true υ = K' υ) (τ υ : Sto) (h0 : P 0 τ υ) :
    ∃ τ' υ', P N τ' υ' ∧ lp_ body bad fuel_ 0 true τ = K τ' ∧ lp_ body' bad' fuel_ 0 true υ = K' υ' := by
  have key : ∀ n, ∀ i τ υ, i ≤ N → N - i < n → P i τ υ → ∃ τ' υ', P N τ' υ' ∧ lp_ body bad n (nI i) true τ = K τ' ∧ lp_ body' bad' n (nI i) true υ = K' υ' := by
    intro n
    induction n with
    | zero => exact fun i τ υ _ h _ => absurd h (Nat.not_lt_zero _)
    | succ n ih =>
      intro i τ υ hi hn hp
      rw [lp_S, lp_S]
      by_cases hlt : i < N
      · obtain ⟨τ1, υ1, p1, e1, e2⟩ := hstep i τ υ hlt hp
        rw [e1, e2, show nI i + 1 = nI (i + 1) from nI_1 i]
        exact ih (i + 1) τ1 υ1 hlt (by omega) p1
      · have e : i = N := by omega
        subst e
        exact ⟨τ, υ, hp, hexit _ τ υ hp, hexit' _ τ υ hp⟩
  exact key fuel_ 0 τ υ (Nat.zero_le _) (by show N - 0 < 70000; omega) h0
/-- a counting loop with anything carried -/
theorem lp_accB {body : (β → Int32 → Bool → Sto → Rs α) → β → Int32 → Bool → Sto → Rs α} {bad : β → Int32 → Bool → Sto → Rs α} {σ : Sto} (N : Nat) (g : Nat → β → β) (k : β → Rs α) (hN : N < 69999)
    (hstep : ∀ L i a, i < N → body L a (nI i) true σ = L (g i a) (nI i + 1) true σ) (hexit : ∀ L a, body L a (nI N) true σ = k a) (a : β) :
    lp_ body bad fuel_ a 0 true σ = k (foldI g 0 N a) := by
  have key : ∀ n, ∀ i a, i ≤ N → N - i < n → lp_ body bad n a (nI i) true σ = k (foldI g i (N - i) a) := by
    intro n
    refine lp_Q (fun n (L : β → Int32 → Bool → Sto → Rs α) => ∀ i a, i ≤ N → N - i < n → L a (nI i) true σ = k (foldI g i (N - i) a)) (fun i a _ h => absurd h (Nat.not_lt_zero _)) (fun n L ih i a hi hn => ?_) n
    by_cases hlt : i < N
    · rw [hstep L i a hlt, show nI i + 1 = nI (i + 1) from nI_1 i, ih (i + 1) (g i a) hlt (by omega), show N - i = (N - (i + 1)) + 1 by omega]
      rfl
    · have e : i = N := by omega
      subst e
      rw [hexit L a, Nat.sub_self]
      rfl
  exact key fuel_ 0 a (Nat.zero_le _) (by show N - 0 < 70000; omega)
/-- a row written from b on -/
def wf (F g : Nat → β) (b i : Nat) : Nat → β := fun j => if b ≤ j ∧ j < b + i then F j else g j
theorem wf_0 {F g : Nat → β} {b : Nat} : wf F g b 0 = g := by
  funext j
  unfold wf
  rw [if_neg (by omega)]
theorem wf_s {F g : Nat → β} {b i : Nat} : (fun x => if x = b + i then F (b + i) else wf F g b i x) = wf F g b (i + 1) := by
  funext j
  unfold wf
  by_cases e : j = b + i
  · rw [if_pos e, if_pos (by omega), e]
  · rw [if_neg e]
    by_cases h : b ≤ j ∧ j < b + i
    · rw [if_pos h, if_pos (by omega)]
    · rw [if_neg h, if_neg (by omega)]
theorem rI_id {a : Nat} : rI σ a (SI σ a) = σ := by
  have e : up1 σ.2.2.2.1 a (SI σ a) = σ.2.2.2.1 := by
    funext x
    unfold up1
    by_cases h : x = a
    · rw [if_pos h, h]; rfl
    · rw [if_neg h]
  unfold rI
  rw [e]
theorem rL_id {a : Nat} : rL σ a (SL σ a) = σ := by
  have e : up1 σ.2.2.2.2.1 a (SL σ a) = σ.2.2.2.2.1 := by
    funext x
    unfold up1
    by_cases h : x = a
    · rw [if_pos h, h]; rfl
    · rw [if_neg h]
  unfold rL
  rw [e]
theorem up2_up1 {f : Nat → Nat → β} {a j : Nat} {g : Nat → β} {v : β} : up2 (up1 f a g) a j v = up1 f a (fun x => if x = j then v else g x) := by
  funext x y
  unfold up2 up1
  by_cases h : x = a
  · rw [if_pos h, if_pos h, if_pos h]
  · rw [if_neg h, if_neg h, if_neg h]
theorem pI_rI {a j : Nat} {f : Nat → Int32} {v : Int32} : pI (rI σ a f) a j v = rI σ a (fun x => if x = j then v else f x) := by
  show (σ.1, σ.2.1, σ.2.2.1, up2 (up1 σ.2.2.2.1 a f) a j v, σ.2.2.2.2) = _
  rw [up2_up1]
  rfl
theorem pL_rL {a j : Nat} {f : Nat → Int64} {v : Int64} : pL (rL σ a f) a j v = rL σ a (fun x => if x = j then v else f x) := by
  show (σ.1, σ.2.1, σ.2.2.1, σ.2.2.2.1, up2 (up1 σ.2.2.2.2.1 a f) a j v, σ.2.2.2.2.2) = _
  rw [up2_up1]
  rfl
theorem up1_s {f : Nat → β} {a : Nat} {v : β} : up1 f a v a = v := by simp [up1]
theorem up1_ne' {f : Nat → β} {a x : Nat} {v : β} (h : x ≠ a) : up1 f a v x = f x := by simp [up1, h]
theorem cK_rI {a x k : Nat} {f : Nat → Int32} : cK (rI σ a f) x k = cK σ x k := rfl
theorem cA_rI {a x k : Nat} {f : Nat → Int32} {i : Int32} : cA (rI σ a f) x k i = cA σ x k i := rfl
theorem cK_rL {a x k : Nat} {f : Nat → Int64} : cK (rL σ a f) x k = cK σ x k := rfl
theorem cA_rL {a x k : Nat} {f : Nat → Int64} {i : Int32} : cA (rL σ a f) x k i = cA σ x k i := rfl
theorem cK_pL {a j x k : Nat} {v : Int64} : cK (pL σ a j v) x k = cK σ x k := rfl
theorem cA_pL {a j x k : Nat} {v : Int64} {i : Int32} : cA (pL σ a j v) x k i = cA σ x k i := rfl
theorem ofN (n : Nat) : Int32.ofNat n = nI n := rfl
/-- Arrays.fill, longs -/
theorem e_fillL {a n : Nat} (hk : Stk σ a = 23) (hn : Sln σ a = n) (h : n < 60000) (v : Int64) : f_Arrays_fill_rJJV a v true σ = ((), true, rL σ a (wf (fun _ => v) (SL σ a) 0 n)) := by
  unfold f_Arrays_fill_rJJV
  simp only [lt_, cK_of hk, Bool.and_true, ofN, hn]
  obtain ⟨τ, p, e⟩ := lp_ex (body := b_Arrays_fill_rJJV_6 a v (nI n)) (bad := fun (x3 : Int32) (b : Bool) (σ : Sto) => ((), false, σ)) n (fun i τ => τ = rL σ a (wf (fun _ => v) (SL σ a) 0 i)) (fun τ => ((), true, τ)) (by omega) (fun i τ hi p => by
    subst p
    refine ⟨_, rfl, fun L => ?_⟩
    unfold b_Arrays_fill_rJJV_6
    simp only [lt_, if_pos (show nI i < nI n from nI_lt hi (by omega)), cA_rL, cA_of hk hn hi (by omega), ix_nI (show i < 2 ^ 31 by omega), Bool.and_true, pL_rL]
    rw [← wf_s, Nat.zero_add]) (fun L τ p => by
    unfold b_Arrays_fill_rJJV_6
    rw [if_neg (nI_nlt (Nat.le_refl n) (by omega))]) σ (by rw [wf_0, rL_id])
  rw [e, p]
theorem e_fillI {a n : Nat} (hk : Stk σ a = 21) (hn : Sln σ a = n) (h : n < 60000) (v : Int32) : f_Arrays_fill_rIIV a v true σ = ((), true, rI σ a (wf (fun _ => v) (SI σ a) 0 n)) := by
  unfold f_Arrays_fill_rIIV
  simp only [lt_, cK_of hk, Bool.and_true, ofN, hn]
  obtain ⟨τ, p, e⟩ := lp_ex (body := b_Arrays_fill_rIIV_5 a v (nI n)) (bad := fun (x3 : Int32) (b : Bool) (σ : Sto) => ((), false, σ)) n (fun i τ => τ = rI σ a (wf (fun _ => v) (SI σ a) 0 i)) (fun τ => ((), true, τ)) (by omega) (fun i τ hi p => by
    subst p
    refine ⟨_, rfl, fun L => ?_⟩
    unfold b_Arrays_fill_rIIV_5
    simp only [lt_, if_pos (show nI i < nI n from nI_lt hi (by omega)), cA_rI, cA_of hk hn hi (by omega), ix_nI (show i < 2 ^ 31 by omega), Bool.and_true, pI_rI]
    rw [← wf_s, Nat.zero_add]) (fun L τ p => by
    unfold b_Arrays_fill_rIIV_5
    rw [if_neg (nI_nlt (Nat.le_refl n) (by omega))]) σ (by rw [wf_0, rI_id])
  rw [e, p]
/-- tape, sheets, what waits: the worlds stay -/
theorem REL_g {σ' ρ' : Sto} (h : REL X Y σ ρ) (h0 : Shn σ' = Shn σ) (s1 : Stk σ' = Stk σ) (s2 : Sln σ' = Sln σ) (s3 : SR σ' = SR σ) (s5 : Scs σ' = Scs σ) (s6 : ∀ a, (X + 1 ≤ a ∧ a ≤ X + 159) ∨ X + 173 ≤ a → SI σ' a = SI σ a) (s7 : SI σ' X 7 = SI σ X 7)
    (k1 : Stk ρ' = Stk ρ) (k2 : Sln ρ' = Sln ρ) (k3 : SR ρ' = SR ρ) (k6 : SI ρ' (Y + 1) = SI ρ (Y + 1)) (k7 : SI ρ' (Y + 2) = SI ρ (Y + 2)) (k8 : SI ρ' Y 3 = SI ρ Y 3) (ht : rTape X Y σ' ρ') (hs : rSh X Y σ' ρ') (hw : rTell X Y σ' ρ') : REL X Y σ' ρ' := by
  obtain ⟨g1, g2, g3, g4, g5, g6, g7, g8, g9, g10⟩ := h
  refine ⟨g1, by rw [h0]; exact g2, LayX_c g3 s1 s2 s3, LayY_c g4 k1 k2 k3, by rw [s5]; exact g5, RWd_c g6 h0 s1 s2 s3 (fun a ha => s6 a (by omega)) (fun j _ => by rw [k6]), ?_, ht, hs, hw⟩
  rw [s7, k8, k7]
  rcases g7 with q | ⟨z1, z2, z3⟩
  · exact Or.inl q
  · exact Or.inr ⟨z1, z2, RWd_c z3 h0 s1 s2 s3 (fun a ha => s6 a (by omega)) (fun _ _ => rfl)⟩
-- sheets: where they lie
theorem rX_sh (h : LayX X σ) {k : Nat} (hk : k < 4) : SR σ (X + 163) k = X + 164 + 2 * k := by
  rcases (show k = 0 ∨ k = 1 ∨ k = 2 ∨ k = 3 by omega) with rfl | rfl | rfl | rfl
  · exact rX_163_0 h
  · exact rX_163_1 h
  · exact rX_163_2 h
  · exact rX_163_3 h
theorem kX_sh (h : LayX X σ) {k : Nat} (hk : k < 4) : Stk σ (X + 164 + 2 * k) = 6 := by
  rcases (show k = 0 ∨ k = 1 ∨ k = 2 ∨ k = 3 by omega) with rfl | rfl | rfl | rfl
  · exact kX_164 h
  · exact kX_166 h
  · exact kX_168 h
  · exact kX_170 h
theorem rX_sr (h : LayX X σ) {k : Nat} (hk : k < 4) : SR σ (X + 164 + 2 * k) 2 = X + 165 + 2 * k := by
  rcases (show k = 0 ∨ k = 1 ∨ k = 2 ∨ k = 3 by omega) with rfl | rfl | rfl | rfl
  · exact rX_164_2 h
  · exact rX_166_2 h
  · exact rX_168_2 h
  · exact rX_170_2 h
theorem kX_sr (h : LayX X σ) {k : Nat} (hk : k < 4) : Stk σ (X + 165 + 2 * k) = 23 := by
  rcases (show k = 0 ∨ k = 1 ∨ k = 2 ∨ k = 3 by omega) with rfl | rfl | rfl | rfl
  · exact kX_165 h
  · exact kX_167 h
  · exact kX_169 h
  · exact kX_171 h
theorem nX_sr (h : LayX X σ) {k : Nat} (hk : k < 4) : Sln σ (X + 165 + 2 * k) = 24 := by
  rcases (show k = 0 ∨ k = 1 ∨ k = 2 ∨ k = 3 by omega) with rfl | rfl | rfl | rfl
  · exact nX_165 h
  · exact nX_167 h
  · exact nX_169 h
  · exact nX_171 h
theorem e_hasSheet (h : LayX X σ) (v : Int32) : f_Trail_hasSheet X v true σ = (inR v 0 3, true, σ) := by
  unfold f_Trail_hasSheet
  simp only [bd_, e_within, rX_0_4 h, nX_163 h, ofN, show nI 4 - 1 = 3 by decide, cK_of (kX_0 h), cK_of (kX_163 h), inR_zok, Bool.and_true]
theorem e_isSheet (v : Int32) (b : Bool) (ρ : Sto) : f_Model_isSheet v b ρ = (inR v 0 3, b, ρ) := by
  unfold f_Model_isSheet
  simp only [bd_, e_isInL v 0 3 0 3 rfl rfl, inR_zok, Bool.and_true]
theorem OpOK_j {Rel : Sto → Sto → Prop} {C : Rs Int32} {R : Sto → Rs Int32} (c : Int32) (z : Nat) (σ' ρ' : Sto) (hC : C = (c, true, σ')) (hz : Shn σ' = z) (hR : R (stn ρ z) = (c, true, ρ')) (hn : Shn ρ' = z) (hr : Rel σ' ρ') : OpOK Rel C R ρ := by
  subst hz
  exact OpOK_i c σ' ρ' hC hR hn hr
theorem op_40 : Op_40 X Y (REL X Y) := by
  intro v σ ρ h
  have hX := h.2.2.1
  have hY : LayY Y (stn ρ (Shn σ)) := h.2.2.2.1
  obtain ⟨n, z1, z2, z3, z4⟩ := h.2.2.2.2.2.2.2.2.2
  by_cases hq : n < 60
  · have hlt : nI n < (60 : Int32) := nI_lt (b := 60) hq (by decide)
    have hne : ¬ nI n = (60 : Int32) := fun e => by have := (nI_eq (b := 60) (by omega) (by decide)).mp e; omega
    refine OpOK_i (nI n + 1) (pI (pI σ (X + 172) n v) X 6 (nI n + 1)) (pI (pI (stn ρ (Shn σ)) (Y + 20) n v) Y 33 (nI n + 1)) ?_ ?_ rfl ?_
    · have n1 : X ≠ X + 172 := by omega
      unfold f_Trail_tell
      simp only [lt_, z2, if_pos hlt, rX_0_5 hX, SR_pI, cK_pI, cA_pI, SI_pI, up2_ne' n1, up2_s, ix_nI (show n < 2 ^ 31 by omega), cK_of (kX_0 hX), cA_of (kX_172 hX) (nX_172 hX) hq (by decide), Bool.and_true]
    · show f_Model_tell Y v true (stn ρ (Shn σ)) = _
      have n1 : Y ≠ Y + 20 := by omega
      unfold f_Model_tell
      simp only [lt_, SI_stn, z3, if_neg hne, rY_32 hY, SR_pI, cK_pI, cA_pI, SI_pI, up2_ne' n1, up2_s, ix_nI (show n < 2 ^ 31 by omega), cK_of (kY_0 hY), cA_of (kY_20 hY) (nY_20 hY) hq (by decide), Bool.and_true]
    · refine REL_g h rfl rfl rfl rfl rfl (fun a ha => by rw [SI_pI, up2_ne (by omega), SI_pI, up2_ne (by omega)]) (by rw [SI_pI, up2_nj (by omega), SI_pI, up2_ne' (by omega)]) rfl rfl rfl (by rw [SI_pI, up2_ne (by omega), SI_pI, up2_ne (by omega)]; rfl) (by rw [SI_pI, up2_ne (by omega), SI_pI, up2_ne (by omega)]; rfl) (by rw [SI_pI, up2_nj (by omega), SI_pI, up2_ne' (by omega)]; rfl) (rTape_c h.2.2.2.2.2.2.2.1 (by rw [SI_pI, up2_ne (by omega), SI_pI, up2_ne (by omega)]) (by rw [SI_pI, up2_ne (by omega), SI_pI, up2_ne (by omega)]) (by rw [SI_pI, up2_nj (by omega), SI_pI, up2_ne' (by omega)]; rfl) (by rw [SI_pI, up2_ne (by omega), SI_pI, up2_ne (by omega)]; rfl)) (rSh_c h.2.2.2.2.2.2.2.2.1 (fun a _ _ => ⟨by rw [SI_pI, up2_ne (by omega), SI_pI, up2_ne (by omega)], rfl⟩) (by rw [SI_pI, up2_ne (by omega), SI_pI, up2_ne (by omega)]; rfl) (by rw [SI_pI, up2_ne (by omega), SI_pI, up2_ne (by omega)]; rfl) rfl) ?_
      refine ⟨n + 1, hq, by rw [SI_pI, up2_s, nI_1], by rw [SI_pI, up2_s, nI_1], fun k hk => ?_⟩
      have c0 : SI (pI (pI σ (X + 172) n v) X 6 (nI n + 1)) (X + 172) k = if k = n then v else SI σ (X + 172) k := by
        rw [SI_pI, up2_ne' (by omega), SI_pI]
        by_cases e : k = n
        · rw [if_pos e, e, up2_s]
        · rw [if_neg e, up2_nj e]
      have m0 : SI (pI (pI (stn ρ (Shn σ)) (Y + 20) n v) Y 33 (nI n + 1)) (Y + 20) k = if k = n then v else SI ρ (Y + 20) k := by
        rw [SI_pI, up2_ne' (by omega), SI_pI]
        by_cases e : k = n
        · rw [if_pos e, e, up2_s]
        · rw [if_neg e, up2_nj e]; rfl
      rw [c0, m0]
      by_cases e : k = n
      · rw [if_pos e, if_pos e]
      · rw [if_neg e, if_neg e]
        exact z4 k (by omega)
  · have hq' : n = 60 := by omega
    subst hq'
    refine OpOK_b (-1000000003) h ?_ ?_
    · unfold f_Trail_tell
      simp only [lt_, z2, if_neg (show ¬ nI 60 < (60 : Int32) by decide), cK_of (kX_0 hX), Bool.and_true]
    · show f_Model_tell Y v true (stn ρ (Shn σ)) = _
      unfold f_Model_tell
      simp only [lt_, SI_stn, z3, if_pos (show nI 60 = (60 : Int32) from rfl), cK_of (kY_0 hY), Bool.and_true]
end ST2
