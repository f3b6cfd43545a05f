/-! rows of pictures: the plain part -/
section AL
/-- a picture that may follow another -/
def fwP (S : Nat → Int32) (v : Int32) (n a b : Nat) : Prop := (0 < S (520 + 2 * b) - S (520 + 2 * a) ∧ ¬ S (521 + 2 * b) - S (521 + 2 * a) < 0 ∧ ¬ v * (S (520 + 2 * b) - S (520 + 2 * a)) < S (521 + 2 * b) - S (521 + 2 * a)) ∧ a < n ∧ b < n
/-- the best that follows a among the first k -/
noncomputable def bstP (fw : Nat → Nat → Prop) (M E : Nat → Int32) (a : Nat) : Nat → Option Nat
  | 0 => none
  | k + 1 => @ite _ (fw a k) (Classical.propDecidable _) (match bstP fw M E a k with | none => some k | some x => if M x < M k ∨ (M k = M x ∧ E x < E k) then some k else some x) (bstP fw M E a k)
variable {fw : Nat → Nat → Prop} {M E N M' E' N' : Nat → Int32} {a n : Nat}
theorem bstP_in : ∀ {k x : Nat}, bstP fw M E a k = some x → x < k ∧ fw a x
  | 0, _, h => by cases h
  | k + 1, x, h => by
    unfold bstP at h
    by_cases c : fw a k
    · rw [if_pos c] at h
      cases hb : bstP fw M E a k with
      | none =>
        rw [hb] at h
        dsimp only at h
        injection h with h
        subst h
        exact ⟨by omega, c⟩
      | some y =>
        rw [hb] at h
        dsimp only at h
        have ih := bstP_in hb
        by_cases d : M y < M k ∨ (M k = M y ∧ E y < E k)
        · rw [if_pos d] at h
          injection h with h
          subst h
          exact ⟨by omega, c⟩
        · rw [if_neg d] at h
          injection h with h
          subst h
          exact ⟨by omega, ih.2⟩
    · rw [if_neg c] at h
      have ih := bstP_in h
      exact ⟨by omega, ih.2⟩
theorem bstP_congr : ∀ {k : Nat}, (∀ b, b < k → fw a b → M b = M' b ∧ E b = E' b) → bstP fw M E a k = bstP fw M' E' a k
  | 0, _ => rfl
  | k + 1, h => by
    have ih := bstP_congr (k := k) (fun b hb => h b (by omega))
    unfold bstP
    by_cases c : fw a k
    · rw [if_pos c, if_pos c, ih]
      cases hb : bstP fw M' E' a k with
      | none => rfl
      | some y =>
        have hy := bstP_in hb
        dsimp only
        rw [(h y (by omega) hy.2).1, (h y (by omega) hy.2).2, (h k (by omega) c).1, (h k (by omega) c).2]
    · rw [if_neg c, if_neg c, ih]
theorem bstP_y {k : Nat} (c : fw a k) : bstP fw M E a (k + 1) = (match bstP fw M E a k with | none => some k | some x => if M x < M k ∨ (M k = M x ∧ E x < E k) then some k else some x) := by
  show @ite _ (fw a k) (Classical.propDecidable _) _ _ = _
  rw [if_pos c]
theorem bstP_n {k : Nat} (c : ¬ fw a k) : bstP fw M E a (k + 1) = bstP fw M E a k := by
  show @ite _ (fw a k) (Classical.propDecidable _) _ _ = _
  rw [if_neg c]
/-- an answer that may be none -/
def cdO : Option Nat → Int32
  | none => -1
  | some x => nI x
/-- what a's cells must hold -/
def spA (fw : Nat → Nat → Prop) (ml : Nat → Int32) (n : Nat) (M E N : Nat → Int32) (a : Nat) : Prop := match bstP fw M E a n with | none => M a = 1 ∧ E a = ml a ∧ N a = -1 | some x => M a = 1 + M x ∧ E a = E x ∧ N a = nI x
theorem spA_congr {ml : Nat → Int32} (h : ∀ b, b < n → fw a b ∨ b = a → M b = M' b ∧ E b = E' b) (hN : N a = N' a) (ha : a < n) (hs : spA fw ml n M E N a) : spA fw ml n M' E' N' a := by
  unfold spA at hs ⊢
  have e := bstP_congr (fw := fw) (M := M) (E := E) (M' := M') (E' := E') (a := a) (k := n) (fun b hb hf => h b hb (Or.inl hf))
  rw [← e]
  obtain ⟨h1, h2⟩ := h a ha (Or.inr rfl)
  rw [← h1, ← h2, ← hN]
  cases hb : bstP fw M E a n with
  | none => rw [hb] at hs; exact hs
  | some x =>
    rw [hb] at hs
    have hx := bstP_in hb
    obtain ⟨g1, g2⟩ := h x hx.1 (Or.inl hx.2)
    dsimp only at hs ⊢
    rw [← g1, ← g2]
    exact hs
/-- one filling alone -/
theorem spA_one {ml : Nat → Int32} {dy : Nat → Int} {K : Int} (hdy : ∀ a b, fw a b → dy a < dy b) (hK : ∀ a, dy a ≤ K) (h : ∀ a, a < n → spA fw ml n M E N a) (h' : ∀ a, a < n → spA fw ml n M' E' N' a) : ∀ a, a < n → M a = M' a ∧ E a = E' a ∧ N a = N' a := by
  have key : ∀ z : Nat, ∀ a, a < n → (K - dy a).toNat ≤ z → M a = M' a ∧ E a = E' a ∧ N a = N' a := by
    intro z
    induction z with
    | zero =>
      intro a ha hz
      have hno : ∀ b, b < n → ¬ fw a b := fun b hb hf => by have := hdy a b hf; have := hK b; omega
      have e1 : ∀ (M E : Nat → Int32), bstP fw M E a n = none := fun M E => by
        cases hb : bstP fw M E a n with
        | none => rfl
        | some x => exact absurd (bstP_in hb).2 (hno x (bstP_in hb).1)
      have g := h a ha
      have g' := h' a ha
      unfold spA at g g'
      rw [e1] at g g'
      exact ⟨g.1.trans g'.1.symm, g.2.1.trans g'.2.1.symm, g.2.2.trans g'.2.2.symm⟩
    | succ z ih =>
      intro a ha hz
      have hb : ∀ b, b < n → fw a b → M b = M' b ∧ E b = E' b := fun b hb hf => by
        have := hdy a b hf
        have := hK b
        have r := ih b hb (by omega)
        exact ⟨r.1, r.2.1⟩
      have g := h a ha
      have g' := h' a ha
      unfold spA at g g'
      rw [← bstP_congr hb] at g'
      cases hx : bstP fw M E a n with
      | none =>
        rw [hx] at g g'
        exact ⟨g.1.trans g'.1.symm, g.2.1.trans g'.2.1.symm, g.2.2.trans g'.2.2.symm⟩
      | some x =>
        rw [hx] at g g'
        dsimp only at g g'
        obtain ⟨x1, x2⟩ := hb x (bstP_in hx).1 (bstP_in hx).2
        rw [← x1, ← x2] at g'
        exact ⟨g.1.trans g'.1.symm, g.2.1.trans g'.2.1.symm, g.2.2.trans g'.2.2.symm⟩
  exact fun a ha => key _ a ha (Nat.le_refl _)
end AL
