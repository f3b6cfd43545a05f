/-! kinds of places -/
theorem if_pair {c : Prop} [Decidable c] {a b : Int32} {x : Bool × Sto} : (if c then (a, x) else (b, x)) = (if c then a else b, x) := by split <;> rfl
section KI
variable {X Y w : Nat} {σ ρ : Sto}
def isOfR (m : Nat) (t : Int32) : Int32 := match m with
  | 0 => if nI 0 = t then 1 else 0
  | 1 => if nI 1 = t then 1 else (if nI 0 = t then 1 else 0)
  | 2 => if nI 2 = t then 1 else (if nI 1 = t then 1 else (if nI 0 = t then 1 else 0))
  | 3 => if nI 3 = t then 1 else (if nI 2 = t then 1 else (if nI 1 = t then 1 else (if nI 0 = t then 1 else 0)))
  | 4 => if nI 4 = t then 1 else (if nI 0 = t then 1 else 0)
  | _ => if nI 5 = t then 1 else (if nI 1 = t then 1 else (if nI 0 = t then 1 else 0))
theorem kaT_0 : kaT (ix (nI 0)) = -1 := rfl
theorem kaT_1 : kaT (ix (nI 1)) = nI 0 := rfl
theorem kaT_2 : kaT (ix (nI 2)) = nI 1 := rfl
theorem kaT_3 : kaT (ix (nI 3)) = nI 2 := rfl
theorem kaT_4 : kaT (ix (nI 4)) = nI 0 := rfl
theorem kaT_5 : kaT (ix (nI 5)) = nI 1 := rfl
theorem cs_t {b : Nat} (h : b ≠ 0) : (!decide (b = 0)) = true := by simp [h]
theorem e_isOf_0 (hc : Scs σ 0 ≠ 0) (t : Int32) (bad : Int32 → Int32 → Bool → Sto → Rs Int32) : lp_ (b_Ground_isOf_10 t) bad fuel_ (nI 0) 0 true σ = (isOfR 0 t, true, σ) := by
  obtain ⟨N, hN⟩ : ∃ N, fuel_ = N + 2 := ⟨69998, rfl⟩
  rw [hN]
  simp only [lp_S, b_Ground_isOf_10, lt_, show ((0 : Int32) < 6) = True by decide, show (((0 : Int32) + 1) < 6) = True by decide, show (nI 0 < 0) = False by decide, show ((-1 : Int32) < 0) = True by decide, show inb (nI 0) 6 = true by decide, kaT_0, cs_t hc, Bool.and_true, Bool.and_self, if_true, if_false, isOfR]
  simp only [if_pair]
theorem e_isOf_1 (hc : Scs σ 0 ≠ 0) (t : Int32) (bad : Int32 → Int32 → Bool → Sto → Rs Int32) : lp_ (b_Ground_isOf_10 t) bad fuel_ (nI 1) 0 true σ = (isOfR 1 t, true, σ) := by
  obtain ⟨N, hN⟩ : ∃ N, fuel_ = N + 3 := ⟨69997, rfl⟩
  rw [hN]
  simp only [lp_S, b_Ground_isOf_10, lt_, show ((0 : Int32) < 6) = True by decide, show (((0 : Int32) + 1) < 6) = True by decide, show ((((0 : Int32) + 1) + 1) < 6) = True by decide, show (nI 1 < 0) = False by decide, show (nI 0 < 0) = False by decide, show ((-1 : Int32) < 0) = True by decide, show inb (nI 1) 6 = true by decide, show inb (nI 0) 6 = true by decide, kaT_1, kaT_0, cs_t hc, Bool.and_true, Bool.and_self, if_true, if_false, isOfR]
  simp only [if_pair]
theorem e_isOf_2 (hc : Scs σ 0 ≠ 0) (t : Int32) (bad : Int32 → Int32 → Bool → Sto → Rs Int32) : lp_ (b_Ground_isOf_10 t) bad fuel_ (nI 2) 0 true σ = (isOfR 2 t, true, σ) := by
  obtain ⟨N, hN⟩ : ∃ N, fuel_ = N + 4 := ⟨69996, rfl⟩
  rw [hN]
  simp only [lp_S, b_Ground_isOf_10, lt_, show ((0 : Int32) < 6) = True by decide, show (((0 : Int32) + 1) < 6) = True by decide, show ((((0 : Int32) + 1) + 1) < 6) = True by decide, show (((((0 : Int32) + 1) + 1) + 1) < 6) = True by decide, show (nI 2 < 0) = False by decide, show (nI 1 < 0) = False by decide, show (nI 0 < 0) = False by decide, show ((-1 : Int32) < 0) = True by decide, show inb (nI 2) 6 = true by decide, show inb (nI 1) 6 = true by decide, show inb (nI 0) 6 = true by decide, kaT_2, kaT_1, kaT_0, cs_t hc, Bool.and_true, Bool.and_self, if_true, if_false, isOfR]
  simp only [if_pair]
theorem e_isOf_3 (hc : Scs σ 0 ≠ 0) (t : Int32) (bad : Int32 → Int32 → Bool → Sto → Rs Int32) : lp_ (b_Ground_isOf_10 t) bad fuel_ (nI 3) 0 true σ = (isOfR 3 t, true, σ) := by
  obtain ⟨N, hN⟩ : ∃ N, fuel_ = N + 5 := ⟨69995, rfl⟩
  rw [hN]
  simp only [lp_S, b_Ground_isOf_10, lt_, show ((0 : Int32) < 6) = True by decide, show (((0 : Int32) + 1) < 6) = True by decide, show ((((0 : Int32) + 1) + 1) < 6) = True by decide, show (((((0 : Int32) + 1) + 1) + 1) < 6) = True by decide, show ((((((0 : Int32) + 1) + 1) + 1) + 1) < 6) = True by decide, show (nI 3 < 0) = False by decide, show (nI 2 < 0) = False by decide, show (nI 1 < 0) = False by decide, show (nI 0 < 0) = False by decide, show ((-1 : Int32) < 0) = True by decide, show inb (nI 3) 6 = true by decide, show inb (nI 2) 6 = true by decide, show inb (nI 1) 6 = true by decide, show inb (nI 0) 6 = true by decide, kaT_3, kaT_2, kaT_1, kaT_0, cs_t hc, Bool.and_true, Bool.and_self, if_true, if_false, isOfR]
  simp only [if_pair]
theorem e_isOf_4 (hc : Scs σ 0 ≠ 0) (t : Int32) (bad : Int32 → Int32 → Bool → Sto → Rs Int32) : lp_ (b_Ground_isOf_10 t) bad fuel_ (nI 4) 0 true σ = (isOfR 4 t, true, σ) := by
  obtain ⟨N, hN⟩ : ∃ N, fuel_ = N + 3 := ⟨69997, rfl⟩
  rw [hN]
  simp only [lp_S, b_Ground_isOf_10, lt_, show ((0 : Int32) < 6) = True by decide, show (((0 : Int32) + 1) < 6) = True by decide, show ((((0 : Int32) + 1) + 1) < 6) = True by decide, show (nI 4 < 0) = False by decide, show (nI 0 < 0) = False by decide, show ((-1 : Int32) < 0) = True by decide, show inb (nI 4) 6 = true by decide, show inb (nI 0) 6 = true by decide, kaT_4, kaT_0, cs_t hc, Bool.and_true, Bool.and_self, if_true, if_false, isOfR]
  simp only [if_pair]
theorem e_isOf_5 (hc : Scs σ 0 ≠ 0) (t : Int32) (bad : Int32 → Int32 → Bool → Sto → Rs Int32) : lp_ (b_Ground_isOf_10 t) bad fuel_ (nI 5) 0 true σ = (isOfR 5 t, true, σ) := by
  obtain ⟨N, hN⟩ : ∃ N, fuel_ = N + 4 := ⟨69996, rfl⟩
  rw [hN]
  simp only [lp_S, b_Ground_isOf_10, lt_, show ((0 : Int32) < 6) = True by decide, show (((0 : Int32) + 1) < 6) = True by decide, show ((((0 : Int32) + 1) + 1) < 6) = True by decide, show (((((0 : Int32) + 1) + 1) + 1) < 6) = True by decide, show (nI 5 < 0) = False by decide, show (nI 1 < 0) = False by decide, show (nI 0 < 0) = False by decide, show ((-1 : Int32) < 0) = True by decide, show inb (nI 5) 6 = true by decide, show inb (nI 1) 6 = true by decide, show inb (nI 0) 6 = true by decide, kaT_5, kaT_1, kaT_0, cs_t hc, Bool.and_true, Bool.and_self, if_true, if_false, isOfR]
  simp only [if_pair]
theorem e_isOf (hW : LayW w σ) (hc : Scs σ 0 ≠ 0) {k m : Nat} (hk : k < 16) (hm : m ≤ 5) (e : SI σ (w + 2) k = nI m) (t : Int32) : f_Ground_isOf (w + 1) (nI k) t true σ = (isOfR m t, true, σ) := by
  unfold f_Ground_isOf
  simp only [lt_, rW_1_0 hW, ix_nI (show k < 2 ^ 31 by omega), e, cK_of (kW_1 hW), cA_of (kW_2 hW) (nW_2 hW) hk (by decide), Bool.and_true]
  rcases (show m = 0 ∨ m = 1 ∨ m = 2 ∨ m = 3 ∨ m = 4 ∨ m = 5 by omega) with rfl | rfl | rfl | rfl | rfl | rfl
  · exact e_isOf_0 hc t _
  · exact e_isOf_1 hc t _
  · exact e_isOf_2 hc t _
  · exact e_isOf_3 hc t _
  · exact e_isOf_4 hc t _
  · exact e_isOf_5 hc t _
theorem isOfR_zok (m : Nat) (t : Int32) : zok (isOfR m t) = true := by
  unfold isOfR
  split <;> (repeat' split) <;> rfl
theorem isOfR_3 {m : Nat} (hm : m ≤ 5) : isOfR m 3 = bI (nI m = 3) := by
  rcases (show m = 0 ∨ m = 1 ∨ m = 2 ∨ m = 3 ∨ m = 4 ∨ m = 5 by omega) with rfl | rfl | rfl | rfl | rfl | rfl <;> decide
theorem e_isTown (hW : LayW w σ) (hc : Scs σ 0 ≠ 0) {k m : Nat} (hk : k < 16) (hm : m ≤ 5) (e : SI σ (w + 2) k = nI m) : f_Ground_isTown (w + 1) (nI k) true σ = (bI (nI m = 3), true, σ) := by
  unfold f_Ground_isTown
  simp only [bd_, cK_of (kW_1 hW), Bool.and_true, e_isOf hW hc hk hm e, isOfR_zok]
  rw [isOfR_3 hm]
/-- a place's kind, as a Nat -/
theorem bd_nat {v : Int32} {n : Nat} (h : bd v 0 n) : ∃ m : Nat, m ≤ n ∧ v = nI m := by
  obtain ⟨h1, h2⟩ := h
  have hlt := v.toInt_lt
  refine ⟨v.toInt.toNat, by omega, ?_⟩
  apply Int32.toInt_inj.mp
  rw [nI_toInt (by omega)]
  omega
end KI
