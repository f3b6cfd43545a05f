/-! plain rows on stores; where the cells lie -/
theorem Shn_pI {σ : Sto} {a j : Nat} {v : Int32} : Shn (pI σ a j v) = Shn σ := rfl
theorem Shn_pL {σ : Sto} {a j : Nat} {v : Int64} : Shn (pL σ a j v) = Shn σ := rfl
theorem Shn_pR {σ : Sto} {a j : Nat} {v : Nat} : Shn (pR σ a j v) = Shn σ := rfl
theorem Shn_rI {σ : Sto} {a : Nat} {v : Nat → Int32} : Shn (rI σ a v) = Shn σ := rfl
theorem Shn_rL {σ : Sto} {a : Nat} {v : Nat → Int64} : Shn (rL σ a v) = Shn σ := rfl
theorem Stk_pI {σ : Sto} {a j : Nat} {v : Int32} : Stk (pI σ a j v) = Stk σ := rfl
theorem Stk_pL {σ : Sto} {a j : Nat} {v : Int64} : Stk (pL σ a j v) = Stk σ := rfl
theorem Stk_pR {σ : Sto} {a j : Nat} {v : Nat} : Stk (pR σ a j v) = Stk σ := rfl
theorem Stk_rI {σ : Sto} {a : Nat} {v : Nat → Int32} : Stk (rI σ a v) = Stk σ := rfl
theorem Stk_rL {σ : Sto} {a : Nat} {v : Nat → Int64} : Stk (rL σ a v) = Stk σ := rfl
theorem Stk_stn {σ : Sto} {z : Nat} : Stk (stn σ z) = Stk σ := rfl
theorem Sln_pI {σ : Sto} {a j : Nat} {v : Int32} : Sln (pI σ a j v) = Sln σ := rfl
theorem Sln_pL {σ : Sto} {a j : Nat} {v : Int64} : Sln (pL σ a j v) = Sln σ := rfl
theorem Sln_pR {σ : Sto} {a j : Nat} {v : Nat} : Sln (pR σ a j v) = Sln σ := rfl
theorem Sln_rI {σ : Sto} {a : Nat} {v : Nat → Int32} : Sln (rI σ a v) = Sln σ := rfl
theorem Sln_rL {σ : Sto} {a : Nat} {v : Nat → Int64} : Sln (rL σ a v) = Sln σ := rfl
theorem Sln_stn {σ : Sto} {z : Nat} : Sln (stn σ z) = Sln σ := rfl
theorem SI_pL {σ : Sto} {a j : Nat} {v : Int64} : SI (pL σ a j v) = SI σ := rfl
theorem SI_pR {σ : Sto} {a j : Nat} {v : Nat} : SI (pR σ a j v) = SI σ := rfl
theorem SI_rL {σ : Sto} {a : Nat} {v : Nat → Int64} : SI (rL σ a v) = SI σ := rfl
theorem SI_stn {σ : Sto} {z : Nat} : SI (stn σ z) = SI σ := rfl
theorem SL_pI {σ : Sto} {a j : Nat} {v : Int32} : SL (pI σ a j v) = SL σ := rfl
theorem SL_pR {σ : Sto} {a j : Nat} {v : Nat} : SL (pR σ a j v) = SL σ := rfl
theorem SL_rI {σ : Sto} {a : Nat} {v : Nat → Int32} : SL (rI σ a v) = SL σ := rfl
theorem SL_stn {σ : Sto} {z : Nat} : SL (stn σ z) = SL σ := rfl
theorem SR_pI {σ : Sto} {a j : Nat} {v : Int32} : SR (pI σ a j v) = SR σ := rfl
theorem SR_pL {σ : Sto} {a j : Nat} {v : Int64} : SR (pL σ a j v) = SR σ := rfl
theorem SR_rI {σ : Sto} {a : Nat} {v : Nat → Int32} : SR (rI σ a v) = SR σ := rfl
theorem SR_rL {σ : Sto} {a : Nat} {v : Nat → Int64} : SR (rL σ a v) = SR σ := rfl
theorem SR_stn {σ : Sto} {z : Nat} : SR (stn σ z) = SR σ := rfl
theorem Scs_pI {σ : Sto} {a j : Nat} {v : Int32} : Scs (pI σ a j v) = Scs σ := rfl
theorem Scs_pL {σ : Sto} {a j : Nat} {v : Int64} : Scs (pL σ a j v) = Scs σ := rfl
theorem Scs_pR {σ : Sto} {a j : Nat} {v : Nat} : Scs (pR σ a j v) = Scs σ := rfl
theorem Scs_rI {σ : Sto} {a : Nat} {v : Nat → Int32} : Scs (rI σ a v) = Scs σ := rfl
theorem Scs_rL {σ : Sto} {a : Nat} {v : Nat → Int64} : Scs (rL σ a v) = Scs σ := rfl
theorem Scs_stn {σ : Sto} {z : Nat} : Scs (stn σ z) = Scs σ := rfl
theorem Shn_stn {σ : Sto} {z : Nat} : Shn (stn σ z) = z := rfl
theorem SI_pI {σ : Sto} {a j : Nat} {v : Int32} : SI (pI σ a j v) = up2 (SI σ) a j v := rfl
theorem SL_pL {σ : Sto} {a j : Nat} {v : Int64} : SL (pL σ a j v) = up2 (SL σ) a j v := rfl
theorem SR_pR {σ : Sto} {a j : Nat} {v : Nat} : SR (pR σ a j v) = up2 (SR σ) a j v := rfl
theorem SI_rI {σ : Sto} {a : Nat} {v : Nat → Int32} : SI (rI σ a v) = up1 (SI σ) a v := rfl
theorem SL_rL {σ : Sto} {a : Nat} {v : Nat → Int64} : SL (rL σ a v) = up1 (SL σ) a v := rfl
theorem Shn_nC {σ : Sto} {k n : Nat} : Shn (nC σ k n) = Shn σ + 1 := rfl
theorem Stk_nC {σ : Sto} {k n : Nat} : Stk (nC σ k n) = up1 (Stk σ) (Shn σ) k := rfl
theorem Sln_nC {σ : Sto} {k n : Nat} : Sln (nC σ k n) = up1 (Sln σ) (Shn σ) n := rfl
theorem SI_nC {σ : Sto} {k n : Nat} : SI (nC σ k n) = up1 (SI σ) (Shn σ) (fun _ => 0) := rfl
theorem SL_nC {σ : Sto} {k n : Nat} : SL (nC σ k n) = up1 (SL σ) (Shn σ) (fun _ => 0) := rfl
theorem SR_nC {σ : Sto} {k n : Nat} : SR (nC σ k n) = up1 (SR σ) (Shn σ) (fun _ => 0) := rfl
theorem Scs_nC {σ : Sto} {k n : Nat} : Scs (nC σ k n) = Scs σ := rfl
theorem up2_ne' {β : Type} {f : Nat → Nat → β} {a j x y : Nat} {v : β} (h : x ≠ a) : up2 f a j v x y = f x y := by simp [up2, h]
theorem up2_nj {β : Type} {f : Nat → Nat → β} {a j y : Nat} {v : β} (h : y ≠ j) : up2 f a j v a y = f a y := by simp [up2, h]
theorem up2_s {β : Type} {f : Nat → Nat → β} {a j : Nat} {v : β} : up2 f a j v a j = v := by simp [up2]
theorem cK_of {σ : Sto} {a k : Nat} (h : Stk σ a = k) : cK σ a k = true := by simp [cK, h]
theorem inb_of {i n : Nat} (h : i < n) (hn : n < 2 ^ 31) : inb (nI i) n = true := by
  have hp : ¬ nI i < 0 := nI_pos (by omega)
  have hc : (nI i).toNatClampNeg = i := nI_clamp (by omega)
  simp [inb, hp, hc]
  omega
theorem cA_of {σ : Sto} {a k i n : Nat} (h : Stk σ a = k) (hl : Sln σ a = n) (hi : i < n) (hn : n < 2 ^ 31) : cA σ a k (nI i) = true := by
  simp only [cA, h, hl, inb_of hi hn, decide_true, Bool.and_self]
theorem ix_nI {i : Nat} (h : i < 2 ^ 31) : ix (nI i) = i := nI_clamp h
theorem lp_0 {β : Type} {F : β → β} {bad : β} : lp_ F bad 0 = bad := rfl
theorem lp_S {β : Type} {F : β → β} {bad : β} {n : Nat} : lp_ F bad (n + 1) = F (lp_ F bad n) := rfl
/-- a loop by what it still has to do -/
theorem lp_Q {β : Type} {F : β → β} {bad : β} (Q : Nat → β → Prop) (h0 : Q 0 bad) (hs : ∀ n L, Q n L → Q (n + 1) (F L)) : ∀ n, Q n (lp_ F bad n)
  | 0 => h0
  | n + 1 => hs n _ (lp_Q Q h0 hs n)
theorem fuel_ok {n : Nat} (h : n < 70000) : n < fuel_ := h
/-- cells of kinds and lengths at offsets from w, references at offsets -/
def LayT (tk tr : List (Nat × Nat × Nat)) (w : Nat) (σ : Sto) : Prop := (∀ r ∈ tk, Stk σ (w + r.1) = r.2.1 ∧ Sln σ (w + r.1) = r.2.2) ∧ (∀ r ∈ tr, SR σ (w + r.1) r.2.1 = w + r.2.2)
def wK : List (Nat × Nat × Nat) := [(0, 11, 0), (1, 2, 0), (2, 21, 16), (3, 21, 16), (4, 21, 16), (5, 21, 16), (6, 21, 4), (7, 21, 6), (8, 21, 6), (9, 21, 6), (10, 21, 6), (11, 3, 0), (12, 25, 12), (13, 21, 4), (14, 21, 96), (15, 5, 0), (16, 21, 20), (17, 21, 20), (18, 21, 20), (19, 21, 20), (20, 21, 20), (21, 4, 0), (22, 21, 7), (23, 21, 16), (24, 21, 16), (25, 21, 16), (26, 21, 16), (27, 21, 16), (28, 7, 0), (29, 21, 12), (30, 21, 12), (31, 21, 12), (32, 21, 16), (33, 21, 17), (34, 23, 17), (35, 1, 0), (36, 21, 20), (37, 21, 20), (38, 21, 20), (39, 21, 20), (40, 21, 20), (41, 21, 20), (42, 26, 10), (43, 10, 0), (44, 10, 0), (45, 10, 0), (46, 10, 0), (47, 10, 0), (48, 10, 0), (49, 10, 0), (50, 10, 0), (51, 10, 0), (52, 10, 0)]
def wR : List (Nat × Nat × Nat) := [(0, 0, 1), (1, 0, 2), (1, 1, 3), (1, 2, 4), (1, 3, 5), (1, 4, 6), (1, 5, 7), (1, 6, 8), (1, 7, 9), (1, 8, 10), (0, 1, 11), (11, 0, 12), (11, 2, 13), (11, 3, 14), (0, 2, 15), (15, 0, 16), (15, 1, 17), (15, 2, 18), (15, 3, 19), (15, 4, 20), (0, 3, 21), (21, 0, 22), (21, 1, 23), (21, 2, 24), (21, 4, 25), (21, 5, 26), (21, 6, 27), (0, 4, 28), (28, 1, 29), (28, 2, 30), (28, 3, 31), (28, 5, 32), (28, 6, 33), (28, 7, 34), (0, 5, 35), (35, 0, 36), (35, 1, 37), (35, 3, 38), (35, 4, 39), (35, 5, 40), (35, 6, 41), (0, 6, 42), (42, 0, 43), (42, 1, 44), (42, 2, 45), (42, 3, 46), (42, 4, 47), (42, 5, 48), (42, 6, 49), (42, 7, 50), (42, 8, 51), (42, 9, 52)]
/-- a World at w -/
def LayW (w : Nat) (σ : Sto) : Prop := LayT wK wR w σ
theorem kW_0 {w : Nat} {σ : Sto} (h : LayW w σ) : Stk σ w = 11 := (h.1 (0, 11, 0) (by decide)).1
theorem kW_1 {w : Nat} {σ : Sto} (h : LayW w σ) : Stk σ (w + 1) = 2 := (h.1 (1, 2, 0) (by decide)).1
theorem kW_2 {w : Nat} {σ : Sto} (h : LayW w σ) : Stk σ (w + 2) = 21 := (h.1 (2, 21, 16) (by decide)).1
theorem nW_2 {w : Nat} {σ : Sto} (h : LayW w σ) : Sln σ (w + 2) = 16 := (h.1 (2, 21, 16) (by decide)).2
theorem kW_3 {w : Nat} {σ : Sto} (h : LayW w σ) : Stk σ (w + 3) = 21 := (h.1 (3, 21, 16) (by decide)).1
theorem nW_3 {w : Nat} {σ : Sto} (h : LayW w σ) : Sln σ (w + 3) = 16 := (h.1 (3, 21, 16) (by decide)).2
theorem kW_4 {w : Nat} {σ : Sto} (h : LayW w σ) : Stk σ (w + 4) = 21 := (h.1 (4, 21, 16) (by decide)).1
theorem nW_4 {w : Nat} {σ : Sto} (h : LayW w σ) : Sln σ (w + 4) = 16 := (h.1 (4, 21, 16) (by decide)).2
theorem kW_5 {w : Nat} {σ : Sto} (h : LayW w σ) : Stk σ (w + 5) = 21 := (h.1 (5, 21, 16) (by decide)).1
theorem nW_5 {w : Nat} {σ : Sto} (h : LayW w σ) : Sln σ (w + 5) = 16 := (h.1 (5, 21, 16) (by decide)).2
theorem kW_6 {w : Nat} {σ : Sto} (h : LayW w σ) : Stk σ (w + 6) = 21 := (h.1 (6, 21, 4) (by decide)).1
theorem nW_6 {w : Nat} {σ : Sto} (h : LayW w σ) : Sln σ (w + 6) = 4 := (h.1 (6, 21, 4) (by decide)).2
theorem kW_7 {w : Nat} {σ : Sto} (h : LayW w σ) : Stk σ (w + 7) = 21 := (h.1 (7, 21, 6) (by decide)).1
theorem nW_7 {w : Nat} {σ : Sto} (h : LayW w σ) : Sln σ (w + 7) = 6 := (h.1 (7, 21, 6) (by decide)).2
theorem kW_8 {w : Nat} {σ : Sto} (h : LayW w σ) : Stk σ (w + 8) = 21 := (h.1 (8, 21, 6) (by decide)).1
theorem nW_8 {w : Nat} {σ : Sto} (h : LayW w σ) : Sln σ (w + 8) = 6 := (h.1 (8, 21, 6) (by decide)).2
theorem kW_9 {w : Nat} {σ : Sto} (h : LayW w σ) : Stk σ (w + 9) = 21 := (h.1 (9, 21, 6) (by decide)).1
theorem nW_9 {w : Nat} {σ : Sto} (h : LayW w σ) : Sln σ (w + 9) = 6 := (h.1 (9, 21, 6) (by decide)).2
theorem kW_10 {w : Nat} {σ : Sto} (h : LayW w σ) : Stk σ (w + 10) = 21 := (h.1 (10, 21, 6) (by decide)).1
theorem nW_10 {w : Nat} {σ : Sto} (h : LayW w σ) : Sln σ (w + 10) = 6 := (h.1 (10, 21, 6) (by decide)).2
theorem kW_11 {w : Nat} {σ : Sto} (h : LayW w σ) : Stk σ (w + 11) = 3 := (h.1 (11, 3, 0) (by decide)).1
theorem kW_12 {w : Nat} {σ : Sto} (h : LayW w σ) : Stk σ (w + 12) = 25 := (h.1 (12, 25, 12) (by decide)).1
theorem nW_12 {w : Nat} {σ : Sto} (h : LayW w σ) : Sln σ (w + 12) = 12 := (h.1 (12, 25, 12) (by decide)).2
theorem kW_13 {w : Nat} {σ : Sto} (h : LayW w σ) : Stk σ (w + 13) = 21 := (h.1 (13, 21, 4) (by decide)).1
theorem nW_13 {w : Nat} {σ : Sto} (h : LayW w σ) : Sln σ (w + 13) = 4 := (h.1 (13, 21, 4) (by decide)).2
theorem kW_14 {w : Nat} {σ : Sto} (h : LayW w σ) : Stk σ (w + 14) = 21 := (h.1 (14, 21, 96) (by decide)).1
theorem nW_14 {w : Nat} {σ : Sto} (h : LayW w σ) : Sln σ (w + 14) = 96 := (h.1 (14, 21, 96) (by decide)).2
theorem kW_15 {w : Nat} {σ : Sto} (h : LayW w σ) : Stk σ (w + 15) = 5 := (h.1 (15, 5, 0) (by decide)).1
theorem kW_16 {w : Nat} {σ : Sto} (h : LayW w σ) : Stk σ (w + 16) = 21 := (h.1 (16, 21, 20) (by decide)).1
theorem nW_16 {w : Nat} {σ : Sto} (h : LayW w σ) : Sln σ (w + 16) = 20 := (h.1 (16, 21, 20) (by decide)).2
theorem kW_17 {w : Nat} {σ : Sto} (h : LayW w σ) : Stk σ (w + 17) = 21 := (h.1 (17, 21, 20) (by decide)).1
theorem nW_17 {w : Nat} {σ : Sto} (h : LayW w σ) : Sln σ (w + 17) = 20 := (h.1 (17, 21, 20) (by decide)).2
theorem kW_18 {w : Nat} {σ : Sto} (h : LayW w σ) : Stk σ (w + 18) = 21 := (h.1 (18, 21, 20) (by decide)).1
theorem nW_18 {w : Nat} {σ : Sto} (h : LayW w σ) : Sln σ (w + 18) = 20 := (h.1 (18, 21, 20) (by decide)).2
theorem kW_19 {w : Nat} {σ : Sto} (h : LayW w σ) : Stk σ (w + 19) = 21 := (h.1 (19, 21, 20) (by decide)).1
theorem nW_19 {w : Nat} {σ : Sto} (h : LayW w σ) : Sln σ (w + 19) = 20 := (h.1 (19, 21, 20) (by decide)).2
theorem kW_20 {w : Nat} {σ : Sto} (h : LayW w σ) : Stk σ (w + 20) = 21 := (h.1 (20, 21, 20) (by decide)).1
theorem nW_20 {w : Nat} {σ : Sto} (h : LayW w σ) : Sln σ (w + 20) = 20 := (h.1 (20, 21, 20) (by decide)).2
theorem kW_21 {w : Nat} {σ : Sto} (h : LayW w σ) : Stk σ (w + 21) = 4 := (h.1 (21, 4, 0) (by decide)).1
theorem kW_22 {w : Nat} {σ : Sto} (h : LayW w σ) : Stk σ (w + 22) = 21 := (h.1 (22, 21, 7) (by decide)).1
theorem nW_22 {w : Nat} {σ : Sto} (h : LayW w σ) : Sln σ (w + 22) = 7 := (h.1 (22, 21, 7) (by decide)).2
theorem kW_23 {w : Nat} {σ : Sto} (h : LayW w σ) : Stk σ (w + 23) = 21 := (h.1 (23, 21, 16) (by decide)).1
theorem nW_23 {w : Nat} {σ : Sto} (h : LayW w σ) : Sln σ (w + 23) = 16 := (h.1 (23, 21, 16) (by decide)).2
theorem kW_24 {w : Nat} {σ : Sto} (h : LayW w σ) : Stk σ (w + 24) = 21 := (h.1 (24, 21, 16) (by decide)).1
theorem nW_24 {w : Nat} {σ : Sto} (h : LayW w σ) : Sln σ (w + 24) = 16 := (h.1 (24, 21, 16) (by decide)).2
theorem kW_25 {w : Nat} {σ : Sto} (h : LayW w σ) : Stk σ (w + 25) = 21 := (h.1 (25, 21, 16) (by decide)).1
theorem nW_25 {w : Nat} {σ : Sto} (h : LayW w σ) : Sln σ (w + 25) = 16 := (h.1 (25, 21, 16) (by decide)).2
theorem kW_26 {w : Nat} {σ : Sto} (h : LayW w σ) : Stk σ (w + 26) = 21 := (h.1 (26, 21, 16) (by decide)).1
theorem nW_26 {w : Nat} {σ : Sto} (h : LayW w σ) : Sln σ (w + 26) = 16 := (h.1 (26, 21, 16) (by decide)).2
theorem kW_27 {w : Nat} {σ : Sto} (h : LayW w σ) : Stk σ (w + 27) = 21 := (h.1 (27, 21, 16) (by decide)).1
theorem nW_27 {w : Nat} {σ : Sto} (h : LayW w σ) : Sln σ (w + 27) = 16 := (h.1 (27, 21, 16) (by decide)).2
theorem kW_28 {w : Nat} {σ : Sto} (h : LayW w σ) : Stk σ (w + 28) = 7 := (h.1 (28, 7, 0) (by decide)).1
theorem kW_29 {w : Nat} {σ : Sto} (h : LayW w σ) : Stk σ (w + 29) = 21 := (h.1 (29, 21, 12) (by decide)).1
theorem nW_29 {w : Nat} {σ : Sto} (h : LayW w σ) : Sln σ (w + 29) = 12 := (h.1 (29, 21, 12) (by decide)).2
theorem kW_30 {w : Nat} {σ : Sto} (h : LayW w σ) : Stk σ (w + 30) = 21 := (h.1 (30, 21, 12) (by decide)).1
theorem nW_30 {w : Nat} {σ : Sto} (h : LayW w σ) : Sln σ (w + 30) = 12 := (h.1 (30, 21, 12) (by decide)).2
theorem kW_31 {w : Nat} {σ : Sto} (h : LayW w σ) : Stk σ (w + 31) = 21 := (h.1 (31, 21, 12) (by decide)).1
theorem nW_31 {w : Nat} {σ : Sto} (h : LayW w σ) : Sln σ (w + 31) = 12 := (h.1 (31, 21, 12) (by decide)).2
theorem kW_32 {w : Nat} {σ : Sto} (h : LayW w σ) : Stk σ (w + 32) = 21 := (h.1 (32, 21, 16) (by decide)).1
theorem nW_32 {w : Nat} {σ : Sto} (h : LayW w σ) : Sln σ (w + 32) = 16 := (h.1 (32, 21, 16) (by decide)).2
theorem kW_33 {w : Nat} {σ : Sto} (h : LayW w σ) : Stk σ (w + 33) = 21 := (h.1 (33, 21, 17) (by decide)).1
theorem nW_33 {w : Nat} {σ : Sto} (h : LayW w σ) : Sln σ (w + 33) = 17 := (h.1 (33, 21, 17) (by decide)).2
theorem kW_34 {w : Nat} {σ : Sto} (h : LayW w σ) : Stk σ (w + 34) = 23 := (h.1 (34, 23, 17) (by decide)).1
theorem nW_34 {w : Nat} {σ : Sto} (h : LayW w σ) : Sln σ (w + 34) = 17 := (h.1 (34, 23, 17) (by decide)).2
theorem kW_35 {w : Nat} {σ : Sto} (h : LayW w σ) : Stk σ (w + 35) = 1 := (h.1 (35, 1, 0) (by decide)).1
theorem kW_36 {w : Nat} {σ : Sto} (h : LayW w σ) : Stk σ (w + 36) = 21 := (h.1 (36, 21, 20) (by decide)).1
theorem nW_36 {w : Nat} {σ : Sto} (h : LayW w σ) : Sln σ (w + 36) = 20 := (h.1 (36, 21, 20) (by decide)).2
theorem kW_37 {w : Nat} {σ : Sto} (h : LayW w σ) : Stk σ (w + 37) = 21 := (h.1 (37, 21, 20) (by decide)).1
theorem nW_37 {w : Nat} {σ : Sto} (h : LayW w σ) : Sln σ (w + 37) = 20 := (h.1 (37, 21, 20) (by decide)).2
theorem kW_38 {w : Nat} {σ : Sto} (h : LayW w σ) : Stk σ (w + 38) = 21 := (h.1 (38, 21, 20) (by decide)).1
theorem nW_38 {w : Nat} {σ : Sto} (h : LayW w σ) : Sln σ (w + 38) = 20 := (h.1 (38, 21, 20) (by decide)).2
theorem kW_39 {w : Nat} {σ : Sto} (h : LayW w σ) : Stk σ (w + 39) = 21 := (h.1 (39, 21, 20) (by decide)).1
theorem nW_39 {w : Nat} {σ : Sto} (h : LayW w σ) : Sln σ (w + 39) = 20 := (h.1 (39, 21, 20) (by decide)).2
theorem kW_40 {w : Nat} {σ : Sto} (h : LayW w σ) : Stk σ (w + 40) = 21 := (h.1 (40, 21, 20) (by decide)).1
theorem nW_40 {w : Nat} {σ : Sto} (h : LayW w σ) : Sln σ (w + 40) = 20 := (h.1 (40, 21, 20) (by decide)).2
theorem kW_41 {w : Nat} {σ : Sto} (h : LayW w σ) : Stk σ (w + 41) = 21 := (h.1 (41, 21, 20) (by decide)).1
theorem nW_41 {w : Nat} {σ : Sto} (h : LayW w σ) : Sln σ (w + 41) = 20 := (h.1 (41, 21, 20) (by decide)).2
theorem kW_42 {w : Nat} {σ : Sto} (h : LayW w σ) : Stk σ (w + 42) = 26 := (h.1 (42, 26, 10) (by decide)).1
theorem nW_42 {w : Nat} {σ : Sto} (h : LayW w σ) : Sln σ (w + 42) = 10 := (h.1 (42, 26, 10) (by decide)).2
theorem kW_43 {w : Nat} {σ : Sto} (h : LayW w σ) : Stk σ (w + 43) = 10 := (h.1 (43, 10, 0) (by decide)).1
theorem kW_44 {w : Nat} {σ : Sto} (h : LayW w σ) : Stk σ (w + 44) = 10 := (h.1 (44, 10, 0) (by decide)).1
theorem kW_45 {w : Nat} {σ : Sto} (h : LayW w σ) : Stk σ (w + 45) = 10 := (h.1 (45, 10, 0) (by decide)).1
theorem kW_46 {w : Nat} {σ : Sto} (h : LayW w σ) : Stk σ (w + 46) = 10 := (h.1 (46, 10, 0) (by decide)).1
theorem kW_47 {w : Nat} {σ : Sto} (h : LayW w σ) : Stk σ (w + 47) = 10 := (h.1 (47, 10, 0) (by decide)).1
theorem kW_48 {w : Nat} {σ : Sto} (h : LayW w σ) : Stk σ (w + 48) = 10 := (h.1 (48, 10, 0) (by decide)).1
theorem kW_49 {w : Nat} {σ : Sto} (h : LayW w σ) : Stk σ (w + 49) = 10 := (h.1 (49, 10, 0) (by decide)).1
theorem kW_50 {w : Nat} {σ : Sto} (h : LayW w σ) : Stk σ (w + 50) = 10 := (h.1 (50, 10, 0) (by decide)).1
theorem kW_51 {w : Nat} {σ : Sto} (h : LayW w σ) : Stk σ (w + 51) = 10 := (h.1 (51, 10, 0) (by decide)).1
theorem kW_52 {w : Nat} {σ : Sto} (h : LayW w σ) : Stk σ (w + 52) = 10 := (h.1 (52, 10, 0) (by decide)).1
theorem rW_0_0 {w : Nat} {σ : Sto} (h : LayW w σ) : SR σ w 0 = w + 1 := h.2 (0, 0, 1) (by decide)
theorem rW_1_0 {w : Nat} {σ : Sto} (h : LayW w σ) : SR σ (w + 1) 0 = w + 2 := h.2 (1, 0, 2) (by decide)
theorem rW_1_1 {w : Nat} {σ : Sto} (h : LayW w σ) : SR σ (w + 1) 1 = w + 3 := h.2 (1, 1, 3) (by decide)
theorem rW_1_2 {w : Nat} {σ : Sto} (h : LayW w σ) : SR σ (w + 1) 2 = w + 4 := h.2 (1, 2, 4) (by decide)
theorem rW_1_3 {w : Nat} {σ : Sto} (h : LayW w σ) : SR σ (w + 1) 3 = w + 5 := h.2 (1, 3, 5) (by decide)
theorem rW_1_4 {w : Nat} {σ : Sto} (h : LayW w σ) : SR σ (w + 1) 4 = w + 6 := h.2 (1, 4, 6) (by decide)
theorem rW_1_5 {w : Nat} {σ : Sto} (h : LayW w σ) : SR σ (w + 1) 5 = w + 7 := h.2 (1, 5, 7) (by decide)
theorem rW_1_6 {w : Nat} {σ : Sto} (h : LayW w σ) : SR σ (w + 1) 6 = w + 8 := h.2 (1, 6, 8) (by decide)
theorem rW_1_7 {w : Nat} {σ : Sto} (h : LayW w σ) : SR σ (w + 1) 7 = w + 9 := h.2 (1, 7, 9) (by decide)
theorem rW_1_8 {w : Nat} {σ : Sto} (h : LayW w σ) : SR σ (w + 1) 8 = w + 10 := h.2 (1, 8, 10) (by decide)
theorem rW_0_1 {w : Nat} {σ : Sto} (h : LayW w σ) : SR σ w 1 = w + 11 := h.2 (0, 1, 11) (by decide)
theorem rW_11_0 {w : Nat} {σ : Sto} (h : LayW w σ) : SR σ (w + 11) 0 = w + 12 := h.2 (11, 0, 12) (by decide)
theorem rW_11_2 {w : Nat} {σ : Sto} (h : LayW w σ) : SR σ (w + 11) 2 = w + 13 := h.2 (11, 2, 13) (by decide)
theorem rW_11_3 {w : Nat} {σ : Sto} (h : LayW w σ) : SR σ (w + 11) 3 = w + 14 := h.2 (11, 3, 14) (by decide)
theorem rW_0_2 {w : Nat} {σ : Sto} (h : LayW w σ) : SR σ w 2 = w + 15 := h.2 (0, 2, 15) (by decide)
theorem rW_15_0 {w : Nat} {σ : Sto} (h : LayW w σ) : SR σ (w + 15) 0 = w + 16 := h.2 (15, 0, 16) (by decide)
theorem rW_15_1 {w : Nat} {σ : Sto} (h : LayW w σ) : SR σ (w + 15) 1 = w + 17 := h.2 (15, 1, 17) (by decide)
theorem rW_15_2 {w : Nat} {σ : Sto} (h : LayW w σ) : SR σ (w + 15) 2 = w + 18 := h.2 (15, 2, 18) (by decide)
theorem rW_15_3 {w : Nat} {σ : Sto} (h : LayW w σ) : SR σ (w + 15) 3 = w + 19 := h.2 (15, 3, 19) (by decide)
theorem rW_15_4 {w : Nat} {σ : Sto} (h : LayW w σ) : SR σ (w + 15) 4 = w + 20 := h.2 (15, 4, 20) (by decide)
theorem rW_0_3 {w : Nat} {σ : Sto} (h : LayW w σ) : SR σ w 3 = w + 21 := h.2 (0, 3, 21) (by decide)
theorem rW_21_0 {w : Nat} {σ : Sto} (h : LayW w σ) : SR σ (w + 21) 0 = w + 22 := h.2 (21, 0, 22) (by decide)
theorem rW_21_1 {w : Nat} {σ : Sto} (h : LayW w σ) : SR σ (w + 21) 1 = w + 23 := h.2 (21, 1, 23) (by decide)
theorem rW_21_2 {w : Nat} {σ : Sto} (h : LayW w σ) : SR σ (w + 21) 2 = w + 24 := h.2 (21, 2, 24) (by decide)
theorem rW_21_4 {w : Nat} {σ : Sto} (h : LayW w σ) : SR σ (w + 21) 4 = w + 25 := h.2 (21, 4, 25) (by decide)
theorem rW_21_5 {w : Nat} {σ : Sto} (h : LayW w σ) : SR σ (w + 21) 5 = w + 26 := h.2 (21, 5, 26) (by decide)
theorem rW_21_6 {w : Nat} {σ : Sto} (h : LayW w σ) : SR σ (w + 21) 6 = w + 27 := h.2 (21, 6, 27) (by decide)
theorem rW_0_4 {w : Nat} {σ : Sto} (h : LayW w σ) : SR σ w 4 = w + 28 := h.2 (0, 4, 28) (by decide)
theorem rW_28_1 {w : Nat} {σ : Sto} (h : LayW w σ) : SR σ (w + 28) 1 = w + 29 := h.2 (28, 1, 29) (by decide)
theorem rW_28_2 {w : Nat} {σ : Sto} (h : LayW w σ) : SR σ (w + 28) 2 = w + 30 := h.2 (28, 2, 30) (by decide)
theorem rW_28_3 {w : Nat} {σ : Sto} (h : LayW w σ) : SR σ (w + 28) 3 = w + 31 := h.2 (28, 3, 31) (by decide)
theorem rW_28_5 {w : Nat} {σ : Sto} (h : LayW w σ) : SR σ (w + 28) 5 = w + 32 := h.2 (28, 5, 32) (by decide)
theorem rW_28_6 {w : Nat} {σ : Sto} (h : LayW w σ) : SR σ (w + 28) 6 = w + 33 := h.2 (28, 6, 33) (by decide)
theorem rW_28_7 {w : Nat} {σ : Sto} (h : LayW w σ) : SR σ (w + 28) 7 = w + 34 := h.2 (28, 7, 34) (by decide)
theorem rW_0_5 {w : Nat} {σ : Sto} (h : LayW w σ) : SR σ w 5 = w + 35 := h.2 (0, 5, 35) (by decide)
theorem rW_35_0 {w : Nat} {σ : Sto} (h : LayW w σ) : SR σ (w + 35) 0 = w + 36 := h.2 (35, 0, 36) (by decide)
theorem rW_35_1 {w : Nat} {σ : Sto} (h : LayW w σ) : SR σ (w + 35) 1 = w + 37 := h.2 (35, 1, 37) (by decide)
theorem rW_35_3 {w : Nat} {σ : Sto} (h : LayW w σ) : SR σ (w + 35) 3 = w + 38 := h.2 (35, 3, 38) (by decide)
theorem rW_35_4 {w : Nat} {σ : Sto} (h : LayW w σ) : SR σ (w + 35) 4 = w + 39 := h.2 (35, 4, 39) (by decide)
theorem rW_35_5 {w : Nat} {σ : Sto} (h : LayW w σ) : SR σ (w + 35) 5 = w + 40 := h.2 (35, 5, 40) (by decide)
theorem rW_35_6 {w : Nat} {σ : Sto} (h : LayW w σ) : SR σ (w + 35) 6 = w + 41 := h.2 (35, 6, 41) (by decide)
theorem rW_0_6 {w : Nat} {σ : Sto} (h : LayW w σ) : SR σ w 6 = w + 42 := h.2 (0, 6, 42) (by decide)
theorem rW_42_0 {w : Nat} {σ : Sto} (h : LayW w σ) : SR σ (w + 42) 0 = w + 43 := h.2 (42, 0, 43) (by decide)
theorem rW_42_1 {w : Nat} {σ : Sto} (h : LayW w σ) : SR σ (w + 42) 1 = w + 44 := h.2 (42, 1, 44) (by decide)
theorem rW_42_2 {w : Nat} {σ : Sto} (h : LayW w σ) : SR σ (w + 42) 2 = w + 45 := h.2 (42, 2, 45) (by decide)
theorem rW_42_3 {w : Nat} {σ : Sto} (h : LayW w σ) : SR σ (w + 42) 3 = w + 46 := h.2 (42, 3, 46) (by decide)
theorem rW_42_4 {w : Nat} {σ : Sto} (h : LayW w σ) : SR σ (w + 42) 4 = w + 47 := h.2 (42, 4, 47) (by decide)
theorem rW_42_5 {w : Nat} {σ : Sto} (h : LayW w σ) : SR σ (w + 42) 5 = w + 48 := h.2 (42, 5, 48) (by decide)
theorem rW_42_6 {w : Nat} {σ : Sto} (h : LayW w σ) : SR σ (w + 42) 6 = w + 49 := h.2 (42, 6, 49) (by decide)
theorem rW_42_7 {w : Nat} {σ : Sto} (h : LayW w σ) : SR σ (w + 42) 7 = w + 50 := h.2 (42, 7, 50) (by decide)
theorem rW_42_8 {w : Nat} {σ : Sto} (h : LayW w σ) : SR σ (w + 42) 8 = w + 51 := h.2 (42, 8, 51) (by decide)
theorem rW_42_9 {w : Nat} {σ : Sto} (h : LayW w σ) : SR σ (w + 42) 9 = w + 52 := h.2 (42, 9, 52) (by decide)
def xK : List (Nat × Nat × Nat) := [(0, 12, 0), (160, 8, 0), (161, 22, 96), (162, 21, 96), (163, 27, 4), (164, 6, 0), (166, 6, 0), (168, 6, 0), (170, 6, 0), (165, 23, 24), (167, 23, 24), (169, 23, 24), (171, 23, 24), (172, 21, 60)]
def xR : List (Nat × Nat × Nat) := [(0, 0, 1), (0, 1, 54), (0, 2, 107), (0, 3, 160), (160, 0, 161), (160, 8, 162), (0, 4, 163), (163, 0, 164), (163, 1, 166), (163, 2, 168), (163, 3, 170), (164, 2, 165), (166, 2, 167), (168, 2, 169), (170, 2, 171), (0, 5, 172)]
/-- the class's cells at X -/
def LayX (X : Nat) (σ : Sto) : Prop := LayT xK xR X σ ∧ LayW (X + 1) σ ∧ LayW (X + 54) σ ∧ LayW (X + 107) σ
theorem kX_0 {X : Nat} {σ : Sto} (h : LayX X σ) : Stk σ X = 12 := (h.1.1 (0, 12, 0) (by decide)).1
theorem kX_160 {X : Nat} {σ : Sto} (h : LayX X σ) : Stk σ (X + 160) = 8 := (h.1.1 (160, 8, 0) (by decide)).1
theorem kX_161 {X : Nat} {σ : Sto} (h : LayX X σ) : Stk σ (X + 161) = 22 := (h.1.1 (161, 22, 96) (by decide)).1
theorem nX_161 {X : Nat} {σ : Sto} (h : LayX X σ) : Sln σ (X + 161) = 96 := (h.1.1 (161, 22, 96) (by decide)).2
theorem kX_162 {X : Nat} {σ : Sto} (h : LayX X σ) : Stk σ (X + 162) = 21 := (h.1.1 (162, 21, 96) (by decide)).1
theorem nX_162 {X : Nat} {σ : Sto} (h : LayX X σ) : Sln σ (X + 162) = 96 := (h.1.1 (162, 21, 96) (by decide)).2
theorem kX_163 {X : Nat} {σ : Sto} (h : LayX X σ) : Stk σ (X + 163) = 27 := (h.1.1 (163, 27, 4) (by decide)).1
theorem nX_163 {X : Nat} {σ : Sto} (h : LayX X σ) : Sln σ (X + 163) = 4 := (h.1.1 (163, 27, 4) (by decide)).2
theorem kX_164 {X : Nat} {σ : Sto} (h : LayX X σ) : Stk σ (X + 164) = 6 := (h.1.1 (164, 6, 0) (by decide)).1
theorem kX_166 {X : Nat} {σ : Sto} (h : LayX X σ) : Stk σ (X + 166) = 6 := (h.1.1 (166, 6, 0) (by decide)).1
theorem kX_168 {X : Nat} {σ : Sto} (h : LayX X σ) : Stk σ (X + 168) = 6 := (h.1.1 (168, 6, 0) (by decide)).1
theorem kX_170 {X : Nat} {σ : Sto} (h : LayX X σ) : Stk σ (X + 170) = 6 := (h.1.1 (170, 6, 0) (by decide)).1
theorem kX_165 {X : Nat} {σ : Sto} (h : LayX X σ) : Stk σ (X + 165) = 23 := (h.1.1 (165, 23, 24) (by decide)).1
theorem nX_165 {X : Nat} {σ : Sto} (h : LayX X σ) : Sln σ (X + 165) = 24 := (h.1.1 (165, 23, 24) (by decide)).2
theorem kX_167 {X : Nat} {σ : Sto} (h : LayX X σ) : Stk σ (X + 167) = 23 := (h.1.1 (167, 23, 24) (by decide)).1
theorem nX_167 {X : Nat} {σ : Sto} (h : LayX X σ) : Sln σ (X + 167) = 24 := (h.1.1 (167, 23, 24) (by decide)).2
theorem kX_169 {X : Nat} {σ : Sto} (h : LayX X σ) : Stk σ (X + 169) = 23 := (h.1.1 (169, 23, 24) (by decide)).1
theorem nX_169 {X : Nat} {σ : Sto} (h : LayX X σ) : Sln σ (X + 169) = 24 := (h.1.1 (169, 23, 24) (by decide)).2
theorem kX_171 {X : Nat} {σ : Sto} (h : LayX X σ) : Stk σ (X + 171) = 23 := (h.1.1 (171, 23, 24) (by decide)).1
theorem nX_171 {X : Nat} {σ : Sto} (h : LayX X σ) : Sln σ (X + 171) = 24 := (h.1.1 (171, 23, 24) (by decide)).2
theorem kX_172 {X : Nat} {σ : Sto} (h : LayX X σ) : Stk σ (X + 172) = 21 := (h.1.1 (172, 21, 60) (by decide)).1
theorem nX_172 {X : Nat} {σ : Sto} (h : LayX X σ) : Sln σ (X + 172) = 60 := (h.1.1 (172, 21, 60) (by decide)).2
theorem rX_0_0 {X : Nat} {σ : Sto} (h : LayX X σ) : SR σ X 0 = X + 1 := h.1.2 (0, 0, 1) (by decide)
theorem rX_0_1 {X : Nat} {σ : Sto} (h : LayX X σ) : SR σ X 1 = X + 54 := h.1.2 (0, 1, 54) (by decide)
theorem rX_0_2 {X : Nat} {σ : Sto} (h : LayX X σ) : SR σ X 2 = X + 107 := h.1.2 (0, 2, 107) (by decide)
theorem rX_0_3 {X : Nat} {σ : Sto} (h : LayX X σ) : SR σ X 3 = X + 160 := h.1.2 (0, 3, 160) (by decide)
theorem rX_160_0 {X : Nat} {σ : Sto} (h : LayX X σ) : SR σ (X + 160) 0 = X + 161 := h.1.2 (160, 0, 161) (by decide)
theorem rX_160_8 {X : Nat} {σ : Sto} (h : LayX X σ) : SR σ (X + 160) 8 = X + 162 := h.1.2 (160, 8, 162) (by decide)
theorem rX_0_4 {X : Nat} {σ : Sto} (h : LayX X σ) : SR σ X 4 = X + 163 := h.1.2 (0, 4, 163) (by decide)
theorem rX_163_0 {X : Nat} {σ : Sto} (h : LayX X σ) : SR σ (X + 163) 0 = X + 164 := h.1.2 (163, 0, 164) (by decide)
theorem rX_163_1 {X : Nat} {σ : Sto} (h : LayX X σ) : SR σ (X + 163) 1 = X + 166 := h.1.2 (163, 1, 166) (by decide)
theorem rX_163_2 {X : Nat} {σ : Sto} (h : LayX X σ) : SR σ (X + 163) 2 = X + 168 := h.1.2 (163, 2, 168) (by decide)
theorem rX_163_3 {X : Nat} {σ : Sto} (h : LayX X σ) : SR σ (X + 163) 3 = X + 170 := h.1.2 (163, 3, 170) (by decide)
theorem rX_164_2 {X : Nat} {σ : Sto} (h : LayX X σ) : SR σ (X + 164) 2 = X + 165 := h.1.2 (164, 2, 165) (by decide)
theorem rX_166_2 {X : Nat} {σ : Sto} (h : LayX X σ) : SR σ (X + 166) 2 = X + 167 := h.1.2 (166, 2, 167) (by decide)
theorem rX_168_2 {X : Nat} {σ : Sto} (h : LayX X σ) : SR σ (X + 168) 2 = X + 169 := h.1.2 (168, 2, 169) (by decide)
theorem rX_170_2 {X : Nat} {σ : Sto} (h : LayX X σ) : SR σ (X + 170) 2 = X + 171 := h.1.2 (170, 2, 171) (by decide)
theorem rX_0_5 {X : Nat} {σ : Sto} (h : LayX X σ) : SR σ X 5 = X + 172 := h.1.2 (0, 5, 172) (by decide)
def mK : List (Nat × Nat × Nat) := [(0, 13, 0), (1, 21, 3210), (2, 21, 3210), (3, 21, 3210), (4, 21, 4), (5, 21, 4), (6, 23, 96), (7, 21, 96), (8, 21, 128), (9, 21, 100), (10, 21, 16), (11, 21, 16), (12, 21, 16), (13, 21, 16), (14, 21, 16), (15, 21, 20), (16, 21, 20), (17, 21, 20), (18, 24, 20), (19, 23, 24), (20, 21, 60), (21, 21, 60)]
def mR : List (Nat × Nat × Nat) := [(0, 0, 1), (0, 1, 2), (0, 2, 3), (0, 4, 4), (0, 5, 5), (0, 6, 6), (0, 7, 7), (0, 19, 8), (0, 20, 9), (0, 22, 10), (0, 23, 11), (0, 24, 12), (0, 25, 13), (0, 26, 14), (0, 27, 15), (0, 28, 16), (0, 29, 17), (0, 30, 18), (0, 31, 19), (0, 32, 20), (0, 34, 21)]
/-- the reference's cells at Y -/
def LayY (Y : Nat) (ρ : Sto) : Prop := LayT mK mR Y ρ
theorem kY_0 {Y : Nat} {ρ : Sto} (h : LayY Y ρ) : Stk ρ Y = 13 := (h.1 (0, 13, 0) (by decide)).1
theorem kY_1 {Y : Nat} {ρ : Sto} (h : LayY Y ρ) : Stk ρ (Y + 1) = 21 := (h.1 (1, 21, 3210) (by decide)).1
theorem nY_1 {Y : Nat} {ρ : Sto} (h : LayY Y ρ) : Sln ρ (Y + 1) = 3210 := (h.1 (1, 21, 3210) (by decide)).2
theorem kY_2 {Y : Nat} {ρ : Sto} (h : LayY Y ρ) : Stk ρ (Y + 2) = 21 := (h.1 (2, 21, 3210) (by decide)).1
theorem nY_2 {Y : Nat} {ρ : Sto} (h : LayY Y ρ) : Sln ρ (Y + 2) = 3210 := (h.1 (2, 21, 3210) (by decide)).2
theorem kY_3 {Y : Nat} {ρ : Sto} (h : LayY Y ρ) : Stk ρ (Y + 3) = 21 := (h.1 (3, 21, 3210) (by decide)).1
theorem nY_3 {Y : Nat} {ρ : Sto} (h : LayY Y ρ) : Sln ρ (Y + 3) = 3210 := (h.1 (3, 21, 3210) (by decide)).2
theorem kY_4 {Y : Nat} {ρ : Sto} (h : LayY Y ρ) : Stk ρ (Y + 4) = 21 := (h.1 (4, 21, 4) (by decide)).1
theorem nY_4 {Y : Nat} {ρ : Sto} (h : LayY Y ρ) : Sln ρ (Y + 4) = 4 := (h.1 (4, 21, 4) (by decide)).2
theorem kY_5 {Y : Nat} {ρ : Sto} (h : LayY Y ρ) : Stk ρ (Y + 5) = 21 := (h.1 (5, 21, 4) (by decide)).1
theorem nY_5 {Y : Nat} {ρ : Sto} (h : LayY Y ρ) : Sln ρ (Y + 5) = 4 := (h.1 (5, 21, 4) (by decide)).2
theorem kY_6 {Y : Nat} {ρ : Sto} (h : LayY Y ρ) : Stk ρ (Y + 6) = 23 := (h.1 (6, 23, 96) (by decide)).1
theorem nY_6 {Y : Nat} {ρ : Sto} (h : LayY Y ρ) : Sln ρ (Y + 6) = 96 := (h.1 (6, 23, 96) (by decide)).2
theorem kY_7 {Y : Nat} {ρ : Sto} (h : LayY Y ρ) : Stk ρ (Y + 7) = 21 := (h.1 (7, 21, 96) (by decide)).1
theorem nY_7 {Y : Nat} {ρ : Sto} (h : LayY Y ρ) : Sln ρ (Y + 7) = 96 := (h.1 (7, 21, 96) (by decide)).2
theorem kY_8 {Y : Nat} {ρ : Sto} (h : LayY Y ρ) : Stk ρ (Y + 8) = 21 := (h.1 (8, 21, 128) (by decide)).1
theorem nY_8 {Y : Nat} {ρ : Sto} (h : LayY Y ρ) : Sln ρ (Y + 8) = 128 := (h.1 (8, 21, 128) (by decide)).2
theorem kY_9 {Y : Nat} {ρ : Sto} (h : LayY Y ρ) : Stk ρ (Y + 9) = 21 := (h.1 (9, 21, 100) (by decide)).1
theorem nY_9 {Y : Nat} {ρ : Sto} (h : LayY Y ρ) : Sln ρ (Y + 9) = 100 := (h.1 (9, 21, 100) (by decide)).2
theorem kY_10 {Y : Nat} {ρ : Sto} (h : LayY Y ρ) : Stk ρ (Y + 10) = 21 := (h.1 (10, 21, 16) (by decide)).1
theorem nY_10 {Y : Nat} {ρ : Sto} (h : LayY Y ρ) : Sln ρ (Y + 10) = 16 := (h.1 (10, 21, 16) (by decide)).2
theorem kY_11 {Y : Nat} {ρ : Sto} (h : LayY Y ρ) : Stk ρ (Y + 11) = 21 := (h.1 (11, 21, 16) (by decide)).1
theorem nY_11 {Y : Nat} {ρ : Sto} (h : LayY Y ρ) : Sln ρ (Y + 11) = 16 := (h.1 (11, 21, 16) (by decide)).2
theorem kY_12 {Y : Nat} {ρ : Sto} (h : LayY Y ρ) : Stk ρ (Y + 12) = 21 := (h.1 (12, 21, 16) (by decide)).1
theorem nY_12 {Y : Nat} {ρ : Sto} (h : LayY Y ρ) : Sln ρ (Y + 12) = 16 := (h.1 (12, 21, 16) (by decide)).2
theorem kY_13 {Y : Nat} {ρ : Sto} (h : LayY Y ρ) : Stk ρ (Y + 13) = 21 := (h.1 (13, 21, 16) (by decide)).1
theorem nY_13 {Y : Nat} {ρ : Sto} (h : LayY Y ρ) : Sln ρ (Y + 13) = 16 := (h.1 (13, 21, 16) (by decide)).2
theorem kY_14 {Y : Nat} {ρ : Sto} (h : LayY Y ρ) : Stk ρ (Y + 14) = 21 := (h.1 (14, 21, 16) (by decide)).1
theorem nY_14 {Y : Nat} {ρ : Sto} (h : LayY Y ρ) : Sln ρ (Y + 14) = 16 := (h.1 (14, 21, 16) (by decide)).2
theorem kY_15 {Y : Nat} {ρ : Sto} (h : LayY Y ρ) : Stk ρ (Y + 15) = 21 := (h.1 (15, 21, 20) (by decide)).1
theorem nY_15 {Y : Nat} {ρ : Sto} (h : LayY Y ρ) : Sln ρ (Y + 15) = 20 := (h.1 (15, 21, 20) (by decide)).2
theorem kY_16 {Y : Nat} {ρ : Sto} (h : LayY Y ρ) : Stk ρ (Y + 16) = 21 := (h.1 (16, 21, 20) (by decide)).1
theorem nY_16 {Y : Nat} {ρ : Sto} (h : LayY Y ρ) : Sln ρ (Y + 16) = 20 := (h.1 (16, 21, 20) (by decide)).2
theorem kY_17 {Y : Nat} {ρ : Sto} (h : LayY Y ρ) : Stk ρ (Y + 17) = 21 := (h.1 (17, 21, 20) (by decide)).1
theorem nY_17 {Y : Nat} {ρ : Sto} (h : LayY Y ρ) : Sln ρ (Y + 17) = 20 := (h.1 (17, 21, 20) (by decide)).2
theorem kY_18 {Y : Nat} {ρ : Sto} (h : LayY Y ρ) : Stk ρ (Y + 18) = 24 := (h.1 (18, 24, 20) (by decide)).1
theorem nY_18 {Y : Nat} {ρ : Sto} (h : LayY Y ρ) : Sln ρ (Y + 18) = 20 := (h.1 (18, 24, 20) (by decide)).2
theorem kY_19 {Y : Nat} {ρ : Sto} (h : LayY Y ρ) : Stk ρ (Y + 19) = 23 := (h.1 (19, 23, 24) (by decide)).1
theorem nY_19 {Y : Nat} {ρ : Sto} (h : LayY Y ρ) : Sln ρ (Y + 19) = 24 := (h.1 (19, 23, 24) (by decide)).2
theorem kY_20 {Y : Nat} {ρ : Sto} (h : LayY Y ρ) : Stk ρ (Y + 20) = 21 := (h.1 (20, 21, 60) (by decide)).1
theorem nY_20 {Y : Nat} {ρ : Sto} (h : LayY Y ρ) : Sln ρ (Y + 20) = 60 := (h.1 (20, 21, 60) (by decide)).2
theorem kY_21 {Y : Nat} {ρ : Sto} (h : LayY Y ρ) : Stk ρ (Y + 21) = 21 := (h.1 (21, 21, 60) (by decide)).1
theorem nY_21 {Y : Nat} {ρ : Sto} (h : LayY Y ρ) : Sln ρ (Y + 21) = 60 := (h.1 (21, 21, 60) (by decide)).2
theorem rY_0 {Y : Nat} {ρ : Sto} (h : LayY Y ρ) : SR ρ Y 0 = Y + 1 := h.2 (0, 0, 1) (by decide)
theorem rY_1 {Y : Nat} {ρ : Sto} (h : LayY Y ρ) : SR ρ Y 1 = Y + 2 := h.2 (0, 1, 2) (by decide)
theorem rY_2 {Y : Nat} {ρ : Sto} (h : LayY Y ρ) : SR ρ Y 2 = Y + 3 := h.2 (0, 2, 3) (by decide)
theorem rY_4 {Y : Nat} {ρ : Sto} (h : LayY Y ρ) : SR ρ Y 4 = Y + 4 := h.2 (0, 4, 4) (by decide)
theorem rY_5 {Y : Nat} {ρ : Sto} (h : LayY Y ρ) : SR ρ Y 5 = Y + 5 := h.2 (0, 5, 5) (by decide)
theorem rY_6 {Y : Nat} {ρ : Sto} (h : LayY Y ρ) : SR ρ Y 6 = Y + 6 := h.2 (0, 6, 6) (by decide)
theorem rY_7 {Y : Nat} {ρ : Sto} (h : LayY Y ρ) : SR ρ Y 7 = Y + 7 := h.2 (0, 7, 7) (by decide)
theorem rY_19 {Y : Nat} {ρ : Sto} (h : LayY Y ρ) : SR ρ Y 19 = Y + 8 := h.2 (0, 19, 8) (by decide)
theorem rY_20 {Y : Nat} {ρ : Sto} (h : LayY Y ρ) : SR ρ Y 20 = Y + 9 := h.2 (0, 20, 9) (by decide)
theorem rY_22 {Y : Nat} {ρ : Sto} (h : LayY Y ρ) : SR ρ Y 22 = Y + 10 := h.2 (0, 22, 10) (by decide)
theorem rY_23 {Y : Nat} {ρ : Sto} (h : LayY Y ρ) : SR ρ Y 23 = Y + 11 := h.2 (0, 23, 11) (by decide)
theorem rY_24 {Y : Nat} {ρ : Sto} (h : LayY Y ρ) : SR ρ Y 24 = Y + 12 := h.2 (0, 24, 12) (by decide)
theorem rY_25 {Y : Nat} {ρ : Sto} (h : LayY Y ρ) : SR ρ Y 25 = Y + 13 := h.2 (0, 25, 13) (by decide)
theorem rY_26 {Y : Nat} {ρ : Sto} (h : LayY Y ρ) : SR ρ Y 26 = Y + 14 := h.2 (0, 26, 14) (by decide)
theorem rY_27 {Y : Nat} {ρ : Sto} (h : LayY Y ρ) : SR ρ Y 27 = Y + 15 := h.2 (0, 27, 15) (by decide)
theorem rY_28 {Y : Nat} {ρ : Sto} (h : LayY Y ρ) : SR ρ Y 28 = Y + 16 := h.2 (0, 28, 16) (by decide)
theorem rY_29 {Y : Nat} {ρ : Sto} (h : LayY Y ρ) : SR ρ Y 29 = Y + 17 := h.2 (0, 29, 17) (by decide)
theorem rY_30 {Y : Nat} {ρ : Sto} (h : LayY Y ρ) : SR ρ Y 30 = Y + 18 := h.2 (0, 30, 18) (by decide)
theorem rY_31 {Y : Nat} {ρ : Sto} (h : LayY Y ρ) : SR ρ Y 31 = Y + 19 := h.2 (0, 31, 19) (by decide)
theorem rY_32 {Y : Nat} {ρ : Sto} (h : LayY Y ρ) : SR ρ Y 32 = Y + 20 := h.2 (0, 32, 20) (by decide)
theorem rY_34 {Y : Nat} {ρ : Sto} (h : LayY Y ρ) : SR ρ Y 34 = Y + 21 := h.2 (0, 34, 21) (by decide)
