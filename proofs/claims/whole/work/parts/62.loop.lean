/-! the law's loop -/
section LL
variable {D : va_G} {dA : Nat → ClassId} {cs : Nat → Nat} {p : Program} {l : Launch} {e : Env} {s : State} {m : MethodId} {below : List Frame} {meth : Method} {c : Code} {b X Y L : Nat} {xs : Nat → Int32} {Rel : Sto → Sto → Prop}
theorem U_next (hC : LX D dA cs p s m meth c b L xs) {k n : Nat} {i j : Int32} {σ ρ : Sto} (hj : i + 6 = j) (h : U D dA cs p l e s m below meth c b X Y k n 18 j [] σ ρ) : U D dA cs p l e s m below meth c b X Y k n 1683 i [] σ ρ := by
  intro ls H locs hl h1 h2 h3 hS
  refine lv_iinc (v := j) (lv' := [(3, .int j), (0, .ref b), (1, .ref (X - 1)), (2, .ref (Y - 1))]) hC.1 hC.2.1 (show decode code 1683 = .ok (.iinc 3 6, 3) by decide +kernel) hl (k := 3) rfl hj (by decide) rfl (fun ls hl => ?_)
  refine lv_goto (tgt := 18) hC.1 hC.2.1 (show decode code 1686 = .ok (.goto (-1668), 3) by decide +kernel) rfl ?_
  exact h ls H locs (lv_sub hl [1, 2, 3, 0] rfl) h1 h2 h3 hS
theorem U_exit (hC : LX D dA cs p s m meth c b L xs) {k n : Nat} {i : Int32} {σ ρ : Sto} (hk : k ≤ 600000) (hn : n ≤ 7302250) : U D dA cs p l e s m below meth c b X Y k n 1689 i [] σ ρ := by
  intro ls H locs hl h1 h2 h3 hS
  refine va_forget hS.2.2 ?_
  refine W.widen (k := 600000) (n := 7302250) hk hn ?_
  refine lv_iconst (v := 1) hC.1 hC.2.1 (show decode code 1689 = .ok (.iconst 1, 1) by decide +kernel) rfl ?_
  exact lw_ret hC.1 hC.2.1 hC.2.2.1 hC.2.2.2.2.2.2.2.2.2 (show decode code 1690 = .ok (.ireturn, 1) by decide +kernel)
set_option maxRecDepth 100000 in
set_option maxHeartbeats 8000000 in
theorem U_sw (hC : LX D dA cs p s m meth c b L xs) (hops : Ops X Y Rel) {k n : Nat} {i x : Int32} {σ ρ : Sto} (hr : Rel σ ρ) (hin : ∀ j : Int32, (j = 1 ∨ j = 2 ∨ j = 3 ∨ j = 4 ∨ j = 5) → vp_in (i + j) L) (hk : k + 2 ≤ 600000) (hn : n + 101 ≤ 7302250) (jx : Nat) (hjx : jx < 64) (hx : x = nI jx) (h : ∀ σ' ρ' : Sto, Rel σ' ρ' → U D dA cs p l e s m below meth c b X Y (k + 2) (n + 101) 1683 i [] σ' ρ') : U D dA cs p l e s m below meth c b X Y k n 33 i [.int x] σ ρ := by
  subst hx
  by_cases h44 : jx ≤ 44
  · have go : ∀ (t : Nat) (off : Int), (#[195, 218, 261, 294, 327, 360, 393, 416, 459, 482, 505, 548, 571, 604, 637, 670, 733, 766, 789, 822, 855, 908, 951, 984, 1007, 1030, 1063, 1096, 1119, 1142, 1165, 1208, 1251, 1284, 1307, 1340, 1373, 1416, 1459, 1492, 1555, 1578, 1601, 1614, 1627] : Array Int)[((nI jx).toInt - 0).toNat]? = some off → ((33 : Nat) : Int) + off = (t : Int) → U D dA cs p l e s m below meth c b X Y k n t i [] σ ρ → U D dA cs p l e s m below meth c b X Y k n 33 i [.int (nI jx)] σ ρ := by
      intro t off ho ht hU ls H locs hl h1 h2 h3 hS
      have e1 : (nI jx).toInt = (jx : Int) := nI_toInt (by omega)
      exact lv_tableIn hC.1 hC.2.1 (show decode code 33 = .ok (.tableswitch 1650 0 44 #[195, 218, 261, 294, 327, 360, 393, 416, 459, 482, 505, 548, 571, 604, 637, 670, 733, 766, 789, 822, 855, 908, 951, 984, 1007, 1030, 1063, 1096, 1119, 1142, 1165, 1208, 1251, 1284, 1307, 1340, 1373, 1416, 1459, 1492, 1555, 1578, 1601, 1614, 1627], 195) by decide +kernel) (by rw [e1]; omega) (by rw [e1]; omega) ho ht (hU ls H locs hl h1 h2 h3 hS)
    match jx, h44, go with
    | 0, _, go => exact go 228 195 (by decide) rfl (lc_0 hC (hops.1 σ ρ hr) (hops.2.1 (xs (i + 1).toNatClampNeg) σ ρ hr) (hin 1 (by decide)) hk hn h)
    | 1, _, go => exact go 251 218 (by decide) rfl (lc_1 hC (hops.1 σ ρ hr) (hops.2.2.1 (xs (i + 1).toNatClampNeg) (xs (i + 2).toNatClampNeg) (xs (i + 3).toNatClampNeg) σ ρ hr) (hin 1 (by decide)) (hin 2 (by decide)) (hin 3 (by decide)) hk hn h)
    | 2, _, go => exact go 294 261 (by decide) rfl (lc_2 hC (hops.1 σ ρ hr) (hops.2.2.2.1 (xs (i + 1).toNatClampNeg) (xs (i + 2).toNatClampNeg) σ ρ hr) (hin 1 (by decide)) (hin 2 (by decide)) hk hn h)
    | 3, _, go => exact go 327 294 (by decide) rfl (lc_3 hC (hops.1 σ ρ hr) (hops.2.2.2.2.1 (xs (i + 1).toNatClampNeg) (xs (i + 2).toNatClampNeg) σ ρ hr) (hin 1 (by decide)) (hin 2 (by decide)) hk hn h)
    | 4, _, go => exact go 360 327 (by decide) rfl (lc_4 hC (hops.1 σ ρ hr) (hops.2.2.2.2.2.1 (xs (i + 1).toNatClampNeg) (xs (i + 2).toNatClampNeg) σ ρ hr) (hin 1 (by decide)) (hin 2 (by decide)) hk hn h)
    | 5, _, go => exact go 393 360 (by decide) rfl (lc_5 hC (hops.1 σ ρ hr) (hops.2.2.2.2.2.2.1 (xs (i + 1).toNatClampNeg) (xs (i + 2).toNatClampNeg) σ ρ hr) (hin 1 (by decide)) (hin 2 (by decide)) hk hn h)
    | 6, _, go => exact go 426 393 (by decide) rfl (lc_6 hC (hops.1 σ ρ hr) (hops.2.2.2.2.2.2.2.1 (xs (i + 1).toNatClampNeg) σ ρ hr) (hin 1 (by decide)) hk hn h)
    | 7, _, go => exact go 449 416 (by decide) rfl (lc_7 hC (hops.1 σ ρ hr) (hops.2.2.2.2.2.2.2.2.1 (xs (i + 1).toNatClampNeg) (xs (i + 2).toNatClampNeg) (xs (i + 3).toNatClampNeg) σ ρ hr) (hin 1 (by decide)) (hin 2 (by decide)) (hin 3 (by decide)) hk hn h)
    | 8, _, go => exact go 492 459 (by decide) rfl (lc_8 hC (hops.1 σ ρ hr) (hops.2.2.2.2.2.2.2.2.2.1 (xs (i + 1).toNatClampNeg) σ ρ hr) (hin 1 (by decide)) hk hn h)
    | 9, _, go => exact go 515 482 (by decide) rfl (lc_9 hC (hops.1 σ ρ hr) (hops.2.2.2.2.2.2.2.2.2.2.1 (xs (i + 1).toNatClampNeg) σ ρ hr) (hin 1 (by decide)) hk hn h)
    | 10, _, go => exact go 538 505 (by decide) rfl (lc_10 hC (hops.1 σ ρ hr) (hops.2.2.2.2.2.2.2.2.2.2.2.1 (xs (i + 1).toNatClampNeg) (xs (i + 2).toNatClampNeg) (xs (i + 3).toNatClampNeg) σ ρ hr) (hin 1 (by decide)) (hin 2 (by decide)) (hin 3 (by decide)) hk hn h)
    | 11, _, go => exact go 581 548 (by decide) rfl (lc_11 hC (hops.1 σ ρ hr) (hops.2.2.2.2.2.2.2.2.2.2.2.2.1 (xs (i + 1).toNatClampNeg) σ ρ hr) (hin 1 (by decide)) hk hn h)
    | 12, _, go => exact go 604 571 (by decide) rfl (lc_12 hC (hops.1 σ ρ hr) (hops.2.2.2.2.2.2.2.2.2.2.2.2.2.1 (xs (i + 1).toNatClampNeg) (xs (i + 2).toNatClampNeg) σ ρ hr) (hin 1 (by decide)) (hin 2 (by decide)) hk hn h)
    | 13, _, go => exact go 637 604 (by decide) rfl (lc_13 hC (hops.1 σ ρ hr) (hops.2.2.2.2.2.2.2.2.2.2.2.2.2.2.1 (xs (i + 1).toNatClampNeg) (xs (i + 2).toNatClampNeg) σ ρ hr) (hin 1 (by decide)) (hin 2 (by decide)) hk hn h)
    | 14, _, go => exact go 670 637 (by decide) rfl (lc_14 hC (hops.1 σ ρ hr) (hops.2.2.2.2.2.2.2.2.2.2.2.2.2.2.2.1 (xs (i + 1).toNatClampNeg) (xs (i + 2).toNatClampNeg) σ ρ hr) (hin 1 (by decide)) (hin 2 (by decide)) hk hn h)
    | 15, _, go => exact go 703 670 (by decide) rfl (lc_15 hC (hops.1 σ ρ hr) (hops.2.2.2.2.2.2.2.2.2.2.2.2.2.2.2.2.1 (xs (i + 1).toNatClampNeg) (xs (i + 2).toNatClampNeg) (xs (i + 3).toNatClampNeg) (xs (i + 4).toNatClampNeg) (xs (i + 5).toNatClampNeg) σ ρ hr) (hin 1 (by decide)) (hin 2 (by decide)) (hin 3 (by decide)) (hin 4 (by decide)) (hin 5 (by decide)) hk hn h)
    | 16, _, go => exact go 766 733 (by decide) rfl (lc_16 hC (hops.1 σ ρ hr) (hops.2.2.2.2.2.2.2.2.2.2.2.2.2.2.2.2.2.1 (xs (i + 1).toNatClampNeg) (xs (i + 2).toNatClampNeg) σ ρ hr) (hin 1 (by decide)) (hin 2 (by decide)) hk hn h)
    | 17, _, go => exact go 799 766 (by decide) rfl (lc_17 hC (hops.1 σ ρ hr) (hops.2.2.2.2.2.2.2.2.2.2.2.2.2.2.2.2.2.2.1 (xs (i + 1).toNatClampNeg) σ ρ hr) (hin 1 (by decide)) hk hn h)
    | 18, _, go => exact go 822 789 (by decide) rfl (lc_18 hC (hops.1 σ ρ hr) (hops.2.2.2.2.2.2.2.2.2.2.2.2.2.2.2.2.2.2.2.1 (xs (i + 1).toNatClampNeg) (xs (i + 2).toNatClampNeg) σ ρ hr) (hin 1 (by decide)) (hin 2 (by decide)) hk hn h)
    | 19, _, go => exact go 855 822 (by decide) rfl (lc_19 hC (hops.1 σ ρ hr) (hops.2.2.2.2.2.2.2.2.2.2.2.2.2.2.2.2.2.2.2.2.1 (xs (i + 1).toNatClampNeg) (xs (i + 2).toNatClampNeg) σ ρ hr) (hin 1 (by decide)) (hin 2 (by decide)) hk hn h)
    | 20, _, go => exact go 888 855 (by decide) rfl (lc_20 hC (hops.1 σ ρ hr) (hops.2.2.2.2.2.2.2.2.2.2.2.2.2.2.2.2.2.2.2.2.2.1 (xs (i + 1).toNatClampNeg) (xs (i + 2).toNatClampNeg) (xs (i + 3).toNatClampNeg) (xs (i + 4).toNatClampNeg) σ ρ hr) (hin 1 (by decide)) (hin 2 (by decide)) (hin 3 (by decide)) (hin 4 (by decide)) hk hn h)
    | 21, _, go => exact go 941 908 (by decide) rfl (lc_21 hC (hops.1 σ ρ hr) (hops.2.2.2.2.2.2.2.2.2.2.2.2.2.2.2.2.2.2.2.2.2.2.1 (xs (i + 1).toNatClampNeg) (xs (i + 2).toNatClampNeg) (xs (i + 3).toNatClampNeg) σ ρ hr) (hin 1 (by decide)) (hin 2 (by decide)) (hin 3 (by decide)) hk hn h)
    | 22, _, go => exact go 984 951 (by decide) rfl (lc_22 hC (hops.1 σ ρ hr) (hops.2.2.2.2.2.2.2.2.2.2.2.2.2.2.2.2.2.2.2.2.2.2.2.1 (xs (i + 1).toNatClampNeg) (xs (i + 2).toNatClampNeg) σ ρ hr) (hin 1 (by decide)) (hin 2 (by decide)) hk hn h)
    | 23, _, go => exact go 1017 984 (by decide) rfl (lc_23 hC (hops.1 σ ρ hr) (hops.2.2.2.2.2.2.2.2.2.2.2.2.2.2.2.2.2.2.2.2.2.2.2.2.1 (xs (i + 1).toNatClampNeg) σ ρ hr) (hin 1 (by decide)) hk hn h)
    | 24, _, go => exact go 1040 1007 (by decide) rfl (lc_24 hC (hops.1 σ ρ hr) (hops.2.2.2.2.2.2.2.2.2.2.2.2.2.2.2.2.2.2.2.2.2.2.2.2.2.1 (xs (i + 1).toNatClampNeg) σ ρ hr) (hin 1 (by decide)) hk hn h)
    | 25, _, go => exact go 1063 1030 (by decide) rfl (lc_25 hC (hops.1 σ ρ hr) (hops.2.2.2.2.2.2.2.2.2.2.2.2.2.2.2.2.2.2.2.2.2.2.2.2.2.2.1 (xs (i + 1).toNatClampNeg) (xs (i + 2).toNatClampNeg) σ ρ hr) (hin 1 (by decide)) (hin 2 (by decide)) hk hn h)
    | 26, _, go => exact go 1096 1063 (by decide) rfl (lc_26 hC (hops.1 σ ρ hr) (hops.2.2.2.2.2.2.2.2.2.2.2.2.2.2.2.2.2.2.2.2.2.2.2.2.2.2.2.1 (xs (i + 1).toNatClampNeg) (xs (i + 2).toNatClampNeg) σ ρ hr) (hin 1 (by decide)) (hin 2 (by decide)) hk hn h)
    | 27, _, go => exact go 1129 1096 (by decide) rfl (lc_27 hC (hops.1 σ ρ hr) (hops.2.2.2.2.2.2.2.2.2.2.2.2.2.2.2.2.2.2.2.2.2.2.2.2.2.2.2.2.1 (xs (i + 1).toNatClampNeg) σ ρ hr) (hin 1 (by decide)) hk hn h)
    | 28, _, go => exact go 1152 1119 (by decide) rfl (lc_28 hC (hops.1 σ ρ hr) (hops.2.2.2.2.2.2.2.2.2.2.2.2.2.2.2.2.2.2.2.2.2.2.2.2.2.2.2.2.2.1 (xs (i + 1).toNatClampNeg) σ ρ hr) (hin 1 (by decide)) hk hn h)
    | 29, _, go => exact go 1175 1142 (by decide) rfl (lc_29 hC (hops.1 σ ρ hr) (hops.2.2.2.2.2.2.2.2.2.2.2.2.2.2.2.2.2.2.2.2.2.2.2.2.2.2.2.2.2.2.1 (xs (i + 1).toNatClampNeg) σ ρ hr) (hin 1 (by decide)) hk hn h)
    | 30, _, go => exact go 1198 1165 (by decide) rfl (lc_30 hC (hops.1 σ ρ hr) (hops.2.2.2.2.2.2.2.2.2.2.2.2.2.2.2.2.2.2.2.2.2.2.2.2.2.2.2.2.2.2.2.1 (xs (i + 1).toNatClampNeg) (xs (i + 2).toNatClampNeg) (xs (i + 3).toNatClampNeg) σ ρ hr) (hin 1 (by decide)) (hin 2 (by decide)) (hin 3 (by decide)) hk hn h)
    | 31, _, go => exact go 1241 1208 (by decide) rfl (lc_31 hC (hops.1 σ ρ hr) (hops.2.2.2.2.2.2.2.2.2.2.2.2.2.2.2.2.2.2.2.2.2.2.2.2.2.2.2.2.2.2.2.2.1 (xs (i + 1).toNatClampNeg) (xs (i + 2).toNatClampNeg) (xs (i + 3).toNatClampNeg) σ ρ hr) (hin 1 (by decide)) (hin 2 (by decide)) (hin 3 (by decide)) hk hn h)
    | 32, _, go => exact go 1284 1251 (by decide) rfl (lc_32 hC (hops.1 σ ρ hr) (hops.2.2.2.2.2.2.2.2.2.2.2.2.2.2.2.2.2.2.2.2.2.2.2.2.2.2.2.2.2.2.2.2.2.1 (xs (i + 1).toNatClampNeg) (xs (i + 2).toNatClampNeg) σ ρ hr) (hin 1 (by decide)) (hin 2 (by decide)) hk hn h)
    | 33, _, go => exact go 1317 1284 (by decide) rfl (lc_33 hC (hops.1 σ ρ hr) (hops.2.2.2.2.2.2.2.2.2.2.2.2.2.2.2.2.2.2.2.2.2.2.2.2.2.2.2.2.2.2.2.2.2.2.1 (xs (i + 1).toNatClampNeg) σ ρ hr) (hin 1 (by decide)) hk hn h)
    | 34, _, go => exact go 1340 1307 (by decide) rfl (lc_34 hC (hops.1 σ ρ hr) (hops.2.2.2.2.2.2.2.2.2.2.2.2.2.2.2.2.2.2.2.2.2.2.2.2.2.2.2.2.2.2.2.2.2.2.2.1 (xs (i + 1).toNatClampNeg) (xs (i + 2).toNatClampNeg) σ ρ hr) (hin 1 (by decide)) (hin 2 (by decide)) hk hn h)
    | 35, _, go => exact go 1373 1340 (by decide) rfl (lc_35 hC (hops.1 σ ρ hr) (hops.2.2.2.2.2.2.2.2.2.2.2.2.2.2.2.2.2.2.2.2.2.2.2.2.2.2.2.2.2.2.2.2.2.2.2.2.1 (xs (i + 1).toNatClampNeg) (xs (i + 2).toNatClampNeg) σ ρ hr) (hin 1 (by decide)) (hin 2 (by decide)) hk hn h)
    | 36, _, go => exact go 1406 1373 (by decide) rfl (lc_36 hC (hops.1 σ ρ hr) (hops.2.2.2.2.2.2.2.2.2.2.2.2.2.2.2.2.2.2.2.2.2.2.2.2.2.2.2.2.2.2.2.2.2.2.2.2.2.1 (xs (i + 1).toNatClampNeg) (xs (i + 2).toNatClampNeg) (xs (i + 3).toNatClampNeg) σ ρ hr) (hin 1 (by decide)) (hin 2 (by decide)) (hin 3 (by decide)) hk hn h)
    | 37, _, go => exact go 1449 1416 (by decide) rfl (lc_37 hC (hops.1 σ ρ hr) (hops.2.2.2.2.2.2.2.2.2.2.2.2.2.2.2.2.2.2.2.2.2.2.2.2.2.2.2.2.2.2.2.2.2.2.2.2.2.2.1 (xs (i + 1).toNatClampNeg) (xs (i + 2).toNatClampNeg) (xs (i + 3).toNatClampNeg) σ ρ hr) (hin 1 (by decide)) (hin 2 (by decide)) (hin 3 (by decide)) hk hn h)
    | 38, _, go => exact go 1492 1459 (by decide) rfl (lc_38 hC (hops.1 σ ρ hr) (hops.2.2.2.2.2.2.2.2.2.2.2.2.2.2.2.2.2.2.2.2.2.2.2.2.2.2.2.2.2.2.2.2.2.2.2.2.2.2.2.1 (xs (i + 1).toNatClampNeg) (xs (i + 2).toNatClampNeg) σ ρ hr) (hin 1 (by decide)) (hin 2 (by decide)) hk hn h)
    | 39, _, go => exact go 1525 1492 (by decide) rfl (lc_39 hC (hops.1 σ ρ hr) (hops.2.2.2.2.2.2.2.2.2.2.2.2.2.2.2.2.2.2.2.2.2.2.2.2.2.2.2.2.2.2.2.2.2.2.2.2.2.2.2.2.1 (xs (i + 1).toNatClampNeg) (xs (i + 2).toNatClampNeg) (xs (i + 3).toNatClampNeg) (xs (i + 4).toNatClampNeg) (xs (i + 5).toNatClampNeg) σ ρ hr) (hin 1 (by decide)) (hin 2 (by decide)) (hin 3 (by decide)) (hin 4 (by decide)) (hin 5 (by decide)) hk hn h)
    | 40, _, go => exact go 1588 1555 (by decide) rfl (lc_40 hC (hops.1 σ ρ hr) (hops.2.2.2.2.2.2.2.2.2.2.2.2.2.2.2.2.2.2.2.2.2.2.2.2.2.2.2.2.2.2.2.2.2.2.2.2.2.2.2.2.2.1 (xs (i + 1).toNatClampNeg) σ ρ hr) (hin 1 (by decide)) hk hn h)
    | 41, _, go => exact go 1611 1578 (by decide) rfl (lc_41 hC (hops.1 σ ρ hr) (hops.2.2.2.2.2.2.2.2.2.2.2.2.2.2.2.2.2.2.2.2.2.2.2.2.2.2.2.2.2.2.2.2.2.2.2.2.2.2.2.2.2.2.1 (xs (i + 1).toNatClampNeg) σ ρ hr) (hin 1 (by decide)) hk hn h)
    | 42, _, go => exact go 1634 1601 (by decide) rfl (lc_42 hC (hops.1 σ ρ hr) (hops.2.2.2.2.2.2.2.2.2.2.2.2.2.2.2.2.2.2.2.2.2.2.2.2.2.2.2.2.2.2.2.2.2.2.2.2.2.2.2.2.2.2.2.1 σ ρ hr) hk hn h)
    | 43, _, go => exact go 1647 1614 (by decide) rfl (lc_43 hC (hops.1 σ ρ hr) (hops.2.2.2.2.2.2.2.2.2.2.2.2.2.2.2.2.2.2.2.2.2.2.2.2.2.2.2.2.2.2.2.2.2.2.2.2.2.2.2.2.2.2.2.2.1 σ ρ hr) hk hn h)
    | 44, _, go => exact go 1660 1627 (by decide) rfl (lc_44 hC (hops.1 σ ρ hr) (hops.2.2.2.2.2.2.2.2.2.2.2.2.2.2.2.2.2.2.2.2.2.2.2.2.2.2.2.2.2.2.2.2.2.2.2.2.2.2.2.2.2.2.2.2.2 (xs (i + 1).toNatClampNeg) σ ρ hr) (hin 1 (by decide)) hk hn h)
    | _ + 45, hz, _ => exact absurd hz (by omega)
  · intro ls H locs hl h1 h2 h3 hS
    have e1 : (nI jx).toInt = (jx : Int) := nI_toInt (by omega)
    exact lv_tableOut hC.1 hC.2.1 (show decode code 33 = .ok (.tableswitch 1650 0 44 #[195, 218, 261, 294, 327, 360, 393, 416, 459, 482, 505, 548, 571, 604, 637, 670, 733, 766, 789, 822, 855, 908, 951, 984, 1007, 1030, 1063, 1096, 1119, 1142, 1165, 1208, 1251, 1284, 1307, 1340, 1373, 1416, 1459, 1492, 1555, 1578, 1601, 1614, 1627], 195) by decide +kernel) (Or.inr (by rw [e1]; omega)) rfl (U_widen (by omega) (by omega) (h σ ρ hr) ls H locs hl h1 h2 h3 hS)
theorem law_loop (hC : LX D dA cs p s m meth c b L xs) (hops : Ops X Y Rel) (hL : L ≤ 3072) : ∀ (f t k n : Nat) (σ ρ : Sto), L < 6 * (t + f) + 6 → 6 * t ≤ 3072 → k + 2 * f ≤ 600000 → n + 101 * f ≤ 7302250 → Rel σ ρ → U D dA cs p l e s m below meth c b X Y k n 18 (nI (6 * t)) [] σ ρ := by
  intro f
  induction f with
  | zero =>
    intro t k n σ ρ h1 h2 h3 h4 hr ls H locs hl g1 g2 g3 hS
    refine lv_iload_n hC.1 hC.2.1 (show decode code 18 = .ok (.iload_n 3, 1) by decide +kernel) rfl (lv_at hl 3 rfl) ?_
    refine lv_aload_n hC.1 hC.2.1 (show decode code 19 = .ok (.aload_n 0, 1) by decide +kernel) rfl (lv_at hl 0 rfl) ?_
    refine va_slen hC.1 hC.2.1 hC.2.2.2.2.2.2.2.1 hC.2.2.2.2.2.2.2.2.1 (Nat.not_le.mpr hC.2.2.2.2.2.2.2.2.1) hS (show decode code 20 = .ok (.arraylength, 1) by decide +kernel) ?_
    refine lv_bipush (v := 6) hC.1 hC.2.1 (show decode code 21 = .ok (.bipush 6, 2) by decide +kernel) rfl ?_
    refine lv_isub hC.1 hC.2.1 (show decode code 23 = .ok (.isub, 1) by decide +kernel) ?_
    refine lv_icmp_gt (tgt := 1689) hC.1 hC.2.1 (show decode code 24 = .ok (.if_icmp .gt 1665, 3) by decide +kernel) rfl (fun _ => U_exit hC (by omega) (by omega) ls H locs hl g1 g2 g3 hS) (fun hc => ?_)
    exfalso
    apply hc
    rw [Int32.lt_iff_toInt_lt, show (Int32.ofNat L - 6 : Int32) = nI L - nI 6 from rfl, pk_sub_toInt (by omega) (by omega), nI_toInt (by omega)]
    omega
  | succ f ih =>
    intro t k n σ ρ h1 h2 h3 h4 hr ls H locs hl g1 g2 g3 hS
    refine lv_iload_n hC.1 hC.2.1 (show decode code 18 = .ok (.iload_n 3, 1) by decide +kernel) rfl (lv_at hl 3 rfl) ?_
    refine lv_aload_n hC.1 hC.2.1 (show decode code 19 = .ok (.aload_n 0, 1) by decide +kernel) rfl (lv_at hl 0 rfl) ?_
    refine va_slen hC.1 hC.2.1 hC.2.2.2.2.2.2.2.1 hC.2.2.2.2.2.2.2.2.1 (Nat.not_le.mpr hC.2.2.2.2.2.2.2.2.1) hS (show decode code 20 = .ok (.arraylength, 1) by decide +kernel) ?_
    refine lv_bipush (v := 6) hC.1 hC.2.1 (show decode code 21 = .ok (.bipush 6, 2) by decide +kernel) rfl ?_
    refine lv_isub hC.1 hC.2.1 (show decode code 23 = .ok (.isub, 1) by decide +kernel) ?_
    refine lv_icmp_gt (tgt := 1689) hC.1 hC.2.1 (show decode code 24 = .ok (.if_icmp .gt 1665, 3) by decide +kernel) rfl (fun _ => U_exit hC (by omega) (by omega) ls H locs hl g1 g2 g3 hS) (fun hc => ?_)
    have hb6 : 6 * t + 6 ≤ L := by
      rcases Nat.lt_or_ge L (6 * t + 6) with z | z
      · exfalso
        apply hc
        rw [Int32.lt_iff_toInt_lt, show (Int32.ofNat L - 6 : Int32) = nI L - nI 6 from rfl, pk_sub_toInt (by omega) (by omega), nI_toInt (by omega)]
        omega
      · exact z
    refine lv_aload_n hC.1 hC.2.1 (show decode code 27 = .ok (.aload_n 0, 1) by decide +kernel) rfl (lv_at hl 0 rfl) ?_
    refine lv_iload_n hC.1 hC.2.1 (show decode code 28 = .ok (.iload_n 3, 1) by decide +kernel) rfl (lv_at hl 3 rfl) ?_
    refine va_sld hC.1 hC.2.1 hC.2.2.2.2.2.2.2.1 hC.2.2.2.2.2.2.2.2.1 (Nat.not_le.mpr hC.2.2.2.2.2.2.2.2.1) hS (vp_in_nI (by omega) (by omega)) (show decode code 29 = .ok (.iaload, 1) by decide +kernel) ?_
    refine lv_bipush (v := 63) hC.1 hC.2.1 (show decode code 30 = .ok (.bipush 63, 2) by decide +kernel) rfl ?_
    refine lv_iand hC.1 hC.2.1 (show decode code 32 = .ok (.iand, 1) by decide +kernel) ?_
    obtain ⟨jx, hj1, hj2⟩ := pk_andE (xs (nI (6 * t)).toNatClampNeg) (m := 63) 6 (by decide)
    have hin : ∀ j : Int32, (j = 1 ∨ j = 2 ∨ j = 3 ∨ j = 4 ∨ j = 5) → vp_in (nI (6 * t) + j) L := by
      intro j hj
      rcases hj with rfl | rfl | rfl | rfl | rfl
      · rw [show (1 : Int32) = nI 1 from rfl, nI_add]; exact vp_in_nI (by omega) (by omega)
      · rw [show (2 : Int32) = nI 2 from rfl, nI_add]; exact vp_in_nI (by omega) (by omega)
      · rw [show (3 : Int32) = nI 3 from rfl, nI_add]; exact vp_in_nI (by omega) (by omega)
      · rw [show (4 : Int32) = nI 4 from rfl, nI_add]; exact vp_in_nI (by omega) (by omega)
      · rw [show (5 : Int32) = nI 5 from rfl, nI_add]; exact vp_in_nI (by omega) (by omega)
    refine U_sw hC hops hr hin (by omega) (by omega) jx hj1 hj2 (fun σ' ρ' hr' => ?_) ls H locs hl g1 g2 g3 hS
    refine U_next hC (j := nI (6 * (t + 1))) (by rw [show (6 : Int32) = nI 6 from rfl, nI_add]; rfl) ?_
    exact ih (t + 1) (k + 2) (n + 101) σ' ρ' (by omega) (by omega) (by omega) (by omega) hr'
end LL
