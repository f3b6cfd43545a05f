section LC
variable {D : va_G} {dA : Nat → ClassId} {cs : Nat → Nat} {p : Program} {l : Launch} {e : Env} {s : State} {m : MethodId} {below : List Frame} {meth : Method} {c : Code} {b X Y L : Nat} {xs : Nat → Int32} {k n : Nat} {i : Int32} {σ ρ : Sto} {Rel : Sto → Sto → Prop}
set_option maxRecDepth 100000 in
set_option maxHeartbeats 4000000 in
theorem lc_44 (hC : LX D dA cs p s m meth c b L xs) (hXY : Stk σ X = 12 ∧ Stk ρ Y = 13) (hop : OpOK Rel (f_Trail_count X (xs (i + 1).toNatClampNeg) true σ) (fun ρ : Sto => f_Model_count Y (xs (i + 1).toNatClampNeg) true ρ) ρ) (hi1 : vp_in (i + 1) L) (hk : k + 2 ≤ 600000) (hn : n + 101 ≤ 7302250) (h : ∀ σ' ρ' : Sto, Rel σ' ρ' → U D dA cs p l e s m below meth c b X Y (k + 2) (n + 101) 1683 i [] σ' ρ') : U D dA cs p l e s m below meth c b X Y k n 1660 i [] σ ρ := by
  obtain ⟨o1, o2, o3, o4, o5⟩ := hop
  refine U_x hC 1661 rfl (show decode code 1660 = .ok (.aload_n 1, 1) by decide +kernel) ?_
  refine U_arg hC (j := 1) rfl 1666 rfl (show decode code 1661 = .ok (.aload_n 0, 1) by decide +kernel) (show decode code 1662 = .ok (.iload_n 3, 1) by decide +kernel) (show decode code 1663 = .ok (.iconst 1, 1) by decide +kernel) (show decode code 1664 = .ok (.iadd, 1) by decide +kernel) (show decode code 1665 = .ok (.iaload, 1) by decide +kernel) hi1 ?_
  refine U_callC hC (M' := M_Trail_count) (as := [vI (xs (i + 1).toNatClampNeg)]) (rest := []) (na := 1) (G := (f_Trail_count X (xs (i + 1).toNatClampNeg) true σ)) 1669 rfl rfl hXY.1 (s_Trail_count X (xs (i + 1).toNatClampNeg) true σ) o1 rfl rfl (by decide) wd_1485 wd_170 (by decide) (by decide) (by decide) (by omega) (by omega) (show decode code 1666 = .ok (.invokevirtual 195, 3) by decide +kernel) wd_1482 wd_1483 wd_1484 ?_
  refine U_m hC 1670 rfl (show decode code 1669 = .ok (.aload_n 2, 1) by decide +kernel) ?_
  refine U_arg hC (j := 1) rfl 1675 rfl (show decode code 1670 = .ok (.aload_n 0, 1) by decide +kernel) (show decode code 1671 = .ok (.iload_n 3, 1) by decide +kernel) (show decode code 1672 = .ok (.iconst 1, 1) by decide +kernel) (show decode code 1673 = .ok (.iadd, 1) by decide +kernel) (show decode code 1674 = .ok (.iaload, 1) by decide +kernel) hi1 ?_
  refine U_callR hC (M' := M_Model_count) (as := [vI (xs (i + 1).toNatClampNeg)]) (rest := [.int (f_Trail_count X (xs (i + 1).toNatClampNeg) true σ).1]) (na := 1) (G := (f_Model_count Y (xs (i + 1).toNatClampNeg) true (stn ρ (Shn (f_Trail_count X (xs (i + 1).toNatClampNeg) true σ).2.2)))) 1678 rfl rfl hXY.2 (s_Model_count Y (xs (i + 1).toNatClampNeg) true (stn ρ (Shn (f_Trail_count X (xs (i + 1).toNatClampNeg) true σ).2.2))) o2 rfl rfl (Nat.le_of_ble_eq_true rfl) wd_2078 wd_181 (by decide) (by decide) (by decide) (by omega) (by omega) (show decode code 1675 = .ok (.invokevirtual 198, 3) by decide +kernel) wd_2075 wd_2076 wd_2077 ?_
  refine U_eq hC 1683 (show decode code 1678 = .ok (.if_icmp .eq 5, 3) by decide +kernel) rfl o3 ?_
  have e : stn (f_Trail_count X (xs (i + 1).toNatClampNeg) true σ).2.2 (Shn (f_Model_count Y (xs (i + 1).toNatClampNeg) true (stn ρ (Shn (f_Trail_count X (xs (i + 1).toNatClampNeg) true σ).2.2))).2.2) = (f_Trail_count X (xs (i + 1).toNatClampNeg) true σ).2.2 := e_stn o4
  rw [e]
  exact U_widen (by omega) (by omega) (h _ _ o5)
end LC
