/-! rows of V: Object.<init>, Math.max, Math.min, System.arraycopy, the table of kinds -/
section VN
variable {α : Type} {M : MD} {d mc ms k n : Nat} {tv : α → Option LV} {F F1 F2 : Rs α} {pc : Nat} {lv : List (Nat × LV)} {st : List LV} {b : Bool} {σ : Sto}
theorem csm_cat (rest : List LV) : ((stm rest).map fun v => v.category).sum = csm rest := by
  have e : (stm rest).map (fun v => v.category) = rest.map cat := by simp [stm, Function.comp_def, val_cat]
  rw [e]
  rfl
theorem V_objI {a i : Nat} (q : Nat) (hq : pc + 3 = q) (hd : decode M.2.1 pc = .ok (.invokespecial i, 3)) (hl : Cond.methodLink M.1.cls i Lib.objectInit ∈ gwl) (hw : Cond.instanceMethod Lib.objectInit ∈ gwl) (hc : Cond.code Lib.objectInit ⟨#[0xb1]⟩ 1 none ∈ gwl) (hd1 : 1 ≤ d) (hrm : csm st ≤ 8)
    (h : V M d mc ms k n tv F q lv st (b && !decide (a = 0)) σ) : V M d mc ms k n tv F pc lv (vR a :: st) b σ := by
  subst hq
  refine ⟨fun hf => and_l (h.1 hf), fun hf D dA cs A p l e s m args below meth c ls H locs X hl' hH hS => ?_⟩
  have ha : a ≠ 0 := by simpa using and_r (h.1 hf)
  have hts := X.2.2.2.2.2.2.2.1
  show W p l e (Rm d mc ms) s m args below meth c H locs k n _ (F0 m pc ls (vr a :: stm st))
  rw [vr_ne ha]
  refine W.objInit X.1 X.2.1 X.2.2.2.2.2.2.1 (hts _ hl) (hts _ hw) (hts _ hc) rfl (by rw [X.2.2.2.1]; exact hl'.1) rfl hd hd1 ?_ (h.2 hf D dA cs A p l e s m args below meth c ls H locs X hl' hH hS)
  show 2 * 0 + ((stm st).map fun v => v.category).sum + 12 ≤ 64 * d
  rw [csm_cat]
  omega
def mxI (x y : Int32) : Int32 := if x < y then y else x
def mnI (x y : Int32) : Int32 := if y < x then y else x
theorem V_max {i : Nat} {x y : Int32} (q : Nat) (hq : pc + 3 = q) (hd : decode M.2.1 pc = .ok (.invokestatic i, 3)) (hl : Cond.methodLink M.1.cls i Lib.Math.max.name ∈ gwl) (hw : Cond.static Lib.Math.max.name ∈ gwl) (hi : Cond.initialized "java/lang/Math" ∈ gwl) (hc : Cond.code Lib.Math.max.name Lib.Math.max.code 2 (some .int) ∈ gwl) (hd1 : 1 ≤ d) (hrm : csm st ≤ 8) (hk : k ≤ mc) (hn : n ≤ ms)
    (h : V M d mc ms k n tv F q lv (vI (mxI x y) :: st) b σ) : V M d mc ms k n tv F pc lv (vI y :: vI x :: st) b σ := by
  subst hq
  refine ⟨h.1, fun hf D dA cs A p l e s m args below meth c ls H locs X hl' hH hS => ?_⟩
  have hts := X.2.2.2.2.2.2.2.1
  refine va_mmax X.1 X.2.1 (by rw [X.2.2.2.1]; exact hl'.1.symm) X.2.2.2.2.2.2.1 (hts _ hl) (hts _ hw) (hts _ hi) (hts _ hc) hd1 ?_ hk hn hd (h.2 hf D dA cs A p l e s m args below meth c ls H locs X hl' hH hS)
  show ((stm st).map fun v => v.category).sum + 13 ≤ 64 * d
  rw [csm_cat]
  omega
theorem V_min {i : Nat} {x y : Int32} (q : Nat) (hq : pc + 3 = q) (hd : decode M.2.1 pc = .ok (.invokestatic i, 3)) (hl : Cond.methodLink M.1.cls i Lib.Math.min.name ∈ gwl) (hw : Cond.static Lib.Math.min.name ∈ gwl) (hi : Cond.initialized "java/lang/Math" ∈ gwl) (hc : Cond.code Lib.Math.min.name Lib.Math.min.code 2 (some .int) ∈ gwl) (hd1 : 1 ≤ d) (hrm : csm st ≤ 8) (hk : k ≤ mc) (hn : n ≤ ms)
    (h : V M d mc ms k n tv F q lv (vI (mnI x y) :: st) b σ) : V M d mc ms k n tv F pc lv (vI y :: vI x :: st) b σ := by
  subst hq
  refine ⟨h.1, fun hf D dA cs A p l e s m args below meth c ls H locs X hl' hH hS => ?_⟩
  have hts := X.2.2.2.2.2.2.2.1
  refine va_mmin X.1 X.2.1 (by rw [X.2.2.2.1]; exact hl'.1.symm) X.2.2.2.2.2.2.1 (hts _ hl) (hts _ hw) (hts _ hi) (hts _ hc) hd1 ?_ hk hn hd (h.2 hf D dA cs A p l e s m args below meth c ls H locs X hl' hH hS)
  show ((stm st).map fun v => v.category).sum + 13 ≤ 64 * d
  rw [csm_cat]
  omega
/-- System.arraycopy -/
def cpc (σ : Sto) (a0 a kd : Nat) (sp dp z : Int32) : Bool := cK σ a0 kd && (cK σ a kd && (!decide (sp < 0) && (!decide (dp < 0) && (!decide (z < 0) && (decide (ix sp + ix z ≤ Sln σ a0) && decide (ix dp + ix z ≤ Sln σ a))))))
theorem clampN {z : Int32} (hz : ¬ z < 0) : z.toInt = (z.toNatClampNeg : Int) := by
  have hz0 : (0 : Int) ≤ z.toInt := by
    have := Int32.not_lt.mp hz
    simpa using Int32.le_iff_toInt_le.mp this
  show z.toInt = ((z.toInt.toNat : Nat) : Int)
  omega
theorem V_acpI {a0 a i : Nat} {sp dp z : Int32} {kf : Sto → Rs α} (q : Nat) (hq : pc + 3 = q) (hd : decode M.2.1 pc = .ok (.invokestatic i, 3)) (hl : Cond.methodLink M.1.cls i arraycopyName ∈ gwl) (hw : Cond.native arraycopyName ∈ gwl) (hw2 : Cond.static arraycopyName ∈ gwl) (hi : Cond.initialized "java/lang/System" ∈ gwl) (hd1 : 1 ≤ d) (hrm : csm st ≤ 8)
    (h : ∀ σ' : Sto, V M d mc ms k n tv (kf σ') q lv st (b && cpc σ a0 a 21 sp dp z) σ') : V M d mc ms k n tv (lt_ (rI σ a (va_cpy (SI σ a0) (SI σ a) (ix sp) (ix dp) (ix z))) kf) pc lv (vI z :: vI dp :: vR a :: vI sp :: vR a0 :: st) b σ := by
  subst hq
  have h := h (rI σ a (va_cpy (SI σ a0) (SI σ a) (ix sp) (ix dp) (ix z)))
  refine ⟨fun hf => and_l (h.1 hf), fun hf D dA cs A p l e s m args below meth c ls H locs X hl' hH hS => ?_⟩
  have hts := X.2.2.2.2.2.2.2.1
  have K := X.2.2.2.2.2.2.2.2.1.1
  have hc := and_r (h.1 hf)
  unfold cpc at hc
  have h1 : ¬ sp < 0 := by simpa using and_l (and_r (and_r hc))
  have h2 : ¬ dp < 0 := by simpa using and_l (and_r (and_r (and_r hc)))
  have h3 : ¬ z < 0 := by simpa using and_l (and_r (and_r (and_r (and_r hc))))
  have h4 : ix sp + ix z ≤ Sln σ a0 := by simpa using and_l (and_r (and_r (and_r (and_r (and_r hc)))))
  have h5 : ix dp + ix z ≤ Sln σ a := by simpa using and_r (and_r (and_r (and_r (and_r (and_r hc)))))
  obtain ⟨f1, f2, f3, f4⟩ := HP_at hH (and_l hc) (by omega) (by omega)
  obtain ⟨g1, g2, g3, g4⟩ := HP_at hH (and_l (and_r hc)) (by omega) (by omega)
  rw [celP_int f1] at f3
  rw [celP_int g1] at g3
  obtain ⟨-, k0, hk0, cm0, hkk0⟩ := (K.2 0 (dA 0, .int) rfl).1 (Sln σ a0) (fun j => .int (SI σ a0 j))
  obtain ⟨-, k1, hk1, cm1, hkk1⟩ := (K.2 0 (dA 0, .int) rfl).1 (Sln σ a) (fun j => .int (SI σ a j))
  show W p l e (Rm d mc ms) s m args below meth c H locs k n _ (F0 m pc ls (.int z :: .int dp :: vr a :: .int sp :: vr a0 :: stm st))
  rw [f2, g2]
  intro T hT Y
  obtain ⟨vm', Y', step⟩ := Y.arraycopy X.1 X.2.2.2.2.2.2.1 (hts _ hl) (hts _ hw) (hts _ hw2) (hts _ hi) (src := a0 - 1) (dst := a - 1) (cs := arrV (dA 0) (Sln σ a0) (fun j => .int (SI σ a0 j))) (cd := arrV (dA 0) (Sln σ a) (fun j => .int (SI σ a j))) (srcPos := sp) (destPos := dp) (n := z) (by rw [hT]; exact f3) (by rw [hT]; exact g3)
    (fun _ h => by cases h) (fun _ h => by cases h) (fun h => by cases h) (fun h => by cases h) hk0 hk1 hkk0 hkk1 (by simp [refKind]) h1 h2 h3
    (by rw [clampN h1, clampN h3]; show ¬ _ > ((arrV (dA 0) (Sln σ a0) (fun j => .int (SI σ a0 j))).slots.size : Int); rw [arrV_size]; unfold ix at h4; omega)
    (by rw [clampN h2, clampN h3]; show ¬ _ > ((arrV (dA 0) (Sln σ a) (fun j => .int (SI σ a j))).slots.size : Int); rw [arrV_size]; unfold ix at h5; omega)
    (fun vm₁ _ i hi => by
      have e : (arrV (dA 0) (Sln σ a0) (fun j => .int (SI σ a0 j))).slots.getD (sp.toNatClampNeg + i) .null = .int (SI σ a0 (sp.toNatClampNeg + i)) := by
        rw [Array.getD_eq_getD_getElem?, arrV_read _ _ (by unfold ix at h4; omega)]
        rfl
      refine ⟨?_, ?_⟩
      · rw [e]
        rfl
      · rw [e]
        exact trivial)
    (g := F0 m pc ls (.int z :: .int dp :: .ref (a - 1) :: .int sp :: .ref (a0 - 1) :: stm st)) rfl (by rw [X.2.2.2.1]; exact hl'.1) (rest := stm st) rfl (by rw [X.2.1]; exact hd) hd1 (by show 2 * 0 + ((stm st).map fun v => v.category).sum + (nativeFrameWords "java/lang/System" "arraycopy" 5 + 11) ≤ 64 * d; rw [csm_cat, show nativeFrameWords "java/lang/System" "arraycopy" 5 = 7 by decide]; omega)
  have e1 : copied (arrV (dA 0) (Sln σ a0) (fun j => .int (SI σ a0 j))) (arrV (dA 0) (Sln σ a) (fun j => .int (SI σ a j))) sp dp z = arrV (dA 0) (Sln σ a) (fun j => .int (va_cpy (SI σ a0) (SI σ a) (ix sp) (ix dp) (ix z) j)) := va_copied (fun z => .int z) (dA 0) (dA 0) (SI σ a0) (SI σ a) h4
  rw [e1] at Y' step
  have hlt : a - 1 < H.size := (Array.getElem?_eq_some_iff.mp g3).1
  generalize hcell : arrV (dA 0) (Sln σ a) (fun j => .int (va_cpy (SI σ a0) (SI σ a) (ix sp) (ix dp) (ix z) j)) = cell at Y' step
  have hheap : ((T.setVm vm').setCell (a - 1) cell).heap = H.setIfInBounds (a - 1) cell := by rw [← hT]; rfl
  have e2 : (H.setIfInBounds (a - 1) cell).size = H.size := by simp
  have e3 : ∀ q : Nat, q ≠ a - 1 → (H.setIfInBounds (a - 1) cell)[q]? = H[q]? := fun q hq => by simp [Array.getElem?_setIfInBounds, Ne.symm hq]
  have hH' : HP D dA cs (rI σ a (va_cpy (SI σ a0) (SI σ a) (ix sp) (ix dp) (ix z))) A (H.setIfInBounds (a - 1) cell) := by
    refine HP_write (nz_of hH g1 (by omega)) hH e2 e3 rfl rfl rfl rfl (fun _ h => up1_ne h) (fun _ _ => rfl) (fun _ _ => rfl) ?_
    rw [celP_int (σ := rI σ a _) g1]
    have a1 : SI (rI σ a (va_cpy (SI σ a0) (SI σ a) (ix sp) (ix dp) (ix z))) a = va_cpy (SI σ a0) (SI σ a) (ix sp) (ix dp) (ix z) := up1_at
    rw [a1]
    show _ = some (arrV (dA 0) (Sln σ a) _)
    rw [hcell]
    simp [Array.getElem?_setIfInBounds, hlt]
  obtain ⟨t, b1, b2⟩ := h.2 hf D dA cs A p l e s m args below meth c ls (H.setIfInBounds (a - 1) cell) _ X hl' hH' ⟨by rw [e2]; exact hS.1, fun q g5 g6 => by
      rw [e3 q (fun e => g6 (by rw [e]; exact g4))]
      exact hS.2.1 q g5 g6, fun q hq => by
      rcases List.mem_append.mp hq with h | h
      · exact hS.2.2 q h
      · obtain ⟨z, -, hz⟩ := List.mem_map.mp h
        rw [← hz]
        exact g4⟩ _ hheap Y'
  exact ⟨t, step t b1, b2⟩
theorem V_acpL {a0 a i : Nat} {sp dp z : Int32} {kf : Sto → Rs α} (q : Nat) (hq : pc + 3 = q) (hd : decode M.2.1 pc = .ok (.invokestatic i, 3)) (hl : Cond.methodLink M.1.cls i arraycopyName ∈ gwl) (hw : Cond.native arraycopyName ∈ gwl) (hw2 : Cond.static arraycopyName ∈ gwl) (hi : Cond.initialized "java/lang/System" ∈ gwl) (hd1 : 1 ≤ d) (hrm : csm st ≤ 8)
    (h : ∀ σ' : Sto, V M d mc ms k n tv (kf σ') q lv st (b && cpc σ a0 a 23 sp dp z) σ') : V M d mc ms k n tv (lt_ (rL σ a (va_cpy (SL σ a0) (SL σ a) (ix sp) (ix dp) (ix z))) kf) pc lv (vI z :: vI dp :: vR a :: vI sp :: vR a0 :: st) b σ := by
  subst hq
  have h := h (rL σ a (va_cpy (SL σ a0) (SL σ a) (ix sp) (ix dp) (ix z)))
  refine ⟨fun hf => and_l (h.1 hf), fun hf D dA cs A p l e s m args below meth c ls H locs X hl' hH hS => ?_⟩
  have hts := X.2.2.2.2.2.2.2.1
  have K := X.2.2.2.2.2.2.2.2.1.1
  have hc := and_r (h.1 hf)
  unfold cpc at hc
  have h1 : ¬ sp < 0 := by simpa using and_l (and_r (and_r hc))
  have h2 : ¬ dp < 0 := by simpa using and_l (and_r (and_r (and_r hc)))
  have h3 : ¬ z < 0 := by simpa using and_l (and_r (and_r (and_r (and_r hc))))
  have h4 : ix sp + ix z ≤ Sln σ a0 := by simpa using and_l (and_r (and_r (and_r (and_r (and_r hc)))))
  have h5 : ix dp + ix z ≤ Sln σ a := by simpa using and_r (and_r (and_r (and_r (and_r (and_r hc)))))
  obtain ⟨f1, f2, f3, f4⟩ := HP_at hH (and_l hc) (by omega) (by omega)
  obtain ⟨g1, g2, g3, g4⟩ := HP_at hH (and_l (and_r hc)) (by omega) (by omega)
  rw [celP_long f1] at f3
  rw [celP_long g1] at g3
  obtain ⟨-, k0, hk0, cm0, hkk0⟩ := (K.2 2 (dA 2, .long) rfl).1 (Sln σ a0) (fun j => .long (SL σ a0 j))
  obtain ⟨-, k1, hk1, cm1, hkk1⟩ := (K.2 2 (dA 2, .long) rfl).1 (Sln σ a) (fun j => .long (SL σ a j))
  show W p l e (Rm d mc ms) s m args below meth c H locs k n _ (F0 m pc ls (.int z :: .int dp :: vr a :: .int sp :: vr a0 :: stm st))
  rw [f2, g2]
  intro T hT Y
  obtain ⟨vm', Y', step⟩ := Y.arraycopy X.1 X.2.2.2.2.2.2.1 (hts _ hl) (hts _ hw) (hts _ hw2) (hts _ hi) (src := a0 - 1) (dst := a - 1) (cs := arrV (dA 2) (Sln σ a0) (fun j => .long (SL σ a0 j))) (cd := arrV (dA 2) (Sln σ a) (fun j => .long (SL σ a j))) (srcPos := sp) (destPos := dp) (n := z) (by rw [hT]; exact f3) (by rw [hT]; exact g3)
    (fun _ h => by cases h) (fun _ h => by cases h) (fun h => by cases h) (fun h => by cases h) hk0 hk1 hkk0 hkk1 (by simp [refKind]) h1 h2 h3
    (by rw [clampN h1, clampN h3]; show ¬ _ > ((arrV (dA 2) (Sln σ a0) (fun j => .long (SL σ a0 j))).slots.size : Int); rw [arrV_size]; unfold ix at h4; omega)
    (by rw [clampN h2, clampN h3]; show ¬ _ > ((arrV (dA 2) (Sln σ a) (fun j => .long (SL σ a j))).slots.size : Int); rw [arrV_size]; unfold ix at h5; omega)
    (fun vm₁ _ i hi => by
      have e : (arrV (dA 2) (Sln σ a0) (fun j => .long (SL σ a0 j))).slots.getD (sp.toNatClampNeg + i) .null = .long (SL σ a0 (sp.toNatClampNeg + i)) := by
        rw [Array.getD_eq_getD_getElem?, arrV_read _ _ (by unfold ix at h4; omega)]
        rfl
      refine ⟨?_, ?_⟩
      · rw [e]
        rfl
      · rw [e]
        exact trivial)
    (g := F0 m pc ls (.int z :: .int dp :: .ref (a - 1) :: .int sp :: .ref (a0 - 1) :: stm st)) rfl (by rw [X.2.2.2.1]; exact hl'.1) (rest := stm st) rfl (by rw [X.2.1]; exact hd) hd1 (by show 2 * 0 + ((stm st).map fun v => v.category).sum + (nativeFrameWords "java/lang/System" "arraycopy" 5 + 11) ≤ 64 * d; rw [csm_cat, show nativeFrameWords "java/lang/System" "arraycopy" 5 = 7 by decide]; omega)
  have e1 : copied (arrV (dA 2) (Sln σ a0) (fun j => .long (SL σ a0 j))) (arrV (dA 2) (Sln σ a) (fun j => .long (SL σ a j))) sp dp z = arrV (dA 2) (Sln σ a) (fun j => .long (va_cpy (SL σ a0) (SL σ a) (ix sp) (ix dp) (ix z) j)) := va_copied (fun z => .long z) (dA 2) (dA 2) (SL σ a0) (SL σ a) h4
  rw [e1] at Y' step
  have hlt : a - 1 < H.size := (Array.getElem?_eq_some_iff.mp g3).1
  generalize hcell : arrV (dA 2) (Sln σ a) (fun j => .long (va_cpy (SL σ a0) (SL σ a) (ix sp) (ix dp) (ix z) j)) = cell at Y' step
  have hheap : ((T.setVm vm').setCell (a - 1) cell).heap = H.setIfInBounds (a - 1) cell := by rw [← hT]; rfl
  have e2 : (H.setIfInBounds (a - 1) cell).size = H.size := by simp
  have e3 : ∀ q : Nat, q ≠ a - 1 → (H.setIfInBounds (a - 1) cell)[q]? = H[q]? := fun q hq => by simp [Array.getElem?_setIfInBounds, Ne.symm hq]
  have hH' : HP D dA cs (rL σ a (va_cpy (SL σ a0) (SL σ a) (ix sp) (ix dp) (ix z))) A (H.setIfInBounds (a - 1) cell) := by
    refine HP_write (nz_of hH g1 (by omega)) hH e2 e3 rfl rfl rfl rfl (fun _ _ => rfl) (fun _ h => up1_ne h) (fun _ _ => rfl) ?_
    rw [celP_long (σ := rL σ a _) g1]
    have a1 : SL (rL σ a (va_cpy (SL σ a0) (SL σ a) (ix sp) (ix dp) (ix z))) a = va_cpy (SL σ a0) (SL σ a) (ix sp) (ix dp) (ix z) := up1_at
    rw [a1]
    show _ = some (arrV (dA 2) (Sln σ a) _)
    rw [hcell]
    simp [Array.getElem?_setIfInBounds, hlt]
  obtain ⟨t, b1, b2⟩ := h.2 hf D dA cs A p l e s m args below meth c ls (H.setIfInBounds (a - 1) cell) _ X hl' hH' ⟨by rw [e2]; exact hS.1, fun q g5 g6 => by
      rw [e3 q (fun e => g6 (by rw [e]; exact g4))]
      exact hS.2.1 q g5 g6, fun q hq => by
      rcases List.mem_append.mp hq with h | h
      · exact hS.2.2 q h
      · obtain ⟨z, -, hz⟩ := List.mem_map.mp h
        rw [← hz]
        exact g4⟩ _ hheap Y'
  exact ⟨t, step t b1, b2⟩
/-- the table of kinds: its address, its length, what it holds -/
theorem V_kaG {i : Nat} (q : Nat) (hq : pc + 3 = q) (hd : decode M.2.1 pc = .ok (.getstatic i, 3)) (hw : Cond.fieldLink M.1.cls i "LongTrail$Ground" "KIND_ABOVE" "[I" ∈ gwl)
    (h : V M d mc ms k n tv F q lv (vR (Scs σ 0) :: st) (b && !decide (Scs σ 0 = 0)) σ) : V M d mc ms k n tv F pc lv st b σ := by
  subst hq
  refine ⟨fun hf => and_l (h.1 hf), fun hf D dA cs A p l e s m args below meth c ls H locs X hl' hH hS => ?_⟩
  have h0 : Scs σ 0 ≠ 0 := by simpa using and_r (h.1 hf)
  have hts := X.2.2.2.2.2.2.2.1
  have R := X.2.2.2.2.2.2.2.2.1.2.2.2.1
  have hW := h.2 hf D dA cs A p l e s m args below meth c ls H locs X hl' hH hS
  have hW2 : W p l e (Rm d mc ms) s m args below meth c H locs k n _ (F0 m (pc + 3) ls (vr (Scs σ 0) :: stm st)) := hW
  rw [vr_ne h0, hH.2.2.2.1] at hW2
  exact va_gets X.1 X.2.1 R.1 hS X.2.2.2.2.2.2.1 (hts _ hw) (fun _ h => h) hd hW2
theorem V_kaL (q : Nat) (hq : pc + 1 = q) (hd : decode M.2.1 pc = .ok (.arraylength, 1))
    (h : V M d mc ms k n tv F q lv (vI 6 :: st) (b && !decide (Scs σ 0 = 0)) σ) : V M d mc ms k n tv F pc lv (vR (Scs σ 0) :: st) b σ := by
  subst hq
  refine ⟨fun hf => and_l (h.1 hf), fun hf D dA cs A p l e s m args below meth c ls H locs X hl' hH hS => ?_⟩
  have h0 : Scs σ 0 ≠ 0 := by simpa using and_r (h.1 hf)
  have R := X.2.2.2.2.2.2.2.2.1.2.2.2.1
  show W p l e (Rm d mc ms) s m args below meth c H locs k n _ (F0 m pc ls (vr (Scs σ 0) :: stm st))
  rw [vr_ne h0, hH.2.2.2.1]
  exact va_tlen X.1 X.2.1 R.2.1 hS (v := 6) rfl hd (h.2 hf D dA cs A p l e s m args below meth c ls H locs X hl' hH hS)
theorem V_kaA {x : Int32} (q : Nat) (hq : pc + 1 = q) (hd : decode M.2.1 pc = .ok (.iaload, 1))
    (h : V M d mc ms k n tv F q lv (vI (kaT (ix x)) :: st) (b && (!decide (Scs σ 0 = 0) && inb x 6)) σ) : V M d mc ms k n tv F pc lv (vI x :: vR (Scs σ 0) :: st) b σ := by
  subst hq
  refine ⟨fun hf => and_l (h.1 hf), fun hf D dA cs A p l e s m args below meth c ls H locs X hl' hH hS => ?_⟩
  have h0 : Scs σ 0 ≠ 0 := by simpa using and_l (and_r (h.1 hf))
  have hin := inb_in (and_r (and_r (h.1 hf)))
  have R := X.2.2.2.2.2.2.2.2.1.2.2.2.1
  show W p l e (Rm d mc ms) s m args below meth c H locs k n _ (F0 m pc ls (.int x :: vr (Scs σ 0) :: stm st))
  rw [vr_ne h0, hH.2.2.2.1]
  exact va_ti X.1 X.2.1 R.2.1 hS hin rfl hd (h.2 hf D dA cs A p l e s m args below meth c ls H locs X hl' hH hS)
end VN
