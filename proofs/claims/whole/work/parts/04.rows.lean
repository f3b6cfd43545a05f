theorem vr_cat (x : Nat) : (vr x).category = 1 := by unfold vr; split <;> rfl
theorem vr_or (x : Nat) : vr x = .null ∨ ∃ a, vr x = .ref a := by unfold vr; split; exact Or.inl rfl; exact Or.inr ⟨_, rfl⟩
theorem val_cat (v : LV) : (val v).category = cat v := by
  rcases v with x | x | x
  · rfl
  · rfl
  · exact vr_cat x
theorem cat_val {v : LV} {k : Nat} (h : cat v = k) : (val v).category = k := by rw [val_cat]; exact h
theorem lvm_at {lv : List (Nat × LV)} {g i : Nat} {v : LV} (h : lv[g]? = some (i, v)) : (lvm lv)[g]? = some (i, val v) := by simp [lvm, h]
theorem lvm_st {lv lw : List (Nat × LV)} {i : Nat} {v : LV} (h : (i, v) :: lv.filter (fun q => !(q.1 == i) && !(q.1 + 1 == i && cat q.2 == 2)) = lw) : (i, val v) :: (lvm lv).filter (fun q => !(q.1 == i) && !(q.1 + 1 == i && q.2.category == 2)) = lvm lw := by
  rw [← h]
  simp only [lvm, List.map_cons, List.filter_map]
  congr 2
  refine List.filter_congr (fun q _ => ?_)
  simp [Function.comp, val_cat]
theorem lvm_st2 {lv lw : List (Nat × LV)} {i : Nat} {v : LV} (h : (i, v) :: lv.filter (fun q => !(q.1 == i) && (!(q.1 == i + 1) && !(q.1 + 1 == i && cat q.2 == 2))) = lw) : (i, val v) :: (lvm lv).filter (fun q => !(q.1 == i) && (!(q.1 == i + 1) && !(q.1 + 1 == i && q.2.category == 2))) = lvm lw := by
  rw [← h]
  simp only [lvm, List.map_cons, List.filter_map]
  congr 2
  refine List.filter_congr (fun q _ => ?_)
  simp [Function.comp, val_cat]
theorem lvm_pk {lv lw : List (Nat × LV)} {ks : List Nat} (h : ks.filterMap (fun i => lv[i]?) = lw) : lv_pick (lvm lv) ks = lvm lw := by
  rw [← h]
  unfold lv_pick
  simp [lvm, List.map_filterMap]
theorem fa2_nle {x y : Int32} : ¬ y ≤ x ↔ x < y := by rw [Int32.not_le]
theorem fa2_nlt {x y : Int32} : ¬ x < y ↔ y ≤ x := by rw [Int32.not_lt]
/-! rows of V: instructions that leave the heap alone -/
section VR
variable {α : Type} {M : MD} {d mc ms k n : Nat} {tv : α → Option LV} {F F1 F2 : Rs α} {pc : Nat} {lv : List (Nat × LV)} {st : List LV} {b : Bool} {σ : Sto}
theorem V_iconst {z : Int} {v : Int32} (q : Nat) (hq : pc + 1 = q) (hd : decode M.2.1 pc = .ok (.iconst z, 1)) (hv : Int32.ofInt z = v) (h : V M d mc ms k n tv F q lv (vI v :: st) b σ) : V M d mc ms k n tv F pc lv st b σ := by
  subst hq
  exact ⟨h.1, fun hf D dA cs A p l e s m args below meth c ls H locs C hl hH hS => lv_iconst C.1 C.2.1 hd hv (h.2 hf D dA cs A p l e s m args below meth c ls H locs C hl hH hS)⟩
theorem V_bipush {z : Int} {v : Int32} (q : Nat) (hq : pc + 2 = q) (hd : decode M.2.1 pc = .ok (.bipush z, 2)) (hv : (Int8.ofInt z).toInt32 = v) (h : V M d mc ms k n tv F q lv (vI v :: st) b σ) : V M d mc ms k n tv F pc lv st b σ := by
  subst hq
  exact ⟨h.1, fun hf D dA cs A p l e s m args below meth c ls H locs C hl hH hS => lv_bipush C.1 C.2.1 hd hv (h.2 hf D dA cs A p l e s m args below meth c ls H locs C hl hH hS)⟩
theorem V_sipush {z : Int} {v : Int32} (q : Nat) (hq : pc + 3 = q) (hd : decode M.2.1 pc = .ok (.sipush z, 3)) (hv : (Int16.ofInt z).toInt32 = v) (h : V M d mc ms k n tv F q lv (vI v :: st) b σ) : V M d mc ms k n tv F pc lv st b σ := by
  subst hq
  exact ⟨h.1, fun hf D dA cs A p l e s m args below meth c ls H locs C hl hH hS => lv_sipush C.1 C.2.1 hd hv (h.2 hf D dA cs A p l e s m args below meth c ls H locs C hl hH hS)⟩
theorem V_lconst {z : Fin 2} {v : Int64} (q : Nat) (hq : pc + 1 = q) (hd : decode M.2.1 pc = .ok (.lconst z, 1)) (hv : Int64.ofNat (z : Nat) = v) (h : V M d mc ms k n tv F q lv (vL v :: st) b σ) : V M d mc ms k n tv F pc lv st b σ := by
  subst hq
  exact ⟨h.1, fun hf D dA cs A p l e s m args below meth c ls H locs C hl hH hS => lv_lconst C.1 C.2.1 hd hv (h.2 hf D dA cs A p l e s m args below meth c ls H locs C hl hH hS)⟩
theorem V_null (q : Nat) (hq : pc + 1 = q) (hd : decode M.2.1 pc = .ok (.aconst_null, 1)) (h : V M d mc ms k n tv F q lv (vR 0 :: st) b σ) : V M d mc ms k n tv F pc lv st b σ := by
  subst hq
  exact ⟨h.1, fun hf D dA cs A p l e s m args below meth c ls H locs C hl hH hS => lv_null C.1 C.2.1 hd (h.2 hf D dA cs A p l e s m args below meth c ls H locs C hl hH hS)⟩
theorem V_ldc {i : Nat} {v : Int32} (q : Nat) (hq : pc + 2 = q) (hd : decode M.2.1 pc = .ok (.ldc i, 2)) (hw : Cond.constant M.1.cls i v ∈ gwl) (h : V M d mc ms k n tv F q lv (vI v :: st) b σ) : V M d mc ms k n tv F pc lv st b σ := by
  subst hq
  exact ⟨h.1, fun hf D dA cs A p l e s m args below meth c ls H locs C hl hH hS => lv_ldc C.1 C.2.1 C.2.2.2.2.2.2.1 (C.2.2.2.2.2.2.2.1 _ hw) hd (h.2 hf D dA cs A p l e s m args below meth c ls H locs C hl hH hS)⟩
theorem V_ldc2 {i : Nat} {v : Int64} (q : Nat) (hq : pc + 3 = q) (hd : decode M.2.1 pc = .ok (.ldc2_w i, 3)) (hw : Cond.constantLong M.1.cls i v ∈ gwl) (h : V M d mc ms k n tv F q lv (vL v :: st) b σ) : V M d mc ms k n tv F pc lv st b σ := by
  subst hq
  exact ⟨h.1, fun hf D dA cs A p l e s m args below meth c ls H locs C hl hH hS => lv_ldc2 C.1 C.2.1 C.2.2.2.2.2.2.1 (C.2.2.2.2.2.2.2.1 _ hw) hd (h.2 hf D dA cs A p l e s m args below meth c ls H locs C hl hH hS)⟩
theorem V_iload_n {i : Fin 4} {x : Int32} (q : Nat) (hq : pc + 1 = q) (hd : decode M.2.1 pc = .ok (.iload_n i, 1)) (g : Nat) (hg : lv[g]? = some ((i : Nat), vI x)) (h : V M d mc ms k n tv F q lv (vI x :: st) b σ) : V M d mc ms k n tv F pc lv st b σ := by
  subst hq
  exact ⟨h.1, fun hf D dA cs A p l e s m args below meth c ls H locs C hl hH hS => lv_iload_n C.1 C.2.1 hd rfl (lv_at hl g (lvm_at hg)) (h.2 hf D dA cs A p l e s m args below meth c ls H locs C hl hH hS)⟩
theorem V_iload {i : Nat} {x : Int32} (q : Nat) (hq : pc + 2 = q) (hd : decode M.2.1 pc = .ok (.iload i, 2)) (g : Nat) (hg : lv[g]? = some ((i : Nat), vI x)) (h : V M d mc ms k n tv F q lv (vI x :: st) b σ) : V M d mc ms k n tv F pc lv st b σ := by
  subst hq
  exact ⟨h.1, fun hf D dA cs A p l e s m args below meth c ls H locs C hl hH hS => lv_iload C.1 C.2.1 hd (lv_at hl g (lvm_at hg)) (h.2 hf D dA cs A p l e s m args below meth c ls H locs C hl hH hS)⟩
theorem V_lload_n {i : Fin 4} {x : Int64} (q : Nat) (hq : pc + 1 = q) (hd : decode M.2.1 pc = .ok (.lload_n i, 1)) (g : Nat) (hg : lv[g]? = some ((i : Nat), vL x)) (h : V M d mc ms k n tv F q lv (vL x :: st) b σ) : V M d mc ms k n tv F pc lv st b σ := by
  subst hq
  exact ⟨h.1, fun hf D dA cs A p l e s m args below meth c ls H locs C hl hH hS => lv_lload_n C.1 C.2.1 hd rfl (lv_at hl g (lvm_at hg)) (h.2 hf D dA cs A p l e s m args below meth c ls H locs C hl hH hS)⟩
theorem V_lload {i : Nat} {x : Int64} (q : Nat) (hq : pc + 2 = q) (hd : decode M.2.1 pc = .ok (.lload i, 2)) (g : Nat) (hg : lv[g]? = some ((i : Nat), vL x)) (h : V M d mc ms k n tv F q lv (vL x :: st) b σ) : V M d mc ms k n tv F pc lv st b σ := by
  subst hq
  exact ⟨h.1, fun hf D dA cs A p l e s m args below meth c ls H locs C hl hH hS => lv_lload C.1 C.2.1 hd (lv_at hl g (lvm_at hg)) (h.2 hf D dA cs A p l e s m args below meth c ls H locs C hl hH hS)⟩
theorem V_aload_n {i : Fin 4} {x : Nat} (q : Nat) (hq : pc + 1 = q) (hd : decode M.2.1 pc = .ok (.aload_n i, 1)) (g : Nat) (hg : lv[g]? = some ((i : Nat), vR x)) (h : V M d mc ms k n tv F q lv (vR x :: st) b σ) : V M d mc ms k n tv F pc lv st b σ := by
  subst hq
  refine ⟨h.1, fun hf D dA cs A p l e s m args below meth c ls H locs C hl hH hS => ?_⟩
  have h2 := (h.2 hf D dA cs A p l e s m args below meth c ls H locs C hl hH hS)
  have h3 := lv_at hl g (lvm_at hg)
  by_cases hx : x = 0
  · simp only [stm, List.map_cons, val, vr, hx, if_true] at h2 h3
    exact lv_aload_nN C.1 C.2.1 hd rfl h3 h2
  · simp only [stm, List.map_cons, val, vr, hx, if_false] at h2 h3
    exact lv_aload_n C.1 C.2.1 hd rfl h3 h2
theorem V_aload {i : Nat} {x : Nat} (q : Nat) (hq : pc + 2 = q) (hd : decode M.2.1 pc = .ok (.aload i, 2)) (g : Nat) (hg : lv[g]? = some ((i : Nat), vR x)) (h : V M d mc ms k n tv F q lv (vR x :: st) b σ) : V M d mc ms k n tv F pc lv st b σ := by
  subst hq
  refine ⟨h.1, fun hf D dA cs A p l e s m args below meth c ls H locs C hl hH hS => ?_⟩
  have h2 := (h.2 hf D dA cs A p l e s m args below meth c ls H locs C hl hH hS)
  have h3 := lv_at hl g (lvm_at hg)
  by_cases hx : x = 0
  · simp only [stm, List.map_cons, val, vr, hx, if_true] at h2 h3
    exact lv_aloadN C.1 C.2.1 hd h3 h2
  · simp only [stm, List.map_cons, val, vr, hx, if_false] at h2 h3
    exact lv_aload C.1 C.2.1 hd h3 h2
theorem V_istore_n {i : Fin 4} {x : Int32} {kf : Int32 → Rs α} (lv' : Int32 → List (Nat × LV)) (q : Nat) (hq : pc + 1 = q) (hd : decode M.2.1 pc = .ok (.istore_n i, 1)) (hn : (i : Nat) < M.2.2.1) (hl' : ∀ x : Int32, ((i : Nat), vI x) :: lv.filter (fun q => !(q.1 == (i : Nat)) && !(q.1 + 1 == (i : Nat) && cat q.2 == 2)) = lv' x) (h : ∀ x : Int32, V M d mc ms k n tv (kf x) q (lv' x) st b σ) : V M d mc ms k n tv (lt_ x kf) pc lv (vI x :: st) b σ := by
  subst hq
  have h := h x
  exact ⟨h.1, fun hf D dA cs A p l e s m args below meth c ls H locs C hl hH hS => lv_istore_n C.1 C.2.1 hd rfl hl hn (lvm_st (hl' x)) (fun ls hl => (h.2 hf D dA cs A p l e s m args below meth c ls H locs C hl hH hS))⟩
theorem V_istore {i : Nat} {x : Int32} {kf : Int32 → Rs α} (lv' : Int32 → List (Nat × LV)) (q : Nat) (hq : pc + 2 = q) (hd : decode M.2.1 pc = .ok (.istore i, 2)) (hn : (i : Nat) < M.2.2.1) (hl' : ∀ x : Int32, ((i : Nat), vI x) :: lv.filter (fun q => !(q.1 == (i : Nat)) && !(q.1 + 1 == (i : Nat) && cat q.2 == 2)) = lv' x) (h : ∀ x : Int32, V M d mc ms k n tv (kf x) q (lv' x) st b σ) : V M d mc ms k n tv (lt_ x kf) pc lv (vI x :: st) b σ := by
  subst hq
  have h := h x
  exact ⟨h.1, fun hf D dA cs A p l e s m args below meth c ls H locs C hl hH hS => lv_istore C.1 C.2.1 hd hl hn (lvm_st (hl' x)) (fun ls hl => (h.2 hf D dA cs A p l e s m args below meth c ls H locs C hl hH hS))⟩
theorem V_lstore_n {i : Fin 4} {x : Int64} {kf : Int64 → Rs α} (lv' : Int64 → List (Nat × LV)) (q : Nat) (hq : pc + 1 = q) (hd : decode M.2.1 pc = .ok (.lstore_n i, 1)) (hn : (i : Nat) + 1 < M.2.2.1) (hl' : ∀ x : Int64, ((i : Nat), vL x) :: lv.filter (fun q => !(q.1 == (i : Nat)) && (!(q.1 == (i : Nat) + 1) && !(q.1 + 1 == (i : Nat) && cat q.2 == 2))) = lv' x) (h : ∀ x : Int64, V M d mc ms k n tv (kf x) q (lv' x) st b σ) : V M d mc ms k n tv (lt_ x kf) pc lv (vL x :: st) b σ := by
  subst hq
  have h := h x
  exact ⟨h.1, fun hf D dA cs A p l e s m args below meth c ls H locs C hl hH hS => lv_lstore_n C.1 C.2.1 hd rfl hl hn (lvm_st2 (hl' x)) (fun ls hl => (h.2 hf D dA cs A p l e s m args below meth c ls H locs C hl hH hS))⟩
theorem V_lstore {i : Nat} {x : Int64} {kf : Int64 → Rs α} (lv' : Int64 → List (Nat × LV)) (q : Nat) (hq : pc + 2 = q) (hd : decode M.2.1 pc = .ok (.lstore i, 2)) (hn : (i : Nat) + 1 < M.2.2.1) (hl' : ∀ x : Int64, ((i : Nat), vL x) :: lv.filter (fun q => !(q.1 == (i : Nat)) && (!(q.1 == (i : Nat) + 1) && !(q.1 + 1 == (i : Nat) && cat q.2 == 2))) = lv' x) (h : ∀ x : Int64, V M d mc ms k n tv (kf x) q (lv' x) st b σ) : V M d mc ms k n tv (lt_ x kf) pc lv (vL x :: st) b σ := by
  subst hq
  have h := h x
  exact ⟨h.1, fun hf D dA cs A p l e s m args below meth c ls H locs C hl hH hS => lv_lstore C.1 C.2.1 hd hl hn (lvm_st2 (hl' x)) (fun ls hl => (h.2 hf D dA cs A p l e s m args below meth c ls H locs C hl hH hS))⟩
theorem V_astore_n {i : Fin 4} {x : Nat} {kf : Nat → Rs α} (lv' : Nat → List (Nat × LV)) (q : Nat) (hq : pc + 1 = q) (hd : decode M.2.1 pc = .ok (.astore_n i, 1)) (hn : (i : Nat) < M.2.2.1) (hl' : ∀ x : Nat, ((i : Nat), vR x) :: lv.filter (fun q => !(q.1 == (i : Nat)) && !(q.1 + 1 == (i : Nat) && cat q.2 == 2)) = lv' x) (h : ∀ x : Nat, V M d mc ms k n tv (kf x) q (lv' x) st b σ) : V M d mc ms k n tv (lt_ x kf) pc lv (vR x :: st) b σ := by
  subst hq
  have h := h x
  have hl2 := lvm_st (hl' x)
  refine ⟨h.1, fun hf D dA cs A p l e s m args below meth c ls H locs C hl hH hS => ?_⟩
  generalize hlv : lv' x = lw at h hl2
  show W p l e (Rm d mc ms) s m args below meth c H locs k n _ (F0 m pc ls (vr x :: stm st))
  simp only [val] at hl2
  by_cases hx : x = 0
  · have hv : vr x = .null := by simp only [vr, hx, if_true]
    rw [hv] at hl2 ⊢
    exact lv_astore_nN C.1 C.2.1 hd rfl hl hn hl2 (fun ls hl => (h.2 hf D dA cs A p l e s m args below meth c ls H locs C hl hH hS))
  · have hv : vr x = .ref (x - 1) := by simp only [vr, hx, if_false]
    rw [hv] at hl2 ⊢
    exact lv_astore_n C.1 C.2.1 hd rfl hl hn hl2 (fun ls hl => (h.2 hf D dA cs A p l e s m args below meth c ls H locs C hl hH hS))
theorem V_astore {i : Nat} {x : Nat} {kf : Nat → Rs α} (lv' : Nat → List (Nat × LV)) (q : Nat) (hq : pc + 2 = q) (hd : decode M.2.1 pc = .ok (.astore i, 2)) (hn : (i : Nat) < M.2.2.1) (hl' : ∀ x : Nat, ((i : Nat), vR x) :: lv.filter (fun q => !(q.1 == (i : Nat)) && !(q.1 + 1 == (i : Nat) && cat q.2 == 2)) = lv' x) (h : ∀ x : Nat, V M d mc ms k n tv (kf x) q (lv' x) st b σ) : V M d mc ms k n tv (lt_ x kf) pc lv (vR x :: st) b σ := by
  subst hq
  have h := h x
  have hl2 := lvm_st (hl' x)
  refine ⟨h.1, fun hf D dA cs A p l e s m args below meth c ls H locs C hl hH hS => ?_⟩
  generalize hlv : lv' x = lw at h hl2
  show W p l e (Rm d mc ms) s m args below meth c H locs k n _ (F0 m pc ls (vr x :: stm st))
  simp only [val] at hl2
  by_cases hx : x = 0
  · have hv : vr x = .null := by simp only [vr, hx, if_true]
    rw [hv] at hl2 ⊢
    exact lv_astoreN C.1 C.2.1 hd hl hn hl2 (fun ls hl => (h.2 hf D dA cs A p l e s m args below meth c ls H locs C hl hH hS))
  · have hv : vr x = .ref (x - 1) := by simp only [vr, hx, if_false]
    rw [hv] at hl2 ⊢
    exact lv_astore C.1 C.2.1 hd hl hn hl2 (fun ls hl => (h.2 hf D dA cs A p l e s m args below meth c ls H locs C hl hH hS))
theorem V_iinc {i : Nat} {z : Int} {x w : Int32} {kf : Int32 → Rs α} (lv' : Int32 → List (Nat × LV)) (q : Nat) (hq : pc + 3 = q) (hd : decode M.2.1 pc = .ok (.iinc i z, 3)) (g : Nat) (hg : lv[g]? = some (i, vI x)) (hw : Int32.ofInt z = w) (hn : i < M.2.2.1) (hl' : ∀ x : Int32, (i, vI x) :: lv.filter (fun q => !(q.1 == i) && !(q.1 + 1 == i && cat q.2 == 2)) = lv' x) (h : ∀ x : Int32, V M d mc ms k n tv (kf x) q (lv' x) st b σ) : V M d mc ms k n tv (lt_ (x + w) kf) pc lv st b σ := by
  subst hq
  subst hw
  have h := h (x + Int32.ofInt z)
  exact ⟨h.1, fun hf D dA cs A p l e s m args below meth c ls H locs C hl hH hS => lv_iinc C.1 C.2.1 hd hl (lvm_at hg) rfl hn (lvm_st (hl' _)) (fun ls hl => (h.2 hf D dA cs A p l e s m args below meth c ls H locs C hl hH hS))⟩
theorem V_sub {lv' : List (Nat × LV)} (ks : List Nat) (hk : ks.filterMap (fun i => lv[i]?) = lv') (h : V M d mc ms k n tv F pc lv' st b σ) : V M d mc ms k n tv F pc lv st b σ := ⟨h.1, fun hf D dA cs A p l e s m args below meth c ls H locs C hl hH hS => h.2 hf D dA cs A p l e s m args below meth c ls H locs C (lv_sub hl ks (lvm_pk hk)) hH hS⟩
theorem V_iadd {x y : Int32} (q : Nat) (hq : pc + 1 = q) (hd : decode M.2.1 pc = .ok (.iadd, 1)) (h : V M d mc ms k n tv F q lv (vI (x + y) :: st) b σ) : V M d mc ms k n tv F pc lv (vI y :: vI x :: st) b σ := by
  subst hq
  exact ⟨h.1, fun hf D dA cs A p l e s m args below meth c ls H locs C hl hH hS => lv_iadd C.1 C.2.1 hd (h.2 hf D dA cs A p l e s m args below meth c ls H locs C hl hH hS)⟩
theorem V_isub {x y : Int32} (q : Nat) (hq : pc + 1 = q) (hd : decode M.2.1 pc = .ok (.isub, 1)) (h : V M d mc ms k n tv F q lv (vI (x - y) :: st) b σ) : V M d mc ms k n tv F pc lv (vI y :: vI x :: st) b σ := by
  subst hq
  exact ⟨h.1, fun hf D dA cs A p l e s m args below meth c ls H locs C hl hH hS => lv_isub C.1 C.2.1 hd (h.2 hf D dA cs A p l e s m args below meth c ls H locs C hl hH hS)⟩
theorem V_imul {x y : Int32} (q : Nat) (hq : pc + 1 = q) (hd : decode M.2.1 pc = .ok (.imul, 1)) (h : V M d mc ms k n tv F q lv (vI (x * y) :: st) b σ) : V M d mc ms k n tv F pc lv (vI y :: vI x :: st) b σ := by
  subst hq
  exact ⟨h.1, fun hf D dA cs A p l e s m args below meth c ls H locs C hl hH hS => lv_imul C.1 C.2.1 hd (h.2 hf D dA cs A p l e s m args below meth c ls H locs C hl hH hS)⟩
theorem V_iand {x y : Int32} (q : Nat) (hq : pc + 1 = q) (hd : decode M.2.1 pc = .ok (.iand, 1)) (h : V M d mc ms k n tv F q lv (vI (x &&& y) :: st) b σ) : V M d mc ms k n tv F pc lv (vI y :: vI x :: st) b σ := by
  subst hq
  exact ⟨h.1, fun hf D dA cs A p l e s m args below meth c ls H locs C hl hH hS => lv_iand C.1 C.2.1 hd (h.2 hf D dA cs A p l e s m args below meth c ls H locs C hl hH hS)⟩
theorem V_ladd {x y : Int64} (q : Nat) (hq : pc + 1 = q) (hd : decode M.2.1 pc = .ok (.ladd, 1)) (h : V M d mc ms k n tv F q lv (vL (x + y) :: st) b σ) : V M d mc ms k n tv F pc lv (vL y :: vL x :: st) b σ := by
  subst hq
  exact ⟨h.1, fun hf D dA cs A p l e s m args below meth c ls H locs C hl hH hS => lv_ladd C.1 C.2.1 hd (h.2 hf D dA cs A p l e s m args below meth c ls H locs C hl hH hS)⟩
theorem V_lmul {x y : Int64} (q : Nat) (hq : pc + 1 = q) (hd : decode M.2.1 pc = .ok (.lmul, 1)) (h : V M d mc ms k n tv F q lv (vL (x * y) :: st) b σ) : V M d mc ms k n tv F pc lv (vL y :: vL x :: st) b σ := by
  subst hq
  exact ⟨h.1, fun hf D dA cs A p l e s m args below meth c ls H locs C hl hH hS => lv_lmul C.1 C.2.1 hd (h.2 hf D dA cs A p l e s m args below meth c ls H locs C hl hH hS)⟩
theorem V_ineg {x : Int32} (q : Nat) (hq : pc + 1 = q) (hd : decode M.2.1 pc = .ok (.ineg, 1)) (h : V M d mc ms k n tv F q lv (vI (-x) :: st) b σ) : V M d mc ms k n tv F pc lv (vI x :: st) b σ := by
  subst hq
  exact ⟨h.1, fun hf D dA cs A p l e s m args below meth c ls H locs C hl hH hS => lv_ineg C.1 C.2.1 hd (h.2 hf D dA cs A p l e s m args below meth c ls H locs C hl hH hS)⟩
theorem V_ishl {x y : Int32} (q : Nat) (hq : pc + 1 = q) (hd : decode M.2.1 pc = .ok (.ishl, 1)) (h : V M d mc ms k n tv F q lv (vI (x <<< (y &&& 31)) :: st) b σ) : V M d mc ms k n tv F pc lv (vI y :: vI x :: st) b σ := by
  subst hq
  exact ⟨h.1, fun hf D dA cs A p l e s m args below meth c ls H locs C hl hH hS => lv_ishl C.1 C.2.1 hd (h.2 hf D dA cs A p l e s m args below meth c ls H locs C hl hH hS)⟩
theorem V_ishr {x y : Int32} (q : Nat) (hq : pc + 1 = q) (hd : decode M.2.1 pc = .ok (.ishr, 1)) (h : V M d mc ms k n tv F q lv (vI (x >>> (y &&& 31)) :: st) b σ) : V M d mc ms k n tv F pc lv (vI y :: vI x :: st) b σ := by
  subst hq
  exact ⟨h.1, fun hf D dA cs A p l e s m args below meth c ls H locs C hl hH hS => lv_ishr C.1 C.2.1 hd (h.2 hf D dA cs A p l e s m args below meth c ls H locs C hl hH hS)⟩
theorem V_lshl {x : Int64} {y : Int32} (q : Nat) (hq : pc + 1 = q) (hd : decode M.2.1 pc = .ok (.lshl, 1)) (h : V M d mc ms k n tv F q lv (vL (x <<< (y.toInt64 &&& 63)) :: st) b σ) : V M d mc ms k n tv F pc lv (vI y :: vL x :: st) b σ := by
  subst hq
  exact ⟨h.1, fun hf D dA cs A p l e s m args below meth c ls H locs C hl hH hS => lv_lshl C.1 C.2.1 hd rfl (h.2 hf D dA cs A p l e s m args below meth c ls H locs C hl hH hS)⟩
theorem V_lshr {x : Int64} {y : Int32} (q : Nat) (hq : pc + 1 = q) (hd : decode M.2.1 pc = .ok (.lshr, 1)) (h : V M d mc ms k n tv F q lv (vL (x >>> (y.toInt64 &&& 63)) :: st) b σ) : V M d mc ms k n tv F pc lv (vI y :: vL x :: st) b σ := by
  subst hq
  exact ⟨h.1, fun hf D dA cs A p l e s m args below meth c ls H locs C hl hH hS => lv_lshr C.1 C.2.1 hd rfl (h.2 hf D dA cs A p l e s m args below meth c ls H locs C hl hH hS)⟩
theorem V_i2l {x : Int32} (q : Nat) (hq : pc + 1 = q) (hd : decode M.2.1 pc = .ok (.i2l, 1)) (h : V M d mc ms k n tv F q lv (vL x.toInt64 :: st) b σ) : V M d mc ms k n tv F pc lv (vI x :: st) b σ := by
  subst hq
  exact ⟨h.1, fun hf D dA cs A p l e s m args below meth c ls H locs C hl hH hS => lv_i2l C.1 C.2.1 hd rfl (h.2 hf D dA cs A p l e s m args below meth c ls H locs C hl hH hS)⟩
theorem V_l2i {x : Int64} (q : Nat) (hq : pc + 1 = q) (hd : decode M.2.1 pc = .ok (.l2i, 1)) (h : V M d mc ms k n tv F q lv (vI x.toInt32 :: st) b σ) : V M d mc ms k n tv F pc lv (vL x :: st) b σ := by
  subst hq
  exact ⟨h.1, fun hf D dA cs A p l e s m args below meth c ls H locs C hl hH hS => lv_l2i C.1 C.2.1 hd rfl (h.2 hf D dA cs A p l e s m args below meth c ls H locs C hl hH hS)⟩
theorem V_i2b {x : Int32} (q : Nat) (hq : pc + 1 = q) (hd : decode M.2.1 pc = .ok (.i2b, 1)) (h : V M d mc ms k n tv F q lv (vI x.toInt8.toInt32 :: st) b σ) : V M d mc ms k n tv F pc lv (vI x :: st) b σ := by
  subst hq
  exact ⟨h.1, fun hf D dA cs A p l e s m args below meth c ls H locs C hl hH hS => lv_i2b C.1 C.2.1 hd rfl (h.2 hf D dA cs A p l e s m args below meth c ls H locs C hl hH hS)⟩
theorem V_i2c {x : Int32} (q : Nat) (hq : pc + 1 = q) (hd : decode M.2.1 pc = .ok (.i2c, 1)) (h : V M d mc ms k n tv F q lv (vI (x.toUInt32 % 65536).toInt32 :: st) b σ) : V M d mc ms k n tv F pc lv (vI x :: st) b σ := by
  subst hq
  exact ⟨h.1, fun hf D dA cs A p l e s m args below meth c ls H locs C hl hH hS => lv_i2c C.1 C.2.1 hd rfl (h.2 hf D dA cs A p l e s m args below meth c ls H locs C hl hH hS)⟩
theorem V_idiv {x y : Int32} (q : Nat) (hq : pc + 1 = q) (hd : decode M.2.1 pc = .ok (.idiv, 1)) (h : V M d mc ms k n tv F q lv (vI (x / y) :: st) (b && !decide (y = 0)) σ) : V M d mc ms k n tv F pc lv (vI y :: vI x :: st) b σ := by
  subst hq
  refine ⟨fun hf => ((Bool.and_eq_true _ _).mp (h.1 hf)).1, fun hf D dA cs A p l e s m args below meth c ls H locs C hl hH hS => ?_⟩
  have hy : ¬ y = 0 := by simpa using ((Bool.and_eq_true _ _).mp (h.1 hf)).2
  exact lv_idiv C.1 C.2.1 hd hy (h.2 hf D dA cs A p l e s m args below meth c ls H locs C hl hH hS)
theorem V_irem {x y : Int32} (q : Nat) (hq : pc + 1 = q) (hd : decode M.2.1 pc = .ok (.irem, 1)) (h : V M d mc ms k n tv F q lv (vI (x - x / y * y) :: st) (b && !decide (y = 0)) σ) : V M d mc ms k n tv F pc lv (vI y :: vI x :: st) b σ := by
  subst hq
  refine ⟨fun hf => ((Bool.and_eq_true _ _).mp (h.1 hf)).1, fun hf D dA cs A p l e s m args below meth c ls H locs C hl hH hS => ?_⟩
  have hy : ¬ y = 0 := by simpa using ((Bool.and_eq_true _ _).mp (h.1 hf)).2
  exact lv_irem C.1 C.2.1 hd hy (h.2 hf D dA cs A p l e s m args below meth c ls H locs C hl hH hS)
theorem V_dup {v : LV} (q : Nat) (hq : pc + 1 = q) (hd : decode M.2.1 pc = .ok (.dup, 1)) (hc : cat v = 1) (h : V M d mc ms k n tv F q lv (v :: v :: st) b σ) : V M d mc ms k n tv F pc lv (v :: st) b σ := by
  subst hq
  exact ⟨h.1, fun hf D dA cs A p l e s m args below meth c ls H locs C hl hH hS => lv_dup C.1 C.2.1 hd (cat_val hc) (h.2 hf D dA cs A p l e s m args below meth c ls H locs C hl hH hS)⟩
theorem V_dup2 {v w : LV} (q : Nat) (hq : pc + 1 = q) (hd : decode M.2.1 pc = .ok (.dup2, 1)) (hc : cat v = 1) (hc2 : cat w = 1) (h : V M d mc ms k n tv F q lv (v :: w :: v :: w :: st) b σ) : V M d mc ms k n tv F pc lv (v :: w :: st) b σ := by
  subst hq
  exact ⟨h.1, fun hf D dA cs A p l e s m args below meth c ls H locs C hl hH hS => lv_dup2_11 C.1 C.2.1 hd (cat_val hc) (cat_val hc2) (h.2 hf D dA cs A p l e s m args below meth c ls H locs C hl hH hS)⟩
theorem V_pop {v : LV} (q : Nat) (hq : pc + 1 = q) (hd : decode M.2.1 pc = .ok (.pop, 1)) (hc : cat v = 1) (h : V M d mc ms k n tv F q lv st b σ) : V M d mc ms k n tv F pc lv (v :: st) b σ := by
  subst hq
  exact ⟨h.1, fun hf D dA cs A p l e s m args below meth c ls H locs C hl hH hS => lv_pop C.1 C.2.1 hd (cat_val hc) (h.2 hf D dA cs A p l e s m args below meth c ls H locs C hl hH hS)⟩
theorem V_ifeq {x : Int32} (q t : Nat) (hq : pc + 3 = q) {off : Int} (hd : decode M.2.1 pc = .ok (.ifCond .eq off, 3)) (ht : (pc : Int) + off = (t : Int)) (h1 : V M d mc ms k n tv F1 t lv st b σ) (h2 : V M d mc ms k n tv F2 q lv st b σ) : V M d mc ms k n tv (if x = 0 then F1 else F2) pc lv (vI x :: st) b σ := by
  subst hq
  by_cases hc : x = 0
  · rw [if_pos hc]
    refine ⟨h1.1, fun hf D dA cs A p l e s m args below meth c ls H locs C hl hH hS => ?_⟩
    have hh := (h1.2 hf D dA cs A p l e s m args below meth c ls H locs C hl hH hS)
    exact lv_if_eq C.1 C.2.1 hd ht (fun _ => hh) (fun z => absurd hc z)
  · rw [if_neg hc]
    refine ⟨h2.1, fun hf D dA cs A p l e s m args below meth c ls H locs C hl hH hS => ?_⟩
    have hh := (h2.2 hf D dA cs A p l e s m args below meth c ls H locs C hl hH hS)
    exact lv_if_eq C.1 C.2.1 hd ht (fun z => absurd z hc) (fun _ => hh)
theorem V_ifne {x : Int32} (q t : Nat) (hq : pc + 3 = q) {off : Int} (hd : decode M.2.1 pc = .ok (.ifCond .ne off, 3)) (ht : (pc : Int) + off = (t : Int)) (h1 : V M d mc ms k n tv F1 q lv st b σ) (h2 : V M d mc ms k n tv F2 t lv st b σ) : V M d mc ms k n tv (if x = 0 then F1 else F2) pc lv (vI x :: st) b σ := by
  subst hq
  by_cases hc : x = 0
  · rw [if_pos hc]
    refine ⟨h1.1, fun hf D dA cs A p l e s m args below meth c ls H locs C hl hH hS => ?_⟩
    have hh := (h1.2 hf D dA cs A p l e s m args below meth c ls H locs C hl hH hS)
    exact lv_if_ne C.1 C.2.1 hd ht (fun z => absurd z (by exact fun z => z hc)) (fun _ => hh)
  · rw [if_neg hc]
    refine ⟨h2.1, fun hf D dA cs A p l e s m args below meth c ls H locs C hl hH hS => ?_⟩
    have hh := (h2.2 hf D dA cs A p l e s m args below meth c ls H locs C hl hH hS)
    exact lv_if_ne C.1 C.2.1 hd ht (fun _ => hh) (fun z => absurd z hc)
theorem V_iflt {x : Int32} (q t : Nat) (hq : pc + 3 = q) {off : Int} (hd : decode M.2.1 pc = .ok (.ifCond .lt off, 3)) (ht : (pc : Int) + off = (t : Int)) (h1 : V M d mc ms k n tv F1 t lv st b σ) (h2 : V M d mc ms k n tv F2 q lv st b σ) : V M d mc ms k n tv (if x < 0 then F1 else F2) pc lv (vI x :: st) b σ := by
  subst hq
  by_cases hc : x < 0
  · rw [if_pos hc]
    refine ⟨h1.1, fun hf D dA cs A p l e s m args below meth c ls H locs C hl hH hS => ?_⟩
    have hh := (h1.2 hf D dA cs A p l e s m args below meth c ls H locs C hl hH hS)
    exact lv_if_lt C.1 C.2.1 hd ht (fun _ => hh) (fun z => absurd hc z)
  · rw [if_neg hc]
    refine ⟨h2.1, fun hf D dA cs A p l e s m args below meth c ls H locs C hl hH hS => ?_⟩
    have hh := (h2.2 hf D dA cs A p l e s m args below meth c ls H locs C hl hH hS)
    exact lv_if_lt C.1 C.2.1 hd ht (fun z => absurd z hc) (fun _ => hh)
theorem V_ifgt {x : Int32} (q t : Nat) (hq : pc + 3 = q) {off : Int} (hd : decode M.2.1 pc = .ok (.ifCond .gt off, 3)) (ht : (pc : Int) + off = (t : Int)) (h1 : V M d mc ms k n tv F1 t lv st b σ) (h2 : V M d mc ms k n tv F2 q lv st b σ) : V M d mc ms k n tv (if 0 < x then F1 else F2) pc lv (vI x :: st) b σ := by
  subst hq
  by_cases hc : 0 < x
  · rw [if_pos hc]
    refine ⟨h1.1, fun hf D dA cs A p l e s m args below meth c ls H locs C hl hH hS => ?_⟩
    have hh := (h1.2 hf D dA cs A p l e s m args below meth c ls H locs C hl hH hS)
    exact lv_if_gt C.1 C.2.1 hd ht (fun _ => hh) (fun z => absurd hc z)
  · rw [if_neg hc]
    refine ⟨h2.1, fun hf D dA cs A p l e s m args below meth c ls H locs C hl hH hS => ?_⟩
    have hh := (h2.2 hf D dA cs A p l e s m args below meth c ls H locs C hl hH hS)
    exact lv_if_gt C.1 C.2.1 hd ht (fun z => absurd z hc) (fun _ => hh)
theorem V_ifge {x : Int32} (q t : Nat) (hq : pc + 3 = q) {off : Int} (hd : decode M.2.1 pc = .ok (.ifCond .ge off, 3)) (ht : (pc : Int) + off = (t : Int)) (h1 : V M d mc ms k n tv F1 q lv st b σ) (h2 : V M d mc ms k n tv F2 t lv st b σ) : V M d mc ms k n tv (if x < 0 then F1 else F2) pc lv (vI x :: st) b σ := by
  subst hq
  by_cases hc : x < 0
  · rw [if_pos hc]
    refine ⟨h1.1, fun hf D dA cs A p l e s m args below meth c ls H locs C hl hH hS => ?_⟩
    have hh := (h1.2 hf D dA cs A p l e s m args below meth c ls H locs C hl hH hS)
    exact lv_if_ge C.1 C.2.1 hd ht (fun z => absurd z (by rw [fa2_nle]; exact hc)) (fun _ => hh)
  · rw [if_neg hc]
    refine ⟨h2.1, fun hf D dA cs A p l e s m args below meth c ls H locs C hl hH hS => ?_⟩
    have hh := (h2.2 hf D dA cs A p l e s m args below meth c ls H locs C hl hH hS)
    exact lv_if_ge C.1 C.2.1 hd ht (fun _ => hh) (fun z => absurd (by rw [← fa2_nlt]; exact hc) z)
theorem V_ifle {x : Int32} (q t : Nat) (hq : pc + 3 = q) {off : Int} (hd : decode M.2.1 pc = .ok (.ifCond .le off, 3)) (ht : (pc : Int) + off = (t : Int)) (h1 : V M d mc ms k n tv F1 q lv st b σ) (h2 : V M d mc ms k n tv F2 t lv st b σ) : V M d mc ms k n tv (if 0 < x then F1 else F2) pc lv (vI x :: st) b σ := by
  subst hq
  by_cases hc : 0 < x
  · rw [if_pos hc]
    refine ⟨h1.1, fun hf D dA cs A p l e s m args below meth c ls H locs C hl hH hS => ?_⟩
    have hh := (h1.2 hf D dA cs A p l e s m args below meth c ls H locs C hl hH hS)
    exact lv_if_le C.1 C.2.1 hd ht (fun z => absurd z (by rw [fa2_nle]; exact hc)) (fun _ => hh)
  · rw [if_neg hc]
    refine ⟨h2.1, fun hf D dA cs A p l e s m args below meth c ls H locs C hl hH hS => ?_⟩
    have hh := (h2.2 hf D dA cs A p l e s m args below meth c ls H locs C hl hH hS)
    exact lv_if_le C.1 C.2.1 hd ht (fun _ => hh) (fun z => absurd (by rw [← fa2_nlt]; exact hc) z)
theorem V_icmpeq {x y : Int32} (q t : Nat) (hq : pc + 3 = q) {off : Int} (hd : decode M.2.1 pc = .ok (.if_icmp .eq off, 3)) (ht : (pc : Int) + off = (t : Int)) (h1 : V M d mc ms k n tv F1 t lv st b σ) (h2 : V M d mc ms k n tv F2 q lv st b σ) : V M d mc ms k n tv (if x = y then F1 else F2) pc lv (vI y :: vI x :: st) b σ := by
  subst hq
  by_cases hc : x = y
  · rw [if_pos hc]
    refine ⟨h1.1, fun hf D dA cs A p l e s m args below meth c ls H locs C hl hH hS => ?_⟩
    have hh := (h1.2 hf D dA cs A p l e s m args below meth c ls H locs C hl hH hS)
    exact lv_icmp_eq C.1 C.2.1 hd ht (fun _ => hh) (fun z => absurd hc z)
  · rw [if_neg hc]
    refine ⟨h2.1, fun hf D dA cs A p l e s m args below meth c ls H locs C hl hH hS => ?_⟩
    have hh := (h2.2 hf D dA cs A p l e s m args below meth c ls H locs C hl hH hS)
    exact lv_icmp_eq C.1 C.2.1 hd ht (fun z => absurd z hc) (fun _ => hh)
theorem V_icmplt {x y : Int32} (q t : Nat) (hq : pc + 3 = q) {off : Int} (hd : decode M.2.1 pc = .ok (.if_icmp .lt off, 3)) (ht : (pc : Int) + off = (t : Int)) (h1 : V M d mc ms k n tv F1 t lv st b σ) (h2 : V M d mc ms k n tv F2 q lv st b σ) : V M d mc ms k n tv (if x < y then F1 else F2) pc lv (vI y :: vI x :: st) b σ := by
  subst hq
  by_cases hc : x < y
  · rw [if_pos hc]
    refine ⟨h1.1, fun hf D dA cs A p l e s m args below meth c ls H locs C hl hH hS => ?_⟩
    have hh := (h1.2 hf D dA cs A p l e s m args below meth c ls H locs C hl hH hS)
    exact lv_icmp_lt C.1 C.2.1 hd ht (fun _ => hh) (fun z => absurd hc z)
  · rw [if_neg hc]
    refine ⟨h2.1, fun hf D dA cs A p l e s m args below meth c ls H locs C hl hH hS => ?_⟩
    have hh := (h2.2 hf D dA cs A p l e s m args below meth c ls H locs C hl hH hS)
    exact lv_icmp_lt C.1 C.2.1 hd ht (fun z => absurd z hc) (fun _ => hh)
theorem V_icmpgt {x y : Int32} (q t : Nat) (hq : pc + 3 = q) {off : Int} (hd : decode M.2.1 pc = .ok (.if_icmp .gt off, 3)) (ht : (pc : Int) + off = (t : Int)) (h1 : V M d mc ms k n tv F1 t lv st b σ) (h2 : V M d mc ms k n tv F2 q lv st b σ) : V M d mc ms k n tv (if y < x then F1 else F2) pc lv (vI y :: vI x :: st) b σ := by
  subst hq
  by_cases hc : y < x
  · rw [if_pos hc]
    refine ⟨h1.1, fun hf D dA cs A p l e s m args below meth c ls H locs C hl hH hS => ?_⟩
    have hh := (h1.2 hf D dA cs A p l e s m args below meth c ls H locs C hl hH hS)
    exact lv_icmp_gt C.1 C.2.1 hd ht (fun _ => hh) (fun z => absurd hc z)
  · rw [if_neg hc]
    refine ⟨h2.1, fun hf D dA cs A p l e s m args below meth c ls H locs C hl hH hS => ?_⟩
    have hh := (h2.2 hf D dA cs A p l e s m args below meth c ls H locs C hl hH hS)
    exact lv_icmp_gt C.1 C.2.1 hd ht (fun z => absurd z hc) (fun _ => hh)
theorem V_icmpge {x y : Int32} (q t : Nat) (hq : pc + 3 = q) {off : Int} (hd : decode M.2.1 pc = .ok (.if_icmp .ge off, 3)) (ht : (pc : Int) + off = (t : Int)) (h1 : V M d mc ms k n tv F1 q lv st b σ) (h2 : V M d mc ms k n tv F2 t lv st b σ) : V M d mc ms k n tv (if x < y then F1 else F2) pc lv (vI y :: vI x :: st) b σ := by
  subst hq
  by_cases hc : x < y
  · rw [if_pos hc]
    refine ⟨h1.1, fun hf D dA cs A p l e s m args below meth c ls H locs C hl hH hS => ?_⟩
    have hh := (h1.2 hf D dA cs A p l e s m args below meth c ls H locs C hl hH hS)
    exact lv_icmp_ge C.1 C.2.1 hd ht (fun z => absurd z (by rw [fa2_nle]; exact hc)) (fun _ => hh)
  · rw [if_neg hc]
    refine ⟨h2.1, fun hf D dA cs A p l e s m args below meth c ls H locs C hl hH hS => ?_⟩
    have hh := (h2.2 hf D dA cs A p l e s m args below meth c ls H locs C hl hH hS)
    exact lv_icmp_ge C.1 C.2.1 hd ht (fun _ => hh) (fun z => absurd (by rw [← fa2_nlt]; exact hc) z)
theorem V_icmple {x y : Int32} (q t : Nat) (hq : pc + 3 = q) {off : Int} (hd : decode M.2.1 pc = .ok (.if_icmp .le off, 3)) (ht : (pc : Int) + off = (t : Int)) (h1 : V M d mc ms k n tv F1 q lv st b σ) (h2 : V M d mc ms k n tv F2 t lv st b σ) : V M d mc ms k n tv (if y < x then F1 else F2) pc lv (vI y :: vI x :: st) b σ := by
  subst hq
  by_cases hc : y < x
  · rw [if_pos hc]
    refine ⟨h1.1, fun hf D dA cs A p l e s m args below meth c ls H locs C hl hH hS => ?_⟩
    have hh := (h1.2 hf D dA cs A p l e s m args below meth c ls H locs C hl hH hS)
    exact lv_icmp_le C.1 C.2.1 hd ht (fun z => absurd z (by rw [fa2_nle]; exact hc)) (fun _ => hh)
  · rw [if_neg hc]
    refine ⟨h2.1, fun hf D dA cs A p l e s m args below meth c ls H locs C hl hH hS => ?_⟩
    have hh := (h2.2 hf D dA cs A p l e s m args below meth c ls H locs C hl hH hS)
    exact lv_icmp_le C.1 C.2.1 hd ht (fun _ => hh) (fun z => absurd (by rw [← fa2_nlt]; exact hc) z)
theorem V_icmpne {x y : Int32} (q t : Nat) (hq : pc + 3 = q) {off : Int} (hd : decode M.2.1 pc = .ok (.if_icmp .ne off, 3)) (ht : (pc : Int) + off = (t : Int)) (h1 : V M d mc ms k n tv F1 q lv st b σ) (h2 : V M d mc ms k n tv F2 t lv st b σ) : V M d mc ms k n tv (if x = y then F1 else F2) pc lv (vI y :: vI x :: st) b σ := by
  subst hq
  by_cases hc : x = y
  · rw [if_pos hc]
    refine ⟨h1.1, fun hf D dA cs A p l e s m args below meth c ls H locs C hl hH hS => ?_⟩
    have hh := (h1.2 hf D dA cs A p l e s m args below meth c ls H locs C hl hH hS)
    exact lv_icmp_ne C.1 C.2.1 hd ht (fun z => absurd z (by exact fun z => z hc)) (fun _ => hh)
  · rw [if_neg hc]
    refine ⟨h2.1, fun hf D dA cs A p l e s m args below meth c ls H locs C hl hH hS => ?_⟩
    have hh := (h2.2 hf D dA cs A p l e s m args below meth c ls H locs C hl hH hS)
    exact lv_icmp_ne C.1 C.2.1 hd ht (fun _ => hh) (fun z => absurd z hc)
theorem V_goto (t : Nat) {off : Int} (hd : decode M.2.1 pc = .ok (.goto off, 3)) (ht : (pc : Int) + off = (t : Int)) (h : V M d mc ms k n tv F t lv st b σ) : V M d mc ms k n tv F pc lv st b σ := ⟨h.1, fun hf D dA cs A p l e s m args below meth c ls H locs C hl hH hS => lv_goto C.1 C.2.1 hd ht (h.2 hf D dA cs A p l e s m args below meth c ls H locs C hl hH hS)⟩
theorem V_ifnull {x : Nat} (q t : Nat) (hq : pc + 3 = q) {off : Int} (hd : decode M.2.1 pc = .ok (.ifnull off, 3)) (ht : (pc : Int) + off = (t : Int)) (h1 : V M d mc ms k n tv F1 t lv st b σ) (h2 : V M d mc ms k n tv F2 q lv st b σ) : V M d mc ms k n tv (if x = 0 then F1 else F2) pc lv (vR x :: st) b σ := by
  subst hq
  by_cases hc : x = 0
  · rw [if_pos hc]
    refine ⟨h1.1, fun hf D dA cs A p l e s m args below meth c ls H locs C hl hH hS => ?_⟩
    have hh := (h1.2 hf D dA cs A p l e s m args below meth c ls H locs C hl hH hS)
    have hv : vr x = .null := by simp only [vr, hc, if_true]
    show W p l e (Rm d mc ms) s m args below meth c H locs k n _ (F0 m pc ls (vr x :: stm st))
    rw [hv]
    exact lv_ifnullN C.1 C.2.1 hd ht hh
  · rw [if_neg hc]
    refine ⟨h2.1, fun hf D dA cs A p l e s m args below meth c ls H locs C hl hH hS => ?_⟩
    have hh := (h2.2 hf D dA cs A p l e s m args below meth c ls H locs C hl hH hS)
    have hv : vr x = .ref (x - 1) := by simp only [vr, hc, if_false]
    show W p l e (Rm d mc ms) s m args below meth c H locs k n _ (F0 m pc ls (vr x :: stm st))
    rw [hv]
    exact lv_ifnull C.1 C.2.1 hd hh
theorem V_ifnonnull {x : Nat} (q t : Nat) (hq : pc + 3 = q) {off : Int} (hd : decode M.2.1 pc = .ok (.ifnonnull off, 3)) (ht : (pc : Int) + off = (t : Int)) (h1 : V M d mc ms k n tv F1 q lv st b σ) (h2 : V M d mc ms k n tv F2 t lv st b σ) : V M d mc ms k n tv (if x = 0 then F1 else F2) pc lv (vR x :: st) b σ := by
  subst hq
  by_cases hc : x = 0
  · rw [if_pos hc]
    refine ⟨h1.1, fun hf D dA cs A p l e s m args below meth c ls H locs C hl hH hS => ?_⟩
    have hh := (h1.2 hf D dA cs A p l e s m args below meth c ls H locs C hl hH hS)
    have hv : vr x = .null := by simp only [vr, hc, if_true]
    show W p l e (Rm d mc ms) s m args below meth c H locs k n _ (F0 m pc ls (vr x :: stm st))
    rw [hv]
    exact lv_ifnonnullN C.1 C.2.1 hd hh
  · rw [if_neg hc]
    refine ⟨h2.1, fun hf D dA cs A p l e s m args below meth c ls H locs C hl hH hS => ?_⟩
    have hh := (h2.2 hf D dA cs A p l e s m args below meth c ls H locs C hl hH hS)
    have hv : vr x = .ref (x - 1) := by simp only [vr, hc, if_false]
    show W p l e (Rm d mc ms) s m args below meth c H locs k n _ (F0 m pc ls (vr x :: stm st))
    rw [hv]
    exact lv_ifnonnull C.1 C.2.1 hd ht hh
theorem V_ite {P : Prop} [hP : Decidable P] (h1 : P → V M d mc ms k n tv F1 pc lv st b σ) (h2 : ¬ P → V M d mc ms k n tv F2 pc lv st b σ) : V M d mc ms k n tv (if P then F1 else F2) pc lv st b σ := by
  by_cases hc : P
  · rw [if_pos hc]; exact h1 hc
  · rw [if_neg hc]; exact h2 hc
theorem V_tswIn {x : Int32} {dflt lo hi off : Int} {offs : Array Int} {len : Nat} (t : Nat) (hd : decode M.2.1 pc = .ok (.tableswitch dflt lo hi offs, len)) (h1 : ¬ x.toInt < lo) (h2 : ¬ hi < x.toInt) (ho : offs[(x.toInt - lo).toNat]? = some off) (ht : (pc : Int) + off = (t : Int)) (h : V M d mc ms k n tv F t lv st b σ) : V M d mc ms k n tv F pc lv (vI x :: st) b σ := ⟨h.1, fun hf D dA cs A p l e s m args below meth c ls H locs C hl hH hS => lv_tableIn C.1 C.2.1 hd h1 h2 ho ht (h.2 hf D dA cs A p l e s m args below meth c ls H locs C hl hH hS)⟩
theorem V_tswOut {x : Int32} {dflt lo hi : Int} {offs : Array Int} {len : Nat} (t : Nat) (hd : decode M.2.1 pc = .ok (.tableswitch dflt lo hi offs, len)) (ho : x.toInt < lo ∨ hi < x.toInt) (ht : (pc : Int) + dflt = (t : Int)) (h : V M d mc ms k n tv F t lv st b σ) : V M d mc ms k n tv F pc lv (vI x :: st) b σ := ⟨h.1, fun hf D dA cs A p l e s m args below meth c ls H locs C hl hH hS => lv_tableOut C.1 C.2.1 hd ho ht (h.2 hf D dA cs A p l e s m args below meth c ls H locs C hl hH hS)⟩
theorem V_lsw {x : Int32} {dflt off : Int} {ps : Array (Int × Int)} {len : Nat} (t : Nat) (hd : decode M.2.1 pc = .ok (.lookupswitch dflt ps, len)) (hp : (ps.toList.zip (ps.toList.drop 1)).all (fun (a, next) => a.1 < next.1) = true) (ho : Op.lookupswitch.offset ps.toList dflt x.toInt = off) (ht : (pc : Int) + off = (t : Int)) (h : V M d mc ms k n tv F t lv st b σ) : V M d mc ms k n tv F pc lv (vI x :: st) b σ := ⟨h.1, fun hf D dA cs A p l e s m args below meth c ls H locs C hl hH hS => lv_lookup C.1 C.2.1 hd hp ho ht (h.2 hf D dA cs A p l e s m args below meth c ls H locs C hl hH hS)⟩
theorem V_lcmp {x y : Int64} (q : Nat) (hq : pc + 1 = q) (hd : decode M.2.1 pc = .ok (.lcmp, 1)) (h : V M d mc ms k n tv F q lv (vI (lg_cmp x y) :: st) b σ) : V M d mc ms k n tv F pc lv (vL y :: vL x :: st) b σ := by
  subst hq
  exact ⟨h.1, fun hf D dA cs A p l e s m args below meth c ls H locs C hl hH hS => W.lcmp C.1 C.2.1 hd (h.2 hf D dA cs A p l e s m args below meth c ls H locs C hl hH hS)⟩
def tI (x : Int32) : Option LV := some (vI x)
def tL (x : Int64) : Option LV := some (vL x)
def tU (_ : Unit) : Option LV := none
def tR (x : Nat) : Option LV := some (vR x)
def zok (x : Int32) : Bool := decide (x = 0) || decide (x = 1)
theorem zok_n {x : Int32} (h : zok x = true) : narrow .boolean (.int x) = .int x := by
  simp only [zok, Bool.or_eq_true, decide_eq_true_eq] at h
  rcases h with rfl | rfl <;> rfl
theorem V_iret {x : Int32} (hr : M.2.2.2 = some .int) (hk : k ≤ mc) (hn : n ≤ ms) (hd : decode M.2.1 pc = .ok (.ireturn, 1)) : V M d mc ms k n tI (x, b, σ) pc lv [vI x] b σ := by
  refine ⟨fun h => h, fun hf D dA cs A p l e s m args below meth c ls H locs C hl hH hS => ?_⟩
  refine W.widen (k := mc) (n := ms) hk hn ?_
  exact W.iret C.1 C.2.1 (C.2.2.1.trans hr) (fun t ht hW => ⟨⟨rfl, by rw [ht]; exact hH⟩, hS.F ht⟩) hS.2.2 hd C.2.2.2.2.1
theorem V_lret {x : Int64} (hr : M.2.2.2 = some .long) (hk : k ≤ mc) (hn : n ≤ ms) (hd : decode M.2.1 pc = .ok (.lreturn, 1)) : V M d mc ms k n tL (x, b, σ) pc lv [vL x] b σ := by
  refine ⟨fun h => h, fun hf D dA cs A p l e s m args below meth c ls H locs C hl hH hS => ?_⟩
  refine W.widen (k := mc) (n := ms) hk hn ?_
  exact W.lret C.1 C.2.1 (C.2.2.1.trans hr) (fun t ht hW => ⟨⟨rfl, by rw [ht]; exact hH⟩, hS.F ht⟩) hS.2.2 hd C.2.2.2.2.1
theorem V_vret (hr : M.2.2.2 = none) (hk : k ≤ mc) (hn : n ≤ ms) (hd : decode M.2.1 pc = .ok (.return_, 1)) : V M d mc ms k n tU ((), b, σ) pc lv [] b σ := by
  refine ⟨fun h => h, fun hf D dA cs A p l e s m args below meth c ls H locs C hl hH hS => ?_⟩
  refine W.widen (k := mc) (n := ms) hk hn ?_
  exact W.vret C.1 C.2.1 (C.2.2.1.trans hr) (fun t ht hW => ⟨⟨rfl, by rw [ht]; exact hH⟩, hS.F ht⟩) hS.2.2 hd C.2.2.2.2.1
theorem V_zret {x : Int32} (hr : M.2.2.2 = some .boolean) (hk : k ≤ mc) (hn : n ≤ ms) (hz : narrow .boolean (.int x) = .int x) (hd : decode M.2.1 pc = .ok (.ireturn, 1)) : V M d mc ms k n tI (x, b, σ) pc lv [vI x] b σ := by
  refine ⟨fun h => h, fun hf D dA cs A p l e s m args below meth c ls H locs C hl hH hS => ?_⟩
  refine W.widen (k := mc) (n := ms) hk hn ?_
  exact W.zret C.1 C.2.1 (C.2.2.1.trans hr) hz (fun t ht hW => ⟨⟨rfl, by rw [ht]; exact hH⟩, hS.F ht⟩) hS.2.2 hd C.2.2.2.2.1
theorem V_zretc {x : Int32} (hr : M.2.2.2 = some .boolean) (hk : k ≤ mc) (hn : n ≤ ms) (hd : decode M.2.1 pc = .ok (.ireturn, 1)) : V M d mc ms k n tI (x, (b && zok x), σ) pc lv [vI x] b σ := by
  refine ⟨fun h => ((Bool.and_eq_true _ _).mp h).1, fun hf D dA cs A p l e s m args below meth c ls H locs C hl hH hS => ?_⟩
  refine W.widen (k := mc) (n := ms) hk hn ?_
  exact W.zret C.1 C.2.1 (C.2.2.1.trans hr) (zok_n ((Bool.and_eq_true _ _).mp hf).2) (fun t ht hW => ⟨⟨rfl, by rw [ht]; exact hH⟩, hS.F ht⟩) hS.2.2 hd C.2.2.2.2.1
theorem V_aret {x : Nat} {rt : FieldType} (hr : M.2.2.2 = some rt) (hk : k ≤ mc) (hn : n ≤ ms) (hrt : (∃ n, rt = .object n) ∨ ∃ t, rt = .array t) (hd : decode M.2.1 pc = .ok (.areturn, 1)) : V M d mc ms k n tR (x, b, σ) pc lv [vR x] b σ := by
  refine ⟨fun h => h, fun hf D dA cs A p l e s m args below meth c ls H locs C hl hH hS => ?_⟩
  refine W.widen (k := mc) (n := ms) hk hn ?_
  exact W.aret C.1 C.2.1 (C.2.2.1.trans hr) hrt (vr_or x) (fun t ht hW => ⟨⟨rfl, by rw [ht]; exact hH⟩, hS.F ht⟩) hS.2.2 hd C.2.2.2.2.1
end VR
