/-! rows of V: arrays, new cells -/
section VA
variable {α : Type} {M : MD} {d mc ms k n : Nat} {tv : α → Option LV} {F F1 F2 : Rs α} {pc : Nat} {lv : List (Nat × LV)} {st : List LV} {b : Bool} {σ : Sto}
theorem celP_int {D : va_G} {dA : Nat → ClassId} {H : Heap} {a : Nat} (hk : Stk σ a = 21) : celP D dA σ a H = (H[a - 1]? = some (arrV (dA 0) (Sln σ a) (fun j => .int (SI σ a j)))) := by
  unfold celP
  simp only [hk]
theorem celP_byte {D : va_G} {dA : Nat → ClassId} {H : Heap} {a : Nat} (hk : Stk σ a = 22) : celP D dA σ a H = (H[a - 1]? = some (arrV (dA 1) (Sln σ a) (fun j => .int (SI σ a j)))) := by
  unfold celP
  simp only [hk]
theorem celP_long {D : va_G} {dA : Nat → ClassId} {H : Heap} {a : Nat} (hk : Stk σ a = 23) : celP D dA σ a H = (H[a - 1]? = some (arrV (dA 2) (Sln σ a) (fun j => .long (SL σ a j)))) := by
  unfold celP
  simp only [hk]
theorem celP_bool {D : va_G} {dA : Nat → ClassId} {H : Heap} {a : Nat} (hk : Stk σ a = 24) : celP D dA σ a H = (H[a - 1]? = some (arrV (dA 3) (Sln σ a) (fun j => .int (SI σ a j)))) := by
  unfold celP
  simp only [hk]
theorem celP_r25 {D : va_G} {dA : Nat → ClassId} {H : Heap} {a : Nat} (hk : Stk σ a = 25) : celP D dA σ a H = (H[a - 1]? = some (arrV (dA 4) (Sln σ a) (fun j => vr (SR σ a j)))) := by
  unfold celP
  simp only [hk]
theorem celP_r26 {D : va_G} {dA : Nat → ClassId} {H : Heap} {a : Nat} (hk : Stk σ a = 26) : celP D dA σ a H = (H[a - 1]? = some (arrV (dA 5) (Sln σ a) (fun j => vr (SR σ a j)))) := by
  unfold celP
  simp only [hk]
theorem celP_r27 {D : va_G} {dA : Nat → ClassId} {H : Heap} {a : Nat} (hk : Stk σ a = 27) : celP D dA σ a H = (H[a - 1]? = some (arrV (dA 6) (Sln σ a) (fun j => vr (SR σ a j)))) := by
  unfold celP
  simp only [hk]
theorem V_ald_int {a : Nat} {i : Int32} (q : Nat) (hq : pc + 1 = q) (hd : decode M.2.1 pc = .ok (.iaload, 1)) (h : V M d mc ms k n tv F q lv (vI (SI σ a (ix i)) :: st) (b && cA σ a 21 i) σ) : V M d mc ms k n tv F pc lv (vI i :: vR a :: st) b σ := by
  subst hq
  refine ⟨fun hf => and_l (h.1 hf), fun hf D dA cs A p l e s m args below meth c ls H locs X hl hH hS => ?_⟩
  have hc := and_r (h.1 hf)
  have hin := inb_in (and_r hc)
  have hlt : i.toNatClampNeg < Sln σ a := Nat.not_le.mp fun q => hin (Or.inr q)
  obtain ⟨g1, g2, g3, g4⟩ := HP_at hH (and_l hc : cK σ a 21 = true) (by omega) (by omega)
  rw [celP_int g1] at g3
  have K := X.2.2.2.2.2.2.2.2.1.1
  show W p l e (Rm d mc ms) s m args below meth c H locs k n _ (F0 m pc ls (.int i :: vr a :: stm st))
  rw [g2]
  exact W.iald (v := .int (SI σ a (ix i))) X.1 X.2.1 g3 ((K.2 0 (dA 0, .int) rfl).1 _ _) (fun q => by cases q) (by rw [arrV_size]; exact hin) (arrV_read _ _ hlt) rfl rfl hd (h.2 hf D dA cs A p l e s m args below meth c ls H locs X hl hH hS)
theorem V_ald_byte {a : Nat} {i : Int32} (q : Nat) (hq : pc + 1 = q) (hd : decode M.2.1 pc = .ok (.baload, 1)) (h : V M d mc ms k n tv F q lv (vI (SI σ a (ix i)) :: st) (b && cA σ a 22 i) σ) : V M d mc ms k n tv F pc lv (vI i :: vR a :: st) b σ := by
  subst hq
  refine ⟨fun hf => and_l (h.1 hf), fun hf D dA cs A p l e s m args below meth c ls H locs X hl hH hS => ?_⟩
  have hc := and_r (h.1 hf)
  have hin := inb_in (and_r hc)
  have hlt : i.toNatClampNeg < Sln σ a := Nat.not_le.mp fun q => hin (Or.inr q)
  obtain ⟨g1, g2, g3, g4⟩ := HP_at hH (and_l hc : cK σ a 22 = true) (by omega) (by omega)
  rw [celP_byte g1] at g3
  have K := X.2.2.2.2.2.2.2.2.1.1
  show W p l e (Rm d mc ms) s m args below meth c H locs k n _ (F0 m pc ls (.int i :: vr a :: stm st))
  rw [g2]
  exact W.bald (v := .int (SI σ a (ix i))) X.1 X.2.1 g3 ((K.2 1 (dA 1, .byte) rfl).1 _ _) (fun q => by cases q) (by rw [arrV_size]; exact hin) (arrV_read _ _ hlt) rfl rfl hd (h.2 hf D dA cs A p l e s m args below meth c ls H locs X hl hH hS)
theorem V_ald_long {a : Nat} {i : Int32} (q : Nat) (hq : pc + 1 = q) (hd : decode M.2.1 pc = .ok (.laload, 1)) (h : V M d mc ms k n tv F q lv (vL (SL σ a (ix i)) :: st) (b && cA σ a 23 i) σ) : V M d mc ms k n tv F pc lv (vI i :: vR a :: st) b σ := by
  subst hq
  refine ⟨fun hf => and_l (h.1 hf), fun hf D dA cs A p l e s m args below meth c ls H locs X hl hH hS => ?_⟩
  have hc := and_r (h.1 hf)
  have hin := inb_in (and_r hc)
  have hlt : i.toNatClampNeg < Sln σ a := Nat.not_le.mp fun q => hin (Or.inr q)
  obtain ⟨g1, g2, g3, g4⟩ := HP_at hH (and_l hc : cK σ a 23 = true) (by omega) (by omega)
  rw [celP_long g1] at g3
  have K := X.2.2.2.2.2.2.2.2.1.1
  show W p l e (Rm d mc ms) s m args below meth c H locs k n _ (F0 m pc ls (.int i :: vr a :: stm st))
  rw [g2]
  exact W.lald (v := .long (SL σ a (ix i))) X.1 X.2.1 g3 ((K.2 2 (dA 2, .long) rfl).1 _ _) (fun q => by cases q) (by rw [arrV_size]; exact hin) (arrV_read _ _ hlt) rfl rfl hd (h.2 hf D dA cs A p l e s m args below meth c ls H locs X hl hH hS)
theorem V_ald_bool {a : Nat} {i : Int32} (q : Nat) (hq : pc + 1 = q) (hd : decode M.2.1 pc = .ok (.baload, 1)) (h : V M d mc ms k n tv F q lv (vI (SI σ a (ix i)) :: st) (b && cA σ a 24 i) σ) : V M d mc ms k n tv F pc lv (vI i :: vR a :: st) b σ := by
  subst hq
  refine ⟨fun hf => and_l (h.1 hf), fun hf D dA cs A p l e s m args below meth c ls H locs X hl hH hS => ?_⟩
  have hc := and_r (h.1 hf)
  have hin := inb_in (and_r hc)
  have hlt : i.toNatClampNeg < Sln σ a := Nat.not_le.mp fun q => hin (Or.inr q)
  obtain ⟨g1, g2, g3, g4⟩ := HP_at hH (and_l hc : cK σ a 24 = true) (by omega) (by omega)
  rw [celP_bool g1] at g3
  have K := X.2.2.2.2.2.2.2.2.1.1
  show W p l e (Rm d mc ms) s m args below meth c H locs k n _ (F0 m pc ls (.int i :: vr a :: stm st))
  rw [g2]
  exact W.zald (v := .int (SI σ a (ix i))) X.1 X.2.1 g3 ((K.2 3 (dA 3, .boolean) rfl).1 _ _) (fun q => by cases q) (by rw [arrV_size]; exact hin) (arrV_read _ _ hlt) rfl rfl hd (h.2 hf D dA cs A p l e s m args below meth c ls H locs X hl hH hS)
theorem V_ald_r25 {a : Nat} {i : Int32} (q : Nat) (hq : pc + 1 = q) (hd : decode M.2.1 pc = .ok (.aaload, 1)) (h : V M d mc ms k n tv F q lv (vR (SR σ a (ix i)) :: st) (b && cA σ a 25 i) σ) : V M d mc ms k n tv F pc lv (vI i :: vR a :: st) b σ := by
  subst hq
  refine ⟨fun hf => and_l (h.1 hf), fun hf D dA cs A p l e s m args below meth c ls H locs X hl hH hS => ?_⟩
  have hc := and_r (h.1 hf)
  have hin := inb_in (and_r hc)
  have hlt : i.toNatClampNeg < Sln σ a := Nat.not_le.mp fun q => hin (Or.inr q)
  obtain ⟨g1, g2, g3, g4⟩ := HP_at hH (and_l hc : cK σ a 25 = true) (by omega) (by omega)
  rw [celP_r25 g1] at g3
  have K := X.2.2.2.2.2.2.2.2.1.1
  show W p l e (Rm d mc ms) s m args below meth c H locs k n _ (F0 m pc ls (.int i :: vr a :: stm st))
  rw [g2]
  exact W.aald (v := vr (SR σ a (ix i))) (ty := .object "LongTrail$Text") X.1 X.2.1 g3 ((K.2 4 (dA 4, .object "LongTrail$Text") rfl).1 _ _) rfl (fun q => by cases q) (by rw [arrV_size]; exact hin) (arrV_read _ _ hlt) rfl rfl hd (h.2 hf D dA cs A p l e s m args below meth c ls H locs X hl hH hS)
theorem V_ald_r26 {a : Nat} {i : Int32} (q : Nat) (hq : pc + 1 = q) (hd : decode M.2.1 pc = .ok (.aaload, 1)) (h : V M d mc ms k n tv F q lv (vR (SR σ a (ix i)) :: st) (b && cA σ a 26 i) σ) : V M d mc ms k n tv F pc lv (vI i :: vR a :: st) b σ := by
  subst hq
  refine ⟨fun hf => and_l (h.1 hf), fun hf D dA cs A p l e s m args below meth c ls H locs X hl hH hS => ?_⟩
  have hc := and_r (h.1 hf)
  have hin := inb_in (and_r hc)
  have hlt : i.toNatClampNeg < Sln σ a := Nat.not_le.mp fun q => hin (Or.inr q)
  obtain ⟨g1, g2, g3, g4⟩ := HP_at hH (and_l hc : cK σ a 26 = true) (by omega) (by omega)
  rw [celP_r26 g1] at g3
  have K := X.2.2.2.2.2.2.2.2.1.1
  show W p l e (Rm d mc ms) s m args below meth c H locs k n _ (F0 m pc ls (.int i :: vr a :: stm st))
  rw [g2]
  exact W.aald (v := vr (SR σ a (ix i))) (ty := .object "LongTrail$Walker") X.1 X.2.1 g3 ((K.2 5 (dA 5, .object "LongTrail$Walker") rfl).1 _ _) rfl (fun q => by cases q) (by rw [arrV_size]; exact hin) (arrV_read _ _ hlt) rfl rfl hd (h.2 hf D dA cs A p l e s m args below meth c ls H locs X hl hH hS)
theorem V_ald_r27 {a : Nat} {i : Int32} (q : Nat) (hq : pc + 1 = q) (hd : decode M.2.1 pc = .ok (.aaload, 1)) (h : V M d mc ms k n tv F q lv (vR (SR σ a (ix i)) :: st) (b && cA σ a 27 i) σ) : V M d mc ms k n tv F pc lv (vI i :: vR a :: st) b σ := by
  subst hq
  refine ⟨fun hf => and_l (h.1 hf), fun hf D dA cs A p l e s m args below meth c ls H locs X hl hH hS => ?_⟩
  have hc := and_r (h.1 hf)
  have hin := inb_in (and_r hc)
  have hlt : i.toNatClampNeg < Sln σ a := Nat.not_le.mp fun q => hin (Or.inr q)
  obtain ⟨g1, g2, g3, g4⟩ := HP_at hH (and_l hc : cK σ a 27 = true) (by omega) (by omega)
  rw [celP_r27 g1] at g3
  have K := X.2.2.2.2.2.2.2.2.1.1
  show W p l e (Rm d mc ms) s m args below meth c H locs k n _ (F0 m pc ls (.int i :: vr a :: stm st))
  rw [g2]
  exact W.aald (v := vr (SR σ a (ix i))) (ty := .object "LongTrail$Sheet") X.1 X.2.1 g3 ((K.2 6 (dA 6, .object "LongTrail$Sheet") rfl).1 _ _) rfl (fun q => by cases q) (by rw [arrV_size]; exact hin) (arrV_read _ _ hlt) rfl rfl hd (h.2 hf D dA cs A p l e s m args below meth c ls H locs X hl hH hS)
theorem V_ast_int {a : Nat} {i : Int32} {x : Int32} {kf : Sto → Rs α} (q : Nat) (hq : pc + 1 = q) (hd : decode M.2.1 pc = .ok (.iastore, 1)) (h : ∀ σ' : Sto, V M d mc ms k n tv (kf σ') q lv st (b && cA σ a 21 i) σ') : V M d mc ms k n tv (lt_ (pI σ a (ix i) x) kf) pc lv (vI x :: vI i :: vR a :: st) b σ := by
  subst hq
  have h := h (pI σ a (ix i) x)
  refine ⟨fun hf => and_l (h.1 hf), fun hf D dA cs A p l e s m args below meth c ls H locs X hl hH hS => ?_⟩
  have hc := and_r (h.1 hf)
  have hin := inb_in (and_r hc)
  obtain ⟨g1, g2, g3, g4⟩ := HP_at hH (and_l hc : cK σ a 21 = true) (by omega) (by omega)
  rw [celP_int g1] at g3
  have K := X.2.2.2.2.2.2.2.2.1.1
  show W p l e (Rm d mc ms) s m args below meth c H locs k n _ (F0 m pc ls (.int x :: .int i :: vr a :: stm st))
  rw [g2]
  refine W.iast X.1 X.2.1 g3 ((K.2 0 (dA 0, .int) rfl).1 _ _) (fun q => by cases q) (by rw [arrV_size]; exact hin) rfl rfl hd fun H' e1 e2 e3 => ?_
  refine h.2 hf D dA cs A p l e s m args below meth c ls H' _ X hl (HP_putI (nz_of hH g1 (by omega)) hH e2 e3 ?_) (hS.put e2 e3 g4)
  rw [celP_int (σ := pI σ a (ix i) x) g1, e1, arrV_store]
  show some (arrV _ (Sln σ a) _) = some (arrV _ (Sln σ a) _)
  congr 2
  funext y
  show updV _ _ _ y = .int (up2 _ a _ _ a y)
  rw [up2_at]
  unfold updV
  by_cases hy : y = i.toNatClampNeg
  · simp only [hy, if_true, ix]
  · simp only [hy, if_false, ix]
    rfl
theorem V_ast_byte {a : Nat} {i : Int32} {x : Int32} {kf : Sto → Rs α} (q : Nat) (hq : pc + 1 = q) (hd : decode M.2.1 pc = .ok (.bastore, 1)) (h : ∀ σ' : Sto, V M d mc ms k n tv (kf σ') q lv st (b && cA σ a 22 i) σ') : V M d mc ms k n tv (lt_ (pI σ a (ix i) x.toInt8.toInt32) kf) pc lv (vI x :: vI i :: vR a :: st) b σ := by
  subst hq
  have h := h (pI σ a (ix i) x.toInt8.toInt32)
  refine ⟨fun hf => and_l (h.1 hf), fun hf D dA cs A p l e s m args below meth c ls H locs X hl hH hS => ?_⟩
  have hc := and_r (h.1 hf)
  have hin := inb_in (and_r hc)
  obtain ⟨g1, g2, g3, g4⟩ := HP_at hH (and_l hc : cK σ a 22 = true) (by omega) (by omega)
  rw [celP_byte g1] at g3
  have K := X.2.2.2.2.2.2.2.2.1.1
  show W p l e (Rm d mc ms) s m args below meth c H locs k n _ (F0 m pc ls (.int x :: .int i :: vr a :: stm st))
  rw [g2]
  refine W.bast X.1 X.2.1 g3 ((K.2 1 (dA 1, .byte) rfl).1 _ _) (fun q => by cases q) (by rw [arrV_size]; exact hin) rfl rfl hd fun H' e1 e2 e3 => ?_
  refine h.2 hf D dA cs A p l e s m args below meth c ls H' _ X hl (HP_putI (nz_of hH g1 (by omega)) hH e2 e3 ?_) (hS.put e2 e3 g4)
  rw [celP_byte (σ := pI σ a (ix i) x.toInt8.toInt32) g1, e1, arrV_store]
  show some (arrV _ (Sln σ a) _) = some (arrV _ (Sln σ a) _)
  congr 2
  funext y
  show updV _ _ _ y = .int (up2 _ a _ _ a y)
  rw [up2_at]
  unfold updV
  by_cases hy : y = i.toNatClampNeg
  · simp only [hy, if_true, ix]; rfl
  · simp only [hy, if_false, ix]
    rfl
theorem V_ast_long {a : Nat} {i : Int32} {x : Int64} {kf : Sto → Rs α} (q : Nat) (hq : pc + 1 = q) (hd : decode M.2.1 pc = .ok (.lastore, 1)) (h : ∀ σ' : Sto, V M d mc ms k n tv (kf σ') q lv st (b && cA σ a 23 i) σ') : V M d mc ms k n tv (lt_ (pL σ a (ix i) x) kf) pc lv (vL x :: vI i :: vR a :: st) b σ := by
  subst hq
  have h := h (pL σ a (ix i) x)
  refine ⟨fun hf => and_l (h.1 hf), fun hf D dA cs A p l e s m args below meth c ls H locs X hl hH hS => ?_⟩
  have hc := and_r (h.1 hf)
  have hin := inb_in (and_r hc)
  obtain ⟨g1, g2, g3, g4⟩ := HP_at hH (and_l hc : cK σ a 23 = true) (by omega) (by omega)
  rw [celP_long g1] at g3
  have K := X.2.2.2.2.2.2.2.2.1.1
  show W p l e (Rm d mc ms) s m args below meth c H locs k n _ (F0 m pc ls (.long x :: .int i :: vr a :: stm st))
  rw [g2]
  refine W.last X.1 X.2.1 g3 ((K.2 2 (dA 2, .long) rfl).1 _ _) (fun q => by cases q) (by rw [arrV_size]; exact hin) rfl rfl hd fun H' e1 e2 e3 => ?_
  refine h.2 hf D dA cs A p l e s m args below meth c ls H' _ X hl (HP_putL (nz_of hH g1 (by omega)) hH e2 e3 ?_) (hS.put e2 e3 g4)
  rw [celP_long (σ := pL σ a (ix i) x) g1, e1, arrV_store]
  show some (arrV _ (Sln σ a) _) = some (arrV _ (Sln σ a) _)
  congr 2
  funext y
  show updV _ _ _ y = .long (up2 _ a _ _ a y)
  rw [up2_at]
  unfold updV
  by_cases hy : y = i.toNatClampNeg
  · simp only [hy, if_true, ix]
  · simp only [hy, if_false, ix]
    rfl
theorem V_ast_bool {a : Nat} {i : Int32} {x : Int32} {kf : Sto → Rs α} (q : Nat) (hq : pc + 1 = q) (hd : decode M.2.1 pc = .ok (.bastore, 1)) (h : ∀ σ' : Sto, V M d mc ms k n tv (kf σ') q lv st (b && cA σ a 24 i) σ') : V M d mc ms k n tv (lt_ (pI σ a (ix i) (x &&& 1)) kf) pc lv (vI x :: vI i :: vR a :: st) b σ := by
  subst hq
  have h := h (pI σ a (ix i) (x &&& 1))
  refine ⟨fun hf => and_l (h.1 hf), fun hf D dA cs A p l e s m args below meth c ls H locs X hl hH hS => ?_⟩
  have hc := and_r (h.1 hf)
  have hin := inb_in (and_r hc)
  obtain ⟨g1, g2, g3, g4⟩ := HP_at hH (and_l hc : cK σ a 24 = true) (by omega) (by omega)
  rw [celP_bool g1] at g3
  have K := X.2.2.2.2.2.2.2.2.1.1
  show W p l e (Rm d mc ms) s m args below meth c H locs k n _ (F0 m pc ls (.int x :: .int i :: vr a :: stm st))
  rw [g2]
  refine W.zast X.1 X.2.1 g3 ((K.2 3 (dA 3, .boolean) rfl).1 _ _) (fun q => by cases q) (by rw [arrV_size]; exact hin) rfl rfl hd fun H' e1 e2 e3 => ?_
  refine h.2 hf D dA cs A p l e s m args below meth c ls H' _ X hl (HP_putI (nz_of hH g1 (by omega)) hH e2 e3 ?_) (hS.put e2 e3 g4)
  rw [celP_bool (σ := pI σ a (ix i) (x &&& 1)) g1, e1, arrV_store]
  show some (arrV _ (Sln σ a) _) = some (arrV _ (Sln σ a) _)
  congr 2
  funext y
  show updV _ _ _ y = .int (up2 _ a _ _ a y)
  rw [up2_at]
  unfold updV
  by_cases hy : y = i.toNatClampNeg
  · simp only [hy, if_true, ix]; rfl
  · simp only [hy, if_false, ix]
    rfl
theorem V_ast_r25 {a x : Nat} {i : Int32} {kf : Sto → Rs α} (q : Nat) (hq : pc + 1 = q) (hd : decode M.2.1 pc = .ok (.aastore, 1)) (h : ∀ σ' : Sto, V M d mc ms k n tv (kf σ') q lv st (b && (cA σ a 25 i && (decide (x = 0) || cK σ x 9))) σ') : V M d mc ms k n tv (lt_ (pR σ a (ix i) x) kf) pc lv (vR x :: vI i :: vR a :: st) b σ := by
  subst hq
  have h := h (pR σ a (ix i) x)
  refine ⟨fun hf => and_l (h.1 hf), fun hf D dA cs A p l e s m args below meth c ls H locs X hl hH hS => ?_⟩
  have hc := and_l (and_r (h.1 hf))
  have hx := and_r (and_r (h.1 hf))
  have hin := inb_in (and_r hc)
  have hlt : i.toNatClampNeg < Sln σ a := Nat.not_le.mp fun q => hin (Or.inr q)
  obtain ⟨g1, g2, g3, g4⟩ := HP_at hH (and_l hc : cK σ a 25 = true) (by omega) (by omega)
  rw [celP_r25 g1] at g3
  have K := X.2.2.2.2.2.2.2.2.1.1
  have fin : ∀ (H' : Heap) (w : Value), vr x = w → H'[a - 1]? = some ((arrV (dA 4) (Sln σ a) (fun j => vr (SR σ a j))).setSlot i.toNatClampNeg w) → H'.size = H.size → (∀ q, q ≠ a - 1 → H'[q]? = H[q]?) → HP D dA cs (pR σ a (ix i) x) A H' := by
    intro H' w hw e1 e2 e3
    refine HP_putR (nz_of hH g1 (by omega)) hH e2 e3 ?_
    rw [celP_r25 (σ := pR σ a (ix i) x) g1, e1, arrV_store]
    show some (arrV _ (Sln σ a) _) = some (arrV _ (Sln σ a) _)
    congr 2
    funext y
    show updV _ _ _ y = vr (up2 _ a _ _ a y)
    rw [up2_at]
    unfold updV
    by_cases hy : y = i.toNatClampNeg
    · simp only [hy, if_true, ix, hw]
    · simp only [hy, if_false, ix]
      rfl
  by_cases h0 : x = 0
  · have hv : vr x = .null := by simp only [vr, h0, if_true]
    show W p l e (Rm d mc ms) s m args below meth c H locs k n _ (F0 m pc ls (vr x :: .int i :: vr a :: stm st))
    rw [g2, hv]
    exact va_WaastN (C := "LongTrail$Text") X.1 X.2.1 g3 ((K.2 4 (dA 4, .object "LongTrail$Text") rfl).1 _ _) (fun h => by cases h) (by rw [arrV_size]; exact hin) rfl rfl hd fun H' e1 e2 e3 => h.2 hf D dA cs A p l e s m args below meth c ls H' _ X hl (fin H' _ hv e1 e2 e3) (hS.put e2 e3 g4)
  · have hx : cK σ x 9 = true := by simpa [h0] using hx
    obtain ⟨f1, f2, f3, f4⟩ := HP_at hH hx (by omega) (by omega)
    rw [celP_obj (ci := 8) f1 (by omega)] at f3
    obtain ⟨cv, q1, q2, q3, q4⟩ := f3
    have hcls := (K.1 8 _ rfl).2
    obtain ⟨kA, comp, k1, k2, k3, -⟩ := (K.2 4 (dA 4, .object "LongTrail$Text") rfl).2
    have hcomp : comp = D.1 8 := Option.some.inj (k3.symm.trans hcls.1)
    subst hcomp
    obtain ⟨kC, hkC, -⟩ := id hcls.2
    show W p l e (Rm d mc ms) s m args below meth c H locs k n _ (F0 m pc ls (vr x :: .int i :: vr a :: stm st))
    rw [g2, f2]
    exact W.aast X.1 X.2.1 g3 (fun q h => by cases h) (fun h => by cases h) k1 k2 rfl hkC ⟨fun q => hin (Or.inl q), by rw [arrV_size]; exact hlt⟩ q1 (fun q h => by rw [q3] at h; cases h) (by rw [q2]; exact hkC) (by rw [q2]; exact va_assign hcls) rfl rfl hd fun H' e1 e2 e3 => h.2 hf D dA cs A p l e s m args below meth c ls H' _ X hl (fin H' _ f2 e1 e2 e3) (hS.put e2 e3 g4)
theorem V_ast_r26 {a x : Nat} {i : Int32} {kf : Sto → Rs α} (q : Nat) (hq : pc + 1 = q) (hd : decode M.2.1 pc = .ok (.aastore, 1)) (h : ∀ σ' : Sto, V M d mc ms k n tv (kf σ') q lv st (b && (cA σ a 26 i && (decide (x = 0) || cK σ x 10))) σ') : V M d mc ms k n tv (lt_ (pR σ a (ix i) x) kf) pc lv (vR x :: vI i :: vR a :: st) b σ := by
  subst hq
  have h := h (pR σ a (ix i) x)
  refine ⟨fun hf => and_l (h.1 hf), fun hf D dA cs A p l e s m args below meth c ls H locs X hl hH hS => ?_⟩
  have hc := and_l (and_r (h.1 hf))
  have hx := and_r (and_r (h.1 hf))
  have hin := inb_in (and_r hc)
  have hlt : i.toNatClampNeg < Sln σ a := Nat.not_le.mp fun q => hin (Or.inr q)
  obtain ⟨g1, g2, g3, g4⟩ := HP_at hH (and_l hc : cK σ a 26 = true) (by omega) (by omega)
  rw [celP_r26 g1] at g3
  have K := X.2.2.2.2.2.2.2.2.1.1
  have fin : ∀ (H' : Heap) (w : Value), vr x = w → H'[a - 1]? = some ((arrV (dA 5) (Sln σ a) (fun j => vr (SR σ a j))).setSlot i.toNatClampNeg w) → H'.size = H.size → (∀ q, q ≠ a - 1 → H'[q]? = H[q]?) → HP D dA cs (pR σ a (ix i) x) A H' := by
    intro H' w hw e1 e2 e3
    refine HP_putR (nz_of hH g1 (by omega)) hH e2 e3 ?_
    rw [celP_r26 (σ := pR σ a (ix i) x) g1, e1, arrV_store]
    show some (arrV _ (Sln σ a) _) = some (arrV _ (Sln σ a) _)
    congr 2
    funext y
    show updV _ _ _ y = vr (up2 _ a _ _ a y)
    rw [up2_at]
    unfold updV
    by_cases hy : y = i.toNatClampNeg
    · simp only [hy, if_true, ix, hw]
    · simp only [hy, if_false, ix]
      rfl
  by_cases h0 : x = 0
  · have hv : vr x = .null := by simp only [vr, h0, if_true]
    show W p l e (Rm d mc ms) s m args below meth c H locs k n _ (F0 m pc ls (vr x :: .int i :: vr a :: stm st))
    rw [g2, hv]
    exact va_WaastN (C := "LongTrail$Walker") X.1 X.2.1 g3 ((K.2 5 (dA 5, .object "LongTrail$Walker") rfl).1 _ _) (fun h => by cases h) (by rw [arrV_size]; exact hin) rfl rfl hd fun H' e1 e2 e3 => h.2 hf D dA cs A p l e s m args below meth c ls H' _ X hl (fin H' _ hv e1 e2 e3) (hS.put e2 e3 g4)
  · have hx : cK σ x 10 = true := by simpa [h0] using hx
    obtain ⟨f1, f2, f3, f4⟩ := HP_at hH hx (by omega) (by omega)
    rw [celP_obj (ci := 9) f1 (by omega)] at f3
    obtain ⟨cv, q1, q2, q3, q4⟩ := f3
    have hcls := (K.1 9 _ rfl).2
    obtain ⟨kA, comp, k1, k2, k3, -⟩ := (K.2 5 (dA 5, .object "LongTrail$Walker") rfl).2
    have hcomp : comp = D.1 9 := Option.some.inj (k3.symm.trans hcls.1)
    subst hcomp
    obtain ⟨kC, hkC, -⟩ := id hcls.2
    show W p l e (Rm d mc ms) s m args below meth c H locs k n _ (F0 m pc ls (vr x :: .int i :: vr a :: stm st))
    rw [g2, f2]
    exact W.aast X.1 X.2.1 g3 (fun q h => by cases h) (fun h => by cases h) k1 k2 rfl hkC ⟨fun q => hin (Or.inl q), by rw [arrV_size]; exact hlt⟩ q1 (fun q h => by rw [q3] at h; cases h) (by rw [q2]; exact hkC) (by rw [q2]; exact va_assign hcls) rfl rfl hd fun H' e1 e2 e3 => h.2 hf D dA cs A p l e s m args below meth c ls H' _ X hl (fin H' _ f2 e1 e2 e3) (hS.put e2 e3 g4)
theorem V_ast_r27 {a x : Nat} {i : Int32} {kf : Sto → Rs α} (q : Nat) (hq : pc + 1 = q) (hd : decode M.2.1 pc = .ok (.aastore, 1)) (h : ∀ σ' : Sto, V M d mc ms k n tv (kf σ') q lv st (b && (cA σ a 27 i && (decide (x = 0) || cK σ x 6))) σ') : V M d mc ms k n tv (lt_ (pR σ a (ix i) x) kf) pc lv (vR x :: vI i :: vR a :: st) b σ := by
  subst hq
  have h := h (pR σ a (ix i) x)
  refine ⟨fun hf => and_l (h.1 hf), fun hf D dA cs A p l e s m args below meth c ls H locs X hl hH hS => ?_⟩
  have hc := and_l (and_r (h.1 hf))
  have hx := and_r (and_r (h.1 hf))
  have hin := inb_in (and_r hc)
  have hlt : i.toNatClampNeg < Sln σ a := Nat.not_le.mp fun q => hin (Or.inr q)
  obtain ⟨g1, g2, g3, g4⟩ := HP_at hH (and_l hc : cK σ a 27 = true) (by omega) (by omega)
  rw [celP_r27 g1] at g3
  have K := X.2.2.2.2.2.2.2.2.1.1
  have fin : ∀ (H' : Heap) (w : Value), vr x = w → H'[a - 1]? = some ((arrV (dA 6) (Sln σ a) (fun j => vr (SR σ a j))).setSlot i.toNatClampNeg w) → H'.size = H.size → (∀ q, q ≠ a - 1 → H'[q]? = H[q]?) → HP D dA cs (pR σ a (ix i) x) A H' := by
    intro H' w hw e1 e2 e3
    refine HP_putR (nz_of hH g1 (by omega)) hH e2 e3 ?_
    rw [celP_r27 (σ := pR σ a (ix i) x) g1, e1, arrV_store]
    show some (arrV _ (Sln σ a) _) = some (arrV _ (Sln σ a) _)
    congr 2
    funext y
    show updV _ _ _ y = vr (up2 _ a _ _ a y)
    rw [up2_at]
    unfold updV
    by_cases hy : y = i.toNatClampNeg
    · simp only [hy, if_true, ix, hw]
    · simp only [hy, if_false, ix]
      rfl
  by_cases h0 : x = 0
  · have hv : vr x = .null := by simp only [vr, h0, if_true]
    show W p l e (Rm d mc ms) s m args below meth c H locs k n _ (F0 m pc ls (vr x :: .int i :: vr a :: stm st))
    rw [g2, hv]
    exact va_WaastN (C := "LongTrail$Sheet") X.1 X.2.1 g3 ((K.2 6 (dA 6, .object "LongTrail$Sheet") rfl).1 _ _) (fun h => by cases h) (by rw [arrV_size]; exact hin) rfl rfl hd fun H' e1 e2 e3 => h.2 hf D dA cs A p l e s m args below meth c ls H' _ X hl (fin H' _ hv e1 e2 e3) (hS.put e2 e3 g4)
  · have hx : cK σ x 6 = true := by simpa [h0] using hx
    obtain ⟨f1, f2, f3, f4⟩ := HP_at hH hx (by omega) (by omega)
    rw [celP_obj (ci := 5) f1 (by omega)] at f3
    obtain ⟨cv, q1, q2, q3, q4⟩ := f3
    have hcls := (K.1 5 _ rfl).2
    obtain ⟨kA, comp, k1, k2, k3, -⟩ := (K.2 6 (dA 6, .object "LongTrail$Sheet") rfl).2
    have hcomp : comp = D.1 5 := Option.some.inj (k3.symm.trans hcls.1)
    subst hcomp
    obtain ⟨kC, hkC, -⟩ := id hcls.2
    show W p l e (Rm d mc ms) s m args below meth c H locs k n _ (F0 m pc ls (vr x :: .int i :: vr a :: stm st))
    rw [g2, f2]
    exact W.aast X.1 X.2.1 g3 (fun q h => by cases h) (fun h => by cases h) k1 k2 rfl hkC ⟨fun q => hin (Or.inl q), by rw [arrV_size]; exact hlt⟩ q1 (fun q h => by rw [q3] at h; cases h) (by rw [q2]; exact hkC) (by rw [q2]; exact va_assign hcls) rfl rfl hd fun H' e1 e2 e3 => h.2 hf D dA cs A p l e s m args below meth c ls H' _ X hl (fin H' _ f2 e1 e2 e3) (hS.put e2 e3 g4)
theorem V_alen_int {a : Nat} (q : Nat) (hq : pc + 1 = q) (hd : decode M.2.1 pc = .ok (.arraylength, 1)) (h : V M d mc ms k n tv F q lv (vI (Int32.ofNat (Sln σ a)) :: st) (b && cK σ a 21) σ) : V M d mc ms k n tv F pc lv (vR a :: st) b σ := by
  subst hq
  refine ⟨fun hf => and_l (h.1 hf), fun hf D dA cs A p l e s m args below meth c ls H locs X hl hH hS => ?_⟩
  obtain ⟨g1, g2, g3, g4⟩ := HP_at hH (and_r (h.1 hf)) (by omega) (by omega)
  rw [celP_int g1] at g3
  have K := X.2.2.2.2.2.2.2.2.1.1
  show W p l e (Rm d mc ms) s m args below meth c H locs k n _ (F0 m pc ls (vr a :: stm st))
  rw [g2]
  exact W.alen (n := Int32.ofNat (Sln σ a)) X.1 X.2.1 g3 ((K.2 0 (dA 0, .int) rfl).1 _ _) (by rw [arrV_size] <;> rfl) rfl rfl hd (h.2 hf D dA cs A p l e s m args below meth c ls H locs X hl hH hS)
theorem V_alen_byte {a : Nat} (q : Nat) (hq : pc + 1 = q) (hd : decode M.2.1 pc = .ok (.arraylength, 1)) (h : V M d mc ms k n tv F q lv (vI (Int32.ofNat (Sln σ a)) :: st) (b && cK σ a 22) σ) : V M d mc ms k n tv F pc lv (vR a :: st) b σ := by
  subst hq
  refine ⟨fun hf => and_l (h.1 hf), fun hf D dA cs A p l e s m args below meth c ls H locs X hl hH hS => ?_⟩
  obtain ⟨g1, g2, g3, g4⟩ := HP_at hH (and_r (h.1 hf)) (by omega) (by omega)
  rw [celP_byte g1] at g3
  have K := X.2.2.2.2.2.2.2.2.1.1
  show W p l e (Rm d mc ms) s m args below meth c H locs k n _ (F0 m pc ls (vr a :: stm st))
  rw [g2]
  exact W.alen (n := Int32.ofNat (Sln σ a)) X.1 X.2.1 g3 ((K.2 1 (dA 1, .byte) rfl).1 _ _) (by rw [arrV_size] <;> rfl) rfl rfl hd (h.2 hf D dA cs A p l e s m args below meth c ls H locs X hl hH hS)
theorem V_alen_long {a : Nat} (q : Nat) (hq : pc + 1 = q) (hd : decode M.2.1 pc = .ok (.arraylength, 1)) (h : V M d mc ms k n tv F q lv (vI (Int32.ofNat (Sln σ a)) :: st) (b && cK σ a 23) σ) : V M d mc ms k n tv F pc lv (vR a :: st) b σ := by
  subst hq
  refine ⟨fun hf => and_l (h.1 hf), fun hf D dA cs A p l e s m args below meth c ls H locs X hl hH hS => ?_⟩
  obtain ⟨g1, g2, g3, g4⟩ := HP_at hH (and_r (h.1 hf)) (by omega) (by omega)
  rw [celP_long g1] at g3
  have K := X.2.2.2.2.2.2.2.2.1.1
  show W p l e (Rm d mc ms) s m args below meth c H locs k n _ (F0 m pc ls (vr a :: stm st))
  rw [g2]
  exact W.alen (n := Int32.ofNat (Sln σ a)) X.1 X.2.1 g3 ((K.2 2 (dA 2, .long) rfl).1 _ _) (by rw [arrV_size] <;> rfl) rfl rfl hd (h.2 hf D dA cs A p l e s m args below meth c ls H locs X hl hH hS)
theorem V_alen_bool {a : Nat} (q : Nat) (hq : pc + 1 = q) (hd : decode M.2.1 pc = .ok (.arraylength, 1)) (h : V M d mc ms k n tv F q lv (vI (Int32.ofNat (Sln σ a)) :: st) (b && cK σ a 24) σ) : V M d mc ms k n tv F pc lv (vR a :: st) b σ := by
  subst hq
  refine ⟨fun hf => and_l (h.1 hf), fun hf D dA cs A p l e s m args below meth c ls H locs X hl hH hS => ?_⟩
  obtain ⟨g1, g2, g3, g4⟩ := HP_at hH (and_r (h.1 hf)) (by omega) (by omega)
  rw [celP_bool g1] at g3
  have K := X.2.2.2.2.2.2.2.2.1.1
  show W p l e (Rm d mc ms) s m args below meth c H locs k n _ (F0 m pc ls (vr a :: stm st))
  rw [g2]
  exact W.alen (n := Int32.ofNat (Sln σ a)) X.1 X.2.1 g3 ((K.2 3 (dA 3, .boolean) rfl).1 _ _) (by rw [arrV_size] <;> rfl) rfl rfl hd (h.2 hf D dA cs A p l e s m args below meth c ls H locs X hl hH hS)
theorem V_alen_r25 {a : Nat} (q : Nat) (hq : pc + 1 = q) (hd : decode M.2.1 pc = .ok (.arraylength, 1)) (h : V M d mc ms k n tv F q lv (vI (Int32.ofNat (Sln σ a)) :: st) (b && cK σ a 25) σ) : V M d mc ms k n tv F pc lv (vR a :: st) b σ := by
  subst hq
  refine ⟨fun hf => and_l (h.1 hf), fun hf D dA cs A p l e s m args below meth c ls H locs X hl hH hS => ?_⟩
  obtain ⟨g1, g2, g3, g4⟩ := HP_at hH (and_r (h.1 hf)) (by omega) (by omega)
  rw [celP_r25 g1] at g3
  have K := X.2.2.2.2.2.2.2.2.1.1
  show W p l e (Rm d mc ms) s m args below meth c H locs k n _ (F0 m pc ls (vr a :: stm st))
  rw [g2]
  exact W.alen (n := Int32.ofNat (Sln σ a)) X.1 X.2.1 g3 ((K.2 4 (dA 4, .object "LongTrail$Text") rfl).1 _ _) (by rw [arrV_size] <;> rfl) rfl rfl hd (h.2 hf D dA cs A p l e s m args below meth c ls H locs X hl hH hS)
theorem V_alen_r26 {a : Nat} (q : Nat) (hq : pc + 1 = q) (hd : decode M.2.1 pc = .ok (.arraylength, 1)) (h : V M d mc ms k n tv F q lv (vI (Int32.ofNat (Sln σ a)) :: st) (b && cK σ a 26) σ) : V M d mc ms k n tv F pc lv (vR a :: st) b σ := by
  subst hq
  refine ⟨fun hf => and_l (h.1 hf), fun hf D dA cs A p l e s m args below meth c ls H locs X hl hH hS => ?_⟩
  obtain ⟨g1, g2, g3, g4⟩ := HP_at hH (and_r (h.1 hf)) (by omega) (by omega)
  rw [celP_r26 g1] at g3
  have K := X.2.2.2.2.2.2.2.2.1.1
  show W p l e (Rm d mc ms) s m args below meth c H locs k n _ (F0 m pc ls (vr a :: stm st))
  rw [g2]
  exact W.alen (n := Int32.ofNat (Sln σ a)) X.1 X.2.1 g3 ((K.2 5 (dA 5, .object "LongTrail$Walker") rfl).1 _ _) (by rw [arrV_size] <;> rfl) rfl rfl hd (h.2 hf D dA cs A p l e s m args below meth c ls H locs X hl hH hS)
theorem V_alen_r27 {a : Nat} (q : Nat) (hq : pc + 1 = q) (hd : decode M.2.1 pc = .ok (.arraylength, 1)) (h : V M d mc ms k n tv F q lv (vI (Int32.ofNat (Sln σ a)) :: st) (b && cK σ a 27) σ) : V M d mc ms k n tv F pc lv (vR a :: st) b σ := by
  subst hq
  refine ⟨fun hf => and_l (h.1 hf), fun hf D dA cs A p l e s m args below meth c ls H locs X hl hH hS => ?_⟩
  obtain ⟨g1, g2, g3, g4⟩ := HP_at hH (and_r (h.1 hf)) (by omega) (by omega)
  rw [celP_r27 g1] at g3
  have K := X.2.2.2.2.2.2.2.2.1.1
  show W p l e (Rm d mc ms) s m args below meth c H locs k n _ (F0 m pc ls (vr a :: stm st))
  rw [g2]
  exact W.alen (n := Int32.ofNat (Sln σ a)) X.1 X.2.1 g3 ((K.2 6 (dA 6, .object "LongTrail$Sheet") rfl).1 _ _) (by rw [arrV_size] <;> rfl) rfl rfl hd (h.2 hf D dA cs A p l e s m args below meth c ls H locs X hl hH hS)
theorem nC_tk {kd len : Nat} : Stk (nC σ kd len) (Shn σ) = kd := up1_at (f := σ.2.1) (a := σ.1)
theorem nC_ln {kd len : Nat} : Sln (nC σ kd len) (Shn σ) = len := up1_at (f := σ.2.2.1) (a := σ.1)
theorem nC_I {kd len : Nat} : SI (nC σ kd len) (Shn σ) = fun _ => 0 := up1_at (f := σ.2.2.2.1) (a := σ.1)
theorem nC_L {kd len : Nat} : SL (nC σ kd len) (Shn σ) = fun _ => 0 := up1_at (f := σ.2.2.2.2.1) (a := σ.1)
theorem nC_R {kd len : Nat} : SR (nC σ kd len) (Shn σ) = fun _ => 0 := up1_at (f := σ.2.2.2.2.2.1) (a := σ.1)
/-- a new cell -/
theorem HP_new {D : va_G} {dA : Nat → ClassId} {cs : Nat → Nat} {A : Nat → Prop} {H H1 : Heap} {kd len : Nat} (hH : HP D dA cs σ A H) (hA : A H.size) (hsz : H1.size = H.size + 1) (ho : ∀ q : Nat, q < H.size → H1[q]? = H[q]?) (hc : celP D dA (nC σ kd len) (Shn σ) H1) : HP D dA cs (nC σ kd len) A H1 := by
  obtain ⟨e0, e1, e2, e3, e4⟩ := hH
  have hne : ∀ x, x ≠ Shn σ → Stk (nC σ kd len) x = Stk σ x := fun x hx => up1_ne hx
  refine ⟨by rw [hsz]; show H.size + 1 + 1 = Shn σ + 1; omega, by rw [hne 0 (by omega)]; exact e1, by show 1 ≤ Shn σ + 1; omega, e3, fun x hx => ?_⟩
  by_cases hxa : x = Shn σ
  · rw [hxa]; exact ⟨hc, by rw [← e0, Nat.add_sub_cancel]; exact hA⟩
  · have hx' : inS σ x := by unfold inS at hx ⊢; rw [hne x hxa] at hx; exact hx
    obtain ⟨f1, f2⟩ := e4 x hx'
    have hlt : x - 1 < H.size := by
      rcases Nat.lt_or_ge (x - 1) H.size with z | z
      · exact z
      · exfalso
        have hno : H[x - 1]? = none := Array.getElem?_eq_none z
        unfold celP at f1
        split at f1 <;> first | (rw [hno] at f1; cases f1) | (obtain ⟨cell, q1, -⟩ := f1; rw [hno] at q1; cases q1)
    exact ⟨celP_kept f1 (ho (x - 1) hlt) (hne x hxa) (up1_ne hxa) (up1_ne hxa) (up1_ne hxa) (up1_ne hxa), f2⟩
theorem va_S.grow {A : Nat → Prop} {H0 H H1 : Heap} {locs : List Loc} (h : va_S A H0 H locs) (hsz : H1.size = H.size + 1) (ho : ∀ q : Nat, q < H.size → H1[q]? = H[q]?) : va_S A H0 H1 locs :=
  ⟨by rw [hsz]; exact Nat.le_succ_of_le h.1, fun q h1 h2 => (ho q (Nat.lt_of_lt_of_le h1 h.1)).trans (h.2.1 q h1 h2), h.2.2⟩
theorem V_newa_int {x : Int32} {kf : Sto → Rs α} (q B : Nat) (hq : pc + 2 = q) (hd : decode M.2.1 pc = .ok (.newarray .int, 2)) (hw : Cond.arrayClass (newarray.typeOf .int) ∈ gwl) (hB : B ≤ 4096) (hmc : k + 1 ≤ mc) (hms : n + B ≤ ms) (h : ∀ σ' : Sto, V M d mc ms (k + 1) (n + B) tv (kf σ') q lv (vR (Shn σ) :: st) (b && (!decide (x < 0) && decide (ix x ≤ B))) σ') : V M d mc ms k n tv (lt_ (nC σ 21 (ix x)) kf) pc lv (vI x :: st) b σ := by
  subst hq
  have h := h (nC σ 21 (ix x))
  refine ⟨fun hf => and_l (h.1 hf), fun hf D dA cs A p l e s m args below meth c ls H locs X hl hH hS => ?_⟩
  have hx0 : ¬ x < 0 := by simpa using and_l (and_r (h.1 hf))
  have hxB : ix x ≤ B := by simpa using and_r (and_r (h.1 hf))
  have K := X.2.2.2.2.2.2.2.2.1.1
  have hts := X.2.2.2.2.2.2.2.1
  refine va_newaK X.1 X.2.1 (atype := .int) (N := ix x) (hts _ hw) rfl hd rfl hx0 rfl (Nat.le_trans (Nat.mul_le_mul (Nat.le_trans hxB hB) (show componentBytes (newarray.typeOf .int) ≤ 8 by decide)) (by decide)) hmc (Nat.le_trans (Nat.add_le_add_left hxB n) hms) rfl fun H' cA e1 e2 e3 e4 e5 => ?_
  have hcA : cA = dA 0 := by
    have z := (K.2 0 (dA 0, .int) rfl).2
    exact Option.some.inj (e5.symm.trans z)
  subst hcA
  refine W.widen (k := k + 1) (n := n + B) (Nat.le_refl _) (Nat.add_le_add_left hxB n) ?_
  have hv : vr (Shn σ) = .ref H.size := by rw [vr_ne (by have := hH.2.2.1; omega), ← hH.1, Nat.add_sub_cancel]
  have hW := h.2 hf D dA cs A p l e s m args below meth c ls H' locs X hl (HP_new hH (X.2.2.2.2.2.2.2.2.2 _ hS.1) e2 e3 ?_) (hS.grow e2 e3)
  · have hW2 : W p l e (Rm d mc ms) s m args below meth c H' locs _ _ _ (F0 m _ ls (vr (Shn σ) :: stm st)) := hW
    rw [hv] at hW2
    exact hW2
  · rw [celP_int (σ := nC σ 21 (ix x)) nC_tk, show Shn σ - 1 = H.size by rw [← hH.1, Nat.add_sub_cancel], e1]
    rw [nC_ln, show SI (nC σ 21 (ix x)) (Shn σ) = fun _ => 0 from nC_I]
    rfl
theorem V_newa_byte {x : Int32} {kf : Sto → Rs α} (q B : Nat) (hq : pc + 2 = q) (hd : decode M.2.1 pc = .ok (.newarray .byte, 2)) (hw : Cond.arrayClass (newarray.typeOf .byte) ∈ gwl) (hB : B ≤ 4096) (hmc : k + 1 ≤ mc) (hms : n + B ≤ ms) (h : ∀ σ' : Sto, V M d mc ms (k + 1) (n + B) tv (kf σ') q lv (vR (Shn σ) :: st) (b && (!decide (x < 0) && decide (ix x ≤ B))) σ') : V M d mc ms k n tv (lt_ (nC σ 22 (ix x)) kf) pc lv (vI x :: st) b σ := by
  subst hq
  have h := h (nC σ 22 (ix x))
  refine ⟨fun hf => and_l (h.1 hf), fun hf D dA cs A p l e s m args below meth c ls H locs X hl hH hS => ?_⟩
  have hx0 : ¬ x < 0 := by simpa using and_l (and_r (h.1 hf))
  have hxB : ix x ≤ B := by simpa using and_r (and_r (h.1 hf))
  have K := X.2.2.2.2.2.2.2.2.1.1
  have hts := X.2.2.2.2.2.2.2.1
  refine va_newaK X.1 X.2.1 (atype := .byte) (N := ix x) (hts _ hw) rfl hd rfl hx0 rfl (Nat.le_trans (Nat.mul_le_mul (Nat.le_trans hxB hB) (show componentBytes (newarray.typeOf .byte) ≤ 8 by decide)) (by decide)) hmc (Nat.le_trans (Nat.add_le_add_left hxB n) hms) rfl fun H' cA e1 e2 e3 e4 e5 => ?_
  have hcA : cA = dA 1 := by
    have z := (K.2 1 (dA 1, .byte) rfl).2
    exact Option.some.inj (e5.symm.trans z)
  subst hcA
  refine W.widen (k := k + 1) (n := n + B) (Nat.le_refl _) (Nat.add_le_add_left hxB n) ?_
  have hv : vr (Shn σ) = .ref H.size := by rw [vr_ne (by have := hH.2.2.1; omega), ← hH.1, Nat.add_sub_cancel]
  have hW := h.2 hf D dA cs A p l e s m args below meth c ls H' locs X hl (HP_new hH (X.2.2.2.2.2.2.2.2.2 _ hS.1) e2 e3 ?_) (hS.grow e2 e3)
  · have hW2 : W p l e (Rm d mc ms) s m args below meth c H' locs _ _ _ (F0 m _ ls (vr (Shn σ) :: stm st)) := hW
    rw [hv] at hW2
    exact hW2
  · rw [celP_byte (σ := nC σ 22 (ix x)) nC_tk, show Shn σ - 1 = H.size by rw [← hH.1, Nat.add_sub_cancel], e1]
    rw [nC_ln, show SI (nC σ 22 (ix x)) (Shn σ) = fun _ => 0 from nC_I]
    rfl
theorem V_newa_long {x : Int32} {kf : Sto → Rs α} (q B : Nat) (hq : pc + 2 = q) (hd : decode M.2.1 pc = .ok (.newarray .long, 2)) (hw : Cond.arrayClass (newarray.typeOf .long) ∈ gwl) (hB : B ≤ 4096) (hmc : k + 1 ≤ mc) (hms : n + B ≤ ms) (h : ∀ σ' : Sto, V M d mc ms (k + 1) (n + B) tv (kf σ') q lv (vR (Shn σ) :: st) (b && (!decide (x < 0) && decide (ix x ≤ B))) σ') : V M d mc ms k n tv (lt_ (nC σ 23 (ix x)) kf) pc lv (vI x :: st) b σ := by
  subst hq
  have h := h (nC σ 23 (ix x))
  refine ⟨fun hf => and_l (h.1 hf), fun hf D dA cs A p l e s m args below meth c ls H locs X hl hH hS => ?_⟩
  have hx0 : ¬ x < 0 := by simpa using and_l (and_r (h.1 hf))
  have hxB : ix x ≤ B := by simpa using and_r (and_r (h.1 hf))
  have K := X.2.2.2.2.2.2.2.2.1.1
  have hts := X.2.2.2.2.2.2.2.1
  refine va_newaK X.1 X.2.1 (atype := .long) (N := ix x) (hts _ hw) rfl hd rfl hx0 rfl (Nat.le_trans (Nat.mul_le_mul (Nat.le_trans hxB hB) (show componentBytes (newarray.typeOf .long) ≤ 8 by decide)) (by decide)) hmc (Nat.le_trans (Nat.add_le_add_left hxB n) hms) rfl fun H' cA e1 e2 e3 e4 e5 => ?_
  have hcA : cA = dA 2 := by
    have z := (K.2 2 (dA 2, .long) rfl).2
    exact Option.some.inj (e5.symm.trans z)
  subst hcA
  refine W.widen (k := k + 1) (n := n + B) (Nat.le_refl _) (Nat.add_le_add_left hxB n) ?_
  have hv : vr (Shn σ) = .ref H.size := by rw [vr_ne (by have := hH.2.2.1; omega), ← hH.1, Nat.add_sub_cancel]
  have hW := h.2 hf D dA cs A p l e s m args below meth c ls H' locs X hl (HP_new hH (X.2.2.2.2.2.2.2.2.2 _ hS.1) e2 e3 ?_) (hS.grow e2 e3)
  · have hW2 : W p l e (Rm d mc ms) s m args below meth c H' locs _ _ _ (F0 m _ ls (vr (Shn σ) :: stm st)) := hW
    rw [hv] at hW2
    exact hW2
  · rw [celP_long (σ := nC σ 23 (ix x)) nC_tk, show Shn σ - 1 = H.size by rw [← hH.1, Nat.add_sub_cancel], e1]
    rw [nC_ln, show SL (nC σ 23 (ix x)) (Shn σ) = fun _ => 0 from nC_L]
    rfl
theorem V_newa_bool {x : Int32} {kf : Sto → Rs α} (q B : Nat) (hq : pc + 2 = q) (hd : decode M.2.1 pc = .ok (.newarray .boolean, 2)) (hw : Cond.arrayClass (newarray.typeOf .boolean) ∈ gwl) (hB : B ≤ 4096) (hmc : k + 1 ≤ mc) (hms : n + B ≤ ms) (h : ∀ σ' : Sto, V M d mc ms (k + 1) (n + B) tv (kf σ') q lv (vR (Shn σ) :: st) (b && (!decide (x < 0) && decide (ix x ≤ B))) σ') : V M d mc ms k n tv (lt_ (nC σ 24 (ix x)) kf) pc lv (vI x :: st) b σ := by
  subst hq
  have h := h (nC σ 24 (ix x))
  refine ⟨fun hf => and_l (h.1 hf), fun hf D dA cs A p l e s m args below meth c ls H locs X hl hH hS => ?_⟩
  have hx0 : ¬ x < 0 := by simpa using and_l (and_r (h.1 hf))
  have hxB : ix x ≤ B := by simpa using and_r (and_r (h.1 hf))
  have K := X.2.2.2.2.2.2.2.2.1.1
  have hts := X.2.2.2.2.2.2.2.1
  refine va_newaK X.1 X.2.1 (atype := .boolean) (N := ix x) (hts _ hw) rfl hd rfl hx0 rfl (Nat.le_trans (Nat.mul_le_mul (Nat.le_trans hxB hB) (show componentBytes (newarray.typeOf .boolean) ≤ 8 by decide)) (by decide)) hmc (Nat.le_trans (Nat.add_le_add_left hxB n) hms) rfl fun H' cA e1 e2 e3 e4 e5 => ?_
  have hcA : cA = dA 3 := by
    have z := (K.2 3 (dA 3, .boolean) rfl).2
    exact Option.some.inj (e5.symm.trans z)
  subst hcA
  refine W.widen (k := k + 1) (n := n + B) (Nat.le_refl _) (Nat.add_le_add_left hxB n) ?_
  have hv : vr (Shn σ) = .ref H.size := by rw [vr_ne (by have := hH.2.2.1; omega), ← hH.1, Nat.add_sub_cancel]
  have hW := h.2 hf D dA cs A p l e s m args below meth c ls H' locs X hl (HP_new hH (X.2.2.2.2.2.2.2.2.2 _ hS.1) e2 e3 ?_) (hS.grow e2 e3)
  · have hW2 : W p l e (Rm d mc ms) s m args below meth c H' locs _ _ _ (F0 m _ ls (vr (Shn σ) :: stm st)) := hW
    rw [hv] at hW2
    exact hW2
  · rw [celP_bool (σ := nC σ 24 (ix x)) nC_tk, show Shn σ - 1 = H.size by rw [← hH.1, Nat.add_sub_cancel], e1]
    rw [nC_ln, show SI (nC σ 24 (ix x)) (Shn σ) = fun _ => 0 from nC_I]
    rfl
theorem V_newa_r25 {x : Int32} {i : Nat} {kf : Sto → Rs α} (q B : Nat) (hq : pc + 3 = q) (hd : decode M.2.1 pc = .ok (.anewarray i, 3)) (hw : Cond.classLink M.1.cls i "LongTrail$Text" ∈ gwl) (hB : B ≤ 4096) (hmc : k + 1 ≤ mc) (hms : n + B ≤ ms) (h : ∀ σ' : Sto, V M d mc ms (k + 1) (n + B) tv (kf σ') q lv (vR (Shn σ) :: st) (b && (!decide (x < 0) && decide (ix x ≤ B))) σ') : V M d mc ms k n tv (lt_ (nC σ 25 (ix x)) kf) pc lv (vI x :: st) b σ := by
  subst hq
  have h := h (nC σ 25 (ix x))
  refine ⟨fun hf => and_l (h.1 hf), fun hf D dA cs A p l e s m args below meth c ls H locs X hl hH hS => ?_⟩
  have hx0 : ¬ x < 0 := by simpa using and_l (and_r (h.1 hf))
  have hxB : ix x ≤ B := by simpa using and_r (and_r (h.1 hf))
  have K := X.2.2.2.2.2.2.2.2.1.1
  have hts := X.2.2.2.2.2.2.2.1
  refine W.anew X.1 X.2.1 (C := "LongTrail$Text") X.2.2.2.2.2.2.1 (hts _ hw) (va_AO.use X.2.2.2.2.2.2.2.2.1.2.2.1.1) rfl hd rfl hx0 (Nat.le_trans (Nat.mul_le_mul (Nat.le_trans hxB hB) (Nat.le_refl 4)) (by decide)) hmc (Nat.le_trans (Nat.add_le_add_left hxB n) hms) fun cA kA comp f1 f2 f3 f4 => ?_
  have hcA : cA = dA 4 := by
    obtain ⟨_, _, -, -, -, z⟩ := (K.2 4 (dA 4, .object "LongTrail$Text") rfl).2
    exact Option.some.inj (f1.symm.trans z)
  subst hcA
  generalize hH1 : H.push ({ cls := dA 4, slots := Array.replicate x.toNatClampNeg .null, vm := .none } : Cell) = H'
  have e2 : H'.size = H.size + 1 := by rw [← hH1, Array.size_push]
  have e1 : H'[H.size]? = some (arrV (dA 4) x.toNatClampNeg (fun _ => .null)) := by rw [← hH1, Array.getElem?_push_size, ← arrV_new]
  have e3 : ∀ q, q < H.size → H'[q]? = H[q]? := fun q hq => by rw [← hH1, Array.getElem?_push, if_neg (Nat.ne_of_lt hq)]
  refine W.widen (k := k + 1) (n := n + B) (Nat.le_refl _) (Nat.add_le_add_left hxB n) ?_
  have hv : vr (Shn σ) = .ref H.size := by rw [vr_ne (by have := hH.2.2.1; omega), ← hH.1, Nat.add_sub_cancel]
  have hW := h.2 hf D dA cs A p l e s m args below meth c ls H' locs X hl (HP_new hH (X.2.2.2.2.2.2.2.2.2 _ hS.1) e2 e3 ?_) (hS.grow e2 e3)
  · have hW2 : W p l e (Rm d mc ms) s m args below meth c H' locs _ _ _ (F0 m _ ls (vr (Shn σ) :: stm st)) := hW
    rw [hv] at hW2
    exact hW2
  · rw [celP_r25 (σ := nC σ 25 (ix x)) nC_tk, show Shn σ - 1 = H.size by rw [← hH.1, Nat.add_sub_cancel], e1]
    rw [nC_ln, nC_R]
    rfl
theorem V_newa_r26 {x : Int32} {i : Nat} {kf : Sto → Rs α} (q B : Nat) (hq : pc + 3 = q) (hd : decode M.2.1 pc = .ok (.anewarray i, 3)) (hw : Cond.classLink M.1.cls i "LongTrail$Walker" ∈ gwl) (hB : B ≤ 4096) (hmc : k + 1 ≤ mc) (hms : n + B ≤ ms) (h : ∀ σ' : Sto, V M d mc ms (k + 1) (n + B) tv (kf σ') q lv (vR (Shn σ) :: st) (b && (!decide (x < 0) && decide (ix x ≤ B))) σ') : V M d mc ms k n tv (lt_ (nC σ 26 (ix x)) kf) pc lv (vI x :: st) b σ := by
  subst hq
  have h := h (nC σ 26 (ix x))
  refine ⟨fun hf => and_l (h.1 hf), fun hf D dA cs A p l e s m args below meth c ls H locs X hl hH hS => ?_⟩
  have hx0 : ¬ x < 0 := by simpa using and_l (and_r (h.1 hf))
  have hxB : ix x ≤ B := by simpa using and_r (and_r (h.1 hf))
  have K := X.2.2.2.2.2.2.2.2.1.1
  have hts := X.2.2.2.2.2.2.2.1
  refine W.anew X.1 X.2.1 (C := "LongTrail$Walker") X.2.2.2.2.2.2.1 (hts _ hw) (va_AO.use X.2.2.2.2.2.2.2.2.1.2.2.1.2.1) rfl hd rfl hx0 (Nat.le_trans (Nat.mul_le_mul (Nat.le_trans hxB hB) (Nat.le_refl 4)) (by decide)) hmc (Nat.le_trans (Nat.add_le_add_left hxB n) hms) fun cA kA comp f1 f2 f3 f4 => ?_
  have hcA : cA = dA 5 := by
    obtain ⟨_, _, -, -, -, z⟩ := (K.2 5 (dA 5, .object "LongTrail$Walker") rfl).2
    exact Option.some.inj (f1.symm.trans z)
  subst hcA
  generalize hH1 : H.push ({ cls := dA 5, slots := Array.replicate x.toNatClampNeg .null, vm := .none } : Cell) = H'
  have e2 : H'.size = H.size + 1 := by rw [← hH1, Array.size_push]
  have e1 : H'[H.size]? = some (arrV (dA 5) x.toNatClampNeg (fun _ => .null)) := by rw [← hH1, Array.getElem?_push_size, ← arrV_new]
  have e3 : ∀ q, q < H.size → H'[q]? = H[q]? := fun q hq => by rw [← hH1, Array.getElem?_push, if_neg (Nat.ne_of_lt hq)]
  refine W.widen (k := k + 1) (n := n + B) (Nat.le_refl _) (Nat.add_le_add_left hxB n) ?_
  have hv : vr (Shn σ) = .ref H.size := by rw [vr_ne (by have := hH.2.2.1; omega), ← hH.1, Nat.add_sub_cancel]
  have hW := h.2 hf D dA cs A p l e s m args below meth c ls H' locs X hl (HP_new hH (X.2.2.2.2.2.2.2.2.2 _ hS.1) e2 e3 ?_) (hS.grow e2 e3)
  · have hW2 : W p l e (Rm d mc ms) s m args below meth c H' locs _ _ _ (F0 m _ ls (vr (Shn σ) :: stm st)) := hW
    rw [hv] at hW2
    exact hW2
  · rw [celP_r26 (σ := nC σ 26 (ix x)) nC_tk, show Shn σ - 1 = H.size by rw [← hH.1, Nat.add_sub_cancel], e1]
    rw [nC_ln, nC_R]
    rfl
theorem V_newa_r27 {x : Int32} {i : Nat} {kf : Sto → Rs α} (q B : Nat) (hq : pc + 3 = q) (hd : decode M.2.1 pc = .ok (.anewarray i, 3)) (hw : Cond.classLink M.1.cls i "LongTrail$Sheet" ∈ gwl) (hB : B ≤ 4096) (hmc : k + 1 ≤ mc) (hms : n + B ≤ ms) (h : ∀ σ' : Sto, V M d mc ms (k + 1) (n + B) tv (kf σ') q lv (vR (Shn σ) :: st) (b && (!decide (x < 0) && decide (ix x ≤ B))) σ') : V M d mc ms k n tv (lt_ (nC σ 27 (ix x)) kf) pc lv (vI x :: st) b σ := by
  subst hq
  have h := h (nC σ 27 (ix x))
  refine ⟨fun hf => and_l (h.1 hf), fun hf D dA cs A p l e s m args below meth c ls H locs X hl hH hS => ?_⟩
  have hx0 : ¬ x < 0 := by simpa using and_l (and_r (h.1 hf))
  have hxB : ix x ≤ B := by simpa using and_r (and_r (h.1 hf))
  have K := X.2.2.2.2.2.2.2.2.1.1
  have hts := X.2.2.2.2.2.2.2.1
  refine W.anew X.1 X.2.1 (C := "LongTrail$Sheet") X.2.2.2.2.2.2.1 (hts _ hw) (va_AO.use X.2.2.2.2.2.2.2.2.1.2.2.1.2.2) rfl hd rfl hx0 (Nat.le_trans (Nat.mul_le_mul (Nat.le_trans hxB hB) (Nat.le_refl 4)) (by decide)) hmc (Nat.le_trans (Nat.add_le_add_left hxB n) hms) fun cA kA comp f1 f2 f3 f4 => ?_
  have hcA : cA = dA 6 := by
    obtain ⟨_, _, -, -, -, z⟩ := (K.2 6 (dA 6, .object "LongTrail$Sheet") rfl).2
    exact Option.some.inj (f1.symm.trans z)
  subst hcA
  generalize hH1 : H.push ({ cls := dA 6, slots := Array.replicate x.toNatClampNeg .null, vm := .none } : Cell) = H'
  have e2 : H'.size = H.size + 1 := by rw [← hH1, Array.size_push]
  have e1 : H'[H.size]? = some (arrV (dA 6) x.toNatClampNeg (fun _ => .null)) := by rw [← hH1, Array.getElem?_push_size, ← arrV_new]
  have e3 : ∀ q, q < H.size → H'[q]? = H[q]? := fun q hq => by rw [← hH1, Array.getElem?_push, if_neg (Nat.ne_of_lt hq)]
  refine W.widen (k := k + 1) (n := n + B) (Nat.le_refl _) (Nat.add_le_add_left hxB n) ?_
  have hv : vr (Shn σ) = .ref H.size := by rw [vr_ne (by have := hH.2.2.1; omega), ← hH.1, Nat.add_sub_cancel]
  have hW := h.2 hf D dA cs A p l e s m args below meth c ls H' locs X hl (HP_new hH (X.2.2.2.2.2.2.2.2.2 _ hS.1) e2 e3 ?_) (hS.grow e2 e3)
  · have hW2 : W p l e (Rm d mc ms) s m args below meth c H' locs _ _ _ (F0 m _ ls (vr (Shn σ) :: stm st)) := hW
    rw [hv] at hW2
    exact hW2
  · rw [celP_r27 (σ := nC σ 27 (ix x)) nC_tk, show Shn σ - 1 = H.size by rw [← hH.1, Nat.add_sub_cancel], e1]
    rw [nC_ln, nC_R]
    rfl
theorem V_new {ci i N : Nat} {C : String} {T : u_T} {kf : Sto → Rs α} (q : Nat) (hq : pc + 3 = q) (hC : cOK ci C T N) (hci : ci < 20) (hdef : ∀ j, j < N → fv (nC σ (ci + 1) 0) (Shn σ) j (clY ci j) = defaultValue (clY ci j)) (hd : decode M.2.1 pc = .ok (.new i, 3)) (hw : Cond.classLink M.1.cls i C ∈ gwl) (hw2 : Cond.instantiable C N ∈ gwl) (hw3 : Cond.initialized C ∈ gwl) (hmc : k + 1 ≤ mc) (hms : n + N ≤ ms) (h : ∀ σ' : Sto, V M d mc ms (k + 1) (n + N) tv (kf σ') q lv (vR (Shn σ) :: st) b σ') : V M d mc ms k n tv (lt_ (nC σ (ci + 1) 0) kf) pc lv st b σ := by
  subst hq
  have h := h (nC σ (ci + 1) 0)
  refine ⟨h.1, fun hf D dA cs A p l e s m args below meth c ls H locs X hl hH hS => ?_⟩
  have K := X.2.2.2.2.2.2.2.2.1.1
  have hts := X.2.2.2.2.2.2.2.1
  have hKn := K.1 ci _ hC.1
  refine W.newcK X.1 X.2.1 X.2.2.2.2.2.2.1 (hts _ hw) (hts _ hw2) (hts _ hw3) rfl hd hmc hms hKn.2.1 rfl fun H' kC hkC e1 e2 e3 => ?_
  have hv : vr (Shn σ) = .ref H.size := by rw [vr_ne (by have := hH.2.2.1; omega), ← hH.1, Nat.add_sub_cancel]
  have hW := h.2 hf D dA cs A p l e s m args below meth c ls H' locs X hl (HP_new hH (X.2.2.2.2.2.2.2.2.2 _ hS.1) e2 e3 ?_) (hS.grow e2 e3)
  · have hW2 : W p l e (Rm d mc ms) s m args below meth c H' locs _ _ _ (F0 m _ ls (vr (Shn σ) :: stm st)) := hW
    rw [hv] at hW2
    exact hW2
  · rw [celP_obj (σ := nC σ (ci + 1) 0) nC_tk hci, hC.2.1, show Shn σ - 1 = H.size by rw [← hH.1, Nat.add_sub_cancel]]
    exact (u_born (clY ci) hts hC.2.2.1 hKn hkC e1 hC.2.2.2.1).to (fun j hj => (hdef j hj).symm)
theorem nC_def {ci j : Nat} (t : FieldType) (ht : defaultValue t = (match t with | .long => .long 0 | .object _ => .null | .array _ => .null | _ => .int 0)) : fv (nC σ (ci + 1) 0) (Shn σ) j t = defaultValue t := by
  rw [ht]
  have a1 : SI (nC σ (ci + 1) 0) (Shn σ) j = 0 := by rw [nC_I]
  have a2 : SL (nC σ (ci + 1) 0) (Shn σ) j = 0 := by rw [nC_L]
  have a3 : SR (nC σ (ci + 1) 0) (Shn σ) j = 0 := by rw [nC_R]
  unfold fv
  rw [a1, a2, a3]
  cases t <;> rfl
end VA
