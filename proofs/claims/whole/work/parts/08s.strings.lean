/-! rows of V: the String constants -/
def sidx (σ : Sto) (a : Nat) : Nat := if a = Scs σ 1 then 0 else if a = Scs σ 2 then 1 else if a = Scs σ 3 then 2 else if a = Scs σ 4 then 3 else if a = Scs σ 5 then 4 else 5
def vidx (σ : Sto) (a : Nat) : Nat := if a = Scs σ 6 then 0 else if a = Scs σ 7 then 1 else if a = Scs σ 8 then 2 else if a = Scs σ 9 then 3 else if a = Scs σ 10 then 4 else 5
def sval (σ : Sto) (a : Nat) : Nat := Scs σ (6 + sidx σ a)
def sok (σ : Sto) (a : Nat) : Bool := !decide (a = 0) && (decide (sidx σ a < 5) && !decide (sval σ a = 0))
def sokv (σ : Sto) (a : Nat) : Bool := !decide (a = 0) && decide (vidx σ a < 5)
def slen_ (σ : Sto) (a : Nat) : Nat := slen.getD (vidx σ a) 0
def sbyt_ (σ : Sto) (a j : Nat) : Int32 := (sbyt.getD (vidx σ a) []).getD j 0
theorem sidx_at {σ : Sto} {a : Nat} (h : sidx σ a < 5) : Scs σ (1 + sidx σ a) = a := by
  unfold sidx at h ⊢
  split; · rename_i e; exact e.symm
  split; · rename_i e; exact e.symm
  split; · rename_i e; exact e.symm
  split; · rename_i e; exact e.symm
  split; · rename_i e; exact e.symm
  rename_i e1 e2 e3 e4 e5
  simp [e1, e2, e3, e4, e5] at h
theorem vidx_at {σ : Sto} {a : Nat} (h : vidx σ a < 5) : Scs σ (6 + vidx σ a) = a := by
  unfold vidx at h ⊢
  split; · rename_i e; exact e.symm
  split; · rename_i e; exact e.symm
  split; · rename_i e; exact e.symm
  split; · rename_i e; exact e.symm
  split; · rename_i e; exact e.symm
  rename_i e1 e2 e3 e4 e5
  simp [e1, e2, e3, e4, e5] at h
def cok (x : Int32) : Bool := decide (narrow .char (.int x) = .int x)
def bok (x : Int32) : Bool := decide (narrow .byte (.int x) = .int x)
section VST
variable {α : Type} {M : MD} {d mc ms k n : Nat} {tv : α → Option LV} {F F1 F2 : Rs α} {pc : Nat} {lv : List (Nat × LV)} {st : List LV} {b : Bool} {σ : Sto}
theorem V_cretc {x : Int32} (hr : M.2.2.2 = some .char) (hk : k ≤ mc) (hn : n ≤ ms) (hd : decode M.2.1 pc = .ok (.ireturn, 1)) : V M d mc ms k n tI (x, (b && cok x), σ) pc lv [vI x] b σ := by
  refine ⟨fun h => and_l h, fun hf D dA cs A p l e s m args below meth c ls H locs C hl hH hS => ?_⟩
  refine W.widen (k := mc) (n := ms) hk hn ?_
  exact W.zret C.1 C.2.1 (C.2.2.1.trans hr) (by simpa [cok] using and_r hf) (fun t ht hW => ⟨⟨rfl, by rw [ht]; exact hH⟩, hS.F ht⟩) hS.2.2 hd C.2.2.2.2.1
theorem V_bretc {x : Int32} (hr : M.2.2.2 = some .byte) (hk : k ≤ mc) (hn : n ≤ ms) (hd : decode M.2.1 pc = .ok (.ireturn, 1)) : V M d mc ms k n tI (x, (b && bok x), σ) pc lv [vI x] b σ := by
  refine ⟨fun h => and_l h, fun hf D dA cs A p l e s m args below meth c ls H locs C hl hH hS => ?_⟩
  refine W.widen (k := mc) (n := ms) hk hn ?_
  exact W.zret C.1 C.2.1 (C.2.2.1.trans hr) (by simpa [bok] using and_r hf) (fun t ht hW => ⟨⟨rfl, by rw [ht]; exact hH⟩, hS.F ht⟩) hS.2.2 hd C.2.2.2.2.1
theorem sok_i {a : Nat} (h : sok σ a = true) : a ≠ 0 ∧ sidx σ a < 5 ∧ sval σ a ≠ 0 := by
  unfold sok at h
  exact ⟨by simpa using and_l h, by simpa using and_l (and_r h), by simpa using and_r (and_r h)⟩
theorem sokv_i {a : Nat} (h : sokv σ a = true) : a ≠ 0 ∧ vidx σ a < 5 := by
  unfold sokv at h
  exact ⟨by simpa using and_l h, by simpa using and_r h⟩
theorem V_sval {a i : Nat} (q : Nat) (hq : pc + 3 = q) (hd : decode M.2.1 pc = .ok (.getfield i, 3)) (hw : Cond.fieldLink M.1.cls i "java/lang/String" "value" "[B" ∈ gwl)
    (h : V M d mc ms k n tv F q lv (vR (sval σ a) :: st) (b && sok σ a) σ) : V M d mc ms k n tv F pc lv (vR a :: st) b σ := by
  subst hq
  refine ⟨fun hf => and_l (h.1 hf), fun hf D dA cs A p l e s m args below meth c ls H locs X hl' hH hS => ?_⟩
  obtain ⟨h0, hi, hv⟩ := sok_i (and_r (h.1 hf))
  have hts := X.2.2.2.2.2.2.2.1
  have R := X.2.2.2.2.2.2.2.2.1.2.2.2.1
  have hE := (R.2.2.1.1 (sidx σ a) hi).2.2.1
  have ea : cs (1 + sidx σ a) = a := by rw [← hH.2.2.2.1]; exact sidx_at hi
  have ev : cs (6 + sidx σ a) = sval σ a := by rw [← hH.2.2.2.1]; rfl
  simp only [ea, ev] at hE
  have hW := h.2 hf D dA cs A p l e s m args below meth c ls H locs X hl' hH hS
  have hW2 : W p l e (Rm d mc ms) s m args below meth c H locs k n _ (F0 m (pc + 3) ls (vr (sval σ a) :: stm st)) := hW
  rw [vr_ne hv] at hW2
  show W p l e (Rm d mc ms) s m args below meth c H locs k n _ (F0 m pc ls (vr a :: stm st))
  rw [vr_ne h0]
  exact vk_getf X.1 X.2.1 hE hS X.2.2.2.2.2.2.1 (hts _ hw) (fun _ h => h) hd hW2
theorem V_scod {a i : Nat} (q : Nat) (hq : pc + 3 = q) (hd : decode M.2.1 pc = .ok (.getfield i, 3)) (hw : Cond.fieldLink M.1.cls i "java/lang/String" "coder" "B" ∈ gwl)
    (h : V M d mc ms k n tv F q lv (vI 0 :: st) (b && sok σ a) σ) : V M d mc ms k n tv F pc lv (vR a :: st) b σ := by
  subst hq
  refine ⟨fun hf => and_l (h.1 hf), fun hf D dA cs A p l e s m args below meth c ls H locs X hl' hH hS => ?_⟩
  obtain ⟨h0, hi, hv⟩ := sok_i (and_r (h.1 hf))
  have hts := X.2.2.2.2.2.2.2.1
  have R := X.2.2.2.2.2.2.2.2.1.2.2.2.1
  have hE := (R.2.2.1.1 (sidx σ a) hi).2.1
  have ea : cs (1 + sidx σ a) = a := by rw [← hH.2.2.2.1]; exact sidx_at hi
  simp only [ea] at hE
  show W p l e (Rm d mc ms) s m args below meth c H locs k n _ (F0 m pc ls (vr a :: stm st))
  rw [vr_ne h0]
  exact vk_getf X.1 X.2.1 hE hS X.2.2.2.2.2.2.1 (hts _ hw) (fun _ h => h) hd (h.2 hf D dA cs A p l e s m args below meth c ls H locs X hl' hH hS)
theorem V_slen {a : Nat} (q : Nat) (hq : pc + 1 = q) (hd : decode M.2.1 pc = .ok (.arraylength, 1))
    (h : V M d mc ms k n tv F q lv (vI (Int32.ofNat (slen_ σ a)) :: st) (b && sokv σ a) σ) : V M d mc ms k n tv F pc lv (vR a :: st) b σ := by
  subst hq
  refine ⟨fun hf => and_l (h.1 hf), fun hf D dA cs A p l e s m args below meth c ls H locs X hl' hH hS => ?_⟩
  obtain ⟨h0, hi⟩ := sokv_i (and_r (h.1 hf))
  have R := X.2.2.2.2.2.2.2.2.1.2.2.2.1
  have hE := (R.2.2.1.1 (vidx σ a) hi).2.2.2
  have ea : cs (6 + vidx σ a) = a := by rw [← hH.2.2.2.1]; exact vidx_at hi
  simp only [ea] at hE
  show W p l e (Rm d mc ms) s m args below meth c H locs k n _ (F0 m pc ls (vr a :: stm st))
  rw [vr_ne h0]
  exact va_tlen X.1 X.2.1 hE hS rfl hd (h.2 hf D dA cs A p l e s m args below meth c ls H locs X hl' hH hS)
theorem V_sbyt {a : Nat} {x : Int32} (q : Nat) (hq : pc + 1 = q) (hd : decode M.2.1 pc = .ok (.baload, 1))
    (h : V M d mc ms k n tv F q lv (vI (sbyt_ σ a (ix x)) :: st) (b && (sokv σ a && inb x (slen_ σ a))) σ) : V M d mc ms k n tv F pc lv (vI x :: vR a :: st) b σ := by
  subst hq
  refine ⟨fun hf => and_l (h.1 hf), fun hf D dA cs A p l e s m args below meth c ls H locs X hl' hH hS => ?_⟩
  obtain ⟨h0, hi⟩ := sokv_i (and_l (and_r (h.1 hf)))
  have hin := inb_in (and_r (and_r (h.1 hf)))
  have R := X.2.2.2.2.2.2.2.2.1.2.2.2.1
  have hE := (R.2.2.1.1 (vidx σ a) hi).2.2.2
  have ea : cs (6 + vidx σ a) = a := by rw [← hH.2.2.2.1]; exact vidx_at hi
  simp only [ea] at hE
  show W p l e (Rm d mc ms) s m args below meth c H locs k n _ (F0 m pc ls (.int x :: vr a :: stm st))
  rw [vr_ne h0]
  exact va_tb X.1 X.2.1 hE hS hin rfl hd (h.2 hf D dA cs A p l e s m args below meth c ls H locs X hl' hH hS)
theorem V_csG {i : Nat} (q : Nat) (hq : pc + 3 = q) (hd : decode M.2.1 pc = .ok (.getstatic i, 3)) (hw : Cond.fieldLink M.1.cls i "java/lang/String" "COMPACT_STRINGS" "Z" ∈ gwl)
    (h : V M d mc ms k n tv F q lv (vI 1 :: st) b σ) : V M d mc ms k n tv F pc lv st b σ := by
  subst hq
  refine ⟨h.1, fun hf D dA cs A p l e s m args below meth c ls H locs X hl' hH hS => ?_⟩
  exact va_gets X.1 X.2.1 X.2.2.2.2.2.2.2.2.1.2.2.2.1.2.2.2.1 hS X.2.2.2.2.2.2.1 (X.2.2.2.2.2.2.2.1 _ hw) (fun _ h => h) hd (h.2 hf D dA cs A p l e s m args below meth c ls H locs X hl' hH hS)
theorem V_sfG {i : Nat} (q : Nat) (hq : pc + 3 = q) (hd : decode M.2.1 pc = .ok (.getstatic i, 3)) (hw : Cond.fieldLink M.1.cls i "jdk/internal/util/Preconditions" "SIOOBE_FORMATTER" "Ljava/util/function/BiFunction;" ∈ gwl)
    (h : V M d mc ms k n tv F q lv (vR (Scs σ 11) :: st) b σ) : V M d mc ms k n tv F pc lv st b σ := by
  subst hq
  refine ⟨h.1, fun hf D dA cs A p l e s m args below meth c ls H locs X hl' hH hS => ?_⟩
  have hW := h.2 hf D dA cs A p l e s m args below meth c ls H locs X hl' hH hS
  have hW2 : W p l e (Rm d mc ms) s m args below meth c H locs k n _ (F0 m (pc + 3) ls (vr (Scs σ 11) :: stm st)) := hW
  rw [hH.2.2.2.1] at hW2
  exact va_gets X.1 X.2.1 X.2.2.2.2.2.2.2.2.1.2.2.2.1.2.2.2.2 hS X.2.2.2.2.2.2.1 (X.2.2.2.2.2.2.2.1 _ hw) (fun _ h => h) hd hW2
theorem V_ldcS1 (q : Nat) (hq : pc + 2 = q) (hM : M.1.cls = "LongTrail$Tape") (hd : decode M.2.1 pc = .ok (.ldc 95, 2))
    (h : V M d mc ms k n tv F q lv (vR (Scs σ 1) :: st) (b && !decide (Scs σ 1 = 0)) σ) : V M d mc ms k n tv F pc lv st b σ := by
  subst hq
  refine ⟨fun hf => and_l (h.1 hf), fun hf D dA cs A p l e s m args below meth c ls H locs X hl' hH hS => ?_⟩
  have h0 : Scs σ 1 ≠ 0 := by simpa using and_r (h.1 hf)
  have hW := h.2 hf D dA cs A p l e s m args below meth c ls H locs X hl' hH hS
  have hW2 : W p l e (Rm d mc ms) s m args below meth c H locs k n _ (F0 m (pc + 2) ls (vr (Scs σ 1) :: stm st)) := hW
  rw [vr_ne h0, hH.2.2.2.1] at hW2
  exact va_ldcS X.1 X.2.1 (by rw [← hM]; exact X.2.2.2.2.2.2.1) X.2.2.2.2.2.2.2.2.1.2.2.2.2.1 hd hW2
theorem V_ldcS2 (q : Nat) (hq : pc + 2 = q) (hM : M.1.cls = "LongTrail$Tape") (hd : decode M.2.1 pc = .ok (.ldc 128, 2))
    (h : V M d mc ms k n tv F q lv (vR (Scs σ 2) :: st) (b && !decide (Scs σ 2 = 0)) σ) : V M d mc ms k n tv F pc lv st b σ := by
  subst hq
  refine ⟨fun hf => and_l (h.1 hf), fun hf D dA cs A p l e s m args below meth c ls H locs X hl' hH hS => ?_⟩
  have h0 : Scs σ 2 ≠ 0 := by simpa using and_r (h.1 hf)
  have hW := h.2 hf D dA cs A p l e s m args below meth c ls H locs X hl' hH hS
  have hW2 : W p l e (Rm d mc ms) s m args below meth c H locs k n _ (F0 m (pc + 2) ls (vr (Scs σ 2) :: stm st)) := hW
  rw [vr_ne h0, hH.2.2.2.1] at hW2
  exact va_ldcS X.1 X.2.1 (by rw [← hM]; exact X.2.2.2.2.2.2.1) X.2.2.2.2.2.2.2.2.1.2.2.2.2.2.1 hd hW2
theorem V_ldcS3 (q : Nat) (hq : pc + 2 = q) (hM : M.1.cls = "LongTrail$Tape") (hd : decode M.2.1 pc = .ok (.ldc 130, 2))
    (h : V M d mc ms k n tv F q lv (vR (Scs σ 3) :: st) (b && !decide (Scs σ 3 = 0)) σ) : V M d mc ms k n tv F pc lv st b σ := by
  subst hq
  refine ⟨fun hf => and_l (h.1 hf), fun hf D dA cs A p l e s m args below meth c ls H locs X hl' hH hS => ?_⟩
  have h0 : Scs σ 3 ≠ 0 := by simpa using and_r (h.1 hf)
  have hW := h.2 hf D dA cs A p l e s m args below meth c ls H locs X hl' hH hS
  have hW2 : W p l e (Rm d mc ms) s m args below meth c H locs k n _ (F0 m (pc + 2) ls (vr (Scs σ 3) :: stm st)) := hW
  rw [vr_ne h0, hH.2.2.2.1] at hW2
  exact va_ldcS X.1 X.2.1 (by rw [← hM]; exact X.2.2.2.2.2.2.1) X.2.2.2.2.2.2.2.2.1.2.2.2.2.2.2.1 hd hW2
theorem V_ldcS4 (q : Nat) (hq : pc + 2 = q) (hM : M.1.cls = "LongTrail$Tape") (hd : decode M.2.1 pc = .ok (.ldc 132, 2))
    (h : V M d mc ms k n tv F q lv (vR (Scs σ 4) :: st) (b && !decide (Scs σ 4 = 0)) σ) : V M d mc ms k n tv F pc lv st b σ := by
  subst hq
  refine ⟨fun hf => and_l (h.1 hf), fun hf D dA cs A p l e s m args below meth c ls H locs X hl' hH hS => ?_⟩
  have h0 : Scs σ 4 ≠ 0 := by simpa using and_r (h.1 hf)
  have hW := h.2 hf D dA cs A p l e s m args below meth c ls H locs X hl' hH hS
  have hW2 : W p l e (Rm d mc ms) s m args below meth c H locs k n _ (F0 m (pc + 2) ls (vr (Scs σ 4) :: stm st)) := hW
  rw [vr_ne h0, hH.2.2.2.1] at hW2
  exact va_ldcS X.1 X.2.1 (by rw [← hM]; exact X.2.2.2.2.2.2.1) X.2.2.2.2.2.2.2.2.1.2.2.2.2.2.2.2.1 hd hW2
theorem V_ldcS5 (q : Nat) (hq : pc + 2 = q) (hM : M.1.cls = "LongTrail$Tape") (hd : decode M.2.1 pc = .ok (.ldc 134, 2))
    (h : V M d mc ms k n tv F q lv (vR (Scs σ 5) :: st) (b && !decide (Scs σ 5 = 0)) σ) : V M d mc ms k n tv F pc lv st b σ := by
  subst hq
  refine ⟨fun hf => and_l (h.1 hf), fun hf D dA cs A p l e s m args below meth c ls H locs X hl' hH hS => ?_⟩
  have h0 : Scs σ 5 ≠ 0 := by simpa using and_r (h.1 hf)
  have hW := h.2 hf D dA cs A p l e s m args below meth c ls H locs X hl' hH hS
  have hW2 : W p l e (Rm d mc ms) s m args below meth c H locs k n _ (F0 m (pc + 2) ls (vr (Scs σ 5) :: stm st)) := hW
  rw [vr_ne h0, hH.2.2.2.1] at hW2
  exact va_ldcS X.1 X.2.1 (by rw [← hM]; exact X.2.2.2.2.2.2.1) X.2.2.2.2.2.2.2.2.1.2.2.2.2.2.2.2.2 hd hW2
section
variable {β : Type} {tb : β → Option LV} {G : Rs β} {kf : β → Bool → Sto → Rs α} {M' : MD} {d' mc' ms' i na : Nat} {as rest : List LV}
theorem V_callX {r0 : Nat} (q : Nat) (hq : pc + 3 = q) (hs : Snd M' d' mc' ms' (vR r0 :: as) (b && sok σ r0) σ (tb G.1) G.2.1 G.2.2) (hst : as.reverse ++ vR r0 :: rest = st) (hn : as.length = na) (hrm : csm rest ≤ 8) (hc : Cal M' d' mc' ms' na d mc ms k n) (hd : decode M.2.1 pc = .ok (.invokevirtual i, 3)) (hl : Cond.methodLink M.1.cls i M'.1 ∈ gwl) (hw : Cond.instanceMethod M'.1 ∈ gwl) (hw2 : Cond.selects "java/lang/String" M'.1 M'.1 ∈ gwl)
    (h : ∀ (r : β) (b' : Bool) (σ' : Sto), V M d mc ms (k + mc') (n + ms') tv (kf r b' σ') q lv ((tb r).toList ++ rest) b' σ') : V M d mc ms k n tv (bd_ G kf) pc lv st b σ := by
  subst hq; subst hst; subst hn
  have h := h G.1 G.2.1 G.2.2
  refine ⟨fun hf => and_l (hs.1 (h.1 hf)), fun hf D dA cs A p l e s m args below meth c ls H locs X hl' hH hS => ?_⟩
  obtain ⟨h0, hi, hv⟩ := sok_i (and_r (hs.1 (h.1 hf)))
  have g2 := vr_ne h0
  have ea : cs (1 + sidx σ r0) = r0 := by rw [← hH.2.2.2.1]; exact sidx_at hi
  have hrc := vk_recv X.2.2.2.2.2.2.2.2.1.2.2.2.1.2.2.1 hi hS
  simp only [ea] at hrc
  have hts := X.2.2.2.2.2.2.2.1
  have hcs : Scs σ = cs := hH.2.2.2.1
  have hM := hs.2 (h.1 hf) l D dA
  have e0 : stm (vR r0 :: as) = .ref (r0 - 1) :: stm as := by show vr r0 :: stm as = _; rw [g2]
  rw [e0] at hM
  rw [hcs] at hM
  have hB := AS_sub X hH hS
  have hlen : (stm as).length = as.length := by simp [stm]
  have hF : FrameBlind (va_Pc (.ref (r0 - 1) :: stm as) (fun U => HP D dA cs σ (AS σ) U.heap ∧ KK D dA cs (AS σ) U)) := fun a U g mk q => ⟨q.1, q.2.1, KK_same (u := U) (U := U.calling g mk a) rfl rfl q.2.2⟩
  refine W_call (σ := σ) (σ' := G.2.2) (rv := (tb G.1).map val) (rest := stm rest) (va_runV (g := (F0 m pc ls (stm (as.reverse ++ vR r0 :: rest)))) (rest := stm rest) (As := stm as) (b := r0 - 1) (C := "java/lang/String") (nL := M.2.2.1) (n := as.length) ⟨X.1, X.2.1, X.2.2.2.1, X.2.2.2.2.2.2.1, hts⟩ hM ⟨callB_of as.length hts (goodO hc.1) rfl rfl rfl (hts _ hc.2.1) (hts _ hl) hc.2.2.1 hc.room, hts _ hw, hts _ hw2⟩ ⟨hF, hrc, fun U hU hW => ⟨rfl, by rw [hU]; exact HP_self hH, KK_call X.2.2.2.2.2.2.2.2.1 hS hB hU hW⟩⟩ rfl hlen hl'.1 (by rw [show (F0 m pc ls (stm (as.reverse ++ vR r0 :: rest))).stack = stm (as.reverse ++ vR r0 :: rest) from rfl, stm_rev]; show _ ++ vr r0 :: stm rest = _; rw [g2]) (csm_room hrm) hd ⟨hc.2.2.2.2.2.1, hc.2.2.2.2.2.2⟩) hS hB (fun H1 locs1 hH1 hS1 => ?_)
  have hW := h.2 hf D dA cs A p l e s m args below meth c ls H1 locs1 X hl' hH1 hS1
  rw [stm_tl] at hW
  exact hW
end
end VST
