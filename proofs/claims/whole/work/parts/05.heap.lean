/-! rows of V: fields, arrays, new cells -/
section VH
variable {α : Type} {M : MD} {d mc ms k n : Nat} {tv : α → Option LV} {F F1 F2 : Rs α} {pc : Nat} {lv : List (Nat × LV)} {st : List LV} {b : Bool} {σ : Sto}
theorem celP_obj {D : va_G} {dA : Nat → ClassId} {H : Heap} {a ci : Nat} (hk : Stk σ a = ci + 1) (hc : ci < 20) : celP D dA σ a H = t_OB (a - 1) (D.1 ci) (clN ci) (D.2 ci) H (fun j => fv σ a j (clY ci j)) := by
  unfold celP
  rw [hk]
  split <;> first | omega | rfl
theorem celP_kept {D : va_G} {dA : Nat → ClassId} {σ' : Sto} {H H1 : Heap} {a : Nat} (h : celP D dA σ a H) (hH : H1[a - 1]? = H[a - 1]?) (h1 : Stk σ' a = Stk σ a) (h2 : Sln σ' a = Sln σ a) (h3 : SI σ' a = SI σ a) (h4 : SL σ' a = SL σ a) (h5 : SR σ' a = SR σ a) : celP D dA σ' a H1 := by
  have e : ∀ j t, fv σ' a j t = fv σ a j t := by
    intro j t
    unfold fv
    rw [h3, h4, h5]
  unfold celP at h ⊢
  rw [h1, h2, h3, h4, h5]
  split <;> rename_i hz <;> simp only [hz] at h
  all_goals first | (rw [hH]; exact h) | skip
  simp only [e]
  exact h.kept hH
/-- a cell has been written -/
theorem HP_write {D : va_G} {dA : Nat → ClassId} {cs : Nat → Nat} {A : Nat → Prop} {σ' : Sto} {H H1 : Heap} {a : Nat} (ha : a ≠ 0) (hH : HP D dA cs σ A H) (hsz : H1.size = H.size) (ho : ∀ q : Nat, q ≠ a - 1 → H1[q]? = H[q]?)
    (h0 : Shn σ' = Shn σ) (h1 : Stk σ' = Stk σ) (h2 : Sln σ' = Sln σ) (h6 : Scs σ' = Scs σ) (h3 : ∀ x, x ≠ a → SI σ' x = SI σ x) (h4 : ∀ x, x ≠ a → SL σ' x = SL σ x) (h5 : ∀ x, x ≠ a → SR σ' x = SR σ x) (hc : celP D dA σ' a H1) : HP D dA cs σ' A H1 := by
  obtain ⟨e0, e1, e2, e3, e4⟩ := hH
  refine ⟨by rw [hsz, h0]; exact e0, by rw [h1]; exact e1, by rw [h0]; exact e2, by rw [h6]; exact e3, fun x hx => ?_⟩
  have hx' : inS σ x := by unfold inS at hx ⊢; rw [h1] at hx; exact hx
  obtain ⟨f1, f2⟩ := e4 x hx'
  refine ⟨?_, f2⟩
  by_cases hxa : x = a
  · rw [hxa]; exact hc
  · have hx0 : x ≠ 0 := fun z => by have z2 := hx'.1; rw [z, e1] at z2; omega
    exact celP_kept f1 (ho (x - 1) (by omega)) (by rw [h1]) (by rw [h2]) (h3 x hxa) (h4 x hxa) (h5 x hxa)
theorem up2_ne {β : Type} {f : Nat → Nat → β} {a j x : Nat} {v : β} (h : x ≠ a) : up2 f a j v x = f x := by funext y; simp [up2, h]
theorem up2_at {β : Type} {f : Nat → Nat → β} {a j y : Nat} {v : β} : up2 f a j v a y = if y = j then v else f a y := by simp [up2]
theorem up1_ne {β : Type} {f : Nat → β} {a x : Nat} {v : β} (h : x ≠ a) : up1 f a v x = f x := by simp [up1, h]
theorem up1_at {β : Type} {f : Nat → β} {a : Nat} {v : β} : up1 f a v a = v := by simp [up1]
theorem HP_putI {D : va_G} {dA : Nat → ClassId} {cs : Nat → Nat} {A : Nat → Prop} {H H1 : Heap} {a j : Nat} {x : Int32} (ha : a ≠ 0) (hH : HP D dA cs σ A H) (hsz : H1.size = H.size) (ho : ∀ q : Nat, q ≠ a - 1 → H1[q]? = H[q]?) (hc : celP D dA (pI σ a j x) a H1) : HP D dA cs (pI σ a j x) A H1 :=
  HP_write ha hH hsz ho rfl rfl rfl rfl (fun _ h => up2_ne h) (fun _ _ => rfl) (fun _ _ => rfl) hc
theorem HP_putL {D : va_G} {dA : Nat → ClassId} {cs : Nat → Nat} {A : Nat → Prop} {H H1 : Heap} {a j : Nat} {x : Int64} (ha : a ≠ 0) (hH : HP D dA cs σ A H) (hsz : H1.size = H.size) (ho : ∀ q : Nat, q ≠ a - 1 → H1[q]? = H[q]?) (hc : celP D dA (pL σ a j x) a H1) : HP D dA cs (pL σ a j x) A H1 :=
  HP_write ha hH hsz ho rfl rfl rfl rfl (fun _ _ => rfl) (fun _ h => up2_ne h) (fun _ _ => rfl) hc
theorem HP_putR {D : va_G} {dA : Nat → ClassId} {cs : Nat → Nat} {A : Nat → Prop} {H H1 : Heap} {a j : Nat} {x : Nat} (ha : a ≠ 0) (hH : HP D dA cs σ A H) (hsz : H1.size = H.size) (ho : ∀ q : Nat, q ≠ a - 1 → H1[q]? = H[q]?) (hc : celP D dA (pR σ a j x) a H1) : HP D dA cs (pR σ a j x) A H1 :=
  HP_write ha hH hsz ho rfl rfl rfl rfl (fun _ _ => rfl) (fun _ _ => rfl) (fun _ h => up2_ne h) hc
theorem fv_pI {a j j' : Nat} {x : Int32} {f : Nat → FieldType} (hy : fv (pI σ a j x) a j (f j) = .int x) : updV (fun j => fv σ a j (f j)) j (.int x) j' = fv (pI σ a j x) a j' (f j') := by
  by_cases h : j' = j
  · subst h; rw [hy]; simp [updV]
  · simp only [updV, h, if_false]
    unfold fv
    split <;> simp [SI, SL, SR, pI, up2, h]
theorem fv_pR {a j j' : Nat} {x : Nat} {f : Nat → FieldType} (hy : fv (pR σ a j x) a j (f j) = vr x) : updV (fun j => fv σ a j (f j)) j (vr x) j' = fv (pR σ a j x) a j' (f j') := by
  by_cases h : j' = j
  · subst h; rw [hy]; simp [updV]
  · simp only [updV, h, if_false]
    unfold fv
    split <;> simp [SI, SL, SR, pR, up2, h]
theorem and_l {x y : Bool} (h : (x && y) = true) : x = true := ((Bool.and_eq_true _ _).mp h).1
theorem and_r {x y : Bool} (h : (x && y) = true) : y = true := ((Bool.and_eq_true _ _).mp h).2
theorem vr_ne {a : Nat} (h : a ≠ 0) : vr a = .ref (a - 1) := by unfold vr; rw [if_neg h]
/-- a checked cell: in the store, not null -/
theorem HP_at {D : va_G} {dA : Nat → ClassId} {cs : Nat → Nat} {A : Nat → Prop} {H : Heap} {a kd : Nat} (hH : HP D dA cs σ A H) (hk : cK σ a kd = true) (h1 : 1 ≤ kd) (h2 : kd < 40) : Stk σ a = kd ∧ vr a = .ref (a - 1) ∧ celP D dA σ a H ∧ A (a - 1) := by
  have h : Stk σ a = kd := by simpa [cK] using hk
  have ha : a ≠ 0 := fun e => by rw [e, hH.2.1] at h; omega
  obtain ⟨p1, p2⟩ := hH.2.2.2.2 a ⟨by omega, by omega⟩
  exact ⟨h, vr_ne ha, p1, p2⟩
theorem nz_of {D : va_G} {dA : Nat → ClassId} {cs : Nat → Nat} {A : Nat → Prop} {H : Heap} {a kd : Nat} (hH : HP D dA cs σ A H) (h : Stk σ a = kd) (h1 : 1 ≤ kd) : a ≠ 0 := fun e => by rw [e, hH.2.1] at h; omega
theorem V_get {a ci j i N : Nat} {C : String} {T : u_T} {v : LV} (q : Nat) (hq : pc + 3 = q) (hC : cOK ci C T N) (hci : ci < 20) (hj : j < N) (hd : decode M.2.1 pc = .ok (.getfield i, 3)) (hw : Cond.fieldLink M.1.cls i (T j).1 (T j).2.1 (T j).2.2.1 ∈ gwl) (hv : fv σ a j (clY ci j) = val v)
    (h : V M d mc ms k n tv F q lv (v :: st) (b && cK σ a (ci + 1)) σ) : V M d mc ms k n tv F pc lv (vR a :: st) b σ := by
  subst hq
  refine ⟨fun hf => and_l (h.1 hf), fun hf D dA cs A p l e s m args below meth c ls H locs X hl hH hS => ?_⟩
  obtain ⟨g1, g2, g3, g4⟩ := HP_at hH (and_r (h.1 hf)) (by omega) (by omega)
  rw [celP_obj g1 hci] at g3
  obtain ⟨cell, q1, q2, q3, q4⟩ := g3
  rw [hC.2.1] at q4
  have K := X.2.2.2.2.2.2.2.2.1.1
  have hts := X.2.2.2.2.2.2.2.1
  obtain ⟨kS, hfc, kC, hkC, hkind⟩ := K.1 ci _ hC.1
  obtain ⟨cf, kf, fi, f, hi, hsl⟩ := kS j hj
  show W p l e (Rm d mc ms) s m args below meth c H locs k n _ (F0 m pc ls (vr a :: stm st))
  rw [g2]
  exact W.getf X.1 X.2.1 X.2.2.2.2.2.2.1 (hts _ hw) hi (u_facts hfc hkC (u_lays hts hC.2.2.1 hj) hi).1 q1 (by rw [q3]; exact fun h => by cases h) (v := val v) (by rw [hsl, q4 j hj, ← hv]) rfl rfl hd (h.2 hf D dA cs A p l e s m args below meth c ls H locs X hl hH hS)
theorem V_getN {a ci j i N : Nat} {C host : String} {T : u_T} {v : LV} (q : Nat) (hq : pc + 3 = q) (hC : cOK ci C T N) (hci : ci < 20) (hj : j < N) (hd : decode M.2.1 pc = .ok (.getfield i, 3)) (hw : Cond.fieldLinkNest M.1.cls i (T j).1 (T j).2.1 (T j).2.2.1 host ∈ nwl) (hv : fv σ a j (clY ci j) = val v)
    (h : V M d mc ms k n tv F q lv (v :: st) (b && cK σ a (ci + 1)) σ) : V M d mc ms k n tv F pc lv (vR a :: st) b σ := by
  subst hq
  refine ⟨fun hf => and_l (h.1 hf), fun hf D dA cs A p l e s m args below meth c ls H locs X hl hH hS => ?_⟩
  obtain ⟨g1, g2, g3, g4⟩ := HP_at hH (and_r (h.1 hf)) (by omega) (by omega)
  rw [celP_obj g1 hci] at g3
  obtain ⟨cell, q1, q2, q3, q4⟩ := g3
  rw [hC.2.1] at q4
  have K := X.2.2.2.2.2.2.2.2.1.1
  have hts := X.2.2.2.2.2.2.2.1
  obtain ⟨kS, hfc, kC, hkC, hkind⟩ := K.1 ci _ hC.1
  obtain ⟨cf, kf, fi, f, hi, hsl⟩ := kS j hj
  show W p l e (Rm d mc ms) s m args below meth c H locs k n _ (F0 m pc ls (vr a :: stm st))
  rw [g2]
  exact va_Wgetf X.1 X.2.1 X.2.2.2.2.2.2.1 (va_Nw.use rfl (X.2.2.2.2.2.2.2.2.1.2.1 _ hw)) hi (u_facts hfc hkC (u_lays hts hC.2.2.1 hj) hi).1 q1 (by rw [q3]; exact fun h => by cases h) (v := val v) (by rw [hsl, q4 j hj, ← hv]) rfl rfl hd (h.2 hf D dA cs A p l e s m args below meth c ls H locs X hl hH hS)
theorem V_putI {a ci j i N : Nat} {C : String} {T : u_T} {x : Int32} {kf : Sto → Rs α} (q : Nat) (hq : pc + 3 = q) (hC : cOK ci C T N) (hci : ci < 20) (hj : j < N) (hd : decode M.2.1 pc = .ok (.putfield i, 3)) (hw : Cond.fieldLink M.1.cls i (T j).1 (T j).2.1 (T j).2.2.1 ∈ gwl) (hfin : (T j).2.2.2 = false) (hv : ∀ τ : Sto, fv τ a j (clY ci j) = .int (SI τ a j)) (hn : narrow (clY ci j) (.int x) = .int x) (hfit : fits (clY ci j) (.int x) = true)
    (h : ∀ σ' : Sto, V M d mc ms k n tv (kf σ') q lv st (b && cK σ a (ci + 1)) σ') : V M d mc ms k n tv (lt_ (pI σ a j x) kf) pc lv (vI x :: vR a :: st) b σ := by
  subst hq
  have h := h (pI σ a j x)
  refine ⟨fun hf => and_l (h.1 hf), fun hf D dA cs A p l e s m args below meth c ls H locs X hl hH hS => ?_⟩
  obtain ⟨g1, g2, g3, g4⟩ := HP_at hH (and_r (h.1 hf)) (by omega) (by omega)
  rw [celP_obj g1 hci] at g3
  obtain ⟨cell, q1, q2, q3, q4⟩ := g3
  have K := X.2.2.2.2.2.2.2.2.1.1
  have hts := X.2.2.2.2.2.2.2.1
  have hap := va_apart (own := M.1.cls) hts hC.2.2.1 (clY ci) hC.2.2.2.1 hC.2.2.2.2 K hC.1
  obtain ⟨kS, hfc, kC, hkC, hkind⟩ := K.1 ci _ hC.1
  obtain ⟨cf, kf, fi, f, hi, hsl⟩ := kS j hj
  have hlay := hts _ (hC.2.2.1 _ (u_in_lay hj))
  unfold u_lay at hlay
  rw [if_neg (by rw [hfin]; decide)] at hlay
  have hst := (u_facts hfc hkC (u_lays hts hC.2.2.1 hj) hi).1
  have h6 := u_store hfc hkC hkind hlay hi (hC.2.2.2.1 j hj) hn hfit
  show W p l e (Rm d mc ms) s m args below meth c H locs k n _ (F0 m pc ls (.int x :: vr a :: stm st))
  rw [g2]
  refine W.putK X.1 X.2.1 (f := f) ⟨X.2.2.2.2.2.2.1, hts _ hw, ⟨_, _, _, hi⟩, hst⟩ (by rw [q2]; exact h6) q1 q3 (by rw [hsl]; exact k2_hasslot (q4 j (by rw [hC.2.1]; exact hj))) rfl rfl hd fun H' e1 e2 e3 => ?_
  rw [hsl] at e1 ⊢
  refine h.2 hf D dA cs A p l e s m args below meth c ls H' _ X hl (HP_putI (nz_of hH g1 (by omega)) hH e2 e3 ?_) (hS.put e2 e3 g4)
  rw [celP_obj (σ := pI σ a j x) g1 hci]
  exact t_OB.to (V := updV (fun j => fv σ a j (clY ci j)) j (.int x)) ⟨_, e1, q2, q3, t_set q4 (by rw [hC.2.1]; exact hap) (by rw [hC.2.1]; exact hj) _⟩ (fun j' _ => fv_pI (by rw [hv]; show Value.int (up2 _ a j x a j) = _; rw [up2_at, if_pos rfl]))
theorem V_putIN {a ci j i N : Nat} {C host : String} {T : u_T} {x : Int32} {kf : Sto → Rs α} (q : Nat) (hq : pc + 3 = q) (hC : cOK ci C T N) (hci : ci < 20) (hj : j < N) (hd : decode M.2.1 pc = .ok (.putfield i, 3)) (hw : Cond.fieldLinkNest M.1.cls i (T j).1 (T j).2.1 (T j).2.2.1 host ∈ nwl) (hfin : (T j).2.2.2 = false) (hv : ∀ τ : Sto, fv τ a j (clY ci j) = .int (SI τ a j)) (hn : narrow (clY ci j) (.int x) = .int x) (hfit : fits (clY ci j) (.int x) = true)
    (h : ∀ σ' : Sto, V M d mc ms k n tv (kf σ') q lv st (b && cK σ a (ci + 1)) σ') : V M d mc ms k n tv (lt_ (pI σ a j x) kf) pc lv (vI x :: vR a :: st) b σ := by
  subst hq
  have h := h (pI σ a j x)
  refine ⟨fun hf => and_l (h.1 hf), fun hf D dA cs A p l e s m args below meth c ls H locs X hl hH hS => ?_⟩
  obtain ⟨g1, g2, g3, g4⟩ := HP_at hH (and_r (h.1 hf)) (by omega) (by omega)
  rw [celP_obj g1 hci] at g3
  obtain ⟨cell, q1, q2, q3, q4⟩ := g3
  have K := X.2.2.2.2.2.2.2.2.1.1
  have hts := X.2.2.2.2.2.2.2.1
  have hap := va_apart (own := M.1.cls) hts hC.2.2.1 (clY ci) hC.2.2.2.1 hC.2.2.2.2 K hC.1
  obtain ⟨kS, hfc, kC, hkC, hkind⟩ := K.1 ci _ hC.1
  obtain ⟨cf, kf, fi, f, hi, hsl⟩ := kS j hj
  have hlay := hts _ (hC.2.2.1 _ (u_in_lay hj))
  unfold u_lay at hlay
  rw [if_neg (by rw [hfin]; decide)] at hlay
  have hst := (u_facts hfc hkC (u_lays hts hC.2.2.1 hj) hi).1
  have h6 := u_store hfc hkC hkind hlay hi (hC.2.2.2.1 j hj) hn hfit
  show W p l e (Rm d mc ms) s m args below meth c H locs k n _ (F0 m pc ls (.int x :: vr a :: stm st))
  rw [g2]
  refine va_WputK X.1 X.2.1 (f := f) X.2.2.2.2.2.2.1 (va_Nw.use rfl (X.2.2.2.2.2.2.2.2.1.2.1 _ hw)) hi hst (by rw [q2]; exact h6) q1 q3 (by rw [hsl]; exact k2_hasslot (q4 j (by rw [hC.2.1]; exact hj))) rfl rfl hd fun H' e1 e2 e3 => ?_
  rw [hsl] at e1 ⊢
  refine h.2 hf D dA cs A p l e s m args below meth c ls H' _ X hl (HP_putI (nz_of hH g1 (by omega)) hH e2 e3 ?_) (hS.put e2 e3 g4)
  rw [celP_obj (σ := pI σ a j x) g1 hci]
  exact t_OB.to (V := updV (fun j => fv σ a j (clY ci j)) j (.int x)) ⟨_, e1, q2, q3, t_set q4 (by rw [hC.2.1]; exact hap) (by rw [hC.2.1]; exact hj) _⟩ (fun j' _ => fv_pI (by rw [hv]; show Value.int (up2 _ a j x a j) = _; rw [up2_at, if_pos rfl]))
/-- a final field, in its constructor: the machine's step, whatever the value -/
theorem W_putFin {D : va_G} {dA : Nat → ClassId} {cs : Nat → Nat} {A : Nat → Prop} {p : Program} {l : Launch} {e : Env} {R : Room} {s : State} {m : MethodId} {args : Array Value} {below : List Frame} {meth : Method} {c : Code} {ls : Array Slot} {H : Heap} {locs : List Loc} {cells slots : Nat} {Q : State → Prop} {a ci j i N : Nat} {C : String} {T : u_T} {v : Value} {st : List Value}
    (X : Cx M D dA cs A p s m args meth c) (hC : cOK ci C T N) (hci : ci < 20) (hj : j < N) (hd : decode M.2.1 pc = .ok (.putfield i, 3)) (hw : Cond.fieldLink M.1.cls i (T j).1 (T j).2.1 (T j).2.2.1 ∈ gwl) (hfin : (T j).2.2.2 = true) (hin : M.1.name = "<init>") (hown : (T j).1 = M.1.cls) (hn : narrow (clY ci j) v = v) (hfit : fits (clY ci j) v = true) (g1 : Stk σ a = ci + 1) (g3 : celP D dA σ a H)
    (kk : ∀ (H' : Heap) (q : Nat), H'.size = H.size → (∀ q, q ≠ a - 1 → H'[q]? = H[q]?) → t_OB (a - 1) (D.1 ci) (clN ci) (D.2 ci) H' (updV (fun j => fv σ a j (clY ci j)) j v) → W p l e R s m args below meth c H' (locs ++ [⟨a - 1, q⟩]) cells slots Q (F0 m (pc + 3) ls st)) : W p l e R s m args below meth c H locs cells slots Q (F0 m pc ls (v :: .ref (a - 1) :: st)) := by
  rw [celP_obj g1 hci] at g3
  obtain ⟨cell, q1, q2, q3, q4⟩ := g3
  have K := X.2.2.2.2.2.2.2.2.1.1
  have hts := X.2.2.2.2.2.2.2.1
  have hap := va_apart (own := M.1.cls) hts hC.2.2.1 (clY ci) hC.2.2.2.1 hC.2.2.2.2 K hC.1
  obtain ⟨kS, hfc, kC, hkC, hkind⟩ := K.1 ci _ hC.1
  obtain ⟨cf, kf, fi, f, hi, hsl⟩ := kS j hj
  have hlay := hts _ (hC.2.2.1 _ (u_in_lay hj))
  unfold u_lay at hlay
  rw [if_pos hfin] at hlay
  have hst := (u_facts hfc hkC (u_lays hts hC.2.2.1 hj) hi).1
  have hcf : m.cls = cf := by
    obtain ⟨_, _, c', _, _, _, -, -, hf', -, -, -, hown2, -⟩ := Cond.laysFinal_spec hlay
    have e1 : c' = cf := by have := hi.symm.trans hf'; simp at this; exact this.1.symm
    rw [hown] at hown2
    rw [← e1]; exact Option.some.inj (X.2.2.2.2.2.2.1.symm.trans hown2)
  have h6 := u_fits hfc hkC hkind (Or.inr hlay) hi (hC.2.2.2.1 j hj) hn hfit
  refine W.putFinK X.1 X.2.1 X.2.2.2.2.2.2.1 (hts _ hw) hi hst hcf (X.2.2.2.2.2.1.trans hin) (by rw [q2]; exact h6) q1 q3 (by rw [hsl]; exact k2_hasslot (q4 j (by rw [hC.2.1]; exact hj))) rfl rfl hd fun H' e1 e2 e3 => ?_
  refine kk H' _ e2 e3 ?_
  rw [hsl] at e1
  exact ⟨_, e1, q2, q3, t_set q4 (by rw [hC.2.1]; exact hap) (by rw [hC.2.1]; exact hj) _⟩
theorem V_putIF {a ci j i N : Nat} {C : String} {T : u_T} {x : Int32} {kf : Sto → Rs α} (q : Nat) (hq : pc + 3 = q) (hC : cOK ci C T N) (hci : ci < 20) (hj : j < N) (hd : decode M.2.1 pc = .ok (.putfield i, 3)) (hw : Cond.fieldLink M.1.cls i (T j).1 (T j).2.1 (T j).2.2.1 ∈ gwl) (hfin : (T j).2.2.2 = true) (hin : M.1.name = "<init>") (hown : (T j).1 = M.1.cls) (hv : ∀ τ : Sto, fv τ a j (clY ci j) = .int (SI τ a j)) (hn : narrow (clY ci j) (.int x) = .int x) (hfit : fits (clY ci j) (.int x) = true)
    (h : ∀ σ' : Sto, V M d mc ms k n tv (kf σ') q lv st (b && cK σ a (ci + 1)) σ') : V M d mc ms k n tv (lt_ (pI σ a j x) kf) pc lv (vI x :: vR a :: st) b σ := by
  subst hq
  have h := h (pI σ a j x)
  refine ⟨fun hf => and_l (h.1 hf), fun hf D dA cs A p l e s m args below meth c ls H locs X hl hH hS => ?_⟩
  obtain ⟨g1, g2, g3, g4⟩ := HP_at hH (and_r (h.1 hf)) (by omega) (by omega)
  show W p l e (Rm d mc ms) s m args below meth c H locs k n _ (F0 m pc ls (.int x :: vr a :: stm st))
  rw [g2]
  refine W_putFin (st := stm st) X hC hci hj hd hw hfin hin hown hn hfit g1 g3 (fun H' q e2 e3 e4 => ?_)
  refine h.2 hf D dA cs A p l e s m args below meth c ls H' _ X hl (HP_putI (nz_of hH g1 (by omega)) hH e2 e3 ?_) (hS.put e2 e3 g4)
  rw [celP_obj (σ := pI σ a j x) g1 hci]
  exact e4.to (fun j' _ => fv_pI (by rw [hv]; show Value.int (up2 _ a j x a j) = _; rw [up2_at, if_pos rfl]))
theorem V_putRF {a ci j i N : Nat} {C : String} {T : u_T} {x : Nat} {kf : Sto → Rs α} (q : Nat) (hq : pc + 3 = q) (hC : cOK ci C T N) (hci : ci < 20) (hj : j < N) (hd : decode M.2.1 pc = .ok (.putfield i, 3)) (hw : Cond.fieldLink M.1.cls i (T j).1 (T j).2.1 (T j).2.2.1 ∈ gwl) (hfin : (T j).2.2.2 = true) (hin : M.1.name = "<init>") (hown : (T j).1 = M.1.cls) (hv : ∀ τ : Sto, fv τ a j (clY ci j) = vr (SR τ a j)) (hn : ∀ x, narrow (clY ci j) (vr x) = vr x) (hfit : ∀ x, fits (clY ci j) (vr x) = true)
    (h : ∀ σ' : Sto, V M d mc ms k n tv (kf σ') q lv st (b && cK σ a (ci + 1)) σ') : V M d mc ms k n tv (lt_ (pR σ a j x) kf) pc lv (vR x :: vR a :: st) b σ := by
  subst hq
  have h := h (pR σ a j x)
  refine ⟨fun hf => and_l (h.1 hf), fun hf D dA cs A p l e s m args below meth c ls H locs X hl hH hS => ?_⟩
  obtain ⟨g1, g2, g3, g4⟩ := HP_at hH (and_r (h.1 hf)) (by omega) (by omega)
  show W p l e (Rm d mc ms) s m args below meth c H locs k n _ (F0 m pc ls (vr x :: vr a :: stm st))
  rw [g2]
  refine W_putFin (st := stm st) X hC hci hj hd hw hfin hin hown (hn x) (hfit x) g1 g3 (fun H' q e2 e3 e4 => ?_)
  refine h.2 hf D dA cs A p l e s m args below meth c ls H' _ X hl (HP_putR (nz_of hH g1 (by omega)) hH e2 e3 ?_) (hS.put e2 e3 g4)
  rw [celP_obj (σ := pR σ a j x) g1 hci]
  exact e4.to (fun j' _ => fv_pR (by rw [hv]; show vr (up2 _ a j x a j) = _; rw [up2_at, if_pos rfl]))
theorem vr_nar_o (C : String) (x : Nat) : narrow (.object C) (vr x) = vr x := by unfold vr; split <;> rfl
theorem vr_nar_a (t : FieldType) (x : Nat) : narrow (.array t) (vr x) = vr x := by unfold vr; split <;> rfl
theorem vr_fit_o (C : String) (x : Nat) : fits (.object C) (vr x) = true := by unfold vr; split <;> rfl
theorem vr_fit_a (t : FieldType) (x : Nat) : fits (.array t) (vr x) = true := by unfold vr; split <;> rfl
end VH
