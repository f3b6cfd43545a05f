/-! rows of V: calls; a contract out of a walk -/
theorem gw_good {w : Cond} (h : w ∈ gwl) : (w.onTables && w.keeps) = true ∨ ∃ ty, w = .arrayClass ty := good_of_word (List.mem_filter.mp h).2
theorem goodO {M : MD} (hc : Cond.code M.1 M.2.1 M.2.2.1 M.2.2.2 ∈ gwl) : GoodIn gwl (wsO M) := by
  intro w hw
  rcases List.mem_cons.mp hw with rfl | hw
  · exact ⟨hc, gw_good hc⟩
  · exact ⟨hw, gw_good hw⟩
theorem nw_warm {w : Cond} (hw : w ∈ nwl) {s U : State} (hW : s.WarmedH U.vm) (h : va_Nw w s) : va_Nw w U := by
  have hn := (List.mem_filter.mp hw).2
  cases w <;> first | exact va_Nw.warmF hW h | exact va_Nw.warmM hW h | (simp [isNst] at hn)
theorem nw_same {w : Cond} (hw : w ∈ nwl) {s U : State} (hv : s.vm = U.vm) (h : va_Nw w s) : va_Nw w U := by
  have hn := (List.mem_filter.mp hw).2
  cases w <;> first | exact va_Nw.same rfl hv h | (simp [isNst] at hn)
theorem KK_same {D : va_G} {dA : Nat → ClassId} {cs : Nat → Nat} {A : Nat → Prop} {u U : State} (hv : u.vm = U.vm) (hh : u.heap = U.heap) (h : KK D dA cs A u) : KK D dA cs A U := by
  have ha : u.vm.Alike U.vm := hv ▸ Vm.Alike.refl u.vm
  obtain ⟨h1, h2, ⟨h3, h4, h5⟩, ⟨h6, h7, h8, h9, h10⟩, k1, k2, k3, k4, k5⟩ := h
  refine ⟨va_K.moved ha h1, fun w hw => nw_same hw hv (h2 w hw), ⟨va_AO.moved ha h3, va_AO.moved ha h4, va_AO.moved ha h5⟩, ⟨?_, ?_, ?_, ?_, ?_⟩, vk_R.same hv.symm k1, vk_R.same hv.symm k2, vk_R.same hv.symm k3, vk_R.same hv.symm k4, vk_R.same hv.symm k5⟩
  · rw [← hh]; exact va_Z.moved ha h6
  · rw [← hh]; exact va_T.moved ha h7
  · rw [← hh]; exact vk_S.moved ha h8
  · rw [← hh]; exact va_Z.moved ha h9
  · rw [← hh]; exact va_Z.moved ha h10
theorem KK_call {D : va_G} {dA : Nat → ClassId} {cs : Nat → Nat} {A B : Nat → Prop} {s U : State} {H : Heap} {locs : List Loc} (h : KK D dA cs A s) (hS : va_S A s.heap H locs) (hB : ∀ q, B q → A q) (hU : U.heap = H) (hW : s.WarmedH U.vm) : KK D dA cs B U := by
  have ha := hW.alike
  obtain ⟨h1, h2, ⟨h3, h4, h5⟩, ⟨h6, h7, h8, h9, h10⟩, k1, k2, k3, k4, k5⟩ := h
  refine ⟨va_K.moved ha h1, fun w hw => nw_warm hw hW (h2 w hw), ⟨va_AO.moved ha h3, va_AO.moved ha h4, va_AO.moved ha h5⟩, ⟨?_, ?_, ?_, ?_, ?_⟩, vk_R.warm hW k1, vk_R.warm hW k2, vk_R.warm hW k3, vk_R.warm hW k4, vk_R.warm hW k5⟩
  · rw [hU]; exact va_Z.moved ha ((h6.kept hS.2.1).narrow hB)
  · rw [hU]; exact va_T.moved ha ((h7.kept hS.2.1).narrow hB)
  · rw [hU]; exact vk_S.moved ha ((h8.kept hS.2.1).narrow hB)
  · rw [hU]; exact va_Z.moved ha ((h9.kept hS.2.1).narrow hB)
  · rw [hU]; exact va_Z.moved ha ((h10.kept hS.2.1).narrow hB)
theorem HP_weak {D : va_G} {dA : Nat → ClassId} {cs : Nat → Nat} {A B : Nat → Prop} {σ : Sto} {H : Heap} (h : HP D dA cs σ A H) (hB : ∀ q, inS σ (q + 1) → A q → B q) : HP D dA cs σ B H := by
  refine ⟨h.1, h.2.1, h.2.2.1, h.2.2.2.1, fun a ha => ⟨(h.2.2.2.2 a ha).1, hB (a - 1) ?_ (h.2.2.2.2 a ha).2⟩⟩
  have h0 : a ≠ 0 := by
    intro z
    have z2 := ha.1
    rw [z, h.2.1] at z2
    omega
  rw [Nat.sub_add_cancel (by omega)]
  exact ha
theorem HP_self {D : va_G} {dA : Nat → ClassId} {cs : Nat → Nat} {A : Nat → Prop} {σ : Sto} {H : Heap} (h : HP D dA cs σ A H) : HP D dA cs σ (AS σ) H := HP_weak h (fun _ h _ => Or.inl h)
section VC
variable {α : Type} {M : MD} {d mc ms k n : Nat} {tv : α → Option LV} {F F1 F2 : Rs α} {pc : Nat} {lv : List (Nat × LV)} {st : List LV} {b : Bool} {σ : Sto}
/-- from a walk to the contract -/
theorem lva_args (as : List LV) : ∀ i, lv_args i (stm as) = lvm (lva i as) := by
  induction as with
  | nil => intro i; rfl
  | cons v vs ih =>
    intro i
    show (i, val v) :: lv_args (if (val v).category = 2 then i + 2 else i + 1) (stm vs) = (i, val v) :: lvm (lva (i + cat v) vs)
    rw [ih, val_cat]
    rcases v with x | x | x <;> rfl
theorem lva_len (as : List LV) : (lg_sl (stm as)).length = csm as := by
  induction as with
  | nil => rfl
  | cons v vs ih =>
    have e : lg_sl (stm (v :: vs)) = (if (val v).category = 2 then [Slot.val (val v), .second] else [Slot.val (val v)]) ++ lg_sl (stm vs) := by simp [lg_sl, stm, List.flatMap_cons]
    rw [e, List.length_append, ih, val_cat]
    rcases v with x | x | x <;> simp [cat, csm] <;> omega
theorem Snd_of {as : List LV} (hy : plainName M.1.cls = true) (hn : csm as ≤ M.2.2.1) (h : V M d mc ms 0 0 tv F 0 (lva 0 as) [] b σ) : Snd M d mc ms as b σ (tv F.1) F.2.1 F.2.2 := by
  refine ⟨h.1, fun hf l D dA => Met.ofW (cc := M.2.1) (maxL := M.2.2.1) (ret := M.2.2.2) hy rfl ?_⟩
  intro p e s m args below meth c s₁ B hml hv
  obtain ⟨rfl, hH, hK⟩ := hv
  have hts := atoms_spec (ws := wsO M) B.pre
  have hown : s.vm.findClass M.1.cls = some m.cls := findClass_of_methodNamed B.named
  have hname : meth.name = M.1.name := (name_of_methodNamed B.named B.method).1
  have hl := lv_entry (stm as) (n := M.2.2.1) (by rw [lva_len]; exact hn)
  rw [lg_entry_eq]
  rw [lva_args] at hl
  refine h.2 hf D dA (Scs σ) (AS σ) p l e s m _ below meth c _ s.heap [] ⟨B.exec, B.bytes, B.returns, hml, B.notSynchronized, hname, hown, fun w hw => hts w (List.mem_cons_of_mem _ hw), hK, fun q hq => Or.inr (by rw [← hH.1]; omega)⟩ hl hH va_S.rf
theorem csm_room {rest : List LV} {m : MethodId} {pc : Nat} {ls : Array Slot} {r2 : List Value} (h : csm rest ≤ 8) : 2 * (F0 m pc ls r2).monitorRoom + ((stm rest).map fun v => v.category).sum ≤ 8 := by
  refine lv_room ?_
  have e : (stm rest).map (fun v => v.category) = rest.map cat := by simp [stm, Function.comp_def, val_cat]
  rw [e]
  exact h
/-- what is common to all calls -/
theorem W_call {D : va_G} {dA : Nat → ClassId} {cs : Nat → Nat} {A : Nat → Prop} {p : Program} {l : Launch} {e : Env} {R : Room} {s : State} {m : MethodId} {args : Array Value} {below : List Frame} {meth : Method} {c : Code} {ls : Array Slot} {H : Heap} {locs : List Loc} {cells slots mc' ms' : Nat} {Q : State → Prop} {st0 rest : List Value} {rv : Option Value} {σ' : Sto}
    (hr : va_Run p l e R s m args below meth c H locs cells slots mc' ms' (F0 m pc ls st0) rest (fun st o t => (o = .returned rv ∧ HP D dA cs σ' (AS σ) t.heap) ∧ va_F (AS σ) st t) (AS σ)) (hS : va_S A s.heap H locs) (hB : ∀ q, AS σ q → A q)
    (kk : ∀ (H1 : Heap) (locs1 : List Loc), HP D dA cs σ' A H1 → va_S A s.heap H1 locs1 → W p l e R s m args below meth c H1 locs1 (cells + mc') (slots + ms') Q (F0 m (pc + 3) ls (rv.toList ++ rest))) : W p l e R s m args below meth c H locs cells slots Q (F0 m pc ls st0) := by
  intro T hT X
  obtain ⟨v, st₀, t, T', L, h0, X', hL, e1, e2, ⟨⟨hv, hp⟩, hz, hk⟩, stp⟩ := hr T hT X
  cases hv
  rw [h0] at hz hk
  obtain ⟨t2, a1, b1⟩ := kk T'.heap (locs ++ L) (by rw [e1]; exact HP_weak hp (fun q _ h => hB q h))
    ⟨Nat.le_trans hS.1 (by rw [e1]; exact hz), fun q h1 h2 => by rw [e1, hk q (Nat.lt_of_lt_of_le h1 hS.1) (fun z => h2 (hB q z))]; exact hS.2.1 q h1 h2, fun q hq => by
      rcases List.mem_append.mp hq with h | h
      · exact hS.2.2 q h
      · exact hB _ (hL q h)⟩ T' rfl X'
  exact ⟨t2, stp t2 a1, b1⟩
/-- what a call asks of its callee: its name, its code, its room -/
def Cal (M' : MD) (d' mc' ms' na : Nat) (d mc ms k n : Nat) : Prop :=
  Cond.code M'.1 M'.2.1 M'.2.2.1 M'.2.2.2 ∈ gwl ∧ Cond.initialized M'.1.cls ∈ gwl ∧ (M'.1.cls ≠ "java/lang/invoke/MethodHandle" ∧ M'.1.cls ≠ "java/lang/invoke/VarHandle" ∧ (parseMethodDescriptor M'.1.desc).map (fun d => d.parameters.length) = some na) ∧ d' + 1 ≤ d ∧ M'.2.2.1 ≤ 45 ∧ k + mc' ≤ mc ∧ n + ms' ≤ ms
theorem Cal.room {M' : MD} {d' mc' ms' na : Nat} (h : Cal M' d' mc' ms' na d mc ms k n) : (Rm d' mc' ms').frames + 1 ≤ (Rm d mc ms).frames ∧ 8 + (M'.2.2.1 + 11) + (Rm d' mc' ms').locals ≤ (Rm d mc ms).locals := by
  obtain ⟨-, -, -, h1, h2, -⟩ := h
  refine ⟨h1, ?_⟩
  show 8 + (M'.2.2.1 + 11) + 64 * d' ≤ 64 * d
  omega
theorem AS_sub {D : va_G} {dA : Nat → ClassId} {cs : Nat → Nat} {A : Nat → Prop} {p : Program} {s : State} {m : MethodId} {args : Array Value} {meth : Method} {c : Code} {H : Heap} {locs : List Loc} (X : Cx M D dA cs A p s m args meth c) (hH : HP D dA cs σ A H) (hS : va_S A s.heap H locs) : ∀ q, AS σ q → A q := by
  intro q hq
  rcases hq with h | h
  · exact (hH.2.2.2.2 (q + 1) h).2
  · exact X.2.2.2.2.2.2.2.2.2 q (Nat.le_trans hS.1 (by have := hH.1; omega))
section
variable {β : Type} {tb : β → Option LV} {G : Rs β} {kf : β → Bool → Sto → Rs α} {M' : MD} {d' mc' ms' i na : Nat} {as rest : List LV}
theorem stm_rev (as rest : List LV) : stm (as.reverse ++ rest) = (stm as).reverse ++ stm rest := by simp [stm]
theorem stm_tl (rv : Option LV) (rest : List LV) : stm (rv.toList ++ rest) = (rv.map val).toList ++ stm rest := by cases rv <;> rfl
theorem V_callS (q : Nat) (hq : pc + 3 = q) (hs : Snd M' d' mc' ms' as b σ (tb G.1) G.2.1 G.2.2) (hst : as.reverse ++ rest = st) (hn : as.length = na) (hrm : csm rest ≤ 8) (hc : Cal M' d' mc' ms' na d mc ms k n) (hd : decode M.2.1 pc = .ok (.invokestatic i, 3)) (hl : Cond.methodLink M.1.cls i M'.1 ∈ gwl) (hw : Cond.static M'.1 ∈ gwl)
    (h : ∀ (r : β) (b' : Bool) (σ' : Sto), V M d mc ms (k + mc') (n + ms') tv (kf r b' σ') q lv ((tb r).toList ++ rest) b' σ') : V M d mc ms k n tv (bd_ G kf) pc lv st b σ := by
  subst hq; subst hst; subst hn
  have h := h G.1 G.2.1 G.2.2
  refine ⟨fun hf => hs.1 (h.1 hf), fun hf D dA cs A p l e s m args below meth c ls H locs X hl' hH hS => ?_⟩
  have hts := X.2.2.2.2.2.2.2.1
  have hcs : Scs σ = cs := hH.2.2.2.1
  have hM := hs.2 (h.1 hf) l D dA
  rw [hcs] at hM
  have hB := AS_sub X hH hS
  have hlen : (stm as).length = as.length := by simp [stm]
  have hF : FrameBlind (va_Pc (stm as) (fun U => HP D dA cs σ (AS σ) U.heap ∧ KK D dA cs (AS σ) U)) := fun a U g mk q => ⟨q.1, q.2.1, KK_same (u := U) (U := U.calling g mk a) rfl rfl q.2.2⟩
  refine W_call (σ := σ) (σ' := G.2.2) (rv := (tb G.1).map val) (rest := stm rest) (va_runS (g := (F0 m pc ls (stm (as.reverse ++ rest)))) (rest := stm rest) (As := stm as) (nL := M.2.2.1) (n := as.length) ⟨X.1, X.2.1, X.2.2.2.1, X.2.2.2.2.2.2.1, hts⟩ hM ⟨callB_of as.length hts (goodO hc.1) rfl rfl rfl (hts _ hc.2.1) (hts _ hl) hc.2.2.1 hc.room, hts _ hw⟩ ⟨hF, fun U hU hW => ⟨rfl, by rw [hU]; exact HP_self hH, KK_call X.2.2.2.2.2.2.2.2.1 hS hB hU hW⟩⟩ rfl hlen hl'.1 (stm_rev as rest) (csm_room hrm) hd ⟨hc.2.2.2.2.2.1, hc.2.2.2.2.2.2⟩) hS hB (fun H1 locs1 hH1 hS1 => ?_)
  have hW := h.2 hf D dA cs A p l e s m args below meth c ls H1 locs1 X hl' hH1 hS1
  rw [stm_tl] at hW
  exact hW
theorem V_callSN {host : String} (q : Nat) (hq : pc + 3 = q) (hs : Snd M' d' mc' ms' as b σ (tb G.1) G.2.1 G.2.2) (hst : as.reverse ++ rest = st) (hn : as.length = na) (hrm : csm rest ≤ 8) (hc : Cal M' d' mc' ms' na d mc ms k n) (hd : decode M.2.1 pc = .ok (.invokestatic i, 3)) (hl : Cond.methodLinkNest M.1.cls i M'.1 host ∈ nwl) (hw : Cond.static M'.1 ∈ gwl)
    (h : ∀ (r : β) (b' : Bool) (σ' : Sto), V M d mc ms (k + mc') (n + ms') tv (kf r b' σ') q lv ((tb r).toList ++ rest) b' σ') : V M d mc ms k n tv (bd_ G kf) pc lv st b σ := by
  subst hq; subst hst; subst hn
  have h := h G.1 G.2.1 G.2.2
  refine ⟨fun hf => hs.1 (h.1 hf), fun hf D dA cs A p l e s m args below meth c ls H locs X hl' hH hS => ?_⟩
  have hts := X.2.2.2.2.2.2.2.1
  have hcs : Scs σ = cs := hH.2.2.2.1
  have hM := hs.2 (h.1 hf) l D dA
  rw [hcs] at hM
  have hB := AS_sub X hH hS
  have hlen : (stm as).length = as.length := by simp [stm]
  have hF : FrameBlind (va_Pc (stm as) (fun U => HP D dA cs σ (AS σ) U.heap ∧ KK D dA cs (AS σ) U)) := fun a U g mk q => ⟨q.1, q.2.1, KK_same (u := U) (U := U.calling g mk a) rfl rfl q.2.2⟩
  refine W_call (σ := σ) (σ' := G.2.2) (rv := (tb G.1).map val) (rest := stm rest) (va_runSN (g := (F0 m pc ls (stm (as.reverse ++ rest)))) (rest := stm rest) (As := stm as) (nL := M.2.2.1) (n := as.length) ⟨X.1, X.2.1, X.2.2.2.1, X.2.2.2.2.2.2.1, hts⟩ hM ⟨va_cnB as.length hts (goodO hc.1) rfl rfl rfl (X.2.2.2.2.2.2.2.2.1.2.1 _ hl) (hts _ hc.2.1) hc.2.2.1 hc.room, hts _ hw, trivial⟩ ⟨hF, fun U hU hW => ⟨rfl, by rw [hU]; exact HP_self hH, KK_call X.2.2.2.2.2.2.2.2.1 hS hB hU hW⟩⟩ rfl hlen hl'.1 (stm_rev as rest) (csm_room hrm) hd ⟨hc.2.2.2.2.2.1, hc.2.2.2.2.2.2⟩) hS hB (fun H1 locs1 hH1 hS1 => ?_)
  have hW := h.2 hf D dA cs A p l e s m args below meth c ls H1 locs1 X hl' hH1 hS1
  rw [stm_tl] at hW
  exact hW
theorem V_callV {r0 ci N : Nat} {C : String} {T : u_T} (q : Nat) (hq : pc + 3 = q) (hC : cOK ci C T N) (hci : ci < 20) (hs : Snd M' d' mc' ms' (vR r0 :: as) (b && cK σ r0 (ci + 1)) σ (tb G.1) G.2.1 G.2.2) (hst : as.reverse ++ vR r0 :: rest = st) (hn : as.length = na) (hrm : csm rest ≤ 8) (hc : Cal M' d' mc' ms' na d mc ms k n) (hd : decode M.2.1 pc = .ok (.invokevirtual i, 3)) (hl : Cond.methodLink M.1.cls i M'.1 ∈ gwl) (hw : Cond.instanceMethod M'.1 ∈ gwl) (hw2 : Cond.selects C M'.1 M'.1 ∈ gwl)
    (h : ∀ (r : β) (b' : Bool) (σ' : Sto), V M d mc ms (k + mc') (n + ms') tv (kf r b' σ') q lv ((tb r).toList ++ rest) b' σ') : V M d mc ms k n tv (bd_ G kf) pc lv st b σ := by
  subst hq; subst hst; subst hn
  have h := h G.1 G.2.1 G.2.2
  refine ⟨fun hf => and_l (hs.1 (h.1 hf)), fun hf D dA cs A p l e s m args below meth c ls H locs X hl' hH hS => ?_⟩
  obtain ⟨g1, g2, g3, g4⟩ := HP_at hH (and_r (hs.1 (h.1 hf))) (by omega) (by omega)
  rw [celP_obj g1 hci] at g3
  obtain ⟨cell, q1, q2, q3, q4⟩ := g3
  have hcl := ((X.2.2.2.2.2.2.2.2.1.1).1 ci _ hC.1).2.1
  have hts := X.2.2.2.2.2.2.2.1
  have hcs : Scs σ = cs := hH.2.2.2.1
  have hM := hs.2 (h.1 hf) l D dA
  have e0 : stm (vR r0 :: as) = .ref (r0 - 1) :: stm as := by show vr r0 :: stm as = _; rw [g2]
  rw [e0] at hM
  rw [hcs] at hM
  have hB := AS_sub X hH hS
  have hlen : (stm as).length = as.length := by simp [stm]
  have hF : FrameBlind (va_Pc (.ref (r0 - 1) :: stm as) (fun U => HP D dA cs σ (AS σ) U.heap ∧ KK D dA cs (AS σ) U)) := fun a U g mk q => ⟨q.1, q.2.1, KK_same (u := U) (U := U.calling g mk a) rfl rfl q.2.2⟩
  refine W_call (σ := σ) (σ' := G.2.2) (rv := (tb G.1).map val) (rest := stm rest) (va_runV (g := (F0 m pc ls (stm (as.reverse ++ vR r0 :: rest)))) (rest := stm rest) (As := stm as) (b := r0 - 1) (C := C) (nL := M.2.2.1) (n := as.length) ⟨X.1, X.2.1, X.2.2.2.1, X.2.2.2.2.2.2.1, hts⟩ hM ⟨callB_of as.length hts (goodO hc.1) rfl rfl rfl (hts _ hc.2.1) (hts _ hl) hc.2.2.1 hc.room, hts _ hw, hts _ hw2⟩ ⟨hF, ⟨cell, q1, by rw [q3]; rfl, by rw [q2]; exact hcl⟩, fun U hU hW => ⟨rfl, by rw [hU]; exact HP_self hH, KK_call X.2.2.2.2.2.2.2.2.1 hS hB hU hW⟩⟩ rfl hlen hl'.1 (by rw [show (F0 m pc ls (stm (as.reverse ++ vR r0 :: rest))).stack = stm (as.reverse ++ vR r0 :: rest) from rfl, stm_rev]; show _ ++ vr r0 :: stm rest = _; rw [g2]) (csm_room hrm) hd ⟨hc.2.2.2.2.2.1, hc.2.2.2.2.2.2⟩) hS hB (fun H1 locs1 hH1 hS1 => ?_)
  have hW := h.2 hf D dA cs A p l e s m args below meth c ls H1 locs1 X hl' hH1 hS1
  rw [stm_tl] at hW
  exact hW
theorem V_callVN {host : String} {r0 ci N : Nat} {C : String} {T : u_T} (q : Nat) (hq : pc + 3 = q) (hC : cOK ci C T N) (hci : ci < 20) (hs : Snd M' d' mc' ms' (vR r0 :: as) (b && cK σ r0 (ci + 1)) σ (tb G.1) G.2.1 G.2.2) (hst : as.reverse ++ vR r0 :: rest = st) (hn : as.length = na) (hrm : csm rest ≤ 8) (hc : Cal M' d' mc' ms' na d mc ms k n) (hd : decode M.2.1 pc = .ok (.invokevirtual i, 3)) (hl : Cond.methodLinkNest M.1.cls i M'.1 host ∈ nwl) (hw : Cond.instanceMethod M'.1 ∈ gwl) (hw2 : Cond.selects C M'.1 M'.1 ∈ gwl)
    (h : ∀ (r : β) (b' : Bool) (σ' : Sto), V M d mc ms (k + mc') (n + ms') tv (kf r b' σ') q lv ((tb r).toList ++ rest) b' σ') : V M d mc ms k n tv (bd_ G kf) pc lv st b σ := by
  subst hq; subst hst; subst hn
  have h := h G.1 G.2.1 G.2.2
  refine ⟨fun hf => and_l (hs.1 (h.1 hf)), fun hf D dA cs A p l e s m args below meth c ls H locs X hl' hH hS => ?_⟩
  obtain ⟨g1, g2, g3, g4⟩ := HP_at hH (and_r (hs.1 (h.1 hf))) (by omega) (by omega)
  rw [celP_obj g1 hci] at g3
  obtain ⟨cell, q1, q2, q3, q4⟩ := g3
  have hcl := ((X.2.2.2.2.2.2.2.2.1.1).1 ci _ hC.1).2.1
  have hts := X.2.2.2.2.2.2.2.1
  have hcs : Scs σ = cs := hH.2.2.2.1
  have hM := hs.2 (h.1 hf) l D dA
  have e0 : stm (vR r0 :: as) = .ref (r0 - 1) :: stm as := by show vr r0 :: stm as = _; rw [g2]
  rw [e0] at hM
  rw [hcs] at hM
  have hB := AS_sub X hH hS
  have hlen : (stm as).length = as.length := by simp [stm]
  have hF : FrameBlind (va_Pc (.ref (r0 - 1) :: stm as) (fun U => HP D dA cs σ (AS σ) U.heap ∧ KK D dA cs (AS σ) U)) := fun a U g mk q => ⟨q.1, q.2.1, KK_same (u := U) (U := U.calling g mk a) rfl rfl q.2.2⟩
  refine W_call (σ := σ) (σ' := G.2.2) (rv := (tb G.1).map val) (rest := stm rest) (va_runVN (g := (F0 m pc ls (stm (as.reverse ++ vR r0 :: rest)))) (rest := stm rest) (As := stm as) (b := r0 - 1) (C := C) (nL := M.2.2.1) (n := as.length) ⟨X.1, X.2.1, X.2.2.2.1, X.2.2.2.2.2.2.1, hts⟩ hM ⟨va_cnB as.length hts (goodO hc.1) rfl rfl rfl (X.2.2.2.2.2.2.2.2.1.2.1 _ hl) (hts _ hc.2.1) hc.2.2.1 hc.room, hts _ hw, hts _ hw2⟩ ⟨hF, ⟨cell, q1, by rw [q3]; rfl, by rw [q2]; exact hcl⟩, fun U hU hW => ⟨rfl, by rw [hU]; exact HP_self hH, KK_call X.2.2.2.2.2.2.2.2.1 hS hB hU hW⟩⟩ rfl hlen hl'.1 (by rw [show (F0 m pc ls (stm (as.reverse ++ vR r0 :: rest))).stack = stm (as.reverse ++ vR r0 :: rest) from rfl, stm_rev]; show _ ++ vr r0 :: stm rest = _; rw [g2]) (csm_room hrm) hd ⟨hc.2.2.2.2.2.1, hc.2.2.2.2.2.2⟩) hS hB (fun H1 locs1 hH1 hS1 => ?_)
  have hW := h.2 hf D dA cs A p l e s m args below meth c ls H1 locs1 X hl' hH1 hS1
  rw [stm_tl] at hW
  exact hW
theorem V_callI {r0 ci N : Nat} {C : String} {T : u_T} (q : Nat) (hq : pc + 3 = q) (hC : cOK ci C T N) (hci : ci < 20) (hs : Snd M' d' mc' ms' (vR r0 :: as) (b && cK σ r0 (ci + 1)) σ (tb G.1) G.2.1 G.2.2) (hst : as.reverse ++ vR r0 :: rest = st) (hn : as.length = na) (hrm : csm rest ≤ 8) (hc : Cal M' d' mc' ms' na d mc ms k n) (hd : decode M.2.1 pc = .ok (.invokespecial i, 3)) (hl : Cond.methodLink M.1.cls i M'.1 ∈ gwl) (hw : Cond.instanceMethod M'.1 ∈ gwl) (hw2 : M'.1.name = "<init>") (hw3 : M'.2.2.2 = none)
    (h : ∀ (r : β) (b' : Bool) (σ' : Sto), V M d mc ms (k + mc') (n + ms') tv (kf r b' σ') q lv ((tb r).toList ++ rest) b' σ') : V M d mc ms k n tv (bd_ G kf) pc lv st b σ := by
  subst hq; subst hst; subst hn
  have h := h G.1 G.2.1 G.2.2
  refine ⟨fun hf => and_l (hs.1 (h.1 hf)), fun hf D dA cs A p l e s m args below meth c ls H locs X hl' hH hS => ?_⟩
  obtain ⟨g1, g2, g3, g4⟩ := HP_at hH (and_r (hs.1 (h.1 hf))) (by omega) (by omega)
  rw [celP_obj g1 hci] at g3
  obtain ⟨cell, q1, q2, q3, q4⟩ := g3
  have hcl := ((X.2.2.2.2.2.2.2.2.1.1).1 ci _ hC.1).2.1
  have hts := X.2.2.2.2.2.2.2.1
  have hcs : Scs σ = cs := hH.2.2.2.1
  have hM := hs.2 (h.1 hf) l D dA
  have e0 : stm (vR r0 :: as) = .ref (r0 - 1) :: stm as := by show vr r0 :: stm as = _; rw [g2]
  rw [e0] at hM
  rw [hcs] at hM
  have hB := AS_sub X hH hS
  have hlen : (stm as).length = as.length := by simp [stm]
  have hF : FrameBlind (va_Pc (.ref (r0 - 1) :: stm as) (fun U => HP D dA cs σ (AS σ) U.heap ∧ KK D dA cs (AS σ) U)) := fun a U g mk q => ⟨q.1, q.2.1, KK_same (u := U) (U := U.calling g mk a) rfl rfl q.2.2⟩
  refine W_call (σ := σ) (σ' := G.2.2) (rv := (tb G.1).map val) (rest := stm rest) (va_runI (g := (F0 m pc ls (stm (as.reverse ++ vR r0 :: rest)))) (rest := stm rest) (As := stm as) (b := r0 - 1) (nL := M.2.2.1) (n := as.length) ⟨X.1, X.2.1, X.2.2.2.1, X.2.2.2.2.2.2.1, hts⟩ hM ⟨callB_of as.length hts (goodO hc.1) (by unfold wsO; rw [hw3]) rfl rfl (hts _ hc.2.1) (hts _ hl) hc.2.2.1 hc.room, hw2, hts _ hw⟩ ⟨hF, fun U hU hW => ⟨rfl, by rw [hU]; exact HP_self hH, KK_call X.2.2.2.2.2.2.2.2.1 hS hB hU hW⟩⟩ rfl hlen hl'.1 (by rw [show (F0 m pc ls (stm (as.reverse ++ vR r0 :: rest))).stack = stm (as.reverse ++ vR r0 :: rest) from rfl, stm_rev]; show _ ++ vr r0 :: stm rest = _; rw [g2]) (csm_room hrm) hd ⟨hc.2.2.2.2.2.1, hc.2.2.2.2.2.2⟩) hS hB (fun H1 locs1 hH1 hS1 => ?_)
  have hW := h.2 hf D dA cs A p l e s m args below meth c ls H1 locs1 X hl' hH1 hS1
  rw [stm_tl] at hW
  exact hW
theorem V_callIN {host : String} {r0 ci N : Nat} {C : String} {T : u_T} (q : Nat) (hq : pc + 3 = q) (hC : cOK ci C T N) (hci : ci < 20) (hs : Snd M' d' mc' ms' (vR r0 :: as) (b && cK σ r0 (ci + 1)) σ (tb G.1) G.2.1 G.2.2) (hst : as.reverse ++ vR r0 :: rest = st) (hn : as.length = na) (hrm : csm rest ≤ 8) (hc : Cal M' d' mc' ms' na d mc ms k n) (hd : decode M.2.1 pc = .ok (.invokespecial i, 3)) (hl : Cond.methodLinkNest M.1.cls i M'.1 host ∈ nwl) (hw : Cond.instanceMethod M'.1 ∈ gwl) (hw2 : M'.1.name = "<init>") (hw3 : M'.2.2.2 = none)
    (h : ∀ (r : β) (b' : Bool) (σ' : Sto), V M d mc ms (k + mc') (n + ms') tv (kf r b' σ') q lv ((tb r).toList ++ rest) b' σ') : V M d mc ms k n tv (bd_ G kf) pc lv st b σ := by
  subst hq; subst hst; subst hn
  have h := h G.1 G.2.1 G.2.2
  refine ⟨fun hf => and_l (hs.1 (h.1 hf)), fun hf D dA cs A p l e s m args below meth c ls H locs X hl' hH hS => ?_⟩
  obtain ⟨g1, g2, g3, g4⟩ := HP_at hH (and_r (hs.1 (h.1 hf))) (by omega) (by omega)
  rw [celP_obj g1 hci] at g3
  obtain ⟨cell, q1, q2, q3, q4⟩ := g3
  have hcl := ((X.2.2.2.2.2.2.2.2.1.1).1 ci _ hC.1).2.1
  have hts := X.2.2.2.2.2.2.2.1
  have hcs : Scs σ = cs := hH.2.2.2.1
  have hM := hs.2 (h.1 hf) l D dA
  have e0 : stm (vR r0 :: as) = .ref (r0 - 1) :: stm as := by show vr r0 :: stm as = _; rw [g2]
  rw [e0] at hM
  rw [hcs] at hM
  have hB := AS_sub X hH hS
  have hlen : (stm as).length = as.length := by simp [stm]
  have hF : FrameBlind (va_Pc (.ref (r0 - 1) :: stm as) (fun U => HP D dA cs σ (AS σ) U.heap ∧ KK D dA cs (AS σ) U)) := fun a U g mk q => ⟨q.1, q.2.1, KK_same (u := U) (U := U.calling g mk a) rfl rfl q.2.2⟩
  refine W_call (σ := σ) (σ' := G.2.2) (rv := (tb G.1).map val) (rest := stm rest) (va_runIN (g := (F0 m pc ls (stm (as.reverse ++ vR r0 :: rest)))) (rest := stm rest) (As := stm as) (b := r0 - 1) (nL := M.2.2.1) (n := as.length) ⟨X.1, X.2.1, X.2.2.2.1, X.2.2.2.2.2.2.1, hts⟩ hM ⟨va_cnB as.length hts (goodO hc.1) (by unfold wsO; rw [hw3]) rfl rfl (X.2.2.2.2.2.2.2.2.1.2.1 _ hl) (hts _ hc.2.1) hc.2.2.1 hc.room, hw2, hts _ hw⟩ ⟨hF, fun U hU hW => ⟨rfl, by rw [hU]; exact HP_self hH, KK_call X.2.2.2.2.2.2.2.2.1 hS hB hU hW⟩⟩ rfl hlen hl'.1 (by rw [show (F0 m pc ls (stm (as.reverse ++ vR r0 :: rest))).stack = stm (as.reverse ++ vR r0 :: rest) from rfl, stm_rev]; show _ ++ vr r0 :: stm rest = _; rw [g2]) (csm_room hrm) hd ⟨hc.2.2.2.2.2.1, hc.2.2.2.2.2.2⟩) hS hB (fun H1 locs1 hH1 hS1 => ?_)
  have hW := h.2 hf D dA cs A p l e s m args below meth c ls H1 locs1 X hl' hH1 hS1
  rw [stm_tl] at hW
  exact hW
end
end VC
