/-! the law's own walk, over two stores: σ the class's, ρ the reference's -/
def R_law : String := "LongTrailLaw"
def lw_P (b : Addr) (xs : List Int32) (args : Array Value) (s : State) : Prop := args = #[.ref b] ∧ s.IntsAt b xs ∧ xs.length ≤ 3072 ∧ (Jvm.Cond.and given_1 narrow_1).before args s = true
def lw_Q (_ : Array Value) (s : State) (o : Outcome) (t : State) : Prop := o = .returned (some (.int 1)) ∧ Framed s o t [] 600000 7302250
def lw_Z (below : List Frame) (a : Array Value) (s : State) : State → Prop := fun t => ∃ o, t.status = .running ∧ Ended t below o ∧ lw_Q a s o t
/-- the law's own end, with 1 on the stack, nothing written that was there before, its room as the claim has it -/
theorem lw_ret {p : Program} {l : Launch} {e : Env} {s : State} {m : MethodId} {below : List Frame} {meth : Method} {c : Code} {b : Nat} (hx : p.tables.exec = Jvm.exec) (hb : c.code = code) (hr : meth.sig.returnType = ret) (hlocks : meth.locks = false) {pc : Nat} {H : Heap} {ls : Array Slot} (hdg : decode code pc = .ok (.ireturn, 1)) : W p l e room_1 s m #[Value.ref b] below meth c H [] 600000 7302250 (lw_Z below #[Value.ref b] s) (F0 m pc ls [.int 1]) := by
  intro T hT X
  obtain ⟨fs, hret, hrun, hended, hW, hframe⟩ := X.leave (v := some (.int 1)) (hlocks := hlocks) (fun h => by rw [hr] at h; cases h)
  have hmeth' : T.vm.method? m = some meth := X.method'
  refine ⟨T.setFrames fs, ?_, .returned (some (.int 1)), hrun, hended, rfl, ⟨_, rfl⟩, hW, hframe⟩
  jvm_step X.here [X.here.top, hx, hb, hdg, hmeth', hr, ret, narrow_b1]
  (try refine ⟨rfl, ?_⟩); (try refine ⟨rfl, ?_⟩)
  first | (intro acts; rw [hret _ acts rfl rfl rfl]) | rw [hret _ _ rfl rfl rfl]
  exact Steps.refl _
/-- what holds at the law's entry -/
def lw_At (p : Program) (s : State) (m : MethodId) (meth : Method) (c : Code) (b L : Nat) (xs : Nat → Int32) : Prop :=
  p.tables.exec = Jvm.exec ∧ c.code = code ∧ meth.sig.returnType = ret ∧ c.maxLocals = 4 ∧ s.vm.findClass R_law = some m.cls ∧ (∀ w ∈ lw_tbl, w.before #[Value.ref b] s = true) ∧ va_X b L xs s s.heap ∧ b < s.heap.size ∧ meth.locks = false ∧ (Jvm.Cond.and given_1 narrow_1).before #[Value.ref b] s = true
def Dj (σ ρ : Sto) : Prop := ∀ a, inS σ a → ¬ inS ρ a
/-- the law's frame -/
def LX (D : va_G) (dA : Nat → ClassId) (cs : Nat → Nat) (p : Program) (s : State) (m : MethodId) (meth : Method) (c : Code) (b L : Nat) (xs : Nat → Int32) : Prop :=
  p.tables.exec = Jvm.exec ∧ c.code = code ∧ meth.sig.returnType = ret ∧ c.maxLocals = 4 ∧ s.vm.findClass R_law = some m.cls ∧ (∀ w ∈ gwl, w.before #[Value.ref b] s = true) ∧ KK D dA cs (fun q => s.heap.size ≤ q) s ∧ va_X b L xs s s.heap ∧ b < s.heap.size ∧ meth.locks = false
def U (D : va_G) (dA : Nat → ClassId) (cs : Nat → Nat) (p : Program) (l : Launch) (e : Env) (s : State) (m : MethodId) (below : List Frame) (meth : Method) (c : Code) (b X Y : Nat) (k n pc : Nat) (i : Int32) (st : List Value) (σ ρ : Sto) : Prop :=
  ∀ (ls : Array Slot) (H : Heap) (locs : List Loc), lv_has ls 4 [(0, .ref b), (1, .ref (X - 1)), (2, .ref (Y - 1)), (3, .int i)] → HP D dA cs σ (fun q => s.heap.size ≤ q) H → HP D dA cs ρ (fun q => s.heap.size ≤ q) H → Dj σ ρ → va_S (fun q => s.heap.size ≤ q) s.heap H locs →
    W p l e room_1 s m #[Value.ref b] below meth c H locs k n (lw_Z below #[Value.ref b] s) (F0 m pc ls st)
/-- what is common to all calls, with what stays -/
theorem W_call2 {D : va_G} {dA : Nat → ClassId} {cs : Nat → Nat} {A : Nat → Prop} {p : Program} {l : Launch} {e : Env} {R : Room} {s : State} {m : MethodId} {args : Array Value} {below : List Frame} {meth : Method} {c : Code} {ls : Array Slot} {H : Heap} {locs : List Loc} {cells slots mc' ms' pc : Nat} {Q : State → Prop} {st0 rest : List Value} {rv : Option Value} {σ σ' : Sto}
    (hr : va_Run p l e R s m args below meth c H locs cells slots mc' ms' (F0 m pc ls st0) rest (fun st o t => (o = .returned rv ∧ HP D dA cs σ' (AS σ) t.heap) ∧ va_F (AS σ) st t) (AS σ)) (hS : va_S A s.heap H locs) (hB : ∀ q, AS σ q → A q)
    (kk : ∀ (H1 : Heap) (locs1 : List Loc), HP D dA cs σ' (AS σ) H1 → H.size ≤ H1.size → (∀ q : Nat, q < H.size → ¬ AS σ q → H1[q]? = H[q]?) → va_S A s.heap H1 locs1 → W p l e R s m args below meth c H1 locs1 (cells + mc') (slots + ms') Q (F0 m (pc + 3) ls (rv.toList ++ rest))) : W p l e R s m args below meth c H locs cells slots Q (F0 m pc ls st0) := by
  intro T hT X
  obtain ⟨v, st₀, t, T', L, h0, X', hL, e1, e2, ⟨⟨hv, hp⟩, hz, hk⟩, stp⟩ := hr T hT X
  cases hv
  rw [h0] at hz hk
  obtain ⟨t2, a1, b1⟩ := kk T'.heap (locs ++ L) (by rw [e1]; exact hp) (by rw [e1]; exact hz) (fun q h1 h2 => by rw [e1]; exact hk q h1 h2)
    ⟨Nat.le_trans hS.1 (by rw [e1]; exact hz), fun q h1 h2 => by rw [e1, hk q (Nat.lt_of_lt_of_le h1 hS.1) (fun z => h2 (hB q z))]; exact hS.2.1 q h1 h2, fun q hq => by
      rcases List.mem_append.mp hq with h | h
      · exact hS.2.2 q h
      · exact hB _ (hL q h)⟩ T' rfl X'
  exact ⟨t2, stp t2 a1, b1⟩
theorem celP_lt {D : va_G} {dA : Nat → ClassId} {σ : Sto} {a : Nat} {H : Heap} (h : celP D dA σ a H) : a - 1 < H.size := by
  rcases Nat.lt_or_ge (a - 1) H.size with z | z
  · exact z
  · exfalso
    have hno : H[a - 1]? = none := Array.getElem?_eq_none z
    unfold celP at h
    split at h <;> first | (rw [hno] at h; cases h) | (obtain ⟨cell, q1, -⟩ := h; rw [hno] at q1; cases q1)
/-- the other side's store stays -/
theorem HP_other {D : va_G} {dA : Nat → ClassId} {cs : Nat → Nat} {A : Nat → Prop} {σ ρ : Sto} {H H1 : Heap} (hρ : HP D dA cs ρ A H) (hσ : H.size + 1 = Shn σ) (hj : Dj σ ρ) (hsz : H.size ≤ H1.size) (hk : ∀ q : Nat, q < H.size → ¬ AS σ q → H1[q]? = H[q]?) : HP D dA cs (stn ρ (H1.size + 1)) A H1 := by
  obtain ⟨e0, e1, e2, e3, e4⟩ := hρ
  refine ⟨rfl, e1, by show 1 ≤ H1.size + 1; omega, e3, fun a ha => ?_⟩
  obtain ⟨f1, f2⟩ := e4 a ha
  have hlt := celP_lt f1
  have h0 : a ≠ 0 := fun z => by have z2 := ha.1; rw [z] at z2; have : Stk ρ 0 = 0 := e1; have z3 : 1 ≤ Stk ρ 0 := z2; omega
  refine ⟨celP_kept f1 (hk (a - 1) hlt ?_) rfl rfl rfl rfl rfl, f2⟩
  intro h
  rcases h with h | h
  · rw [Nat.sub_add_cancel (by omega)] at h; exact hj a h ha
  · omega
theorem Dj_call {D : va_G} {dA : Nat → ClassId} {cs : Nat → Nat} {A : Nat → Prop} {σ σ' ρ : Sto} {H H1 : Heap} (hρ : HP D dA cs ρ A H) (hσ : H.size + 1 = Shn σ) (hj : Dj σ ρ) (h1 : HP D dA cs σ' (AS σ) H1) : ∀ a, inS σ' a → ¬ inS ρ a := by
  intro a ha hr
  have h0 : a ≠ 0 := fun z => by have z2 := ha.1; rw [z, h1.2.1] at z2; omega
  rcases (h1.2.2.2.2 a ha).2 with h | h
  · rw [Nat.sub_add_cancel (by omega)] at h; exact hj a h hr
  · have := celP_lt (hρ.2.2.2.2 a hr).1
    omega
section LU
variable {D : va_G} {dA : Nat → ClassId} {cs : Nat → Nat} {p : Program} {l : Launch} {e : Env} {s : State} {m : MethodId} {below : List Frame} {meth : Method} {c : Code} {b X Y L : Nat} {xs : Nat → Int32} {k n pc : Nat} {i : Int32} {st : List Value} {σ ρ : Sto}
theorem U_x (hC : LX D dA cs p s m meth c b L xs) (q : Nat) (hq : pc + 1 = q) (hd : decode code pc = .ok (.aload_n 1, 1)) (h : U D dA cs p l e s m below meth c b X Y k n q i (.ref (X - 1) :: st) σ ρ) : U D dA cs p l e s m below meth c b X Y k n pc i st σ ρ := by
  subst hq
  exact fun ls H locs hl h1 h2 h3 hS => lv_aload_n hC.1 hC.2.1 hd rfl (lv_at hl 1 rfl) (h ls H locs hl h1 h2 h3 hS)
theorem U_m (hC : LX D dA cs p s m meth c b L xs) (q : Nat) (hq : pc + 1 = q) (hd : decode code pc = .ok (.aload_n 2, 1)) (h : U D dA cs p l e s m below meth c b X Y k n q i (.ref (Y - 1) :: st) σ ρ) : U D dA cs p l e s m below meth c b X Y k n pc i st σ ρ := by
  subst hq
  exact fun ls H locs hl h1 h2 h3 hS => lv_aload_n hC.1 hC.2.1 hd rfl (lv_at hl 2 rfl) (h ls H locs hl h1 h2 h3 hS)
/-- script[i + j] -/
theorem U_arg (hC : LX D dA cs p s m meth c b L xs) {z : Int} {j : Int32} (hj : Int32.ofInt z = j) (q : Nat) (hq : pc + 5 = q) (h0 : decode code pc = .ok (.aload_n 0, 1)) (h1 : decode code (pc + 1) = .ok (.iload_n 3, 1)) (h2 : decode code (pc + 2) = .ok (.iconst z, 1)) (h3 : decode code (pc + 3) = .ok (.iadd, 1)) (h4 : decode code (pc + 4) = .ok (.iaload, 1)) (hin : vp_in (i + j) L)
    (h : U D dA cs p l e s m below meth c b X Y k n q i (.int (xs (i + j).toNatClampNeg) :: st) σ ρ) : U D dA cs p l e s m below meth c b X Y k n pc i st σ ρ := by
  subst hq
  intro ls H locs hl g1 g2 g3 hS
  refine lv_aload_n hC.1 hC.2.1 h0 rfl (lv_at hl 0 rfl) ?_
  refine lv_iload_n hC.1 hC.2.1 h1 rfl (lv_at hl 3 rfl) ?_
  refine lv_iconst hC.1 hC.2.1 h2 hj ?_
  refine lv_iadd hC.1 hC.2.1 h3 ?_
  exact va_sld hC.1 hC.2.1 hC.2.2.2.2.2.2.2.1 hC.2.2.2.2.2.2.2.2.1 (Nat.not_le.mpr hC.2.2.2.2.2.2.2.2.1) hS hin h4 (h ls H locs hl g1 g2 g3 hS)
theorem law_room {d' mc' ms' maxL : Nat} (h : d' ≤ 1000) (hL : maxL ≤ 45) : (Rm d' mc' ms').frames + 1 ≤ room_1.frames ∧ 8 + (maxL + 11) + (Rm d' mc' ms').locals ≤ room_1.locals := by
  refine ⟨?_, ?_⟩
  · show d' + 1 ≤ 2048; omega
  · show 8 + (maxL + 11) + 64 * d' ≤ 84000; omega
/-- a call of the class -/
theorem U_callC (hC : LX D dA cs p s m meth c b L xs) {M' : MD} {d' mc' ms' ix' na : Nat} {as : List LV} {rest st0 : List Value} {G : Rs Int32} (q : Nat) (hq : pc + 3 = q) (hcls : M'.1.cls = "LongTrail") (hk : Stk σ X = 12) (hs : Snd M' d' mc' ms' (vR X :: as) true σ (tI G.1) G.2.1 G.2.2) (hG : G.2.1 = true) (hst : (stm as).reverse ++ .ref (X - 1) :: rest = st0) (hn : as.length = na) (hrm : (rest.map fun v => v.category).sum ≤ 8) (hcode : Cond.code M'.1 M'.2.1 M'.2.2.1 M'.2.2.2 ∈ gwl) (hini : Cond.initialized M'.1.cls ∈ gwl) (hdd : M'.1.cls ≠ "java/lang/invoke/MethodHandle" ∧ M'.1.cls ≠ "java/lang/invoke/VarHandle" ∧ (parseMethodDescriptor M'.1.desc).map (fun d => d.parameters.length) = some na) (hd1 : d' ≤ 1000) (hL1 : M'.2.2.1 ≤ 45) (hkm : k + mc' ≤ 600000) (hnm : n + ms' ≤ 7302250) (hd : decode code pc = .ok (.invokevirtual ix', 3)) (hl : Cond.methodLink R_law ix' M'.1 ∈ gwl) (hw : Cond.instanceMethod M'.1 ∈ gwl) (hw2 : Cond.selects "LongTrail" M'.1 M'.1 ∈ gwl)
    (h : U D dA cs p l e s m below meth c b X Y (k + mc') (n + ms') q i (.int G.1 :: rest) G.2.2 (stn ρ (Shn G.2.2))) : U D dA cs p l e s m below meth c b X Y k n pc i st0 σ ρ := by
  subst hq; subst hst; subst hn
  intro ls H locs hl' h1 h2 h3 hS
  obtain ⟨hx, hb, hr, hml, hown, hts, hK, hX, hbl, hlk⟩ := hC
  obtain ⟨g1, g2, g3, g4⟩ := HP_at h1 (show cK σ X 12 = true by simp [cK, hk]) (by omega) (by omega)
  rw [celP_obj (ci := 11) g1 (by omega)] at g3
  obtain ⟨cell, q1, q2, q3, q4⟩ := g3
  have hcl := (hK.1.1 11 _ rfl).2.1
  have hcs : Scs σ = cs := h1.2.2.2.1
  have hM := hs.2 hG l D dA
  have e0 : stm (vR X :: as) = .ref (X - 1) :: stm as := by show vr X :: stm as = _; rw [g2]
  rw [e0, hcs] at hM
  have hB : ∀ q, AS σ q → s.heap.size ≤ q := by
    intro q hq
    rcases hq with h | h
    · exact (h1.2.2.2.2 (q + 1) h).2
    · exact Nat.le_trans hS.1 (by have := h1.1; omega)
  have hlen : (stm as).length = as.length := by simp [stm]
  have hF : FrameBlind (va_Pc (.ref (X - 1) :: stm as) (fun U => HP D dA cs σ (AS σ) U.heap ∧ KK D dA cs (AS σ) U)) := fun a U g mk q => ⟨q.1, q.2.1, KK_same (u := U) (U := U.calling g mk a) rfl rfl q.2.2⟩
  refine W_call2 (σ := σ) (σ' := G.2.2) (rv := (tI G.1).map val) (rest := rest) (va_runV (g := F0 m pc ls ((stm as).reverse ++ .ref (X - 1) :: rest)) (rest := rest) (As := stm as) (b := X - 1) (C := "LongTrail") (nL := 4) (n := as.length) ⟨hx, hb, hml, hown, hts⟩ hM ⟨callB_of as.length hts (goodO hcode) rfl rfl rfl (hts _ hini) (hts _ hl) hdd (law_room hd1 hL1), hts _ hw, hts _ hw2⟩ ⟨hF, ⟨cell, q1, by rw [q3]; rfl, by rw [q2]; exact hcl⟩, fun U hU hW => ⟨rfl, by rw [hU]; exact HP_self h1, KK_call hK hS hB hU hW⟩⟩ rfl hlen hl'.1 rfl (lv_room hrm) hd ⟨hkm, hnm⟩) hS hB (fun H1 locs1 hH1 hz hk1 hS1 => ?_)
  have hρ := HP_other h2 h1.1 h3 hz hk1
  rw [hH1.1] at hρ
  refine h ls H1 locs1 hl' (HP_weak hH1 (fun q _ h => hB q h)) hρ ?_ hS1
  intro a ha hr'
  exact Dj_call h2 h1.1 h3 hH1 a ha hr'
/-- a call of the reference -/
theorem U_callR (hC : LX D dA cs p s m meth c b L xs) {M' : MD} {d' mc' ms' ix' na : Nat} {as : List LV} {rest st0 : List Value} {G : Rs Int32} (q : Nat) (hq : pc + 3 = q) (hcls : M'.1.cls = "LongTrailModel") (hk : Stk ρ Y = 13) (hs : Snd M' d' mc' ms' (vR Y :: as) true ρ (tI G.1) G.2.1 G.2.2) (hG : G.2.1 = true) (hst : (stm as).reverse ++ .ref (Y - 1) :: rest = st0) (hn : as.length = na) (hrm : (rest.map fun v => v.category).sum ≤ 8) (hcode : Cond.code M'.1 M'.2.1 M'.2.2.1 M'.2.2.2 ∈ gwl) (hini : Cond.initialized M'.1.cls ∈ gwl) (hdd : M'.1.cls ≠ "java/lang/invoke/MethodHandle" ∧ M'.1.cls ≠ "java/lang/invoke/VarHandle" ∧ (parseMethodDescriptor M'.1.desc).map (fun d => d.parameters.length) = some na) (hd1 : d' ≤ 1000) (hL1 : M'.2.2.1 ≤ 45) (hkm : k + mc' ≤ 600000) (hnm : n + ms' ≤ 7302250) (hd : decode code pc = .ok (.invokevirtual ix', 3)) (hl : Cond.methodLink R_law ix' M'.1 ∈ gwl) (hw : Cond.instanceMethod M'.1 ∈ gwl) (hw2 : Cond.selects "LongTrailModel" M'.1 M'.1 ∈ gwl)
    (h : U D dA cs p l e s m below meth c b X Y (k + mc') (n + ms') q i (.int G.1 :: rest) (stn σ (Shn G.2.2)) G.2.2) : U D dA cs p l e s m below meth c b X Y k n pc i st0 σ ρ := by
  subst hq; subst hst; subst hn
  intro ls H locs hl' h1 h2 h3 hS
  obtain ⟨hx, hb, hr, hml, hown, hts, hK, hX, hbl, hlk⟩ := hC
  obtain ⟨g1, g2, g3, g4⟩ := HP_at h2 (show cK ρ Y 13 = true by simp [cK, hk]) (by omega) (by omega)
  rw [celP_obj (ci := 12) g1 (by omega)] at g3
  obtain ⟨cell, q1, q2, q3, q4⟩ := g3
  have hcl := (hK.1.1 12 _ rfl).2.1
  have hcs : Scs ρ = cs := h2.2.2.2.1
  have hM := hs.2 hG l D dA
  have e0 : stm (vR Y :: as) = .ref (Y - 1) :: stm as := by show vr Y :: stm as = _; rw [g2]
  rw [e0, hcs] at hM
  have hB : ∀ q, AS ρ q → s.heap.size ≤ q := by
    intro q hq
    rcases hq with h | h
    · exact (h2.2.2.2.2 (q + 1) h).2
    · exact Nat.le_trans hS.1 (by have := h2.1; omega)
  have h3' : Dj ρ σ := fun a ha hb => h3 a hb ha
  have hlen : (stm as).length = as.length := by simp [stm]
  have hF : FrameBlind (va_Pc (.ref (Y - 1) :: stm as) (fun U => HP D dA cs ρ (AS ρ) U.heap ∧ KK D dA cs (AS ρ) U)) := fun a U g mk q => ⟨q.1, q.2.1, KK_same (u := U) (U := U.calling g mk a) rfl rfl q.2.2⟩
  refine W_call2 (σ := ρ) (σ' := G.2.2) (rv := (tI G.1).map val) (rest := rest) (va_runV (g := F0 m pc ls ((stm as).reverse ++ .ref (Y - 1) :: rest)) (rest := rest) (As := stm as) (b := Y - 1) (C := "LongTrailModel") (nL := 4) (n := as.length) ⟨hx, hb, hml, hown, hts⟩ hM ⟨callB_of as.length hts (goodO hcode) rfl rfl rfl (hts _ hini) (hts _ hl) hdd (law_room hd1 hL1), hts _ hw, hts _ hw2⟩ ⟨hF, ⟨cell, q1, by rw [q3]; rfl, by rw [q2]; exact hcl⟩, fun U hU hW => ⟨rfl, by rw [hU]; exact HP_self h2, KK_call hK hS hB hU hW⟩⟩ rfl hlen hl'.1 rfl (lv_room hrm) hd ⟨hkm, hnm⟩) hS hB (fun H1 locs1 hH1 hz hk1 hS1 => ?_)
  have hσ := HP_other h1 h2.1 h3' hz hk1
  rw [hH1.1] at hσ
  refine h ls H1 locs1 hl' hσ (HP_weak hH1 (fun q _ h => hB q h)) ?_ hS1
  intro a ha hr'
  exact Dj_call h1 h2.1 h3' hH1 a hr' ha
theorem U_eq (hC : LX D dA cs p s m meth c b L xs) {x y : Int32} {off : Int} (t : Nat) (hd : decode code pc = .ok (.if_icmp .eq off, 3)) (ht : (pc : Int) + off = (t : Int)) (hxy : x = y) (h : U D dA cs p l e s m below meth c b X Y k n t i st σ ρ) : U D dA cs p l e s m below meth c b X Y k n pc i (.int y :: .int x :: st) σ ρ :=
  fun ls H locs hl h1 h2 h3 hS => lv_icmp_eq hC.1 hC.2.1 hd ht (fun _ => h ls H locs hl h1 h2 h3 hS) (fun z => absurd hxy z)
end LU
