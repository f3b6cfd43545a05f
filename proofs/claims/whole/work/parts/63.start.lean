/-! from the law's entry to its loop -/
theorem wd_191 : Jvm.Cond.classLink "LongTrailLaw" (7 : Nat) "LongTrail" ∈ gwl := gw_in (List.mem_of_getElem? (i := 191) (by decide +kernel)) (by decide +kernel)
theorem wd_192 : Jvm.Cond.instantiable "LongTrail" (8 : Nat) ∈ gwl := gw_in (List.mem_of_getElem? (i := 192) (by decide +kernel)) (by decide +kernel)
theorem wd_193 : Jvm.Cond.methodLink "LongTrailLaw" (9 : Nat) ({ cls := "LongTrail", name := "<init>", desc := "()V" } : Jvm.MethodName) ∈ gwl := gw_in (List.mem_of_getElem? (i := 193) (by decide +kernel)) (by decide +kernel)
theorem wd_194 : Jvm.Cond.instanceMethod ({ cls := "LongTrail", name := "<init>", desc := "()V" } : Jvm.MethodName) ∈ gwl := gw_in (List.mem_of_getElem? (i := 194) (by decide +kernel)) (by decide +kernel)
theorem wd_1498 : Jvm.Cond.classLink "LongTrailLaw" (10 : Nat) "LongTrailModel" ∈ gwl := gw_in (List.mem_of_getElem? (i := 1498) (by decide +kernel)) (by decide +kernel)
theorem wd_1499 : Jvm.Cond.instantiable "LongTrailModel" (35 : Nat) ∈ gwl := gw_in (List.mem_of_getElem? (i := 1499) (by decide +kernel)) (by decide +kernel)
theorem wd_1500 : Jvm.Cond.methodLink "LongTrailLaw" (12 : Nat) ({ cls := "LongTrailModel", name := "<init>", desc := "()V" } : Jvm.MethodName) ∈ gwl := gw_in (List.mem_of_getElem? (i := 1500) (by decide +kernel)) (by decide +kernel)
theorem wd_1501 : Jvm.Cond.instanceMethod ({ cls := "LongTrailModel", name := "<init>", desc := "()V" } : Jvm.MethodName) ∈ gwl := gw_in (List.mem_of_getElem? (i := 1501) (by decide +kernel)) (by decide +kernel)
theorem HP_emp {D : va_G} {dA : Nat → ClassId} {cs : Nat → Nat} {A : Nat → Prop} {H : Heap} : HP D dA cs (emp (H.size + 1) cs) A H :=
  ⟨rfl, rfl, by show 1 ≤ H.size + 1; omega, rfl, fun a ha => absurd ha.1 (by show ¬ 1 ≤ 0; omega)⟩

section LS
variable {D : va_G} {dA : Nat → ClassId} {cs : Nat → Nat} {p : Program} {l : Launch} {e : Env} {s : State} {m : MethodId} {below : List Frame} {meth : Method} {c : Code} {b L : Nat} {xs : Nat → Int32}
theorem W_newL (hC : LX D dA cs p s m meth c b L xs) {ls : Array Slot} {H : Heap} {locs : List Loc} {k n pc ci i N : Nat} {C : String} {T : u_T} {st : List Value} {Q : State → Prop} {σ ρ : Sto} (hcO : cOK ci C T N) (hci : ci < 20) (hdef : ∀ j, j < N → fv (nC σ (ci + 1) 0) (Shn σ) j (clY ci j) = defaultValue (clY ci j)) (hd : decode code pc = .ok (.new i, 3)) (hw : Cond.classLink R_law i C ∈ gwl) (hw2 : Cond.instantiable C N ∈ gwl) (hw3 : Cond.initialized C ∈ gwl) (hmc : k + 1 ≤ 600000) (hms : n + N ≤ 7302250)
    (h1 : HP D dA cs σ (fun q => s.heap.size ≤ q) H) (h2 : HP D dA cs ρ (fun q => s.heap.size ≤ q) H) (hj : Dj σ ρ) (hS : va_S (fun q => s.heap.size ≤ q) s.heap H locs)
    (kk : ∀ H' : Heap, HP D dA cs (nC σ (ci + 1) 0) (fun q => s.heap.size ≤ q) H' → HP D dA cs (stn ρ (Shn (nC σ (ci + 1) 0))) (fun q => s.heap.size ≤ q) H' → Dj (nC σ (ci + 1) 0) ρ → va_S (fun q => s.heap.size ≤ q) s.heap H' locs → W p l e room_1 s m #[Value.ref b] below meth c H' locs (k + 1) (n + N) Q (F0 m (pc + 3) ls (.ref (Shn σ - 1) :: st))) :
    W p l e room_1 s m #[Value.ref b] below meth c H locs k n Q (F0 m pc ls st) := by
  obtain ⟨hx, hb, hr, hml, hown, hts, hK, hX, hbl, hlk⟩ := hC
  have hKn := hK.1.1 ci _ hcO.1
  have hz : Shn σ - 1 = H.size := by rw [← h1.1, Nat.add_sub_cancel]
  refine W.newcK hx hb hown (hts _ hw) (hts _ hw2) (hts _ hw3) rfl hd hmc hms hKn.2.1 rfl fun H' kC hkC e1 e2 e3 => ?_
  have hc : celP D dA (nC σ (ci + 1) 0) (Shn σ) H' := by
    rw [celP_obj (σ := nC σ (ci + 1) 0) nC_tk hci, hcO.2.1, hz]
    exact (u_born (clY ci) hts hcO.2.2.1 hKn hkC e1 hcO.2.2.2.1).to (fun j hj => (hdef j hj).symm)
  have hσ := HP_new h1 (show s.heap.size ≤ H.size from hS.1) e2 e3 hc
  have hρ := HP_other (H1 := H') h2 h1.1 hj (by rw [e2]; omega) (fun q hq _ => e3 q hq)
  rw [hσ.1] at hρ
  rw [← hz]
  refine kk H' hσ hρ ?_ (hS.grow e2 e3)
  intro a ha hra
  by_cases hxa : a = Shn σ
  · have := celP_lt (h2.2.2.2.2 a hra).1
    have h0 := h1.1
    omega
  · have hx' : inS σ a := by unfold inS at ha ⊢; rw [show Stk (nC σ (ci + 1) 0) a = Stk σ a from up1_ne hxa] at ha; exact ha
    exact hj a hx' hra
theorem W_initL (hC : LX D dA cs p s m meth c b L xs) {ls : Array Slot} {H : Heap} {locs : List Loc} {k n pc ci i N : Nat} {C : String} {T : u_T} {rest : List Value} {Q : State → Prop} {σ ρ : Sto} {M' : MD} {d' mc' ms' r0 : Nat} {G : Rs Unit} (hcO : cOK ci C T N) (hci : ci < 20) (hk : Stk σ r0 = ci + 1) (hs : Snd M' d' mc' ms' [vR r0] true σ (tU G.1) G.2.1 G.2.2) (hG : G.2.1 = true) (hls : ls.size = 4) (hrm : (rest.map fun v => v.category).sum ≤ 8) (hcode : Cond.code M'.1 M'.2.1 M'.2.2.1 M'.2.2.2 ∈ gwl) (hini : Cond.initialized M'.1.cls ∈ gwl) (hdd : M'.1.cls ≠ "java/lang/invoke/MethodHandle" ∧ M'.1.cls ≠ "java/lang/invoke/VarHandle" ∧ (parseMethodDescriptor M'.1.desc).map (fun d => d.parameters.length) = some 0) (hd1 : d' ≤ 1000) (hL1 : M'.2.2.1 ≤ 45) (hkm : k + mc' ≤ 600000) (hnm : n + ms' ≤ 7302250) (hd : decode code pc = .ok (.invokespecial i, 3)) (hl : Cond.methodLink R_law i M'.1 ∈ gwl) (hw : Cond.instanceMethod M'.1 ∈ gwl) (hw2 : M'.1.name = "<init>") (hw3 : M'.2.2.2 = none)
    (h1 : HP D dA cs σ (fun q => s.heap.size ≤ q) H) (h2 : HP D dA cs ρ (fun q => s.heap.size ≤ q) H) (hj : Dj σ ρ) (hS : va_S (fun q => s.heap.size ≤ q) s.heap H locs)
    (kk : ∀ (H' : Heap) (locs' : List Loc), HP D dA cs G.2.2 (fun q => s.heap.size ≤ q) H' → HP D dA cs (stn ρ (Shn G.2.2)) (fun q => s.heap.size ≤ q) H' → Dj G.2.2 ρ → va_S (fun q => s.heap.size ≤ q) s.heap H' locs' → W p l e room_1 s m #[Value.ref b] below meth c H' locs' (k + mc') (n + ms') Q (F0 m (pc + 3) ls rest)) :
    W p l e room_1 s m #[Value.ref b] below meth c H locs k n Q (F0 m pc ls (.ref (r0 - 1) :: rest)) := by
  obtain ⟨hx, hb, hr, hml, hown, hts, hK, hX, hbl, hlk⟩ := hC
  obtain ⟨g1, g2, g3, g4⟩ := HP_at h1 (show cK σ r0 (ci + 1) = true by simp [cK, hk]) (by omega) (by omega)
  have hcs : Scs σ = cs := h1.2.2.2.1
  have hM := hs.2 hG l D dA
  have e0 : stm [vR r0] = .ref (r0 - 1) :: stm [] := by show vr r0 :: stm [] = _; rw [g2]
  rw [e0, hcs] at hM
  have hB : ∀ q, AS σ q → s.heap.size ≤ q := by
    intro q hq
    rcases hq with h | h
    · exact (h1.2.2.2.2 (q + 1) h).2
    · exact Nat.le_trans hS.1 (by have := h1.1; omega)
  have hF : FrameBlind (va_Pc (.ref (r0 - 1) :: stm []) (fun U => HP D dA cs σ (AS σ) U.heap ∧ KK D dA cs (AS σ) U)) := fun a U g mk q => ⟨q.1, q.2.1, KK_same (u := U) (U := U.calling g mk a) rfl rfl q.2.2⟩
  refine W_call2 (σ := σ) (σ' := G.2.2) (rv := (tU G.1).map val) (rest := rest) (va_runI (g := F0 m pc ls (.ref (r0 - 1) :: rest)) (rest := rest) (As := stm []) (b := r0 - 1) (nL := 4) (n := 0) ⟨hx, hb, hml, hown, hts⟩ hM ⟨callB_of 0 hts (goodO hcode) (by unfold wsO; rw [hw3]) rfl rfl (hts _ hini) (hts _ hl) hdd (law_room hd1 hL1), hw2, hts _ hw⟩ ⟨hF, fun U hU hW => ⟨rfl, by rw [hU]; exact HP_self h1, KK_call hK hS hB hU hW⟩⟩ rfl rfl hls rfl (lv_room hrm) hd ⟨hkm, hnm⟩) hS hB (fun H1 locs1 hH1 hz hk1 hS1 => ?_)
  have hρ := HP_other h2 h1.1 hj hz hk1
  rw [hH1.1] at hρ
  exact kk H1 locs1 (HP_weak hH1 (fun q _ h => hB q h)) hρ (Dj_call h2 h1.1 hj hH1) hS1
set_option maxRecDepth 100000 in
set_option maxHeartbeats 4000000 in
theorem law_open1 (hC : LX D dA cs p s m meth c b L xs) (hL : L ≤ 3072) {Rel : Sto → Sto → Prop} {C R : Rs Unit} {q : Nat} (hq : Shn C.2.2 = q) (hsC : Snd M_Trail_init 3 172 2899 [vR (s.heap.size + 1)] true (nC (emp (s.heap.size + 1) cs) 12 0) (tU C.1) C.2.1 C.2.2) (hsR : Snd M_Model_init 1 21 10362 [vR q] true (nC (emp q cs) 13 0) (tU R.1) R.2.1 R.2.2) (p1 : C.2.1 = true) (p2 : R.2.1 = true) (p3 : Rel (stn C.2.2 (Shn R.2.2)) R.2.2) (p4 : Ops (s.heap.size + 1) q Rel) : W p l e room_1 s m #[Value.ref b] below meth c s.heap [] 0 0 (lw_Z below #[Value.ref b] s) (entryFrame m ([Value.ref b] : List Value).toArray 4) := by
  have hl := lv_entry ([.ref b]) (n := 4) (Nat.le_of_ble_eq_true rfl)
  rw [lg_entry_eq]
  generalize (lg_sl ([.ref b]) ++ List.replicate (4 - (lg_sl ([.ref b])).length) Slot.unset).toArray = ls at hl ⊢
  have hl : lv_has ls 4 [(0, .ref b)] := hl
  have hS : va_S (fun q => s.heap.size ≤ q) s.heap s.heap [] := va_S.rf
  refine W_newL hC (ci := 11) (σ := emp (s.heap.size + 1) cs) (ρ := emp (s.heap.size + 1) cs) ck_Trail (by decide) nd_Trail (show decode code 0 = .ok (.new 7, 3) by decide +kernel) wd_191 wd_192 wd_170 (by decide) (by decide) HP_emp HP_emp (fun a ha _ => absurd ha.1 (by show ¬ 1 ≤ 0; omega)) hS (fun H h1 h2 h3 hS => ?_)
  refine lv_dup hC.1 hC.2.1 (show decode code 3 = .ok (.dup, 1) by decide +kernel) rfl ?_
  refine W_initL hC (M' := M_Trail_init) (r0 := s.heap.size + 1) (G := C) ck_Trail (by decide) nC_tk hsC p1 hl.1 (Nat.le_of_ble_eq_true rfl) wd_195 wd_170 (by decide) (by decide) (by decide) (by decide) (by decide) (show decode code 4 = .ok (.invokespecial 9, 3) by decide +kernel) wd_193 wd_194 rfl rfl h1 h2 h3 hS (fun H locs h1 h2 h3 hS => ?_)
  refine lv_astore_n (lv' := [(1, .ref (s.heap.size + 1 - 1)), (0, .ref b)]) hC.1 hC.2.1 (show decode code 7 = .ok (.astore_n 1, 1) by decide +kernel) rfl hl (by decide) rfl (fun ls hl => ?_)
  have h2 : HP D dA cs (emp q cs) (fun q => s.heap.size ≤ q) H := by rw [← hq]; exact h2
  have h3' : Dj (emp q cs) C.2.2 := fun a ha _ => absurd ha.1 (by show ¬ 1 ≤ 0; omega)
  refine W_newL hC (ci := 12) (σ := emp q cs) (ρ := C.2.2) ck_Model (by decide) nd_Model (show decode code 8 = .ok (.new 10, 3) by decide +kernel) wd_1498 wd_1499 wd_181 (by decide) (by decide) h2 h1 h3' hS (fun H h1 h2 h3 hS => ?_)
  refine lv_dup hC.1 hC.2.1 (show decode code 11 = .ok (.dup, 1) by decide +kernel) rfl ?_
  refine W_initL hC (M' := M_Model_init) (r0 := q) (G := R) ck_Model (by decide) (nC_tk (σ := emp q cs)) hsR p2 hl.1 (Nat.le_of_ble_eq_true rfl) wd_1502 wd_181 (by decide) (by decide) (by decide) (by decide) (by decide) (show decode code 12 = .ok (.invokespecial 12, 3) by decide +kernel) wd_1500 wd_1501 rfl rfl h1 h2 h3 hS (fun H locs h1 h2 h3 hS => ?_)
  refine lv_astore_n (lv' := [(2, .ref (q - 1)), (1, .ref (s.heap.size + 1 - 1)), (0, .ref b)]) hC.1 hC.2.1 (show decode code 15 = .ok (.astore_n 2, 1) by decide +kernel) rfl hl (by decide) rfl (fun ls hl => ?_)
  refine lv_iconst (v := 0) hC.1 hC.2.1 (show decode code 16 = .ok (.iconst 0, 1) by decide +kernel) rfl ?_
  refine lv_istore_n (lv' := [(3, .int 0), (2, .ref (q - 1)), (1, .ref (s.heap.size + 1 - 1)), (0, .ref b)]) hC.1 hC.2.1 (show decode code 17 = .ok (.istore_n 3, 1) by decide +kernel) rfl hl (by decide) rfl (fun ls hl => ?_)
  exact law_loop hC p4 hL 512 0 _ _ _ _ (by omega) (by omega) (by decide) (by decide) p3 ls H locs (lv_sub hl [3, 2, 1, 0] rfl) h2 h1 (fun a ha hb => h3 a hb ha) hS
theorem law_open (hC : LX D dA cs p s m meth c b L xs) (hL : L ≤ 3072) {Rel : Nat → Nat → Sto → Sto → Prop} (hP : Plain Rel) (hcs : ∀ i, i ≤ 10 → cs i ≠ 0) (hcd : DS cs) : W p l e room_1 s m #[Value.ref b] below meth c s.heap [] 0 0 (lw_Z below #[Value.ref b] s) (entryFrame m ([Value.ref b] : List Value).toArray 4) := by
  have hs1 : Snd M_Trail_init 3 172 2899 [vR (s.heap.size + 1)] true (nC (emp (s.heap.size + 1) cs) 12 0) (tU (stC (s.heap.size + 1) cs).1) (stC (s.heap.size + 1) cs).2.1 (stC (s.heap.size + 1) cs).2.2 := by
    unfold stC
    exact s_Trail_init (s.heap.size + 1) true (nC (emp (s.heap.size + 1) cs) 12 0)
  have hs2 : Snd M_Model_init 1 21 10362 [vR (Shn (stC (s.heap.size + 1) cs).2.2)] true (nC (emp (Shn (stC (s.heap.size + 1) cs).2.2) cs) 13 0) (tU (stR (s.heap.size + 1) cs).1) (stR (s.heap.size + 1) cs).2.1 (stR (s.heap.size + 1) cs).2.2 := by
    unfold stR
    exact s_Model_init (Shn (stC (s.heap.size + 1) cs).2.2) true (nC (emp (Shn (stC (s.heap.size + 1) cs).2.2) cs) 13 0)
  have hp := hP (s.heap.size + 1) cs (by omega) hcs hcd
  revert hs1 hs2 hp
  generalize stR (s.heap.size + 1) cs = R
  generalize stC (s.heap.size + 1) cs = C
  intro hs1 hs2 hp
  exact law_open1 hC hL (C := C) (R := R) rfl hs1 hs2 hp.1 hp.2.1 hp.2.2.1 hp.2.2.2
end LS
