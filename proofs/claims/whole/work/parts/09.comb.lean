/-! joins, loops, calls by what they answer -/
def lp_ {β : Type} (F : β → β) (bad : β) : Nat → β
  | 0 => bad
  | n + 1 => F (lp_ F bad n)
theorem lp_P {β : Type} {F : β → β} {bad : β} (P : β → Prop) (h0 : P bad) (hs : ∀ L, P L → P (F L)) : ∀ n, P (lp_ F bad n)
  | 0 => h0
  | n + 1 => hs _ (lp_P P h0 hs n)
def fuel_ : Nat := 70000
section VJ
variable {α : Type} {M : MD} {d mc ms k n : Nat} {tv : α → Option LV} {F F1 F2 : Rs α} {pc : Nat} {lv : List (Nat × LV)} {st : List LV} {b : Bool} {σ : Sto}
theorem V_jn {β : Type} {j : β} {kf : β → Rs α} (P : β → Prop) (h1 : P j) (h2 : ∀ J, P J → V M d mc ms k n tv (kf J) pc lv st b σ) : V M d mc ms k n tv (lt_ j kf) pc lv st b σ := h2 j h1
theorem V_bad {x : α} {s : Sto} : V M d mc ms k n tv (x, false, s) pc lv st b σ := ⟨fun h => (by cases h), fun h => (by cases h)⟩
theorem Snd_bad {as : List LV} {rv : Option LV} {s : Sto} : Snd M d mc ms as b σ rv false s := ⟨fun h => (by cases h), fun h => (by cases h)⟩
theorem V_ldcw {i : Nat} {v : Int32} (q : Nat) (hq : pc + 3 = q) (hd : decode M.2.1 pc = .ok (.ldc_w i, 3)) (hw : Cond.constant M.1.cls i v ∈ gwl) (h : V M d mc ms k n tv F q lv (vI v :: st) b σ) : V M d mc ms k n tv F pc lv st b σ := by
  subst hq
  exact ⟨h.1, fun hf D dA cs A p l e s m args below meth c ls H locs C hl hH hS => lv_ldcw C.1 C.2.1 C.2.2.2.2.2.2.1 (C.2.2.2.2.2.2.2.1 _ hw) hd (h.2 hf D dA cs A p l e s m args below meth c ls H locs C hl hH hS)⟩
/-- a compare whose sides are known -/
theorem V_icmpge_f {x y : Int32} (q : Nat) (hq : pc + 3 = q) {off : Int} (t : Nat) (hd : decode M.2.1 pc = .ok (.if_icmp .ge off, 3)) (ht : (pc : Int) + off = (t : Int)) (hc : x < y) (h : V M d mc ms k n tv F q lv st b σ) : V M d mc ms k n tv F pc lv (vI y :: vI x :: st) b σ := by
  subst hq
  exact ⟨h.1, fun hf D dA cs A p l e s m args below meth c ls H locs C hl hH hS => lv_icmp_ge C.1 C.2.1 hd ht (fun z => absurd z (Int32.not_le.mpr hc)) (fun _ => h.2 hf D dA cs A p l e s m args below meth c ls H locs C hl hH hS)⟩
theorem V_icmpge_t {x y : Int32} {off : Int} (t : Nat) (hd : decode M.2.1 pc = .ok (.if_icmp .ge off, 3)) (ht : (pc : Int) + off = (t : Int)) (hc : y ≤ x) (h : V M d mc ms k n tv F t lv st b σ) : V M d mc ms k n tv F pc lv (vI y :: vI x :: st) b σ :=
  ⟨h.1, fun hf D dA cs A p l e s m args below meth c ls H locs C hl hH hS => lv_icmp_ge C.1 C.2.1 hd ht (fun _ => h.2 hf D dA cs A p l e s m args below meth c ls H locs C hl hH hS) (fun z => absurd hc z)⟩
theorem V_istore_c {i : Fin 4} {x : Int32} (lv' : List (Nat × LV)) (q : Nat) (hq : pc + 1 = q) (hd : decode M.2.1 pc = .ok (.istore_n i, 1)) (hn : (i : Nat) < M.2.2.1) (hl' : ((i : Nat), vI x) :: lv.filter (fun q => !(q.1 == (i : Nat)) && !(q.1 + 1 == (i : Nat) && cat q.2 == 2)) = lv') (h : V M d mc ms k n tv F q lv' st b σ) : V M d mc ms k n tv F pc lv (vI x :: st) b σ := by
  subst hq
  exact ⟨h.1, fun hf D dA cs A p l e s m args below meth c ls H locs C hl hH hS => lv_istore_n C.1 C.2.1 hd rfl hl hn (lvm_st hl') (fun ls hl => (h.2 hf D dA cs A p l e s m args below meth c ls H locs C hl hH hS))⟩
theorem V_iinc_c {i : Nat} {z : Int} {x w : Int32} (lv' : List (Nat × LV)) (q : Nat) (hq : pc + 3 = q) (hd : decode M.2.1 pc = .ok (.iinc i z, 3)) (g : Nat) (hg : lv[g]? = some (i, vI x)) (hw : x + Int32.ofInt z = w) (hn : i < M.2.2.1) (hl' : (i, vI w) :: lv.filter (fun q => !(q.1 == i) && !(q.1 + 1 == i && cat q.2 == 2)) = lv') (h : V M d mc ms k n tv F q lv' st b σ) : V M d mc ms k n tv F pc lv st b σ := by
  subst hq
  exact ⟨h.1, fun hf D dA cs A p l e s m args below meth c ls H locs C hl hH hS => lv_iinc C.1 C.2.1 hd hl (lvm_at hg) hw hn (lvm_st hl') (fun ls hl => (h.2 hf D dA cs A p l e s m args below meth c ls H locs C hl hH hS))⟩
theorem V_tswD {x : Int32} {dflt lo hi : Int} {offs : Array Int} {len : Nat} (t : Nat) (hd : decode M.2.1 pc = .ok (.tableswitch dflt lo hi offs, len)) (ht : (pc : Int) + dflt = (t : Int)) (hsz : hi < lo + (offs.size : Int)) (hall : ∀ z : Nat, x.toInt = lo + (z : Int) → z < offs.size → offs[z]? = some dflt) (h : V M d mc ms k n tv F t lv st b σ) : V M d mc ms k n tv F pc lv (vI x :: st) b σ := by
  by_cases h1 : x.toInt < lo
  · exact V_tswOut t hd (Or.inl h1) ht h
  · by_cases h2 : hi < x.toInt
    · exact V_tswOut t hd (Or.inr h2) ht h
    · exact V_tswIn t hd h1 h2 (hall _ (by omega) (by omega)) ht h
end VJ
