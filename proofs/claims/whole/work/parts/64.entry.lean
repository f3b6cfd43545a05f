/-! what holds at the law's entry -/
theorem nw_of {A : Array Value} {s : State} (hts : ∀ w ∈ lw_tbl, w.before A s = true) : ∀ w ∈ nwl, va_Nw w s := by
  intro w hw
  have h := hts w (List.mem_filter.mp hw).1
  have hn := (List.mem_filter.mp hw).2
  cases w <;> first | exact va_Nw.of rfl h | (simp [isNst] at hn)
theorem arrP {A : Array Value} {s : State} {ty : FieldType} (h : (Cond.arrayClass ty).before A s = true) (hp : ∀ C, ty ≠ .object C) : ∃ cA : ClassId, ArrOfT s cA ty ∧ va_RA s cA ty := by
  obtain ⟨cA, kA, comp, h1, h2, h3⟩ := Cond.arrayClass_spec h
  refine ⟨cA, fun n z => ⟨fun k h => (by cases h), kA, h2, comp, h3⟩, ?_⟩
  cases ty <;> first | exact h1 | exact absurd rfl (hp _)
theorem arrQ {A : Array Value} {s : State} {C : String} (h : (Cond.arrayOver (.object C)).before A s = true) : ∃ cA : ClassId, ArrOfT s cA (.object C) ∧ va_RA s cA (.object C) := by
  obtain ⟨comp, cA, kA, h1, -, h2, h3, h4⟩ := Cond.arrayOver_spec h
  exact ⟨cA, fun n z => ⟨fun k h => (by cases h), kA, h2, comp, h3⟩, kA, comp, h2, h3, h1, h4⟩
def csF (tK : Nat) (aK aV : Nat → Nat) (fm : Nat) : Nat → Nat := fun i => match i with
  | 0 => tK + 1
  | 1 => aK 0 + 1
  | 2 => aK 1 + 1
  | 3 => aK 2 + 1
  | 4 => aK 3 + 1
  | 5 => aK 4 + 1
  | 6 => aV 0 + 1
  | 7 => aV 1 + 1
  | 8 => aV 2 + 1
  | 9 => aV 3 + 1
  | 10 => aV 4 + 1
  | _ => fm
theorem csF_K {tK fm : Nat} {aK aV : Nat → Nat} : ∀ i, i < 5 → csF tK aK aV fm (1 + i) - 1 = aK i
  | 0, _ => rfl
  | 1, _ => rfl
  | 2, _ => rfl
  | 3, _ => rfl
  | 4, _ => rfl
  | _ + 5, h => absurd h (by omega)
theorem csF_V {tK fm : Nat} {aK aV : Nat → Nat} : ∀ i, i < 5 → csF tK aK aV fm (6 + i) - 1 = aV i
  | 0, _ => rfl
  | 1, _ => rfl
  | 2, _ => rfl
  | 3, _ => rfl
  | 4, _ => rfl
  | _ + 5, h => absurd h (by omega)
theorem csF_0 {tK fm : Nat} {aK aV : Nat → Nat} : ∀ i, i ≤ 10 → csF tK aK aV fm i ≠ 0
  | 0, _ => Nat.succ_ne_zero _
  | 1, _ => Nat.succ_ne_zero _
  | 2, _ => Nat.succ_ne_zero _
  | 3, _ => Nat.succ_ne_zero _
  | 4, _ => Nat.succ_ne_zero _
  | 5, _ => Nat.succ_ne_zero _
  | 6, _ => Nat.succ_ne_zero _
  | 7, _ => Nat.succ_ne_zero _
  | 8, _ => Nat.succ_ne_zero _
  | 9, _ => Nat.succ_ne_zero _
  | 10, _ => Nat.succ_ne_zero _
  | _ + 11, h => absurd h (by omega)
def sTm : Nat → Term := fun i => match i with
  | 0 => .string "LongTrail$Tape" 95
  | 1 => .string "LongTrail$Tape" 128
  | 2 => .string "LongTrail$Tape" 130
  | 3 => .string "LongTrail$Tape" 132
  | _ => .string "LongTrail$Tape" 134
theorem lt5 {P : Nat → Prop} (h0 : P 0) (h1 : P 1) (h2 : P 2) (h3 : P 3) (h4 : P 4) : ∀ i, i < 5 → P i
  | 0, _ => h0
  | 1, _ => h1
  | 2, _ => h2
  | 3, _ => h3
  | 4, _ => h4
  | _ + 5, h => absurd h (by omega)
set_option maxRecDepth 100000 in
set_option maxHeartbeats 4000000 in
theorem law_ctx {p : Program} {s : State} {m : MethodId} {meth : Method} {c : Code} {b L : Nat} {xs : Nat → Int32} (C0 : lw_At p s m meth c b L xs) : ∃ (D : va_G) (dA : Nat → ClassId) (cs : Nat → Nat), LX D dA cs p s m meth c b L xs ∧ (∀ i, i ≤ 10 → cs i ≠ 0) ∧ DS cs := by
  obtain ⟨hx, hb, hr, hml, hown, hts, hX, hbl, hlocks, hgv⟩ := id C0
  have hg := flat_of_before _ hgv
  have htg : ∀ w ∈ gwl, w.before #[Value.ref b] s = true := fun w hw => hts w (List.mem_filter.mp hw).1
  have hA : ∀ a : Nat, a < s.heap.size → ¬ s.heap.size ≤ a := fun a h => Nat.not_le.mpr h
  obtain ⟨c0, i0, k0⟩ := u_known (C := "LongTrail$Album") (T := fT_Album) (N := 7) (n := 7) htg ck_Album.2.2.1 (hts _ (List.mem_of_getElem? (i := 388) (by decide +kernel)))
  obtain ⟨c1, i1, k1⟩ := u_known (C := "LongTrail$Ground") (T := fT_Ground) (N := 12) (n := 12) htg ck_Ground.2.2.1 (hts _ (List.mem_of_getElem? (i := 206) (by decide +kernel)))
  obtain ⟨c2, i2, k2⟩ := u_known (C := "LongTrail$Laws") (T := fT_Laws) (N := 5) (n := 5) htg ck_Laws.2.2.1 (hts _ (List.mem_of_getElem? (i := 267) (by decide +kernel)))
  obtain ⟨c3, i3, k3⟩ := u_known (C := "LongTrail$Permits") (T := fT_Permits) (N := 7) (n := 7) htg ck_Permits.2.2.1 (hts _ (List.mem_of_getElem? (i := 323) (by decide +kernel)))
  obtain ⟨c4, i4, k4⟩ := u_known (C := "LongTrail$Post") (T := fT_Post) (N := 6) (n := 6) htg ck_Post.2.2.1 (hts _ (List.mem_of_getElem? (i := 292) (by decide +kernel)))
  obtain ⟨c5, i5, k5⟩ := u_known (C := "LongTrail$Sheet") (T := fT_Sheet) (N := 3) (n := 3) htg ck_Sheet.2.2.1 (hts _ (List.mem_of_getElem? (i := 581) (by decide +kernel)))
  obtain ⟨c6, i6, k6⟩ := u_known (C := "LongTrail$Supply") (T := fT_Supply) (N := 8) (n := 8) htg ck_Supply.2.2.1 (hts _ (List.mem_of_getElem? (i := 354) (by decide +kernel)))
  obtain ⟨c7, i7, k7⟩ := u_known (C := "LongTrail$Tape") (T := fT_Tape) (N := 12) (n := 12) htg ck_Tape.2.2.1 (hts _ (List.mem_of_getElem? (i := 535) (by decide +kernel)))
  obtain ⟨c8, i8, k8⟩ := u_known (C := "LongTrail$Text") (T := fT_Text) (N := 5) (n := 5) htg ck_Text.2.2.1 (hts _ (List.mem_of_getElem? (i := 940) (by decide +kernel)))
  obtain ⟨c9, i9, k9⟩ := u_known (C := "LongTrail$Walker") (T := fT_Walker) (N := 18) (n := 18) htg ck_Walker.2.2.1 (hts _ (List.mem_of_getElem? (i := 419) (by decide +kernel)))
  obtain ⟨c10, i10, k10⟩ := u_known (C := "LongTrail$World") (T := fT_World) (N := 9) (n := 9) htg ck_World.2.2.1 (hts _ (List.mem_of_getElem? (i := 200) (by decide +kernel)))
  obtain ⟨c11, i11, k11⟩ := u_known (C := "LongTrail") (T := fT_Trail) (N := 8) (n := 8) htg ck_Trail.2.2.1 (hts _ (List.mem_of_getElem? (i := 192) (by decide +kernel)))
  obtain ⟨c12, i12, k12⟩ := u_known (C := "LongTrailModel") (T := fT_Model) (N := 35) (n := 35) htg ck_Model.2.2.1 (hts _ (List.mem_of_getElem? (i := 1499) (by decide +kernel)))
  obtain ⟨a0, ah0⟩ := arrP (ty := .int) (hts _ (List.mem_of_getElem? (i := 265) (by decide +kernel))) (fun _ h => by cases h)
  obtain ⟨a1, ah1⟩ := arrP (ty := .byte) (hts _ (List.mem_of_getElem? (i := 578) (by decide +kernel))) (fun _ h => by cases h)
  obtain ⟨a2, ah2⟩ := arrP (ty := .long) (hts _ (List.mem_of_getElem? (i := 386) (by decide +kernel))) (fun _ h => by cases h)
  obtain ⟨a3, ah3⟩ := arrP (ty := .boolean) (hts _ (List.mem_of_getElem? (i := 1610) (by decide +kernel))) (fun _ h => by cases h)
  have ao4 : (Cond.arrayOver (.object "LongTrail$Text")).before #[Value.ref b] s = true := hts _ (List.mem_of_getElem? (i := 273) (by decide +kernel))
  obtain ⟨a4, ah4⟩ := arrQ ao4
  have ao5 : (Cond.arrayOver (.object "LongTrail$Walker")).before #[Value.ref b] s = true := hts _ (List.mem_of_getElem? (i := 418) (by decide +kernel))
  obtain ⟨a5, ah5⟩ := arrQ ao5
  have ao6 : (Cond.arrayOver (.object "LongTrail$Sheet")).before #[Value.ref b] s = true := hts _ (List.mem_of_getElem? (i := 580) (by decide +kernel))
  obtain ⟨a6, ah6⟩ := arrQ ao6
  obtain ⟨tK, hK1, hK2⟩ := va_Tof (tm := (Term.static "LongTrail$Ground" "KIND_ABOVE" "[I")) (ty := .int) (N := 6) (f := fun j => .int (kaT j)) (A := fun q => s.heap.size ≤ q) (by decide) (hg _ (by decide +kernel)) (va_eqt (hg _ (by decide +kernel))) (fun j hj => by
    match j, hj with
    | 0, _ => exact va_eqt (z := -1) (hg _ (by decide +kernel))
    | 1, _ => exact va_eqt (z := 0) (hg _ (by decide +kernel))
    | 2, _ => exact va_eqt (z := 1) (hg _ (by decide +kernel))
    | 3, _ => exact va_eqt (z := 2) (hg _ (by decide +kernel))
    | 4, _ => exact va_eqt (z := 0) (hg _ (by decide +kernel))
    | 5, _ => exact va_eqt (z := 1) (hg _ (by decide +kernel))
    | _ + 6, h => exact absurd h (by omega)) hA
  have hZ0 := va_Zof (A := fun q => s.heap.size ≤ q) (hts _ (List.mem_of_getElem? (i := 691) (by decide +kernel))) (hts _ (List.mem_of_getElem? (i := 172) (by decide +kernel))) hK1 hA
  have hZ1 := va_Zof (A := fun q => s.heap.size ≤ q) (hts _ (List.mem_of_getElem? (i := 800) (by decide +kernel))) (hts _ (List.mem_of_getElem? (i := 182) (by decide +kernel))) (va_eqi (C := "java/lang/String") (n := "COMPACT_STRINGS") (d := "Z") (z := 1) (hg _ (by decide +kernel))) hA
  have hZ2 : ∃ fm : Nat, va_Z "jdk/internal/util/Preconditions" "SIOOBE_FORMATTER" "Ljava/util/function/BiFunction;" (vr fm) (fun q => s.heap.size ≤ q) s s.heap := by
    rcases va_Zqof (C := "jdk/internal/util/Preconditions") (n := "SIOOBE_FORMATTER") (d := "Ljava/util/function/BiFunction;") (A := fun q => s.heap.size ≤ q) (hts _ (List.mem_of_getElem? (i := 808) (by decide +kernel))) (hts _ (List.mem_of_getElem? (i := 184) (by decide +kernel))) (hg _ (by decide +kernel)) hA with h | ⟨t, h⟩
    · exact ⟨0, h⟩
    · exact ⟨t + 1, h⟩
  obtain ⟨fm, hZ2⟩ := hZ2
  obtain ⟨aK, aV, hS1, hS2⟩ := vk_Sof (N := 5) (tm := sTm) (len := slen) (byt := sbyt) (A := fun q => s.heap.size ≤ q) (by decide) (lt5 (hg _ (by decide +kernel)) (hg _ (by decide +kernel)) (hg _ (by decide +kernel)) (hg _ (by decide +kernel)) (hg _ (by decide +kernel))) (lt5 (hg _ (by decide +kernel)) (hg _ (by decide +kernel)) (hg _ (by decide +kernel)) (hg _ (by decide +kernel)) (hg _ (by decide +kernel))) (lt5 (hg _ (by decide +kernel)) (hg _ (by decide +kernel)) (hg _ (by decide +kernel)) (hg _ (by decide +kernel)) (hg _ (by decide +kernel))) (lt5 (hg _ (by decide +kernel)) (hg _ (by decide +kernel)) (hg _ (by decide +kernel)) (hg _ (by decide +kernel)) (hg _ (by decide +kernel)))
    (lt5 (fun j hj => by
      match j, hj with
      | 0, _ => exact hg _ (by decide +kernel)
      | 1, _ => exact hg _ (by decide +kernel)
      | 2, _ => exact hg _ (by decide +kernel)
      | 3, _ => exact hg _ (by decide +kernel)
      | 4, _ => exact hg _ (by decide +kernel)
      | 5, _ => exact hg _ (by decide +kernel)
      | 6, _ => exact hg _ (by decide +kernel)
      | 7, _ => exact hg _ (by decide +kernel)
      | 8, _ => exact hg _ (by decide +kernel)
      | 9, _ => exact hg _ (by decide +kernel)
      | 10, _ => exact hg _ (by decide +kernel)
      | 11, _ => exact hg _ (by decide +kernel)
      | 12, _ => exact hg _ (by decide +kernel)
      | 13, _ => exact hg _ (by decide +kernel)
      | 14, _ => exact hg _ (by decide +kernel)
      | 15, _ => exact hg _ (by decide +kernel)
      | _ + 16, h => exact absurd h (by show ¬ _ + 16 < 16; omega))
      (fun j hj => by
      match j, hj with
      | 0, _ => exact hg _ (by decide +kernel)
      | 1, _ => exact hg _ (by decide +kernel)
      | _ + 2, h => exact absurd h (by show ¬ _ + 2 < 2; omega))
      (fun j hj => by
      match j, hj with
      | 0, _ => exact hg _ (by decide +kernel)
      | 1, _ => exact hg _ (by decide +kernel)
      | _ + 2, h => exact absurd h (by show ¬ _ + 2 < 2; omega))
      (fun j hj => by
      match j, hj with
      | 0, _ => exact hg _ (by decide +kernel)
      | 1, _ => exact hg _ (by decide +kernel)
      | 2, _ => exact hg _ (by decide +kernel)
      | 3, _ => exact hg _ (by decide +kernel)
      | _ + 4, h => exact absurd h (by show ¬ _ + 4 < 4; omega))
      (fun j hj => by
      match j, hj with
      | 0, _ => exact hg _ (by decide +kernel)
      | 1, _ => exact hg _ (by decide +kernel)
      | _ + 2, h => exact absurd h (by show ¬ _ + 2 < 2; omega)))
    (fun i j hi hj hij => by
      match i, j, hi, hj, hij with
      | 0, 0, _, _, h => exact absurd rfl h
      | 0, 1, _, _, _ => exact Or.inl (hg _ (by decide +kernel))
      | 0, 2, _, _, _ => exact Or.inl (hg _ (by decide +kernel))
      | 0, 3, _, _, _ => exact Or.inl (hg _ (by decide +kernel))
      | 0, 4, _, _, _ => exact Or.inl (hg _ (by decide +kernel))
      | 1, 0, _, _, _ => exact Or.inr (hg _ (by decide +kernel))
      | 1, 1, _, _, h => exact absurd rfl h
      | 1, 2, _, _, _ => exact Or.inl (hg _ (by decide +kernel))
      | 1, 3, _, _, _ => exact Or.inl (hg _ (by decide +kernel))
      | 1, 4, _, _, _ => exact Or.inl (hg _ (by decide +kernel))
      | 2, 0, _, _, _ => exact Or.inr (hg _ (by decide +kernel))
      | 2, 1, _, _, _ => exact Or.inr (hg _ (by decide +kernel))
      | 2, 2, _, _, h => exact absurd rfl h
      | 2, 3, _, _, _ => exact Or.inl (hg _ (by decide +kernel))
      | 2, 4, _, _, _ => exact Or.inl (hg _ (by decide +kernel))
      | 3, 0, _, _, _ => exact Or.inr (hg _ (by decide +kernel))
      | 3, 1, _, _, _ => exact Or.inr (hg _ (by decide +kernel))
      | 3, 2, _, _, _ => exact Or.inr (hg _ (by decide +kernel))
      | 3, 3, _, _, h => exact absurd rfl h
      | 3, 4, _, _, _ => exact Or.inl (hg _ (by decide +kernel))
      | 4, 0, _, _, _ => exact Or.inr (hg _ (by decide +kernel))
      | 4, 1, _, _, _ => exact Or.inr (hg _ (by decide +kernel))
      | 4, 2, _, _, _ => exact Or.inr (hg _ (by decide +kernel))
      | 4, 3, _, _, _ => exact Or.inr (hg _ (by decide +kernel))
      | 4, 4, _, _, h => exact absurd rfl h
      | _ + 5, _, h, _, _ => exact absurd h (by omega)
      | _, _ + 5, _, h, _ => exact absurd h (by omega)) hA
  obtain ⟨DC, hDC⟩ : ∃ D : va_G, ∀ (k : Nat) (q : vw_C), vcl[k]? = some q → u_Kn s q.1 q.2.1 q.2.2 (D.1 k) (D.2 k) := by
    refine ⟨(fun k => match k with | 0 => c0 | 1 => c1 | 2 => c2 | 3 => c3 | 4 => c4 | 5 => c5 | 6 => c6 | 7 => c7 | 8 => c8 | 9 => c9 | 10 => c10 | 11 => c11 | 12 => c12 | _ => 0, fun k => match k with | 0 => i0 | 1 => i1 | 2 => i2 | 3 => i3 | 4 => i4 | 5 => i5 | 6 => i6 | 7 => i7 | 8 => i8 | 9 => i9 | 10 => i10 | 11 => i11 | 12 => i12 | _ => fun _ => 0), ?_⟩
    intro k q hq
    match k, hq with
    | 0, hq => cases hq; exact k0
    | 1, hq => cases hq; exact k1
    | 2, hq => cases hq; exact k2
    | 3, hq => cases hq; exact k3
    | 4, hq => cases hq; exact k4
    | 5, hq => cases hq; exact k5
    | 6, hq => cases hq; exact k6
    | 7, hq => cases hq; exact k7
    | 8, hq => cases hq; exact k8
    | 9, hq => cases hq; exact k9
    | 10, hq => cases hq; exact k10
    | 11, hq => cases hq; exact k11
    | 12, hq => cases hq; exact k12
    | k + 13, hq => simp [vcl] at hq
  obtain ⟨dA, hdA⟩ : ∃ dA : Nat → ClassId, ∀ (k : Nat) (q : ClassId × FieldType), (tyA dA)[k]? = some q → ArrOfT s q.1 q.2 ∧ va_RA s q.1 q.2 := by
    refine ⟨fun k => match k with | 0 => a0 | 1 => a1 | 2 => a2 | 3 => a3 | 4 => a4 | 5 => a5 | 6 => a6 | _ => 0, ?_⟩
    intro k q hq
    match k, hq with
    | 0, hq => cases hq; exact ah0
    | 1, hq => cases hq; exact ah1
    | 2, hq => cases hq; exact ah2
    | 3, hq => cases hq; exact ah3
    | 4, hq => cases hq; exact ah4
    | 5, hq => cases hq; exact ah5
    | 6, hq => cases hq; exact ah6
    | k + 7, hq => simp [tyA] at hq
  refine ⟨DC, dA, csF tK aK aV fm, ⟨hx, hb, hr, hml, hown, htg, ⟨⟨hDC, hdA⟩, nw_of hts, ⟨va_AO.of ao4, va_AO.of ao5, va_AO.of ao6⟩, ⟨hZ0, hK2, ⟨fun i hi => ?_, fun i j hi hj e => ?_⟩, hZ1, hZ2⟩, vk_R.of (hts _ (List.mem_of_getElem? (i := 790) (by decide +kernel))) (hS2 0 (by decide)), vk_R.of (hts _ (List.mem_of_getElem? (i := 850) (by decide +kernel))) (hS2 1 (by decide)), vk_R.of (hts _ (List.mem_of_getElem? (i := 851) (by decide +kernel))) (hS2 2 (by decide)), vk_R.of (hts _ (List.mem_of_getElem? (i := 852) (by decide +kernel))) (hS2 3 (by decide)), vk_R.of (hts _ (List.mem_of_getElem? (i := 853) (by decide +kernel))) (hS2 4 (by decide))⟩, hX, hbl, hlocks⟩, csF_0, ?_⟩
  · simp only [csF_K i hi, csF_V i hi]
    exact hS1.1 i hi
  · simp only [csF_K i hi, csF_K j hj] at e
    exact hS1.2 i j hi hj e
  refine ⟨fun i j h1 h2 h3 h4 he => ?_, fun i j h1 h2 h3 h4 he => ?_⟩
  · have e2 : aK (i - 1) = aK (j - 1) := by
      rw [← csF_K (tK := tK) (fm := fm) (aK := aK) (aV := aV) (i - 1) (by omega), ← csF_K (tK := tK) (fm := fm) (aK := aK) (aV := aV) (j - 1) (by omega), show 1 + (i - 1) = i by omega, show 1 + (j - 1) = j by omega, he]
    have := hS1.2 (i - 1) (j - 1) (by omega) (by omega) e2
    omega
  · have e2 : aV (i - 6) = aV (j - 6) := by
      rw [← csF_V (tK := tK) (fm := fm) (aK := aK) (aV := aV) (i - 6) (by omega), ← csF_V (tK := tK) (fm := fm) (aK := aK) (aV := aV) (j - 6) (by omega), show 6 + (i - 6) = i by omega, show 6 + (j - 6) = j by omega, he]
    obtain ⟨cl, q1, -, -, -, -, q6, -⟩ := (hS1.1 (i - 6) (by omega)).2.2.2
    obtain ⟨cl2, r1, -, -, -, -, r6, -⟩ := (hS1.1 (j - 6) (by omega)).2.2.2
    rw [e2, r1] at q1
    cases q1
    have d0 : ∀ k, k < 5 → 0 < slen.getD k 0 := by decide
    have d1 : ∀ k, k < 5 → ∀ k', k' < 5 → (sbyt.getD k []).getD 0 0 = (sbyt.getD k' []).getD 0 0 → k = k' := by decide
    have z1 := q6 0 (d0 (i - 6) (by omega))
    rw [r6 0 (d0 (j - 6) (by omega))] at z1
    have z2 : Value.int ((sbyt.getD (j - 6) []).getD 0 0) = Value.int ((sbyt.getD (i - 6) []).getD 0 0) := Option.some.inj z1
    have z3 := d1 (j - 6) (by omega) (i - 6) (by omega) (Value.int.inj z2)
    omega
/-- the law from its entry, out of the plain part -/
theorem whole_open {p : Program} {e : Env} {s : State} {m : MethodId} {below : List Frame} {meth : Method} {c : Code} (l : Launch) {b L : Nat} {xs : Nat → Int32} {Rel : Nat → Nat → Sto → Sto → Prop} (hP : Plain Rel) (hL : L ≤ 3072) (C0 : lw_At p s m meth c b L xs) : W p l e room_1 s m #[Value.ref b] below meth c s.heap [] 0 0 (lw_Z below #[Value.ref b] s) (entryFrame m ([Value.ref b] : List Value).toArray 4) := by
  obtain ⟨D, dA, cs, hC, h1, h2⟩ := law_ctx C0
  exact law_open hC hL hP h1 h2
