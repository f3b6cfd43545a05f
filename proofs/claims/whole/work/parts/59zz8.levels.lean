/-! texts: the levels -/
section TX9
variable {h Y n κ A : Nat} {g : Nat → Nat} {σ ρ : Sto} {s0 F0 f t F s : Nat → Int32} {op no b e k m hh : Nat}
def tsB (g_Model_sumT : Nat → Int32 → Bool → Sto → Rs Int32) (h0 : Nat) (x1 : Int32) (b_1 : Bool) (σ_1 : Sto) : Rs Int32 := (bd_ (f_Model_isSign h0 (60 : Int32) (b_1 && cK σ_1 h0 13) σ_1) (fun (r_2 : Int32) (b_2 : Bool) (σ_2 : Sto) => (lt_ (fun (b : Bool) (σ : Sto) => ((1 : Int32), b, σ)) (fun J62 => (lt_ (fun (b : Bool) (σ : Sto) => (lt_ (SI σ h0 13) (fun (x2_3 : Int32) => (bd_ (f_Model_next h0 ((b && cK σ h0 13) && cK σ h0 13) σ) (fun (r_4 : Unit) (b_4 : Bool) (σ_4 : Sto) => (bd_ (g_Model_sumT h0 x1 (b_4 && cK σ_4 h0 13) σ_4) (fun (r_5 : Int32) (b_5 : Bool) (σ_5 : Sto) => (if r_5 = 0 then ((0 : Int32), b_5, σ_5) else (bd_ (f_Model_step h0 (2 : Int32) x2_3 (b_5 && cK σ_5 h0 13) σ_5) (fun (r_6 : Unit) (b_6 : Bool) (σ_6 : Sto) => (J62 b_6 σ_6))))))))))) (fun J37 => (if r_2 = 0 then (bd_ (f_Model_isSign h0 (61 : Int32) (b_2 && cK σ_2 h0 13) σ_2) (fun (r_7 : Int32) (b_7 : Bool) (σ_7 : Sto) => (if r_7 = 0 then (bd_ (f_Model_isSign h0 (62 : Int32) (b_7 && cK σ_7 h0 13) σ_7) (fun (r_8 : Int32) (b_8 : Bool) (σ_8 : Sto) => (if r_8 = 0 then (J62 b_8 σ_8) else (J37 b_8 σ_8)))) else (J37 b_7 σ_7)))) else (J37 b_2 σ_2))))))))
/-- a turn of the reference's levels -/
def TurnR (Y n : Nat) (g : Nat → Nat) (ρ : Sto) (l : Nat) (sub : Bool → Sto → Rs Int32) (body : Bool → Sto → Rs Int32) (fin : Bool → Sto → Rs Int32) : Prop := ∀ (f F s : Nat → Int32) (b e k : Nat), Tok g n b e k f F → (slv k (g b) ≠ l → body true (mS ρ Y F s) = (1, true, mS ρ Y F s)) ∧ (slv k (g b) = l → ∀ F1 r F2 s2, f_Model_next Y true (mS ρ Y F s) = ((), true, mS ρ Y F1 s) → sub true (mS ρ Y F1 s) = (r, true, mS ρ Y F2 s2) → body true (mS ρ Y F s) = if r = 0 then ((0 : Int32), true, mS ρ Y F2 s2) else bd_ (f_Model_step Y 2 (nI (g b)) true (mS ρ Y F2 s2)) (fun (_ : Unit) (b : Bool) (σ : Sto) => fin b σ))
theorem slv_3 {l c : Nat} (hl : l < 5) (h : slv k c = l) : k = 3 ∧ lvN c = l := by
  unfold slv at h
  by_cases q : k = 3
  · rw [if_pos q] at h
    exact ⟨q, h⟩
  · rw [if_neg q] at h
    omega
theorem lvN_0 : ∀ c, c < 256 → (lvN c = 0 ↔ c = 124) := by decide +kernel
theorem lvN_1 : ∀ c, c < 256 → (lvN c = 1 ↔ c = 38) := by decide +kernel
theorem lvN_2 : ∀ c, c < 256 → (lvN c = 2 ↔ c = 60 ∨ c = 61 ∨ c = 62) := by decide +kernel
theorem lvN_3 : ∀ c, c < 256 → (lvN c = 3 ↔ c = 43 ∨ c = 45) := by decide +kernel
theorem lvN_4 : ∀ c, c < 256 → (lvN c = 4 ↔ c = 42 ∨ c = 47) := by decide +kernel
theorem slv_ne {l c : Nat} (h : slv k c ≠ l) (hk : k = 3) : lvN c ≠ l := by
  unfold slv at h
  rwa [if_pos hk] at h
theorem Tok_g (hM : TM Y n g ρ) (hk : Tok g n b e k f F) (h3 : k = 3) : g b < 256 := by
  obtain ⟨-, -, -, -, -, -, a13, a14, a15, a16⟩ := hk
  have := a16 (by omega)
  exact (hM.2.2 b (by omega)).2
theorem sg_t (hM : TM Y n g ρ) (hk : Tok g n b e k f F) {c : Nat} (hc : c < 256) (h3 : k = 3) (hg : g b = c) {v : Int32} (hv : v = nI c) : f_Model_isSign Y v true (mS ρ Y F s) = (1, true, mS ρ Y F s) := by
  rw [e_isSign hM, hv, if_pos ((sg_iff hk (fun j hj => (hM.2.2 j hj).2) hc).mpr ⟨h3, hg⟩)]
theorem sg_n (hM : TM Y n g ρ) (hk : Tok g n b e k f F) {c : Nat} (hc : c < 256) (hg : ¬ (k = 3 ∧ g b = c)) {v : Int32} (hv : v = nI c) : f_Model_isSign Y v true (mS ρ Y F s) = (0, true, mS ρ Y F s) := by
  rw [e_isSign hM, hv, if_neg (fun z => hg ((sg_iff hk (fun j hj => (hM.2.2 j hj).2) hc).mp z))]
theorem turn_0 (hM : TM Y n g ρ) (gS : Nat → Int32 → Bool → Sto → Rs Int32) (L : Bool → Sto → Rs Int32) : TurnR Y n g ρ 0 (fun b σ => gS Y (nI κ) b σ) (fun b σ => b_Model_either_10 Y (nI κ) gS L b σ) L := by
  intro f F s b e k hk
  refine ⟨fun hs => ?_, fun hs F1 r F2 s2 h1 h2 => ?_⟩
  · show b_Model_either_10 Y (nI κ) gS L true (mS ρ Y F s) = _
    unfold b_Model_either_10
    rw [mS_k hM, Bool.and_true, sg_n hM hk (c := 124) (v := 124) (by decide) (fun z => slv_ne hs z.1 ((lvN_0 _ (Tok_g hM hk z.1)).mpr z.2)) rfl, bd_]
    dsimp only
    rw [if_pos rfl]
  · obtain ⟨h3, h4⟩ := slv_3 (by decide) hs
    have hg := (lvN_0 _ (Tok_g hM hk h3)).mp h4
    have h2' : gS Y (nI κ) true (mS ρ Y F1 s) = (r, true, mS ρ Y F2 s2) := h2
    show b_Model_either_10 Y (nI κ) gS L true (mS ρ Y F s) = _
    unfold b_Model_either_10
    rw [mS_k hM, Bool.and_true, sg_t hM hk (c := 124) (v := 124) (by decide) h3 hg rfl, bd_]
    dsimp only
    rw [if_neg (show ¬ (1 : Int32) = 0 by decide), mS_k hM, Bool.and_true, h1, bd_]
    dsimp only
    rw [mS_k hM, Bool.and_true, h2', bd_]
    dsimp only
    rw [mS_k hM, Bool.and_true, hg]
    rfl
theorem turn_1 (hM : TM Y n g ρ) (gS : Nat → Int32 → Bool → Sto → Rs Int32) (L : Bool → Sto → Rs Int32) : TurnR Y n g ρ 1 (fun b σ => gS Y (nI κ) b σ) (fun b σ => b_Model_both_10 Y (nI κ) gS L b σ) L := by
  intro f F s b e k hk
  refine ⟨fun hs => ?_, fun hs F1 r F2 s2 h1 h2 => ?_⟩
  · show b_Model_both_10 Y (nI κ) gS L true (mS ρ Y F s) = _
    unfold b_Model_both_10
    rw [mS_k hM, Bool.and_true, sg_n hM hk (c := 38) (v := 38) (by decide) (fun z => slv_ne hs z.1 ((lvN_1 _ (Tok_g hM hk z.1)).mpr z.2)) rfl, bd_]
    dsimp only
    rw [if_pos rfl]
  · obtain ⟨h3, h4⟩ := slv_3 (by decide) hs
    have hg := (lvN_1 _ (Tok_g hM hk h3)).mp h4
    have h2' : gS Y (nI κ) true (mS ρ Y F1 s) = (r, true, mS ρ Y F2 s2) := h2
    show b_Model_both_10 Y (nI κ) gS L true (mS ρ Y F s) = _
    unfold b_Model_both_10
    rw [mS_k hM, Bool.and_true, sg_t hM hk (c := 38) (v := 38) (by decide) h3 hg rfl, bd_]
    dsimp only
    rw [if_neg (show ¬ (1 : Int32) = 0 by decide), mS_k hM, Bool.and_true, h1, bd_]
    dsimp only
    rw [mS_k hM, Bool.and_true, h2', bd_]
    dsimp only
    rw [mS_k hM, Bool.and_true, hg]
    rfl
theorem turn_3 (hM : TM Y n g ρ) (gS : Nat → Int32 → Bool → Sto → Rs Int32) (L : Bool → Sto → Rs Int32) : TurnR Y n g ρ 3 (fun b σ => gS Y (nI κ) b σ) (fun b σ => b_Model_sumT_10 Y (nI κ) gS L b σ) L := by
  intro f F s b e k hk
  refine ⟨fun hs => ?_, fun hs F1 r F2 s2 h1 h2 => ?_⟩
  · show b_Model_sumT_10 Y (nI κ) gS L true (mS ρ Y F s) = _
    unfold b_Model_sumT_10
    rw [mS_k hM, Bool.and_true, sg_n hM hk (c := 43) (v := 43) (by decide) (fun z => slv_ne hs z.1 ((lvN_3 _ (Tok_g hM hk z.1)).mpr (Or.inl z.2))) rfl, bd_]
    dsimp only
    rw [lt_, if_pos rfl, mS_k hM, Bool.and_true, sg_n hM hk (c := 45) (v := 45) (by decide) (fun z => slv_ne hs z.1 ((lvN_3 _ (Tok_g hM hk z.1)).mpr (Or.inr z.2))) rfl, bd_]
    dsimp only
    rw [if_pos rfl]
  · obtain ⟨h3, h4⟩ := slv_3 (by decide) hs
    have h2' : gS Y (nI κ) true (mS ρ Y F1 s) = (r, true, mS ρ Y F2 s2) := h2
    have h13 : F 13 = nI (g b) := hk.2.2.2.1 h3
    show b_Model_sumT_10 Y (nI κ) gS L true (mS ρ Y F s) = _
    have fin : ∀ J28 : Bool → Sto → Rs Int32, J28 = (fun (b : Bool) (σ : Sto) => (lt_ (SI σ Y 13) (fun (x2_3 : Int32) => (bd_ (f_Model_next Y ((b && cK σ Y 13) && cK σ Y 13) σ) (fun (r_4 : Unit) (b_4 : Bool) (σ_4 : Sto) => (bd_ (gS Y (nI κ) (b_4 && cK σ_4 Y 13) σ_4) (fun (r_5 : Int32) (b_5 : Bool) (σ_5 : Sto) => (if r_5 = 0 then ((0 : Int32), b_5, σ_5) else (bd_ (f_Model_step Y (2 : Int32) x2_3 (b_5 && cK σ_5 Y 13) σ_5) (fun (r_6 : Unit) (b_6 : Bool) (σ_6 : Sto) => (L b_6 σ_6)))))))))))  → J28 true (mS ρ Y F s) = if r = 0 then ((0 : Int32), true, mS ρ Y F2 s2) else bd_ (f_Model_step Y 2 (nI (g b)) true (mS ρ Y F2 s2)) (fun (_ : Unit) (b : Bool) (σ : Sto) => L b σ) := fun J28 hJ => by
      subst hJ
      dsimp only
      rw [lt_, mS_k hM, mS_f, h13]
      simp only [Bool.and_true]
      rw [h1, bd_]
      dsimp only
      rw [mS_k hM, Bool.and_true, h2', bd_]
      dsimp only
      rw [mS_k hM, Bool.and_true]
    rcases (lvN_3 _ (Tok_g hM hk h3)).mp h4 with hg | hg
    · unfold b_Model_sumT_10
      rw [mS_k hM, Bool.and_true, sg_t hM hk (c := 43) (v := 43) (by decide) h3 hg rfl, bd_]
      exact fin _ rfl
    · unfold b_Model_sumT_10
      rw [mS_k hM, Bool.and_true, sg_n hM hk (c := 43) (v := 43) (by decide) (fun z => absurd (z.2.symm.trans hg) (by decide)) rfl, bd_]
      rw [lt_, if_pos (show ((0 : Int32), true, mS ρ Y F s).1 = 0 from rfl)]
      show bd_ (f_Model_isSign Y 45 (true && cK (mS ρ Y F s) Y 13) (mS ρ Y F s)) _ = _
      rw [mS_k hM, Bool.and_true, sg_t hM hk (c := 45) (v := 45) (by decide) h3 hg rfl, bd_]
      exact fin _ rfl
theorem turn_4 (hM : TM Y n g ρ) (gS : Nat → Int32 → Bool → Sto → Rs Int32) (L : Bool → Sto → Rs Int32) : TurnR Y n g ρ 4 (fun b σ => gS Y (nI κ) b σ) (fun b σ => b_Model_term_10 Y (nI κ) gS L b σ) L := by
  intro f F s b e k hk
  refine ⟨fun hs => ?_, fun hs F1 r F2 s2 h1 h2 => ?_⟩
  · show b_Model_term_10 Y (nI κ) gS L true (mS ρ Y F s) = _
    unfold b_Model_term_10
    rw [mS_k hM, Bool.and_true, sg_n hM hk (c := 42) (v := 42) (by decide) (fun z => slv_ne hs z.1 ((lvN_4 _ (Tok_g hM hk z.1)).mpr (Or.inl z.2))) rfl, bd_]
    dsimp only
    rw [lt_, if_pos rfl, mS_k hM, Bool.and_true, sg_n hM hk (c := 47) (v := 47) (by decide) (fun z => slv_ne hs z.1 ((lvN_4 _ (Tok_g hM hk z.1)).mpr (Or.inr z.2))) rfl, bd_]
    dsimp only
    rw [if_pos rfl]
  · obtain ⟨h3, h4⟩ := slv_3 (by decide) hs
    have h2' : gS Y (nI κ) true (mS ρ Y F1 s) = (r, true, mS ρ Y F2 s2) := h2
    have h13 : F 13 = nI (g b) := hk.2.2.2.1 h3
    show b_Model_term_10 Y (nI κ) gS L true (mS ρ Y F s) = _
    have fin : ∀ J28 : Bool → Sto → Rs Int32, J28 = (fun (b : Bool) (σ : Sto) => (lt_ (SI σ Y 13) (fun (x2_3 : Int32) => (bd_ (f_Model_next Y ((b && cK σ Y 13) && cK σ Y 13) σ) (fun (r_4 : Unit) (b_4 : Bool) (σ_4 : Sto) => (bd_ (gS Y (nI κ) (b_4 && cK σ_4 Y 13) σ_4) (fun (r_5 : Int32) (b_5 : Bool) (σ_5 : Sto) => (if r_5 = 0 then ((0 : Int32), b_5, σ_5) else (bd_ (f_Model_step Y (2 : Int32) x2_3 (b_5 && cK σ_5 Y 13) σ_5) (fun (r_6 : Unit) (b_6 : Bool) (σ_6 : Sto) => (L b_6 σ_6)))))))))))  → J28 true (mS ρ Y F s) = if r = 0 then ((0 : Int32), true, mS ρ Y F2 s2) else bd_ (f_Model_step Y 2 (nI (g b)) true (mS ρ Y F2 s2)) (fun (_ : Unit) (b : Bool) (σ : Sto) => L b σ) := fun J28 hJ => by
      subst hJ
      dsimp only
      rw [lt_, mS_k hM, mS_f, h13]
      simp only [Bool.and_true]
      rw [h1, bd_]
      dsimp only
      rw [mS_k hM, Bool.and_true, h2', bd_]
      dsimp only
      rw [mS_k hM, Bool.and_true]
    rcases (lvN_4 _ (Tok_g hM hk h3)).mp h4 with hg | hg
    · unfold b_Model_term_10
      rw [mS_k hM, Bool.and_true, sg_t hM hk (c := 42) (v := 42) (by decide) h3 hg rfl, bd_]
      exact fin _ rfl
    · unfold b_Model_term_10
      rw [mS_k hM, Bool.and_true, sg_n hM hk (c := 42) (v := 42) (by decide) (fun z => absurd (z.2.symm.trans hg) (by decide)) rfl, bd_]
      rw [lt_, if_pos (show ((0 : Int32), true, mS ρ Y F s).1 = 0 from rfl)]
      show bd_ (f_Model_isSign Y 47 (true && cK (mS ρ Y F s) Y 13) (mS ρ Y F s)) _ = _
      rw [mS_k hM, Bool.and_true, sg_t hM hk (c := 47) (v := 47) (by decide) h3 hg rfl, bd_]
      exact fin _ rfl
theorem turn_2 (hM : TM Y n g ρ) (gS : Nat → Int32 → Bool → Sto → Rs Int32) : TurnR Y n g ρ 2 (fun b σ => gS Y (nI κ) b σ) (fun b σ => tsB gS Y (nI κ) b σ) (fun b σ => (1, b, σ)) := by
  intro f F s b e k hk
  refine ⟨fun hs => ?_, fun hs F1 r F2 s2 h1 h2 => ?_⟩
  · show tsB gS Y (nI κ) true (mS ρ Y F s) = _
    unfold tsB
    rw [mS_k hM, Bool.and_true, sg_n hM hk (c := 60) (v := 60) (by decide) (fun z => slv_ne hs z.1 ((lvN_2 _ (Tok_g hM hk z.1)).mpr (Or.inl z.2))) rfl, bd_]
    dsimp only
    rw [lt_, lt_, if_pos rfl, mS_k hM, Bool.and_true, sg_n hM hk (c := 61) (v := 61) (by decide) (fun z => slv_ne hs z.1 ((lvN_2 _ (Tok_g hM hk z.1)).mpr (Or.inr (Or.inl z.2)))) rfl, bd_]
    dsimp only
    rw [if_pos rfl, mS_k hM, Bool.and_true, sg_n hM hk (c := 62) (v := 62) (by decide) (fun z => slv_ne hs z.1 ((lvN_2 _ (Tok_g hM hk z.1)).mpr (Or.inr (Or.inr z.2)))) rfl, bd_]
    dsimp only
    rw [if_pos rfl]
  · obtain ⟨h3, h4⟩ := slv_3 (by decide) hs
    have h2' : gS Y (nI κ) true (mS ρ Y F1 s) = (r, true, mS ρ Y F2 s2) := h2
    have h13 : F 13 = nI (g b) := hk.2.2.2.1 h3
    show tsB gS Y (nI κ) true (mS ρ Y F s) = _
    have fin : ∀ J37 : Bool → Sto → Rs Int32, J37 = (fun (b : Bool) (σ : Sto) => (lt_ (SI σ Y 13) (fun (x2_3 : Int32) => (bd_ (f_Model_next Y ((b && cK σ Y 13) && cK σ Y 13) σ) (fun (r_4 : Unit) (b_4 : Bool) (σ_4 : Sto) => (bd_ (gS Y (nI κ) (b_4 && cK σ_4 Y 13) σ_4) (fun (r_5 : Int32) (b_5 : Bool) (σ_5 : Sto) => (if r_5 = 0 then ((0 : Int32), b_5, σ_5) else (bd_ (f_Model_step Y (2 : Int32) x2_3 (b_5 && cK σ_5 Y 13) σ_5) (fun (r_6 : Unit) (b_6 : Bool) (σ_6 : Sto) => ((1 : Int32), b_6, σ_6)))))))))))  → J37 true (mS ρ Y F s) = if r = 0 then ((0 : Int32), true, mS ρ Y F2 s2) else bd_ (f_Model_step Y 2 (nI (g b)) true (mS ρ Y F2 s2)) (fun (_ : Unit) (b : Bool) (σ : Sto) => ((1 : Int32), b, σ)) := fun J37 hJ => by
      subst hJ
      dsimp only
      rw [lt_, mS_k hM, mS_f, h13]
      simp only [Bool.and_true]
      rw [h1, bd_]
      dsimp only
      rw [mS_k hM, Bool.and_true, h2', bd_]
      dsimp only
      rw [mS_k hM, Bool.and_true]
    rcases (lvN_2 _ (Tok_g hM hk h3)).mp h4 with hg | hg | hg
    · unfold tsB
      rw [mS_k hM, Bool.and_true, sg_t hM hk (c := 60) (v := 60) (by decide) h3 hg rfl, bd_]
      exact fin _ rfl
    · unfold tsB
      rw [mS_k hM, Bool.and_true, sg_n hM hk (c := 60) (v := 60) (by decide) (fun z => absurd (z.2.symm.trans hg) (by decide)) rfl, bd_]
      rw [lt_, lt_, if_pos (show ((0 : Int32), true, mS ρ Y F s).1 = 0 from rfl)]
      show bd_ (f_Model_isSign Y 61 (true && cK (mS ρ Y F s) Y 13) (mS ρ Y F s)) _ = _
      rw [mS_k hM, Bool.and_true, sg_t hM hk (c := 61) (v := 61) (by decide) h3 hg rfl, bd_]
      exact fin _ rfl
    · unfold tsB
      rw [mS_k hM, Bool.and_true, sg_n hM hk (c := 60) (v := 60) (by decide) (fun z => absurd (z.2.symm.trans hg) (by decide)) rfl, bd_]
      rw [lt_, lt_, if_pos (show ((0 : Int32), true, mS ρ Y F s).1 = 0 from rfl)]
      show bd_ (f_Model_isSign Y 61 (true && cK (mS ρ Y F s) Y 13) (mS ρ Y F s)) _ = _
      rw [mS_k hM, Bool.and_true, sg_n hM hk (c := 61) (v := 61) (by decide) (fun z => absurd (z.2.symm.trans hg) (by decide)) rfl, bd_]
      rw [if_pos (show ((0 : Int32), true, mS ρ Y F s).1 = 0 from rfl)]
      show bd_ (f_Model_isSign Y 62 (true && cK (mS ρ Y F s) Y 13) (mS ρ Y F s)) _ = _
      rw [mS_k hM, Bool.and_true, sg_t hM hk (c := 62) (v := 62) (by decide) h3 hg rfl, bd_]
      exact fin _ rfl
/-- a turn on both sides -/
theorem sim_turn (hG : GE h Y n κ A g σ ρ) {l : Nat} (hl : l < 5) {gL : Nat → Int32 → Int32 → Int32 → Bool → Sto → Rs Unit} {sub body fin : Bool → Sto → Rs Int32} (hS : SimOK h Y n κ A g σ ρ s0 F0 op no (fun b σ => gL h (nI (l + 1)) (nI op) (nI no) b σ) sub) (hR : TurnR Y n g ρ l sub body fin) (hP : PS g n κ A s0 F0 op no b e k m hh f t F s) (hh1 : 1 ≤ hh) (hm : m < b) {i : Nat} (hi : i < b) (L : Int32 → Bool → Sto → Rs Unit) :
    (b_Tape_readLevel_32 h (nI l) (nI op) (nI no) gL L (nI i) true (tS σ h f t) = ((), true, tS σ h f t) ∧ body true (mS ρ Y F s) = (1, true, mS ρ Y F s)) ∨ (b < n ∧ ∃ f' t' F' s', b_Tape_readLevel_32 h (nI l) (nI op) (nI no) gL L (nI i) true (tS σ h f t) = (if nI l = 2 then ((), true, tS σ h f' t') else L (nI (i + 1)) true (tS σ h f' t')) ∧ ((body true (mS ρ Y F s) = fin true (mS ρ Y F' s') ∧ ∃ b' e' k' m', PS g n κ A s0 F0 op no b' e' k' m' hh f' t' F' s' ∧ m' + b ≤ b' + m ∧ b < b') ∨ (body true (mS ρ Y F s) = ((0 : Int32), true, mS ρ Y F' s') ∧ FL n A s0 F0 f' F' s'))) := by
  have hn := hG.1.2.2.2.1
  have hT := hG.1
  have hM := hG.2.1
  have hA := hG.2.2.2.2
  obtain ⟨⟨-, -⟩, ⟨-, -, -, a6⟩, -, -, -, -, a13, a14, a15, a16⟩ := id hP.1
  obtain ⟨r1, r2⟩ := hR f F s b e k hP.1
  have pre : b_Tape_readLevel_32 h (nI l) (nI op) (nI no) gL L (nI i) true (tS σ h f t) = if lvI (f 5) = nI l then (lt_ (f 5) (fun (x5_5 : Int32) => (bd_ (f_Tape_nextWord h true (tS σ h f t)) (fun (r_6 : Unit) (b_6 : Bool) (σ_6 : Sto) => (bd_ (gL h (nI (l + 1)) (nI op) (nI no) (b_6 && cK σ_6 h 8) σ_6) (fun (r_7 : Unit) (b_7 : Bool) (σ_7 : Sto) => (bd_ (f_Tape_addStep h (-x5_5) (b_7 && cK σ_7 h 8) σ_7) (fun (r_8 : Unit) (b_8 : Bool) (σ_8 : Sto) => (if nI l = (2 : Int32) then ((), b_8, σ_8) else (lt_ (nI (i + 1)) (fun (x4_9 : Int32) => (L x4_9 b_8 σ_8)))))))))))) else ((), true, tS σ h f t) := by
    unfold b_Tape_readLevel_32
    rw [if_pos (show nI i < 96 from nI_lt (b := 96) (by omega) (by decide)), tS_f, if_pos (show f 11 < 0 by rw [hP.2.1.2.2.1]; decide), tS_k hT]
    simp only [Bool.and_true]
    rw [e_levelOf, bd_]
    dsimp only
    rw [tS_f, tS_k hT, nI_1, nI_1]
    rfl
  by_cases hs : slv k (g b) = l
  · obtain ⟨h3, h4⟩ := slv_3 hl hs
    have hb := a16 (by omega)
    have g2 := Tok_g hM hP.1 h3
    have e5 : f 5 = byt (g b) := by rw [a6, if_pos h3]
    obtain ⟨v1, v2, v3⟩ := lv_v _ g2 (by omega)
    obtain ⟨f1, F1, b1, e1, k1, q1, q2, q3, q4⟩ := PS_next hG hP
    obtain ⟨f2, t2, F2, s2, r, u1, u2, u3⟩ := hS f1 t F1 s b1 e1 k1 m hh q3 (by omega)
    have u1' : gL h (nI (l + 1)) (nI op) (nI no) true (tS σ h f1 t) = ((), true, tS σ h f2 t2) := u1
    have eC : ∀ f3 t3, f_Tape_addStep h (-nI (g b)) true (tS σ h f2 t2) = ((), true, tS σ h f3 t3) → b_Tape_readLevel_32 h (nI l) (nI op) (nI no) gL L (nI i) true (tS σ h f t) = (if nI l = 2 then ((), true, tS σ h f3 t3) else L (nI (i + 1)) true (tS σ h f3 t3)) := fun f3 t3 h9 => by
      rw [pre, e5, if_pos ((lv_byt _ g2 l hl).mpr h4), lt_, q1, bd_]
      dsimp only
      rw [tS_k hT, Bool.and_true, u1', bd_]
      dsimp only
      rw [tS_k hT, Bool.and_true, v1, h9, bd_]
      rfl
    have eR := r2 hs F1 r F2 s2 q2 u2
    refine Or.inr ⟨by omega, ?_⟩
    rcases u3 with ⟨rfl, b2, e2, k2, m2, w1, w2, w3⟩ | ⟨rfl, w1⟩
    · obtain ⟨-, -, -, -, -, -, d13, d14, d15, d16⟩ := id w1.1
      have hm2 : m2 < 96 := by omega
      have w4 := PS_step w1 (z := -nI (g b)) (w := 2) (v := nI (g b)) (hh' := hh) (Or.inr (Or.inr ⟨rfl, rfl, v2⟩)) (Or.inr (Or.inr ⟨rfl, v3, by omega, rfl⟩)) hm2
      rw [if_neg (show ¬ (1 : Int32) = 0 by decide), e_step hM (m := m2) (A := A) (by omega) w1.2.2.1.2.2.1 w1.2.2.1.2.2.2] at eR
      have ea := e_addStep (t := t2) hT (show m2 ≤ 96 by omega) w1.2.1.2.1 (-nI (g b))
      rw [if_pos hm2] at ea
      exact ⟨_, _, _, _, eC _ _ ea, Or.inl ⟨eR, b2, e2, k2, m2 + 1, w4, by omega, by omega⟩⟩
    · obtain ⟨f3, t3, z1, z2⟩ := FL_step (t := t2) hT w1 (-nI (g b))
      rw [if_pos rfl] at eR
      exact ⟨f3, t3, F2, s2, eC f3 t3 z1, Or.inr ⟨eR, z2⟩⟩
  · left
    refine ⟨?_, r1 hs⟩
    rw [pre, if_neg]
    intro z
    rw [a6] at z
    by_cases q : k = 3
    · rw [if_pos q] at z
      exact slv_ne hs q ((lv_byt _ (Tok_g hM hP.1 q) l hl).mp z)
    · rw [if_neg q] at z
      exact lv_0 l hl z
theorem C_stop (hT : TC h n g σ) (hF : FL n A s0 F0 f F s) {l : Nat} {gL : Nat → Int32 → Int32 → Int32 → Bool → Sto → Rs Unit} {fu : Nat} (hf : 0 < fu) (x : Int32) : lp_ (b_Tape_readLevel_32 h (nI l) (nI op) (nI no) gL) (fun (x4 : Int32) (b : Bool) (σ : Sto) => ((), false, σ)) fu x true (tS σ h f t) = ((), true, tS σ h f t) := by
  obtain ⟨fu, rfl⟩ : ∃ z, fu = z + 1 := ⟨fu - 1, by omega⟩
  rw [lp_S]
  unfold b_Tape_readLevel_32
  by_cases c : x < 96
  · rw [if_pos c, tS_f, if_neg (FL_neg hT.2.2.2.1 hF), tS_k hT]
    rfl
  · rw [if_neg c]
/-- the loops of a level -/
theorem sim_loop (hG : GE h Y n κ A g σ ρ) {l : Nat} (hl : l < 5) (h2 : l ≠ 2) {gL : Nat → Int32 → Int32 → Int32 → Bool → Sto → Rs Unit} {sub : Bool → Sto → Rs Int32} {bodyR : (Bool → Sto → Rs Int32) → Bool → Sto → Rs Int32} {bad : Bool → Sto → Rs Int32} (hS : SimOK h Y n κ A g σ ρ s0 F0 op no (fun b σ => gL h (nI (l + 1)) (nI op) (nI no) b σ) sub) (hR : ∀ L, TurnR Y n g ρ l sub (bodyR L) L) :
    ∀ d i f t F s b e k m fuC fuR, n ≤ b + d → d < fuC → d < fuR → PS g n κ A s0 F0 op no b e k m hh f t F s → 1 ≤ hh → m < b → i < b → ∃ f' t' F' s' r, lp_ (b_Tape_readLevel_32 h (nI l) (nI op) (nI no) gL) (fun (x4 : Int32) (b : Bool) (σ : Sto) => ((), false, σ)) fuC (nI i) true (tS σ h f t) = ((), true, tS σ h f' t') ∧ lp_ bodyR bad fuR true (mS ρ Y F s) = (r, true, mS ρ Y F' s') ∧ ((r = 1 ∧ ∃ b' e' k' m', PS g n κ A s0 F0 op no b' e' k' m' hh f' t' F' s' ∧ m' + b ≤ b' + m ∧ b ≤ b') ∨ (r = 0 ∧ FL n A s0 F0 f' F' s')) := by
  have hn2 : ¬ nI l = 2 := fun z => h2 ((nI_eq (b := 2) (by omega) (by decide)).mp z)
  intro d
  induction d with
  | zero =>
    intro i f t F s b e k m fuC fuR hd hC hR' hP hh1 hm hi
    obtain ⟨fuC, rfl⟩ : ∃ z, fuC = z + 1 := ⟨fuC - 1, by omega⟩
    obtain ⟨fuR, rfl⟩ : ∃ z, fuR = z + 1 := ⟨fuR - 1, by omega⟩
    rw [lp_S, lp_S]
    rcases sim_turn hG hl hS (hR _) hP hh1 hm hi _ with ⟨t1, t2⟩ | ⟨t1, -⟩
    · exact ⟨f, t, F, s, 1, t1, t2, Or.inl ⟨rfl, b, e, k, m, hP, by omega, by omega⟩⟩
    · omega
  | succ d ih =>
    intro i f t F s b e k m fuC fuR hd hC hR' hP hh1 hm hi
    obtain ⟨fuC, rfl⟩ : ∃ z, fuC = z + 1 := ⟨fuC - 1, by omega⟩
    obtain ⟨fuR, rfl⟩ : ∃ z, fuR = z + 1 := ⟨fuR - 1, by omega⟩
    rw [lp_S, lp_S]
    rcases sim_turn hG hl hS (hR _) hP hh1 hm hi _ with ⟨t1, t2⟩ | ⟨t0, f1, t1', F1, s1, t1, t2⟩
    · exact ⟨f, t, F, s, 1, t1, t2, Or.inl ⟨rfl, b, e, k, m, hP, by omega, by omega⟩⟩
    · rw [t1, if_neg hn2]
      rcases t2 with ⟨t3, b', e', k', m', t4, t5, t6⟩ | ⟨t3, t4⟩
      · rw [t3]
        obtain ⟨f2, t2', F2, s2, r, z1, z2, z3⟩ := ih (i + 1) f1 t1' F1 s1 b' e' k' m' fuC fuR (by omega) (by omega) (by omega) t4 hh1 (by omega) (by omega)
        refine ⟨f2, t2', F2, s2, r, z1, z2, z3.imp (fun ⟨y1, b2, e2, k2, m2, y2, y3, y4⟩ => ⟨y1, b2, e2, k2, m2, y2, by omega, by omega⟩) id⟩
      · rw [t3, C_stop hG.1 t4 (by omega)]
        exact ⟨f1, t1', F1, s1, 0, rfl, rfl, Or.inr ⟨rfl, t4⟩⟩
/-- a level with a loop -/
theorem sim_level (hG : GE h Y n κ A g σ ρ) {l : Nat} (hl : l < 5) (h2 : l ≠ 2) {gL : Nat → Int32 → Int32 → Int32 → Bool → Sto → Rs Unit} {gP : Nat → Int32 → Int32 → Bool → Sto → Rs Unit} {sub ψ : Bool → Sto → Rs Int32} {bodyR : (Bool → Sto → Rs Int32) → Bool → Sto → Rs Int32} {bad : Bool → Sto → Rs Int32} (hS : SimOK h Y n κ A g σ ρ s0 F0 op no (fun b σ => gL h (nI (l + 1)) (nI op) (nI no) b σ) sub) (hR : ∀ L, TurnR Y n g ρ l sub (bodyR L) L) (hψ : ∀ F s, ψ true (mS ρ Y F s) = bd_ (sub true (mS ρ Y F s)) (fun (r_1 : Int32) (b_1 : Bool) (σ_1 : Sto) => (if r_1 = 0 then ((0 : Int32), b_1, σ_1) else (lp_ bodyR bad fuel_ b_1 σ_1)))) :
    SimOK h Y n κ A g σ ρ s0 F0 op no (fun b σ => fb_Tape_readLevel gL gP h (nI l) (nI op) (nI no) b σ) ψ := by
  intro f t F s b e k m hh hP hm
  have hn := hG.1.2.2.2.1
  have hT := hG.1
  obtain ⟨f1, t1, F1, s1, r, u1, u2, u3⟩ := hS f t F s b e k m hh hP hm
  have u1' : gL h (nI (l + 1)) (nI op) (nI no) true (tS σ h f t) = ((), true, tS σ h f1 t1) := u1
  have eC : fb_Tape_readLevel gL gP h (nI l) (nI op) (nI no) true (tS σ h f t) = lp_ (b_Tape_readLevel_32 h (nI l) (nI op) (nI no) gL) (fun (x4 : Int32) (b : Bool) (σ : Sto) => ((), false, σ)) fuel_ (nI 0) true (tS σ h f1 t1) := by
    unfold fb_Tape_readLevel
    rw [tS_f, if_pos (show f 11 < 0 by rw [hP.2.1.2.2.1]; decide), if_neg (show ¬ (4 : Int32) < nI l from nI_nlt (a := 4) (by omega) (by decide)), tS_k hT, nI_1]
    simp only [Bool.and_true]
    rw [u1', bd_]
    dsimp only
    rw [lt_]
    rfl
  show ∃ f' t' F' s' r, fb_Tape_readLevel gL gP h (nI l) (nI op) (nI no) true (tS σ h f t) = ((), true, tS σ h f' t') ∧ ψ true (mS ρ Y F s) = (r, true, mS ρ Y F' s') ∧ Res g n κ A s0 F0 op no b m (hh + 1) f' t' F' s' r
  rw [eC, hψ, u2, bd_]
  dsimp only
  rcases u3 with ⟨rfl, b2, e2, k2, m2, w1, w2, w3⟩ | ⟨rfl, w1⟩
  · rw [if_neg (show ¬ (1 : Int32) = 0 by decide)]
    obtain ⟨f2, t2', F2, s2, r, z1, z2, z3⟩ := sim_loop (bad := bad) hG hl h2 hS hR n 0 f1 t1 F1 s1 b2 e2 k2 m2 fuel_ fuel_ (by omega) (by show n < 70000; omega) (by show n < 70000; omega) w1 (by omega) (by omega) (by omega)
    exact ⟨f2, t2', F2, s2, r, z1, z2, z3.imp (fun ⟨y1, b3, e3, k3, m3, y2, y3, y4⟩ => ⟨y1, b3, e3, k3, m3, y2, by omega, by omega⟩) id⟩
  · rw [if_pos rfl, C_stop hT w1 (by show 0 < 70000; decide)]
    exact ⟨f1, t1, F1, s1, 0, rfl, rfl, Or.inr ⟨rfl, w1⟩⟩
/-- the level of tests -/
theorem sim_test (hG : GE h Y n κ A g σ ρ) {gL : Nat → Int32 → Int32 → Int32 → Bool → Sto → Rs Unit} {gP : Nat → Int32 → Int32 → Bool → Sto → Rs Unit} {g1 g2 g3 gS g5 g6 : Nat → Int32 → Bool → Sto → Rs Int32} (hS : SimOK h Y n κ A g σ ρ s0 F0 op no (fun b σ => gL h (nI 3) (nI op) (nI no) b σ) (fun b σ => gS Y (nI κ) b σ)) :
    SimOK h Y n κ A g σ ρ s0 F0 op no (fun b σ => fb_Tape_readLevel gL gP h (nI 2) (nI op) (nI no) b σ) (fun b σ => fb_Model_test g1 g2 g3 gS g5 g6 Y (nI κ) b σ) := by
  intro f t F s b e k m hh hP hm
  have hn := hG.1.2.2.2.1
  have hT := hG.1
  have hM := hG.2.1
  obtain ⟨f1, t1, F1, s1, r, u1, u2, u3⟩ := hS f t F s b e k m hh hP hm
  have u1' : gL h (nI 3) (nI op) (nI no) true (tS σ h f t) = ((), true, tS σ h f1 t1) := u1
  have u2' : gS Y (nI κ) true (mS ρ Y F s) = (r, true, mS ρ Y F1 s1) := u2
  have eC : fb_Tape_readLevel gL gP h (nI 2) (nI op) (nI no) true (tS σ h f t) = lp_ (b_Tape_readLevel_32 h (nI 2) (nI op) (nI no) gL) (fun (x4 : Int32) (b : Bool) (σ : Sto) => ((), false, σ)) fuel_ (nI 0) true (tS σ h f1 t1) := by
    unfold fb_Tape_readLevel
    rw [tS_f, if_pos (show f 11 < 0 by rw [hP.2.1.2.2.1]; decide), if_neg (show ¬ (4 : Int32) < nI 2 by decide), tS_k hT, nI_1]
    simp only [Bool.and_true]
    rw [u1', bd_]
    dsimp only
    rw [lt_]
    rfl
  have eM : fb_Model_test g1 g2 g3 gS g5 g6 Y (nI κ) true (mS ρ Y F s) = if r = 0 then ((0 : Int32), true, mS ρ Y F1 s1) else tsB gS Y (nI κ) true (mS ρ Y F1 s1) := by
    unfold fb_Model_test
    rw [mS_k hM, Bool.and_true, u2', bd_]
    rfl
  show ∃ f' t' F' s' r, fb_Tape_readLevel gL gP h (nI 2) (nI op) (nI no) true (tS σ h f t) = ((), true, tS σ h f' t') ∧ fb_Model_test g1 g2 g3 gS g5 g6 Y (nI κ) true (mS ρ Y F s) = (r, true, mS ρ Y F' s') ∧ Res g n κ A s0 F0 op no b m (hh + 1) f' t' F' s' r
  rw [eC, eM]
  rcases u3 with ⟨rfl, b2, e2, k2, m2, w1, w2, w3⟩ | ⟨rfl, w1⟩
  · rw [if_neg (show ¬ (1 : Int32) = 0 by decide)]
    obtain ⟨N, hN⟩ : ∃ N, fuel_ = N + 1 := ⟨69999, rfl⟩
    rw [hN, lp_S]
    rcases sim_turn hG (by decide) hS (turn_2 hM gS) w1 (by omega) (by omega) (show 0 < b2 by omega) (lp_ (b_Tape_readLevel_32 h (nI 2) (nI op) (nI no) gL) (fun (x4 : Int32) (b : Bool) (σ : Sto) => ((), false, σ)) N) with ⟨z1, z2⟩ | ⟨-, f2, t2, F2, s2, z1, z2⟩
    · exact ⟨f1, t1, F1, s1, 1, z1, z2, Or.inl ⟨rfl, b2, e2, k2, m2, w1, by omega, by omega⟩⟩
    · rw [z1, if_pos (show nI 2 = 2 from rfl)]
      rcases z2 with ⟨z3, b3, e3, k3, m3, z4, z5, z6⟩ | ⟨z3, z4⟩
      · exact ⟨f2, t2, F2, s2, 1, rfl, z3, Or.inl ⟨rfl, b3, e3, k3, m3, z4, by omega, by omega⟩⟩
      · exact ⟨f2, t2, F2, s2, 0, rfl, z3, Or.inr ⟨rfl, z4⟩⟩
  · rw [if_pos rfl, C_stop hT w1 (by show 0 < 70000; decide)]
    exact ⟨f1, t1, F1, s1, 0, rfl, rfl, Or.inr ⟨rfl, w1⟩⟩
/-- the last level is a part -/
theorem sim_five (hG : GE h Y n κ A g σ ρ) {gL : Nat → Int32 → Int32 → Int32 → Bool → Sto → Rs Unit} {gP : Nat → Int32 → Int32 → Bool → Sto → Rs Unit} {ψ : Bool → Sto → Rs Int32} (hS : SimOK h Y n κ A g σ ρ s0 F0 op no (fun b σ => gP h (nI op) (nI no) b σ) ψ) :
    SimOK h Y n κ A g σ ρ s0 F0 op no (fun b σ => fb_Tape_readLevel gL gP h (nI 5) (nI op) (nI no) b σ) ψ := by
  intro f t F s b e k m hh hP hm
  obtain ⟨f1, t1, F1, s1, r, u1, u2, u3⟩ := hS f t F s b e k m hh hP hm
  have u1' : gP h (nI op) (nI no) true (tS σ h f t) = ((), true, tS σ h f1 t1) := u1
  refine ⟨f1, t1, F1, s1, r, ?_, u2, u3⟩
  show fb_Tape_readLevel gL gP h (nI 5) (nI op) (nI no) true (tS σ h f t) = _
  unfold fb_Tape_readLevel
  rw [tS_f, if_pos (show f 11 < 0 by rw [hP.2.1.2.2.1]; decide), if_pos (by decide), tS_k hG.1, bd_id]
  exact u1'
/-- all levels, from a part -/
theorem sim_levels (hG : GE h Y n κ A g σ ρ) {N D D' : Nat} (hS : ∀ D D', N + 1 ≤ D → N + 1 ≤ D' → SimOK h Y n κ A g σ ρ s0 F0 op no (fun b σ => (fx_Tape D).2 h (nI op) (nI no) b σ) (fun b σ => (fx_Model D').2.2.2.2.2 Y (nI κ) b σ)) (hD : N + 7 ≤ D) (hD' : N + 6 ≤ D') : SimOK h Y n κ A g σ ρ s0 F0 op no (fun b σ => (fx_Tape D).1 h 0 (nI op) (nI no) b σ) (fun b σ => (fx_Model D').1 Y (nI κ) b σ) := by
  have hM := hG.2.1
  have s5 : ∀ D D', N + 2 ≤ D → N + 1 ≤ D' → SimOK h Y n κ A g σ ρ s0 F0 op no (fun b σ => (fx_Tape D).1 h (nI 5) (nI op) (nI no) b σ) (fun b σ => (fx_Model D').2.2.2.2.2 Y (nI κ) b σ) := fun D D' h1 h2 => by
    obtain ⟨D, rfl⟩ : ∃ z, D = z + 1 := ⟨D - 1, by omega⟩
    exact sim_five hG (hS D D' (by omega) h2)
  have s4 : ∀ D D', N + 3 ≤ D → N + 2 ≤ D' → SimOK h Y n κ A g σ ρ s0 F0 op no (fun b σ => (fx_Tape D).1 h (nI 4) (nI op) (nI no) b σ) (fun b σ => (fx_Model D').2.2.2.2.1 Y (nI κ) b σ) := fun D D' h1 h2 => by
    obtain ⟨D, rfl⟩ : ∃ z, D = z + 1 := ⟨D - 1, by omega⟩
    obtain ⟨D', rfl⟩ : ∃ z, D' = z + 1 := ⟨D' - 1, by omega⟩
    refine sim_level hG (l := 4) (by decide) (by decide) (s5 D D' (by omega) (by omega)) (fun L => turn_4 hM ((fx_Model D').2.2.2.2.2) L) (bad := fun (b : Bool) (σ : Sto) => (0, false, σ)) (fun F s => ?_)
    show fb_Model_term (fx_Model D').1 (fx_Model D').2.1 (fx_Model D').2.2.1 (fx_Model D').2.2.2.1 (fx_Model D').2.2.2.2.1 (fx_Model D').2.2.2.2.2 Y (nI κ) true (mS ρ Y F s) = _
    unfold fb_Model_term
    rw [mS_k hM]
    rfl
  have s3 : ∀ D D', N + 4 ≤ D → N + 3 ≤ D' → SimOK h Y n κ A g σ ρ s0 F0 op no (fun b σ => (fx_Tape D).1 h (nI 3) (nI op) (nI no) b σ) (fun b σ => (fx_Model D').2.2.2.1 Y (nI κ) b σ) := fun D D' h1 h2 => by
    obtain ⟨D, rfl⟩ : ∃ z, D = z + 1 := ⟨D - 1, by omega⟩
    obtain ⟨D', rfl⟩ : ∃ z, D' = z + 1 := ⟨D' - 1, by omega⟩
    refine sim_level hG (l := 3) (by decide) (by decide) (s4 D D' (by omega) (by omega)) (fun L => turn_3 hM ((fx_Model D').2.2.2.2.1) L) (bad := fun (b : Bool) (σ : Sto) => (0, false, σ)) (fun F s => ?_)
    show fb_Model_sumT (fx_Model D').1 (fx_Model D').2.1 (fx_Model D').2.2.1 (fx_Model D').2.2.2.1 (fx_Model D').2.2.2.2.1 (fx_Model D').2.2.2.2.2 Y (nI κ) true (mS ρ Y F s) = _
    unfold fb_Model_sumT
    rw [mS_k hM]
    rfl
  have s2 : ∀ D D', N + 5 ≤ D → N + 4 ≤ D' → SimOK h Y n κ A g σ ρ s0 F0 op no (fun b σ => (fx_Tape D).1 h (nI 2) (nI op) (nI no) b σ) (fun b σ => (fx_Model D').2.2.1 Y (nI κ) b σ) := fun D D' h1 h2 => by
    obtain ⟨D, rfl⟩ : ∃ z, D = z + 1 := ⟨D - 1, by omega⟩
    obtain ⟨D', rfl⟩ : ∃ z, D' = z + 1 := ⟨D' - 1, by omega⟩
    exact sim_test (g1 := (fx_Model D').1) (g2 := (fx_Model D').2.1) (g3 := (fx_Model D').2.2.1) (g5 := (fx_Model D').2.2.2.2.1) (g6 := (fx_Model D').2.2.2.2.2) hG (s3 D D' (by omega) (by omega))
  have s1 : ∀ D D', N + 6 ≤ D → N + 5 ≤ D' → SimOK h Y n κ A g σ ρ s0 F0 op no (fun b σ => (fx_Tape D).1 h (nI 1) (nI op) (nI no) b σ) (fun b σ => (fx_Model D').2.1 Y (nI κ) b σ) := fun D D' h1 h2 => by
    obtain ⟨D, rfl⟩ : ∃ z, D = z + 1 := ⟨D - 1, by omega⟩
    obtain ⟨D', rfl⟩ : ∃ z, D' = z + 1 := ⟨D' - 1, by omega⟩
    refine sim_level hG (l := 1) (by decide) (by decide) (s2 D D' (by omega) (by omega)) (fun L => turn_1 hM ((fx_Model D').2.2.1) L) (bad := fun (b : Bool) (σ : Sto) => (0, false, σ)) (fun F s => ?_)
    show fb_Model_both (fx_Model D').1 (fx_Model D').2.1 (fx_Model D').2.2.1 (fx_Model D').2.2.2.1 (fx_Model D').2.2.2.2.1 (fx_Model D').2.2.2.2.2 Y (nI κ) true (mS ρ Y F s) = _
    unfold fb_Model_both
    rw [mS_k hM]
    rfl
  obtain ⟨D, rfl⟩ : ∃ z, D = z + 1 := ⟨D - 1, by omega⟩
  obtain ⟨D', rfl⟩ : ∃ z, D' = z + 1 := ⟨D' - 1, by omega⟩
  refine sim_level hG (l := 0) (by decide) (by decide) (s1 D D' (by omega) (by omega)) (fun L => turn_0 hM ((fx_Model D').2.1) L) (bad := fun (b : Bool) (σ : Sto) => (0, false, σ)) (fun F s => ?_)
  show fb_Model_either (fx_Model D').1 (fx_Model D').2.1 (fx_Model D').2.2.1 (fx_Model D').2.2.2.1 (fx_Model D').2.2.2.2.1 (fx_Model D').2.2.2.2.2 Y (nI κ) true (mS ρ Y F s) = _
  unfold fb_Model_either
  rw [mS_k hM]
  rfl
/-- parts at every depth -/
theorem sim_all (hG : GE h Y n κ A g σ ρ) : ∀ N op no, op ≤ 8 → no ≤ 8 → 8 * (8 - op) + (8 - no) ≤ N → ∀ D D', N + 1 ≤ D → N + 1 ≤ D' → SimOK h Y n κ A g σ ρ s0 F0 op no (fun b σ => (fx_Tape D).2 h (nI op) (nI no) b σ) (fun b σ => (fx_Model D').2.2.2.2.2 Y (nI κ) b σ) := by
  intro N
  induction N using Nat.strongRecOn with
  | ind N ih =>
    intro op no hop hno hN D D' hD hD'
    obtain ⟨D, rfl⟩ : ∃ z, D = z + 1 := ⟨D - 1, by omega⟩
    obtain ⟨D', rfl⟩ : ∃ z, D' = z + 1 := ⟨D' - 1, by omega⟩
    refine sim_part (g2 := (fx_Model D').2.1) (g3 := (fx_Model D').2.2.1) (g4 := (fx_Model D').2.2.2.1) (g5 := (fx_Model D').2.2.2.2.1) hG hop hno (fun h8 => ?_) (fun h8 => ?_)
    · exact sim_levels hG (N := N - 8) (fun D1 D1' q1 q2 => ih (N - 8) (by omega) (op + 1) no (by omega) hno (by omega) D1 D1' q1 q2) (by omega) (by omega)
    · exact ih (N - 1) (by omega) op (no + 1) hop (by omega) (by omega) D D' (by omega) (by omega)
/-- a whole text behind its key -/
theorem sim_top (hG : GE h Y n κ A g σ ρ) : SimOK h Y n κ A g σ ρ s0 F0 0 0 (fun b σ => f_Tape_readLevel h 0 0 0 b σ) (fun b σ => f_Model_either Y (nI κ) b σ) :=
  sim_levels hG (N := 72) (D := dep_) (D' := dep_) (fun D D' h1 h2 => sim_all hG 72 0 0 (by decide) (by decide) (by decide) D D' h1 h2) (by decide) (by decide)
end TX9
