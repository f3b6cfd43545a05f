/-! texts: the whole of a text on both sides, together -/
section TXB
variable {h Y n : Nat} {g : Nat → Nat} {σ ρ : Sto}
theorem parse_sim (hT : TC h n g σ) (hM : TM Y n g ρ) (hS : SS σ) (f1 : SI σ h 1 = nI n) (F8 : SI ρ Y 8 = nI n) {nt : Nat} (hnt : nt ≤ 12) (s4 : SI ρ (Y + 1) 4 = nI nt) {A : Nat} (hA : A = if nt < 12 then 605 + 200 * nt else 3010) :
    ∃ f' t' F' s' x, f_Tape_readText h true σ = (f' 11, true, tS σ h f' t') ∧ f_Model_parse Y true ρ = (x, true, mS ρ Y (up1 F' 8 0) s') ∧ (∀ j, j < A ∨ A + 192 ≤ j → s' j = SI ρ (Y + 1) j) ∧ (∀ j, j ≤ 7 ∨ 19 ≤ j → F' j = SI ρ Y j) ∧ ((∃ κ m, x = nI κ ∧ PG κ m n A f' t' F' s') ∨ (∃ fa, fa ≤ n ∧ x = -1 ∧ f' 11 = nI fa ∧ F' 9 = nI fa)) := by
  have hn := hT.2.2.2.1
  have hA2 : A + 200 ≤ 3210 := by
    rw [hA]
    split <;> omega
  generalize hf : SI σ h = f at *
  generalize ht : SI σ (h + 2) = t at *
  generalize hF : SI ρ Y = F at *
  generalize hs : SI ρ (Y + 1) = s at *
  have eσ : σ = tS σ h f t := by rw [← hf, ← ht, tS_id]
  have eρ : ρ = mS ρ Y F s := by rw [← hF, ← hs, mS_id]
  -- the starts
  generalize hf0 : up1 (up1 (up1 (up1 (up1 f 11 (-1)) 9 0) 10 0) 3 0) 4 0 = f0
  generalize hF0 : up1 (up1 (up1 (up1 (up1 (up1 (up1 F 10 0) 11 3) 14 0) 15 0) 16 0) 18 0) 17 (nI A) = F0
  have C0 := e_rt0 (t := t) hT hf0
  have M0 := e_ps0 (s := s) hM hnt s4 hA hF0
  rw [← eσ] at C0
  rw [← eρ] at M0
  have g1 : f0 1 = nI n := by rw [← hf0]; simp only [up1_v, reduceIte, Nat.reduceEqDiff]; exact f1
  have g3 : f0 3 = nI 0 := by rw [← hf0]; simp only [up1_v, reduceIte, Nat.reduceEqDiff]; rfl
  have g4 : f0 4 = 0 := by rw [← hf0]; simp only [up1_v, reduceIte, Nat.reduceEqDiff]
  have g9 : f0 9 = nI 0 := by rw [← hf0]; simp only [up1_v, reduceIte, Nat.reduceEqDiff]; rfl
  have g10 : f0 10 = 0 := by rw [← hf0]; simp only [up1_v, reduceIte, Nat.reduceEqDiff]
  have g11 : f0 11 = -1 := by rw [← hf0]; simp only [up1_v, reduceIte, Nat.reduceEqDiff]
  have G8 : F0 8 = nI n := by rw [← hF0]; simp only [up1_v, reduceIte, Nat.reduceEqDiff]; exact F8
  have G10 : F0 10 = nI 0 := by rw [← hF0]; simp only [up1_v, reduceIte, Nat.reduceEqDiff]; rfl
  have G11 : F0 11 = 3 := by rw [← hF0]; simp only [up1_v, reduceIte, Nat.reduceEqDiff]
  have G14 : F0 14 = nI 0 := by rw [← hF0]; simp only [up1_v, reduceIte, Nat.reduceEqDiff]; rfl
  have G15 : F0 15 = nI 0 := by rw [← hF0]; simp only [up1_v, reduceIte, Nat.reduceEqDiff]; rfl
  have G16 : F0 16 = nI 0 := by rw [← hF0]; simp only [up1_v, reduceIte, Nat.reduceEqDiff]; rfl
  have G17 : F0 17 = nI A := by rw [← hF0]; simp only [up1_v, reduceIte, Nat.reduceEqDiff]
  have G18 : F0 18 = 0 := by rw [← hF0]; simp only [up1_v, reduceIte, Nat.reduceEqDiff]
  have GF : ∀ j, j ≤ 7 ∨ 19 ≤ j → F0 j = F j := fun j hj => by
    rw [← hF0, up1_ne' (by omega), up1_ne' (by omega), up1_ne' (by omega), up1_ne' (by omega), up1_ne' (by omega), up1_ne' (by omega), up1_ne' (by omega)]
  obtain ⟨fa, Fa, b, e, k, q1, q2, q3, q4, q5, q6⟩ := N_sim0 (t := t) (s := s) hT hM g1 G8 g3 G10 (Nat.zero_le _) (by rw [g4, G11]; decide) (by rw [G11]; exact fun z => absurd z (by decide))
  obtain ⟨⟨a1, a2⟩, ⟨a3, a4, a5, a6⟩, ⟨a7, a8, a9⟩, a10, a11, a12, a13, a14, a15, a16⟩ := id q3
  obtain ⟨rk1, rk2⟩ := e_readKey (t := t) hT hS a3 a4 a5 a13 a14 a15
  have mk := e_keyM (s := s) hM a7 a8 a9 a13 a14 a15
  rw [q1, bd_] at C0
  rw [q2, bd_] at M0
  dsimp only at C0 M0
  rw [tS_k hT, Bool.and_true] at C0
  rw [mS_k hM, Bool.and_true, mk, bd_] at M0
  dsimp only at M0
  by_cases hK : ∃ κ, κ < 4 ∧ kwW g b e k κ
  · obtain ⟨κ, hκ, hw⟩ := hK
    have hx : (if kwW g b e k 0 then (0 : Int32) else if kwW g b e k 1 then 1 else if kwW g b e k 2 then 2 else if kwW g b e k 3 then 3 else -1) = nI κ := by
      rcases (show κ = 0 ∨ κ = 1 ∨ κ = 2 ∨ κ = 3 by omega) with rfl | rfl | rfl | rfl
      · rw [if_pos hw]; rfl
      · rw [if_neg (fun z => absurd (kw_1 (by decide) (by decide) z hw) (by decide)), if_pos hw]; rfl
      · rw [if_neg (fun z => absurd (kw_1 (by decide) (by decide) z hw) (by decide)), if_neg (fun z => absurd (kw_1 (by decide) (by decide) z hw) (by decide)), if_pos hw]; rfl
      · rw [if_neg (fun z => absurd (kw_1 (by decide) (by decide) z hw) (by decide)), if_neg (fun z => absurd (kw_1 (by decide) (by decide) z hw) (by decide)), if_neg (fun z => absurd (kw_1 (by decide) (by decide) z hw) (by decide)), if_pos hw]; rfl
    rw [hx] at M0
    rw [rk1 κ hκ hw (fun i hi z => absurd (kw_1 (by omega) hκ z hw) (by omega))] at C0
    have hG : GE h Y n κ A g σ ρ := ⟨hT, hM, hS, hκ, hA2⟩
    have hP : PS g n κ A s F 0 0 b e k 0 0 (up1 fa 7 (nI κ)) t Fa s := by
      refine ⟨Tok_f q3 (fun j hj => up1_ne' (by omega)), ⟨up1_s, ?_, ?_, ?_⟩, ⟨?_, ?_, ?_, ?_⟩, fun j hj => absurd hj (Nat.not_lt_zero _), rfl, fun _ _ => rfl, fun j hj => ?_⟩
      · rw [up1_ne' (by decide), q5 9 (by omega)]; exact g9
      · rw [up1_ne' (by decide), q5 11 (by omega)]; exact g11
      · rw [up1_ne' (by decide), q5 10 (by omega), g10, q6 18 (by omega), G18]
      · rw [q6 14 (by omega)]; exact G14
      · rw [q6 15 (by omega)]; exact G15
      · rw [q6 16 (by omega)]; exact G16
      · rw [q6 17 (by omega)]; exact G17
      · rw [q6 j (by omega)]; exact GF j hj
    obtain ⟨fb, Fb, b2, e2, k2, y1, y2, y3, y4⟩ := PS_next hG hP
    have hb2 : 0 < b2 := by
      have := hw.2.1
      omega
    obtain ⟨fc, tc, Fc, sc, r, u1, u2, u3⟩ := sim_top hG fb t Fb s b2 e2 k2 0 0 y3 hb2
    have u1' : f_Tape_readLevel h 0 0 0 true (tS σ h fb t) = ((), true, tS σ h fc tc) := u1
    have u2' : f_Model_either Y (nI κ) true (mS ρ Y Fb s) = (r, true, mS ρ Y Fc sc) := u2
    rw [y1, bd_] at C0
    dsimp only at C0
    rw [tS_k hT, Bool.and_true, u1', bd_] at C0
    dsimp only at C0
    rw [e_endT hT] at C0
    rw [lt_, lt_, if_neg (nI_pos (show κ < 2 ^ 31 by omega))] at M0
    dsimp only at M0
    rw [lt_, lt_, if_neg (show ¬ (1 : Int32) = 0 by decide), mS_k hM, Bool.and_true, y2, bd_] at M0
    dsimp only at M0
    rw [mS_k hM, Bool.and_true, u2', bd_] at M0
    dsimp only at M0
    rw [lt_, lt_] at M0
    rcases u3 with ⟨rfl, b3, e3, k3, m3, w1, w2, w3⟩ | ⟨rfl, w1⟩
    · obtain ⟨z1, ⟨p2, p3, p4, p5⟩, ⟨p6, p7, p8, p9⟩, p10, p11, p12, p13⟩ := id w1
      obtain ⟨-, ⟨d3, -, d5, -⟩, ⟨d7, -, d9⟩, -, -, -, d13, d14, d15, -⟩ := z1
      have n0 : ∀ k, k < 5 → (nI k = 0 ↔ k = 0) := by decide
      rw [if_neg (show ¬ (1 : Int32) = 0 by decide), mS_f] at M0
      by_cases ck : k3 = 0
      · rw [if_pos (show Fc 11 = 0 by rw [d9]; exact (n0 k3 d13).mpr ck)] at M0
        rw [if_pos (show fc 4 = 5 by rw [d5]; exact (cdK_5 k3 d13).mpr ck)] at C0
        refine ⟨fc, tc, Fc, sc, nI κ, C0, ?_, p12, p13, Or.inl ⟨κ, m3, rfl, hκ, by omega, p4, p2, p3, p8, p5, p10, p11⟩⟩
        rw [M0]
        simp only [lt_, mS_p, mS_k hM, Bool.and_true]
        rw [if_neg (show ¬ (1 : Int32) = 0 by decide)]
      · rw [if_neg (show ¬ Fc 11 = 0 from fun z => ck ((n0 k3 d13).mp (d9.symm.trans z)))] at M0
        rw [if_neg (show ¬ fc 4 = 5 from fun z => ck ((cdK_5 k3 d13).mp (d5.symm.trans z))), if_pos (show fc 11 < 0 by rw [p4]; decide)] at C0
        refine ⟨up1 fc 11 (fc 2), tc, Fc, sc, -1, by rw [C0, up1_s], ?_, p12, p13, Or.inr ⟨b3, by omega, rfl, by rw [up1_s]; exact d3, d7⟩⟩
        rw [M0]
        simp only [lt_, mS_p, mS_k hM, Bool.and_true]
        rw [if_pos trivial]
    · obtain ⟨⟨fe, z1, z2, z3⟩, z4, z5, z6⟩ := id w1
      rw [if_pos rfl] at M0
      have hneg := FL_neg hn w1
      refine ⟨fc, tc, Fc, sc, -1, ?_, ?_, z5, z6, Or.inr ⟨fe, z1, rfl, z2, z3⟩⟩
      · rw [C0]
        by_cases c4 : fc 4 = 5
        · rw [if_pos c4]
        · rw [if_neg c4, if_neg hneg]
      · rw [M0]
        simp only [lt_, mS_p, mS_k hM, Bool.and_true]
        rw [if_pos trivial]
  · have hno : ∀ i, i < 4 → ¬ kwW g b e k i := fun i hi z => hK ⟨i, hi, z⟩
    rw [if_neg (hno 0 (by decide)), if_neg (hno 1 (by decide)), if_neg (hno 2 (by decide)), if_neg (hno 3 (by decide))] at M0
    rw [rk2 hno, e_note hT, bd_] at C0
    dsimp only at C0
    have fl : fa 11 < 0 := by rw [q5 11 (by omega), g11]; decide
    rw [if_pos fl] at C0
    have hneg : ¬ up1 fa 11 (fa 2) 11 < 0 := by
      rw [up1_s, a3]
      exact nI_pos (by omega)
    rw [tS_k hT, Bool.and_true, e_skipL hT hneg, bd_] at C0
    dsimp only at C0
    rw [e_endT hT] at C0
    rw [lt_, lt_, if_pos (show (-1 : Int32) < 0 by decide)] at M0
    refine ⟨up1 fa 11 (fa 2), t, Fa, s, -1, ?_, ?_, fun _ _ => rfl, fun j hj => by rw [q6 j (by omega)]; exact GF j hj, Or.inr ⟨b, by omega, rfl, by rw [up1_s]; exact a3, a7⟩⟩
    · rw [C0]
      by_cases c4 : up1 fa 11 (fa 2) 4 = 5
      · rw [if_pos c4]
      · rw [if_neg c4, if_neg hneg]
    · rw [M0]
      simp only [lt_, mS_p, mS_k hM, Bool.and_true]
      rw [if_pos trivial, if_pos trivial]
end TXB
