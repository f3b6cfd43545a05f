/-! how the two sides' stores belong together -/
def bd (x : Int32) (a c : Int) : Prop := a ≤ x.toInt ∧ x.toInt ≤ c
def NONE_ : Int32 := -1000000005
/-- the day -/
def rDay (σ : Sto) (w : Nat) (S : Nat → Int32) : Prop := SI σ w 8 = S 0 ∧ bd (S 0) 0 999
/-- length, places, fires, lands -/
def rG (σ : Sto) (w : Nat) (S : Nat → Int32) : Prop := ∃ np nf : Nat, np ≤ 16 ∧ nf ≤ 6 ∧ SI σ (w + 1) 10 = nI np ∧ S 2 = nI np ∧ SI σ (w + 1) 11 = nI nf ∧ S 3 = nI nf ∧ SI σ (w + 1) 9 = S 1 ∧ bd (S 1) 20 2000 ∧
  (∀ k, k < np → SI σ (w + 2) k = S (30 + 4 * k) ∧ SI σ (w + 3) k = S (31 + 4 * k) ∧ SI σ (w + 4) k = S (32 + 4 * k) ∧ SI σ (w + 5) k = S (33 + 4 * k) ∧ bd (S (30 + 4 * k)) 0 5 ∧ bd (S (31 + 4 * k)) 0 (S 1).toInt ∧ bd (S (32 + 4 * k)) 0 142 ∧ bd (S (33 + 4 * k)) 0 127 ∧ (S (30 + 4 * k) = 1 → S (32 + 4 * k) = 0)) ∧
  (∀ j k, j < np → k < np → S (31 + 4 * j) = S (31 + 4 * k) → j = k) ∧
  (∀ k, k < nf → SI σ (w + 7) k = S (100 + 4 * k) ∧ SI σ (w + 8) k = S (101 + 4 * k) ∧ SI σ (w + 9) k = S (102 + 4 * k) ∧ SI σ (w + 10) k = S (103 + 4 * k) ∧ bd (S (100 + 4 * k)) 0 2000 ∧ bd (S (101 + 4 * k)) 0 (S 1).toInt ∧ S (100 + 4 * k) < S (101 + 4 * k) ∧ bd (S (102 + 4 * k)) 0 999 ∧ bd (S (103 + 4 * k)) 0 999) ∧
  (∀ k, 1 ≤ k → k ≤ 3 → (S (10 + k) = -1 ∧ SI σ (w + 6) k = NONE_) ∨ (bd (S (10 + k)) 0 2000 ∧ SI σ (w + 6) k = S (10 + k)))
/-- wishes and quotas -/
def rQ (σ : Sto) (w : Nat) (S : Nat → Int32) : Prop := ∃ nq : Nat, nq ≤ 16 ∧ SI σ (w + 21) 3 = nI nq ∧ S 7 = nI nq ∧ (∀ k, k < nq → SI σ (w + 23) k = S (440 + 2 * k) ∧ SI σ (w + 24) k = S (441 + 2 * k) ∧ bd (S (440 + 2 * k)) 0 999 ∧ bd (S (441 + 2 * k)) 0 9) ∧ (∀ k, k < 7 → SI σ (w + 22) k = S (14 + k) ∧ bd (S (14 + k)) 0 9)
/-- the cost of a box; rides -/
def rS (σ : Sto) (w : Nat) (S : Nat → Int32) : Prop := SI σ (w + 28) 0 = S 10 ∧ bd (S 10) 0 99 ∧ ∃ nr : Nat, nr ≤ 12 ∧ SI σ (w + 28) 4 = nI nr ∧ S 8 = nI nr ∧ (∀ k, k < nr → SI σ (w + 29) k = S (480 + 3 * k) ∧ SI σ (w + 30) k = S (481 + 3 * k) ∧ SI σ (w + 31) k = S (482 + 3 * k) ∧ 0 ≤ S (480 + 3 * k) ∧ S (480 + 3 * k) < S 2 ∧ 0 ≤ S (481 + 3 * k) ∧ S (481 + 3 * k) < S 2 ∧ bd (S (482 + 3 * k)) 1 999)
/-- pictures -/
def rA (σ : Sto) (w : Nat) (S : Nat → Int32) : Prop := ∃ np : Nat, np ≤ 20 ∧ SI σ (w + 35) 2 = nI np ∧ S 9 = nI np ∧ (∀ k, k < np → SI σ (w + 36) k = S (520 + 2 * k) ∧ SI σ (w + 37) k = S (521 + 2 * k) ∧ bd (S (520 + 2 * k)) 0 999 ∧ bd (S (521 + 2 * k)) 0 (S 1).toInt)
/-- boxes -/
def rB (σ : Sto) (w : Nat) (S : Nat → Int32) : Prop := ∃ nb : Nat, nb ≤ 20 ∧ SI σ (w + 15) 5 = nI nb ∧ S 6 = nI nb ∧ (∀ k, k < nb → SI σ (w + 16) k = S (340 + 5 * k) ∧ SI σ (w + 17) k = S (341 + 5 * k) ∧ SI σ (w + 18) k = S (342 + 5 * k) ∧ SI σ (w + 19) k = S (343 + 5 * k) ∧ SI σ (w + 20) k = S (344 + 5 * k) ∧ 0 ≤ S (340 + 5 * k) ∧ S (340 + 5 * k) < S 5 ∧ 0 ≤ S (341 + 5 * k) ∧ S (341 + 5 * k) < S 2 ∧ bd (S (342 + 5 * k)) 1 20 ∧ bd (S (343 + 5 * k)) 0 1098 ∧ bd (S (344 + 5 * k)) 0 2 ∧ S (30 + 4 * ix (S (341 + 5 * k))) = 3)
/-- a walker: its object's fields and its row -/
def rW1 (σ : Sto) (a : Nat) (S : Nat → Int32) (r : Nat) : Prop := SI σ a 0 = S (r + 15) ∧ SI σ a 1 = S (r + 2) ∧ SI σ a 2 = S (r + 16) ∧ SI σ a 3 = S (r + 17) ∧ SI σ a 4 = S (r + 18) ∧ SI σ a 5 = S r ∧ SI σ a 6 = S (r + 1) ∧ SI σ a 7 = S (r + 3) ∧ SI σ a 8 = S (r + 4) ∧ SI σ a 9 = S (r + 5) ∧ SI σ a 10 = S (r + 6) ∧ SI σ a 11 = S (r + 7) ∧ SI σ a 12 = S (r + 8) ∧ SI σ a 13 = S (r + 9) ∧ SI σ a 14 = S (r + 10) ∧ SI σ a 15 = S (r + 11) ∧ SI σ a 16 = S (r + 12) ∧ SI σ a 17 = S (r + 13) ∧
  bd (S r) 0 3 ∧ bd (S (r + 1)) 0 (S 1).toInt ∧ bd (S (r + 2)) 1 40 ∧ bd (S (r + 3)) 0 20 ∧ bd (S (r + 9)) 0 9 ∧ bd (S (r + 15)) 0 999 ∧ bd (S (r + 16)) 0 5 ∧ bd (S (r + 17)) 1 20 ∧ bd (S (r + 18)) 1 99 ∧ (S r = 0 → S (r + 1) = 0)
def rW (σ : Sto) (w : Nat) (S : Nat → Int32) : Prop := ∃ nw : Nat, nw ≤ 10 ∧ SI σ w 7 = nI nw ∧ S 5 = nI nw ∧ ∀ k, k < nw → rW1 σ (w + 43 + k) S (130 + 20 * k)
/-- a step of a text: the class's number and the reference's pair, by the text's key -/
def rStep (key z what v : Int32) : Prop := (what = 0 ∧ z = v ∧ bd v 0 9999) ∨ (what = 1 ∧ ((key = 0 ∧ ((v = 109 ∧ z = -1) ∨ (v = 110 ∧ z = -2))) ∨ (key = 1 ∧ ((v = 108 ∧ z = -1) ∨ (v = 102 ∧ z = -2))) ∨ (key = 2 ∧ ((v = 104 ∧ z = -1) ∨ (v = 116 ∧ z = -2) ∨ (v = 115 ∧ z = -3) ∨ (v = 119 ∧ z = -4))) ∨ (key = 3 ∧ ((v = 100 ∧ z = -1) ∨ (v = 112 ∧ z = -2))))) ∨ (what = 2 ∧ z = -v ∧ (v = 33 ∨ v = 38 ∨ v = 42 ∨ v = 43 ∨ v = 45 ∨ v = 47 ∨ v = 60 ∨ v = 61 ∨ v = 62 ∨ v = 124))
/-- how many numbers lie on the pile behind the first steps of a row: each step finds what it needs -/
def pileOK (S : Nat → Int32) (r : Nat) : Nat → Nat → Prop
  | 0, h => h = 0
  | n + 1, h => ∃ g, pileOK S r n g ∧ ((S (r + 2 * n) ≠ 2 ∧ h = g + 1) ∨ (S (r + 2 * n) = 2 ∧ S (r + 2 * n + 1) = 33 ∧ 1 ≤ g ∧ h = g) ∨ (S (r + 2 * n) = 2 ∧ S (r + 2 * n + 1) ≠ 33 ∧ 2 ≤ g ∧ h + 1 = g))
/-- a text: its object a, its row r -/
def rT1 (σ : Sto) (a : Nat) (S : Nat → Int32) (r : Nat) : Prop := Stk σ a = 9 ∧ SI σ a 0 = S r ∧ SI σ a 1 = S (r + 1) ∧ SI σ a 2 = S (r + 2) ∧ SI σ a 3 = S (r + 3) ∧ bd (S r) 0 3 ∧ bd (S (r + 1)) 0 3 ∧ bd (S (r + 2)) 0 999 ∧ ∃ n : Nat, n < 96 ∧ S (r + 4) = nI n ∧ Stk σ (SR σ a 4) = 21 ∧ Sln σ (SR σ a 4) = n ∧ (∀ k, k < n → rStep (S r) (SI σ (SR σ a 4) k) (S (r + 5 + 2 * k)) (S (r + 6 + 2 * k))) ∧ pileOK S (r + 5) n 1
/-- texts; X0, X1: where the class's own cells lie (texts lie outside) -/
def rT (X : Nat) (σ : Sto) (w : Nat) (S : Nat → Int32) : Prop := ∃ nt : Nat, nt ≤ 12 ∧ SI σ (w + 11) 1 = nI nt ∧ S 4 = nI nt ∧ (∀ k, k < 12 → SR σ (w + 12) k = 0 ∨ (X + 173 ≤ SR σ (w + 12) k ∧ SR σ (w + 12) k < Shn σ ∧ Stk σ (SR σ (w + 12) k) = 9)) ∧ ∀ k, k < nt → X + 173 ≤ SR σ (w + 12) k ∧ SR σ (w + 12) k < Shn σ ∧ X + 173 ≤ SR σ (SR σ (w + 12) k) 4 ∧ SR σ (SR σ (w + 12) k) 4 < Shn σ ∧ rT1 σ (SR σ (w + 12) k) S (600 + 200 * k)
/-- a world of the class and a row of the reference -/
def RWd (X : Nat) (σ : Sto) (w : Nat) (S : Nat → Int32) : Prop := rDay σ w S ∧ rG σ w S ∧ rQ σ w S ∧ rS σ w S ∧ rA σ w S ∧ rB σ w S ∧ rW σ w S ∧ rT X σ w S
/-- the tape -/
def rTape (X Y : Nat) (σ ρ : Sto) : Prop := ∃ n : Nat, n ≤ 96 ∧ SI σ (X + 160) 1 = nI n ∧ SI ρ Y 8 = nI n ∧ ∀ k, k < n → SI σ (X + 161) k = (SI ρ (Y + 7) k).toInt8.toInt32 ∧ bd (SI ρ (Y + 7) k) 0 255
/-- the sheets -/
def rSh (X Y : Nat) (σ ρ : Sto) : Prop := ∀ k, k < 4 → SI σ (X + 164 + 2 * k) 0 = SI ρ (Y + 4) k ∧ bd (SI ρ (Y + 4) k) (-1) 2 ∧ ∃ n : Nat, n ≤ 24 ∧ SI σ (X + 164 + 2 * k) 1 = nI n ∧ SI ρ (Y + 5) k = nI n ∧ ∀ j, j < 24 → SL σ (X + 165 + 2 * k) j = SL ρ (Y + 6) (24 * k + j)
/-- the row that waits -/
def rTell (X Y : Nat) (σ ρ : Sto) : Prop := ∃ n : Nat, n ≤ 60 ∧ SI σ X 6 = nI n ∧ SI ρ Y 33 = nI n ∧ ∀ k, k < n → SI σ (X + 172) k = SI ρ (Y + 20) k
/-- the two sides belong together -/
def REL (X Y : Nat) (σ ρ : Sto) : Prop := 1 ≤ X ∧ X + 173 ≤ Shn σ ∧ LayX X σ ∧ LayY Y ρ ∧ ((∀ i, i ≤ 10 → Scs σ i ≠ 0) ∧ DS (Scs σ)) ∧
  RWd X σ (X + 1) (SI ρ (Y + 1)) ∧ (SI σ X 7 = 0 ∧ SI ρ Y 3 = 0 ∨ SI σ X 7 = 1 ∧ SI ρ Y 3 = 1 ∧ RWd X σ (X + 54) (SI ρ (Y + 2))) ∧ rTape X Y σ ρ ∧ rSh X Y σ ρ ∧ rTell X Y σ ρ
