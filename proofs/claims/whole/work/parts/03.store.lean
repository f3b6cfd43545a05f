/-! the store: what the cells of a side hold, as plain functions; and the judgement V: from a place of a method's code, over a store, the method comes to its end with an answer and a store -/
abbrev Sto : Type := Nat × (Nat → Nat) × (Nat → Nat) × (Nat → Nat → Int32) × (Nat → Nat → Int64) × (Nat → Nat → Nat) × (Nat → Nat)
abbrev Rs (α : Type) : Type := α × Bool × Sto
abbrev MD : Type := MethodName × ByteArray × Nat × Option FieldType
def Shn (σ : Sto) : Nat := σ.1
def Stk (σ : Sto) : Nat → Nat := σ.2.1
def Sln (σ : Sto) : Nat → Nat := σ.2.2.1
def SI (σ : Sto) : Nat → Nat → Int32 := σ.2.2.2.1
def SL (σ : Sto) : Nat → Nat → Int64 := σ.2.2.2.2.1
def SR (σ : Sto) : Nat → Nat → Nat := σ.2.2.2.2.2.1
def Scs (σ : Sto) : Nat → Nat := σ.2.2.2.2.2.2
def up1 {α : Type} (f : Nat → α) (a : Nat) (v : α) : Nat → α := fun x => if x = a then v else f x
def up2 {α : Type} (f : Nat → Nat → α) (a j : Nat) (v : α) : Nat → Nat → α := fun x y => if x = a then (if y = j then v else f x y) else f x y
def pI (σ : Sto) (a j : Nat) (v : Int32) : Sto := (σ.1, σ.2.1, σ.2.2.1, up2 σ.2.2.2.1 a j v, σ.2.2.2.2)
def pL (σ : Sto) (a j : Nat) (v : Int64) : Sto := (σ.1, σ.2.1, σ.2.2.1, σ.2.2.2.1, up2 σ.2.2.2.2.1 a j v, σ.2.2.2.2.2)
def pR (σ : Sto) (a j : Nat) (v : Nat) : Sto := (σ.1, σ.2.1, σ.2.2.1, σ.2.2.2.1, σ.2.2.2.2.1, up2 σ.2.2.2.2.2.1 a j v, σ.2.2.2.2.2.2)
/-- a whole row of ints, of longs -/
def rI (σ : Sto) (a : Nat) (f : Nat → Int32) : Sto := (σ.1, σ.2.1, σ.2.2.1, up1 σ.2.2.2.1 a f, σ.2.2.2.2)
def rL (σ : Sto) (a : Nat) (f : Nat → Int64) : Sto := (σ.1, σ.2.1, σ.2.2.1, σ.2.2.2.1, up1 σ.2.2.2.2.1 a f, σ.2.2.2.2.2)
/-- a new cell of a kind and a length, all of it 0 -/
def nC (σ : Sto) (k len : Nat) : Sto := (σ.1 + 1, up1 σ.2.1 σ.1 k, up1 σ.2.2.1 σ.1 len, up1 σ.2.2.2.1 σ.1 (fun _ => 0), up1 σ.2.2.2.2.1 σ.1 (fun _ => 0), up1 σ.2.2.2.2.2.1 σ.1 (fun _ => 0), σ.2.2.2.2.2.2)
def lt_ {α β : Type} (x : α) (k : α → β) : β := k x
def bd_ {α β : Type} (x : Rs α) (k : α → Bool → Sto → Rs β) : Rs β := k x.1 x.2.1 x.2.2
/-- a reference in a store is an address and 1; 0 is null -/
def vr (x : Nat) : Value := if x = 0 then .null else .ref (x - 1)
/-- what stands on a stack or in a local: an int, a long, a reference (0: null) -/
abbrev LV : Type := Int32 ⊕ Int64 ⊕ Nat
abbrev vI (x : Int32) : LV := Sum.inl x
abbrev vL (x : Int64) : LV := Sum.inr (Sum.inl x)
abbrev vR (x : Nat) : LV := Sum.inr (Sum.inr x)
def val (v : LV) : Value := match v with
  | .inl x => .int x
  | .inr (.inl x) => .long x
  | .inr (.inr x) => vr x
def cat (v : LV) : Nat := match v with
  | .inl _ => 1
  | .inr (.inl _) => 2
  | .inr (.inr _) => 1
def stm (st : List LV) : List Value := st.map val
def lvm (lv : List (Nat × LV)) : List (Nat × Value) := lv.map (fun q => (q.1, val q.2))
def lva (i : Nat) (as : List LV) : List (Nat × LV) := match as with
  | [] => []
  | v :: vs => (i, v) :: lva (i + cat v) vs
def csm (st : List LV) : Nat := (st.map cat).sum
/-- an index in range -/
def inb (i : Int32) (n : Nat) : Bool := !(decide (i < 0) || decide (n ≤ i.toNatClampNeg))
def ix (i : Int32) : Nat := i.toNatClampNeg
theorem inb_in {i : Int32} {n : Nat} (h : inb i n = true) : vp_in i n := by
  intro q
  simp only [inb, Bool.not_eq_true', Bool.or_eq_false_iff, decide_eq_false_iff_not] at h
  rcases q with q | q
  · exact h.1 q
  · exact h.2 q
/-- checks: a cell of a kind; an index into a row of a kind -/
def cK (σ : Sto) (a k : Nat) : Bool := decide (Stk σ a = k)
def cA (σ : Sto) (a k : Nat) (i : Int32) : Bool := decide (Stk σ a = k) && inb i (Sln σ a)
def fv (σ : Sto) (a j : Nat) (t : FieldType) : Value := match t with
  | .long => .long (SL σ a j)
  | .object _ => vr (SR σ a j)
  | .array _ => vr (SR σ a j)
  | _ => .int (SI σ a j)
/-- kinds: 1.. 13 objects of the classes, 21 int[], 22 byte[], 23 long[], 24 boolean[], 25 Text[], 26 Walker[], 27 Sheet[] -/
def celP (D : va_G) (dA : Nat → ClassId) (σ : Sto) (a : Nat) (H : Heap) : Prop := match Stk σ a with
  | 21 => H[a - 1]? = some (arrV (dA 0) (Sln σ a) (fun j => .int (SI σ a j)))
  | 22 => H[a - 1]? = some (arrV (dA 1) (Sln σ a) (fun j => .int (SI σ a j)))
  | 23 => H[a - 1]? = some (arrV (dA 2) (Sln σ a) (fun j => .long (SL σ a j)))
  | 24 => H[a - 1]? = some (arrV (dA 3) (Sln σ a) (fun j => .int (SI σ a j)))
  | 25 => H[a - 1]? = some (arrV (dA 4) (Sln σ a) (fun j => vr (SR σ a j)))
  | 26 => H[a - 1]? = some (arrV (dA 5) (Sln σ a) (fun j => vr (SR σ a j)))
  | 27 => H[a - 1]? = some (arrV (dA 6) (Sln σ a) (fun j => vr (SR σ a j)))
  | k => t_OB (a - 1) (D.1 (k - 1)) (clN (k - 1)) (D.2 (k - 1)) H (fun j => fv σ a j (clY (k - 1) j))
def tyA (dA : Nat → ClassId) : List (ClassId × FieldType) := [(dA 0, .int), (dA 1, .byte), (dA 2, .long), (dA 3, .boolean), (dA 4, .object "LongTrail$Text"), (dA 5, .object "LongTrail$Walker"), (dA 6, .object "LongTrail$Sheet")]
def inS (σ : Sto) (a : Nat) : Prop := 1 ≤ Stk σ a ∧ Stk σ a < 40
def AS (σ : Sto) : Nat → Prop := fun q => inS σ (q + 1) ∨ Shn σ ≤ q + 1
/-- the heap holds the store -/
def HP (D : va_G) (dA : Nat → ClassId) (cs : Nat → Nat) (σ : Sto) (A : Nat → Prop) (H : Heap) : Prop := H.size + 1 = Shn σ ∧ Stk σ 0 = 0 ∧ 1 ≤ Shn σ ∧ Scs σ = cs ∧ ∀ a, inS σ a → celP D dA σ a H ∧ A (a - 1)
/-- the table of kinds above kinds; the String constants -/
def kaT : Nat → Int32 := fun j => match j with
  | 0 => -1
  | 1 => 0
  | 2 => 1
  | 3 => 2
  | 4 => 0
  | _ => 1
def slen : List Nat := [16, 2, 2, 4, 2]
def sbyt : List (List Int32) := [[99, 97, 109, 112, 115, 107, 105, 112, 113, 117, 105, 116, 100, 114, 97, 119], [109, 110], [108, 102], [104, 116, 115, 119], [100, 112]]
/-- what nobody writes -/
def RO (cs : Nat → Nat) (A : Nat → Prop) (U : State) : Prop :=
  va_Z "LongTrail$Ground" "KIND_ABOVE" "[I" (.ref (cs 0 - 1)) A U U.heap ∧ va_T .int (cs 0 - 1) 6 (fun j => .int (kaT j)) A U U.heap ∧
  vk_S 5 slen sbyt (fun i => cs (1 + i) - 1) (fun i => cs (6 + i) - 1) A U U.heap ∧
  va_Z "java/lang/String" "COMPACT_STRINGS" "Z" (.int 1) A U U.heap ∧ va_Z "jdk/internal/util/Preconditions" "SIOOBE_FORMATTER" "Ljava/util/function/BiFunction;" (vr (cs 11)) A U U.heap
/-- the String constants, as the class's pool has them -/
def SK (cs : Nat → Nat) (U : State) : Prop := vk_R "LongTrail$Tape" 95 "campskipquitdraw" (cs 1 - 1) U ∧ vk_R "LongTrail$Tape" 128 "mn" (cs 2 - 1) U ∧ vk_R "LongTrail$Tape" 130 "lf" (cs 3 - 1) U ∧ vk_R "LongTrail$Tape" 132 "htsw" (cs 4 - 1) U ∧ vk_R "LongTrail$Tape" 134 "dp" (cs 5 - 1) U
def KK (D : va_G) (dA : Nat → ClassId) (cs : Nat → Nat) (A : Nat → Prop) (U : State) : Prop :=
  va_K D vcl (tyA dA) U ∧ (∀ w ∈ nwl, va_Nw w U) ∧ (va_AO "LongTrail$Text" U ∧ va_AO "LongTrail$Walker" U ∧ va_AO "LongTrail$Sheet" U) ∧ RO cs A U ∧ SK cs U
def Rm (d mc ms : Nat) : Room := { frames := d, cells := mc, slots := ms, locals := 64 * d }
def wsO (M : MD) : List Cond := Cond.code M.1 M.2.1 M.2.2.1 M.2.2.2 :: gwl
/-- a method's frame: the machine, its code, the tables -/
def Cx (M : MD) (D : va_G) (dA : Nat → ClassId) (cs : Nat → Nat) (A : Nat → Prop) (p : Program) (s : State) (m : MethodId) (args : Array Value) (meth : Method) (c : Code) : Prop :=
  p.tables.exec = Jvm.exec ∧ c.code = M.2.1 ∧ meth.sig.returnType = M.2.2.2 ∧ c.maxLocals = M.2.2.1 ∧ meth.locks = false ∧ meth.name = M.1.name ∧ s.vm.findClass M.1.cls = some m.cls ∧ (∀ w ∈ gwl, w.before args s = true) ∧ KK D dA cs A s ∧ (∀ q : Nat, s.heap.size ≤ q → A q)
def QcV {α : Type} (tv : α → Option LV) (F : Rs α) (D : va_G) (dA : Nat → ClassId) (cs : Nat → Nat) (A : Nat → Prop) : Array Value → State → Outcome → State → Prop := fun _ st o t => (o = .returned ((tv F.1).map val) ∧ HP D dA cs F.2.2 A t.heap) ∧ va_F A st t
def V {α : Type} (M : MD) (d mc ms k n : Nat) (tv : α → Option LV) (F : Rs α) (pc : Nat) (lv : List (Nat × LV)) (st : List LV) (b : Bool) (σ : Sto) : Prop :=
  (F.2.1 = true → b = true) ∧ (F.2.1 = true → ∀ (D : va_G) (dA : Nat → ClassId) (cs : Nat → Nat) (A : Nat → Prop) (p : Program) (l : Launch) (e : Env) (s : State) (m : MethodId) (args : Array Value) (below : List Frame) (meth : Method) (c : Code) (ls : Array Slot) (H : Heap) (locs : List Loc),
    Cx M D dA cs A p s m args meth c → lv_has ls M.2.2.1 (lvm lv) → HP D dA cs σ A H → va_S A s.heap H locs →
    W p l e (Rm d mc ms) s m args below meth c H locs k n (MQ below (QcV tv F D dA cs A) args s mc ms A) (F0 m pc ls (stm st)))
/-- a method's contract, at given arguments and a given store -/
def Snd (M : MD) (d mc ms : Nat) (as : List LV) (b : Bool) (σ : Sto) (rv : Option LV) (b' : Bool) (σ' : Sto) : Prop :=
  (b' = true → b = true) ∧ (b' = true → ∀ (l : Launch) (D : va_G) (dA : Nat → ClassId), Met l M.1 (wsO M) (Rm d mc ms) (va_Pc (stm as) (fun U => HP D dA (Scs σ) σ (AS σ) U.heap ∧ KK D dA (Scs σ) (AS σ) U)) (fun _ st o t => (o = .returned (rv.map val) ∧ HP D dA (Scs σ) σ' (AS σ) t.heap) ∧ va_F (AS σ) st t) mc ms (AS σ))
