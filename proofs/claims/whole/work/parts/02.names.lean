/-! names: classes and their fields -/
def gwl : List Cond := lw_tbl.filter goodWord
theorem gw_in {w : Cond} (h : w ∈ lw_tbl) (hg : goodWord w = true) : w ∈ gwl := List.mem_filter.mpr ⟨h, hg⟩
def isNst : Cond → Bool
  | .fieldLinkNest .. => true
  | .methodLinkNest .. => true
  | _ => false
def nwl : List Cond := lw_tbl.filter isNst
theorem nw_in {w : Cond} (h : w ∈ lw_tbl) (hg : isNst w = true) : w ∈ nwl := List.mem_filter.mpr ⟨h, hg⟩
def fT_Album : u_T := fun k => match k with
  | 0 => ("LongTrail$Album", "days", "[I", true)
  | 1 => ("LongTrail$Album", "miles", "[I", true)
  | 2 => ("LongTrail$Album", "size", "I", false)
  | 3 => ("LongTrail$Album", "latestFirst", "[I", true)
  | 4 => ("LongTrail$Album", "rowSizes", "[I", true)
  | 5 => ("LongTrail$Album", "rowEnds", "[I", true)
  | _ => ("LongTrail$Album", "rowNexts", "[I", true)
def fY_Album : Nat → FieldType := fun k => match k with
  | 0 => .array (.int)
  | 1 => .array (.int)
  | 2 => .int
  | 3 => .array (.int)
  | 4 => .array (.int)
  | 5 => .array (.int)
  | _ => .array (.int)
def fT_Ground : u_T := fun k => match k with
  | 0 => ("LongTrail$Ground", "kinds", "[I", true)
  | 1 => ("LongTrail$Ground", "miles", "[I", true)
  | 2 => ("LongTrail$Ground", "numbers", "[I", true)
  | 3 => ("LongTrail$Ground", "shuts", "[I", true)
  | 4 => ("LongTrail$Ground", "begins", "[I", true)
  | 5 => ("LongTrail$Ground", "fireFroms", "[I", true)
  | 6 => ("LongTrail$Ground", "fireTos", "[I", true)
  | 7 => ("LongTrail$Ground", "fireFirstDays", "[I", true)
  | 8 => ("LongTrail$Ground", "fireLastDays", "[I", true)
  | 9 => ("LongTrail$Ground", "length", "I", false)
  | 10 => ("LongTrail$Ground", "places", "I", false)
  | _ => ("LongTrail$Ground", "fires", "I", false)
def fY_Ground : Nat → FieldType := fun k => match k with
  | 0 => .array (.int)
  | 1 => .array (.int)
  | 2 => .array (.int)
  | 3 => .array (.int)
  | 4 => .array (.int)
  | 5 => .array (.int)
  | 6 => .array (.int)
  | 7 => .array (.int)
  | 8 => .array (.int)
  | 9 => .int
  | 10 => .int
  | _ => .int
def fT_Laws : u_T := fun k => match k with
  | 0 => ("LongTrail$Laws", "texts", "[LLongTrail$Text;", true)
  | 1 => ("LongTrail$Laws", "size", "I", false)
  | 2 => ("LongTrail$Laws", "names", "[I", true)
  | 3 => ("LongTrail$Laws", "stack", "[I", true)
  | _ => ("LongTrail$Laws", "top", "I", false)
def fY_Laws : Nat → FieldType := fun k => match k with
  | 0 => .array (.object "LongTrail$Text")
  | 1 => .int
  | 2 => .array (.int)
  | 3 => .array (.int)
  | _ => .int
def fT_Permits : u_T := fun k => match k with
  | 0 => ("LongTrail$Permits", "quotas", "[I", true)
  | 1 => ("LongTrail$Permits", "days", "[I", true)
  | 2 => ("LongTrail$Permits", "laters", "[I", true)
  | 3 => ("LongTrail$Permits", "size", "I", false)
  | 4 => ("LongTrail$Permits", "worths", "[I", true)
  | 5 => ("LongTrail$Permits", "turns", "[I", true)
  | _ => ("LongTrail$Permits", "grants", "[I", true)
def fY_Permits : Nat → FieldType := fun k => match k with
  | 0 => .array (.int)
  | 1 => .array (.int)
  | 2 => .array (.int)
  | 3 => .int
  | 4 => .array (.int)
  | 5 => .array (.int)
  | _ => .array (.int)
def fT_Post : u_T := fun k => match k with
  | 0 => ("LongTrail$Post", "owners", "[I", true)
  | 1 => ("LongTrail$Post", "towns", "[I", true)
  | 2 => ("LongTrail$Post", "foods", "[I", true)
  | 3 => ("LongTrail$Post", "days", "[I", true)
  | 4 => ("LongTrail$Post", "states", "[I", true)
  | _ => ("LongTrail$Post", "size", "I", false)
def fY_Post : Nat → FieldType := fun k => match k with
  | 0 => .array (.int)
  | 1 => .array (.int)
  | 2 => .array (.int)
  | 3 => .array (.int)
  | 4 => .array (.int)
  | _ => .int
def fT_Sheet : u_T := fun k => match k with
  | 0 => ("LongTrail$Sheet", "sort", "I", false)
  | 1 => ("LongTrail$Sheet", "size", "I", false)
  | _ => ("LongTrail$Sheet", "places", "[J", true)
def fY_Sheet : Nat → FieldType := fun k => match k with
  | 0 => .int
  | 1 => .int
  | _ => .array (.long)
def fT_Supply : u_T := fun k => match k with
  | 0 => ("LongTrail$Supply", "cost", "I", false)
  | 1 => ("LongTrail$Supply", "rideFroms", "[I", true)
  | 2 => ("LongTrail$Supply", "rideTos", "[I", true)
  | 3 => ("LongTrail$Supply", "rideMinutes", "[I", true)
  | 4 => ("LongTrail$Supply", "rides", "I", false)
  | 5 => ("LongTrail$Supply", "leasts", "[I", true)
  | 6 => ("LongTrail$Supply", "stops", "[I", true)
  | _ => ("LongTrail$Supply", "plans", "[J", true)
def fY_Supply : Nat → FieldType := fun k => match k with
  | 0 => .int
  | 1 => .array (.int)
  | 2 => .array (.int)
  | 3 => .array (.int)
  | 4 => .int
  | 5 => .array (.int)
  | 6 => .array (.int)
  | _ => .array (.long)
def fT_Tape : u_T := fun k => match k with
  | 0 => ("LongTrail$Tape", "bytes", "[B", true)
  | 1 => ("LongTrail$Tape", "size", "I", false)
  | 2 => ("LongTrail$Tape", "from", "I", false)
  | 3 => ("LongTrail$Tape", "end", "I", false)
  | 4 => ("LongTrail$Tape", "sort", "I", false)
  | 5 => ("LongTrail$Tape", "sign", "I", false)
  | 6 => ("LongTrail$Tape", "number", "I", false)
  | 7 => ("LongTrail$Tape", "key", "I", false)
  | 8 => ("LongTrail$Tape", "steps", "[I", true)
  | 9 => ("LongTrail$Tape", "stepCount", "I", false)
  | 10 => ("LongTrail$Tape", "operands", "I", false)
  | _ => ("LongTrail$Tape", "fault", "I", false)
def fY_Tape : Nat → FieldType := fun k => match k with
  | 0 => .array (.byte)
  | 1 => .int
  | 2 => .int
  | 3 => .int
  | 4 => .int
  | 5 => .int
  | 6 => .int
  | 7 => .int
  | 8 => .array (.int)
  | 9 => .int
  | 10 => .int
  | _ => .int
def fT_Text : u_T := fun k => match k with
  | 0 => ("LongTrail$Text", "key", "I", true)
  | 1 => ("LongTrail$Text", "land", "I", true)
  | 2 => ("LongTrail$Text", "day", "I", true)
  | 3 => ("LongTrail$Text", "operands", "I", true)
  | _ => ("LongTrail$Text", "steps", "[I", true)
def fY_Text : Nat → FieldType := fun k => match k with
  | 0 => .int
  | 1 => .int
  | 2 => .int
  | 3 => .int
  | _ => .array (.int)
def fT_Walker : u_T := fun k => match k with
  | 0 => ("LongTrail$Walker", "start", "I", false)
  | 1 => ("LongTrail$Walker", "pace", "I", false)
  | 2 => ("LongTrail$Walker", "gain", "I", false)
  | 3 => ("LongTrail$Walker", "carry", "I", false)
  | 4 => ("LongTrail$Walker", "skin", "I", false)
  | 5 => ("LongTrail$Walker", "state", "I", false)
  | 6 => ("LongTrail$Walker", "mile", "I", false)
  | 7 => ("LongTrail$Walker", "food", "I", false)
  | 8 => ("LongTrail$Walker", "hungry", "I", false)
  | 9 => ("LongTrail$Walker", "thirsty", "I", false)
  | 10 => ("LongTrail$Walker", "dry", "I", false)
  | 11 => ("LongTrail$Walker", "walked", "I", false)
  | 12 => ("LongTrail$Walker", "shoes", "I", false)
  | 13 => ("LongTrail$Walker", "zero", "I", false)
  | 14 => ("LongTrail$Walker", "stayed", "I", false)
  | 15 => ("LongTrail$Walker", "out", "I", false)
  | 16 => ("LongTrail$Walker", "fined", "I", false)
  | _ => ("LongTrail$Walker", "skipped", "I", false)
def fY_Walker : Nat → FieldType := fun k => match k with
  | 0 => .int
  | 1 => .int
  | 2 => .int
  | 3 => .int
  | 4 => .int
  | 5 => .int
  | 6 => .int
  | 7 => .int
  | 8 => .int
  | 9 => .int
  | 10 => .int
  | 11 => .int
  | 12 => .int
  | 13 => .int
  | 14 => .int
  | 15 => .int
  | 16 => .int
  | _ => .int
def fT_World : u_T := fun k => match k with
  | 0 => ("LongTrail$World", "ground", "LLongTrail$Ground;", true)
  | 1 => ("LongTrail$World", "laws", "LLongTrail$Laws;", true)
  | 2 => ("LongTrail$World", "post", "LLongTrail$Post;", true)
  | 3 => ("LongTrail$World", "permits", "LLongTrail$Permits;", true)
  | 4 => ("LongTrail$World", "supply", "LLongTrail$Supply;", true)
  | 5 => ("LongTrail$World", "album", "LLongTrail$Album;", true)
  | 6 => ("LongTrail$World", "walkers", "[LLongTrail$Walker;", true)
  | 7 => ("LongTrail$World", "walkerCount", "I", false)
  | _ => ("LongTrail$World", "day", "I", false)
def fY_World : Nat → FieldType := fun k => match k with
  | 0 => .object "LongTrail$Ground"
  | 1 => .object "LongTrail$Laws"
  | 2 => .object "LongTrail$Post"
  | 3 => .object "LongTrail$Permits"
  | 4 => .object "LongTrail$Supply"
  | 5 => .object "LongTrail$Album"
  | 6 => .array (.object "LongTrail$Walker")
  | 7 => .int
  | _ => .int
def fT_Trail : u_T := fun k => match k with
  | 0 => ("LongTrail", "now", "LLongTrail$World;", true)
  | 1 => ("LongTrail", "image", "LLongTrail$World;", true)
  | 2 => ("LongTrail", "trial", "LLongTrail$World;", true)
  | 3 => ("LongTrail", "tape", "LLongTrail$Tape;", true)
  | 4 => ("LongTrail", "sheets", "[LLongTrail$Sheet;", true)
  | 5 => ("LongTrail", "waiting", "[I", true)
  | 6 => ("LongTrail", "waits", "I", false)
  | _ => ("LongTrail", "kept", "Z", false)
def fY_Trail : Nat → FieldType := fun k => match k with
  | 0 => .object "LongTrail$World"
  | 1 => .object "LongTrail$World"
  | 2 => .object "LongTrail$World"
  | 3 => .object "LongTrail$Tape"
  | 4 => .array (.object "LongTrail$Sheet")
  | 5 => .array (.int)
  | 6 => .int
  | _ => .boolean
def fT_Model : u_T := fun k => match k with
  | 0 => ("LongTrailModel", "s", "[I", true)
  | 1 => ("LongTrailModel", "image", "[I", true)
  | 2 => ("LongTrailModel", "aside", "[I", true)
  | 3 => ("LongTrailModel", "hasImage", "Z", false)
  | 4 => ("LongTrailModel", "cSort", "[I", true)
  | 5 => ("LongTrailModel", "cSize", "[I", true)
  | 6 => ("LongTrailModel", "cNumber", "[J", true)
  | 7 => ("LongTrailModel", "tape", "[I", true)
  | 8 => ("LongTrailModel", "taped", "I", false)
  | 9 => ("LongTrailModel", "begin", "I", false)
  | 10 => ("LongTrailModel", "behind", "I", false)
  | 11 => ("LongTrailModel", "token", "I", false)
  | 12 => ("LongTrailModel", "number", "I", false)
  | 13 => ("LongTrailModel", "letter", "I", false)
  | 14 => ("LongTrailModel", "deep", "I", false)
  | 15 => ("LongTrailModel", "turned", "I", false)
  | 16 => ("LongTrailModel", "laid", "I", false)
  | 17 => ("LongTrailModel", "laidAt", "I", false)
  | 18 => ("LongTrailModel", "said", "I", false)
  | 19 => ("LongTrailModel", "named", "[I", true)
  | 20 => ("LongTrailModel", "pile", "[I", true)
  | 21 => ("LongTrailModel", "crowded", "I", false)
  | 22 => ("LongTrailModel", "worths", "[I", true)
  | 23 => ("LongTrailModel", "order", "[I", true)
  | 24 => ("LongTrailModel", "grants", "[I", true)
  | 25 => ("LongTrailModel", "towns", "[I", true)
  | 26 => ("LongTrailModel", "reached", "[I", true)
  | 27 => ("LongTrailModel", "rowMany", "[I", true)
  | 28 => ("LongTrailModel", "rowEnd", "[I", true)
  | 29 => ("LongTrailModel", "rowNext", "[I", true)
  | 30 => ("LongTrailModel", "isFound", "[Z", true)
  | 31 => ("LongTrailModel", "carried", "[J", true)
  | 32 => ("LongTrailModel", "waits", "[I", true)
  | 33 => ("LongTrailModel", "waiting", "I", false)
  | _ => ("LongTrailModel", "due", "[I", true)
def fY_Model : Nat → FieldType := fun k => match k with
  | 0 => .array (.int)
  | 1 => .array (.int)
  | 2 => .array (.int)
  | 3 => .boolean
  | 4 => .array (.int)
  | 5 => .array (.int)
  | 6 => .array (.long)
  | 7 => .array (.int)
  | 8 => .int
  | 9 => .int
  | 10 => .int
  | 11 => .int
  | 12 => .int
  | 13 => .int
  | 14 => .int
  | 15 => .int
  | 16 => .int
  | 17 => .int
  | 18 => .int
  | 19 => .array (.int)
  | 20 => .array (.int)
  | 21 => .int
  | 22 => .array (.int)
  | 23 => .array (.int)
  | 24 => .array (.int)
  | 25 => .array (.int)
  | 26 => .array (.int)
  | 27 => .array (.int)
  | 28 => .array (.int)
  | 29 => .array (.int)
  | 30 => .array (.boolean)
  | 31 => .array (.long)
  | 32 => .array (.int)
  | 33 => .int
  | _ => .array (.int)
abbrev vcl : List vw_C := [("LongTrail$Album", fT_Album, 7), ("LongTrail$Ground", fT_Ground, 12), ("LongTrail$Laws", fT_Laws, 5), ("LongTrail$Permits", fT_Permits, 7), ("LongTrail$Post", fT_Post, 6), ("LongTrail$Sheet", fT_Sheet, 3), ("LongTrail$Supply", fT_Supply, 8), ("LongTrail$Tape", fT_Tape, 12), ("LongTrail$Text", fT_Text, 5), ("LongTrail$Walker", fT_Walker, 18), ("LongTrail$World", fT_World, 9), ("LongTrail", fT_Trail, 8), ("LongTrailModel", fT_Model, 35)]
def clN : Nat → Nat := fun i => match i with
  | 0 => 7
  | 1 => 12
  | 2 => 5
  | 3 => 7
  | 4 => 6
  | 5 => 3
  | 6 => 8
  | 7 => 12
  | 8 => 5
  | 9 => 18
  | 10 => 9
  | 11 => 8
  | 12 => 35
  | _ => 0
def clY : Nat → Nat → FieldType := fun i => match i with
  | 0 => fY_Album
  | 1 => fY_Ground
  | 2 => fY_Laws
  | 3 => fY_Permits
  | 4 => fY_Post
  | 5 => fY_Sheet
  | 6 => fY_Supply
  | 7 => fY_Tape
  | 8 => fY_Text
  | 9 => fY_Walker
  | 10 => fY_World
  | 11 => fY_Trail
  | 12 => fY_Model
  | _ => fun _ => .int
def cOK (ci : Nat) (C : String) (T : u_T) (N : Nat) : Prop := vcl[ci]? = some (C, T, N) ∧ clN ci = N ∧ (∀ w ∈ u_ws C T N, w ∈ gwl) ∧ (∀ k, k < N → parseFieldDescriptor (T k).2.2.1 = some (clY ci k)) ∧ (∀ a, a < N → ∀ b, b < N → a ≠ b → (T a).2.1 ≠ (T b).2.1)
set_option maxRecDepth 20000 in
theorem ck_Album : cOK 0 "LongTrail$Album" fT_Album 7 := by
  refine ⟨rfl, rfl, ?_, by decide +kernel, by decide +kernel⟩
  intro w hw
  obtain ⟨k, hk, rfl⟩ := List.mem_map.mp hw
  have hk : k < 7 := List.mem_range.mp hk
  match k, hk with
  | 0, _ => exact gw_in (List.mem_of_getElem? (i := 402) (by decide +kernel)) (by decide +kernel)
  | 1, _ => exact gw_in (List.mem_of_getElem? (i := 404) (by decide +kernel)) (by decide +kernel)
  | 2, _ => exact gw_in (List.mem_of_getElem? (i := 406) (by decide +kernel)) (by decide +kernel)
  | 3, _ => exact gw_in (List.mem_of_getElem? (i := 408) (by decide +kernel)) (by decide +kernel)
  | 4, _ => exact gw_in (List.mem_of_getElem? (i := 410) (by decide +kernel)) (by decide +kernel)
  | 5, _ => exact gw_in (List.mem_of_getElem? (i := 412) (by decide +kernel)) (by decide +kernel)
  | 6, _ => exact gw_in (List.mem_of_getElem? (i := 414) (by decide +kernel)) (by decide +kernel)
  | _ + 7, hk => exact absurd hk (by omega)
set_option maxRecDepth 20000 in
theorem ck_Ground : cOK 1 "LongTrail$Ground" fT_Ground 12 := by
  refine ⟨rfl, rfl, ?_, by decide +kernel, by decide +kernel⟩
  intro w hw
  obtain ⟨k, hk, rfl⟩ := List.mem_map.mp hw
  have hk : k < 12 := List.mem_range.mp hk
  match k, hk with
  | 0, _ => exact gw_in (List.mem_of_getElem? (i := 240) (by decide +kernel)) (by decide +kernel)
  | 1, _ => exact gw_in (List.mem_of_getElem? (i := 242) (by decide +kernel)) (by decide +kernel)
  | 2, _ => exact gw_in (List.mem_of_getElem? (i := 244) (by decide +kernel)) (by decide +kernel)
  | 3, _ => exact gw_in (List.mem_of_getElem? (i := 246) (by decide +kernel)) (by decide +kernel)
  | 4, _ => exact gw_in (List.mem_of_getElem? (i := 248) (by decide +kernel)) (by decide +kernel)
  | 5, _ => exact gw_in (List.mem_of_getElem? (i := 250) (by decide +kernel)) (by decide +kernel)
  | 6, _ => exact gw_in (List.mem_of_getElem? (i := 252) (by decide +kernel)) (by decide +kernel)
  | 7, _ => exact gw_in (List.mem_of_getElem? (i := 254) (by decide +kernel)) (by decide +kernel)
  | 8, _ => exact gw_in (List.mem_of_getElem? (i := 256) (by decide +kernel)) (by decide +kernel)
  | 9, _ => exact gw_in (List.mem_of_getElem? (i := 258) (by decide +kernel)) (by decide +kernel)
  | 10, _ => exact gw_in (List.mem_of_getElem? (i := 260) (by decide +kernel)) (by decide +kernel)
  | 11, _ => exact gw_in (List.mem_of_getElem? (i := 262) (by decide +kernel)) (by decide +kernel)
  | _ + 12, hk => exact absurd hk (by omega)
set_option maxRecDepth 20000 in
theorem ck_Laws : cOK 2 "LongTrail$Laws" fT_Laws 5 := by
  refine ⟨rfl, rfl, ?_, by decide +kernel, by decide +kernel⟩
  intro w hw
  obtain ⟨k, hk, rfl⟩ := List.mem_map.mp hw
  have hk : k < 5 := List.mem_range.mp hk
  match k, hk with
  | 0, _ => exact gw_in (List.mem_of_getElem? (i := 280) (by decide +kernel)) (by decide +kernel)
  | 1, _ => exact gw_in (List.mem_of_getElem? (i := 282) (by decide +kernel)) (by decide +kernel)
  | 2, _ => exact gw_in (List.mem_of_getElem? (i := 284) (by decide +kernel)) (by decide +kernel)
  | 3, _ => exact gw_in (List.mem_of_getElem? (i := 286) (by decide +kernel)) (by decide +kernel)
  | 4, _ => exact gw_in (List.mem_of_getElem? (i := 288) (by decide +kernel)) (by decide +kernel)
  | _ + 5, hk => exact absurd hk (by omega)
set_option maxRecDepth 20000 in
theorem ck_Permits : cOK 3 "LongTrail$Permits" fT_Permits 7 := by
  refine ⟨rfl, rfl, ?_, by decide +kernel, by decide +kernel⟩
  intro w hw
  obtain ⟨k, hk, rfl⟩ := List.mem_map.mp hw
  have hk : k < 7 := List.mem_range.mp hk
  match k, hk with
  | 0, _ => exact gw_in (List.mem_of_getElem? (i := 338) (by decide +kernel)) (by decide +kernel)
  | 1, _ => exact gw_in (List.mem_of_getElem? (i := 340) (by decide +kernel)) (by decide +kernel)
  | 2, _ => exact gw_in (List.mem_of_getElem? (i := 342) (by decide +kernel)) (by decide +kernel)
  | 3, _ => exact gw_in (List.mem_of_getElem? (i := 344) (by decide +kernel)) (by decide +kernel)
  | 4, _ => exact gw_in (List.mem_of_getElem? (i := 346) (by decide +kernel)) (by decide +kernel)
  | 5, _ => exact gw_in (List.mem_of_getElem? (i := 348) (by decide +kernel)) (by decide +kernel)
  | 6, _ => exact gw_in (List.mem_of_getElem? (i := 350) (by decide +kernel)) (by decide +kernel)
  | _ + 7, hk => exact absurd hk (by omega)
set_option maxRecDepth 20000 in
theorem ck_Post : cOK 4 "LongTrail$Post" fT_Post 6 := by
  refine ⟨rfl, rfl, ?_, by decide +kernel, by decide +kernel⟩
  intro w hw
  obtain ⟨k, hk, rfl⟩ := List.mem_map.mp hw
  have hk : k < 6 := List.mem_range.mp hk
  match k, hk with
  | 0, _ => exact gw_in (List.mem_of_getElem? (i := 309) (by decide +kernel)) (by decide +kernel)
  | 1, _ => exact gw_in (List.mem_of_getElem? (i := 311) (by decide +kernel)) (by decide +kernel)
  | 2, _ => exact gw_in (List.mem_of_getElem? (i := 313) (by decide +kernel)) (by decide +kernel)
  | 3, _ => exact gw_in (List.mem_of_getElem? (i := 315) (by decide +kernel)) (by decide +kernel)
  | 4, _ => exact gw_in (List.mem_of_getElem? (i := 317) (by decide +kernel)) (by decide +kernel)
  | 5, _ => exact gw_in (List.mem_of_getElem? (i := 319) (by decide +kernel)) (by decide +kernel)
  | _ + 6, hk => exact absurd hk (by omega)
set_option maxRecDepth 20000 in
theorem ck_Sheet : cOK 5 "LongTrail$Sheet" fT_Sheet 3 := by
  refine ⟨rfl, rfl, ?_, by decide +kernel, by decide +kernel⟩
  intro w hw
  obtain ⟨k, hk, rfl⟩ := List.mem_map.mp hw
  have hk : k < 3 := List.mem_range.mp hk
  match k, hk with
  | 0, _ => exact gw_in (List.mem_of_getElem? (i := 592) (by decide +kernel)) (by decide +kernel)
  | 1, _ => exact gw_in (List.mem_of_getElem? (i := 594) (by decide +kernel)) (by decide +kernel)
  | 2, _ => exact gw_in (List.mem_of_getElem? (i := 596) (by decide +kernel)) (by decide +kernel)
  | _ + 3, hk => exact absurd hk (by omega)
set_option maxRecDepth 20000 in
theorem ck_Supply : cOK 6 "LongTrail$Supply" fT_Supply 8 := by
  refine ⟨rfl, rfl, ?_, by decide +kernel, by decide +kernel⟩
  intro w hw
  obtain ⟨k, hk, rfl⟩ := List.mem_map.mp hw
  have hk : k < 8 := List.mem_range.mp hk
  match k, hk with
  | 0, _ => exact gw_in (List.mem_of_getElem? (i := 369) (by decide +kernel)) (by decide +kernel)
  | 1, _ => exact gw_in (List.mem_of_getElem? (i := 371) (by decide +kernel)) (by decide +kernel)
  | 2, _ => exact gw_in (List.mem_of_getElem? (i := 373) (by decide +kernel)) (by decide +kernel)
  | 3, _ => exact gw_in (List.mem_of_getElem? (i := 375) (by decide +kernel)) (by decide +kernel)
  | 4, _ => exact gw_in (List.mem_of_getElem? (i := 377) (by decide +kernel)) (by decide +kernel)
  | 5, _ => exact gw_in (List.mem_of_getElem? (i := 379) (by decide +kernel)) (by decide +kernel)
  | 6, _ => exact gw_in (List.mem_of_getElem? (i := 381) (by decide +kernel)) (by decide +kernel)
  | 7, _ => exact gw_in (List.mem_of_getElem? (i := 383) (by decide +kernel)) (by decide +kernel)
  | _ + 8, hk => exact absurd hk (by omega)
set_option maxRecDepth 20000 in
theorem ck_Tape : cOK 7 "LongTrail$Tape" fT_Tape 12 := by
  refine ⟨rfl, rfl, ?_, by decide +kernel, by decide +kernel⟩
  intro w hw
  obtain ⟨k, hk, rfl⟩ := List.mem_map.mp hw
  have hk : k < 12 := List.mem_range.mp hk
  match k, hk with
  | 0, _ => exact gw_in (List.mem_of_getElem? (i := 553) (by decide +kernel)) (by decide +kernel)
  | 1, _ => exact gw_in (List.mem_of_getElem? (i := 555) (by decide +kernel)) (by decide +kernel)
  | 2, _ => exact gw_in (List.mem_of_getElem? (i := 557) (by decide +kernel)) (by decide +kernel)
  | 3, _ => exact gw_in (List.mem_of_getElem? (i := 559) (by decide +kernel)) (by decide +kernel)
  | 4, _ => exact gw_in (List.mem_of_getElem? (i := 561) (by decide +kernel)) (by decide +kernel)
  | 5, _ => exact gw_in (List.mem_of_getElem? (i := 563) (by decide +kernel)) (by decide +kernel)
  | 6, _ => exact gw_in (List.mem_of_getElem? (i := 565) (by decide +kernel)) (by decide +kernel)
  | 7, _ => exact gw_in (List.mem_of_getElem? (i := 567) (by decide +kernel)) (by decide +kernel)
  | 8, _ => exact gw_in (List.mem_of_getElem? (i := 569) (by decide +kernel)) (by decide +kernel)
  | 9, _ => exact gw_in (List.mem_of_getElem? (i := 571) (by decide +kernel)) (by decide +kernel)
  | 10, _ => exact gw_in (List.mem_of_getElem? (i := 573) (by decide +kernel)) (by decide +kernel)
  | 11, _ => exact gw_in (List.mem_of_getElem? (i := 575) (by decide +kernel)) (by decide +kernel)
  | _ + 12, hk => exact absurd hk (by omega)
set_option maxRecDepth 20000 in
theorem ck_Text : cOK 8 "LongTrail$Text" fT_Text 5 := by
  refine ⟨rfl, rfl, ?_, by decide +kernel, by decide +kernel⟩
  intro w hw
  obtain ⟨k, hk, rfl⟩ := List.mem_map.mp hw
  have hk : k < 5 := List.mem_range.mp hk
  match k, hk with
  | 0, _ => exact gw_in (List.mem_of_getElem? (i := 972) (by decide +kernel)) (by decide +kernel)
  | 1, _ => exact gw_in (List.mem_of_getElem? (i := 974) (by decide +kernel)) (by decide +kernel)
  | 2, _ => exact gw_in (List.mem_of_getElem? (i := 976) (by decide +kernel)) (by decide +kernel)
  | 3, _ => exact gw_in (List.mem_of_getElem? (i := 978) (by decide +kernel)) (by decide +kernel)
  | 4, _ => exact gw_in (List.mem_of_getElem? (i := 980) (by decide +kernel)) (by decide +kernel)
  | _ + 5, hk => exact absurd hk (by omega)
set_option maxRecDepth 20000 in
theorem ck_Walker : cOK 9 "LongTrail$Walker" fT_Walker 18 := by
  refine ⟨rfl, rfl, ?_, by decide +kernel, by decide +kernel⟩
  intro w hw
  obtain ⟨k, hk, rfl⟩ := List.mem_map.mp hw
  have hk : k < 18 := List.mem_range.mp hk
  match k, hk with
  | 0, _ => exact gw_in (List.mem_of_getElem? (i := 460) (by decide +kernel)) (by decide +kernel)
  | 1, _ => exact gw_in (List.mem_of_getElem? (i := 462) (by decide +kernel)) (by decide +kernel)
  | 2, _ => exact gw_in (List.mem_of_getElem? (i := 464) (by decide +kernel)) (by decide +kernel)
  | 3, _ => exact gw_in (List.mem_of_getElem? (i := 466) (by decide +kernel)) (by decide +kernel)
  | 4, _ => exact gw_in (List.mem_of_getElem? (i := 468) (by decide +kernel)) (by decide +kernel)
  | 5, _ => exact gw_in (List.mem_of_getElem? (i := 470) (by decide +kernel)) (by decide +kernel)
  | 6, _ => exact gw_in (List.mem_of_getElem? (i := 472) (by decide +kernel)) (by decide +kernel)
  | 7, _ => exact gw_in (List.mem_of_getElem? (i := 474) (by decide +kernel)) (by decide +kernel)
  | 8, _ => exact gw_in (List.mem_of_getElem? (i := 476) (by decide +kernel)) (by decide +kernel)
  | 9, _ => exact gw_in (List.mem_of_getElem? (i := 478) (by decide +kernel)) (by decide +kernel)
  | 10, _ => exact gw_in (List.mem_of_getElem? (i := 480) (by decide +kernel)) (by decide +kernel)
  | 11, _ => exact gw_in (List.mem_of_getElem? (i := 482) (by decide +kernel)) (by decide +kernel)
  | 12, _ => exact gw_in (List.mem_of_getElem? (i := 484) (by decide +kernel)) (by decide +kernel)
  | 13, _ => exact gw_in (List.mem_of_getElem? (i := 486) (by decide +kernel)) (by decide +kernel)
  | 14, _ => exact gw_in (List.mem_of_getElem? (i := 488) (by decide +kernel)) (by decide +kernel)
  | 15, _ => exact gw_in (List.mem_of_getElem? (i := 490) (by decide +kernel)) (by decide +kernel)
  | 16, _ => exact gw_in (List.mem_of_getElem? (i := 492) (by decide +kernel)) (by decide +kernel)
  | 17, _ => exact gw_in (List.mem_of_getElem? (i := 494) (by decide +kernel)) (by decide +kernel)
  | _ + 18, hk => exact absurd hk (by omega)
set_option maxRecDepth 20000 in
theorem ck_World : cOK 10 "LongTrail$World" fT_World 9 := by
  refine ⟨rfl, rfl, ?_, by decide +kernel, by decide +kernel⟩
  intro w hw
  obtain ⟨k, hk, rfl⟩ := List.mem_map.mp hw
  have hk : k < 9 := List.mem_range.mp hk
  match k, hk with
  | 0, _ => exact gw_in (List.mem_of_getElem? (i := 515) (by decide +kernel)) (by decide +kernel)
  | 1, _ => exact gw_in (List.mem_of_getElem? (i := 517) (by decide +kernel)) (by decide +kernel)
  | 2, _ => exact gw_in (List.mem_of_getElem? (i := 519) (by decide +kernel)) (by decide +kernel)
  | 3, _ => exact gw_in (List.mem_of_getElem? (i := 521) (by decide +kernel)) (by decide +kernel)
  | 4, _ => exact gw_in (List.mem_of_getElem? (i := 523) (by decide +kernel)) (by decide +kernel)
  | 5, _ => exact gw_in (List.mem_of_getElem? (i := 525) (by decide +kernel)) (by decide +kernel)
  | 6, _ => exact gw_in (List.mem_of_getElem? (i := 527) (by decide +kernel)) (by decide +kernel)
  | 7, _ => exact gw_in (List.mem_of_getElem? (i := 529) (by decide +kernel)) (by decide +kernel)
  | 8, _ => exact gw_in (List.mem_of_getElem? (i := 531) (by decide +kernel)) (by decide +kernel)
  | _ + 9, hk => exact absurd hk (by omega)
set_option maxRecDepth 20000 in
theorem ck_Trail : cOK 11 "LongTrail" fT_Trail 8 := by
  refine ⟨rfl, rfl, ?_, by decide +kernel, by decide +kernel⟩
  intro w hw
  obtain ⟨k, hk, rfl⟩ := List.mem_map.mp hw
  have hk : k < 8 := List.mem_range.mp hk
  match k, hk with
  | 0, _ => exact gw_in (List.mem_of_getElem? (i := 607) (by decide +kernel)) (by decide +kernel)
  | 1, _ => exact gw_in (List.mem_of_getElem? (i := 609) (by decide +kernel)) (by decide +kernel)
  | 2, _ => exact gw_in (List.mem_of_getElem? (i := 611) (by decide +kernel)) (by decide +kernel)
  | 3, _ => exact gw_in (List.mem_of_getElem? (i := 613) (by decide +kernel)) (by decide +kernel)
  | 4, _ => exact gw_in (List.mem_of_getElem? (i := 615) (by decide +kernel)) (by decide +kernel)
  | 5, _ => exact gw_in (List.mem_of_getElem? (i := 617) (by decide +kernel)) (by decide +kernel)
  | 6, _ => exact gw_in (List.mem_of_getElem? (i := 619) (by decide +kernel)) (by decide +kernel)
  | 7, _ => exact gw_in (List.mem_of_getElem? (i := 621) (by decide +kernel)) (by decide +kernel)
  | _ + 8, hk => exact absurd hk (by omega)
set_option maxRecDepth 20000 in
theorem ck_Model : cOK 12 "LongTrailModel" fT_Model 35 := by
  refine ⟨rfl, rfl, ?_, by decide +kernel, by decide +kernel⟩
  intro w hw
  obtain ⟨k, hk, rfl⟩ := List.mem_map.mp hw
  have hk : k < 35 := List.mem_range.mp hk
  match k, hk with
  | 0, _ => exact gw_in (List.mem_of_getElem? (i := 1539) (by decide +kernel)) (by decide +kernel)
  | 1, _ => exact gw_in (List.mem_of_getElem? (i := 1541) (by decide +kernel)) (by decide +kernel)
  | 2, _ => exact gw_in (List.mem_of_getElem? (i := 1543) (by decide +kernel)) (by decide +kernel)
  | 3, _ => exact gw_in (List.mem_of_getElem? (i := 1545) (by decide +kernel)) (by decide +kernel)
  | 4, _ => exact gw_in (List.mem_of_getElem? (i := 1547) (by decide +kernel)) (by decide +kernel)
  | 5, _ => exact gw_in (List.mem_of_getElem? (i := 1549) (by decide +kernel)) (by decide +kernel)
  | 6, _ => exact gw_in (List.mem_of_getElem? (i := 1551) (by decide +kernel)) (by decide +kernel)
  | 7, _ => exact gw_in (List.mem_of_getElem? (i := 1553) (by decide +kernel)) (by decide +kernel)
  | 8, _ => exact gw_in (List.mem_of_getElem? (i := 1555) (by decide +kernel)) (by decide +kernel)
  | 9, _ => exact gw_in (List.mem_of_getElem? (i := 1557) (by decide +kernel)) (by decide +kernel)
  | 10, _ => exact gw_in (List.mem_of_getElem? (i := 1559) (by decide +kernel)) (by decide +kernel)
  | 11, _ => exact gw_in (List.mem_of_getElem? (i := 1561) (by decide +kernel)) (by decide +kernel)
  | 12, _ => exact gw_in (List.mem_of_getElem? (i := 1563) (by decide +kernel)) (by decide +kernel)
  | 13, _ => exact gw_in (List.mem_of_getElem? (i := 1565) (by decide +kernel)) (by decide +kernel)
  | 14, _ => exact gw_in (List.mem_of_getElem? (i := 1567) (by decide +kernel)) (by decide +kernel)
  | 15, _ => exact gw_in (List.mem_of_getElem? (i := 1569) (by decide +kernel)) (by decide +kernel)
  | 16, _ => exact gw_in (List.mem_of_getElem? (i := 1571) (by decide +kernel)) (by decide +kernel)
  | 17, _ => exact gw_in (List.mem_of_getElem? (i := 1573) (by decide +kernel)) (by decide +kernel)
  | 18, _ => exact gw_in (List.mem_of_getElem? (i := 1575) (by decide +kernel)) (by decide +kernel)
  | 19, _ => exact gw_in (List.mem_of_getElem? (i := 1577) (by decide +kernel)) (by decide +kernel)
  | 20, _ => exact gw_in (List.mem_of_getElem? (i := 1579) (by decide +kernel)) (by decide +kernel)
  | 21, _ => exact gw_in (List.mem_of_getElem? (i := 1581) (by decide +kernel)) (by decide +kernel)
  | 22, _ => exact gw_in (List.mem_of_getElem? (i := 1583) (by decide +kernel)) (by decide +kernel)
  | 23, _ => exact gw_in (List.mem_of_getElem? (i := 1585) (by decide +kernel)) (by decide +kernel)
  | 24, _ => exact gw_in (List.mem_of_getElem? (i := 1587) (by decide +kernel)) (by decide +kernel)
  | 25, _ => exact gw_in (List.mem_of_getElem? (i := 1589) (by decide +kernel)) (by decide +kernel)
  | 26, _ => exact gw_in (List.mem_of_getElem? (i := 1591) (by decide +kernel)) (by decide +kernel)
  | 27, _ => exact gw_in (List.mem_of_getElem? (i := 1593) (by decide +kernel)) (by decide +kernel)
  | 28, _ => exact gw_in (List.mem_of_getElem? (i := 1595) (by decide +kernel)) (by decide +kernel)
  | 29, _ => exact gw_in (List.mem_of_getElem? (i := 1597) (by decide +kernel)) (by decide +kernel)
  | 30, _ => exact gw_in (List.mem_of_getElem? (i := 1599) (by decide +kernel)) (by decide +kernel)
  | 31, _ => exact gw_in (List.mem_of_getElem? (i := 1601) (by decide +kernel)) (by decide +kernel)
  | 32, _ => exact gw_in (List.mem_of_getElem? (i := 1603) (by decide +kernel)) (by decide +kernel)
  | 33, _ => exact gw_in (List.mem_of_getElem? (i := 1605) (by decide +kernel)) (by decide +kernel)
  | 34, _ => exact gw_in (List.mem_of_getElem? (i := 1607) (by decide +kernel)) (by decide +kernel)
  | _ + 35, hk => exact absurd hk (by omega)
