/-! NAMES AND LINKS (written by wip/whole/gen06.py; the R, T, ty rows are the printed ones) -/
def RX0 : String := "StrangeWinding$Land"
def TX0 : u_T := fun k => match k with
  | 0 => ("StrangeWinding$Land", "streetNames", "[J", true)
  | 1 => ("StrangeWinding$Land", "lanes", "[I", true)
  | 2 => ("StrangeWinding$Land", "personNames", "[J", true)
  | 3 => ("StrangeWinding$Land", "kind", "[I", true)
  | 4 => ("StrangeWinding$Land", "home", "[I", true)
  | 5 => ("StrangeWinding$Land", "leftAtFirst", "[I", true)
  | 6 => ("StrangeWinding$Land", "known", "[I", true)
  | 7 => ("StrangeWinding$Land", "codes", "[I", true)
  | 8 => ("StrangeWinding$Land", "values", "[I", true)
  | 9 => ("StrangeWinding$Land", "streets", "I", false)
  | 10 => ("StrangeWinding$Land", "people", "I", false)
  | 11 => ("StrangeWinding$Land", "soon", "I", false)
  | 12 => ("StrangeWinding$Land", "snap", "I", false)
  | _ => ("StrangeWinding$Land", "codeLength", "I", false)
def tyX0 : Nat → FieldType := fun k => match k with
  | 0 => .array .long
  | 1 => .array .int
  | 2 => .array .long
  | 3 => .array .int
  | 4 => .array .int
  | 5 => .array .int
  | 6 => .array .int
  | 7 => .array .int
  | 8 => .array .int
  | 9 => .int
  | 10 => .int
  | 11 => .int
  | 12 => .int
  | _ => .int
theorem nmX0 : ∀ a, a < 14 → ∀ b, b < 14 → a ≠ b → (TX0 a).2.1 ≠ (TX0 b).2.1 := by decide +kernel
theorem tyX0_ok : ∀ k, k < 14 → parseFieldDescriptor (TX0 k).2.2.1 = some (tyX0 k) := by decide +kernel
def RX1 : String := "StrangeWinding$LawReader"
def TX1 : u_T := fun k => match k with
  | _ => ("StrangeWinding$LawReader", "tape", "LStrangeWinding$Tape;", true)
def tyX1 : Nat → FieldType := fun k => match k with
  | _ => .object "StrangeWinding$Tape"
theorem nmX1 : ∀ a, a < 1 → ∀ b, b < 1 → a ≠ b → (TX1 a).2.1 ≠ (TX1 b).2.1 := by decide +kernel
theorem tyX1_ok : ∀ k, k < 1 → parseFieldDescriptor (TX1 k).2.2.1 = some (tyX1 k) := by decide +kernel
def RX2 : String := "StrangeWinding$Matcher"
def TX2 : u_T := fun k => match k with
  | 0 => ("StrangeWinding$Matcher", "row", "[I", true)
  | 1 => ("StrangeWinding$Matcher", "bestRow", "[I", true)
  | _ => ("StrangeWinding$Matcher", "most", "I", false)
def tyX2 : Nat → FieldType := fun k => match k with
  | 0 => .array .int
  | 1 => .array .int
  | _ => .int
theorem nmX2 : ∀ a, a < 3 → ∀ b, b < 3 → a ≠ b → (TX2 a).2.1 ≠ (TX2 b).2.1 := by decide +kernel
theorem tyX2_ok : ∀ k, k < 3 → parseFieldDescriptor (TX2 k).2.2.1 = some (tyX2 k) := by decide +kernel
def RX3 : String := "StrangeWinding$Past"
def TX3 : u_T := fun k => match k with
  | 0 => ("StrangeWinding$Past", "ring", "[LStrangeWinding$State;", true)
  | 1 => ("StrangeWinding$Past", "newest", "I", false)
  | _ => ("StrangeWinding$Past", "kept", "I", false)
def tyX3 : Nat → FieldType := fun k => match k with
  | 0 => .array (.object "StrangeWinding$State")
  | 1 => .int
  | _ => .int
theorem nmX3 : ∀ a, a < 3 → ∀ b, b < 3 → a ≠ b → (TX3 a).2.1 ≠ (TX3 b).2.1 := by decide +kernel
theorem tyX3_ok : ∀ k, k < 3 → parseFieldDescriptor (TX3 k).2.2.1 = some (tyX3 k) := by decide +kernel
def RX4 : String := "StrangeWinding$Planner"
def TX4 : u_T := fun k => match k with
  | 0 => ("StrangeWinding$Planner", "steps", "[LStrangeWinding$State;", true)
  | 1 => ("StrangeWinding$Planner", "row", "[I", true)
  | 2 => ("StrangeWinding$Planner", "bestRow", "[I", true)
  | 3 => ("StrangeWinding$Planner", "bestLeft", "I", false)
  | _ => ("StrangeWinding$Planner", "hours", "I", false)
def tyX4 : Nat → FieldType := fun k => match k with
  | 0 => .array (.object "StrangeWinding$State")
  | 1 => .array .int
  | 2 => .array .int
  | 3 => .int
  | _ => .int
theorem nmX4 : ∀ a, a < 5 → ∀ b, b < 5 → a ≠ b → (TX4 a).2.1 ≠ (TX4 b).2.1 := by decide +kernel
theorem tyX4_ok : ∀ k, k < 5 → parseFieldDescriptor (TX4 k).2.2.1 = some (tyX4 k) := by decide +kernel
def RX5 : String := "StrangeWinding$Reader"
def TX5 : u_T := fun k => match k with
  | 0 => ("StrangeWinding$Reader", "tape", "LStrangeWinding$Tape;", true)
  | 1 => ("StrangeWinding$Reader", "lawReader", "LStrangeWinding$LawReader;", true)
  | 2 => ("StrangeWinding$Reader", "soonTold", "Z", false)
  | _ => ("StrangeWinding$Reader", "snapTold", "Z", false)
def tyX5 : Nat → FieldType := fun k => match k with
  | 0 => .object "StrangeWinding$Tape"
  | 1 => .object "StrangeWinding$LawReader"
  | 2 => .boolean
  | _ => .boolean
theorem nmX5 : ∀ a, a < 4 → ∀ b, b < 4 → a ≠ b → (TX5 a).2.1 ≠ (TX5 b).2.1 := by decide +kernel
theorem tyX5_ok : ∀ k, k < 4 → parseFieldDescriptor (TX5 k).2.2.1 = some (tyX5 k) := by decide +kernel
def RX6 : String := "StrangeWinding$Scene"
def TX6 : u_T := fun k => match k with
  | 0 => ("StrangeWinding$Scene", "state", "LStrangeWinding$State;", true)
  | 1 => ("StrangeWinding$Scene", "week", "LStrangeWinding$Week;", true)
  | 2 => ("StrangeWinding$Scene", "tales", "[I", true)
  | _ => ("StrangeWinding$Scene", "laid", "Z", false)
def tyX6 : Nat → FieldType := fun k => match k with
  | 0 => .object "StrangeWinding$State"
  | 1 => .object "StrangeWinding$Week"
  | 2 => .array .int
  | _ => .boolean
theorem nmX6 : ∀ a, a < 4 → ∀ b, b < 4 → a ≠ b → (TX6 a).2.1 ≠ (TX6 b).2.1 := by decide +kernel
theorem tyX6_ok : ∀ k, k < 4 → parseFieldDescriptor (TX6 k).2.2.1 = some (tyX6 k) := by decide +kernel
def RX7 : String := "StrangeWinding$State"
def TX7 : u_T := fun k => match k with
  | 0 => ("StrangeWinding$State", "at", "[I", true)
  | 1 => ("StrangeWinding$State", "left", "[I", true)
  | 2 => ("StrangeWinding$State", "wound", "[I", true)
  | 3 => ("StrangeWinding$State", "snapped", "I", false)
  | 4 => ("StrangeWinding$State", "hours", "I", false)
  | 5 => ("StrangeWinding$State", "windings", "I", false)
  | _ => ("StrangeWinding$State", "snaps", "I", false)
def tyX7 : Nat → FieldType := fun k => match k with
  | 0 => .array .int
  | 1 => .array .int
  | 2 => .array .int
  | 3 => .int
  | 4 => .int
  | 5 => .int
  | _ => .int
theorem nmX7 : ∀ a, a < 7 → ∀ b, b < 7 → a ≠ b → (TX7 a).2.1 ≠ (TX7 b).2.1 := by decide +kernel
theorem tyX7_ok : ∀ k, k < 7 → parseFieldDescriptor (TX7 k).2.2.1 = some (tyX7 k) := by decide +kernel
def RX8 : String := "StrangeWinding$Tally"
def TX8 : u_T := fun k => match k with
  | 0 => ("StrangeWinding$Tally", "having", "[I", true)
  | 1 => ("StrangeWinding$Tally", "number", "I", false)
  | 2 => ("StrangeWinding$Tally", "inAll", "I", false)
  | _ => ("StrangeWinding$Tally", "inSome", "I", false)
def tyX8 : Nat → FieldType := fun k => match k with
  | 0 => .array .int
  | 1 => .int
  | 2 => .int
  | _ => .int
theorem nmX8 : ∀ a, a < 4 → ∀ b, b < 4 → a ≠ b → (TX8 a).2.1 ≠ (TX8 b).2.1 := by decide +kernel
theorem tyX8_ok : ∀ k, k < 4 → parseFieldDescriptor (TX8 k).2.2.1 = some (tyX8 k) := by decide +kernel
def RX9 : String := "StrangeWinding$Tape"
def TX9 : u_T := fun k => match k with
  | 0 => ("StrangeWinding$Tape", "signs", "[C", true)
  | 1 => ("StrangeWinding$Tape", "length", "I", false)
  | 2 => ("StrangeWinding$Tape", "kind", "I", false)
  | 3 => ("StrangeWinding$Tape", "place", "I", false)
  | 4 => ("StrangeWinding$Tape", "end", "I", false)
  | 5 => ("StrangeWinding$Tape", "value", "I", false)
  | 6 => ("StrangeWinding$Tape", "word", "J", false)
  | _ => ("StrangeWinding$Tape", "fault", "I", false)
def tyX9 : Nat → FieldType := fun k => match k with
  | 0 => .array .char
  | 1 => .int
  | 2 => .int
  | 3 => .int
  | 4 => .int
  | 5 => .int
  | 6 => .long
  | _ => .int
theorem nmX9 : ∀ a, a < 8 → ∀ b, b < 8 → a ≠ b → (TX9 a).2.1 ≠ (TX9 b).2.1 := by decide +kernel
theorem tyX9_ok : ∀ k, k < 8 → parseFieldDescriptor (TX9 k).2.2.1 = some (tyX9 k) := by decide +kernel
def RX10 : String := "StrangeWinding$Week"
def TX10 : u_T := fun k => match k with
  | 0 => ("StrangeWinding$Week", "verb", "[I", true)
  | 1 => ("StrangeWinding$Week", "first", "[I", true)
  | 2 => ("StrangeWinding$Week", "second", "[I", true)
  | _ => ("StrangeWinding$Week", "lines", "I", false)
def tyX10 : Nat → FieldType := fun k => match k with
  | 0 => .array .int
  | 1 => .array .int
  | 2 => .array .int
  | _ => .int
theorem nmX10 : ∀ a, a < 4 → ∀ b, b < 4 → a ≠ b → (TX10 a).2.1 ≠ (TX10 b).2.1 := by decide +kernel
theorem tyX10_ok : ∀ k, k < 4 → parseFieldDescriptor (TX10 k).2.2.1 = some (tyX10 k) := by decide +kernel
def RX11 : String := "StrangeWinding"
def TX11 : u_T := fun k => match k with
  | 0 => ("StrangeWinding", "tape", "LStrangeWinding$Tape;", true)
  | 1 => ("StrangeWinding", "reader", "LStrangeWinding$Reader;", true)
  | 2 => ("StrangeWinding", "land", "LStrangeWinding$Land;", false)
  | 3 => ("StrangeWinding", "spareLand", "LStrangeWinding$Land;", false)
  | 4 => ("StrangeWinding", "spareWeek", "LStrangeWinding$Week;", true)
  | 5 => ("StrangeWinding", "scene", "LStrangeWinding$Scene;", true)
  | 6 => ("StrangeWinding", "marks", "[LStrangeWinding$Scene;", true)
  | 7 => ("StrangeWinding", "past", "LStrangeWinding$Past;", true)
  | 8 => ("StrangeWinding", "trial", "LStrangeWinding$State;", true)
  | 9 => ("StrangeWinding", "planner", "LStrangeWinding$Planner;", true)
  | 10 => ("StrangeWinding", "tally", "LStrangeWinding$Tally;", true)
  | 11 => ("StrangeWinding", "matcher", "LStrangeWinding$Matcher;", true)
  | 12 => ("StrangeWinding", "shares", "[I", true)
  | 13 => ("StrangeWinding", "nextShares", "[I", true)
  | _ => ("StrangeWinding", "seed", "J", false)
def tyX11 : Nat → FieldType := fun k => match k with
  | 0 => .object "StrangeWinding$Tape"
  | 1 => .object "StrangeWinding$Reader"
  | 2 => .object "StrangeWinding$Land"
  | 3 => .object "StrangeWinding$Land"
  | 4 => .object "StrangeWinding$Week"
  | 5 => .object "StrangeWinding$Scene"
  | 6 => .array (.object "StrangeWinding$Scene")
  | 7 => .object "StrangeWinding$Past"
  | 8 => .object "StrangeWinding$State"
  | 9 => .object "StrangeWinding$Planner"
  | 10 => .object "StrangeWinding$Tally"
  | 11 => .object "StrangeWinding$Matcher"
  | 12 => .array .int
  | 13 => .array .int
  | _ => .long
theorem nmX11 : ∀ a, a < 15 → ∀ b, b < 15 → a ≠ b → (TX11 a).2.1 ≠ (TX11 b).2.1 := by decide +kernel
theorem tyX11_ok : ∀ k, k < 15 → parseFieldDescriptor (TX11 k).2.2.1 = some (tyX11 k) := by decide +kernel
def RX12 : String := "StrangeWindingModel"
def TX12 : u_T := fun k => match k with
  | 0 => ("StrangeWindingModel", "thrown", "I", false)
  | 1 => ("StrangeWindingModel", "taped", "I", false)
  | 2 => ("StrangeWindingModel", "tape", "[I", true)
  | 3 => ("StrangeWindingModel", "size", "I", false)
  | 4 => ("StrangeWindingModel", "place", "I", false)
  | 5 => ("StrangeWindingModel", "begin", "I", false)
  | 6 => ("StrangeWindingModel", "token", "I", false)
  | 7 => ("StrangeWindingModel", "word", "J", false)
  | 8 => ("StrangeWindingModel", "told", "I", false)
  | 9 => ("StrangeWindingModel", "wrong", "I", false)
  | 10 => ("StrangeWindingModel", "land", "[I", true)
  | 11 => ("StrangeWindingModel", "streetName", "[J", true)
  | 12 => ("StrangeWindingModel", "personName", "[J", true)
  | 13 => ("StrangeWindingModel", "lanesOf", "[I", true)
  | 14 => ("StrangeWindingModel", "kind", "[I", true)
  | 15 => ("StrangeWindingModel", "atTold", "[I", true)
  | 16 => ("StrangeWindingModel", "leftTold", "[I", true)
  | 17 => ("StrangeWindingModel", "known", "[I", true)
  | 18 => ("StrangeWindingModel", "lineFrom", "[I", true)
  | 19 => ("StrangeWindingModel", "lineTo", "[I", true)
  | 20 => ("StrangeWindingModel", "codes", "[I", true)
  | 21 => ("StrangeWindingModel", "code", "I", false)
  | 22 => ("StrangeWindingModel", "toldLines", "I", false)
  | 23 => ("StrangeWindingModel", "opened", "[I", true)
  | 24 => ("StrangeWindingModel", "compared", "[Z", true)
  | 25 => ("StrangeWindingModel", "kept", "[I", true)
  | 26 => ("StrangeWindingModel", "keptBy", "[I", true)
  | 27 => ("StrangeWindingModel", "ahead", "[I", true)
  | 28 => ("StrangeWindingModel", "against", "[I", true)
  | 29 => ("StrangeWindingModel", "sum", "[I", true)
  | 30 => ("StrangeWindingModel", "sumBy", "[I", true)
  | 31 => ("StrangeWindingModel", "term", "[I", true)
  | 32 => ("StrangeWindingModel", "termBy", "[I", true)
  | 33 => ("StrangeWindingModel", "byNot", "[I", true)
  | 34 => ("StrangeWindingModel", "valueOf", "[I", true)
  | 35 => ("StrangeWindingModel", "given", "I", false)
  | 36 => ("StrangeWindingModel", "fresh", "J", false)
  | 37 => ("StrangeWindingModel", "first", "I", false)
  | 38 => ("StrangeWindingModel", "lines", "[I", true)
  | 39 => ("StrangeWindingModel", "lineWhat", "[I", true)
  | 40 => ("StrangeWindingModel", "lineA", "[I", true)
  | 41 => ("StrangeWindingModel", "lineB", "[I", true)
  | 42 => ("StrangeWindingModel", "taleOf", "[I", true)
  | 43 => ("StrangeWindingModel", "s", "[I", true)
  | 44 => ("StrangeWindingModel", "aside", "[I", true)
  | 45 => ("StrangeWindingModel", "tried", "[I", true)
  | 46 => ("StrangeWindingModel", "marked", "[I", true)
  | 47 => ("StrangeWindingModel", "undone", "[I", true)
  | 48 => ("StrangeWindingModel", "isLaid", "[Z", true)
  | 49 => ("StrangeWindingModel", "done", "I", false)
  | 50 => ("StrangeWindingModel", "snaps", "I", false)
  | 51 => ("StrangeWindingModel", "goesTo", "[I", true)
  | 52 => ("StrangeWindingModel", "bestGoes", "[I", true)
  | 53 => ("StrangeWindingModel", "mostLeft", "I", false)
  | 54 => ("StrangeWindingModel", "has", "[I", true)
  | 55 => ("StrangeWindingModel", "with", "[I", true)
  | 56 => ("StrangeWindingModel", "bestWith", "[I", true)
  | 57 => ("StrangeWindingModel", "mostPairs", "I", false)
  | _ => ("StrangeWindingModel", "g", "J", false)
def tyX12 : Nat → FieldType := fun k => match k with
  | 0 => .int
  | 1 => .int
  | 2 => .array .int
  | 3 => .int
  | 4 => .int
  | 5 => .int
  | 6 => .int
  | 7 => .long
  | 8 => .int
  | 9 => .int
  | 10 => .array .int
  | 11 => .array .long
  | 12 => .array .long
  | 13 => .array .int
  | 14 => .array .int
  | 15 => .array .int
  | 16 => .array .int
  | 17 => .array .int
  | 18 => .array .int
  | 19 => .array .int
  | 20 => .array .int
  | 21 => .int
  | 22 => .int
  | 23 => .array .int
  | 24 => .array .boolean
  | 25 => .array .int
  | 26 => .array .int
  | 27 => .array .int
  | 28 => .array .int
  | 29 => .array .int
  | 30 => .array .int
  | 31 => .array .int
  | 32 => .array .int
  | 33 => .array .int
  | 34 => .array .int
  | 35 => .int
  | 36 => .long
  | 37 => .int
  | 38 => .array .int
  | 39 => .array .int
  | 40 => .array .int
  | 41 => .array .int
  | 42 => .array .int
  | 43 => .array .int
  | 44 => .array .int
  | 45 => .array .int
  | 46 => .array .int
  | 47 => .array .int
  | 48 => .array .boolean
  | 49 => .int
  | 50 => .int
  | 51 => .array .int
  | 52 => .array .int
  | 53 => .int
  | 54 => .array .int
  | 55 => .array .int
  | 56 => .array .int
  | 57 => .int
  | _ => .long
theorem nmX12 : ∀ a, a < 59 → ∀ b, b < 59 → a ≠ b → (TX12 a).2.1 ≠ (TX12 b).2.1 := by decide +kernel
theorem tyX12_ok : ∀ k, k < 59 → parseFieldDescriptor (TX12 k).2.2.1 = some (tyX12 k) := by decide +kernel
abbrev vwCl : List vw_C := [(RX0, TX0, 14), (RX1, TX1, 1), (RX2, TX2, 3), (RX3, TX3, 3), (RX4, TX4, 5), (RX5, TX5, 4), (RX6, TX6, 4), (RX7, TX7, 7), (RX8, TX8, 4), (RX9, TX9, 8), (RX10, TX10, 4), (RX11, TX11, 15), (RX12, TX12, 59)]
def vty (c : Nat) : Nat → FieldType := match c with
  | 0 => tyX0
  | 1 => tyX1
  | 2 => tyX2
  | 3 => tyX3
  | 4 => tyX4
  | 5 => tyX5
  | 6 => tyX6
  | 7 => tyX7
  | 8 => tyX8
  | 9 => tyX9
  | 10 => tyX10
  | 11 => tyX11
  | 12 => tyX12
  | _ => fun _ => .int
/-- the words that go on into every method -/
def wtb : List Cond := lw_tbl.filter goodWord
theorem tb_all (ws : List Cond) (ps : List Nat) (h : ws = ps.filterMap (fun i => lw_tbl[i]?)) (hg : ws.all goodWord = true) : ∀ w ∈ ws, w ∈ wtb := by
  intro w hw
  have h1 := List.all_eq_true.mp hg w hw
  rw [h] at hw
  obtain ⟨i, -, hi⟩ := List.mem_filterMap.mp hw
  exact List.mem_filter.mpr ⟨List.mem_of_getElem? hi, h1⟩
theorem wtb_good : ∀ w ∈ wtb, goodWord w = true := fun w h => (List.mem_filter.mp h).2
theorem inX0 : ∀ w ∈ u_ws RX0 TX0 14, w ∈ wtb := tb_all _ [256, 258, 260, 262, 264, 266, 268, 270, 272, 274, 276, 278, 280, 282] (by decide +kernel) (by decide +kernel)
theorem inX1 : ∀ w ∈ u_ws RX1 TX1 1, w ∈ wtb := tb_all _ [192] (by decide +kernel) (by decide +kernel)
theorem inX2 : ∀ w ∈ u_ws RX2 TX2 3, w ∈ wtb := tb_all _ [462, 464, 466] (by decide +kernel) (by decide +kernel)
theorem inX3 : ∀ w ∈ u_ws RX3 TX3 3, w ∈ wtb := tb_all _ [393, 395, 397] (by decide +kernel) (by decide +kernel)
theorem inX4 : ∀ w ∈ u_ws RX4 TX4 5, w ∈ wtb := tb_all _ [417, 419, 421, 423, 425] (by decide +kernel) (by decide +kernel)
theorem inX5 : ∀ w ∈ u_ws RX5 TX5 4, w ∈ wtb := tb_all _ [199, 201, 203, 205] (by decide +kernel) (by decide +kernel)
theorem inX6 : ∀ w ∈ u_ws RX6 TX6 4, w ∈ wtb := tb_all _ [370, 372, 374, 376] (by decide +kernel) (by decide +kernel)
theorem inX7 : ∀ w ∈ u_ws RX7 TX7 7, w ∈ wtb := tb_all _ [343, 345, 347, 349, 351, 353, 355] (by decide +kernel) (by decide +kernel)
theorem inX8 : ∀ w ∈ u_ws RX8 TX8 4, w ∈ wtb := tb_all _ [442, 444, 446, 448] (by decide +kernel) (by decide +kernel)
theorem inX9 : ∀ w ∈ u_ws RX9 TX9 8, w ∈ wtb := tb_all _ [161, 163, 165, 167, 169, 171, 173, 175] (by decide +kernel) (by decide +kernel)
theorem inX10 : ∀ w ∈ u_ws RX10 TX10 4, w ∈ wtb := tb_all _ [303, 305, 307, 309] (by decide +kernel) (by decide +kernel)
theorem inX11 : ∀ w ∈ u_ws RX11 TX11 15, w ∈ wtb := tb_all _ [484, 486, 488, 490, 492, 494, 496, 498, 500, 502, 504, 506, 508, 510, 512] (by decide +kernel) (by decide +kernel)
theorem inX12 : ∀ w ∈ u_ws RX12 TX12 59, w ∈ wtb := tb_all _ [1301, 1303, 1305, 1307, 1309, 1311, 1313, 1315, 1317, 1319, 1321, 1323, 1325, 1327, 1329, 1331, 1333, 1335, 1337, 1339, 1341, 1343, 1345, 1347, 1349, 1351, 1353, 1355, 1357, 1359, 1361, 1363, 1365, 1367, 1369, 1371, 1373, 1375, 1377, 1379, 1381, 1383, 1385, 1387, 1389, 1391, 1393, 1395, 1397, 1399, 1401, 1403, 1405, 1407, 1409, 1411, 1413, 1415, 1417] (by decide +kernel) (by decide +kernel)
theorem vw_ok {ci : Nat} {r : vw_C} (h : vwCl[ci]? = some r) : (∀ w ∈ u_ws r.1 r.2.1 r.2.2, w ∈ wtb) ∧ (∀ k, k < r.2.2 → parseFieldDescriptor (r.2.1 k).2.2.1 = some (vty ci k)) ∧ (∀ a, a < r.2.2 → ∀ b, b < r.2.2 → a ≠ b → (r.2.1 a).2.1 ≠ (r.2.1 b).2.1) := by
  match ci, h with
  | 0, h => cases h; exact ⟨inX0, tyX0_ok, nmX0⟩
  | 1, h => cases h; exact ⟨inX1, tyX1_ok, nmX1⟩
  | 2, h => cases h; exact ⟨inX2, tyX2_ok, nmX2⟩
  | 3, h => cases h; exact ⟨inX3, tyX3_ok, nmX3⟩
  | 4, h => cases h; exact ⟨inX4, tyX4_ok, nmX4⟩
  | 5, h => cases h; exact ⟨inX5, tyX5_ok, nmX5⟩
  | 6, h => cases h; exact ⟨inX6, tyX6_ok, nmX6⟩
  | 7, h => cases h; exact ⟨inX7, tyX7_ok, nmX7⟩
  | 8, h => cases h; exact ⟨inX8, tyX8_ok, nmX8⟩
  | 9, h => cases h; exact ⟨inX9, tyX9_ok, nmX9⟩
  | 10, h => cases h; exact ⟨inX10, tyX10_ok, nmX10⟩
  | 11, h => cases h; exact ⟨inX11, tyX11_ok, nmX11⟩
  | 12, h => cases h; exact ⟨inX12, tyX12_ok, nmX12⟩
  | n + 13, h => simp [vwCl] at h
def ownt : List String := ["StrangeWinding$Land", "StrangeWinding$LawReader", "StrangeWinding$Matcher", "StrangeWinding$Past", "StrangeWinding$Planner", "StrangeWinding$Reader", "StrangeWinding$Scene", "StrangeWinding$State", "StrangeWinding$Tally", "StrangeWinding$Tape", "StrangeWinding$Week", "StrangeWinding", "StrangeWindingModel", "java/lang/String", "java/lang/StringLatin1", "jdk/internal/util/Preconditions", "java/lang/Integer", "java/lang/Math", "java/util/Arrays", "StrangeWindingLaw"]
def own (i : Nat) : String := ownt.getD i ""
def yyt : List MethodName := [⟨own 0, "<init>", "()V"⟩, ⟨own 0, "clear", "()V"⟩, ⟨own 0, "addStreet", "(J)V"⟩, ⟨own 0, "addPerson", "(J)V"⟩, ⟨own 0, "streetNamed", "(J)I"⟩, ⟨own 0, "personNamed", "(J)I"⟩, ⟨own 0, "addCode", "(I)V"⟩, ⟨own 0, "lawTells", "(IIII)I"⟩, ⟨own 0, "factOf", "(IIIII)I"⟩, ⟨own 0, "joined", "(III)I"⟩, ⟨own 1, "<init>", "(LStrangeWinding$Tape;)V"⟩, ⟨own 1, "readLaw", "(LStrangeWinding$Land;)Z"⟩, ⟨own 1, "readFrom", "(IILStrangeWinding$Land;)Z"⟩, ⟨own 1, "readPart", "(ILStrangeWinding$Land;)Z"⟩, ⟨own 1, "valueCode", "()I"⟩, ⟨own 1, "joiningCode", "(I)I"⟩, ⟨own 2, "<init>", "()V"⟩, ⟨own 2, "search", "(LStrangeWinding$Land;LStrangeWinding$State;)V"⟩, ⟨own 2, "tryFrom", "(LStrangeWinding$Land;LStrangeWinding$State;II)V"⟩, ⟨own 3, "<init>", "()V"⟩, ⟨own 3, "forget", "()V"⟩, ⟨own 3, "keep", "(LStrangeWinding$State;)V"⟩, ⟨own 3, "restore", "(LStrangeWinding$State;)Z"⟩, ⟨own 4, "<init>", "()V"⟩, ⟨own 4, "search", "(LStrangeWinding$Land;LStrangeWinding$State;II)V"⟩, ⟨own 4, "tryFrom", "(LStrangeWinding$Land;II)V"⟩, ⟨own 5, "<init>", "(LStrangeWinding$Tape;)V"⟩, ⟨own 5, "readLand", "(LStrangeWinding$Land;)I"⟩, ⟨own 5, "readOfLand", "(LStrangeWinding$Land;)Z"⟩, ⟨own 5, "readStreet", "(LStrangeWinding$Land;)Z"⟩, ⟨own 5, "readPair", "(LStrangeWinding$Land;Z)Z"⟩, ⟨own 5, "readPerson", "(LStrangeWinding$Land;)Z"⟩, ⟨own 5, "readSoon", "(LStrangeWinding$Land;)Z"⟩, ⟨own 5, "readSnap", "(LStrangeWinding$Land;)Z"⟩, ⟨own 5, "readWeek", "(LStrangeWinding$Land;LStrangeWinding$Week;)I"⟩, ⟨own 5, "readOfWeek", "(LStrangeWinding$Land;LStrangeWinding$Week;)Z"⟩, ⟨own 5, "verbHere", "()I"⟩, ⟨own 5, "isNewName", "(LStrangeWinding$Land;)Z"⟩, ⟨own 5, "numberHere", "(LStrangeWinding$Land;Z)I"⟩, ⟨own 6, "<init>", "()V"⟩, ⟨own 6, "begin", "(LStrangeWinding$Land;)V"⟩, ⟨own 6, "copyFrom", "(LStrangeWinding$Scene;)V"⟩, ⟨own 6, "talesTold", "()I"⟩, ⟨own 7, "<init>", "()V"⟩, ⟨own 7, "begin", "(LStrangeWinding$Land;)V"⟩, ⟨own 7, "copyFrom", "(LStrangeWinding$State;)V"⟩, ⟨own 7, "isSnapped", "(I)Z"⟩, ⟨own 7, "sits", "(I)Z"⟩, ⟨own 7, "sitters", "(LStrangeWinding$Land;)I"⟩, ⟨own 7, "leftOfAll", "(LStrangeWinding$Land;)I"⟩, ⟨own 7, "windingsOfTwo", "(II)I"⟩, ⟨own 7, "areStrangers", "(LStrangeWinding$Land;II)Z"⟩, ⟨own 7, "strangersOf", "(LStrangeWinding$Land;I)I"⟩, ⟨own 7, "offeringIn", "(LStrangeWinding$Land;II)I"⟩, ⟨own 7, "canWalk", "(LStrangeWinding$Land;II)Z"⟩, ⟨own 7, "walkIfCan", "(LStrangeWinding$Land;II)Z"⟩, ⟨own 7, "canWind", "(LStrangeWinding$Land;II)Z"⟩, ⟨own 7, "crowdAround", "(LStrangeWinding$Land;II)I"⟩, ⟨own 7, "hoursGiven", "(LStrangeWinding$Land;III)I"⟩, ⟨own 7, "turn", "(LStrangeWinding$Land;II)V"⟩, ⟨own 7, "repair", "(I)V"⟩, ⟨own 7, "passHour", "(LStrangeWinding$Land;)I"⟩, ⟨own 8, "<init>", "()V"⟩, ⟨own 8, "gather", "(LStrangeWinding$Land;LStrangeWinding$State;II)V"⟩, ⟨own 8, "leftBy", "(LStrangeWinding$Land;LStrangeWinding$State;II)I"⟩, ⟨own 8, "addSet", "(I)V"⟩, ⟨own 9, "<init>", "()V"⟩, ⟨own 9, "addBytes", "(J)V"⟩, ⟨own 9, "open", "()V"⟩, ⟨own 9, "next", "()V"⟩, ⟨own 9, "scanWord", "()V"⟩, ⟨own 9, "scanNumber", "()V"⟩, ⟨own 9, "isLetter", "(C)Z"⟩, ⟨own 9, "isDigit", "(C)Z"⟩, ⟨own 9, "isWord", "(Ljava/lang/String;)Z"⟩, ⟨own 9, "isSign", "(C)Z"⟩, ⟨own 9, "isName", "()Z"⟩, ⟨own 9, "kindNamed", "()I"⟩, ⟨own 9, "refuse", "(I)Z"⟩, ⟨own 9, "passWord", "(Ljava/lang/String;)Z"⟩, ⟨own 9, "passSign", "(C)Z"⟩, ⟨own 9, "isNumberWithin", "(II)Z"⟩, ⟨own 10, "<init>", "()V"⟩, ⟨own 10, "addLine", "(III)V"⟩, ⟨own 10, "copyFrom", "(LStrangeWinding$Week;)V"⟩, ⟨own 11, "<init>", "()V"⟩, ⟨own 11, "feed", "(JJJ)I"⟩, ⟨own 11, "land", "()I"⟩, ⟨own 11, "week", "()I"⟩, ⟨own 11, "person", "(II)I"⟩, ⟨own 11, "wound", "(II)I"⟩, ⟨own 11, "lanes", "(I)I"⟩, ⟨own 11, "gives", "(II)I"⟩, ⟨own 11, "walk", "(II)Z"⟩, ⟨own 11, "wind", "(II)I"⟩, ⟨own 11, "mend", "(I)Z"⟩, ⟨own 11, "hour", "()I"⟩, ⟨own 11, "undo", "()Z"⟩, ⟨own 11, "judged", "(I)I"⟩, ⟨own 11, "stops", "(I)I"⟩, ⟨own 11, "august", "()I"⟩, ⟨own 11, "plan", "(III)I"⟩, ⟨own 11, "stand", "(I)I"⟩, ⟨own 11, "fewest", "(II)I"⟩, ⟨own 11, "tale", "(II)Z"⟩, ⟨own 11, "sets", "(II)I"⟩, ⟨own 11, "ask", "(I)I"⟩, ⟨own 11, "meet", "(III)I"⟩, ⟨own 11, "engaged", "()I"⟩, ⟨own 11, "pairs", "(I)I"⟩, ⟨own 11, "tinkers", "()I"⟩, ⟨own 11, "years", "(III)I"⟩, ⟨own 11, "mark", "(IZ)Z"⟩, ⟨own 11, "count", "(I)I"⟩, ⟨own 11, "isWithin", "(III)Z"⟩, ⟨own 11, "isPerson", "(I)Z"⟩, ⟨own 11, "isStreet", "(I)Z"⟩, ⟨own 11, "areTwo", "(II)Z"⟩, ⟨own 11, "followLine", "(LStrangeWinding$Week;I)Z"⟩, ⟨own 11, "streetThatSaves", "(II)I"⟩, ⟨own 11, "allCanWalk", "(II)Z"⟩, ⟨own 11, "endsWithoutSitters", "(I)Z"⟩, ⟨own 11, "shareOut", "()V"⟩, ⟨own 11, "shareFrom", "(II)V"⟩, ⟨own 11, "isAtRest", "(IIII)Z"⟩, ⟨own 11, "payOf", "(IIIII)I"⟩, ⟨own 11, "drawBelow", "(I)I"⟩, ⟨own 11, "passDrawnHour", "()V"⟩, ⟨own 12, "<init>", "()V"⟩, ⟨own 12, "thrown", "()I"⟩, ⟨own 12, "within", "(III)Z"⟩, ⟨own 12, "between", "(III)I"⟩, ⟨own 12, "bits", "(I)I"⟩, ⟨own 12, "feed", "(JJJ)I"⟩, ⟨own 12, "signAt", "(I)I"⟩, ⟨own 12, "nextToken", "()V"⟩, ⟨own 12, "isWord", "(J)Z"⟩, ⟨own 12, "isSign", "(I)Z"⟩, ⟨own 12, "fails", "(I)Z"⟩, ⟨own 12, "puts", "(I)V"⟩, ⟨own 12, "fact", "()I"⟩, ⟨own 12, "reads", "()Z"⟩, ⟨own 12, "opens", "(I)V"⟩, ⟨own 12, "sums", "(I)V"⟩, ⟨own 12, "tests", "(I)V"⟩, ⟨own 12, "worked", "(I)I"⟩, ⟨own 12, "isKept", "()Z"⟩, ⟨own 12, "streetNamed", "(I)I"⟩, ⟨own 12, "personNamed", "(I)I"⟩, ⟨own 12, "needsNumber", "(II)Z"⟩, ⟨own 12, "needsWord", "(J)Z"⟩, ⟨own 12, "closes", "()Z"⟩, ⟨own 12, "needsNew", "()Z"⟩, ⟨own 12, "needsStreet", "(I)Z"⟩, ⟨own 12, "needsPerson", "(I)Z"⟩, ⟨own 12, "needsTwo", "(ZI)Z"⟩, ⟨own 12, "isTwice", "(I)Z"⟩, ⟨own 12, "readsStreet", "()Z"⟩, ⟨own 12, "readsLane", "()Z"⟩, ⟨own 12, "readsPerson", "()Z"⟩, ⟨own 12, "readsKnows", "()Z"⟩, ⟨own 12, "readsOne", "(II)Z"⟩, ⟨own 12, "readsWinds", "()Z"⟩, ⟨own 12, "begins", "()V"⟩, ⟨own 12, "readsAll", "()Z"⟩, ⟨own 12, "shifts", "([II)V"⟩, ⟨own 12, "shiftsNames", "([JI)V"⟩, ⟨own 12, "lays", "()V"⟩, ⟨own 12, "copies", "([II[II)V"⟩, ⟨own 12, "readsLine", "()Z"⟩, ⟨own 12, "laysLines", "(II)V"⟩, ⟨own 12, "fresh", "()V"⟩, ⟨own 12, "forgets", "()V"⟩, ⟨own 12, "land", "()I"⟩, ⟨own 12, "week", "()I"⟩, ⟨own 12, "isStreet", "(I)Z"⟩, ⟨own 12, "isPerson", "(I)Z"⟩, ⟨own 12, "areTwo", "(II)Z"⟩, ⟨own 12, "together", "(II)I"⟩, ⟨own 12, "areStrangers", "(II)Z"⟩, ⟨own 12, "isSnapped", "(I)Z"⟩, ⟨own 12, "isSitting", "(I)Z"⟩, ⟨own 12, "sitting", "()I"⟩, ⟨own 12, "strangersOf", "(I)I"⟩, ⟨own 12, "canWalk", "(II)Z"⟩, ⟨own 12, "mightWind", "(II)Z"⟩, ⟨own 12, "canBeWound", "(I)Z"⟩, ⟨own 12, "crowdBeside", "(II)I"⟩, ⟨own 12, "windsBy", "(III)I"⟩, ⟨own 12, "winds", "(II)V"⟩, ⟨own 12, "windsIfLow", "(II)I"⟩, ⟨own 12, "passes", "()I"⟩, ⟨own 12, "mends", "(I)V"⟩, ⟨own 12, "person", "(II)I"⟩, ⟨own 12, "wound", "(II)I"⟩, ⟨own 12, "lanes", "(I)I"⟩, ⟨own 12, "gives", "(II)I"⟩, ⟨own 12, "keeps", "()V"⟩, ⟨own 12, "walk", "(II)Z"⟩, ⟨own 12, "wind", "(II)I"⟩, ⟨own 12, "mend", "(I)Z"⟩, ⟨own 12, "hour", "()I"⟩, ⟨own 12, "undo", "()Z"⟩, ⟨own 12, "goes", "(I)Z"⟩, ⟨own 12, "judged", "(I)I"⟩, ⟨own 12, "stops", "(I)I"⟩, ⟨own 12, "august", "()I"⟩, ⟨own 12, "plans", "(III)V"⟩, ⟨own 12, "plan", "(III)I"⟩, ⟨own 12, "stand", "(I)I"⟩, ⟨own 12, "nobodySits", "(III)Z"⟩, ⟨own 12, "canAllWalk", "(II)Z"⟩, ⟨own 12, "whereTo", "(II)I"⟩, ⟨own 12, "fewest", "(II)I"⟩, ⟨own 12, "tale", "(II)Z"⟩, ⟨own 12, "whoMight", "(I)I"⟩, ⟨own 12, "leftBy", "(II)I"⟩, ⟨own 12, "isAsTold", "(II)Z"⟩, ⟨own 12, "sets", "(II)I"⟩, ⟨own 12, "ask", "(I)I"⟩, ⟨own 12, "laneMany", "(I)I"⟩, ⟨own 12, "goesBetween", "(II)Z"⟩, ⟨own 12, "sharesOut", "(II)V"⟩, ⟨own 12, "meet", "(III)I"⟩, ⟨own 12, "engaged", "()I"⟩, ⟨own 12, "pairsFrom", "(III)V"⟩, ⟨own 12, "isRowAhead", "()Z"⟩, ⟨own 12, "pairs", "(I)I"⟩, ⟨own 12, "tinkers", "()I"⟩, ⟨own 12, "getsBy", "(IIIII)I"⟩, ⟨own 12, "rests", "(IIII)I"⟩, ⟨own 12, "draws", "(I)I"⟩, ⟨own 12, "livesHour", "()I"⟩, ⟨own 12, "years", "(III)I"⟩, ⟨own 12, "mark", "(IZ)Z"⟩, ⟨own 12, "sum", "(II)I"⟩, ⟨own 12, "talesMany", "()I"⟩, ⟨own 12, "count", "(I)I"⟩, ⟨own 16, "bitCount", "(I)I"⟩, ⟨own 13, "length", "()I"⟩, ⟨own 13, "charAt", "(I)C"⟩, ⟨own 13, "indexOf", "(I)I"⟩, ⟨own 13, "indexOf", "(II)I"⟩, ⟨own 13, "coder", "()B"⟩, ⟨own 13, "isLatin1", "()Z"⟩, ⟨own 13, "checkIndex", "(II)V"⟩, ⟨own 14, "charAt", "([BI)C"⟩, ⟨own 14, "canEncode", "(I)Z"⟩, ⟨own 14, "indexOf", "([BIII)I"⟩, ⟨own 14, "indexOfChar", "([BIII)I"⟩, ⟨own 18, "fill", "([II)V"⟩, ⟨own 15, "checkIndex", "(IILjava/util/function/BiFunction;)I"⟩, ⟨own 19, "law", "([I)Z"⟩]
def yy (m : Nat) : MethodName := yyt.getD m ⟨"", "", ""⟩
def mot : List Nat := [0, 0, 0, 0, 0, 0, 0, 0, 0, 0, 1, 1, 1, 1, 1, 1, 2, 2, 2, 3, 3, 3, 3, 4, 4, 4, 5, 5, 5, 5, 5, 5, 5, 5, 5, 5, 5, 5, 5, 6, 6, 6, 6, 7, 7, 7, 7, 7, 7, 7, 7, 7, 7, 7, 7, 7, 7, 7, 7, 7, 7, 7, 8, 8, 8, 8, 9, 9, 9, 9, 9, 9, 9, 9, 9, 9, 9, 9, 9, 9, 9, 9, 10, 10, 10, 11, 11, 11, 11, 11, 11, 11, 11, 11, 11, 11, 11, 11, 11, 11, 11, 11, 11, 11, 11, 11, 11, 11, 11, 11, 11, 11, 11, 11, 11, 11, 11, 11, 11, 11, 11, 11, 11, 11, 11, 11, 11, 11, 12, 12, 12, 12, 12, 12, 12, 12, 12, 12, 12, 12, 12, 12, 12, 12, 12, 12, 12, 12, 12, 12, 12, 12, 12, 12, 12, 12, 12, 12, 12, 12, 12, 12, 12, 12, 12, 12, 12, 12, 12, 12, 12, 12, 12, 12, 12, 12, 12, 12, 12, 12, 12, 12, 12, 12, 12, 12, 12, 12, 12, 12, 12, 12, 12, 12, 12, 12, 12, 12, 12, 12, 12, 12, 12, 12, 12, 12, 12, 12, 12, 12, 12, 12, 12, 12, 12, 12, 12, 12, 12, 12, 12, 12, 12, 12, 12, 12, 12, 12, 12, 12, 12, 12, 12, 12, 12, 12, 12, 12, 16, 13, 13, 13, 13, 13, 13, 13, 14, 14, 14, 14, 18, 15, 19]
def mo (m : Nat) : Nat := mot.getD m 0
def bbt : List ByteArray := [prog_2_method_1_code, prog_2_method_2_code, prog_2_method_3_code, prog_2_method_4_code, prog_2_method_5_code, prog_2_method_6_code, prog_2_method_7_code, prog_2_method_8_code, prog_2_method_9_code, prog_2_method_10_code, prog_3_method_1_code, prog_3_method_2_code, prog_3_method_3_code, prog_3_method_4_code, prog_3_method_5_code, prog_3_method_6_code, prog_4_method_1_code, prog_4_method_2_code, prog_4_method_3_code, prog_5_method_1_code, prog_5_method_2_code, prog_5_method_3_code, prog_5_method_4_code, prog_6_method_1_code, prog_6_method_2_code, prog_6_method_3_code, prog_7_method_1_code, prog_7_method_2_code, prog_7_method_3_code, prog_7_method_4_code, prog_7_method_5_code, prog_7_method_6_code, prog_7_method_7_code, prog_7_method_8_code, prog_7_method_9_code, prog_7_method_10_code, prog_7_method_11_code, prog_7_method_12_code, prog_7_method_13_code, prog_8_method_1_code, prog_8_method_2_code, prog_8_method_3_code, prog_8_method_4_code, prog_9_method_1_code, prog_9_method_2_code, prog_9_method_3_code, prog_9_method_4_code, prog_9_method_5_code, prog_9_method_6_code, prog_9_method_7_code, prog_9_method_8_code, prog_9_method_9_code, prog_9_method_10_code, prog_9_method_11_code, prog_9_method_12_code, prog_9_method_13_code, prog_9_method_14_code, prog_9_method_15_code, prog_9_method_16_code, prog_9_method_17_code, prog_9_method_18_code, prog_9_method_19_code, prog_10_method_1_code, prog_10_method_2_code, prog_10_method_3_code, prog_10_method_4_code, prog_11_method_1_code, prog_11_method_2_code, prog_11_method_3_code, prog_11_method_4_code, prog_11_method_5_code, prog_11_method_6_code, prog_11_method_7_code, prog_11_method_8_code, prog_11_method_9_code, prog_11_method_10_code, prog_11_method_11_code, prog_11_method_12_code, prog_11_method_13_code, prog_11_method_14_code, prog_11_method_15_code, prog_11_method_16_code, prog_12_method_1_code, prog_12_method_2_code, prog_12_method_3_code, prog_1_method_1_code, prog_1_method_2_code, prog_1_method_3_code, prog_1_method_4_code, prog_1_method_5_code, prog_1_method_6_code, prog_1_method_7_code, prog_1_method_8_code, prog_1_method_9_code, prog_1_method_10_code, prog_1_method_11_code, prog_1_method_12_code, prog_1_method_13_code, prog_1_method_14_code, prog_1_method_15_code, prog_1_method_16_code, prog_1_method_17_code, prog_1_method_18_code, prog_1_method_19_code, prog_1_method_20_code, prog_1_method_21_code, prog_1_method_22_code, prog_1_method_23_code, prog_1_method_24_code, prog_1_method_25_code, prog_1_method_26_code, prog_1_method_28_code, prog_1_method_29_code, prog_1_method_30_code, prog_1_method_31_code, prog_1_method_32_code, prog_1_method_33_code, prog_1_method_34_code, prog_1_method_35_code, prog_1_method_36_code, prog_1_method_37_code, prog_1_method_38_code, prog_1_method_39_code, prog_1_method_40_code, prog_1_method_41_code, prog_1_method_42_code, prog_1_method_43_code, prog_1_method_44_code, prog_14_method_1_code, prog_14_method_2_code, prog_14_method_3_code, prog_14_method_4_code, prog_14_method_5_code, prog_14_method_6_code, prog_14_method_7_code, prog_14_method_8_code, prog_14_method_9_code, prog_14_method_10_code, prog_14_method_11_code, prog_14_method_12_code, prog_14_method_13_code, prog_14_method_14_code, prog_14_method_15_code, prog_14_method_16_code, prog_14_method_17_code, prog_14_method_18_code, prog_14_method_19_code, prog_14_method_20_code, prog_14_method_21_code, prog_14_method_22_code, prog_14_method_23_code, prog_14_method_24_code, prog_14_method_25_code, prog_14_method_26_code, prog_14_method_27_code, prog_14_method_28_code, prog_14_method_29_code, prog_14_method_30_code, prog_14_method_31_code, prog_14_method_32_code, prog_14_method_33_code, prog_14_method_34_code, prog_14_method_35_code, prog_14_method_36_code, prog_14_method_37_code, prog_14_method_38_code, prog_14_method_39_code, prog_14_method_40_code, prog_14_method_41_code, prog_14_method_42_code, prog_14_method_43_code, prog_14_method_44_code, prog_14_method_45_code, prog_14_method_46_code, prog_14_method_47_code, prog_14_method_48_code, prog_14_method_49_code, prog_14_method_50_code, prog_14_method_51_code, prog_14_method_52_code, prog_14_method_53_code, prog_14_method_54_code, prog_14_method_55_code, prog_14_method_56_code, prog_14_method_57_code, prog_14_method_58_code, prog_14_method_59_code, prog_14_method_60_code, prog_14_method_61_code, prog_14_method_62_code, prog_14_method_63_code, prog_14_method_64_code, prog_14_method_65_code, prog_14_method_66_code, prog_14_method_67_code, prog_14_method_68_code, prog_14_method_69_code, prog_14_method_70_code, prog_14_method_71_code, prog_14_method_72_code, prog_14_method_73_code, prog_14_method_74_code, prog_14_method_75_code, prog_14_method_76_code, prog_14_method_77_code, prog_14_method_78_code, prog_14_method_79_code, prog_14_method_80_code, prog_14_method_81_code, prog_14_method_82_code, prog_14_method_83_code, prog_14_method_84_code, prog_14_method_85_code, prog_14_method_86_code, prog_14_method_87_code, prog_14_method_88_code, prog_14_method_89_code, prog_14_method_90_code, prog_14_method_91_code, prog_14_method_92_code, prog_14_method_93_code, prog_14_method_94_code, prog_14_method_95_code, prog_14_method_96_code, prog_14_method_97_code, prog_14_method_98_code, prog_14_method_99_code, prog_14_method_100_code, prog_14_method_101_code, prog_14_method_102_code, prog_14_method_103_code, prog_14_method_104_code, prog_14_method_105_code, prog_14_method_106_code, prog_14_method_107_code, prog_14_method_108_code, prog_14_method_109_code, prog_14_method_110_code, prog_20_method_49_code, prog_23_method_54_code, prog_23_method_56_code, prog_23_method_79_code, prog_23_method_80_code, prog_23_method_152_code, prog_23_method_154_code, prog_23_method_155_code, prog_24_method_2_code, prog_24_method_4_code, prog_24_method_22_code, prog_24_method_23_code, prog_30_method_103_code, prog_32_method_11_code, code]
def bb (m : Nat) : ByteArray := bbt.getD m code
def rrt : List (Option FieldType) := [none, none, none, none, (some .int), (some .int), none, (some .int), (some .int), (some .int), none, (some .boolean), (some .boolean), (some .boolean), (some .int), (some .int), none, none, none, none, none, none, (some .boolean), none, none, none, none, (some .int), (some .boolean), (some .boolean), (some .boolean), (some .boolean), (some .boolean), (some .boolean), (some .int), (some .boolean), (some .int), (some .boolean), (some .int), none, none, none, (some .int), none, none, none, (some .boolean), (some .boolean), (some .int), (some .int), (some .int), (some .boolean), (some .int), (some .int), (some .boolean), (some .boolean), (some .boolean), (some .int), (some .int), none, none, (some .int), none, none, (some .int), none, none, none, none, none, none, none, (some .boolean), (some .boolean), (some .boolean), (some .boolean), (some .boolean), (some .int), (some .boolean), (some .boolean), (some .boolean), (some .boolean), none, none, none, none, (some .int), (some .int), (some .int), (some .int), (some .int), (some .int), (some .int), (some .boolean), (some .int), (some .boolean), (some .int), (some .boolean), (some .int), (some .int), (some .int), (some .int), (some .int), (some .int), (some .boolean), (some .int), (some .int), (some .int), (some .int), (some .int), (some .int), (some .int), (some .boolean), (some .int), (some .boolean), (some .boolean), (some .boolean), (some .boolean), (some .boolean), (some .int), (some .boolean), (some .boolean), none, none, (some .boolean), (some .int), (some .int), none, none, (some .int), (some .boolean), (some .int), (some .int), (some .int), (some .int), none, (some .boolean), (some .boolean), (some .boolean), none, (some .int), (some .boolean), none, none, none, (some .int), (some .boolean), (some .int), (some .int), (some .boolean), (some .boolean), (some .boolean), (some .boolean), (some .boolean), (some .boolean), (some .boolean), (some .boolean), (some .boolean), (some .boolean), (some .boolean), (some .boolean), (some .boolean), (some .boolean), none, (some .boolean), none, none, none, none, (some .boolean), none, none, none, (some .int), (some .int), (some .boolean), (some .boolean), (some .boolean), (some .int), (some .boolean), (some .boolean), (some .boolean), (some .int), (some .int), (some .boolean), (some .boolean), (some .boolean), (some .int), (some .int), none, (some .int), (some .int), none, (some .int), (some .int), (some .int), (some .int), none, (some .boolean), (some .int), (some .boolean), (some .int), (some .boolean), (some .boolean), (some .int), (some .int), (some .int), none, (some .int), (some .int), (some .boolean), (some .boolean), (some .int), (some .int), (some .boolean), (some .int), (some .int), (some .boolean), (some .int), (some .int), (some .int), (some .boolean), none, (some .int), (some .int), none, (some .boolean), (some .int), (some .int), (some .int), (some .int), (some .int), (some .int), (some .int), (some .boolean), (some .int), (some .int), (some .int), (some .int), (some .int), (some .char), (some .int), (some .int), (some .byte), (some .boolean), none, (some .char), (some .boolean), (some .int), (some .int), none, (some .int), (some .boolean)]
def rr (m : Nat) : Option FieldType := rrt.getD m none
def npt : List Nat := [0, 0, 1, 1, 1, 1, 1, 4, 5, 3, 1, 1, 3, 2, 0, 1, 0, 2, 4, 0, 0, 1, 1, 0, 4, 3, 1, 1, 1, 1, 2, 1, 1, 1, 2, 2, 0, 1, 2, 0, 1, 1, 0, 0, 1, 1, 1, 1, 1, 1, 2, 3, 2, 3, 3, 3, 3, 3, 4, 3, 1, 1, 0, 4, 4, 1, 0, 1, 0, 0, 0, 0, 1, 1, 1, 1, 0, 0, 1, 1, 1, 2, 0, 3, 1, 0, 3, 0, 0, 2, 2, 1, 2, 2, 2, 1, 0, 0, 1, 1, 0, 3, 1, 2, 2, 2, 1, 3, 0, 1, 0, 3, 2, 1, 3, 1, 1, 2, 2, 2, 2, 1, 0, 2, 4, 5, 1, 0, 0, 0, 3, 3, 1, 3, 1, 0, 1, 1, 1, 1, 0, 0, 1, 1, 1, 1, 0, 1, 1, 2, 1, 0, 0, 1, 1, 2, 1, 0, 0, 0, 0, 2, 0, 0, 0, 2, 2, 0, 4, 0, 2, 0, 0, 0, 0, 1, 1, 2, 2, 2, 1, 1, 0, 1, 2, 2, 1, 2, 3, 2, 2, 0, 1, 2, 2, 1, 2, 0, 2, 2, 1, 0, 0, 1, 1, 1, 0, 3, 3, 1, 3, 2, 2, 2, 2, 1, 2, 2, 2, 1, 1, 2, 2, 3, 0, 3, 0, 1, 0, 5, 4, 1, 0, 3, 2, 2, 0, 1, 1, 0, 1, 1, 2, 0, 0, 2, 2, 1, 4, 4, 2, 3, 1]
def np (m : Nat) : Nat := npt.getD m 0
def mLaw : Nat := 252
def mAll : List Nat := [0, 1, 2, 3, 4, 5, 6, 7, 8, 9, 10, 11, 12, 13, 14, 15, 16, 17, 18, 19, 20, 21, 22, 23, 24, 25, 26, 27, 28, 29, 30, 31, 32, 33, 34, 35, 36, 37, 38, 39, 40, 41, 42, 43, 44, 45, 46, 47, 48, 49, 50, 51, 52, 53, 54, 55, 56, 57, 58, 59, 60, 61, 62, 63, 64, 65, 66, 67, 68, 69, 70, 71, 72, 73, 74, 75, 76, 77, 78, 79, 80, 81, 82, 83, 84, 85, 86, 87, 88, 89, 90, 91, 92, 93, 94, 95, 96, 97, 98, 99, 100, 101, 102, 103, 104, 105, 106, 107, 108, 109, 110, 111, 112, 113, 114, 115, 116, 117, 118, 119, 120, 121, 122, 123, 124, 125, 126, 127, 128, 129, 130, 131, 132, 133, 134, 135, 136, 137, 138, 139, 140, 141, 142, 143, 144, 145, 146, 147, 148, 149, 150, 151, 152, 153, 154, 155, 156, 157, 158, 159, 160, 161, 162, 163, 164, 165, 166, 167, 168, 169, 170, 171, 172, 173, 174, 175, 176, 177, 178, 179, 180, 181, 182, 183, 184, 185, 186, 187, 188, 189, 190, 191, 192, 193, 194, 195, 196, 197, 198, 199, 200, 201, 202, 203, 204, 205, 206, 207, 208, 209, 210, 211, 212, 213, 214, 215, 216, 217, 218, 219, 220, 221, 222, 223, 224, 225, 226, 227, 228, 229, 230, 231, 232, 233, 234, 235, 236, 237, 238, 239, 240, 241, 242, 243, 244, 245, 246, 247, 248, 249, 250, 251]
