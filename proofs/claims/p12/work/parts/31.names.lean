noncomputable section
def RX0 : String := "SandFlags$Children"
def TX0 : u_T := fun k => match k with
  | 0 => ("SandFlags$Children", "lostMarks", "[I", true)
  | 1 => ("SandFlags$Children", "foundMarks", "[I", true)
  | 2 => ("SandFlags$Children", "worth", "[[I", true)
  | 3 => ("SandFlags$Children", "foundBy", "[I", true)
  | 4 => ("SandFlags$Children", "losts", "I", false)
  | 5 => ("SandFlags$Children", "founds", "I", false)
  | 6 => ("SandFlags$Children", "joinCount", "I", false)
  | 7 => ("SandFlags$Children", "unlikeSum", "I", false)
  | _ => ("SandFlags$Children", "known", "Z", false)
def tyX0 : Nat → FieldType := fun k => match k with
  | 0 => .array .int
  | 1 => .array .int
  | 2 => .array (.array .int)
  | 3 => .array .int
  | 4 => .int
  | 5 => .int
  | 6 => .int
  | 7 => .int
  | _ => .boolean
abbrev wsX00 : List Cond := u_ws RX0 TX0 9
theorem nmX0 : ∀ a, a < 9 → ∀ b, b < 9 → a ≠ b → (TX0 a).2.1 ≠ (TX0 b).2.1 := by decide +kernel
theorem tyX0_ok : ∀ k, k < 9 → parseFieldDescriptor (TX0 k).2.2.1 = some (tyX0 k) := by decide +kernel
def RX1 : String := "SandFlags$FlagPlan"
def TX1 : u_T := fun k => match k with
  | 0 => ("SandFlags$FlagPlan", "shore", "LSandFlags$Shore;", true)
  | 1 => ("SandFlags$FlagPlan", "stretch", "[Z", true)
  | 2 => ("SandFlags$FlagPlan", "open", "[Z", true)
  | 3 => ("SandFlags$FlagPlan", "moves", "[[I", true)
  | _ => ("SandFlags$FlagPlan", "firstCell", "[I", true)
def tyX1 : Nat → FieldType := fun k => match k with
  | 0 => .object "SandFlags$Shore"
  | 1 => .array .boolean
  | 2 => .array .boolean
  | 3 => .array (.array .int)
  | _ => .array .int
abbrev wsX10 : List Cond := u_ws RX1 TX1 5
theorem nmX1 : ∀ a, a < 5 → ∀ b, b < 5 → a ≠ b → (TX1 a).2.1 ≠ (TX1 b).2.1 := by decide +kernel
theorem tyX1_ok : ∀ k, k < 5 → parseFieldDescriptor (TX1 k).2.2.1 = some (tyX1 k) := by decide +kernel
def RX2 : String := "SandFlags$HeadCount"
def TX2 : u_T := fun k => match k with
  | _ => ("SandFlags$HeadCount", "headsIn", "[[I", true)
def tyX2 : Nat → FieldType := fun k => match k with
  | _ => .array (.array .int)
abbrev wsX20 : List Cond := u_ws RX2 TX2 1
theorem nmX2 : ∀ a, a < 1 → ∀ b, b < 1 → a ≠ b → (TX2 a).2.1 ≠ (TX2 b).2.1 := by decide +kernel
theorem tyX2_ok : ∀ k, k < 1 → parseFieldDescriptor (TX2 k).2.2.1 = some (tyX2 k) := by decide +kernel
def RX3 : String := "SandFlags$Reports"
def TX3 : u_T := fun k => match k with
  | 0 => ("SandFlags$Reports", "beachOf", "[I", true)
  | 1 => ("SandFlags$Reports", "minuteOf", "[I", true)
  | 2 => ("SandFlags$Reports", "cellOf", "[I", true)
  | 3 => ("SandFlags$Reports", "rescueOf", "[I", true)
  | 4 => ("SandFlags$Reports", "firstMinute", "[I", true)
  | _ => ("SandFlags$Reports", "size", "I", false)
def tyX3 : Nat → FieldType := fun k => match k with
  | 0 => .array .int
  | 1 => .array .int
  | 2 => .array .int
  | 3 => .array .int
  | 4 => .array .int
  | _ => .int
abbrev wsX30 : List Cond := u_ws RX3 TX3 6
theorem nmX3 : ∀ a, a < 6 → ∀ b, b < 6 → a ≠ b → (TX3 a).2.1 ≠ (TX3 b).2.1 := by decide +kernel
theorem tyX3_ok : ∀ k, k < 6 → parseFieldDescriptor (TX3 k).2.2.1 = some (tyX3 k) := by decide +kernel
def RX4 : String := "SandFlags$Rota"
def TX4 : u_T := fun k => match k with
  | 0 => ("SandFlags$Rota", "today", "LSandFlags$Today;", true)
  | 1 => ("SandFlags$Rota", "mileOf", "[I", true)
  | 2 => ("SandFlags$Rota", "code", "[I", true)
  | 3 => ("SandFlags$Rota", "size", "[I", true)
  | 4 => ("SandFlags$Rota", "spreadOf", "[I", true)
  | 5 => ("SandFlags$Rota", "there", "[I", true)
  | 6 => ("SandFlags$Rota", "follows", "[Z", true)
  | 7 => ("SandFlags$Rota", "risk", "[[I", true)
  | 8 => ("SandFlags$Rota", "goOn", "[I", true)
  | 9 => ("SandFlags$Rota", "least", "[[I", true)
  | 10 => ("SandFlags$Rota", "latest", "[I", true)
  | 11 => ("SandFlags$Rota", "place", "[I", true)
  | 12 => ("SandFlags$Rota", "guards", "I", false)
  | 13 => ("SandFlags$Rota", "followsKnown", "Z", false)
  | 14 => ("SandFlags$Rota", "planFrom", "I", false)
  | 15 => ("SandFlags$Rota", "planTo", "I", false)
  | _ => ("SandFlags$Rota", "planRisk", "I", false)
def tyX4 : Nat → FieldType := fun k => match k with
  | 0 => .object "SandFlags$Today"
  | 1 => .array .int
  | 2 => .array .int
  | 3 => .array .int
  | 4 => .array .int
  | 5 => .array .int
  | 6 => .array .boolean
  | 7 => .array (.array .int)
  | 8 => .array .int
  | 9 => .array (.array .int)
  | 10 => .array .int
  | 11 => .array .int
  | 12 => .int
  | 13 => .boolean
  | 14 => .int
  | 15 => .int
  | _ => .int
abbrev wsX40 : List Cond := u_ws RX4 TX4 17
theorem nmX4 : ∀ a, a < 17 → ∀ b, b < 17 → a ≠ b → (TX4 a).2.1 ≠ (TX4 b).2.1 := by decide +kernel
theorem tyX4_ok : ∀ k, k < 17 → parseFieldDescriptor (TX4 k).2.2.1 = some (tyX4 k) := by decide +kernel
def RX5 : String := "SandFlags$RuleBook"
def TX5 : u_T := fun k => match k with
  | 0 => ("SandFlags$RuleBook", "from", "[I", true)
  | 1 => ("SandFlags$RuleBook", "swellFrom", "[I", true)
  | 2 => ("SandFlags$RuleBook", "headsFrom", "[I", true)
  | 3 => ("SandFlags$RuleBook", "jelliesFrom", "[I", true)
  | 4 => ("SandFlags$RuleBook", "colourOf", "[I", true)
  | _ => ("SandFlags$RuleBook", "size", "I", false)
def tyX5 : Nat → FieldType := fun k => match k with
  | 0 => .array .int
  | 1 => .array .int
  | 2 => .array .int
  | 3 => .array .int
  | 4 => .array .int
  | _ => .int
abbrev wsX50 : List Cond := u_ws RX5 TX5 6
theorem nmX5 : ∀ a, a < 6 → ∀ b, b < 6 → a ≠ b → (TX5 a).2.1 ≠ (TX5 b).2.1 := by decide +kernel
theorem tyX5_ok : ∀ k, k < 6 → parseFieldDescriptor (TX5 k).2.2.1 = some (tyX5 k) := by decide +kernel
def RX6 : String := "SandFlags$Search"
def TX6 : u_T := fun k => match k with
  | 0 => ("SandFlags$Search", "told", "[I", true)
  | 1 => ("SandFlags$Search", "parts", "[J", true)
  | 2 => ("SandFlags$Search", "looked", "[J", true)
  | 3 => ("SandFlags$Search", "ahead", "[[J", true)
  | 4 => ("SandFlags$Search", "trial", "[I", true)
  | 5 => ("SandFlags$Search", "best", "[I", true)
  | 6 => ("SandFlags$Search", "bestFound", "J", false)
  | 7 => ("SandFlags$Search", "left", "I", false)
  | 8 => ("SandFlags$Search", "stay", "I", false)
  | 9 => ("SandFlags$Search", "right", "I", false)
  | 10 => ("SandFlags$Search", "made", "I", false)
  | _ => ("SandFlags$Search", "boatPlace", "I", false)
def tyX6 : Nat → FieldType := fun k => match k with
  | 0 => .array .int
  | 1 => .array .long
  | 2 => .array .long
  | 3 => .array (.array .long)
  | 4 => .array .int
  | 5 => .array .int
  | 6 => .long
  | 7 => .int
  | 8 => .int
  | 9 => .int
  | 10 => .int
  | _ => .int
abbrev wsX60 : List Cond := u_ws RX6 TX6 12
theorem nmX6 : ∀ a, a < 12 → ∀ b, b < 12 → a ≠ b → (TX6 a).2.1 ≠ (TX6 b).2.1 := by decide +kernel
theorem tyX6_ok : ∀ k, k < 12 → parseFieldDescriptor (TX6 k).2.2.1 = some (tyX6 k) := by decide +kernel
def RX7 : String := "SandFlags$Shore"
def TX7 : u_T := fun k => match k with
  | 0 => ("SandFlags$Shore", "today", "LSandFlags$Today;", true)
  | _ => ("SandFlags$Shore", "bank", "[[I", true)
def tyX7 : Nat → FieldType := fun k => match k with
  | 0 => .object "SandFlags$Today"
  | _ => .array (.array .int)
abbrev wsX70 : List Cond := u_ws RX7 TX7 2
theorem nmX7 : ∀ a, a < 2 → ∀ b, b < 2 → a ≠ b → (TX7 a).2.1 ≠ (TX7 b).2.1 := by decide +kernel
theorem tyX7_ok : ∀ k, k < 2 → parseFieldDescriptor (TX7 k).2.2.1 = some (tyX7 k) := by decide +kernel
def RX8 : String := "SandFlags$Today"
def TX8 : u_T := fun k => match k with
  | 0 => ("SandFlags$Today", "tide", "[I", true)
  | 1 => ("SandFlags$Today", "swell", "[I", true)
  | 2 => ("SandFlags$Today", "heads", "[[I", true)
  | _ => ("SandFlags$Today", "jellies", "[[I", true)
def tyX8 : Nat → FieldType := fun k => match k with
  | 0 => .array .int
  | 1 => .array .int
  | 2 => .array (.array .int)
  | _ => .array (.array .int)
abbrev wsX80 : List Cond := u_ws RX8 TX8 4
theorem nmX8 : ∀ a, a < 4 → ∀ b, b < 4 → a ≠ b → (TX8 a).2.1 ≠ (TX8 b).2.1 := by decide +kernel
theorem tyX8_ok : ∀ k, k < 4 → parseFieldDescriptor (TX8 k).2.2.1 = some (tyX8 k) := by decide +kernel
def RX9 : String := "SandFlags$Water"
def TX9 : u_T := fun k => match k with
  | 0 => ("SandFlags$Water", "rip", "[Z", true)
  | 1 => ("SandFlags$Water", "cell", "[I", true)
  | 2 => ("SandFlags$Water", "out", "[I", true)
  | 3 => ("SandFlags$Water", "state", "[I", true)
  | 4 => ("SandFlags$Water", "changedAt", "[I", true)
  | 5 => ("SandFlags$Water", "troubled", "[I", true)
  | 6 => ("SandFlags$Water", "reached", "[I", true)
  | 7 => ("SandFlags$Water", "freeFrom", "[I", true)
  | 8 => ("SandFlags$Water", "sweep", "I", false)
  | 9 => ("SandFlags$Water", "longTime", "I", false)
  | 10 => ("SandFlags$Water", "told", "Z", false)
  | 11 => ("SandFlags$Water", "guards", "I", false)
  | 12 => ("SandFlags$Water", "bathers", "I", false)
  | _ => ("SandFlags$Water", "minute", "I", false)
def tyX9 : Nat → FieldType := fun k => match k with
  | 0 => .array .boolean
  | 1 => .array .int
  | 2 => .array .int
  | 3 => .array .int
  | 4 => .array .int
  | 5 => .array .int
  | 6 => .array .int
  | 7 => .array .int
  | 8 => .int
  | 9 => .int
  | 10 => .boolean
  | 11 => .int
  | 12 => .int
  | _ => .int
abbrev wsX90 : List Cond := u_ws RX9 TX9 14
theorem nmX9 : ∀ a, a < 14 → ∀ b, b < 14 → a ≠ b → (TX9 a).2.1 ≠ (TX9 b).2.1 := by decide +kernel
theorem tyX9_ok : ∀ k, k < 14 → parseFieldDescriptor (TX9 k).2.2.1 = some (tyX9 k) := by decide +kernel
def RX10 : String := "SandFlags"
def TX10 : u_T := fun k => match k with
  | 0 => ("SandFlags", "refusals", "[I", true)
  | 1 => ("SandFlags", "today", "LSandFlags$Today;", true)
  | 2 => ("SandFlags", "shore", "LSandFlags$Shore;", true)
  | 3 => ("SandFlags", "flagPlan", "LSandFlags$FlagPlan;", true)
  | 4 => ("SandFlags", "rota", "LSandFlags$Rota;", true)
  | 5 => ("SandFlags", "sea", "LSandFlags$Water;", true)
  | 6 => ("SandFlags", "search", "LSandFlags$Search;", true)
  | 7 => ("SandFlags", "children", "LSandFlags$Children;", true)
  | 8 => ("SandFlags", "reports", "LSandFlags$Reports;", true)
  | 9 => ("SandFlags", "ruleBook", "LSandFlags$RuleBook;", true)
  | 10 => ("SandFlags", "headCount", "LSandFlags$HeadCount;", true)
  | _ => ("SandFlags", "day", "I", false)
def tyX10 : Nat → FieldType := fun k => match k with
  | 0 => .array .int
  | 1 => .object "SandFlags$Today"
  | 2 => .object "SandFlags$Shore"
  | 3 => .object "SandFlags$FlagPlan"
  | 4 => .object "SandFlags$Rota"
  | 5 => .object "SandFlags$Water"
  | 6 => .object "SandFlags$Search"
  | 7 => .object "SandFlags$Children"
  | 8 => .object "SandFlags$Reports"
  | 9 => .object "SandFlags$RuleBook"
  | 10 => .object "SandFlags$HeadCount"
  | _ => .int
abbrev wsX100 : List Cond := u_ws RX10 TX10 12
theorem nmX10 : ∀ a, a < 12 → ∀ b, b < 12 → a ≠ b → (TX10 a).2.1 ≠ (TX10 b).2.1 := by decide +kernel
theorem tyX10_ok : ∀ k, k < 12 → parseFieldDescriptor (TX10 k).2.2.1 = some (tyX10 k) := by decide +kernel
def RX11 : String := "SandFlagsModel"
def TX11 : u_T := fun k => match k with
  | 0 => ("SandFlagsModel", "thrown", "I", false)
  | 1 => ("SandFlagsModel", "day", "I", false)
  | 2 => ("SandFlagsModel", "mile", "[I", true)
  | 3 => ("SandFlagsModel", "banks", "[I", true)
  | 4 => ("SandFlagsModel", "tides", "[I", true)
  | 5 => ("SandFlagsModel", "swells", "[I", true)
  | 6 => ("SandFlagsModel", "heads", "[I", true)
  | 7 => ("SandFlagsModel", "jellies", "[I", true)
  | 8 => ("SandFlagsModel", "guards", "I", false)
  | 9 => ("SandFlagsModel", "refused", "[I", true)
  | 10 => ("SandFlagsModel", "leastTide", "I", false)
  | 11 => ("SandFlagsModel", "mostTide", "I", false)
  | 12 => ("SandFlagsModel", "mostSwell", "I", false)
  | 13 => ("SandFlagsModel", "onEnd", "[I", true)
  | 14 => ("SandFlagsModel", "movesOn", "[I", true)
  | 15 => ("SandFlagsModel", "mayBe", "[Z", true)
  | 16 => ("SandFlagsModel", "riskOn", "[I", true)
  | 17 => ("SandFlagsModel", "four", "[I", true)
  | 18 => ("SandFlagsModel", "then", "[I", true)
  | 19 => ("SandFlagsModel", "sorted", "[I", true)
  | 20 => ("SandFlagsModel", "atBeach", "[I", true)
  | 21 => ("SandFlagsModel", "isSorted", "Z", false)
  | 22 => ("SandFlagsModel", "rosterFrom", "I", false)
  | 23 => ("SandFlagsModel", "rosterTo", "I", false)
  | 24 => ("SandFlagsModel", "hasWater", "Z", false)
  | 25 => ("SandFlagsModel", "isRipHere", "[Z", true)
  | 26 => ("SandFlagsModel", "minute", "I", false)
  | 27 => ("SandFlagsModel", "towers", "I", false)
  | 28 => ("SandFlagsModel", "freeAt", "[I", true)
  | 29 => ("SandFlagsModel", "sweep", "I", false)
  | 30 => ("SandFlagsModel", "tooLong", "I", false)
  | 31 => ("SandFlagsModel", "bathers", "I", false)
  | 32 => ("SandFlagsModel", "cell", "[I", true)
  | 33 => ("SandFlagsModel", "out", "[I", true)
  | 34 => ("SandFlagsModel", "state", "[I", true)
  | 35 => ("SandFlagsModel", "changed", "[I", true)
  | 36 => ("SandFlagsModel", "trouble", "[I", true)
  | 37 => ("SandFlagsModel", "reached", "[I", true)
  | 38 => ("SandFlagsModel", "toldParts", "[I", true)
  | 39 => ("SandFlagsModel", "parts", "[J", true)
  | 40 => ("SandFlagsModel", "next", "[J", true)
  | 41 => ("SandFlagsModel", "acts", "I", false)
  | 42 => ("SandFlagsModel", "toLeft", "I", false)
  | 43 => ("SandFlagsModel", "stays", "I", false)
  | 44 => ("SandFlagsModel", "toRight", "I", false)
  | 45 => ("SandFlagsModel", "boatAt", "I", false)
  | 46 => ("SandFlagsModel", "kept", "[J", true)
  | 47 => ("SandFlagsModel", "row", "[I", true)
  | 48 => ("SandFlagsModel", "bestRow", "[I", true)
  | 49 => ("SandFlagsModel", "bestLeft", "J", false)
  | 50 => ("SandFlagsModel", "wholeThen", "J", false)
  | 51 => ("SandFlagsModel", "children", "[I", true)
  | 52 => ("SandFlagsModel", "marks", "[I", true)
  | 53 => ("SandFlagsModel", "toCome", "[I", true)
  | 54 => ("SandFlagsModel", "joinedTo", "[I", true)
  | 55 => ("SandFlagsModel", "reports", "I", false)
  | 56 => ("SandFlagsModel", "repBeach", "[I", true)
  | 57 => ("SandFlagsModel", "repMinute", "[I", true)
  | 58 => ("SandFlagsModel", "repCell", "[I", true)
  | 59 => ("SandFlagsModel", "group", "[I", true)
  | 60 => ("SandFlagsModel", "firsts", "[I", true)
  | 61 => ("SandFlagsModel", "rules", "I", false)
  | 62 => ("SandFlagsModel", "ruleDay", "[I", true)
  | 63 => ("SandFlagsModel", "ruleSwell", "[I", true)
  | 64 => ("SandFlagsModel", "ruleHeads", "[I", true)
  | 65 => ("SandFlagsModel", "ruleJellies", "[I", true)
  | 66 => ("SandFlagsModel", "ruleColour", "[I", true)
  | _ => ("SandFlagsModel", "drawnHeads", "[I", true)
def tyX11 : Nat → FieldType := fun k => match k with
  | 0 => .int
  | 1 => .int
  | 2 => .array .int
  | 3 => .array .int
  | 4 => .array .int
  | 5 => .array .int
  | 6 => .array .int
  | 7 => .array .int
  | 8 => .int
  | 9 => .array .int
  | 10 => .int
  | 11 => .int
  | 12 => .int
  | 13 => .array .int
  | 14 => .array .int
  | 15 => .array .boolean
  | 16 => .array .int
  | 17 => .array .int
  | 18 => .array .int
  | 19 => .array .int
  | 20 => .array .int
  | 21 => .boolean
  | 22 => .int
  | 23 => .int
  | 24 => .boolean
  | 25 => .array .boolean
  | 26 => .int
  | 27 => .int
  | 28 => .array .int
  | 29 => .int
  | 30 => .int
  | 31 => .int
  | 32 => .array .int
  | 33 => .array .int
  | 34 => .array .int
  | 35 => .array .int
  | 36 => .array .int
  | 37 => .array .int
  | 38 => .array .int
  | 39 => .array .long
  | 40 => .array .long
  | 41 => .int
  | 42 => .int
  | 43 => .int
  | 44 => .int
  | 45 => .int
  | 46 => .array .long
  | 47 => .array .int
  | 48 => .array .int
  | 49 => .long
  | 50 => .long
  | 51 => .array .int
  | 52 => .array .int
  | 53 => .array .int
  | 54 => .array .int
  | 55 => .int
  | 56 => .array .int
  | 57 => .array .int
  | 58 => .array .int
  | 59 => .array .int
  | 60 => .array .int
  | 61 => .int
  | 62 => .array .int
  | 63 => .array .int
  | 64 => .array .int
  | 65 => .array .int
  | 66 => .array .int
  | _ => .array .int
abbrev wsX110 : List Cond := u_ws RX11 TX11 68
theorem nmX11 : ∀ a, a < 68 → ∀ b, b < 68 → a ≠ b → (TX11 a).2.1 ≠ (TX11 b).2.1 := by decide +kernel
theorem tyX11_ok : ∀ k, k < 68 → parseFieldDescriptor (TX11 k).2.2.1 = some (tyX11 k) := by decide +kernel
abbrev vwCl : List vw_C := [(RX0, TX0, 9), (RX1, TX1, 5), (RX2, TX2, 1), (RX3, TX3, 6), (RX4, TX4, 17), (RX5, TX5, 6), (RX6, TX6, 12), (RX7, TX7, 2), (RX8, TX8, 4), (RX9, TX9, 14), (RX10, TX10, 12), (RX11, TX11, 68)]
def ab_BIG : List Cond := lw_tbl.filter goodWord
theorem ab_BIG_good : ∀ w ∈ ab_BIG, goodWord w = true := fun w h => (List.mem_filter.mp h).2
theorem ab_inB {w : Cond} {i : Nat} (h : lw_tbl[i]? = some w) (g : goodWord w = true) : w ∈ ab_BIG := List.mem_filter.mpr ⟨List.mem_of_getElem? h, g⟩
theorem ab_BIG_in : ∀ w ∈ ab_BIG, w ∈ lw_tbl := fun w h => (List.mem_filter.mp h).1
def mk_1 : List Bool := [true, true, true, true, true, true, true, true, true, true, true, true, true, true, true, true, true, true, true, true, true, true, true, true, true, true, true, true, true, true, true, true, true, true, true, false, true, true, true, true, true, true, true, true, false, true, false, true, false, true, false, false, true, true, true, true, true, true, true, true, true, true, true, false, true, false, false, true, true, true, true, true, true, true, true, true, true, true, true, true, false, true, false, true, false, true, false, true, false, false, true, true, true, true, true, true, true, true, true, false, true, true, true, false, true, true, true, false, true, true, true, false, true, true, true, true, true, true, true, true, true, true, true, true, true, true, true, true, true, true, false, true, false, true, false, true, false, true, false, true, false, true, false, true, false, true, false, true, false, true, false, true, false, true, false, true, false, true, false, true, false, true, false, false, true, true, false, true, true, true, true, true, true, true, true, true, true, true, true, true, true, true, true, true, true, false, true, false, true, false, true, false, true, false, true, false, true, false, true, false, true, false, true, false, true, false, true, false, true, false, true, false, false, true, true, false, true, true, true, true, false, true, true, true, true, true, true, true, true, true, true, true, true, true, false, true, false, true, false, true]
theorem mo_1 : zgm tables_1_1 mk_1 = true := by decide +kernel
theorem iw_1 {w : Cond} {j : Nat} (h : zget tables_1_1 j = some w) (g : zget mk_1 j = some true) : w ∈ ab_BIG := List.mem_filter.mpr ⟨List.mem_append_right _ (kw_1 h), zgood h g mo_1⟩
def mk_2 : List Bool := [false, true, false, true, false, true, false, true, false, true, false, true, false, true, false, true, false, false, true, true, true, false, true, true, true, true, true, true, true, true, true, true, true, true, true, true, false, true, false, true, false, true, false, true, false, true, false, true, false, true, false, true, false, false, true, true, false, true, true, true, true, true, true, true, true, true, true, false, true, false, true, false, true, false, true, false, true, false, false, true, true, false, true, true, true, true, true, true, true, true, true, true, false, true, false, true, false, true, false, true, false, true, false, false, true, true, true, true, true, true, true, true, true, true, false, false, true, true, true, true, true, true, true, true, true, true, true, true, true, false, true, false, true, false, true, false, true, false, true, false, true, false, true, false, true, false, true, false, true, false, true, false, false, true, true, true, true, true, true, true, true, false, true, true, true, true, true, true, true, true, true, true, true, true, true, true, true, true, true, true, true, true, true, false, true, true, true, true, true, true, true, true, true, true, true, true, true, true, true, true, true, true, true, true, true, true, true, true, true, true, true, true, true, true, true, false, true, true, true, false, true, true, true, true, true, true, true, true, true, true, true, true, true, true, true, true, true, true, true, true]
theorem mo_2 : zgm tables_1_2 mk_2 = true := by decide +kernel
theorem iw_2 {w : Cond} {j : Nat} (h : zget tables_1_2 j = some w) (g : zget mk_2 j = some true) : w ∈ ab_BIG := List.mem_filter.mpr ⟨List.mem_append_right _ (kw_2 h), zgood h g mo_2⟩
def mk_3 : List Bool := [true, true, true, true, true, true, true, true, false, true, true, true, true, true, false, true, true, true, true, true, true, true, true, true, true, true, true, true, true, true, true, true, true, true, true, true, true, true, true, true, true, true, true, true, true, true, true, true, false, true, true, true, true, false, true, true, true, false, true, true, true, true, false, true, true, true, false, true, true, true, true, true, true, true, true, true, true, true, true, true, true, true, true, true, true, true, true, true, true, true, true, true, true, true, true, true, true, true, true, true, true, true, true, true, true, true, false, true, true, true, false, true, true, true, false, true, true, true, false, true, true, true, true, true, true, true, false, true, true, true, true, true, true, true, true, true, true, false, true, true, true, true, true, false, true, true, true, false, true, true, true, false, true, true, true, false, true, true, true, false, true, true, true, true, true, true, true, true, true, true, true, true, true, true, true, true, true, true, true, true, true, true, true, true, true, true, true, true, true, true, true, true, true, true, true, true, true, true, true, true, true, true, true, true, true, true, true, true, true, true, true, true, true, true, true, true, true, true, true, true, true, true, true, true, true, true, true, true, true, true, true, true, true, true, true, false, true, true, true, false]
theorem mo_3 : zgm tables_1_3 mk_3 = true := by decide +kernel
theorem iw_3 {w : Cond} {j : Nat} (h : zget tables_1_3 j = some w) (g : zget mk_3 j = some true) : w ∈ ab_BIG := List.mem_filter.mpr ⟨List.mem_append_right _ (kw_3 h), zgood h g mo_3⟩
def mk_4 : List Bool := [true, true, true, false, true, true, true, false, true, true, true, true, false, true, true, true, false, true, true, true, false, true, true, true, false, true, true, true, true, true, false, true, true, true, true, true, true, true, true, true, true, true, true, true, true, true, true, true, true, true, true, true, true, true, true, true, true, true, true, true, true, true, true, true, true, true, true, true, true, true, true, true, true, true, true, true, true, true, true, true, true, true, true, true, true, true, true, true, true, true, true, true, true, true, true, true, true, true, true, true, false, true, true, true, true, true, true, true, true, true, true, true, true, false, true, true, true, true, true, true, true, true, true, true, true, true, true, true, true, false, true, true, true, true, true, true, true, true, false, true, true, true, true, true, true, true, true, true, true, true, true, true, true, true, true, true, true, true, true, true, true, true, true, true, true, true, true, true, true, true, true, true, true, true, true, true, true, true, true, true, true, true, true, true, false, true, true, true, true, true, false, true, true, true, false, true, true, true, true, false, true, true, true, false, true, true, true, true, true, true, true, true, true, true, true, true, true, true, true, true, true, true, true, true, true, true, true, true, true, true, true, true, true, true, true, true, true, true, true, true]
theorem mo_4 : zgm tables_1_4 mk_4 = true := by decide +kernel
theorem iw_4 {w : Cond} {j : Nat} (h : zget tables_1_4 j = some w) (g : zget mk_4 j = some true) : w ∈ ab_BIG := List.mem_filter.mpr ⟨List.mem_append_right _ (kw_4 h), zgood h g mo_4⟩
def mk_5 : List Bool := [true, true, true, false, true, true, true, true, false, true, true, true, true, true, true, true, true, true, true, true, true, true, false, true, true, true, true, true, true, true, true, true, true, true, false, true, true, true, true, true, true, true, true, true, true, true, true, true, true, true, true, true, true, true, true, true, true, true, true, true, true, true, true, true, true, true, true, true, true, true, true, true, true, true, true, true, true, true, true, true, true, true, true, true, true, true, true, true, true, true, true, true, true, true, true, true, true, true, true, true, true, true, true, true, true, true, true, true, true, true, true, true, true, true, true, true, true, true, true, true, true, true, false, true, true, true, true, false, true, true, true, true, true, true, true, false, false, false, false, false, false, false, true, true, true, true, true, true, true, true, true, true, true, true, true, false, true, true, true, true, false, true, false, true, true, false, false, true, false, true, true, true, false, true, true, true, true, true, true, true, true, true, true, true, true, true, true, true, true, true, false, false, false, false, true, false, false, false, true, true, true, true, true, true, true, true, true, true, true, true, true, false, true, true, true, true, true, true, true, true, true, true, true, true, true, true, true, true, true, true, true, true, true, true, true, true, true, true, true, true]
theorem mo_5 : zgm tables_1_5 mk_5 = true := by decide +kernel
theorem iw_5 {w : Cond} {j : Nat} (h : zget tables_1_5 j = some w) (g : zget mk_5 j = some true) : w ∈ ab_BIG := List.mem_filter.mpr ⟨List.mem_append_right _ (kw_5 h), zgood h g mo_5⟩
def mk_6 : List Bool := [true, true, true, true, true, true, true, true, true, true, true, true, true, true, true, true, true, true, true, true, true, true, true, true, true, true, true, true, true, true, true, true, true, true, true, true, true, true, true, true, true, true, true, false, true, false, true, false, true, false, true, false, true, false, true, false, true, false, true, false, true, false, true, false, true, false, true, false, true, false, true, false, true, false, true, false, true, false, true, false, true, false, true, false, true, false, true, false, true, false, true, false, true, false, true, false, true, false, true, false, true, false, true, false, true, false, true, false, true, false, true, false, true, false, true, false, true, false, true, false, true, false, true, false, true, false, true, false, true, false, true, false, true, false, true, false, true, false, true, false, true, false, true, false, true, false, true, false, true, false, true, false, true, false, true, false, true, false, true, false, true, false, true, false, true, false, true, false, true, false, true, false, true, false, true, false, true, false, false, true, true, true, true, true, true, true, true, true, true, true, false, true, true, true, true, true, true, true, true, true, true, false, true, true, true, true, true, true, true, true, true, true, true, true, true, true, true, false, true, true, true, true, true, true, true, false, true, true, true, false, true, true, true, false, true, true, true, false, true, true]
theorem mo_6 : zgm tables_1_6 mk_6 = true := by decide +kernel
theorem iw_6 {w : Cond} {j : Nat} (h : zget tables_1_6 j = some w) (g : zget mk_6 j = some true) : w ∈ ab_BIG := List.mem_filter.mpr ⟨List.mem_append_right _ (kw_6 h), zgood h g mo_6⟩
def mk_7 : List Bool := [true, true, true, true, true, false, true, true, true, true, true, true, true, false, true, true, true, false, true, true, true, false, true, true, true, false, true, true, true, true, true, true, true, true, true, true, true, true, true, true, true, true, true, true, true, true, true, true, false, true, true, true, false, true, true, true, false, true, true, true, false, true, true, true, false, true, true, true, false, true, true, true, true, true, true, true, true, true, true, true, true, true, true, true, true, true, true, true, true, true, true, true, false, true, true, true, false, true, true, true, false, true, true, true, false, true, true, true, true, true, true, true, true, true, true, true, true, true, true, true, true, true, true, true, true, true, true, true, false, true, true, true, false, true, true, true, true, true, true, true, false, true, true, true, true, true, true, true, true, true, true, true, true, true, true, true, true, false, true, true, true, false, true, true, true, true, true, false, true, true, true, true, true, true, true, true, true, true, true, true, true, true, true, true, true, false, true, true, true, false, true, true, true, false, true, true, true, true, true, true, true, true, true, true, true, true, true, true, true, true, true, true, true, false, true, true, true, false, true, true, true, true, true, true, true, true, true, true, true, true, true, true, true, true, true, true, true, true, true, true]
theorem mo_7 : zgm tables_1_7 mk_7 = true := by decide +kernel
theorem iw_7 {w : Cond} {j : Nat} (h : zget tables_1_7 j = some w) (g : zget mk_7 j = some true) : w ∈ ab_BIG := List.mem_filter.mpr ⟨List.mem_append_right _ (kw_7 h), zgood h g mo_7⟩
def mk_8 : List Bool := [true, true, true, true, true, true, true, true, false, true, true, true, true, true, true, true, true, true, true, false]
theorem mo_8 : zgm tables_1_8 mk_8 = true := by decide +kernel
theorem iw_8 {w : Cond} {j : Nat} (h : zget tables_1_8 j = some w) (g : zget mk_8 j = some true) : w ∈ ab_BIG := List.mem_filter.mpr ⟨List.mem_append_right _ (kw_8 h), zgood h g mo_8⟩
theorem ab_uws {C : String} {T : u_T} {N : Nat} (h : ∀ k ∈ List.range N, u_lay C T k ∈ ab_BIG) : ∀ w ∈ u_ws C T N, w ∈ ab_BIG := fun w hw => by obtain ⟨k, hk, rfl⟩ := List.mem_map.mp hw; exact h k hk
theorem inB0 : ∀ w ∈ u_ws RX0 TX0 9, w ∈ ab_BIG := ab_uws (show ∀ k ∈ [0, 1, 2, 3, 4, 5, 6, 7, 8], u_lay RX0 TX0 k ∈ ab_BIG from List.forall_mem_cons.mpr ⟨(iw_2 (j := 35) rfl rfl), List.forall_mem_cons.mpr ⟨(iw_2 (j := 37) rfl rfl), List.forall_mem_cons.mpr ⟨(iw_2 (j := 39) rfl rfl), List.forall_mem_cons.mpr ⟨(iw_2 (j := 41) rfl rfl), List.forall_mem_cons.mpr ⟨(iw_2 (j := 43) rfl rfl), List.forall_mem_cons.mpr ⟨(iw_2 (j := 45) rfl rfl), List.forall_mem_cons.mpr ⟨(iw_2 (j := 47) rfl rfl), List.forall_mem_cons.mpr ⟨(iw_2 (j := 49) rfl rfl), List.forall_mem_cons.mpr ⟨(iw_2 (j := 51) rfl rfl), fun _ h => absurd h List.not_mem_nil⟩⟩⟩⟩⟩⟩⟩⟩⟩)
theorem inB1 : ∀ w ∈ u_ws RX1 TX1 5, w ∈ ab_BIG := ab_uws (show ∀ k ∈ [0, 1, 2, 3, 4], u_lay RX1 TX1 k ∈ ab_BIG from List.forall_mem_cons.mpr ⟨(iw_1 (j := 79) rfl rfl), List.forall_mem_cons.mpr ⟨(iw_1 (j := 81) rfl rfl), List.forall_mem_cons.mpr ⟨(iw_1 (j := 83) rfl rfl), List.forall_mem_cons.mpr ⟨(iw_1 (j := 85) rfl rfl), List.forall_mem_cons.mpr ⟨(iw_1 (j := 87) rfl rfl), fun _ h => absurd h List.not_mem_nil⟩⟩⟩⟩⟩)
theorem inB2 : ∀ w ∈ u_ws RX2 TX2 1, w ∈ ab_BIG := ab_uws (show ∀ k ∈ [0], u_lay RX2 TX2 k ∈ ab_BIG from List.forall_mem_cons.mpr ⟨(iw_2 (j := 113) rfl rfl), fun _ h => absurd h List.not_mem_nil⟩)
theorem inB3 : ∀ w ∈ u_ws RX3 TX3 6, w ∈ ab_BIG := ab_uws (show ∀ k ∈ [0, 1, 2, 3, 4, 5], u_lay RX3 TX3 k ∈ ab_BIG from List.forall_mem_cons.mpr ⟨(iw_2 (j := 66) rfl rfl), List.forall_mem_cons.mpr ⟨(iw_2 (j := 68) rfl rfl), List.forall_mem_cons.mpr ⟨(iw_2 (j := 70) rfl rfl), List.forall_mem_cons.mpr ⟨(iw_2 (j := 72) rfl rfl), List.forall_mem_cons.mpr ⟨(iw_2 (j := 74) rfl rfl), List.forall_mem_cons.mpr ⟨(iw_2 (j := 76) rfl rfl), fun _ h => absurd h List.not_mem_nil⟩⟩⟩⟩⟩⟩)
theorem inB4 : ∀ w ∈ u_ws RX4 TX4 17, w ∈ ab_BIG := ab_uws (show ∀ k ∈ [0, 1, 2, 3, 4, 5, 6, 7, 8, 9, 10, 11, 12, 13, 14, 15, 16], u_lay RX4 TX4 k ∈ ab_BIG from List.forall_mem_cons.mpr ⟨(iw_1 (j := 129) rfl rfl), List.forall_mem_cons.mpr ⟨(iw_1 (j := 131) rfl rfl), List.forall_mem_cons.mpr ⟨(iw_1 (j := 133) rfl rfl), List.forall_mem_cons.mpr ⟨(iw_1 (j := 135) rfl rfl), List.forall_mem_cons.mpr ⟨(iw_1 (j := 137) rfl rfl), List.forall_mem_cons.mpr ⟨(iw_1 (j := 139) rfl rfl), List.forall_mem_cons.mpr ⟨(iw_1 (j := 141) rfl rfl), List.forall_mem_cons.mpr ⟨(iw_1 (j := 143) rfl rfl), List.forall_mem_cons.mpr ⟨(iw_1 (j := 145) rfl rfl), List.forall_mem_cons.mpr ⟨(iw_1 (j := 147) rfl rfl), List.forall_mem_cons.mpr ⟨(iw_1 (j := 149) rfl rfl), List.forall_mem_cons.mpr ⟨(iw_1 (j := 151) rfl rfl), List.forall_mem_cons.mpr ⟨(iw_1 (j := 153) rfl rfl), List.forall_mem_cons.mpr ⟨(iw_1 (j := 155) rfl rfl), List.forall_mem_cons.mpr ⟨(iw_1 (j := 157) rfl rfl), List.forall_mem_cons.mpr ⟨(iw_1 (j := 159) rfl rfl), List.forall_mem_cons.mpr ⟨(iw_1 (j := 161) rfl rfl), fun _ h => absurd h List.not_mem_nil⟩⟩⟩⟩⟩⟩⟩⟩⟩⟩⟩⟩⟩⟩⟩⟩⟩)
theorem inB5 : ∀ w ∈ u_ws RX5 TX5 6, w ∈ ab_BIG := ab_uws (show ∀ k ∈ [0, 1, 2, 3, 4, 5], u_lay RX5 TX5 k ∈ ab_BIG from List.forall_mem_cons.mpr ⟨(iw_2 (j := 91) rfl rfl), List.forall_mem_cons.mpr ⟨(iw_2 (j := 93) rfl rfl), List.forall_mem_cons.mpr ⟨(iw_2 (j := 95) rfl rfl), List.forall_mem_cons.mpr ⟨(iw_2 (j := 97) rfl rfl), List.forall_mem_cons.mpr ⟨(iw_2 (j := 99) rfl rfl), List.forall_mem_cons.mpr ⟨(iw_2 (j := 101) rfl rfl), fun _ h => absurd h List.not_mem_nil⟩⟩⟩⟩⟩⟩)
theorem inB6 : ∀ w ∈ u_ws RX6 TX6 12, w ∈ ab_BIG := ab_uws (show ∀ k ∈ [0, 1, 2, 3, 4, 5, 6, 7, 8, 9, 10, 11], u_lay RX6 TX6 k ∈ ab_BIG from List.forall_mem_cons.mpr ⟨(iw_1 (j := 233) rfl rfl), List.forall_mem_cons.mpr ⟨(iw_1 (j := 235) rfl rfl), List.forall_mem_cons.mpr ⟨(iw_1 (j := 237) rfl rfl), List.forall_mem_cons.mpr ⟨(iw_1 (j := 239) rfl rfl), List.forall_mem_cons.mpr ⟨(iw_2 (j := 1) rfl rfl), List.forall_mem_cons.mpr ⟨(iw_2 (j := 3) rfl rfl), List.forall_mem_cons.mpr ⟨(iw_2 (j := 5) rfl rfl), List.forall_mem_cons.mpr ⟨(iw_2 (j := 7) rfl rfl), List.forall_mem_cons.mpr ⟨(iw_2 (j := 9) rfl rfl), List.forall_mem_cons.mpr ⟨(iw_2 (j := 11) rfl rfl), List.forall_mem_cons.mpr ⟨(iw_2 (j := 13) rfl rfl), List.forall_mem_cons.mpr ⟨(iw_2 (j := 15) rfl rfl), fun _ h => absurd h List.not_mem_nil⟩⟩⟩⟩⟩⟩⟩⟩⟩⟩⟩⟩)
theorem inB7 : ∀ w ∈ u_ws RX7 TX7 2, w ∈ ab_BIG := ab_uws (show ∀ k ∈ [0, 1], u_lay RX7 TX7 k ∈ ab_BIG from List.forall_mem_cons.mpr ⟨(iw_1 (j := 62) rfl rfl), List.forall_mem_cons.mpr ⟨(iw_1 (j := 64) rfl rfl), fun _ h => absurd h List.not_mem_nil⟩⟩)
theorem inB8 : ∀ w ∈ u_ws RX8 TX8 4, w ∈ ab_BIG := ab_uws (show ∀ k ∈ [0, 1, 2, 3], u_lay RX8 TX8 k ∈ ab_BIG from List.forall_mem_cons.mpr ⟨(iw_1 (j := 43) rfl rfl), List.forall_mem_cons.mpr ⟨(iw_1 (j := 45) rfl rfl), List.forall_mem_cons.mpr ⟨(iw_1 (j := 47) rfl rfl), List.forall_mem_cons.mpr ⟨(iw_1 (j := 49) rfl rfl), fun _ h => absurd h List.not_mem_nil⟩⟩⟩⟩)
theorem inB9 : ∀ w ∈ u_ws RX9 TX9 14, w ∈ ab_BIG := ab_uws (show ∀ k ∈ [0, 1, 2, 3, 4, 5, 6, 7, 8, 9, 10, 11, 12, 13], u_lay RX9 TX9 k ∈ ab_BIG from List.forall_mem_cons.mpr ⟨(iw_1 (j := 184) rfl rfl), List.forall_mem_cons.mpr ⟨(iw_1 (j := 186) rfl rfl), List.forall_mem_cons.mpr ⟨(iw_1 (j := 188) rfl rfl), List.forall_mem_cons.mpr ⟨(iw_1 (j := 190) rfl rfl), List.forall_mem_cons.mpr ⟨(iw_1 (j := 192) rfl rfl), List.forall_mem_cons.mpr ⟨(iw_1 (j := 194) rfl rfl), List.forall_mem_cons.mpr ⟨(iw_1 (j := 196) rfl rfl), List.forall_mem_cons.mpr ⟨(iw_1 (j := 198) rfl rfl), List.forall_mem_cons.mpr ⟨(iw_1 (j := 200) rfl rfl), List.forall_mem_cons.mpr ⟨(iw_1 (j := 202) rfl rfl), List.forall_mem_cons.mpr ⟨(iw_1 (j := 204) rfl rfl), List.forall_mem_cons.mpr ⟨(iw_1 (j := 206) rfl rfl), List.forall_mem_cons.mpr ⟨(iw_1 (j := 208) rfl rfl), List.forall_mem_cons.mpr ⟨(iw_1 (j := 210) rfl rfl), fun _ h => absurd h List.not_mem_nil⟩⟩⟩⟩⟩⟩⟩⟩⟩⟩⟩⟩⟩⟩)
theorem inB10 : ∀ w ∈ u_ws RX10 TX10 12, w ∈ ab_BIG := ab_uws (show ∀ k ∈ [0, 1, 2, 3, 4, 5, 6, 7, 8, 9, 10, 11], u_lay RX10 TX10 k ∈ ab_BIG from List.forall_mem_cons.mpr ⟨(iw_2 (j := 128) rfl rfl), List.forall_mem_cons.mpr ⟨(iw_2 (j := 130) rfl rfl), List.forall_mem_cons.mpr ⟨(iw_2 (j := 132) rfl rfl), List.forall_mem_cons.mpr ⟨(iw_2 (j := 134) rfl rfl), List.forall_mem_cons.mpr ⟨(iw_2 (j := 136) rfl rfl), List.forall_mem_cons.mpr ⟨(iw_2 (j := 138) rfl rfl), List.forall_mem_cons.mpr ⟨(iw_2 (j := 140) rfl rfl), List.forall_mem_cons.mpr ⟨(iw_2 (j := 142) rfl rfl), List.forall_mem_cons.mpr ⟨(iw_2 (j := 144) rfl rfl), List.forall_mem_cons.mpr ⟨(iw_2 (j := 146) rfl rfl), List.forall_mem_cons.mpr ⟨(iw_2 (j := 148) rfl rfl), List.forall_mem_cons.mpr ⟨(iw_2 (j := 150) rfl rfl), fun _ h => absurd h List.not_mem_nil⟩⟩⟩⟩⟩⟩⟩⟩⟩⟩⟩⟩)
theorem inB11 : ∀ w ∈ u_ws RX11 TX11 68, w ∈ ab_BIG := ab_uws (show ∀ k ∈ [0, 1, 2, 3, 4, 5, 6, 7, 8, 9, 10, 11, 12, 13, 14, 15, 16, 17, 18, 19, 20, 21, 22, 23, 24, 25, 26, 27, 28, 29, 30, 31, 32, 33, 34, 35, 36, 37, 38, 39, 40, 41, 42, 43, 44, 45, 46, 47, 48, 49, 50, 51, 52, 53, 54, 55, 56, 57, 58, 59, 60, 61, 62, 63, 64, 65, 66, 67], u_lay RX11 TX11 k ∈ ab_BIG from List.forall_mem_cons.mpr ⟨(iw_6 (j := 42) rfl rfl), List.forall_mem_cons.mpr ⟨(iw_6 (j := 44) rfl rfl), List.forall_mem_cons.mpr ⟨(iw_6 (j := 46) rfl rfl), List.forall_mem_cons.mpr ⟨(iw_6 (j := 48) rfl rfl), List.forall_mem_cons.mpr ⟨(iw_6 (j := 50) rfl rfl), List.forall_mem_cons.mpr ⟨(iw_6 (j := 52) rfl rfl), List.forall_mem_cons.mpr ⟨(iw_6 (j := 54) rfl rfl), List.forall_mem_cons.mpr ⟨(iw_6 (j := 56) rfl rfl), List.forall_mem_cons.mpr ⟨(iw_6 (j := 58) rfl rfl), List.forall_mem_cons.mpr ⟨(iw_6 (j := 60) rfl rfl), List.forall_mem_cons.mpr ⟨(iw_6 (j := 62) rfl rfl), List.forall_mem_cons.mpr ⟨(iw_6 (j := 64) rfl rfl), List.forall_mem_cons.mpr ⟨(iw_6 (j := 66) rfl rfl), List.forall_mem_cons.mpr ⟨(iw_6 (j := 68) rfl rfl), List.forall_mem_cons.mpr ⟨(iw_6 (j := 70) rfl rfl), List.forall_mem_cons.mpr ⟨(iw_6 (j := 72) rfl rfl), List.forall_mem_cons.mpr ⟨(iw_6 (j := 74) rfl rfl), List.forall_mem_cons.mpr ⟨(iw_6 (j := 76) rfl rfl), List.forall_mem_cons.mpr ⟨(iw_6 (j := 78) rfl rfl), List.forall_mem_cons.mpr ⟨(iw_6 (j := 80) rfl rfl), List.forall_mem_cons.mpr ⟨(iw_6 (j := 82) rfl rfl), List.forall_mem_cons.mpr ⟨(iw_6 (j := 84) rfl rfl), List.forall_mem_cons.mpr ⟨(iw_6 (j := 86) rfl rfl), List.forall_mem_cons.mpr ⟨(iw_6 (j := 88) rfl rfl), List.forall_mem_cons.mpr ⟨(iw_6 (j := 90) rfl rfl), List.forall_mem_cons.mpr ⟨(iw_6 (j := 92) rfl rfl), List.forall_mem_cons.mpr ⟨(iw_6 (j := 94) rfl rfl), List.forall_mem_cons.mpr ⟨(iw_6 (j := 96) rfl rfl), List.forall_mem_cons.mpr ⟨(iw_6 (j := 98) rfl rfl), List.forall_mem_cons.mpr ⟨(iw_6 (j := 100) rfl rfl), List.forall_mem_cons.mpr ⟨(iw_6 (j := 102) rfl rfl), List.forall_mem_cons.mpr ⟨(iw_6 (j := 104) rfl rfl), List.forall_mem_cons.mpr ⟨(iw_6 (j := 106) rfl rfl), List.forall_mem_cons.mpr ⟨(iw_6 (j := 108) rfl rfl), List.forall_mem_cons.mpr ⟨(iw_6 (j := 110) rfl rfl), List.forall_mem_cons.mpr ⟨(iw_6 (j := 112) rfl rfl), List.forall_mem_cons.mpr ⟨(iw_6 (j := 114) rfl rfl), List.forall_mem_cons.mpr ⟨(iw_6 (j := 116) rfl rfl), List.forall_mem_cons.mpr ⟨(iw_6 (j := 118) rfl rfl), List.forall_mem_cons.mpr ⟨(iw_6 (j := 120) rfl rfl), List.forall_mem_cons.mpr ⟨(iw_6 (j := 122) rfl rfl), List.forall_mem_cons.mpr ⟨(iw_6 (j := 124) rfl rfl), List.forall_mem_cons.mpr ⟨(iw_6 (j := 126) rfl rfl), List.forall_mem_cons.mpr ⟨(iw_6 (j := 128) rfl rfl), List.forall_mem_cons.mpr ⟨(iw_6 (j := 130) rfl rfl), List.forall_mem_cons.mpr ⟨(iw_6 (j := 132) rfl rfl), List.forall_mem_cons.mpr ⟨(iw_6 (j := 134) rfl rfl), List.forall_mem_cons.mpr ⟨(iw_6 (j := 136) rfl rfl), List.forall_mem_cons.mpr ⟨(iw_6 (j := 138) rfl rfl), List.forall_mem_cons.mpr ⟨(iw_6 (j := 140) rfl rfl), List.forall_mem_cons.mpr ⟨(iw_6 (j := 142) rfl rfl), List.forall_mem_cons.mpr ⟨(iw_6 (j := 144) rfl rfl), List.forall_mem_cons.mpr ⟨(iw_6 (j := 146) rfl rfl), List.forall_mem_cons.mpr ⟨(iw_6 (j := 148) rfl rfl), List.forall_mem_cons.mpr ⟨(iw_6 (j := 150) rfl rfl), List.forall_mem_cons.mpr ⟨(iw_6 (j := 152) rfl rfl), List.forall_mem_cons.mpr ⟨(iw_6 (j := 154) rfl rfl), List.forall_mem_cons.mpr ⟨(iw_6 (j := 156) rfl rfl), List.forall_mem_cons.mpr ⟨(iw_6 (j := 158) rfl rfl), List.forall_mem_cons.mpr ⟨(iw_6 (j := 160) rfl rfl), List.forall_mem_cons.mpr ⟨(iw_6 (j := 162) rfl rfl), List.forall_mem_cons.mpr ⟨(iw_6 (j := 164) rfl rfl), List.forall_mem_cons.mpr ⟨(iw_6 (j := 166) rfl rfl), List.forall_mem_cons.mpr ⟨(iw_6 (j := 168) rfl rfl), List.forall_mem_cons.mpr ⟨(iw_6 (j := 170) rfl rfl), List.forall_mem_cons.mpr ⟨(iw_6 (j := 172) rfl rfl), List.forall_mem_cons.mpr ⟨(iw_6 (j := 174) rfl rfl), List.forall_mem_cons.mpr ⟨(iw_6 (j := 176) rfl rfl), fun _ h => absurd h List.not_mem_nil⟩⟩⟩⟩⟩⟩⟩⟩⟩⟩⟩⟩⟩⟩⟩⟩⟩⟩⟩⟩⟩⟩⟩⟩⟩⟩⟩⟩⟩⟩⟩⟩⟩⟩⟩⟩⟩⟩⟩⟩⟩⟩⟩⟩⟩⟩⟩⟩⟩⟩⟩⟩⟩⟩⟩⟩⟩⟩⟩⟩⟩⟩⟩⟩⟩⟩⟩⟩)
end
