def RX0 : String := "BeastCave$Ahead"
def TX0 : u_T := fun k => match k with
  | 0 => ("BeastCave$Ahead", "row", "[I", true)
  | 1 => ("BeastCave$Ahead", "most", "[I", true)
  | _ => ("BeastCave$Ahead", "first", "[I", true)
def tyX0 : Nat → FieldType := fun k => match k with
  | 0 => .array .int
  | 1 => .array .int
  | _ => .array .int
abbrev wsX00 : List Cond := u_ws RX0 TX0 3
theorem nmX0 : ∀ a, a < 3 → ∀ b, b < 3 → a ≠ b → (TX0 a).2.1 ≠ (TX0 b).2.1 := by decide +kernel
theorem tyX0_ok : ∀ k, k < 3 → parseFieldDescriptor (TX0 k).2.2.1 = some (tyX0 k) := by decide +kernel
def RX1 : String := "BeastCave$Beasts"
def TX1 : u_T := fun k => match k with
  | 0 => ("BeastCave$Beasts", "count", "I", false)
  | _ => ("BeastCave$Beasts", "weights", "[I", true)
def tyX1 : Nat → FieldType := fun k => match k with
  | 0 => .int
  | _ => .array .int
abbrev wsX10 : List Cond := u_ws RX1 TX1 2
theorem nmX1 : ∀ a, a < 2 → ∀ b, b < 2 → a ≠ b → (TX1 a).2.1 ≠ (TX1 b).2.1 := by decide +kernel
theorem tyX1_ok : ∀ k, k < 2 → parseFieldDescriptor (TX1 k).2.2.1 = some (tyX1 k) := by decide +kernel
def RX2 : String := "BeastCave$Cave"
def TX2 : u_T := fun k => match k with
  | 0 => ("BeastCave$Cave", "lamp", "I", false)
  | 1 => ("BeastCave$Cave", "odds", "I", false)
  | 2 => ("BeastCave$Cave", "minutes", "I", false)
  | 3 => ("BeastCave$Cave", "visitors", "I", false)
  | 4 => ("BeastCave$Cave", "beasts", "LBeastCave$Beasts;", true)
  | 5 => ("BeastCave$Cave", "walls", "LBeastCave$Walls;", true)
  | 6 => ("BeastCave$Cave", "figures", "LBeastCave$Figures;", true)
  | 7 => ("BeastCave$Cave", "selves", "[I", true)
  | 8 => ("BeastCave$Cave", "places", "[I", true)
  | 9 => ("BeastCave$Cave", "toGo", "[I", true)
  | 10 => ("BeastCave$Cave", "measures", "[I", true)
  | 11 => ("BeastCave$Cave", "names", "I", false)
  | 12 => ("BeastCave$Cave", "nameCodes", "[J", true)
  | 13 => ("BeastCave$Cave", "nameKinds", "[I", true)
  | _ => ("BeastCave$Cave", "nameNumbers", "[I", true)
def tyX2 : Nat → FieldType := fun k => match k with
  | 0 => .int
  | 1 => .int
  | 2 => .int
  | 3 => .int
  | 4 => .object "BeastCave$Beasts"
  | 5 => .object "BeastCave$Walls"
  | 6 => .object "BeastCave$Figures"
  | 7 => .array .int
  | 8 => .array .int
  | 9 => .array .int
  | 10 => .array .int
  | 11 => .int
  | 12 => .array .long
  | 13 => .array .int
  | _ => .array .int
abbrev wsX20 : List Cond := u_ws RX2 TX2 15
theorem nmX2 : ∀ a, a < 15 → ∀ b, b < 15 → a ≠ b → (TX2 a).2.1 ≠ (TX2 b).2.1 := by decide +kernel
theorem tyX2_ok : ∀ k, k < 15 → parseFieldDescriptor (TX2 k).2.2.1 = some (tyX2 k) := by decide +kernel
def RX3 : String := "BeastCave$Days"
def TX3 : u_T := fun k => match k with
  | 0 => ("BeastCave$Days", "isTold", "Z", false)
  | 1 => ("BeastCave$Days", "steps", "I", false)
  | 2 => ("BeastCave$Days", "lines", "I", false)
  | 3 => ("BeastCave$Days", "kinds", "[I", true)
  | 4 => ("BeastCave$Days", "tests", "[I", true)
  | 5 => ("BeastCave$Days", "visitors", "[I", true)
  | 6 => ("BeastCave$Days", "numbers", "[I", true)
  | _ => ("BeastCave$Days", "partners", "[I", true)
def tyX3 : Nat → FieldType := fun k => match k with
  | 0 => .boolean
  | 1 => .int
  | 2 => .int
  | 3 => .array .int
  | 4 => .array .int
  | 5 => .array .int
  | 6 => .array .int
  | _ => .array .int
abbrev wsX30 : List Cond := u_ws RX3 TX3 8
theorem nmX3 : ∀ a, a < 8 → ∀ b, b < 8 → a ≠ b → (TX3 a).2.1 ≠ (TX3 b).2.1 := by decide +kernel
theorem tyX3_ok : ∀ k, k < 8 → parseFieldDescriptor (TX3 k).2.2.1 = some (tyX3 k) := by decide +kernel
def RX4 : String := "BeastCave$Figures"
def TX4 : u_T := fun k => match k with
  | 0 => ("BeastCave$Figures", "count", "I", false)
  | 1 => ("BeastCave$Figures", "beast", "[I", true)
  | 2 => ("BeastCave$Figures", "style", "[I", true)
  | 3 => ("BeastCave$Figures", "other", "[I", true)
  | _ => ("BeastCave$Figures", "over", "[I", true)
def tyX4 : Nat → FieldType := fun k => match k with
  | 0 => .int
  | 1 => .array .int
  | 2 => .array .int
  | 3 => .array .int
  | _ => .array .int
abbrev wsX40 : List Cond := u_ws RX4 TX4 5
theorem nmX4 : ∀ a, a < 5 → ∀ b, b < 5 → a ≠ b → (TX4 a).2.1 ≠ (TX4 b).2.1 := by decide +kernel
theorem tyX4_ok : ∀ k, k < 5 → parseFieldDescriptor (TX4 k).2.2.1 = some (tyX4 k) := by decide +kernel
def RX5 : String := "BeastCave$Life"
def TX5 : u_T := fun k => match k with
  | 0 => ("BeastCave$Life", "steps", "I", false)
  | 1 => ("BeastCave$Life", "missed", "I", false)
  | 2 => ("BeastCave$Life", "minutes", "I", false)
  | 3 => ("BeastCave$Life", "led", "I", false)
  | 4 => ("BeastCave$Life", "turned", "I", false)
  | 5 => ("BeastCave$Life", "left", "I", false)
  | 6 => ("BeastCave$Life", "cave", "LBeastCave$Cave;", false)
  | 7 => ("BeastCave$Life", "days", "LBeastCave$Days;", false)
  | 8 => ("BeastCave$Life", "seed", "I", false)
  | _ => ("BeastCave$Life", "rounds", "[I", true)
def tyX5 : Nat → FieldType := fun k => match k with
  | 0 => .int
  | 1 => .int
  | 2 => .int
  | 3 => .int
  | 4 => .int
  | 5 => .int
  | 6 => .object "BeastCave$Cave"
  | 7 => .object "BeastCave$Days"
  | 8 => .int
  | _ => .array .int
abbrev wsX50 : List Cond := u_ws RX5 TX5 10
theorem nmX5 : ∀ a, a < 10 → ∀ b, b < 10 → a ≠ b → (TX5 a).2.1 ≠ (TX5 b).2.1 := by decide +kernel
theorem tyX5_ok : ∀ k, k < 10 → parseFieldDescriptor (TX5 k).2.2.1 = some (tyX5 k) := by decide +kernel
def RX6 : String := "BeastCave$Reader"
def TX6 : u_T := fun k => match k with
  | 0 => ("BeastCave$Reader", "text", "LBeastCave$Text;", true)
  | 1 => ("BeastCave$Reader", "cave", "LBeastCave$Cave;", false)
  | 2 => ("BeastCave$Reader", "days", "LBeastCave$Days;", false)
  | 3 => ("BeastCave$Reader", "lampTold", "Z", false)
  | 4 => ("BeastCave$Reader", "oddsTold", "Z", false)
  | 5 => ("BeastCave$Reader", "found", "[I", true)
  | 6 => ("BeastCave$Reader", "depth", "I", false)
  | 7 => ("BeastCave$Reader", "open", "[I", true)
  | _ => ("BeastCave$Reader", "test", "I", false)
def tyX6 : Nat → FieldType := fun k => match k with
  | 0 => .object "BeastCave$Text"
  | 1 => .object "BeastCave$Cave"
  | 2 => .object "BeastCave$Days"
  | 3 => .boolean
  | 4 => .boolean
  | 5 => .array .int
  | 6 => .int
  | 7 => .array .int
  | _ => .int
abbrev wsX60 : List Cond := u_ws RX6 TX6 9
theorem nmX6 : ∀ a, a < 9 → ∀ b, b < 9 → a ≠ b → (TX6 a).2.1 ≠ (TX6 b).2.1 := by decide +kernel
theorem tyX6_ok : ∀ k, k < 9 → parseFieldDescriptor (TX6 k).2.2.1 = some (tyX6 k) := by decide +kernel
def RX7 : String := "BeastCave$Search"
def TX7 : u_T := fun k => match k with
  | 0 => ("BeastCave$Search", "bestTime", "I", false)
  | 1 => ("BeastCave$Search", "bestOrder", "[I", true)
  | 2 => ("BeastCave$Search", "firstMove", "I", false)
  | 3 => ("BeastCave$Search", "order", "[I", true)
  | 4 => ("BeastCave$Search", "rows", "[I", true)
  | 5 => ("BeastCave$Search", "pulls", "[I", true)
  | 6 => ("BeastCave$Search", "walls", "LBeastCave$Walls;", false)
  | 7 => ("BeastCave$Search", "self", "I", false)
  | 8 => ("BeastCave$Search", "lamp", "I", false)
  | 9 => ("BeastCave$Search", "stay", "I", false)
  | _ => ("BeastCave$Search", "turns", "I", false)
def tyX7 : Nat → FieldType := fun k => match k with
  | 0 => .int
  | 1 => .array .int
  | 2 => .int
  | 3 => .array .int
  | 4 => .array .int
  | 5 => .array .int
  | 6 => .object "BeastCave$Walls"
  | 7 => .int
  | 8 => .int
  | 9 => .int
  | _ => .int
abbrev wsX70 : List Cond := u_ws RX7 TX7 11
theorem nmX7 : ∀ a, a < 11 → ∀ b, b < 11 → a ≠ b → (TX7 a).2.1 ≠ (TX7 b).2.1 := by decide +kernel
theorem tyX7_ok : ∀ k, k < 11 → parseFieldDescriptor (TX7 k).2.2.1 = some (tyX7 k) := by decide +kernel
def RX8 : String := "BeastCave$Text"
def TX8 : u_T := fun k => match k with
  | 0 => ("BeastCave$Text", "size", "I", false)
  | 1 => ("BeastCave$Text", "fault", "I", false)
  | 2 => ("BeastCave$Text", "faultPlace", "I", false)
  | 3 => ("BeastCave$Text", "number", "I", false)
  | 4 => ("BeastCave$Text", "keyword", "I", false)
  | 5 => ("BeastCave$Text", "code", "J", false)
  | 6 => ("BeastCave$Text", "sign", "I", false)
  | 7 => ("BeastCave$Text", "tape", "[B", true)
  | 8 => ("BeastCave$Text", "reservedCodes", "[J", true)
  | 9 => ("BeastCave$Text", "end", "I", false)
  | 10 => ("BeastCave$Text", "next", "I", false)
  | 11 => ("BeastCave$Text", "place", "I", false)
  | 12 => ("BeastCave$Text", "sort", "I", false)
  | 13 => ("BeastCave$Text", "letters", "I", false)
  | _ => ("BeastCave$Text", "value", "I", false)
def tyX8 : Nat → FieldType := fun k => match k with
  | 0 => .int
  | 1 => .int
  | 2 => .int
  | 3 => .int
  | 4 => .int
  | 5 => .long
  | 6 => .int
  | 7 => .array .byte
  | 8 => .array .long
  | 9 => .int
  | 10 => .int
  | 11 => .int
  | 12 => .int
  | 13 => .int
  | _ => .int
abbrev wsX80 : List Cond := u_ws RX8 TX8 15
theorem nmX8 : ∀ a, a < 15 → ∀ b, b < 15 → a ≠ b → (TX8 a).2.1 ≠ (TX8 b).2.1 := by decide +kernel
theorem tyX8_ok : ∀ k, k < 15 → parseFieldDescriptor (TX8 k).2.2.1 = some (tyX8 k) := by decide +kernel
def RX9 : String := "BeastCave$Trays"
def TX9 : u_T := fun k => match k with
  | 0 => ("BeastCave$Trays", "sorts", "[I", true)
  | 1 => ("BeastCave$Trays", "sizes", "[I", true)
  | _ => ("BeastCave$Trays", "cells", "[J", true)
def tyX9 : Nat → FieldType := fun k => match k with
  | 0 => .array .int
  | 1 => .array .int
  | _ => .array .long
abbrev wsX90 : List Cond := u_ws RX9 TX9 3
theorem nmX9 : ∀ a, a < 3 → ∀ b, b < 3 → a ≠ b → (TX9 a).2.1 ≠ (TX9 b).2.1 := by decide +kernel
theorem tyX9_ok : ∀ k, k < 3 → parseFieldDescriptor (TX9 k).2.2.1 = some (tyX9 k) := by decide +kernel
def RX10 : String := "BeastCave$Walls"
def TX10 : u_T := fun k => match k with
  | 0 => ("BeastCave$Walls", "count", "I", false)
  | 1 => ("BeastCave$Walls", "ways", "I", false)
  | 2 => ("BeastCave$Walls", "beast", "[I", true)
  | 3 => ("BeastCave$Walls", "pull", "[I", true)
  | 4 => ("BeastCave$Walls", "direct", "[I", true)
  | _ => ("BeastCave$Walls", "distance", "[I", true)
def tyX10 : Nat → FieldType := fun k => match k with
  | 0 => .int
  | 1 => .int
  | 2 => .array .int
  | 3 => .array .int
  | 4 => .array .int
  | _ => .array .int
abbrev wsX100 : List Cond := u_ws RX10 TX10 6
theorem nmX10 : ∀ a, a < 6 → ∀ b, b < 6 → a ≠ b → (TX10 a).2.1 ≠ (TX10 b).2.1 := by decide +kernel
theorem tyX10_ok : ∀ k, k < 6 → parseFieldDescriptor (TX10 k).2.2.1 = some (tyX10 k) := by decide +kernel
def RX11 : String := "BeastCave"
def TX11 : u_T := fun k => match k with
  | 0 => ("BeastCave", "state", "I", false)
  | 1 => ("BeastCave", "fractionTop", "J", false)
  | 2 => ("BeastCave", "fractionBottom", "J", false)
  | 3 => ("BeastCave", "hasLived", "Z", false)
  | 4 => ("BeastCave", "livedLast", "[I", true)
  | 5 => ("BeastCave", "trays", "LBeastCave$Trays;", true)
  | 6 => ("BeastCave", "text", "LBeastCave$Text;", true)
  | 7 => ("BeastCave", "reader", "LBeastCave$Reader;", true)
  | 8 => ("BeastCave", "life", "LBeastCave$Life;", true)
  | 9 => ("BeastCave", "ahead", "LBeastCave$Ahead;", true)
  | 10 => ("BeastCave", "search", "LBeastCave$Search;", true)
  | 11 => ("BeastCave", "table", "[I", true)
  | 12 => ("BeastCave", "now", "LBeastCave$Cave;", false)
  | 13 => ("BeastCave", "spare", "LBeastCave$Cave;", false)
  | 14 => ("BeastCave", "plan", "LBeastCave$Days;", false)
  | 15 => ("BeastCave", "sparePlan", "LBeastCave$Days;", false)
  | 16 => ("BeastCave", "marks", "I", false)
  | 17 => ("BeastCave", "markedCaves", "[LBeastCave$Cave;", true)
  | _ => ("BeastCave", "markedPlans", "[LBeastCave$Days;", true)
def tyX11 : Nat → FieldType := fun k => match k with
  | 0 => .int
  | 1 => .long
  | 2 => .long
  | 3 => .boolean
  | 4 => .array .int
  | 5 => .object "BeastCave$Trays"
  | 6 => .object "BeastCave$Text"
  | 7 => .object "BeastCave$Reader"
  | 8 => .object "BeastCave$Life"
  | 9 => .object "BeastCave$Ahead"
  | 10 => .object "BeastCave$Search"
  | 11 => .array .int
  | 12 => .object "BeastCave$Cave"
  | 13 => .object "BeastCave$Cave"
  | 14 => .object "BeastCave$Days"
  | 15 => .object "BeastCave$Days"
  | 16 => .int
  | 17 => .array (.object "BeastCave$Cave")
  | _ => .array (.object "BeastCave$Days")
abbrev wsX110 : List Cond := u_ws RX11 TX11 19
theorem nmX11 : ∀ a, a < 19 → ∀ b, b < 19 → a ≠ b → (TX11 a).2.1 ≠ (TX11 b).2.1 := by decide +kernel
theorem tyX11_ok : ∀ k, k < 19 → parseFieldDescriptor (TX11 k).2.2.1 = some (tyX11 k) := by decide +kernel
def RX12 : String := "BeastCaveModel"
def TX12 : u_T := fun k => match k with
  | 0 => ("BeastCaveModel", "at", "[I", true)
  | 1 => ("BeastCaveModel", "names", "[J", true)
  | 2 => ("BeastCaveModel", "status", "I", false)
  | 3 => ("BeastCaveModel", "top", "J", false)
  | 4 => ("BeastCaveModel", "bottom", "J", false)
  | 5 => ("BeastCaveModel", "sort", "[I", true)
  | 6 => ("BeastCaveModel", "trayMany", "[I", true)
  | 7 => ("BeastCaveModel", "trays", "[J", true)
  | 8 => ("BeastCaveModel", "tape", "[B", true)
  | 9 => ("BeastCaveModel", "text", "[B", true)
  | 10 => ("BeastCaveModel", "taped", "I", false)
  | 11 => ("BeastCaveModel", "size", "I", false)
  | 12 => ("BeastCaveModel", "token", "I", false)
  | 13 => ("BeastCaveModel", "from", "I", false)
  | 14 => ("BeastCaveModel", "end", "I", false)
  | 15 => ("BeastCaveModel", "value", "I", false)
  | 16 => ("BeastCaveModel", "faultKind", "I", false)
  | 17 => ("BeastCaveModel", "faultPlace", "I", false)
  | 18 => ("BeastCaveModel", "faults", "I", false)
  | 19 => ("BeastCaveModel", "seen", "I", false)
  | 20 => ("BeastCaveModel", "toldParts", "I", false)
  | 21 => ("BeastCaveModel", "opened", "[I", true)
  | 22 => ("BeastCaveModel", "depth", "I", false)
  | 23 => ("BeastCaveModel", "counted", "I", false)
  | 24 => ("BeastCaveModel", "farBy", "[I", true)
  | 25 => ("BeastCaveModel", "triedAt", "[I", true)
  | 26 => ("BeastCaveModel", "cameBy", "[I", true)
  | 27 => ("BeastCaveModel", "tourBy", "[I", true)
  | 28 => ("BeastCaveModel", "tourMinutes", "I", false)
  | 29 => ("BeastCaveModel", "waysBy", "[I", true)
  | 30 => ("BeastCaveModel", "handsBy", "[I", true)
  | 31 => ("BeastCaveModel", "rowsBy", "[J", true)
  | 32 => ("BeastCaveModel", "moreBy", "[J", true)
  | 33 => ("BeastCaveModel", "greatBy", "[I", true)
  | 34 => ("BeastCaveModel", "mostBy", "[I", true)
  | 35 => ("BeastCaveModel", "beastBy", "[I", true)
  | 36 => ("BeastCaveModel", "fitsBy", "[Z", true)
  | 37 => ("BeastCaveModel", "fitMany", "I", false)
  | 38 => ("BeastCaveModel", "seenBy", "[I", true)
  | 39 => ("BeastCaveModel", "doneAt", "[I", true)
  | 40 => ("BeastCaveModel", "gotAt", "[I", true)
  | 41 => ("BeastCaveModel", "bestDeed", "[I", true)
  | 42 => ("BeastCaveModel", "litBy", "[J", true)
  | 43 => ("BeastCaveModel", "drawn", "I", false)
  | 44 => ("BeastCaveModel", "ranSteps", "I", false)
  | 45 => ("BeastCaveModel", "loops", "[I", true)
  | 46 => ("BeastCaveModel", "ran", "[I", true)
  | 47 => ("BeastCaveModel", "told1", "[I", true)
  | 48 => ("BeastCaveModel", "isTold", "Z", false)
  | _ => ("BeastCaveModel", "marks", "I", false)
def tyX12 : Nat → FieldType := fun k => match k with
  | 0 => .array .int
  | 1 => .array .long
  | 2 => .int
  | 3 => .long
  | 4 => .long
  | 5 => .array .int
  | 6 => .array .int
  | 7 => .array .long
  | 8 => .array .byte
  | 9 => .array .byte
  | 10 => .int
  | 11 => .int
  | 12 => .int
  | 13 => .int
  | 14 => .int
  | 15 => .int
  | 16 => .int
  | 17 => .int
  | 18 => .int
  | 19 => .int
  | 20 => .int
  | 21 => .array .int
  | 22 => .int
  | 23 => .int
  | 24 => .array .int
  | 25 => .array .int
  | 26 => .array .int
  | 27 => .array .int
  | 28 => .int
  | 29 => .array .int
  | 30 => .array .int
  | 31 => .array .long
  | 32 => .array .long
  | 33 => .array .int
  | 34 => .array .int
  | 35 => .array .int
  | 36 => .array .boolean
  | 37 => .int
  | 38 => .array .int
  | 39 => .array .int
  | 40 => .array .int
  | 41 => .array .int
  | 42 => .array .long
  | 43 => .int
  | 44 => .int
  | 45 => .array .int
  | 46 => .array .int
  | 47 => .array .int
  | 48 => .boolean
  | _ => .int
abbrev wsX120 : List Cond := u_ws RX12 TX12 50
theorem nmX12 : ∀ a, a < 50 → ∀ b, b < 50 → a ≠ b → (TX12 a).2.1 ≠ (TX12 b).2.1 := by decide +kernel
theorem tyX12_ok : ∀ k, k < 50 → parseFieldDescriptor (TX12 k).2.2.1 = some (tyX12 k) := by decide +kernel
abbrev vwCl : List vw_C := [(RX0, TX0, 3), (RX1, TX1, 2), (RX2, TX2, 15), (RX3, TX3, 8), (RX4, TX4, 5), (RX5, TX5, 10), (RX6, TX6, 9), (RX7, TX7, 11), (RX8, TX8, 15), (RX9, TX9, 3), (RX10, TX10, 6), (RX11, TX11, 19), (RX12, TX12, 50)]
