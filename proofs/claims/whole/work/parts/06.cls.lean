/-! the classes: names, fields, types (from the printed names) -/
def RX0 : String := "BluesAndGreens$City"
def TX0 : u_T := fun k => match k with
  | 0 => ("BluesAndGreens$City", "drivers", "I", false)
  | 1 => ("BluesAndGreens$City", "skill", "[I", true)
  | 2 => ("BluesAndGreens$City", "price", "[I", true)
  | 3 => ("BluesAndGreens$City", "firstClub", "[I", true)
  | 4 => ("BluesAndGreens$City", "quarters", "I", false)
  | 5 => ("BluesAndGreens$City", "crowd", "[I", true)
  | 6 => ("BluesAndGreens$City", "colour", "[I", true)
  | 7 => ("BluesAndGreens$City", "need", "[I", true)
  | 8 => ("BluesAndGreens$City", "gatesOf", "[I", true)
  | 9 => ("BluesAndGreens$City", "quarrels", "I", false)
  | 10 => ("BluesAndGreens$City", "adds", "[I", true)
  | _ => ("BluesAndGreens$City", "limit", "I", false)
def tyX0 : Nat → FieldType := fun k => match k with
  | 0 => .int
  | 1 => .array .int
  | 2 => .array .int
  | 3 => .array .int
  | 4 => .int
  | 5 => .array .int
  | 6 => .array .int
  | 7 => .array .int
  | 8 => .array .int
  | 9 => .int
  | 10 => .array .int
  | _ => .int
abbrev wsX00 : List Cond := u_ws RX0 TX0 12
theorem nmX0 : ∀ a, a < 12 → ∀ b, b < 12 → a ≠ b → (TX0 a).2.1 ≠ (TX0 b).2.1 := by decide +kernel
theorem tyX0_ok : ∀ k, k < 12 → parseFieldDescriptor (TX0 k).2.2.1 = some (tyX0 k) := by decide +kernel
def RX1 : String := "BluesAndGreens$Heard"
def TX1 : u_T := fun k => match k with
  | 0 => ("BluesAndGreens$Heard", "whats", "[I", true)
  | 1 => ("BluesAndGreens$Heard", "values", "[I", true)
  | _ => ("BluesAndGreens$Heard", "size", "I", false)
def tyX1 : Nat → FieldType := fun k => match k with
  | 0 => .array .int
  | 1 => .array .int
  | _ => .int
abbrev wsX10 : List Cond := u_ws RX1 TX1 3
theorem nmX1 : ∀ a, a < 3 → ∀ b, b < 3 → a ≠ b → (TX1 a).2.1 ≠ (TX1 b).2.1 := by decide +kernel
theorem tyX1_ok : ∀ k, k < 3 → parseFieldDescriptor (TX1 k).2.2.1 = some (tyX1 k) := by decide +kernel
def RX2 : String := "BluesAndGreens$Past"
def TX2 : u_T := fun k => match k with
  | 0 => ("BluesAndGreens$Past", "rows", "[I", true)
  | 1 => ("BluesAndGreens$Past", "size", "I", false)
  | _ => ("BluesAndGreens$Past", "next", "I", false)
def tyX2 : Nat → FieldType := fun k => match k with
  | 0 => .array .int
  | 1 => .int
  | _ => .int
abbrev wsX20 : List Cond := u_ws RX2 TX2 3
theorem nmX2 : ∀ a, a < 3 → ∀ b, b < 3 → a ≠ b → (TX2 a).2.1 ≠ (TX2 b).2.1 := by decide +kernel
theorem tyX2_ok : ∀ k, k < 3 → parseFieldDescriptor (TX2 k).2.2.1 = some (tyX2 k) := by decide +kernel
def RX3 : String := "BluesAndGreens$Reader"
def TX3 : u_T := fun k => match k with
  | 0 => ("BluesAndGreens$Reader", "text", "LBluesAndGreens$Text;", true)
  | 1 => ("BluesAndGreens$Reader", "most", "I", false)
  | 2 => ("BluesAndGreens$Reader", "at", "I", false)
  | _ => ("BluesAndGreens$Reader", "wrong", "I", false)
def tyX3 : Nat → FieldType := fun k => match k with
  | 0 => .object "BluesAndGreens$Text"
  | 1 => .int
  | 2 => .int
  | _ => .int
abbrev wsX30 : List Cond := u_ws RX3 TX3 4
theorem nmX3 : ∀ a, a < 4 → ∀ b, b < 4 → a ≠ b → (TX3 a).2.1 ≠ (TX3 b).2.1 := by decide +kernel
theorem tyX3_ok : ∀ k, k < 4 → parseFieldDescriptor (TX3 k).2.2.1 = some (tyX3 k) := by decide +kernel
def RX4 : String := "BluesAndGreens$Row"
def TX4 : u_T := fun k => match k with
  | 0 => ("BluesAndGreens$Row", "numbers", "[J", true)
  | _ => ("BluesAndGreens$Row", "size", "I", false)
def tyX4 : Nat → FieldType := fun k => match k with
  | 0 => .array .long
  | _ => .int
abbrev wsX40 : List Cond := u_ws RX4 TX4 2
theorem nmX4 : ∀ a, a < 2 → ∀ b, b < 2 → a ≠ b → (TX4 a).2.1 ≠ (TX4 b).2.1 := by decide +kernel
theorem tyX4_ok : ∀ k, k < 2 → parseFieldDescriptor (TX4 k).2.2.1 = some (tyX4 k) := by decide +kernel
def RX5 : String := "BluesAndGreens$Rule"
def TX5 : u_T := fun k => match k with
  | 0 => ("BluesAndGreens$Rule", "code", "[I", true)
  | 1 => ("BluesAndGreens$Rule", "size", "I", false)
  | 2 => ("BluesAndGreens$Rule", "things", "[I", true)
  | _ => ("BluesAndGreens$Rule", "stack", "[I", true)
def tyX5 : Nat → FieldType := fun k => match k with
  | 0 => .array .int
  | 1 => .int
  | 2 => .array .int
  | _ => .array .int
abbrev wsX50 : List Cond := u_ws RX5 TX5 4
theorem nmX5 : ∀ a, a < 4 → ∀ b, b < 4 → a ≠ b → (TX5 a).2.1 ≠ (TX5 b).2.1 := by decide +kernel
theorem tyX5_ok : ∀ k, k < 4 → parseFieldDescriptor (TX5 k).2.2.1 = some (tyX5 k) := by decide +kernel
def RX6 : String := "BluesAndGreens$RuleReader"
def TX6 : u_T := fun k => match k with
  | 0 => ("BluesAndGreens$RuleReader", "reader", "LBluesAndGreens$Reader;", true)
  | 1 => ("BluesAndGreens$RuleReader", "waiting", "[I", true)
  | 2 => ("BluesAndGreens$RuleReader", "size", "I", false)
  | 3 => ("BluesAndGreens$RuleReader", "depth", "I", false)
  | _ => ("BluesAndGreens$RuleReader", "compared", "I", false)
def tyX6 : Nat → FieldType := fun k => match k with
  | 0 => .object "BluesAndGreens$Reader"
  | 1 => .array .int
  | 2 => .int
  | 3 => .int
  | _ => .int
abbrev wsX60 : List Cond := u_ws RX6 TX6 5
theorem nmX6 : ∀ a, a < 5 → ∀ b, b < 5 → a ≠ b → (TX6 a).2.1 ≠ (TX6 b).2.1 := by decide +kernel
theorem tyX6_ok : ∀ k, k < 5 → parseFieldDescriptor (TX6 k).2.2.1 = some (tyX6 k) := by decide +kernel
def RX7 : String := "BluesAndGreens$Runs"
def TX7 : u_T := fun k => match k with
  | 0 => ("BluesAndGreens$Runs", "last", "I", false)
  | 1 => ("BluesAndGreens$Runs", "joined", "I", false)
  | 2 => ("BluesAndGreens$Runs", "mostBlue", "I", false)
  | 3 => ("BluesAndGreens$Runs", "mostGreen", "I", false)
  | _ => ("BluesAndGreens$Runs", "seed", "I", false)
def tyX7 : Nat → FieldType := fun k => match k with
  | 0 => .int
  | 1 => .int
  | 2 => .int
  | 3 => .int
  | _ => .int
abbrev wsX70 : List Cond := u_ws RX7 TX7 5
theorem nmX7 : ∀ a, a < 5 → ∀ b, b < 5 → a ≠ b → (TX7 a).2.1 ≠ (TX7 b).2.1 := by decide +kernel
theorem tyX7_ok : ∀ k, k < 5 → parseFieldDescriptor (TX7 k).2.2.1 = some (tyX7 k) := by decide +kernel
def RX8 : String := "BluesAndGreens$State"
def TX8 : u_T := fun k => match k with
  | _ => ("BluesAndGreens$State", "cells", "[I", true)
def tyX8 : Nat → FieldType := fun k => match k with
  | _ => .array .int
abbrev wsX80 : List Cond := u_ws RX8 TX8 1
theorem nmX8 : ∀ a, a < 1 → ∀ b, b < 1 → a ≠ b → (TX8 a).2.1 ≠ (TX8 b).2.1 := by decide +kernel
theorem tyX8_ok : ∀ k, k < 1 → parseFieldDescriptor (TX8 k).2.2.1 = some (tyX8 k) := by decide +kernel
def RX9 : String := "BluesAndGreens$Text"
def TX9 : u_T := fun k => match k with
  | 0 => ("BluesAndGreens$Text", "signs", "[C", true)
  | _ => ("BluesAndGreens$Text", "length", "I", false)
def tyX9 : Nat → FieldType := fun k => match k with
  | 0 => .array .char
  | _ => .int
abbrev wsX90 : List Cond := u_ws RX9 TX9 2
theorem nmX9 : ∀ a, a < 2 → ∀ b, b < 2 → a ≠ b → (TX9 a).2.1 ≠ (TX9 b).2.1 := by decide +kernel
theorem tyX9_ok : ∀ k, k < 2 → parseFieldDescriptor (TX9 k).2.2.1 = some (tyX9 k) := by decide +kernel
def RX10 : String := "BluesAndGreens"
def TX10 : u_T := fun k => match k with
  | 0 => ("BluesAndGreens", "text", "LBluesAndGreens$Text;", true)
  | 1 => ("BluesAndGreens", "reader", "LBluesAndGreens$Reader;", true)
  | 2 => ("BluesAndGreens", "ruleReader", "LBluesAndGreens$RuleReader;", true)
  | 3 => ("BluesAndGreens", "told", "LBluesAndGreens$Row;", true)
  | 4 => ("BluesAndGreens", "city", "LBluesAndGreens$City;", true)
  | 5 => ("BluesAndGreens", "now", "LBluesAndGreens$State;", true)
  | 6 => ("BluesAndGreens", "before", "LBluesAndGreens$State;", true)
  | 7 => ("BluesAndGreens", "trial", "LBluesAndGreens$State;", true)
  | 8 => ("BluesAndGreens", "past", "LBluesAndGreens$Past;", true)
  | 9 => ("BluesAndGreens", "kept", "[I", true)
  | 10 => ("BluesAndGreens", "isKept", "[Z", true)
  | 11 => ("BluesAndGreens", "theRule", "LBluesAndGreens$Rule;", true)
  | 12 => ("BluesAndGreens", "otherRule", "LBluesAndGreens$Rule;", true)
  | 13 => ("BluesAndGreens", "runs", "LBluesAndGreens$Runs;", true)
  | 14 => ("BluesAndGreens", "hearsay", "LBluesAndGreens$Heard;", true)
  | _ => ("BluesAndGreens", "acts", "[I", true)
def tyX10 : Nat → FieldType := fun k => match k with
  | 0 => .object "BluesAndGreens$Text"
  | 1 => .object "BluesAndGreens$Reader"
  | 2 => .object "BluesAndGreens$RuleReader"
  | 3 => .object "BluesAndGreens$Row"
  | 4 => .object "BluesAndGreens$City"
  | 5 => .object "BluesAndGreens$State"
  | 6 => .object "BluesAndGreens$State"
  | 7 => .object "BluesAndGreens$State"
  | 8 => .object "BluesAndGreens$Past"
  | 9 => .array .int
  | 10 => .array .boolean
  | 11 => .object "BluesAndGreens$Rule"
  | 12 => .object "BluesAndGreens$Rule"
  | 13 => .object "BluesAndGreens$Runs"
  | 14 => .object "BluesAndGreens$Heard"
  | _ => .array .int
abbrev wsX100 : List Cond := u_ws RX10 TX10 16
theorem nmX10 : ∀ a, a < 16 → ∀ b, b < 16 → a ≠ b → (TX10 a).2.1 ≠ (TX10 b).2.1 := by decide +kernel
theorem tyX10_ok : ∀ k, k < 16 → parseFieldDescriptor (TX10 k).2.2.1 = some (tyX10 k) := by decide +kernel
def RX11 : String := "BluesAndGreensModel"
def TX11 : u_T := fun k => match k with
  | 0 => ("BluesAndGreensModel", "now", "[I", true)
  | 1 => ("BluesAndGreensModel", "drivers", "I", false)
  | 2 => ("BluesAndGreensModel", "skill", "[I", true)
  | 3 => ("BluesAndGreensModel", "price", "[I", true)
  | 4 => ("BluesAndGreensModel", "quarters", "I", false)
  | 5 => ("BluesAndGreensModel", "quarter", "[I", true)
  | 6 => ("BluesAndGreensModel", "quarrels", "I", false)
  | 7 => ("BluesAndGreensModel", "quarrel", "[I", true)
  | 8 => ("BluesAndGreensModel", "limit", "I", false)
  | 9 => ("BluesAndGreensModel", "text", "[B", true)
  | 10 => ("BluesAndGreensModel", "typed", "I", false)
  | 11 => ("BluesAndGreensModel", "row", "[J", true)
  | 12 => ("BluesAndGreensModel", "rowMany", "I", false)
  | 13 => ("BluesAndGreensModel", "thrown", "I", false)
  | 14 => ("BluesAndGreensModel", "read", "[B", false)
  | 15 => ("BluesAndGreensModel", "length", "I", false)
  | 16 => ("BluesAndGreensModel", "top", "I", false)
  | 17 => ("BluesAndGreensModel", "at", "I", false)
  | 18 => ("BluesAndGreensModel", "wrong", "I", false)
  | 19 => ("BluesAndGreensModel", "comes", "[I", true)
  | 20 => ("BluesAndGreensModel", "rule", "[B", false)
  | 21 => ("BluesAndGreensModel", "otherRule", "[B", false)
  | 22 => ("BluesAndGreensModel", "ruleSize", "I", false)
  | 23 => ("BluesAndGreensModel", "isAsked", "Z", false)
  | 24 => ("BluesAndGreensModel", "asked", "[I", true)
  | 25 => ("BluesAndGreensModel", "undos", "[I", true)
  | 26 => ("BluesAndGreensModel", "undoMany", "I", false)
  | 27 => ("BluesAndGreensModel", "aside", "[I", true)
  | 28 => ("BluesAndGreensModel", "then", "[I", true)
  | 29 => ("BluesAndGreensModel", "blues", "I", false)
  | 30 => ("BluesAndGreensModel", "lastWinner", "I", false)
  | 31 => ("BluesAndGreensModel", "joined", "I", false)
  | 32 => ("BluesAndGreensModel", "acts", "[I", true)
  | 33 => ("BluesAndGreensModel", "heardOf", "[I", true)
  | 34 => ("BluesAndGreensModel", "heardBy", "[I", true)
  | 35 => ("BluesAndGreensModel", "heardMany", "I", false)
  | 36 => ("BluesAndGreensModel", "drawn", "I", false)
  | 37 => ("BluesAndGreensModel", "came", "I", false)
  | 38 => ("BluesAndGreensModel", "kept", "[I", true)
  | 39 => ("BluesAndGreensModel", "isKept", "[Z", true)
  | _ => ("BluesAndGreensModel", "keptCame", "[I", true)
def tyX11 : Nat → FieldType := fun k => match k with
  | 0 => .array .int
  | 1 => .int
  | 2 => .array .int
  | 3 => .array .int
  | 4 => .int
  | 5 => .array .int
  | 6 => .int
  | 7 => .array .int
  | 8 => .int
  | 9 => .array .byte
  | 10 => .int
  | 11 => .array .long
  | 12 => .int
  | 13 => .int
  | 14 => .array .byte
  | 15 => .int
  | 16 => .int
  | 17 => .int
  | 18 => .int
  | 19 => .array .int
  | 20 => .array .byte
  | 21 => .array .byte
  | 22 => .int
  | 23 => .boolean
  | 24 => .array .int
  | 25 => .array .int
  | 26 => .int
  | 27 => .array .int
  | 28 => .array .int
  | 29 => .int
  | 30 => .int
  | 31 => .int
  | 32 => .array .int
  | 33 => .array .int
  | 34 => .array .int
  | 35 => .int
  | 36 => .int
  | 37 => .int
  | 38 => .array .int
  | 39 => .array .boolean
  | _ => .array .int
abbrev wsX110 : List Cond := u_ws RX11 TX11 41
theorem nmX11 : ∀ a, a < 41 → ∀ b, b < 41 → a ≠ b → (TX11 a).2.1 ≠ (TX11 b).2.1 := by decide +kernel
theorem tyX11_ok : ∀ k, k < 41 → parseFieldDescriptor (TX11 k).2.2.1 = some (tyX11 k) := by decide +kernel
set_option maxRecDepth 20000 in
theorem inX0 : ∀ w ∈ wsX00, w ∈ lw_tbl := fun w h => (goodIn_r (big := lw_tbl) wsX00 [238, 240, 242, 244, 246, 248, 250, 252, 254, 256, 258, 260] (by decide +kernel) (by decide +kernel) w h).1
set_option maxRecDepth 20000 in
theorem inX1 : ∀ w ∈ wsX10, w ∈ lw_tbl := fun w h => (goodIn_r (big := lw_tbl) wsX10 [359, 361, 363] (by decide +kernel) (by decide +kernel) w h).1
set_option maxRecDepth 20000 in
theorem inX2 : ∀ w ∈ wsX20, w ∈ lw_tbl := fun w h => (goodIn_r (big := lw_tbl) wsX20 [283, 285, 287] (by decide +kernel) (by decide +kernel) w h).1
set_option maxRecDepth 20000 in
theorem inX3 : ∀ w ∈ wsX30, w ∈ lw_tbl := fun w h => (goodIn_r (big := lw_tbl) wsX30 [140, 142, 144, 146] (by decide +kernel) (by decide +kernel) w h).1
set_option maxRecDepth 20000 in
theorem inX4 : ∀ w ∈ wsX40, w ∈ lw_tbl := fun w h => (goodIn_r (big := lw_tbl) wsX40 [182, 184] (by decide +kernel) (by decide +kernel) w h).1
set_option maxRecDepth 20000 in
theorem inX5 : ∀ w ∈ wsX50, w ∈ lw_tbl := fun w h => (goodIn_r (big := lw_tbl) wsX50 [311, 313, 315, 317] (by decide +kernel) (by decide +kernel) w h).1
set_option maxRecDepth 20000 in
theorem inX6 : ∀ w ∈ wsX60, w ∈ lw_tbl := fun w h => (goodIn_r (big := lw_tbl) wsX60 [160, 162, 164, 166, 168] (by decide +kernel) (by decide +kernel) w h).1
set_option maxRecDepth 20000 in
theorem inX7 : ∀ w ∈ wsX70, w ∈ lw_tbl := fun w h => (goodIn_r (big := lw_tbl) wsX70 [338, 340, 342, 344, 346] (by decide +kernel) (by decide +kernel) w h).1
set_option maxRecDepth 20000 in
theorem inX8 : ∀ w ∈ wsX80, w ∈ lw_tbl := fun w h => (goodIn_r (big := lw_tbl) wsX80 [270] (by decide +kernel) (by decide +kernel) w h).1
set_option maxRecDepth 20000 in
theorem inX9 : ∀ w ∈ wsX90, w ∈ lw_tbl := fun w h => (goodIn_r (big := lw_tbl) wsX90 [123, 125] (by decide +kernel) (by decide +kernel) w h).1
set_option maxRecDepth 20000 in
theorem inX10 : ∀ w ∈ wsX100, w ∈ lw_tbl := fun w h => (goodIn_r (big := lw_tbl) wsX100 [561, 563, 565, 567, 569, 571, 573, 575, 577, 579, 581, 583, 585, 587, 589, 591] (by decide +kernel) (by decide +kernel) w h).1
set_option maxRecDepth 20000 in
theorem inX11 : ∀ w ∈ wsX110, w ∈ lw_tbl := fun w h => (goodIn_r (big := lw_tbl) wsX110 [1297, 1299, 1301, 1303, 1305, 1307, 1309, 1311, 1313, 1315, 1317, 1319, 1321, 1323, 1325, 1327, 1329, 1331, 1333, 1335, 1337, 1339, 1341, 1343, 1345, 1347, 1349, 1351, 1353, 1355, 1357, 1359, 1361, 1363, 1365, 1367, 1369, 1371, 1373, 1375, 1377] (by decide +kernel) (by decide +kernel) w h).1
abbrev vwCl : List vw_C := [(RX0, TX0, 12), (RX1, TX1, 3), (RX2, TX2, 3), (RX3, TX3, 4), (RX4, TX4, 2), (RX5, TX5, 4), (RX6, TX6, 5), (RX7, TX7, 5), (RX8, TX8, 1), (RX9, TX9, 2), (RX10, TX10, 16), (RX11, TX11, 41)]
abbrev aTyF : List (Nat → FieldType) := [tyX0, tyX1, tyX2, tyX3, tyX4, tyX5, tyX6, tyX7, tyX8, tyX9, tyX10, tyX11]
/-- what is known of a class: its words, its fields' types, their names apart -/
theorem aCl {c : Nat} {C : String} {T : u_T} {N : Nat} (h : vwCl[c]? = some (C, T, N)) : (∀ w ∈ u_ws C T N, w ∈ lw_tbl) ∧ (∀ k, k < N → parseFieldDescriptor (T k).2.2.1 = some ((aTyF.getD c tyX0) k)) ∧ (∀ a, a < N → ∀ b, b < N → a ≠ b → (T a).2.1 ≠ (T b).2.1) := by
  match c, h with
  | 0, h => cases h; exact ⟨inX0, tyX0_ok, nmX0⟩
  | 1, h => cases h; exact ⟨inX1, tyX1_ok, nmX1⟩
  | 2, h => cases h; exact ⟨inX2, tyX2_ok, nmX2⟩
  | 3, h => cases h; exact ⟨inX3, tyX3_ok, nmX3⟩
  | 4, h => cases h; exact ⟨inX4, tyX4_ok, nmX4⟩
  | 5, h => cases h; exact ⟨inX5, tyX5_ok, nmX5⟩
  | 6, h => cases h; exact ⟨inX6, tyX6_ok, nmX6⟩
  | 7, h => cases h; exact ⟨inX7, tyX7_ok, nmX7⟩
  | 8, h => cases h; exact ⟨inX8, tyX8_ok, nmX8⟩
  | 9, h => cases h; exact ⟨inX9, tyX9_ok, nmX9⟩
  | 10, h => cases h; exact ⟨inX10, tyX10_ok, nmX10⟩
  | 11, h => cases h; exact ⟨inX11, tyX11_ok, nmX11⟩
  | k + 12, h => simp at h
