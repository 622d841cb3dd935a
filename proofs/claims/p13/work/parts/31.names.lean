def RX0 : String := "FuseTreaty$Current"
def TX0 : u_T := fun k => match k with
  | 0 => ("FuseTreaty$Current", "house", "LFuseTreaty$House;", true)
  | 1 => ("FuseTreaty$Current", "ways", "LFuseTreaty$Ways;", true)
  | 2 => ("FuseTreaty$Current", "vars", "[I", true)
  | _ => ("FuseTreaty$Current", "load", "[I", true)
def tyX0 : Nat → FieldType := fun k => match k with
  | 0 => .object "FuseTreaty$House"
  | 1 => .object "FuseTreaty$Ways"
  | 2 => .array .int
  | _ => .array .int
theorem nmX0 : ∀ a, a < 4 → ∀ b, b < 4 → a ≠ b → (TX0 a).2.1 ≠ (TX0 b).2.1 := by decide +kernel
theorem tyX0_ok : ∀ k, k < 4 → parseFieldDescriptor (TX0 k).2.2.1 = some (tyX0 k) := by decide +kernel
def RX1 : String := "FuseTreaty$Foresight"
def TX1 : u_T := fun k => match k with
  | 0 => ("FuseTreaty$Foresight", "house", "LFuseTreaty$House;", true)
  | 1 => ("FuseTreaty$Foresight", "current", "LFuseTreaty$Current;", true)
  | 2 => ("FuseTreaty$Foresight", "trial", "LFuseTreaty$State;", true)
  | 3 => ("FuseTreaty$Foresight", "pays", "[I", true)
  | _ => ("FuseTreaty$Foresight", "firstGoing", "I", false)
def tyX1 : Nat → FieldType := fun k => match k with
  | 0 => .object "FuseTreaty$House"
  | 1 => .object "FuseTreaty$Current"
  | 2 => .object "FuseTreaty$State"
  | 3 => .array .int
  | _ => .int
theorem nmX1 : ∀ a, a < 5 → ∀ b, b < 5 → a ≠ b → (TX1 a).2.1 ≠ (TX1 b).2.1 := by decide +kernel
theorem tyX1_ok : ∀ k, k < 5 → parseFieldDescriptor (TX1 k).2.2.1 = some (tyX1 k) := by decide +kernel
def RX2 : String := "FuseTreaty$Grammar"
def TX2 : u_T := fun k => match k with
  | 0 => ("FuseTreaty$Grammar", "tokens", "LFuseTreaty$Tokens;", true)
  | 1 => ("FuseTreaty$Grammar", "laws", "LFuseTreaty$Laws;", true)
  | 2 => ("FuseTreaty$Grammar", "next", "I", false)
  | 3 => ("FuseTreaty$Grammar", "fault", "I", false)
  | 4 => ("FuseTreaty$Grammar", "flats", "I", false)
  | 5 => ("FuseTreaty$Grammar", "wires", "I", false)
  | _ => ("FuseTreaty$Grammar", "uses", "I", false)
def tyX2 : Nat → FieldType := fun k => match k with
  | 0 => .object "FuseTreaty$Tokens"
  | 1 => .object "FuseTreaty$Laws"
  | 2 => .int
  | 3 => .int
  | 4 => .int
  | 5 => .int
  | _ => .int
theorem nmX2 : ∀ a, a < 7 → ∀ b, b < 7 → a ≠ b → (TX2 a).2.1 ≠ (TX2 b).2.1 := by decide +kernel
theorem tyX2_ok : ∀ k, k < 7 → parseFieldDescriptor (TX2 k).2.2.1 = some (tyX2 k) := by decide +kernel
def RX3 : String := "FuseTreaty$House"
def TX3 : u_T := fun k => match k with
  | 0 => ("FuseTreaty$House", "flats", "I", false)
  | 1 => ("FuseTreaty$House", "wires", "I", false)
  | 2 => ("FuseTreaty$House", "uses", "I", false)
  | 3 => ("FuseTreaty$House", "surgeShare", "I", false)
  | 4 => ("FuseTreaty$House", "surgeAmps", "I", false)
  | 5 => ("FuseTreaty$House", "coins", "I", false)
  | 6 => ("FuseTreaty$House", "seed", "I", false)
  | 7 => ("FuseTreaty$House", "temper", "[I", true)
  | 8 => ("FuseTreaty$House", "oneEnd", "[I", true)
  | 9 => ("FuseTreaty$House", "otherEnd", "[I", true)
  | 10 => ("FuseTreaty$House", "rating", "[I", true)
  | 11 => ("FuseTreaty$House", "home", "[I", true)
  | 12 => ("FuseTreaty$House", "amps", "[I", true)
  | 13 => ("FuseTreaty$House", "from", "[I", true)
  | 14 => ("FuseTreaty$House", "till", "[I", true)
  | _ => ("FuseTreaty$House", "laws", "LFuseTreaty$Laws;", true)
def tyX3 : Nat → FieldType := fun k => match k with
  | 0 => .int
  | 1 => .int
  | 2 => .int
  | 3 => .int
  | 4 => .int
  | 5 => .int
  | 6 => .int
  | 7 => .array .int
  | 8 => .array .int
  | 9 => .array .int
  | 10 => .array .int
  | 11 => .array .int
  | 12 => .array .int
  | 13 => .array .int
  | 14 => .array .int
  | _ => .object "FuseTreaty$Laws"
theorem nmX3 : ∀ a, a < 16 → ∀ b, b < 16 → a ≠ b → (TX3 a).2.1 ≠ (TX3 b).2.1 := by decide +kernel
theorem tyX3_ok : ∀ k, k < 16 → parseFieldDescriptor (TX3 k).2.2.1 = some (tyX3 k) := by decide +kernel
def RX4 : String := "FuseTreaty$Laws"
def TX4 : u_T := fun k => match k with
  | 0 => ("FuseTreaty$Laws", "codes", "[I", true)
  | 1 => ("FuseTreaty$Laws", "size", "I", false)
  | 2 => ("FuseTreaty$Laws", "starts", "[[I", true)
  | 3 => ("FuseTreaty$Laws", "pieces", "[I", true)
  | 4 => ("FuseTreaty$Laws", "stack", "[I", true)
  | _ => ("FuseTreaty$Laws", "broken", "Z", false)
def tyX4 : Nat → FieldType := fun k => match k with
  | 0 => .array .int
  | 1 => .int
  | 2 => .array (.array .int)
  | 3 => .array .int
  | 4 => .array .int
  | _ => .boolean
theorem nmX4 : ∀ a, a < 6 → ∀ b, b < 6 → a ≠ b → (TX4 a).2.1 ≠ (TX4 b).2.1 := by decide +kernel
theorem tyX4_ok : ∀ k, k < 6 → parseFieldDescriptor (TX4 k).2.2.1 = some (tyX4 k) := by decide +kernel
def RX5 : String := "FuseTreaty$Meaning"
def TX5 : u_T := fun k => match k with
  | 0 => ("FuseTreaty$Meaning", "tokens", "LFuseTreaty$Tokens;", true)
  | 1 => ("FuseTreaty$Meaning", "house", "LFuseTreaty$House;", true)
  | 2 => ("FuseTreaty$Meaning", "flatNames", "[J", true)
  | 3 => ("FuseTreaty$Meaning", "useNames", "[J", true)
  | 4 => ("FuseTreaty$Meaning", "next", "I", false)
  | _ => ("FuseTreaty$Meaning", "fault", "I", false)
def tyX5 : Nat → FieldType := fun k => match k with
  | 0 => .object "FuseTreaty$Tokens"
  | 1 => .object "FuseTreaty$House"
  | 2 => .array .long
  | 3 => .array .long
  | 4 => .int
  | _ => .int
theorem nmX5 : ∀ a, a < 6 → ∀ b, b < 6 → a ≠ b → (TX5 a).2.1 ≠ (TX5 b).2.1 := by decide +kernel
theorem tyX5_ok : ∀ k, k < 6 → parseFieldDescriptor (TX5 k).2.2.1 = some (tyX5 k) := by decide +kernel
def RX6 : String := "FuseTreaty$Past"
def TX6 : u_T := fun k => match k with
  | 0 => ("FuseTreaty$Past", "rows", "[I", true)
  | 1 => ("FuseTreaty$Past", "slotRows", "[I", true)
  | 2 => ("FuseTreaty$Past", "next", "I", false)
  | 3 => ("FuseTreaty$Past", "size", "I", false)
  | _ => ("FuseTreaty$Past", "slotsHeld", "I", false)
def tyX6 : Nat → FieldType := fun k => match k with
  | 0 => .array .int
  | 1 => .array .int
  | 2 => .int
  | 3 => .int
  | _ => .int
theorem nmX6 : ∀ a, a < 5 → ∀ b, b < 5 → a ≠ b → (TX6 a).2.1 ≠ (TX6 b).2.1 := by decide +kernel
theorem tyX6_ok : ∀ k, k < 5 → parseFieldDescriptor (TX6 k).2.2.1 = some (tyX6 k) := by decide +kernel
def RX7 : String := "FuseTreaty$State"
def TX7 : u_T := fun k => match k with
  | 0 => ("FuseTreaty$State", "hour", "I", false)
  | 1 => ("FuseTreaty$State", "coins", "I", false)
  | 2 => ("FuseTreaty$State", "quarrels", "I", false)
  | 3 => ("FuseTreaty$State", "gone", "I", false)
  | 4 => ("FuseTreaty$State", "pinned", "I", false)
  | 5 => ("FuseTreaty$State", "agreed", "I", false)
  | 6 => ("FuseTreaty$State", "rating", "[I", true)
  | 7 => ("FuseTreaty$State", "age", "[I", true)
  | _ => ("FuseTreaty$State", "dark", "[I", true)
def tyX7 : Nat → FieldType := fun k => match k with
  | 0 => .int
  | 1 => .int
  | 2 => .int
  | 3 => .int
  | 4 => .int
  | 5 => .int
  | 6 => .array .int
  | 7 => .array .int
  | _ => .array .int
theorem nmX7 : ∀ a, a < 9 → ∀ b, b < 9 → a ≠ b → (TX7 a).2.1 ≠ (TX7 b).2.1 := by decide +kernel
theorem tyX7_ok : ∀ k, k < 9 → parseFieldDescriptor (TX7 k).2.2.1 = some (tyX7 k) := by decide +kernel
def RX8 : String := "FuseTreaty$Tokens"
def TX8 : u_T := fun k => match k with
  | 0 => ("FuseTreaty$Tokens", "kinds", "[I", true)
  | 1 => ("FuseTreaty$Tokens", "places", "[I", true)
  | 2 => ("FuseTreaty$Tokens", "values", "[J", true)
  | 3 => ("FuseTreaty$Tokens", "words", "[J", true)
  | 4 => ("FuseTreaty$Tokens", "text", "[B", false)
  | _ => ("FuseTreaty$Tokens", "length", "I", false)
def tyX8 : Nat → FieldType := fun k => match k with
  | 0 => .array .int
  | 1 => .array .int
  | 2 => .array .long
  | 3 => .array .long
  | 4 => .array .byte
  | _ => .int
theorem nmX8 : ∀ a, a < 6 → ∀ b, b < 6 → a ≠ b → (TX8 a).2.1 ≠ (TX8 b).2.1 := by decide +kernel
theorem tyX8_ok : ∀ k, k < 6 → parseFieldDescriptor (TX8 k).2.2.1 = some (tyX8 k) := by decide +kernel
def RX9 : String := "FuseTreaty$Told"
def TX9 : u_T := fun k => match k with
  | 0 => ("FuseTreaty$Told", "house", "LFuseTreaty$House;", true)
  | 1 => ("FuseTreaty$Told", "flats", "[I", true)
  | 2 => ("FuseTreaty$Told", "lits", "[Z", true)
  | _ => ("FuseTreaty$Told", "size", "I", false)
def tyX9 : Nat → FieldType := fun k => match k with
  | 0 => .object "FuseTreaty$House"
  | 1 => .array .int
  | 2 => .array .boolean
  | _ => .int
theorem nmX9 : ∀ a, a < 4 → ∀ b, b < 4 → a ≠ b → (TX9 a).2.1 ≠ (TX9 b).2.1 := by decide +kernel
theorem tyX9_ok : ∀ k, k < 4 → parseFieldDescriptor (TX9 k).2.2.1 = some (tyX9 k) := by decide +kernel
def RX10 : String := "FuseTreaty$Ways"
def TX10 : u_T := fun k => match k with
  | 0 => ("FuseTreaty$Ways", "house", "LFuseTreaty$House;", true)
  | 1 => ("FuseTreaty$Ways", "laidFor", "I", false)
  | 2 => ("FuseTreaty$Ways", "nextWire", "[I", true)
  | 3 => ("FuseTreaty$Ways", "steps", "[I", true)
  | 4 => ("FuseTreaty$Ways", "via", "[I", true)
  | _ => ("FuseTreaty$Ways", "lit", "I", false)
def tyX10 : Nat → FieldType := fun k => match k with
  | 0 => .object "FuseTreaty$House"
  | 1 => .int
  | 2 => .array .int
  | 3 => .array .int
  | 4 => .array .int
  | _ => .int
theorem nmX10 : ∀ a, a < 6 → ∀ b, b < 6 → a ≠ b → (TX10 a).2.1 ≠ (TX10 b).2.1 := by decide +kernel
theorem tyX10_ok : ∀ k, k < 6 → parseFieldDescriptor (TX10 k).2.2.1 = some (tyX10 k) := by decide +kernel
def RX11 : String := "FuseTreaty"
def TX11 : u_T := fun k => match k with
  | 0 => ("FuseTreaty", "tape", "[B", true)
  | 1 => ("FuseTreaty", "taped", "I", false)
  | 2 => ("FuseTreaty", "faultPlace", "I", false)
  | 3 => ("FuseTreaty", "house", "LFuseTreaty$House;", true)
  | 4 => ("FuseTreaty", "draft", "LFuseTreaty$House;", true)
  | 5 => ("FuseTreaty", "tokens", "LFuseTreaty$Tokens;", true)
  | 6 => ("FuseTreaty", "grammar", "LFuseTreaty$Grammar;", true)
  | 7 => ("FuseTreaty", "meaning", "LFuseTreaty$Meaning;", true)
  | 8 => ("FuseTreaty", "state", "LFuseTreaty$State;", true)
  | 9 => ("FuseTreaty", "past", "LFuseTreaty$Past;", true)
  | 10 => ("FuseTreaty", "current", "LFuseTreaty$Current;", true)
  | 11 => ("FuseTreaty", "foresight", "LFuseTreaty$Foresight;", true)
  | _ => ("FuseTreaty", "told", "LFuseTreaty$Told;", true)
def tyX11 : Nat → FieldType := fun k => match k with
  | 0 => .array .byte
  | 1 => .int
  | 2 => .int
  | 3 => .object "FuseTreaty$House"
  | 4 => .object "FuseTreaty$House"
  | 5 => .object "FuseTreaty$Tokens"
  | 6 => .object "FuseTreaty$Grammar"
  | 7 => .object "FuseTreaty$Meaning"
  | 8 => .object "FuseTreaty$State"
  | 9 => .object "FuseTreaty$Past"
  | 10 => .object "FuseTreaty$Current"
  | 11 => .object "FuseTreaty$Foresight"
  | _ => .object "FuseTreaty$Told"
theorem nmX11 : ∀ a, a < 13 → ∀ b, b < 13 → a ≠ b → (TX11 a).2.1 ≠ (TX11 b).2.1 := by decide +kernel
theorem tyX11_ok : ∀ k, k < 13 → parseFieldDescriptor (TX11 k).2.2.1 = some (tyX11 k) := by decide +kernel
def RX12 : String := "FuseTreatyModel"
def TX12 : u_T := fun k => match k with
  | 0 => ("FuseTreatyModel", "thrown", "I", false)
  | 1 => ("FuseTreatyModel", "tape", "[B", true)
  | 2 => ("FuseTreatyModel", "taped", "I", false)
  | 3 => ("FuseTreatyModel", "text", "[B", true)
  | 4 => ("FuseTreatyModel", "size", "I", false)
  | 5 => ("FuseTreatyModel", "tKind", "[I", true)
  | 6 => ("FuseTreatyModel", "tPlace", "[I", true)
  | 7 => ("FuseTreatyModel", "tValue", "[I", true)
  | 8 => ("FuseTreatyModel", "tName", "[J", true)
  | 9 => ("FuseTreatyModel", "keys", "[J", true)
  | 10 => ("FuseTreatyModel", "tokens", "I", false)
  | 11 => ("FuseTreatyModel", "t", "I", false)
  | 12 => ("FuseTreatyModel", "open", "I", false)
  | 13 => ("FuseTreatyModel", "fault", "I", false)
  | 14 => ("FuseTreatyModel", "faultPlace", "I", false)
  | 15 => ("FuseTreatyModel", "worst", "I", false)
  | 16 => ("FuseTreatyModel", "worstPlace", "I", false)
  | 17 => ("FuseTreatyModel", "place", "I", false)
  | 18 => ("FuseTreatyModel", "live", "I", false)
  | 19 => ("FuseTreatyModel", "side", "I", false)
  | 20 => ("FuseTreatyModel", "names", "I", false)
  | 21 => ("FuseTreatyModel", "nameOf", "[J", true)
  | 22 => ("FuseTreatyModel", "nameAt", "[I", true)
  | 23 => ("FuseTreatyModel", "flats", "[I", true)
  | 24 => ("FuseTreatyModel", "temperOf", "[I", true)
  | 25 => ("FuseTreatyModel", "wires", "[I", true)
  | 26 => ("FuseTreatyModel", "oneOf", "[I", true)
  | 27 => ("FuseTreatyModel", "twoOf", "[I", true)
  | 28 => ("FuseTreatyModel", "ratingTold", "[I", true)
  | 29 => ("FuseTreatyModel", "uses", "[I", true)
  | 30 => ("FuseTreatyModel", "flatOf", "[I", true)
  | 31 => ("FuseTreatyModel", "ampsOf", "[I", true)
  | 32 => ("FuseTreatyModel", "fromOf", "[I", true)
  | 33 => ("FuseTreatyModel", "tillOf", "[I", true)
  | 34 => ("FuseTreatyModel", "surgeOdds", "[I", true)
  | 35 => ("FuseTreatyModel", "surgeAmps", "[I", true)
  | 36 => ("FuseTreatyModel", "coinsTold", "[I", true)
  | 37 => ("FuseTreatyModel", "seed", "[I", true)
  | 38 => ("FuseTreatyModel", "lawFirst", "[I", true)
  | 39 => ("FuseTreatyModel", "lawLast", "[I", true)
  | 40 => ("FuseTreatyModel", "branches", "I", false)
  | 41 => ("FuseTreatyModel", "hasTest", "[Z", true)
  | 42 => ("FuseTreatyModel", "testFrom", "[I", true)
  | 43 => ("FuseTreatyModel", "testMid", "[I", true)
  | 44 => ("FuseTreatyModel", "testTo", "[I", true)
  | 45 => ("FuseTreatyModel", "termTo", "[I", true)
  | 46 => ("FuseTreatyModel", "codes", "I", false)
  | 47 => ("FuseTreatyModel", "code", "[I", true)
  | 48 => ("FuseTreatyModel", "codeInt", "[I", true)
  | 49 => ("FuseTreatyModel", "waits", "[I", true)
  | 50 => ("FuseTreatyModel", "waiting", "I", false)
  | 51 => ("FuseTreatyModel", "variables", "[I", true)
  | 52 => ("FuseTreatyModel", "pile", "[I", true)
  | 53 => ("FuseTreatyModel", "isBroken", "Z", false)
  | 54 => ("FuseTreatyModel", "now", "[I", true)
  | 55 => ("FuseTreatyModel", "row", "[I", true)
  | 56 => ("FuseTreatyModel", "lots", "I", false)
  | 57 => ("FuseTreatyModel", "isStill", "Z", false)
  | 58 => ("FuseTreatyModel", "stepsOf", "[I", true)
  | 59 => ("FuseTreatyModel", "wayOf", "[I", true)
  | 60 => ("FuseTreatyModel", "wentNow", "I", false)
  | 61 => ("FuseTreatyModel", "undos", "I", false)
  | 62 => ("FuseTreatyModel", "history", "[I", true)
  | 63 => ("FuseTreatyModel", "tolds", "I", false)
  | 64 => ("FuseTreatyModel", "toldFlat", "[I", true)
  | 65 => ("FuseTreatyModel", "toldLit", "[I", true)
  | 66 => ("FuseTreatyModel", "litWithout", "[I", true)
  | 67 => ("FuseTreatyModel", "isHeld", "[Z", true)
  | _ => ("FuseTreatyModel", "heldRows", "[I", true)
def tyX12 : Nat → FieldType := fun k => match k with
  | 0 => .int
  | 1 => .array .byte
  | 2 => .int
  | 3 => .array .byte
  | 4 => .int
  | 5 => .array .int
  | 6 => .array .int
  | 7 => .array .int
  | 8 => .array .long
  | 9 => .array .long
  | 10 => .int
  | 11 => .int
  | 12 => .int
  | 13 => .int
  | 14 => .int
  | 15 => .int
  | 16 => .int
  | 17 => .int
  | 18 => .int
  | 19 => .int
  | 20 => .int
  | 21 => .array .long
  | 22 => .array .int
  | 23 => .array .int
  | 24 => .array .int
  | 25 => .array .int
  | 26 => .array .int
  | 27 => .array .int
  | 28 => .array .int
  | 29 => .array .int
  | 30 => .array .int
  | 31 => .array .int
  | 32 => .array .int
  | 33 => .array .int
  | 34 => .array .int
  | 35 => .array .int
  | 36 => .array .int
  | 37 => .array .int
  | 38 => .array .int
  | 39 => .array .int
  | 40 => .int
  | 41 => .array .boolean
  | 42 => .array .int
  | 43 => .array .int
  | 44 => .array .int
  | 45 => .array .int
  | 46 => .int
  | 47 => .array .int
  | 48 => .array .int
  | 49 => .array .int
  | 50 => .int
  | 51 => .array .int
  | 52 => .array .int
  | 53 => .boolean
  | 54 => .array .int
  | 55 => .array .int
  | 56 => .int
  | 57 => .boolean
  | 58 => .array .int
  | 59 => .array .int
  | 60 => .int
  | 61 => .int
  | 62 => .array .int
  | 63 => .int
  | 64 => .array .int
  | 65 => .array .int
  | 66 => .array .int
  | 67 => .array .boolean
  | _ => .array .int
theorem nmX12 : ∀ a, a < 69 → ∀ b, b < 69 → a ≠ b → (TX12 a).2.1 ≠ (TX12 b).2.1 := by decide +kernel
theorem tyX12_ok : ∀ k, k < 69 → parseFieldDescriptor (TX12 k).2.2.1 = some (tyX12 k) := by decide +kernel
def tCl : List vw_C := [(RX0, TX0, 4), (RX1, TX1, 5), (RX2, TX2, 7), (RX3, TX3, 16), (RX4, TX4, 6), (RX5, TX5, 6), (RX6, TX6, 5), (RX7, TX7, 9), (RX8, TX8, 6), (RX9, TX9, 4), (RX10, TX10, 6), (RX11, TX11, 13), (RX12, TX12, 69)]
