/-- the entry of a list at a place -/
def am_nth {α : Type} : List α → Nat → Option α
  | [], _ => none
  | a :: _, 0 => some a
  | _ :: r, k + 1 => am_nth r k
def RX0 : String := "CelloBoats$Acts"
def TX0 : u_T := fun k => match k with
  | 0 => ("CelloBoats$Acts", "states", "[I", true)
  | 1 => ("CelloBoats$Acts", "next", "I", false)
  | _ => ("CelloBoats$Acts", "count", "I", false)
def tyX0 : Nat → FieldType := fun k => match k with
  | 0 => .array .int
  | 1 => .int
  | _ => .int
abbrev wsX00 : List Cond := u_ws RX0 TX0 3
theorem nmX0 : ∀ a, a < 3 → ∀ b, b < 3 → a ≠ b → (TX0 a).2.1 ≠ (TX0 b).2.1 := by decide +kernel
theorem tyX0_ok : ∀ k, k < 3 → parseFieldDescriptor (TX0 k).2.2.1 = some (tyX0 k) := by decide +kernel
def RX1 : String := "CelloBoats$Chart"
def TX1 : u_T := fun k => match k with
  | 0 => ("CelloBoats$Chart", "last", "I", false)
  | 1 => ("CelloBoats$Chart", "boats", "I", false)
  | 2 => ("CelloBoats$Chart", "riders", "I", false)
  | 3 => ("CelloBoats$Chart", "wolves", "I", false)
  | 4 => ("CelloBoats$Chart", "wind", "I", false)
  | 5 => ("CelloBoats$Chart", "squall", "I", false)
  | 6 => ("CelloBoats$Chart", "boatNames", "[I", true)
  | 7 => ("CelloBoats$Chart", "riderNames", "[I", true)
  | 8 => ("CelloBoats$Chart", "keys", "[I", true)
  | 9 => ("CelloBoats$Chart", "notes", "[I", true)
  | 10 => ("CelloBoats$Chart", "start", "[I", true)
  | 11 => ("CelloBoats$Chart", "wolfBits", "[I", true)
  | 12 => ("CelloBoats$Chart", "code", "[I", true)
  | 13 => ("CelloBoats$Chart", "from", "[I", true)
  | _ => ("CelloBoats$Chart", "to", "[I", true)
def tyX1 : Nat → FieldType := fun k => match k with
  | 0 => .int
  | 1 => .int
  | 2 => .int
  | 3 => .int
  | 4 => .int
  | 5 => .int
  | 6 => .array .int
  | 7 => .array .int
  | 8 => .array .int
  | 9 => .array .int
  | 10 => .array .int
  | 11 => .array .int
  | 12 => .array .int
  | 13 => .array .int
  | _ => .array .int
abbrev wsX10 : List Cond := u_ws RX1 TX1 15
theorem nmX1 : ∀ a, a < 15 → ∀ b, b < 15 → a ≠ b → (TX1 a).2.1 ≠ (TX1 b).2.1 := by decide +kernel
theorem tyX1_ok : ∀ k, k < 15 → parseFieldDescriptor (TX1 k).2.2.1 = some (tyX1 k) := by decide +kernel
def RX2 : String := "CelloBoats$Ferry"
def TX2 : u_T := fun k => match k with
  | 0 => ("CelloBoats$Ferry", "fits", "[I", true)
  | 1 => ("CelloBoats$Ferry", "row", "[I", true)
  | 2 => ("CelloBoats$Ferry", "taken", "[I", true)
  | 3 => ("CelloBoats$Ferry", "riders", "I", false)
  | _ => ("CelloBoats$Ferry", "able", "[I", true)
def tyX2 : Nat → FieldType := fun k => match k with
  | 0 => .array .int
  | 1 => .array .int
  | 2 => .array .int
  | 3 => .int
  | _ => .array .int
abbrev wsX20 : List Cond := u_ws RX2 TX2 5
theorem nmX2 : ∀ a, a < 5 → ∀ b, b < 5 → a ≠ b → (TX2 a).2.1 ≠ (TX2 b).2.1 := by decide +kernel
theorem tyX2_ok : ∀ k, k < 5 → parseFieldDescriptor (TX2 k).2.2.1 = some (tyX2 k) := by decide +kernel
def RX3 : String := "CelloBoats$Formula"
def TX3 : u_T := fun k => match k with
  | 0 => ("CelloBoats$Formula", "scan", "LCelloBoats$Scan;", true)
  | 1 => ("CelloBoats$Formula", "code", "[I", true)
  | 2 => ("CelloBoats$Formula", "size", "I", false)
  | 3 => ("CelloBoats$Formula", "asksCarry", "Z", false)
  | 4 => ("CelloBoats$Formula", "open", "I", false)
  | _ => ("CelloBoats$Formula", "sort", "I", false)
def tyX3 : Nat → FieldType := fun k => match k with
  | 0 => .object "CelloBoats$Scan"
  | 1 => .array .int
  | 2 => .int
  | 3 => .boolean
  | 4 => .int
  | _ => .int
abbrev wsX30 : List Cond := u_ws RX3 TX3 6
theorem nmX3 : ∀ a, a < 6 → ∀ b, b < 6 → a ≠ b → (TX3 a).2.1 ≠ (TX3 b).2.1 := by decide +kernel
theorem tyX3_ok : ∀ k, k < 6 → parseFieldDescriptor (TX3 k).2.2.1 = some (tyX3 k) := by decide +kernel
def RX4 : String := "CelloBoats$Heard"
def TX4 : u_T := fun k => match k with
  | 0 => ("CelloBoats$Heard", "seen", "[I", true)
  | 1 => ("CelloBoats$Heard", "rows", "I", false)
  | 2 => ("CelloBoats$Heard", "heardNotes", "[I", true)
  | 3 => ("CelloBoats$Heard", "hoursThatCome", "I", false)
  | 4 => ("CelloBoats$Heard", "counts", "[I", true)
  | 5 => ("CelloBoats$Heard", "tellingHour", "I", false)
  | _ => ("CelloBoats$Heard", "tellingLeft", "I", false)
def tyX4 : Nat → FieldType := fun k => match k with
  | 0 => .array .int
  | 1 => .int
  | 2 => .array .int
  | 3 => .int
  | 4 => .array .int
  | 5 => .int
  | _ => .int
abbrev wsX40 : List Cond := u_ws RX4 TX4 7
theorem nmX4 : ∀ a, a < 7 → ∀ b, b < 7 → a ≠ b → (TX4 a).2.1 ≠ (TX4 b).2.1 := by decide +kernel
theorem tyX4_ok : ∀ k, k < 7 → parseFieldDescriptor (TX4 k).2.2.1 = some (tyX4 k) := by decide +kernel
def RX5 : String := "CelloBoats$Hull"
def TX5 : u_T := fun k => match k with
  | 0 => ("CelloBoats$Hull", "machine", "LCelloBoats$Machine;", true)
  | 1 => ("CelloBoats$Hull", "chart", "LCelloBoats$Chart;", false)
  | 2 => ("CelloBoats$Hull", "mile", "I", false)
  | 3 => ("CelloBoats$Hull", "tight", "I", false)
  | 4 => ("CelloBoats$Hull", "rosin", "I", false)
  | 5 => ("CelloBoats$Hull", "sunk", "Z", false)
  | 6 => ("CelloBoats$Hull", "place", "I", false)
  | 7 => ("CelloBoats$Hull", "notes", "I", false)
  | _ => ("CelloBoats$Hull", "score", "[I", true)
def tyX5 : Nat → FieldType := fun k => match k with
  | 0 => .object "CelloBoats$Machine"
  | 1 => .object "CelloBoats$Chart"
  | 2 => .int
  | 3 => .int
  | 4 => .int
  | 5 => .boolean
  | 6 => .int
  | 7 => .int
  | _ => .array .int
abbrev wsX50 : List Cond := u_ws RX5 TX5 9
theorem nmX5 : ∀ a, a < 9 → ∀ b, b < 9 → a ≠ b → (TX5 a).2.1 ≠ (TX5 b).2.1 := by decide +kernel
theorem tyX5_ok : ∀ k, k < 9 → parseFieldDescriptor (TX5 k).2.2.1 = some (tyX5 k) := by decide +kernel
def RX6 : String := "CelloBoats$Machine"
def TX6 : u_T := fun k => match k with
  | 0 => ("CelloBoats$Machine", "values", "[I", true)
  | 1 => ("CelloBoats$Machine", "reaches", "[I", true)
  | 2 => ("CelloBoats$Machine", "score", "[I", true)
  | 3 => ("CelloBoats$Machine", "places", "I", false)
  | 4 => ("CelloBoats$Machine", "stack", "[I", true)
  | _ => ("CelloBoats$Machine", "top", "I", false)
def tyX6 : Nat → FieldType := fun k => match k with
  | 0 => .array .int
  | 1 => .array .int
  | 2 => .array .int
  | 3 => .int
  | 4 => .array .int
  | _ => .int
abbrev wsX60 : List Cond := u_ws RX6 TX6 6
theorem nmX6 : ∀ a, a < 6 → ∀ b, b < 6 → a ≠ b → (TX6 a).2.1 ≠ (TX6 b).2.1 := by decide +kernel
theorem tyX6_ok : ∀ k, k < 6 → parseFieldDescriptor (TX6 k).2.2.1 = some (tyX6 k) := by decide +kernel
def RX7 : String := "CelloBoats$Picture"
def TX7 : u_T := fun k => match k with
  | 0 => ("CelloBoats$Picture", "bytes", "[I", true)
  | _ => ("CelloBoats$Picture", "size", "I", false)
def tyX7 : Nat → FieldType := fun k => match k with
  | 0 => .array .int
  | _ => .int
abbrev wsX70 : List Cond := u_ws RX7 TX7 2
theorem nmX7 : ∀ a, a < 2 → ∀ b, b < 2 → a ≠ b → (TX7 a).2.1 ≠ (TX7 b).2.1 := by decide +kernel
theorem tyX7_ok : ∀ k, k < 2 → parseFieldDescriptor (TX7 k).2.2.1 = some (tyX7 k) := by decide +kernel
def RX8 : String := "CelloBoats$Plans"
def TX8 : u_T := fun k => match k with
  | 0 => ("CelloBoats$Plans", "queue", "[I", true)
  | 1 => ("CelloBoats$Plans", "tail", "I", false)
  | 2 => ("CelloBoats$Plans", "met", "[J", true)
  | 3 => ("CelloBoats$Plans", "notes", "I", false)
  | _ => ("CelloBoats$Plans", "row", "I", false)
def tyX8 : Nat → FieldType := fun k => match k with
  | 0 => .array .int
  | 1 => .int
  | 2 => .array .long
  | 3 => .int
  | _ => .int
abbrev wsX80 : List Cond := u_ws RX8 TX8 5
theorem nmX8 : ∀ a, a < 5 → ∀ b, b < 5 → a ≠ b → (TX8 a).2.1 ≠ (TX8 b).2.1 := by decide +kernel
theorem tyX8_ok : ∀ k, k < 5 → parseFieldDescriptor (TX8 k).2.2.1 = some (tyX8 k) := by decide +kernel
def RX9 : String := "CelloBoats$Scan"
def TX9 : u_T := fun k => match k with
  | 0 => ("CelloBoats$Scan", "wordNames", "[I", true)
  | 1 => ("CelloBoats$Scan", "text", "[I", false)
  | 2 => ("CelloBoats$Scan", "size", "I", false)
  | 3 => ("CelloBoats$Scan", "after", "I", false)
  | 4 => ("CelloBoats$Scan", "at", "I", false)
  | 5 => ("CelloBoats$Scan", "kind", "I", false)
  | 6 => ("CelloBoats$Scan", "length", "I", false)
  | 7 => ("CelloBoats$Scan", "value", "I", false)
  | 8 => ("CelloBoats$Scan", "word", "I", false)
  | 9 => ("CelloBoats$Scan", "name", "I", false)
  | 10 => ("CelloBoats$Scan", "fault", "I", false)
  | _ => ("CelloBoats$Scan", "place", "I", false)
def tyX9 : Nat → FieldType := fun k => match k with
  | 0 => .array .int
  | 1 => .array .int
  | 2 => .int
  | 3 => .int
  | 4 => .int
  | 5 => .int
  | 6 => .int
  | 7 => .int
  | 8 => .int
  | 9 => .int
  | 10 => .int
  | _ => .int
abbrev wsX90 : List Cond := u_ws RX9 TX9 12
theorem nmX9 : ∀ a, a < 12 → ∀ b, b < 12 → a ≠ b → (TX9 a).2.1 ≠ (TX9 b).2.1 := by decide +kernel
theorem tyX9_ok : ∀ k, k < 12 → parseFieldDescriptor (TX9 k).2.2.1 = some (tyX9 k) := by decide +kernel
def RX10 : String := "CelloBoats$SoundText"
def TX10 : u_T := fun k => match k with
  | 0 => ("CelloBoats$SoundText", "scan", "LCelloBoats$Scan;", true)
  | 1 => ("CelloBoats$SoundText", "formula", "LCelloBoats$Formula;", true)
  | _ => ("CelloBoats$SoundText", "chart", "LCelloBoats$Chart;", false)
def tyX10 : Nat → FieldType := fun k => match k with
  | 0 => .object "CelloBoats$Scan"
  | 1 => .object "CelloBoats$Formula"
  | _ => .object "CelloBoats$Chart"
abbrev wsX100 : List Cond := u_ws RX10 TX10 3
theorem nmX10 : ∀ a, a < 3 → ∀ b, b < 3 → a ≠ b → (TX10 a).2.1 ≠ (TX10 b).2.1 := by decide +kernel
theorem tyX10_ok : ∀ k, k < 3 → parseFieldDescriptor (TX10 k).2.2.1 = some (tyX10 k) := by decide +kernel
def RX11 : String := "CelloBoats"
def TX11 : u_T := fun k => match k with
  | 0 => ("CelloBoats", "tape", "[I", true)
  | 1 => ("CelloBoats", "tapeSize", "I", false)
  | 2 => ("CelloBoats", "scan", "LCelloBoats$Scan;", true)
  | 3 => ("CelloBoats", "formula", "LCelloBoats$Formula;", true)
  | 4 => ("CelloBoats", "chart", "LCelloBoats$Chart;", false)
  | 5 => ("CelloBoats", "spare", "LCelloBoats$Chart;", false)
  | 6 => ("CelloBoats", "soundText", "LCelloBoats$SoundText;", true)
  | 7 => ("CelloBoats", "state", "[I", true)
  | 8 => ("CelloBoats", "keptRing", "[I", true)
  | 9 => ("CelloBoats", "acts", "LCelloBoats$Acts;", true)
  | 10 => ("CelloBoats", "hull", "LCelloBoats$Hull;", true)
  | 11 => ("CelloBoats", "otherHull", "LCelloBoats$Hull;", true)
  | 12 => ("CelloBoats", "plans", "LCelloBoats$Plans;", true)
  | 13 => ("CelloBoats", "ferry", "LCelloBoats$Ferry;", true)
  | 14 => ("CelloBoats", "heard", "LCelloBoats$Heard;", true)
  | 15 => ("CelloBoats", "picture", "LCelloBoats$Picture;", true)
  | 16 => ("CelloBoats", "refused", "[I", true)
  | _ => ("CelloBoats", "seedNow", "I", false)
def tyX11 : Nat → FieldType := fun k => match k with
  | 0 => .array .int
  | 1 => .int
  | 2 => .object "CelloBoats$Scan"
  | 3 => .object "CelloBoats$Formula"
  | 4 => .object "CelloBoats$Chart"
  | 5 => .object "CelloBoats$Chart"
  | 6 => .object "CelloBoats$SoundText"
  | 7 => .array .int
  | 8 => .array .int
  | 9 => .object "CelloBoats$Acts"
  | 10 => .object "CelloBoats$Hull"
  | 11 => .object "CelloBoats$Hull"
  | 12 => .object "CelloBoats$Plans"
  | 13 => .object "CelloBoats$Ferry"
  | 14 => .object "CelloBoats$Heard"
  | 15 => .object "CelloBoats$Picture"
  | 16 => .array .int
  | _ => .int
abbrev wsX110 : List Cond := u_ws RX11 TX11 18
theorem nmX11 : ∀ a, a < 18 → ∀ b, b < 18 → a ≠ b → (TX11 a).2.1 ≠ (TX11 b).2.1 := by decide +kernel
theorem tyX11_ok : ∀ k, k < 18 → parseFieldDescriptor (TX11 k).2.2.1 = some (tyX11 k) := by decide +kernel
def RX12 : String := "CelloBoatsModel"
def TX12 : u_T := fun k => match k with
  | 0 => ("CelloBoatsModel", "tape", "[I", true)
  | 1 => ("CelloBoatsModel", "taped", "I", false)
  | 2 => ("CelloBoatsModel", "at", "I", false)
  | 3 => ("CelloBoatsModel", "end", "I", false)
  | 4 => ("CelloBoatsModel", "ended", "I", false)
  | 5 => ("CelloBoatsModel", "bad", "I", false)
  | 6 => ("CelloBoatsModel", "badPlace", "I", false)
  | 7 => ("CelloBoatsModel", "fault", "I", false)
  | 8 => ("CelloBoatsModel", "faultPlace", "I", false)
  | 9 => ("CelloBoatsModel", "refused", "[I", true)
  | 10 => ("CelloBoatsModel", "numberPlace", "I", false)
  | 11 => ("CelloBoatsModel", "soundWord", "[C", true)
  | 12 => ("CelloBoatsModel", "boatWord", "[C", true)
  | 13 => ("CelloBoatsModel", "atWord", "[C", true)
  | 14 => ("CelloBoatsModel", "tightWord", "[C", true)
  | 15 => ("CelloBoatsModel", "rosinWord", "[C", true)
  | 16 => ("CelloBoatsModel", "scoreWord", "[C", true)
  | 17 => ("CelloBoatsModel", "wolfWord", "[C", true)
  | 18 => ("CelloBoatsModel", "riderWord", "[C", true)
  | 19 => ("CelloBoatsModel", "keyWord", "[C", true)
  | 20 => ("CelloBoatsModel", "carryWord", "[C", true)
  | 21 => ("CelloBoatsModel", "slipsWord", "[C", true)
  | 22 => ("CelloBoatsModel", "swampWord", "[C", true)
  | 23 => ("CelloBoatsModel", "windWord", "[C", true)
  | 24 => ("CelloBoatsModel", "squallWord", "[C", true)
  | 25 => ("CelloBoatsModel", "noteWord", "[C", true)
  | 26 => ("CelloBoatsModel", "mileWord", "[C", true)
  | 27 => ("CelloBoatsModel", "wentWord", "[C", true)
  | 28 => ("CelloBoatsModel", "numberWord", "[C", true)
  | 29 => ("CelloBoatsModel", "sunkWord", "[C", true)
  | 30 => ("CelloBoatsModel", "hourWord", "[C", true)
  | 31 => ("CelloBoatsModel", "orWord", "[C", true)
  | 32 => ("CelloBoatsModel", "andWord", "[C", true)
  | 33 => ("CelloBoatsModel", "notWord", "[C", true)
  | 34 => ("CelloBoatsModel", "allWord", "[C", true)
  | 35 => ("CelloBoatsModel", "minWord", "[C", true)
  | 36 => ("CelloBoatsModel", "maxWord", "[C", true)
  | 37 => ("CelloBoatsModel", "namePlace", "I", false)
  | 38 => ("CelloBoatsModel", "sound0", "[I", true)
  | 39 => ("CelloBoatsModel", "many", "[I", true)
  | 40 => ("CelloBoatsModel", "names", "[J", true)
  | 41 => ("CelloBoatsModel", "boats", "[I", true)
  | 42 => ("CelloBoatsModel", "notes0", "[I", true)
  | 43 => ("CelloBoatsModel", "keys", "[I", true)
  | 44 => ("CelloBoatsModel", "wolves", "[Z", true)
  | 45 => ("CelloBoatsModel", "codeFrom", "[I", true)
  | 46 => ("CelloBoatsModel", "codeEnd", "[I", true)
  | 47 => ("CelloBoatsModel", "codes", "[I", true)
  | 48 => ("CelloBoatsModel", "coded", "I", false)
  | 49 => ("CelloBoatsModel", "statements", "I", false)
  | 50 => ("CelloBoatsModel", "isSound", "Z", false)
  | 51 => ("CelloBoatsModel", "textKind", "I", false)
  | 52 => ("CelloBoatsModel", "now", "[I", true)
  | 53 => ("CelloBoatsModel", "aside", "[I", true)
  | 54 => ("CelloBoatsModel", "askNote", "I", false)
  | 55 => ("CelloBoatsModel", "askWind", "I", false)
  | 56 => ("CelloBoatsModel", "askWent", "I", false)
  | 57 => ("CelloBoatsModel", "carries", "[I", true)
  | 58 => ("CelloBoatsModel", "isThought", "Z", false)
  | 59 => ("CelloBoatsModel", "landedMany", "I", false)
  | 60 => ("CelloBoatsModel", "sankFirst", "I", false)
  | 61 => ("CelloBoatsModel", "bowed", "[I", true)
  | 62 => ("CelloBoatsModel", "row", "[I", true)
  | 63 => ("CelloBoatsModel", "rowMany", "I", false)
  | 64 => ("CelloBoatsModel", "rows", "[I", true)
  | 65 => ("CelloBoatsModel", "heard", "[I", true)
  | 66 => ("CelloBoatsModel", "hoursMany", "I", false)
  | 67 => ("CelloBoatsModel", "kept0", "[I", true)
  | 68 => ("CelloBoatsModel", "undoable", "I", false)
  | 69 => ("CelloBoatsModel", "newest", "I", false)
  | 70 => ("CelloBoatsModel", "seeded", "J", false)
  | 71 => ("CelloBoatsModel", "firstAsked", "[C", true)
  | 72 => ("CelloBoatsModel", "lastAsked", "[C", true)
  | 73 => ("CelloBoatsModel", "oftenAsked", "[C", true)
  | 74 => ("CelloBoatsModel", "totalAsked", "[C", true)
  | 75 => ("CelloBoatsModel", "mostAsked", "[C", true)
  | 76 => ("CelloBoatsModel", "leastAsked", "[C", true)
  | 77 => ("CelloBoatsModel", "notAsked", "[C", true)
  | 78 => ("CelloBoatsModel", "andAsked", "[C", true)
  | 79 => ("CelloBoatsModel", "orAsked", "[C", true)
  | 80 => ("CelloBoatsModel", "allAsked", "[C", true)
  | 81 => ("CelloBoatsModel", "minAsked", "[C", true)
  | 82 => ("CelloBoatsModel", "maxAsked", "[C", true)
  | 83 => ("CelloBoatsModel", "noteAsked", "[C", true)
  | 84 => ("CelloBoatsModel", "tightAsked", "[C", true)
  | 85 => ("CelloBoatsModel", "rosinAsked", "[C", true)
  | 86 => ("CelloBoatsModel", "mileAsked", "[C", true)
  | 87 => ("CelloBoatsModel", "windAsked", "[C", true)
  | 88 => ("CelloBoatsModel", "wentAsked", "[C", true)
  | 89 => ("CelloBoatsModel", "numberAsked", "[C", true)
  | 90 => ("CelloBoatsModel", "sunkAsked", "[C", true)
  | 91 => ("CelloBoatsModel", "hourAsked", "[C", true)
  | 92 => ("CelloBoatsModel", "carryAsked", "[C", true)
  | 93 => ("CelloBoatsModel", "scoreAsked", "[C", true)
  | 94 => ("CelloBoatsModel", "qCodes", "[I", true)
  | 95 => ("CelloBoatsModel", "qCoded", "I", false)
  | 96 => ("CelloBoatsModel", "qWait", "[I", true)
  | 97 => ("CelloBoatsModel", "qWaits", "I", false)
  | 98 => ("CelloBoatsModel", "qOpened", "I", false)
  | 99 => ("CelloBoatsModel", "qBase", "I", false)
  | 100 => ("CelloBoatsModel", "qPile", "[J", true)
  | 101 => ("CelloBoatsModel", "qPiled", "I", false)
  | 102 => ("CelloBoatsModel", "qAnswer", "J", false)
  | 103 => ("CelloBoatsModel", "qIsNew", "Z", false)
  | 104 => ("CelloBoatsModel", "octet", "[I", true)
  | _ => ("CelloBoatsModel", "octets", "I", false)
def tyX12 : Nat → FieldType := fun k => match k with
  | 0 => .array .int
  | 1 => .int
  | 2 => .int
  | 3 => .int
  | 4 => .int
  | 5 => .int
  | 6 => .int
  | 7 => .int
  | 8 => .int
  | 9 => .array .int
  | 10 => .int
  | 11 => .array .char
  | 12 => .array .char
  | 13 => .array .char
  | 14 => .array .char
  | 15 => .array .char
  | 16 => .array .char
  | 17 => .array .char
  | 18 => .array .char
  | 19 => .array .char
  | 20 => .array .char
  | 21 => .array .char
  | 22 => .array .char
  | 23 => .array .char
  | 24 => .array .char
  | 25 => .array .char
  | 26 => .array .char
  | 27 => .array .char
  | 28 => .array .char
  | 29 => .array .char
  | 30 => .array .char
  | 31 => .array .char
  | 32 => .array .char
  | 33 => .array .char
  | 34 => .array .char
  | 35 => .array .char
  | 36 => .array .char
  | 37 => .int
  | 38 => .array .int
  | 39 => .array .int
  | 40 => .array .long
  | 41 => .array .int
  | 42 => .array .int
  | 43 => .array .int
  | 44 => .array .boolean
  | 45 => .array .int
  | 46 => .array .int
  | 47 => .array .int
  | 48 => .int
  | 49 => .int
  | 50 => .boolean
  | 51 => .int
  | 52 => .array .int
  | 53 => .array .int
  | 54 => .int
  | 55 => .int
  | 56 => .int
  | 57 => .array .int
  | 58 => .boolean
  | 59 => .int
  | 60 => .int
  | 61 => .array .int
  | 62 => .array .int
  | 63 => .int
  | 64 => .array .int
  | 65 => .array .int
  | 66 => .int
  | 67 => .array .int
  | 68 => .int
  | 69 => .int
  | 70 => .long
  | 71 => .array .char
  | 72 => .array .char
  | 73 => .array .char
  | 74 => .array .char
  | 75 => .array .char
  | 76 => .array .char
  | 77 => .array .char
  | 78 => .array .char
  | 79 => .array .char
  | 80 => .array .char
  | 81 => .array .char
  | 82 => .array .char
  | 83 => .array .char
  | 84 => .array .char
  | 85 => .array .char
  | 86 => .array .char
  | 87 => .array .char
  | 88 => .array .char
  | 89 => .array .char
  | 90 => .array .char
  | 91 => .array .char
  | 92 => .array .char
  | 93 => .array .char
  | 94 => .array .int
  | 95 => .int
  | 96 => .array .int
  | 97 => .int
  | 98 => .int
  | 99 => .int
  | 100 => .array .long
  | 101 => .int
  | 102 => .long
  | 103 => .boolean
  | 104 => .array .int
  | _ => .int
abbrev wsX120 : List Cond := u_ws RX12 TX12 106
theorem nmX12 : ∀ a, a < 106 → ∀ b, b < 106 → a ≠ b → (TX12 a).2.1 ≠ (TX12 b).2.1 := by decide +kernel
theorem tyX12_ok : ∀ k, k < 106 → parseFieldDescriptor (TX12 k).2.2.1 = some (tyX12 k) := by decide +kernel
abbrev vwCl : List vw_C := [(RX0, TX0, 3), (RX1, TX1, 15), (RX2, TX2, 5), (RX3, TX3, 6), (RX4, TX4, 7), (RX5, TX5, 9), (RX6, TX6, 6), (RX7, TX7, 2), (RX8, TX8, 5), (RX9, TX9, 12), (RX10, TX10, 3), (RX11, TX11, 18), (RX12, TX12, 106)]
/-- the cells in the order in which they are made: 0 null, 1 the script, 2 the text constant, then the cells of the run -/
def am_lay : List (Nat × Nat) := [(9, 0), (5, 0), (6, 0), (0, 11), (1, 1600), (0, 9), (1, 32), (1, 0), (0, 3), (1, 1600), (0, 1), (1, 6), (1, 6), (1, 6), (1, 6), (1, 66),
  (1, 61), (1, 1600), (1, 3), (1, 3), (0, 1), (1, 6), (1, 6), (1, 6), (1, 6), (1, 66), (1, 61), (1, 1600), (1, 3), (1, 3), (0, 10), (1, 68),
  (1, 256), (0, 0), (1, 1360), (0, 5), (0, 6), (1, 26), (1, 8), (1, 6), (1, 64), (1, 6), (0, 5), (0, 6), (1, 26), (1, 8), (1, 6), (1, 64),
  (1, 6), (0, 8), (1, 4681), (2, 122), (0, 2), (1, 6), (1, 6), (1, 6), (1, 7), (0, 4), (1, 32), (1, 186), (1, 9), (0, 7), (1, 69), (1, 6),
  (0, 12), (1, 1600), (1, 6), (3, 5), (3, 4), (3, 2), (3, 5), (3, 5), (3, 5), (3, 4), (3, 5), (3, 3), (3, 5), (3, 5), (3, 5), (3, 4),
  (3, 6), (3, 4), (3, 4), (3, 4), (3, 6), (3, 4), (3, 4), (3, 2), (3, 3), (3, 3), (3, 3), (3, 3), (3, 3), (1, 6), (1, 6), (2, 32),
  (1, 48), (1, 36), (1, 12), (4, 976), (1, 6), (1, 6), (1, 3200), (1, 188), (1, 67), (1, 48), (1, 6), (1, 6), (1, 32), (1, 186), (1, 3760), (3, 5),
  (3, 4), (3, 5), (3, 5), (3, 4), (3, 5), (3, 3), (3, 3), (3, 2), (3, 3), (3, 3), (3, 3), (3, 4), (3, 5), (3, 5), (3, 4), (3, 4),
  (3, 4), (3, 6), (3, 4), (3, 4), (3, 5), (3, 5), (1, 1700), (1, 1700), (2, 1700), (1, 69)]
/-- the fields of each class: 0 int, 1 boolean, 2 long, 3 a reference; whether final -/
def am_ft : List (List (Nat × Bool)) := [
  [(3, true), (0, false), (0, false)],
  [(0, false), (0, false), (0, false), (0, false), (0, false), (0, false), (3, true), (3, true), (3, true), (3, true), (3, true), (3, true), (3, true), (3, true), (3, true)],
  [(3, true), (3, true), (3, true), (0, false), (3, true)],
  [(3, true), (3, true), (0, false), (1, false), (0, false), (0, false)],
  [(3, true), (0, false), (3, true), (0, false), (3, true), (0, false), (0, false)],
  [(3, true), (3, false), (0, false), (0, false), (0, false), (1, false), (0, false), (0, false), (3, true)],
  [(3, true), (3, true), (3, true), (0, false), (3, true), (0, false)],
  [(3, true), (0, false)],
  [(3, true), (0, false), (3, true), (0, false), (0, false)],
  [(3, true), (3, false), (0, false), (0, false), (0, false), (0, false), (0, false), (0, false), (0, false), (0, false), (0, false), (0, false)],
  [(3, true), (3, true), (3, false)],
  [(3, true), (0, false), (3, true), (3, true), (3, false), (3, false), (3, true), (3, true), (3, true), (3, true), (3, true), (3, true), (3, true), (3, true), (3, true), (3, true), (3, true), (0, false)],
  [(3, true), (0, false), (0, false), (0, false), (0, false), (0, false), (0, false), (0, false), (0, false), (3, true), (0, false), (3, true), (3, true), (3, true), (3, true), (3, true), (3, true), (3, true), (3, true), (3, true), (3, true), (3, true), (3, true), (3, true), (3, true), (3, true), (3, true), (3, true), (3, true), (3, true), (3, true), (3, true), (3, true), (3, true), (3, true), (3, true), (3, true), (0, false), (3, true), (3, true), (3, true), (3, true), (3, true), (3, true), (3, true), (3, true), (3, true), (3, true), (0, false), (0, false), (1, false), (0, false), (3, true), (3, true), (0, false), (0, false), (0, false), (3, true), (1, false), (0, false), (0, false), (3, true), (3, true), (0, false), (3, true), (3, true), (0, false), (3, true), (0, false), (0, false), (2, false), (3, true), (3, true), (3, true), (3, true), (3, true), (3, true), (3, true), (3, true), (3, true), (3, true), (3, true), (3, true), (3, true), (3, true), (3, true), (3, true), (3, true), (3, true), (3, true), (3, true), (3, true), (3, true), (3, true), (3, true), (0, false), (3, true), (0, false), (0, false), (0, false), (3, true), (0, false), (2, false), (1, false), (3, true), (0, false)]]
def am_kc : List Int := [-1000000, 1000000, 1103515245, 2147483647]
def am_kl : List Int := [-1000000000000000, -1000000, -9, -1, 2, 3, 5, 7, 9, 27, 64, 97, 99, 12345, 1000000, 1103515245, 2147483648]
def am_own : List String := ["CelloBoats$Acts", "CelloBoats$Chart", "CelloBoats$Ferry", "CelloBoats$Formula", "CelloBoats$Heard", "CelloBoats$Hull", "CelloBoats$Machine", "CelloBoats$Picture", "CelloBoats$Plans", "CelloBoats$Scan", "CelloBoats$SoundText", "CelloBoats", "CelloBoatsModel", "CelloBoatsLaw", "java/lang/Math", "java/util/Arrays"]
def am_tab (p : Nat) : Option Cond := match p / 240 with
  | 0 => am_nth tables_1_1 (p % 240)
  | 1 => am_nth tables_1_2 (p % 240)
  | 2 => am_nth tables_1_3 (p % 240)
  | 3 => am_nth tables_1_4 (p % 240)
  | 4 => am_nth tables_1_5 (p % 240)
  | 5 => am_nth tables_1_6 (p % 240)
  | 6 => am_nth tables_1_7 (p % 240)
  | 7 => am_nth tables_1_8 (p % 240)
  | 8 => am_nth tables_1_9 (p % 240)
  | _ => (am_nth lw_privs (p - 10000)).map (fun q => Cond.selects q.1.cls q.1 q.1)
abbrev am_Mr : Type := MethodName × ByteArray × Nat × Option FieldType × Nat × Nat × Nat × Nat × Nat × Nat × Nat
/-- a method: name, code, locals, answer, parameters, kind (0 of an object, 1 static, 2 a constructor, 3 the law), class; the places of its words: code, initialized, instanceMethod or static, selects -/
def am_m0 : am_Mr := (⟨"CelloBoats$Acts", "<init>", "()V"⟩, prog_2_method_1_code, 1, none, 0, 2, 0, 266, 10, 265, 0) -- X0_init
def am_m1 : am_Mr := (⟨"CelloBoats$Acts", "keep", "([I)V"⟩, prog_2_method_2_code, 2, none, 1, 0, 0, 1037, 10, 1035, 1036) -- X0_keep
def am_m2 : am_Mr := (⟨"CelloBoats$Acts", "takeBack", "([I)Z"⟩, prog_2_method_3_code, 2, (some .boolean), 1, 0, 0, 1094, 10, 1092, 1093) -- X0_takeBack
def am_m3 : am_Mr := (⟨"CelloBoats$Chart", "<init>", "()V"⟩, prog_3_method_1_code, 1, none, 0, 2, 1, 163, 8, 162, 0) -- X1_init
def am_m4 : am_Mr := (⟨"CelloBoats$Chart", "clear", "()V"⟩, prog_3_method_2_code, 1, none, 0, 0, 1, 552, 8, 550, 551) -- X1_clear
def am_m5 : am_Mr := (⟨"CelloBoats$Chart", "isTold", "(I)Z"⟩, prog_3_method_3_code, 2, (some .boolean), 1, 0, 1, 600, 8, 598, 599) -- X1_isTold
def am_m6 : am_Mr := (⟨"CelloBoats$Chart", "isWolf", "(II)Z"⟩, prog_3_method_4_code, 3, (some .boolean), 2, 0, 1, 707, 8, 705, 706) -- X1_isWolf
def am_m7 : am_Mr := (⟨"CelloBoats$Chart", "addWolf", "(II)V"⟩, prog_3_method_5_code, 3, none, 2, 0, 1, 711, 8, 709, 710) -- X1_addWolf
def am_m8 : am_Mr := (⟨"CelloBoats$Chart", "boatNamed", "(I)I"⟩, prog_3_method_6_code, 3, (some .int), 1, 0, 1, 694, 8, 692, 693) -- X1_boatNamed
def am_m9 : am_Mr := (⟨"CelloBoats$Chart", "isNamed", "(I)Z"⟩, prog_3_method_7_code, 3, (some .boolean), 1, 0, 1, 690, 8, 688, 689) -- X1_isNamed
def am_m10 : am_Mr := (⟨"CelloBoats$Ferry", "<init>", "()V"⟩, prog_4_method_1_code, 1, none, 0, 2, 2, 381, 14, 380, 0) -- X2_init
def am_m11 : am_Mr := (⟨"CelloBoats$Ferry", "fill", "(I)I"⟩, prog_4_method_2_code, 3, (some .int), 1, 0, 2, 977, 14, 975, 976) -- X2_fill
def am_m12 : am_Mr := (⟨"CelloBoats$Ferry", "seat", "(II)Z"⟩, prog_4_method_3_code, 4, (some .boolean), 2, 0, 2, 984, 14, 983, 10042) -- X2_seat
def am_m13 : am_Mr := (⟨"CelloBoats$Formula", "<init>", "(LCelloBoats$Scan;)V"⟩, prog_5_method_1_code, 2, none, 1, 2, 3, 133, 7, 132, 0) -- X3_init
def am_m14 : am_Mr := (⟨"CelloBoats$Formula", "clear", "()V"⟩, prog_5_method_2_code, 1, none, 0, 0, 3, 559, 7, 557, 558) -- X3_clear
def am_m15 : am_Mr := (⟨"CelloBoats$Formula", "begin", "(I)V"⟩, prog_5_method_3_code, 2, none, 1, 0, 3, 605, 7, 603, 604) -- X3_begin
def am_m16 : am_Mr := (⟨"CelloBoats$Formula", "addWithout", "(I)V"⟩, prog_5_method_4_code, 2, none, 1, 0, 3, 725, 7, 723, 724) -- X3_addWithout
def am_m17 : am_Mr := (⟨"CelloBoats$Formula", "question", "()I"⟩, prog_5_method_5_code, 2, (some .int), 0, 0, 3, 1106, 7, 1104, 1105) -- X3_question
def am_m18 : am_Mr := (⟨"CelloBoats$Formula", "emit", "(I)V"⟩, prog_5_method_6_code, 2, none, 1, 0, 3, 628, 7, 627, 10010) -- X3_emit
def am_m19 : am_Mr := (⟨"CelloBoats$Formula", "opens", "()Z"⟩, prog_5_method_7_code, 1, (some .boolean), 0, 0, 3, 622, 7, 621, 10009) -- X3_opens
def am_m20 : am_Mr := (⟨"CelloBoats$Formula", "test", "()V"⟩, prog_5_method_8_code, 2, none, 0, 0, 3, 609, 7, 607, 608) -- X3_test
def am_m21 : am_Mr := (⟨"CelloBoats$Formula", "both", "()V"⟩, prog_5_method_9_code, 2, none, 0, 0, 3, 613, 7, 612, 10007) -- X3_both
def am_m22 : am_Mr := (⟨"CelloBoats$Formula", "fact", "()V"⟩, prog_5_method_10_code, 2, none, 0, 0, 3, 617, 7, 616, 10008) -- X3_fact
def am_m23 : am_Mr := (⟨"java/util/Arrays", "fill", "([II)V"⟩, prog_20_method_103_code, 4, none, 2, 1, 15, 555, 19, 554, 0) -- J_fill
def am_m24 : am_Mr := (⟨"CelloBoats$Formula", "sum", "()V"⟩, prog_5_method_11_code, 3, none, 0, 0, 3, 642, 7, 640, 641) -- X3_sum
def am_m25 : am_Mr := (⟨"CelloBoats$Formula", "product", "()V"⟩, prog_5_method_12_code, 3, none, 0, 0, 3, 646, 7, 645, 10011) -- X3_product
def am_m26 : am_Mr := (⟨"CelloBoats$Formula", "part", "()V"⟩, prog_5_method_13_code, 2, none, 0, 0, 3, 650, 7, 649, 10012) -- X3_part
def am_m27 : am_Mr := (⟨"CelloBoats$Formula", "pair", "(I)V"⟩, prog_5_method_14_code, 2, none, 1, 0, 3, 660, 7, 659, 10013) -- X3_pair
def am_m28 : am_Mr := (⟨"CelloBoats$Formula", "isValue", "(I)Z"⟩, prog_5_method_15_code, 2, (some .boolean), 1, 0, 3, 665, 7, 664, 10014) -- X3_isValue
def am_m29 : am_Mr := (⟨"CelloBoats$Heard", "<init>", "()V"⟩, prog_6_method_1_code, 1, none, 0, 2, 4, 405, 15, 404, 0) -- X4_init
def am_m30 : am_Mr := (⟨"CelloBoats$Heard", "take", "([II)Z"⟩, prog_6_method_2_code, 4, (some .boolean), 2, 0, 4, 992, 15, 990, 991) -- X4_take
def am_m31 : am_Mr := (⟨"CelloBoats$Heard", "listen", "(LCelloBoats$Hull;LCelloBoats$Chart;[I)V"⟩, prog_6_method_3_code, 6, none, 3, 0, 4, 1001, 15, 999, 1000) -- X4_listen
def am_m32 : am_Mr := (⟨"CelloBoats$Heard", "fitting", "(I)I"⟩, prog_6_method_4_code, 4, (some .int), 1, 0, 4, 1009, 15, 1007, 1008) -- X4_fitting
def am_m33 : am_Mr := (⟨"CelloBoats$Heard", "fits", "(I)Z"⟩, prog_6_method_5_code, 3, (some .boolean), 1, 0, 4, 1013, 15, 1012, 10043) -- X4_fits
def am_m34 : am_Mr := (⟨"CelloBoats$Heard", "weigh", "(I)Z"⟩, prog_6_method_6_code, 4, (some .boolean), 1, 0, 4, 1021, 15, 1019, 1020) -- X4_weigh
def am_m35 : am_Mr := (⟨"CelloBoats$Heard", "mostLeft", "(II)I"⟩, prog_6_method_7_code, 6, (some .int), 2, 0, 4, 1025, 15, 1024, 10044) -- X4_mostLeft
def am_m36 : am_Mr := (⟨"CelloBoats$Hull", "<init>", "(LCelloBoats$Chart;)V"⟩, prog_7_method_1_code, 2, none, 1, 2, 5, 283, 11, 282, 0) -- X5_init
def am_m37 : am_Mr := (⟨"CelloBoats$Hull", "load", "(LCelloBoats$Chart;[II)V"⟩, prog_7_method_2_code, 5, none, 3, 0, 5, 801, 11, 799, 800) -- X5_load
def am_m38 : am_Mr := (⟨"CelloBoats$Hull", "store", "([II)V"⟩, prog_7_method_3_code, 4, none, 2, 0, 5, 1071, 11, 1069, 1070) -- X5_store
def am_m39 : am_Mr := (⟨"CelloBoats$Hull", "isLanded", "()Z"⟩, prog_7_method_4_code, 1, (some .boolean), 0, 0, 5, 891, 11, 889, 890) -- X5_isLanded
def am_m40 : am_Mr := (⟨"CelloBoats$Hull", "change", "(II)V"⟩, prog_7_method_5_code, 3, none, 2, 0, 5, 965, 11, 963, 964) -- X5_change
def am_m41 : am_Mr := (⟨"CelloBoats$Hull", "nextNote", "()I"⟩, prog_7_method_6_code, 1, (some .int), 0, 0, 5, 887, 11, 885, 886) -- X5_nextNote
def am_m42 : am_Mr := (⟨"CelloBoats$Hull", "show", "(II)V"⟩, prog_7_method_7_code, 3, none, 2, 0, 5, 811, 11, 809, 810) -- X5_show
def am_m43 : am_Mr := (⟨"CelloBoats$Hull", "reach", "(II)I"⟩, prog_7_method_8_code, 4, (some .int), 2, 0, 5, 806, 11, 804, 805) -- X5_reach
def am_m44 : am_Mr := (⟨"CelloBoats$Hull", "bow", "(II)V"⟩, prog_7_method_9_code, 5, none, 2, 0, 5, 895, 11, 893, 894) -- X5_bow
def am_m45 : am_Mr := (⟨"CelloBoats$Hull", "pass", "(I)I"⟩, prog_7_method_10_code, 3, (some .int), 1, 0, 5, 883, 11, 881, 882) -- X5_pass
def am_m46 : am_Mr := (⟨"CelloBoats$Hull", "landsBehind", "(I)I"⟩, prog_7_method_11_code, 3, (some .int), 1, 0, 5, 904, 11, 902, 903) -- X5_landsBehind
def am_m47 : am_Mr := (⟨"CelloBoats$Hull", "sinksIn", "(I)I"⟩, prog_7_method_12_code, 3, (some .int), 1, 0, 5, 913, 11, 911, 912) -- X5_sinksIn
def am_m48 : am_Mr := (⟨"CelloBoats$Machine", "<init>", "()V"⟩, prog_8_method_1_code, 1, none, 0, 2, 6, 289, 12, 288, 0) -- X6_init
def am_m49 : am_Mr := (⟨"CelloBoats$Machine", "run", "([III)I"⟩, prog_8_method_2_code, 8, (some .int), 3, 0, 6, 815, 12, 813, 814) -- X6_run
def am_m50 : am_Mr := (⟨"CelloBoats$Machine", "push", "(I)V"⟩, prog_8_method_3_code, 2, none, 1, 0, 6, 822, 12, 821, 10031) -- X6_push
def am_m51 : am_Mr := (⟨"CelloBoats$Machine", "pop", "()I"⟩, prog_8_method_4_code, 1, (some .int), 0, 0, 6, 830, 12, 829, 10033) -- X6_pop
def am_m52 : am_Mr := (⟨"CelloBoats$Machine", "valueOf", "(I)I"⟩, prog_8_method_5_code, 2, (some .int), 1, 0, 6, 826, 12, 825, 10032) -- X6_valueOf
def am_m53 : am_Mr := (⟨"CelloBoats$Machine", "workOne", "(II)I"⟩, prog_8_method_6_code, 3, (some .int), 2, 0, 6, 834, 12, 833, 10034) -- X6_workOne
def am_m54 : am_Mr := (⟨"CelloBoats$Machine", "workTwo", "(III)I"⟩, prog_8_method_7_code, 3, (some .int), 3, 1, 6, 837, 12, 836, 0) -- X6_workTwo
def am_m55 : am_Mr := (⟨"CelloBoats$Machine", "cut", "(J)I"⟩, prog_8_method_8_code, 2, (some .int), 1, 1, 6, 840, 12, 839, 0) -- X6_cut
def am_m56 : am_Mr := (⟨"CelloBoats$Picture", "<init>", "()V"⟩, prog_9_method_1_code, 1, none, 0, 2, 7, 436, 16, 435, 0) -- X7_init
def am_m57 : am_Mr := (⟨"CelloBoats$Picture", "write", "(LCelloBoats$Chart;[I)V"⟩, prog_9_method_2_code, 5, none, 2, 0, 7, 1138, 16, 1136, 1137) -- X7_write
def am_m58 : am_Mr := (⟨"CelloBoats$Picture", "check", "([II)I"⟩, prog_9_method_3_code, 4, (some .int), 2, 1, 7, 1142, 16, 1141, 0) -- X7_check
def am_m59 : am_Mr := (⟨"CelloBoats$Picture", "lengthFor", "(LCelloBoats$Chart;)I"⟩, prog_9_method_4_code, 3, (some .int), 1, 1, 7, 1156, 16, 1155, 0) -- X7_lengthFor
def am_m60 : am_Mr := (⟨"CelloBoats$Picture", "isOf", "([IILCelloBoats$Chart;)Z"⟩, prog_9_method_5_code, 6, (some .boolean), 3, 1, 7, 1153, 16, 1152, 0) -- X7_isOf
def am_m61 : am_Mr := (⟨"CelloBoats$Picture", "isBoatRow", "([IILCelloBoats$Chart;I)Z"⟩, prog_9_method_6_code, 7, (some .boolean), 4, 1, 7, 1159, 16, 1158, 0) -- X7_isBoatRow
def am_m62 : am_Mr := (⟨"CelloBoats$Picture", "read", "([ILCelloBoats$Chart;[I)V"⟩, prog_9_method_7_code, 6, none, 3, 1, 7, 1163, 16, 1162, 0) -- X7_read
def am_m63 : am_Mr := (⟨"CelloBoats$Plans", "<init>", "()V"⟩, prog_10_method_1_code, 1, none, 0, 2, 8, 358, 13, 357, 0) -- X8_init
def am_m64 : am_Mr := (⟨"CelloBoats$Plans", "find", "(LCelloBoats$Hull;II)I"⟩, prog_10_method_2_code, 8, (some .int), 3, 0, 8, 925, 13, 923, 924) -- X8_find
def am_m65 : am_Mr := (⟨"CelloBoats$Plans", "noteAt", "(I)I"⟩, prog_10_method_3_code, 2, (some .int), 1, 0, 8, 949, 13, 947, 948) -- X8_noteAt
def am_m66 : am_Mr := (⟨"CelloBoats$Plans", "pack", "(III)I"⟩, prog_10_method_4_code, 3, (some .int), 3, 1, 8, 929, 13, 928, 0) -- X8_pack
def am_m67 : am_Mr := (⟨"CelloBoats$Plans", "follow", "(LCelloBoats$Hull;IIII)Z"⟩, prog_10_method_5_code, 10, (some .boolean), 5, 0, 8, 937, 13, 936, 10038) -- X8_follow
def am_m68 : am_Mr := (⟨"CelloBoats$Plans", "append", "(LCelloBoats$Hull;I)V"⟩, prog_10_method_6_code, 6, none, 2, 0, 8, 945, 13, 944, 10039) -- X8_append
def am_m69 : am_Mr := (⟨"CelloBoats$Scan", "<init>", "()V"⟩, prog_11_method_1_code, 6, none, 0, 2, 9, 33, 2, 32, 0) -- X9_init
def am_m70 : am_Mr := (⟨"CelloBoats$Scan", "start", "([II)V"⟩, prog_11_method_2_code, 3, none, 2, 0, 9, 525, 2, 523, 524) -- X9_start
def am_m71 : am_Mr := (⟨"CelloBoats$Scan", "fail", "(II)V"⟩, prog_11_method_3_code, 3, none, 2, 0, 9, 567, 2, 565, 566) -- X9_fail
def am_m72 : am_Mr := (⟨"CelloBoats$Scan", "failHere", "()V"⟩, prog_11_method_4_code, 1, none, 0, 0, 9, 579, 2, 577, 578) -- X9_failHere
def am_m73 : am_Mr := (⟨"CelloBoats$Scan", "next", "()V"⟩, prog_11_method_5_code, 5, none, 0, 0, 9, 532, 2, 530, 531) -- X9_next
def am_m74 : am_Mr := (⟨"CelloBoats$Scan", "run", "(II)I"⟩, prog_11_method_6_code, 5, (some .int), 2, 0, 9, 536, 2, 535, 10002) -- X9_run
def am_m75 : am_Mr := (⟨"CelloBoats$Scan", "readWord", "(I)V"⟩, prog_11_method_7_code, 3, none, 1, 0, 9, 540, 2, 539, 10003) -- X9_readWord
def am_m76 : am_Mr := (⟨"CelloBoats$Scan", "readNumber", "(I)V"⟩, prog_11_method_8_code, 3, none, 1, 0, 9, 544, 2, 543, 10004) -- X9_readNumber
def am_m77 : am_Mr := (⟨"CelloBoats$SoundText", "formulaHere", "()I"⟩, prog_12_method_4_code, 1, (some .int), 0, 0, 10, 588, 9, 587, 10005) -- X10_formulaHere
def am_m78 : am_Mr := (⟨"java/util/Arrays", "fill", "([JJ)V"⟩, prog_20_method_101_code, 5, none, 2, 1, 15, 932, 19, 931, 0) -- J_fillL
def am_m79 : am_Mr := (⟨"CelloBoats$Scan", "isEnd", "()Z"⟩, prog_11_method_9_code, 1, (some .boolean), 0, 0, 9, 563, 2, 561, 562) -- X9_isEnd
def am_m80 : am_Mr := (⟨"CelloBoats$Scan", "isNumber", "()Z"⟩, prog_11_method_10_code, 1, (some .boolean), 0, 0, 9, 655, 2, 653, 654) -- X9_isNumber
def am_m81 : am_Mr := (⟨"CelloBoats$Scan", "isSign", "(I)Z"⟩, prog_11_method_11_code, 2, (some .boolean), 1, 0, 9, 632, 2, 630, 631) -- X9_isSign
def am_m82 : am_Mr := (⟨"CelloBoats$Scan", "isWord", "(I)Z"⟩, prog_11_method_12_code, 2, (some .boolean), 1, 0, 9, 575, 2, 573, 574) -- X9_isWord
def am_m83 : am_Mr := (⟨"CelloBoats$Scan", "wordHere", "()I"⟩, prog_11_method_13_code, 1, (some .int), 0, 0, 9, 592, 2, 590, 591) -- X9_wordHere
def am_m84 : am_Mr := (⟨"CelloBoats$Scan", "signHere", "()I"⟩, prog_11_method_14_code, 1, (some .int), 0, 0, 9, 669, 2, 667, 668) -- X9_signHere
def am_m85 : am_Mr := (⟨"CelloBoats$Scan", "needSign", "(I)V"⟩, prog_11_method_15_code, 2, none, 1, 0, 9, 637, 2, 635, 636) -- X9_needSign
def am_m86 : am_Mr := (⟨"CelloBoats$Scan", "needWord", "(I)V"⟩, prog_11_method_16_code, 2, none, 1, 0, 9, 571, 2, 569, 570) -- X9_needWord
def am_m87 : am_Mr := (⟨"CelloBoats$Scan", "needNumber", "(II)I"⟩, prog_11_method_17_code, 4, (some .int), 2, 0, 9, 584, 2, 582, 583) -- X9_needNumber
def am_m88 : am_Mr := (⟨"CelloBoats$Scan", "needName", "()V"⟩, prog_11_method_18_code, 1, none, 0, 0, 9, 686, 2, 684, 685) -- X9_needName
def am_m89 : am_Mr := (⟨"CelloBoats$SoundText", "<init>", "(LCelloBoats$Scan;LCelloBoats$Formula;LCelloBoats$Chart;)V"⟩, prog_12_method_1_code, 4, none, 3, 2, 10, 250, 9, 249, 0) -- X10_init
def am_m90 : am_Mr := (⟨"CelloBoats$SoundText", "read", "(LCelloBoats$Chart;)I"⟩, prog_12_method_2_code, 4, (some .int), 1, 0, 10, 548, 9, 546, 547) -- X10_read
def am_m91 : am_Mr := (⟨"CelloBoats$SoundText", "fillIn", "()V"⟩, prog_12_method_3_code, 2, none, 0, 0, 10, 721, 9, 720, 10021) -- X10_fillIn
def am_m92 : am_Mr := (⟨"CelloBoats$SoundText", "statement", "()V"⟩, prog_12_method_5_code, 1, none, 0, 0, 10, 674, 9, 673, 10015) -- X10_statement
def am_m93 : am_Mr := (⟨"CelloBoats$SoundText", "newName", "()I"⟩, prog_12_method_6_code, 2, (some .int), 0, 0, 10, 682, 9, 681, 10017) -- X10_newName
def am_m94 : am_Mr := (⟨"CelloBoats$SoundText", "readBoat", "()V"⟩, prog_12_method_7_code, 2, none, 0, 0, 10, 678, 9, 677, 10016) -- X10_readBoat
def am_m95 : am_Mr := (⟨"CelloBoats$SoundText", "readScore", "()V"⟩, prog_12_method_8_code, 5, none, 0, 0, 10, 698, 9, 697, 10018) -- X10_readScore
def am_m96 : am_Mr := (⟨"CelloBoats$SoundText", "readWolf", "()V"⟩, prog_12_method_9_code, 4, none, 0, 0, 10, 703, 9, 702, 10019) -- X10_readWolf
def am_m97 : am_Mr := (⟨"CelloBoats$SoundText", "readRider", "()V"⟩, prog_12_method_10_code, 2, none, 0, 0, 10, 715, 9, 714, 10020) -- X10_readRider
def am_m98 : am_Mr := (⟨"CelloBoats$SoundText", "readFormula", "(I)V"⟩, prog_12_method_11_code, 2, none, 1, 0, 10, 596, 9, 595, 10006) -- X10_readFormula
def am_m99 : am_Mr := (⟨"CelloBoats", "<init>", "()V"⟩, prog_1_method_1_code, 1, none, 0, 2, 11, 25, 1, 24, 0) -- X11_init
def am_m100 : am_Mr := (⟨"CelloBoats", "feed", "(IIIII)I"⟩, prog_1_method_2_code, 6, (some .int), 5, 0, 11, 505, 1, 503, 504) -- X11_feed
def am_m101 : am_Mr := (⟨"CelloBoats", "end", "(I)Z"⟩, prog_1_method_3_code, 2, (some .boolean), 1, 0, 11, 517, 1, 515, 516) -- X11_end
def am_m102 : am_Mr := (⟨"CelloBoats", "sound", "()I"⟩, prog_1_method_4_code, 3, (some .int), 0, 0, 11, 521, 1, 519, 520) -- X11_sound
def am_m103 : am_Mr := (⟨"CelloBoats", "fault", "(I)I"⟩, prog_1_method_5_code, 2, (some .int), 1, 0, 11, 737, 1, 735, 736) -- X11_fault
def am_m104 : am_Mr := (⟨"CelloBoats", "has", "(I)I"⟩, prog_1_method_6_code, 2, (some .int), 1, 0, 11, 741, 1, 739, 740) -- X11_has
def am_m105 : am_Mr := (⟨"CelloBoats", "letter", "(III)I"⟩, prog_1_method_7_code, 4, (some .int), 3, 0, 11, 766, 1, 764, 765) -- X11_letter
def am_m106 : am_Mr := (⟨"CelloBoats", "boat", "(II)I"⟩, prog_1_method_8_code, 3, (some .int), 2, 0, 11, 781, 1, 779, 780) -- X11_boat
def am_m107 : am_Mr := (⟨"CelloBoats", "score", "(II)I"⟩, prog_1_method_9_code, 3, (some .int), 2, 0, 11, 785, 1, 783, 784) -- X11_score
def am_m108 : am_Mr := (⟨"CelloBoats", "carry", "(II)J"⟩, prog_1_method_10_code, 3, (some .long), 2, 0, 11, 793, 1, 791, 792) -- X11_carry
def am_m109 : am_Mr := (⟨"CelloBoats", "wolf", "(II)I"⟩, prog_1_method_11_code, 3, (some .int), 2, 0, 11, 854, 1, 852, 853) -- X11_wolf
def am_m110 : am_Mr := (⟨"CelloBoats", "rider", "(I)I"⟩, prog_1_method_12_code, 2, (some .int), 1, 0, 11, 867, 1, 865, 866) -- X11_rider
def am_m111 : am_Mr := (⟨"CelloBoats", "kept", "(II)I"⟩, prog_1_method_13_code, 5, (some .int), 2, 0, 11, 871, 1, 869, 870) -- X11_kept
def am_m112 : am_Mr := (⟨"CelloBoats", "later", "(III)I"⟩, prog_1_method_14_code, 5, (some .int), 3, 0, 11, 875, 1, 873, 874) -- X11_later
def am_m113 : am_Mr := (⟨"CelloBoats", "lands", "(I)I"⟩, prog_1_method_15_code, 2, (some .int), 1, 0, 11, 900, 1, 898, 899) -- X11_lands
def am_m114 : am_Mr := (⟨"CelloBoats", "cat", "(I)I"⟩, prog_1_method_16_code, 6, (some .int), 1, 0, 11, 909, 1, 907, 908) -- X11_cat
def am_m115 : am_Mr := (⟨"CelloBoats", "meets", "(II)I"⟩, prog_1_method_17_code, 5, (some .int), 2, 0, 11, 917, 1, 915, 916) -- X11_meets
def am_m116 : am_Mr := (⟨"CelloBoats", "plan", "(III)I"⟩, prog_1_method_18_code, 5, (some .int), 3, 0, 11, 921, 1, 919, 920) -- X11_plan
def am_m117 : am_Mr := (⟨"CelloBoats", "strung", "(III)I"⟩, prog_1_method_19_code, 8, (some .int), 3, 0, 11, 953, 1, 951, 952) -- X11_strung
def am_m118 : am_Mr := (⟨"CelloBoats", "better", "(III)I"⟩, prog_1_method_20_code, 9, (some .int), 3, 0, 11, 961, 1, 959, 960) -- X11_better
def am_m119 : am_Mr := (⟨"CelloBoats", "rides", "(I)I"⟩, prog_1_method_21_code, 3, (some .int), 1, 0, 11, 969, 1, 967, 968) -- X11_rides
def am_m120 : am_Mr := (⟨"CelloBoats", "see", "()I"⟩, prog_1_method_22_code, 2, (some .int), 0, 0, 11, 988, 1, 986, 987) -- X11_see
def am_m121 : am_Mr := (⟨"CelloBoats", "which", "()I"⟩, prog_1_method_23_code, 1, (some .int), 0, 0, 11, 997, 1, 995, 996) -- X11_which
def am_m122 : am_Mr := (⟨"CelloBoats", "tells", "(I)I"⟩, prog_1_method_24_code, 2, (some .int), 1, 0, 11, 1017, 1, 1015, 1016) -- X11_tells
def am_m123 : am_Mr := (⟨"CelloBoats", "tune", "(II)Z"⟩, prog_1_method_25_code, 3, (some .boolean), 2, 0, 11, 1030, 1, 1028, 1029) -- X11_tune
def am_m124 : am_Mr := (⟨"CelloBoats", "rosin", "(II)I"⟩, prog_1_method_26_code, 3, (some .int), 2, 0, 11, 1047, 1, 1045, 1046) -- X11_rosin
def am_m125 : am_Mr := (⟨"CelloBoats", "raise", "(I)Z"⟩, prog_1_method_27_code, 2, (some .boolean), 1, 0, 11, 1051, 1, 1049, 1050) -- X11_raise
def am_m126 : am_Mr := (⟨"CelloBoats", "note", "(III)Z"⟩, prog_1_method_28_code, 4, (some .boolean), 3, 0, 11, 1055, 1, 1053, 1054) -- X11_note
def am_m127 : am_Mr := (⟨"CelloBoats", "hours", "(I)I"⟩, prog_1_method_29_code, 4, (some .int), 1, 0, 11, 1059, 1, 1057, 1058) -- X11_hours
def am_m128 : am_Mr := (⟨"CelloBoats", "chance", "(I)I"⟩, prog_1_method_30_code, 5, (some .int), 1, 0, 11, 1080, 1, 1078, 1079) -- X11_chance
def am_m129 : am_Mr := (⟨"CelloBoats", "undo", "()Z"⟩, prog_1_method_31_code, 1, (some .boolean), 0, 0, 11, 1090, 1, 1088, 1089) -- X11_undo
def am_m130 : am_Mr := (⟨"CelloBoats", "seed", "(I)Z"⟩, prog_1_method_32_code, 2, (some .boolean), 1, 0, 11, 1098, 1, 1096, 1097) -- X11_seed
def am_m131 : am_Mr := (⟨"CelloBoats", "ask", "()J"⟩, prog_1_method_33_code, 2, (some .long), 0, 0, 11, 1102, 1, 1100, 1101) -- X11_ask
def am_m132 : am_Mr := (⟨"CelloBoats", "image", "()I"⟩, prog_1_method_34_code, 1, (some .int), 0, 0, 11, 1134, 1, 1132, 1133) -- X11_image
def am_m133 : am_Mr := (⟨"CelloBoats", "octet", "(I)I"⟩, prog_1_method_35_code, 2, (some .int), 1, 0, 11, 1146, 1, 1144, 1145) -- X11_octet
def am_m134 : am_Mr := (⟨"CelloBoats", "on", "()Z"⟩, prog_1_method_36_code, 2, (some .boolean), 0, 0, 11, 1150, 1, 1148, 1149) -- X11_on
def am_m135 : am_Mr := (⟨"CelloBoats", "status", "(I)I"⟩, prog_1_method_37_code, 2, (some .int), 1, 0, 11, 1167, 1, 1165, 1166) -- X11_status
def am_m136 : am_Mr := (⟨"CelloBoats", "hasSound", "()Z"⟩, prog_1_method_38_code, 1, (some .boolean), 0, 0, 11, 862, 1, 861, 10036) -- X11_hasSound
def am_m137 : am_Mr := (⟨"CelloBoats", "isBoat", "(I)Z"⟩, prog_1_method_39_code, 2, (some .boolean), 1, 0, 11, 770, 1, 769, 10028) -- X11_isBoat
def am_m138 : am_Mr := (⟨"CelloBoats", "isRider", "(I)Z"⟩, prog_1_method_40_code, 2, (some .boolean), 1, 0, 11, 777, 1, 776, 10029) -- X11_isRider
def am_m139 : am_Mr := (⟨"CelloBoats", "isMile", "(I)Z"⟩, prog_1_method_41_code, 2, (some .boolean), 1, 0, 11, 858, 1, 857, 10035) -- X11_isMile
def am_m140 : am_Mr := (⟨"CelloBoats", "isPlace", "(II)Z"⟩, prog_1_method_42_code, 3, (some .boolean), 2, 0, 11, 789, 1, 788, 10030) -- X11_isPlace
def am_m141 : am_Mr := (⟨"CelloBoats", "isNote", "(I)Z"⟩, prog_1_method_43_code, 1, (some .boolean), 1, 1, 11, 796, 1, 795, 0) -- X11_isNote
def am_m142 : am_Mr := (⟨"CelloBoats", "isAmount", "(I)Z"⟩, prog_1_method_44_code, 1, (some .boolean), 1, 1, 11, 1033, 1, 1032, 0) -- X11_isAmount
def am_m143 : am_Mr := (⟨"CelloBoats", "letterOf", "(II)I"⟩, prog_1_method_45_code, 2, (some .int), 2, 1, 11, 773, 1, 772, 0) -- X11_letterOf
def am_m144 : am_Mr := (⟨"CelloBoats", "slot", "(II)I"⟩, prog_1_method_46_code, 3, (some .int), 2, 0, 11, 753, 1, 752, 10025) -- X11_slot
def am_m145 : am_Mr := (⟨"CelloBoats", "setSlot", "(III)V"⟩, prog_1_method_47_code, 4, none, 3, 0, 11, 1043, 1, 1042, 10045) -- X11_setSlot
def am_m146 : am_Mr := (⟨"CelloBoats", "isLanded", "(I)Z"⟩, prog_1_method_48_code, 2, (some .boolean), 1, 0, 11, 749, 1, 748, 10024) -- X11_isLanded
def am_m147 : am_Mr := (⟨"CelloBoats", "landedBoats", "()I"⟩, prog_1_method_49_code, 3, (some .int), 0, 0, 11, 745, 1, 744, 10023) -- X11_landedBoats
def am_m148 : am_Mr := (⟨"CelloBoats", "sunkBoats", "()I"⟩, prog_1_method_50_code, 3, (some .int), 0, 0, 11, 757, 1, 756, 10026) -- X11_sunkBoats
def am_m149 : am_Mr := (⟨"CelloBoats", "keptTold", "()I"⟩, prog_1_method_51_code, 1, (some .int), 0, 0, 11, 761, 1, 760, 10027) -- X11_keptTold
def am_m150 : am_Mr := (⟨"CelloBoats", "hoursAhead", "(I)I"⟩, prog_1_method_52_code, 2, (some .int), 1, 0, 11, 879, 1, 878, 10037) -- X11_hoursAhead
def am_m151 : am_Mr := (⟨"CelloBoats", "canTry", "(I)Z"⟩, prog_1_method_53_code, 2, (some .boolean), 1, 0, 11, 957, 1, 956, 10040) -- X11_canTry
def am_m152 : am_Mr := (⟨"CelloBoats", "canPass", "(I)Z"⟩, prog_1_method_54_code, 2, (some .boolean), 1, 0, 11, 1063, 1, 1062, 10046) -- X11_canPass
def am_m153 : am_Mr := (⟨"CelloBoats", "boatsFor", "(I)I"⟩, prog_1_method_55_code, 5, (some .int), 1, 0, 11, 973, 1, 972, 10041) -- X11_boatsFor
def am_m154 : am_Mr := (⟨"CelloBoats", "addToTape", "(I)V"⟩, prog_1_method_56_code, 3, none, 1, 0, 11, 513, 1, 512, 10001) -- X11_addToTape
def am_m155 : am_Mr := (⟨"CelloBoats", "refuse", "(I)Z"⟩, prog_1_method_57_code, 2, (some .boolean), 1, 0, 11, 509, 1, 508, 10000) -- X11_refuse
def am_m156 : am_Mr := (⟨"CelloBoats", "forgetActs", "()V"⟩, prog_1_method_58_code, 1, none, 0, 0, 11, 733, 1, 732, 10022) -- X11_forgetActs
def am_m157 : am_Mr := (⟨"CelloBoats", "passHour", "(I)I"⟩, prog_1_method_59_code, 4, (some .int), 1, 0, 11, 1067, 1, 1066, 10047) -- X11_passHour
def am_m158 : am_Mr := (⟨"CelloBoats", "addKept", "(II)V"⟩, prog_1_method_60_code, 3, none, 2, 0, 11, 1076, 1, 1075, 10048) -- X11_addKept
def am_m159 : am_Mr := (⟨"CelloBoats", "draw", "(I)I"⟩, prog_1_method_61_code, 2, (some .int), 1, 0, 11, 1084, 1, 1083, 10049) -- X11_draw
def am_m160 : am_Mr := (⟨"CelloBoats", "answer", "(I)J"⟩, prog_1_method_62_code, 7, (some .long), 1, 0, 11, 1113, 1, 1112, 10050) -- X11_answer
def am_m161 : am_Mr := (⟨"CelloBoats", "gather", "(IJII)J"⟩, prog_1_method_63_code, 5, (some .long), 4, 1, 11, 1124, 1, 1123, 0) -- X11_gather
def am_m162 : am_Mr := (⟨"CelloBoats", "valueFor", "(I)I"⟩, prog_1_method_64_code, 4, (some .int), 1, 0, 11, 1118, 1, 1117, 10051) -- X11_valueFor
def am_m163 : am_Mr := (⟨"CelloBoatsModel", "<init>", "()V"⟩, prog_14_method_1_code, 1, none, 0, 2, 12, 1172, 17, 1171, 0) -- X12_init
def am_m164 : am_Mr := (⟨"CelloBoatsModel", "isIn", "(JJJ)Z"⟩, prog_14_method_2_code, 6, (some .boolean), 3, 1, 12, 1543, 17, 1542, 0) -- X12_isIn
def am_m165 : am_Mr := (⟨"CelloBoatsModel", "feed", "(IIIII)I"⟩, prog_14_method_3_code, 8, (some .int), 5, 0, 12, 1498, 17, 1496, 1497) -- X12_feed
def am_m166 : am_Mr := (⟨"CelloBoatsModel", "end", "(I)Z"⟩, prog_14_method_4_code, 2, (some .boolean), 1, 0, 12, 1502, 17, 1500, 1501) -- X12_end
def am_m167 : am_Mr := (⟨"CelloBoatsModel", "fail", "(II)V"⟩, prog_14_method_5_code, 3, none, 2, 0, 12, 1533, 17, 1532, 10057) -- X12_fail
def am_m168 : am_Mr := (⟨"CelloBoatsModel", "isLetter", "(I)Z"⟩, prog_14_method_6_code, 1, (some .boolean), 1, 1, 12, 1529, 17, 1528, 0) -- X12_isLetter
def am_m169 : am_Mr := (⟨"CelloBoatsModel", "isDigit", "(I)Z"⟩, prog_14_method_7_code, 1, (some .boolean), 1, 1, 12, 1540, 17, 1539, 0) -- X12_isDigit
def am_m170 : am_Mr := (⟨"CelloBoatsModel", "look", "()I"⟩, prog_14_method_8_code, 1, (some .int), 0, 0, 12, 1526, 17, 1525, 10056) -- X12_look
def am_m171 : am_Mr := (⟨"CelloBoatsModel", "isHere", "([C)Z"⟩, prog_14_method_9_code, 4, (some .boolean), 1, 0, 12, 1522, 17, 1521, 10055) -- X12_isHere
def am_m172 : am_Mr := (⟨"CelloBoatsModel", "takes", "([C)Z"⟩, prog_14_method_10_code, 2, (some .boolean), 1, 0, 12, 1518, 17, 1517, 10054) -- X12_takes
def am_m173 : am_Mr := (⟨"CelloBoatsModel", "asks", "([C)V"⟩, prog_14_method_11_code, 2, none, 1, 0, 12, 1514, 17, 1513, 10053) -- X12_asks
def am_m174 : am_Mr := (⟨"CelloBoatsModel", "takesSign", "(I)Z"⟩, prog_14_method_12_code, 2, (some .boolean), 1, 0, 12, 1551, 17, 1550, 10060) -- X12_takesSign
def am_m175 : am_Mr := (⟨"CelloBoatsModel", "asksSign", "(I)V"⟩, prog_14_method_13_code, 2, none, 1, 0, 12, 1547, 17, 1546, 10059) -- X12_asksSign
def am_m176 : am_Mr := (⟨"CelloBoatsModel", "number", "(II)I"⟩, prog_14_method_14_code, 5, (some .int), 2, 0, 12, 1537, 17, 1536, 10058) -- X12_number
def am_m177 : am_Mr := (⟨"CelloBoatsModel", "isOwnHere", "()Z"⟩, prog_14_method_15_code, 2, (some .boolean), 0, 0, 12, 1575, 17, 1574, 10066) -- X12_isOwnHere
def am_m178 : am_Mr := (⟨"CelloBoatsModel", "name", "()J"⟩, prog_14_method_16_code, 3, (some .long), 0, 0, 12, 1571, 17, 1570, 10065) -- X12_name
def am_m179 : am_Mr := (⟨"CelloBoatsModel", "isAllowed", "(I)Z"⟩, prog_14_method_17_code, 2, (some .boolean), 1, 0, 12, 1629, 17, 1628, 10079) -- X12_isAllowed
def am_m180 : am_Mr := (⟨"CelloBoatsModel", "isFull", "(III)Z"⟩, prog_14_method_18_code, 4, (some .boolean), 3, 0, 12, 1563, 17, 1562, 10063) -- X12_isFull
def am_m181 : am_Mr := (⟨"CelloBoatsModel", "newName", "()J"⟩, prog_14_method_19_code, 5, (some .long), 0, 0, 12, 1567, 17, 1566, 10064) -- X12_newName
def am_m182 : am_Mr := (⟨"CelloBoatsModel", "soundTold", "()V"⟩, prog_14_method_20_code, 1, none, 0, 0, 12, 1510, 17, 1509, 10052) -- X12_soundTold
def am_m183 : am_Mr := (⟨"CelloBoatsModel", "boatTold", "(I)V"⟩, prog_14_method_21_code, 8, none, 1, 0, 12, 1559, 17, 1558, 10062) -- X12_boatTold
def am_m184 : am_Mr := (⟨"CelloBoatsModel", "scoreTold", "()V"⟩, prog_14_method_22_code, 5, none, 0, 0, 12, 1581, 17, 1580, 10067) -- X12_scoreTold
def am_m185 : am_Mr := (⟨"CelloBoatsModel", "wolfTold", "()V"⟩, prog_14_method_23_code, 3, none, 0, 0, 12, 1585, 17, 1584, 10068) -- X12_wolfTold
def am_m186 : am_Mr := (⟨"CelloBoatsModel", "riderTold", "(I)V"⟩, prog_14_method_24_code, 5, none, 1, 0, 12, 1589, 17, 1588, 10069) -- X12_riderTold
def am_m187 : am_Mr := (⟨"CelloBoatsModel", "codesTold", "(II)V"⟩, prog_14_method_25_code, 4, none, 2, 0, 12, 1593, 17, 1592, 10070) -- X12_codesTold
def am_m188 : am_Mr := (⟨"CelloBoatsModel", "statementTold", "()V"⟩, prog_14_method_26_code, 2, none, 0, 0, 12, 1555, 17, 1554, 10061) -- X12_statementTold
def am_m189 : am_Mr := (⟨"CelloBoatsModel", "sound", "()I"⟩, prog_14_method_27_code, 2, (some .int), 0, 0, 12, 1506, 17, 1504, 1505) -- X12_sound
def am_m190 : am_Mr := (⟨"CelloBoatsModel", "stands", "()V"⟩, prog_14_method_28_code, 3, none, 0, 0, 12, 1676, 17, 1675, 10090) -- X12_stands
def am_m191 : am_Mr := (⟨"CelloBoatsModel", "fault", "(I)I"⟩, prog_14_method_29_code, 2, (some .int), 1, 0, 12, 1680, 17, 1678, 1679) -- X12_fault
def am_m192 : am_Mr := (⟨"CelloBoatsModel", "boatMany", "()I"⟩, prog_14_method_30_code, 1, (some .int), 0, 0, 12, 1692, 17, 1691, 10092) -- X12_boatMany
def am_m193 : am_Mr := (⟨"CelloBoatsModel", "riderMany", "()I"⟩, prog_14_method_31_code, 1, (some .int), 0, 0, 12, 1801, 17, 1800, 10110) -- X12_riderMany
def am_m194 : am_Mr := (⟨"CelloBoatsModel", "isBoat", "(I)Z"⟩, prog_14_method_32_code, 2, (some .boolean), 1, 0, 12, 1721, 17, 1720, 10097) -- X12_isBoat
def am_m195 : am_Mr := (⟨"CelloBoatsModel", "mileOf", "(I)I"⟩, prog_14_method_33_code, 2, (some .int), 1, 0, 12, 1700, 17, 1699, 10094) -- X12_mileOf
def am_m196 : am_Mr := (⟨"CelloBoatsModel", "tightOf", "(I)I"⟩, prog_14_method_34_code, 2, (some .int), 1, 0, 12, 1770, 17, 1769, 10107) -- X12_tightOf
def am_m197 : am_Mr := (⟨"CelloBoatsModel", "rosinOf", "(I)I"⟩, prog_14_method_35_code, 2, (some .int), 1, 0, 12, 1774, 17, 1773, 10108) -- X12_rosinOf
def am_m198 : am_Mr := (⟨"CelloBoatsModel", "isSunk", "(I)Z"⟩, prog_14_method_36_code, 2, (some .boolean), 1, 0, 12, 1708, 17, 1707, 10096) -- X12_isSunk
def am_m199 : am_Mr := (⟨"CelloBoatsModel", "placeOf", "(I)I"⟩, prog_14_method_37_code, 2, (some .int), 1, 0, 12, 1729, 17, 1728, 10099) -- X12_placeOf
def am_m200 : am_Mr := (⟨"CelloBoatsModel", "noteOf", "(II)I"⟩, prog_14_method_38_code, 3, (some .int), 2, 0, 12, 1741, 17, 1740, 10101) -- X12_noteOf
def am_m201 : am_Mr := (⟨"CelloBoatsModel", "noteMany", "(I)I"⟩, prog_14_method_39_code, 2, (some .int), 1, 0, 12, 1725, 17, 1724, 10098) -- X12_noteMany
def am_m202 : am_Mr := (⟨"CelloBoatsModel", "isPlace", "(IJ)Z"⟩, prog_14_method_40_code, 4, (some .boolean), 2, 0, 12, 1737, 17, 1736, 10100) -- X12_isPlace
def am_m203 : am_Mr := (⟨"CelloBoatsModel", "nextOf", "(I)I"⟩, prog_14_method_41_code, 2, (some .int), 1, 0, 12, 1766, 17, 1765, 10106) -- X12_nextOf
def am_m204 : am_Mr := (⟨"CelloBoatsModel", "isLanded", "(I)Z"⟩, prog_14_method_42_code, 2, (some .boolean), 1, 0, 12, 1696, 17, 1695, 10093) -- X12_isLanded
def am_m205 : am_Mr := (⟨"CelloBoatsModel", "isOut", "(I)Z"⟩, prog_14_method_43_code, 2, (some .boolean), 1, 0, 12, 1831, 17, 1830, 10115) -- X12_isOut
def am_m206 : am_Mr := (⟨"CelloBoatsModel", "codesTell", "(II)J"⟩, prog_14_method_44_code, 5, (some .long), 2, 0, 12, 1754, 17, 1753, 10103) -- X12_codesTell
def am_m207 : am_Mr := (⟨"CelloBoatsModel", "carriedBy", "(III)I"⟩, prog_14_method_45_code, 6, (some .int), 3, 0, 12, 1750, 17, 1749, 10102) -- X12_carriedBy
def am_m208 : am_Mr := (⟨"CelloBoatsModel", "bow", "(III)V"⟩, prog_14_method_46_code, 8, none, 3, 0, 12, 1835, 17, 1834, 10116) -- X12_bow
def am_m209 : am_Mr := (⟨"CelloBoatsModel", "isKept", "(II)V"⟩, prog_14_method_47_code, 4, none, 2, 0, 12, 1840, 17, 1839, 10117) -- X12_isKept
def am_m210 : am_Mr := (⟨"CelloBoatsModel", "hourGoes", "(I)V"⟩, prog_14_method_48_code, 3, none, 1, 0, 12, 1827, 17, 1826, 10114) -- X12_hourGoes
def am_m211 : am_Mr := (⟨"CelloBoatsModel", "hoursGo", "(I)V"⟩, prog_14_method_49_code, 3, none, 1, 0, 12, 1823, 17, 1822, 10113) -- X12_hoursGo
def am_m212 : am_Mr := (⟨"CelloBoatsModel", "putsAside", "()V"⟩, prog_14_method_50_code, 2, none, 0, 0, 12, 1819, 17, 1818, 10112) -- X12_putsAside
def am_m213 : am_Mr := (⟨"CelloBoatsModel", "triesAnew", "()V"⟩, prog_14_method_51_code, 2, none, 0, 0, 12, 1848, 17, 1847, 10119) -- X12_triesAnew
def am_m214 : am_Mr := (⟨"CelloBoatsModel", "takesBack", "()V"⟩, prog_14_method_52_code, 1, none, 0, 0, 12, 1844, 17, 1843, 10118) -- X12_takesBack
def am_m215 : am_Mr := (⟨"CelloBoatsModel", "isAhead", "(III)Z"⟩, prog_14_method_53_code, 4, (some .boolean), 3, 0, 12, 1814, 17, 1813, 10111) -- X12_isAhead
def am_m216 : am_Mr := (⟨"CelloBoatsModel", "landedAll", "()I"⟩, prog_14_method_54_code, 3, (some .int), 0, 0, 12, 1688, 17, 1687, 10091) -- X12_landedAll
def am_m217 : am_Mr := (⟨"CelloBoatsModel", "sunkAll", "()I"⟩, prog_14_method_55_code, 3, (some .int), 0, 0, 12, 1704, 17, 1703, 10095) -- X12_sunkAll
def am_m218 : am_Mr := (⟨"CelloBoatsModel", "has", "(I)I"⟩, prog_14_method_56_code, 2, (some .int), 1, 0, 12, 1684, 17, 1682, 1683) -- X12_has
def am_m219 : am_Mr := (⟨"CelloBoatsModel", "letter", "(III)I"⟩, prog_14_method_57_code, 9, (some .int), 3, 0, 12, 1712, 17, 1710, 1711) -- X12_letter
def am_m220 : am_Mr := (⟨"CelloBoatsModel", "boat", "(II)I"⟩, prog_14_method_58_code, 3, (some .int), 2, 0, 12, 1717, 17, 1715, 1716) -- X12_boat
def am_m221 : am_Mr := (⟨"CelloBoatsModel", "score", "(II)I"⟩, prog_14_method_59_code, 3, (some .int), 2, 0, 12, 1733, 17, 1731, 1732) -- X12_score
def am_m222 : am_Mr := (⟨"CelloBoatsModel", "carry", "(II)J"⟩, prog_14_method_60_code, 3, (some .long), 2, 0, 12, 1745, 17, 1743, 1744) -- X12_carry
def am_m223 : am_Mr := (⟨"CelloBoatsModel", "wolf", "(II)I"⟩, prog_14_method_61_code, 3, (some .int), 2, 0, 12, 1793, 17, 1791, 1792) -- X12_wolf
def am_m224 : am_Mr := (⟨"CelloBoatsModel", "rider", "(I)I"⟩, prog_14_method_62_code, 2, (some .int), 1, 0, 12, 1797, 17, 1795, 1796) -- X12_rider
def am_m225 : am_Mr := (⟨"CelloBoatsModel", "kept", "(II)I"⟩, prog_14_method_63_code, 3, (some .int), 2, 0, 12, 1805, 17, 1803, 1804) -- X12_kept
def am_m226 : am_Mr := (⟨"CelloBoatsModel", "later", "(III)I"⟩, prog_14_method_64_code, 5, (some .int), 3, 0, 12, 1810, 17, 1808, 1809) -- X12_later
def am_m227 : am_Mr := (⟨"CelloBoatsModel", "landsIn", "(II)I"⟩, prog_14_method_65_code, 5, (some .int), 2, 0, 12, 1856, 17, 1855, 10120) -- X12_landsIn
def am_m228 : am_Mr := (⟨"CelloBoatsModel", "lands", "(I)I"⟩, prog_14_method_66_code, 3, (some .int), 1, 0, 12, 1852, 17, 1850, 1851) -- X12_lands
def am_m229 : am_Mr := (⟨"CelloBoatsModel", "cat", "(I)I"⟩, prog_14_method_67_code, 5, (some .int), 1, 0, 12, 1860, 17, 1858, 1859) -- X12_cat
def am_m230 : am_Mr := (⟨"CelloBoatsModel", "meets", "(II)I"⟩, prog_14_method_68_code, 5, (some .int), 2, 0, 12, 1864, 17, 1862, 1863) -- X12_meets
def am_m231 : am_Mr := (⟨"CelloBoatsModel", "isNextRow", "(II)Z"⟩, prog_14_method_69_code, 4, (some .boolean), 2, 0, 12, 1880, 17, 1879, 10123) -- X12_isNextRow
def am_m232 : am_Mr := (⟨"CelloBoatsModel", "isPlan", "(III)Z"⟩, prog_14_method_70_code, 6, (some .boolean), 3, 0, 12, 1876, 17, 1875, 10122) -- X12_isPlan
def am_m233 : am_Mr := (⟨"CelloBoatsModel", "planOf", "(II)I"⟩, prog_14_method_71_code, 5, (some .int), 2, 0, 12, 1872, 17, 1871, 10121) -- X12_planOf
def am_m234 : am_Mr := (⟨"CelloBoatsModel", "plan", "(III)I"⟩, prog_14_method_72_code, 5, (some .int), 3, 0, 12, 1868, 17, 1866, 1867) -- X12_plan
def am_m235 : am_Mr := (⟨"CelloBoatsModel", "strung", "(III)I"⟩, prog_14_method_73_code, 8, (some .int), 3, 0, 12, 1884, 17, 1882, 1883) -- X12_strung
def am_m236 : am_Mr := (⟨"CelloBoatsModel", "better", "(III)I"⟩, prog_14_method_74_code, 10, (some .int), 3, 0, 12, 1888, 17, 1886, 1887) -- X12_better
def am_m237 : am_Mr := (⟨"CelloBoatsModel", "canRide", "(II)Z"⟩, prog_14_method_75_code, 4, (some .boolean), 2, 0, 12, 1900, 17, 1899, 10125) -- X12_canRide
def am_m238 : am_Mr := (⟨"CelloBoatsModel", "ridden", "()I"⟩, prog_14_method_76_code, 5, (some .int), 0, 0, 12, 1896, 17, 1895, 10124) -- X12_ridden
def am_m239 : am_Mr := (⟨"CelloBoatsModel", "rides", "(I)I"⟩, prog_14_method_77_code, 5, (some .int), 1, 0, 12, 1892, 17, 1890, 1891) -- X12_rides
def am_m240 : am_Mr := (⟨"CelloBoatsModel", "refuses", "(I)I"⟩, prog_14_method_78_code, 2, (some .int), 1, 0, 12, 1908, 17, 1907, 10126) -- X12_refuses
def am_m241 : am_Mr := (⟨"CelloBoatsModel", "see", "()I"⟩, prog_14_method_79_code, 4, (some .int), 0, 0, 12, 1904, 17, 1902, 1903) -- X12_see
def am_m242 : am_Mr := (⟨"CelloBoatsModel", "laysHeard", "()V"⟩, prog_14_method_80_code, 2, none, 0, 0, 12, 1920, 17, 1919, 10128) -- X12_laysHeard
def am_m243 : am_Mr := (⟨"CelloBoatsModel", "isAsSeen", "(I)Z"⟩, prog_14_method_81_code, 3, (some .boolean), 1, 0, 12, 1924, 17, 1923, 10129) -- X12_isAsSeen
def am_m244 : am_Mr := (⟨"CelloBoatsModel", "seenSet", "()I"⟩, prog_14_method_82_code, 3, (some .int), 0, 0, 12, 1916, 17, 1915, 10127) -- X12_seenSet
def am_m245 : am_Mr := (⟨"CelloBoatsModel", "which", "()I"⟩, prog_14_method_83_code, 1, (some .int), 0, 0, 12, 1912, 17, 1910, 1911) -- X12_which
def am_m246 : am_Mr := (⟨"CelloBoatsModel", "mostAlike", "(II)I"⟩, prog_14_method_84_code, 7, (some .int), 2, 0, 12, 1932, 17, 1931, 10130) -- X12_mostAlike
def am_m247 : am_Mr := (⟨"CelloBoatsModel", "tells", "(I)I"⟩, prog_14_method_85_code, 7, (some .int), 1, 0, 12, 1928, 17, 1926, 1927) -- X12_tells
def am_m248 : am_Mr := (⟨"CelloBoatsModel", "keeps", "()V"⟩, prog_14_method_86_code, 2, none, 0, 0, 12, 1948, 17, 1947, 10132) -- X12_keeps
def am_m249 : am_Mr := (⟨"CelloBoatsModel", "undo", "()Z"⟩, prog_14_method_87_code, 2, (some .boolean), 0, 0, 12, 1936, 17, 1934, 1935) -- X12_undo
def am_m250 : am_Mr := (⟨"CelloBoatsModel", "isRefused", "()Z"⟩, prog_14_method_88_code, 1, (some .boolean), 0, 0, 12, 1944, 17, 1943, 10131) -- X12_isRefused
def am_m251 : am_Mr := (⟨"CelloBoatsModel", "tune", "(II)Z"⟩, prog_14_method_89_code, 3, (some .boolean), 2, 0, 12, 1940, 17, 1938, 1939) -- X12_tune
def am_m252 : am_Mr := (⟨"CelloBoatsModel", "rosin", "(II)I"⟩, prog_14_method_90_code, 4, (some .int), 2, 0, 12, 1952, 17, 1950, 1951) -- X12_rosin
def am_m253 : am_Mr := (⟨"CelloBoatsModel", "raise", "(I)Z"⟩, prog_14_method_91_code, 2, (some .boolean), 1, 0, 12, 1956, 17, 1954, 1955) -- X12_raise
def am_m254 : am_Mr := (⟨"CelloBoatsModel", "note", "(III)Z"⟩, prog_14_method_92_code, 4, (some .boolean), 3, 0, 12, 1960, 17, 1958, 1959) -- X12_note
def am_m255 : am_Mr := (⟨"CelloBoatsModel", "hours", "(I)I"⟩, prog_14_method_93_code, 2, (some .int), 1, 0, 12, 1964, 17, 1962, 1963) -- X12_hours
def am_m256 : am_Mr := (⟨"CelloBoatsModel", "seed", "(I)Z"⟩, prog_14_method_94_code, 2, (some .boolean), 1, 0, 12, 1968, 17, 1966, 1967) -- X12_seed
def am_m257 : am_Mr := (⟨"CelloBoatsModel", "drawOf", "(I)I"⟩, prog_14_method_95_code, 2, (some .int), 1, 0, 12, 1976, 17, 1975, 10133) -- X12_drawOf
def am_m258 : am_Mr := (⟨"CelloBoatsModel", "chance", "(I)I"⟩, prog_14_method_96_code, 5, (some .int), 1, 0, 12, 1972, 17, 1970, 1971) -- X12_chance
def am_m259 : am_Mr := (⟨"CelloBoatsModel", "qCode", "(I)V"⟩, prog_14_method_97_code, 2, none, 1, 0, 12, 1609, 17, 1608, 10074) -- X12_qCode
def am_m260 : am_Mr := (⟨"CelloBoatsModel", "qOpens", "(II)V"⟩, prog_14_method_98_code, 3, none, 2, 0, 12, 1601, 17, 1600, 10072) -- X12_qOpens
def am_m261 : am_Mr := (⟨"CelloBoatsModel", "qIsOn", "(I)Z"⟩, prog_14_method_99_code, 2, (some .boolean), 1, 0, 12, 1660, 17, 1659, 10086) -- X12_qIsOn
def am_m262 : am_Mr := (⟨"CelloBoatsModel", "qDrops", "()V"⟩, prog_14_method_100_code, 1, none, 0, 0, 12, 1641, 17, 1640, 10082) -- X12_qDrops
def am_m263 : am_Mr := (⟨"CelloBoatsModel", "qIsBracket", "(I)Z"⟩, prog_14_method_101_code, 1, (some .boolean), 1, 1, 12, 1652, 17, 1651, 0) -- X12_qIsBracket
def am_m264 : am_Mr := (⟨"CelloBoatsModel", "qBracket", "()I"⟩, prog_14_method_102_code, 2, (some .int), 0, 0, 12, 1649, 17, 1648, 10084) -- X12_qBracket
def am_m265 : am_Mr := (⟨"CelloBoatsModel", "qDropsToBracket", "()V"⟩, prog_14_method_103_code, 1, none, 0, 0, 12, 1656, 17, 1655, 10085) -- X12_qDropsToBracket
def am_m266 : am_Mr := (⟨"CelloBoatsModel", "qWordHere", "()I"⟩, prog_14_method_104_code, 1, (some .int), 0, 0, 12, 1625, 17, 1624, 10078) -- X12_qWordHere
def am_m267 : am_Mr := (⟨"CelloBoatsModel", "qWordOf", "(II)I"⟩, prog_14_method_105_code, 4, (some .int), 2, 0, 12, 1621, 17, 1620, 10077) -- X12_qWordOf
def am_m268 : am_Mr := (⟨"CelloBoatsModel", "qAsksWord", "(I)V"⟩, prog_14_method_106_code, 2, none, 1, 0, 12, 1633, 17, 1632, 10080) -- X12_qAsksWord
def am_m269 : am_Mr := (⟨"CelloBoatsModel", "qEndsPart", "()V"⟩, prog_14_method_107_code, 1, none, 0, 0, 12, 1637, 17, 1636, 10081) -- X12_qEndsPart
def am_m270 : am_Mr := (⟨"CelloBoatsModel", "qPartTold", "()V"⟩, prog_14_method_108_code, 6, none, 0, 0, 12, 1617, 17, 1616, 10076) -- X12_qPartTold
def am_m271 : am_Mr := (⟨"CelloBoatsModel", "qGoesOn", "()Z"⟩, prog_14_method_109_code, 2, (some .boolean), 0, 0, 12, 1645, 17, 1644, 10083) -- X12_qGoesOn
def am_m272 : am_Mr := (⟨"CelloBoatsModel", "qSums", "()V"⟩, prog_14_method_110_code, 3, none, 0, 0, 12, 1613, 17, 1612, 10075) -- X12_qSums
def am_m273 : am_Mr := (⟨"CelloBoatsModel", "qFact", "()V"⟩, prog_14_method_111_code, 2, none, 0, 0, 12, 1605, 17, 1604, 10073) -- X12_qFact
def am_m274 : am_Mr := (⟨"CelloBoatsModel", "qHasSquare", "()Z"⟩, prog_14_method_112_code, 2, (some .boolean), 0, 0, 12, 1672, 17, 1671, 10089) -- X12_qHasSquare
def am_m275 : am_Mr := (⟨"CelloBoatsModel", "qDropsNots", "()V"⟩, prog_14_method_113_code, 1, none, 0, 0, 12, 1664, 17, 1663, 10087) -- X12_qDropsNots
def am_m276 : am_Mr := (⟨"CelloBoatsModel", "qTest", "()V"⟩, prog_14_method_114_code, 3, none, 0, 0, 12, 1597, 17, 1596, 10071) -- X12_qTest
def am_m277 : am_Mr := (⟨"CelloBoatsModel", "qGoesOnTest", "()Z"⟩, prog_14_method_115_code, 1, (some .boolean), 0, 0, 12, 1668, 17, 1667, 10088) -- X12_qGoesOnTest
def am_m278 : am_Mr := (⟨"CelloBoatsModel", "qClip", "(J)J"⟩, prog_14_method_116_code, 2, (some .long), 1, 1, 12, 1781, 17, 1780, 0) -- X12_qClip
def am_m279 : am_Mr := (⟨"CelloBoatsModel", "qFloor", "(JJ)J"⟩, prog_14_method_117_code, 6, (some .long), 2, 1, 12, 1786, 17, 1785, 0) -- X12_qFloor
def am_m280 : am_Mr := (⟨"CelloBoatsModel", "qPuts", "(J)V"⟩, prog_14_method_118_code, 3, none, 1, 0, 12, 1758, 17, 1757, 10104) -- X12_qPuts
def am_m281 : am_Mr := (⟨"CelloBoatsModel", "qJoins", "(I)V"⟩, prog_14_method_119_code, 6, none, 1, 0, 12, 1778, 17, 1777, 10109) -- X12_qJoins
def am_m282 : am_Mr := (⟨"CelloBoatsModel", "qPartOf", "(II)J"⟩, prog_14_method_120_code, 3, (some .long), 2, 0, 12, 1762, 17, 1761, 10105) -- X12_qPartOf
def am_m283 : am_Mr := (⟨"CelloBoatsModel", "qOf", "(IJI)J"⟩, prog_14_method_121_code, 5, (some .long), 3, 0, 12, 1997, 17, 1996, 10136) -- X12_qOf
def am_m284 : am_Mr := (⟨"CelloBoatsModel", "qTold", "(I)J"⟩, prog_14_method_122_code, 4, (some .long), 1, 0, 12, 1993, 17, 1992, 10135) -- X12_qTold
def am_m285 : am_Mr := (⟨"CelloBoatsModel", "qKind", "()I"⟩, prog_14_method_123_code, 2, (some .int), 0, 0, 12, 1988, 17, 1987, 10134) -- X12_qKind
def am_m286 : am_Mr := (⟨"CelloBoatsModel", "qTakes", "(IJI)V"⟩, prog_14_method_124_code, 6, none, 3, 0, 12, 2001, 17, 2000, 10137) -- X12_qTakes
def am_m287 : am_Mr := (⟨"CelloBoatsModel", "ask", "()J"⟩, prog_14_method_125_code, 4, (some .long), 0, 0, 12, 1984, 17, 1982, 1983) -- X12_ask
def am_m288 : am_Mr := (⟨"CelloBoatsModel", "checked", "([II)I"⟩, prog_14_method_126_code, 4, (some .int), 2, 1, 12, 2012, 17, 2011, 0) -- X12_checked
def am_m289 : am_Mr := (⟨"CelloBoatsModel", "writes", "(I)V"⟩, prog_14_method_127_code, 2, none, 1, 0, 12, 2009, 17, 2008, 10138) -- X12_writes
def am_m290 : am_Mr := (⟨"CelloBoatsModel", "image", "()I"⟩, prog_14_method_128_code, 3, (some .int), 0, 0, 12, 2005, 17, 2003, 2004) -- X12_image
def am_m291 : am_Mr := (⟨"CelloBoatsModel", "octet", "(I)I"⟩, prog_14_method_129_code, 2, (some .int), 1, 0, 12, 2016, 17, 2014, 2015) -- X12_octet
def am_m292 : am_Mr := (⟨"CelloBoatsModel", "isBoatTold", "(II)Z"⟩, prog_14_method_130_code, 5, (some .boolean), 2, 0, 12, 2028, 17, 2027, 10140) -- X12_isBoatTold
def am_m293 : am_Mr := (⟨"CelloBoatsModel", "isImage", "(I)Z"⟩, prog_14_method_131_code, 5, (some .boolean), 1, 0, 12, 2024, 17, 2023, 10139) -- X12_isImage
def am_m294 : am_Mr := (⟨"CelloBoatsModel", "on", "()Z"⟩, prog_14_method_132_code, 5, (some .boolean), 0, 0, 12, 2020, 17, 2018, 2019) -- X12_on
def am_m295 : am_Mr := (⟨"CelloBoatsModel", "status", "(I)I"⟩, prog_14_method_133_code, 2, (some .int), 1, 0, 12, 2032, 17, 2030, 2031) -- X12_status
def am_m296 : am_Mr := (⟨"CelloBoatsLaw", "law", "([I)Z"⟩, code, 4, (some .boolean), 1, 3, 13, 0, 0, 0, 0) -- L_law
def am_m297 : am_Mr := (⟨"java/lang/Math", "floorDiv", "(II)I"⟩, prog_15_method_47_code, 3, (some .int), 2, 1, 14, 847, 18, 846, 0) -- J_floorDiv
/-- field links: class * 100000 + entry, the field's class, its number, the place of the word -/
def am_FL : List (Nat × Nat × Nat × Nat) := [(1100009, 11, 0, 447), (1100016, 11, 2, 449), (1100025, 11, 3, 450), (1100032, 11, 4, 451), (1100036, 11, 5, 452), (1100044, 11, 6, 453), (1100048, 11, 7, 454), (1100051, 11, 8, 455), (1100057, 11, 9, 456), (1100066, 11, 10, 457),
  (1100070, 11, 11, 458), (1100076, 11, 12, 459), (1100083, 11, 13, 460), (1100090, 11, 14, 461), (1100097, 11, 15, 462), (1100101, 11, 16, 463), (1100104, 11, 17, 464), (1100108, 11, 1, 448), (1100127, 9, 10, 99), (1100130, 1, 10, 203),
  (1100141, 4, 1, 409), (1100144, 9, 11, 101), (1100147, 1, 0, 169), (1100150, 1, 1, 173), (1100153, 1, 2, 176), (1100156, 1, 3, 179), (1100169, 0, 2, 271), (1100175, 1, 6, 189), (1100185, 1, 7, 192), (1100194, 1, 9, 201),
  (1100210, 1, 4, 183), (1100222, 1, 8, 196), (1100232, 5, 2, 320), (1100235, 5, 3, 323), (1100238, 5, 4, 326), (1100241, 5, 5, 329), (1100269, 2, 0, 384), (1100278, 2, 1, 386), (1100295, 4, 5, 414), (1100298, 4, 6, 416),
  (1100326, 1, 5, 187), (1100344, 7, 1, 441), (1100347, 7, 0, 439), (1100382, 5, 0, 316), (1100386, 3, 3, 143), (1100389, 6, 1, 295), (1100400, 6, 0, 293), (1100403, 5, 7, 332), (1100405, 6, 3, 299), (1100408, 5, 8, 334),
  (1100411, 6, 2, 297), (1100412, 3, 1, 138), (1100415, 3, 2, 141), (11, 0, 0, 268), (15, 0, 1, 269), (25, 0, 2, 270), (100009, 1, 6, 188), (100015, 1, 7, 191), (100018, 1, 8, 194), (100021, 1, 9, 197),
  (100024, 1, 10, 202), (100027, 1, 11, 205), (100030, 1, 12, 206), (100033, 1, 13, 209), (100036, 1, 14, 212), (100039, 1, 0, 165), (100043, 1, 1, 170), (100046, 1, 2, 175), (100049, 1, 3, 178), (100052, 1, 4, 180),
  (100055, 1, 5, 185), (200009, 2, 0, 383), (200015, 2, 1, 385), (200018, 2, 2, 387), (200021, 2, 4, 389), (200033, 2, 3, 388), (300011, 3, 1, 136), (300015, 3, 0, 135), (300019, 3, 2, 139), (300023, 3, 3, 142),
  (300027, 3, 5, 145), (300030, 3, 4, 144), (300065, 9, 4, 90), (400011, 4, 0, 407), (400015, 4, 2, 410), (400018, 4, 4, 412), (400027, 4, 1, 408), (400037, 4, 3, 411), (400046, 1, 1, 172), (400057, 1, 4, 181),
  (400068, 4, 5, 413), (400071, 4, 6, 415), (500012, 5, 0, 315), (500018, 5, 8, 333), (500022, 5, 1, 317), (500026, 5, 2, 319), (500030, 5, 3, 321), (500033, 5, 4, 325), (500036, 5, 5, 327), (500040, 5, 6, 330),
  (500043, 1, 9, 199), (500048, 5, 7, 331), (500056, 1, 0, 167), (500059, 6, 0, 292), (500070, 1, 12, 208), (500073, 1, 13, 211), (500076, 1, 14, 214), (500106, 1, 4, 184), (600009, 6, 0, 291), (600015, 6, 1, 294),
  (600018, 6, 2, 296), (600021, 6, 4, 300), (600024, 6, 5, 301), (600055, 6, 3, 298), (700009, 7, 0, 438), (700015, 7, 1, 440), (700019, 1, 1, 171), (700024, 1, 9, 198), (700045, 1, 0, 168), (800011, 8, 0, 360),
  (800015, 8, 2, 362), (800019, 8, 3, 363), (800023, 8, 4, 364), (800026, 5, 2, 318), (800035, 5, 4, 324), (800038, 5, 3, 322), (800045, 8, 1, 361), (800064, 5, 5, 328), (900009, 9, 0, 84), (900015, 9, 1, 85),
  (900018, 9, 11, 100), (900040, 9, 2, 86), (900043, 9, 3, 87), (900046, 9, 10, 97), (900049, 9, 5, 91), (900055, 9, 4, 89), (900072, 9, 7, 93), (900075, 9, 6, 92), (900077, 9, 9, 96), (900080, 9, 8, 94),
  (1000009, 10, 0, 252), (1000015, 10, 1, 253), (1000019, 10, 2, 254), (1000037, 9, 10, 98), (1000041, 9, 4, 88), (1000056, 1, 0, 166), (1000078, 3, 1, 137), (1000082, 1, 12, 207), (1000083, 3, 2, 140), (1000096, 1, 13, 210),
  (1000102, 1, 14, 213), (1000123, 1, 4, 182), (1000126, 1, 5, 186), (1000132, 9, 9, 95), (1000138, 1, 1, 174), (1000141, 1, 6, 190), (1000147, 1, 10, 204), (1000154, 1, 9, 200), (1000164, 1, 2, 177), (1000167, 1, 7, 193),
  (1000170, 1, 8, 195), (1200007, 12, 0, 1174), (1200013, 12, 8, 1182), (1200017, 12, 9, 1183), (1200020, 12, 11, 1185), (1200024, 12, 12, 1186), (1200027, 12, 13, 1187), (1200030, 12, 14, 1188), (1200033, 12, 15, 1189), (1200036, 12, 16, 1190),
  (1200039, 12, 17, 1191), (1200042, 12, 18, 1192), (1200045, 12, 19, 1193), (1200048, 12, 20, 1194), (1200051, 12, 21, 1195), (1200054, 12, 22, 1196), (1200057, 12, 23, 1197), (1200060, 12, 24, 1198), (1200063, 12, 25, 1199), (1200066, 12, 26, 1200),
  (1200069, 12, 27, 1201), (1200072, 12, 28, 1202), (1200075, 12, 29, 1203), (1200078, 12, 30, 1204), (1200081, 12, 31, 1205), (1200084, 12, 32, 1206), (1200087, 12, 33, 1207), (1200090, 12, 34, 1208), (1200093, 12, 35, 1209), (1200096, 12, 36, 1210),
  (1200099, 12, 38, 1212), (1200102, 12, 39, 1213), (1200105, 12, 40, 1214), (1200109, 12, 41, 1215), (1200112, 12, 42, 1216), (1200115, 12, 43, 1217), (1200118, 12, 44, 1218), (1200122, 12, 45, 1219), (1200125, 12, 46, 1220), (1200128, 12, 47, 1221),
  (1200131, 12, 52, 1226), (1200134, 12, 53, 1227), (1200137, 12, 57, 1231), (1200140, 12, 61, 1235), (1200143, 12, 62, 1236), (1200146, 12, 64, 1238), (1200149, 12, 65, 1239), (1200152, 12, 67, 1241), (1200155, 12, 70, 1244), (1200159, 12, 71, 1245),
  (1200162, 12, 72, 1246), (1200165, 12, 73, 1247), (1200168, 12, 74, 1248), (1200171, 12, 75, 1249), (1200174, 12, 76, 1250), (1200177, 12, 77, 1251), (1200180, 12, 78, 1252), (1200183, 12, 79, 1253), (1200186, 12, 80, 1254), (1200189, 12, 81, 1255),
  (1200192, 12, 82, 1256), (1200195, 12, 83, 1257), (1200198, 12, 84, 1258), (1200201, 12, 85, 1259), (1200204, 12, 86, 1260), (1200207, 12, 87, 1261), (1200210, 12, 88, 1262), (1200213, 12, 89, 1263), (1200216, 12, 90, 1264), (1200219, 12, 91, 1265),
  (1200222, 12, 92, 1266), (1200225, 12, 93, 1267), (1200228, 12, 94, 1268), (1200231, 12, 96, 1270), (1200234, 12, 100, 1274), (1200237, 12, 104, 1278), (1200240, 12, 1, 1175), (1200243, 12, 5, 1179), (1200246, 12, 6, 1180), (1200249, 12, 2, 1176),
  (1200252, 12, 3, 1177), (1200263, 12, 4, 1178), (1200283, 12, 10, 1184), (1200294, 12, 37, 1211), (1200301, 12, 51, 1225), (1200327, 12, 95, 1269), (1200330, 12, 97, 1271), (1200333, 12, 98, 1272), (1200336, 12, 99, 1273), (1200345, 12, 48, 1222),
  (1200348, 12, 49, 1223), (1200372, 12, 7, 1181), (1200378, 12, 50, 1224), (1200382, 12, 68, 1242), (1200385, 12, 63, 1237), (1200410, 12, 101, 1275), (1200424, 12, 54, 1228), (1200427, 12, 55, 1229), (1200441, 12, 56, 1230), (1200449, 12, 58, 1232),
  (1200452, 12, 60, 1234), (1200465, 12, 59, 1233), (1200537, 12, 66, 1240), (1200552, 12, 69, 1243), (1200647, 12, 102, 1276), (1200650, 12, 103, 1277), (1200664, 12, 105, 1279)]
/-- method links: class * 100000 + entry, the method, the kind (0 of an object, 1 static, 2 a constructor, 4 a nest mate's constructor, 10.. the JDK's own), the place of the word -/
def am_ML : List (Nat × Nat × Nat × Nat) := [(1100003, 0, 16, 26), (1100015, 69, 2, 31), (1100022, 13, 2, 131), (1100041, 89, 2, 248), (1100063, 36, 2, 281), (1100111, 155, 0, 506), (1100115, 154, 0, 510), (1100119, 70, 0, 522), (1100123, 90, 0, 545), (1100132, 0, 13, 729),
  (1100138, 156, 0, 730), (1100159, 147, 0, 742), (1100163, 148, 0, 754), (1100166, 149, 0, 758), (1100172, 137, 0, 767), (1100178, 143, 1, 771), (1100182, 138, 0, 774), (1100188, 144, 0, 750), (1100191, 146, 0, 746), (1100197, 140, 0, 786),
  (1100201, 141, 1, 794), (1100206, 37, 0, 798), (1100213, 43, 0, 803), (1100216, 139, 0, 855), (1100219, 6, 0, 863), (1100225, 150, 0, 876), (1100229, 45, 0, 880), (1100245, 46, 0, 901), (1100248, 47, 0, 910), (1100251, 64, 0, 922),
  (1100255, 65, 0, 946), (1100258, 151, 0, 954), (1100261, 40, 0, 962), (1100265, 136, 0, 859), (1100272, 153, 0, 970), (1100275, 11, 0, 974), (1100281, 30, 0, 989), (1100285, 31, 0, 998), (1100289, 32, 0, 1006), (1100292, 34, 0, 1018),
  (1100301, 142, 1, 1031), (1100304, 1, 0, 1034), (1100308, 145, 0, 1040), (1100312, 0, 11, 762), (1100317, 152, 0, 1060), (1100320, 157, 0, 1064), (1100323, 159, 0, 1081), (1100329, 2, 0, 1091), (1100333, 17, 0, 1103), (1100336, 160, 0, 1110),
  (1100340, 57, 0, 1135), (1100350, 60, 1, 1151), (1100354, 62, 1, 1161), (1100357, 38, 0, 1068), (1100360, 39, 0, 1072), (1100362, 158, 0, 1073), (1100369, 162, 0, 1115), (1100372, 161, 1, 1122), (1100376, 0, 14, 1125), (1100380, 0, 15, 1128),
  (1100394, 41, 0, 1119), (1100397, 42, 0, 1120), (1100416, 49, 0, 1121), (3, 0, 16, 267), (19, 0, 13, 1038), (28, 0, 11, 1039), (100003, 0, 16, 164), (100058, 23, 1, 553), (100064, 8, 0, 691), (200003, 0, 16, 382),
  (200024, 0, 11, 978), (200030, 0, 10, 979), (200037, 23, 1, 980), (200043, 12, 0, 981), (300005, 0, 16, 134), (300033, 18, 0, 625), (300037, 14, 0, 1107), (300040, 15, 0, 1108), (300043, 83, 0, 651), (300049, 73, 0, 624),
  (300052, 20, 0, 633), (300055, 24, 0, 639), (300058, 72, 0, 661), (300061, 79, 0, 1109), (300068, 71, 0, 623), (300072, 21, 0, 610), (300075, 82, 0, 618), (300079, 22, 0, 614), (300082, 19, 0, 619), (300085, 81, 0, 629),
  (300088, 85, 0, 634), (300091, 84, 0, 666), (300094, 25, 0, 643), (300097, 26, 0, 647), (300100, 80, 0, 652), (300103, 87, 0, 656), (300107, 27, 0, 657), (300110, 28, 0, 662), (400003, 0, 16, 406), (400021, 0, 13, 993),
  (400031, 0, 11, 1002), (400040, 23, 1, 1003), (400051, 37, 0, 1004), (400060, 45, 0, 1005), (400064, 33, 0, 1010), (400074, 35, 0, 1022), (400077, 0, 10, 1026), (500003, 0, 16, 284), (500050, 0, 13, 802), (500062, 6, 0, 807),
  (500066, 42, 0, 808), (500079, 49, 0, 812), (500083, 0, 11, 849), (500089, 0, 10, 850), (500092, 43, 0, 896), (500095, 39, 0, 888), (500099, 41, 0, 884), (500103, 44, 0, 892), (500109, 45, 0, 905), (600003, 0, 16, 290),
  (600028, 0, 10, 816), (600036, 50, 0, 819), (600040, 52, 0, 823), (600044, 51, 0, 827), (600048, 53, 0, 831), (600051, 54, 1, 835), (600058, 55, 1, 838), (600062, 297, 1, 845), (600065, 0, 11, 848), (700003, 0, 16, 437),
  (700027, 0, 13, 1139), (700033, 58, 1, 1140), (700037, 59, 1, 1154), (700041, 61, 1, 1157), (700048, 0, 10, 1160), (800003, 0, 16, 359), (800031, 39, 0, 926), (800041, 66, 1, 927), (800048, 78, 1, 930), (800054, 0, 10, 933),
  (800060, 67, 0, 934), (800068, 44, 0, 938), (800072, 0, 12, 939), (800076, 68, 0, 942), (900003, 0, 16, 34), (900024, 0, 17, 36), (900030, 0, 18, 46), (900034, 0, 11, 526), (900052, 73, 0, 529), (900058, 71, 0, 580),
  (900062, 74, 0, 533), (900065, 75, 0, 537), (900069, 76, 0, 541), (900083, 81, 0, 638), (900087, 72, 0, 576), (900090, 82, 0, 572), (1000003, 0, 16, 251), (1000023, 4, 0, 549), (1000028, 14, 0, 556), (1000031, 79, 0, 560),
  (1000044, 71, 0, 564), (1000048, 86, 0, 568), (1000052, 87, 0, 581), (1000059, 77, 0, 585), (1000063, 98, 0, 593), (1000066, 92, 0, 671), (1000069, 85, 0, 717), (1000072, 72, 0, 716), (1000075, 91, 0, 718), (1000086, 0, 13, 726),
  (1000092, 5, 0, 597), (1000099, 16, 0, 722), (1000105, 83, 0, 589), (1000108, 94, 0, 675), (1000111, 95, 0, 695), (1000114, 96, 0, 700), (1000117, 97, 0, 712), (1000120, 73, 0, 601), (1000129, 88, 0, 683), (1000135, 9, 0, 687),
  (1000144, 93, 0, 679), (1000150, 8, 0, 699), (1000157, 6, 0, 704), (1000161, 7, 0, 708), (1000173, 15, 0, 602), (1000176, 20, 0, 606), (1000179, 24, 0, 670), (1300009, 99, 2, 23), (1300012, 163, 2, 1170), (1300013, 100, 0, 502),
  (1300017, 165, 0, 1495), (1300018, 101, 0, 514), (1300022, 166, 0, 1499), (1300023, 102, 0, 518), (1300027, 189, 0, 1503), (1300028, 103, 0, 734), (1300032, 191, 0, 1677), (1300033, 104, 0, 738), (1300036, 218, 0, 1681), (1300037, 105, 0, 763),
  (1300041, 219, 0, 1709), (1300042, 106, 0, 778), (1300046, 220, 0, 1714), (1300047, 107, 0, 782), (1300050, 221, 0, 1730), (1300051, 108, 0, 790), (1300055, 222, 0, 1742), (1300056, 109, 0, 851), (1300059, 223, 0, 1790), (1300060, 110, 0, 864),
  (1300063, 224, 0, 1794), (1300064, 111, 0, 868), (1300067, 225, 0, 1802), (1300068, 112, 0, 872), (1300071, 226, 0, 1807), (1300072, 113, 0, 897), (1300075, 228, 0, 1849), (1300076, 114, 0, 906), (1300079, 229, 0, 1857), (1300080, 115, 0, 914),
  (1300083, 230, 0, 1861), (1300084, 116, 0, 918), (1300087, 234, 0, 1865), (1300088, 117, 0, 950), (1300091, 235, 0, 1881), (1300092, 118, 0, 958), (1300095, 236, 0, 1885), (1300096, 119, 0, 966), (1300099, 239, 0, 1889), (1300100, 120, 0, 985),
  (1300103, 241, 0, 1901), (1300104, 121, 0, 994), (1300107, 245, 0, 1909), (1300108, 122, 0, 1014), (1300111, 247, 0, 1925), (1300112, 123, 0, 1027), (1300116, 251, 0, 1937), (1300117, 124, 0, 1044), (1300120, 252, 0, 1949), (1300121, 125, 0, 1048),
  (1300124, 253, 0, 1953), (1300125, 126, 0, 1052), (1300129, 254, 0, 1957), (1300130, 127, 0, 1056), (1300133, 255, 0, 1961), (1300134, 128, 0, 1077), (1300137, 258, 0, 1969), (1300138, 129, 0, 1087), (1300142, 249, 0, 1933), (1300143, 130, 0, 1095),
  (1300146, 256, 0, 1965), (1300147, 131, 0, 1099), (1300151, 287, 0, 1981), (1300152, 132, 0, 1131), (1300155, 290, 0, 2002), (1300156, 133, 0, 1143), (1300159, 291, 0, 2013), (1300160, 134, 0, 1147), (1300163, 294, 0, 2017), (1300164, 135, 0, 1164),
  (1300167, 295, 0, 2029), (1200001, 0, 16, 1173), (1200255, 170, 0, 1523), (1200259, 168, 1, 1527), (1200266, 171, 0, 1519), (1200270, 172, 0, 1515), (1200273, 167, 0, 1530), (1200277, 174, 0, 1548), (1200280, 169, 1, 1538), (1200286, 164, 1, 1541),
  (1200290, 177, 0, 1572), (1200304, 178, 0, 1568), (1200308, 173, 0, 1511), (1200312, 176, 0, 1534), (1200316, 175, 0, 1544), (1200320, 180, 0, 1560), (1200324, 181, 0, 1564), (1200339, 276, 0, 1594), (1200342, 272, 0, 1610), (1200351, 183, 0, 1556),
  (1200354, 184, 0, 1578), (1200357, 185, 0, 1582), (1200360, 186, 0, 1586), (1200363, 187, 0, 1590), (1200366, 182, 0, 1507), (1200369, 188, 0, 1552), (1200375, 190, 0, 1673), (1200388, 192, 0, 1689), (1200391, 201, 0, 1722), (1200395, 199, 0, 1726),
  (1200398, 200, 0, 1738), (1200401, 195, 0, 1697), (1200404, 204, 0, 1693), (1200407, 198, 0, 1705), (1200413, 280, 0, 1755), (1200417, 282, 0, 1759), (1200421, 281, 0, 1775), (1200430, 206, 0, 1751), (1200437, 207, 0, 1747), (1200446, 197, 0, 1771),
  (1200455, 205, 0, 1828), (1200458, 203, 0, 1763), (1200461, 208, 0, 1832), (1200468, 209, 0, 1837), (1200471, 210, 0, 1824), (1200474, 213, 0, 1845), (1200477, 216, 0, 1685), (1200480, 217, 0, 1701), (1200485, 194, 0, 1718), (1200488, 202, 0, 1734),
  (1200496, 193, 0, 1798), (1200501, 215, 0, 1811), (1200506, 212, 0, 1816), (1200509, 211, 0, 1820), (1200512, 214, 0, 1841), (1200515, 227, 0, 1853), (1200518, 232, 0, 1873), (1200521, 231, 0, 1877), (1200525, 233, 0, 1869), (1200528, 237, 0, 1897),
  (1200531, 238, 0, 1893), (1200534, 240, 0, 1905), (1200540, 242, 0, 1917), (1200543, 243, 0, 1921), (1200546, 244, 0, 1913), (1200549, 246, 0, 1929), (1200555, 196, 0, 1767), (1200558, 250, 0, 1941), (1200561, 248, 0, 1945), (1200572, 257, 0, 1973),
  (1200575, 259, 0, 1606), (1200578, 263, 1, 1650), (1200581, 262, 0, 1638), (1200584, 266, 0, 1622), (1200587, 179, 0, 1626), (1200590, 267, 0, 1618), (1200593, 260, 0, 1598), (1200596, 268, 0, 1630), (1200599, 269, 0, 1634), (1200602, 264, 0, 1646),
  (1200605, 265, 0, 1653), (1200608, 261, 0, 1657), (1200611, 270, 0, 1614), (1200614, 271, 0, 1642), (1200617, 273, 0, 1602), (1200620, 275, 0, 1661), (1200623, 277, 0, 1665), (1200626, 274, 0, 1669), (1200633, 278, 1, 1779), (1200637, 279, 1, 1784),
  (1200643, 283, 0, 1994), (1200653, 285, 0, 1985), (1200656, 284, 0, 1990), (1200660, 286, 0, 1998), (1200667, 289, 0, 2006), (1200670, 288, 1, 2010), (1200674, 292, 0, 2025), (1200677, 293, 0, 2021), (1100031, 3, 4, 161), (1100056, 0, 4, 264),
  (1100075, 63, 4, 356), (1100082, 10, 4, 379), (1100089, 29, 4, 403), (1100096, 56, 4, 434), (500011, 48, 4, 287)]
def am_CL : List (Nat × Nat × Nat) := [(1100013, 9, 29), (1100020, 3, 129), (1100029, 1, 159), (1100039, 10, 246), (1100054, 0, 262), (1100061, 5, 279), (1100073, 8, 354), (1100080, 2, 377), (1100087, 4, 401), (1100094, 7, 432),
  (500009, 6, 285), (1300007, 11, 21), (1300010, 12, 1168)]
def am_KL : List (Nat × Nat × Nat) := [(1100365, 2, 1085), (1100366, 3, 1086), (600070, 1, 842), (600073, 0, 844)]
def am_JL : List (Nat × Nat × Nat) := [(1100204, 0, 797), (1100367, 3, 1114), (600068, 14, 841), (600071, 1, 843), (1200297, 9, 1576), (1200299, 11, 1577), (1200433, 2, 1787), (1200435, 8, 1788), (1200444, 12, 1836), (1200483, 6, 1713),
  (1200492, 7, 1746), (1200494, 0, 1789), (1200499, 4, 1806), (1200504, 5, 1815), (1200564, 15, 1977), (1200566, 13, 1978), (1200568, 16, 1979), (1200570, 10, 1980), (1200629, 14, 1782), (1200631, 1, 1783),
  (1200641, 3, 1989)]
