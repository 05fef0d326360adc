-- the classes of the system, their fields (printed names of the task), the good words of the tables
def RX0 : String := "AskedCourt$Court"
def TX0 : u_T := fun k => match k with
  | 0 => ("AskedCourt$Court", "facts", "LAskedCourt$Names;", true)
  | 1 => ("AskedCourt$Court", "persons", "LAskedCourt$Names;", true)
  | 2 => ("AskedCourt$Court", "questions", "LAskedCourt$Names;", true)
  | 3 => ("AskedCourt$Court", "lips", "[I", true)
  | 4 => ("AskedCourt$Court", "wits", "[I", true)
  | 5 => ("AskedCourt$Court", "rooms", "[I", true)
  | 6 => ("AskedCourt$Court", "knows", "[I", true)
  | 7 => ("AskedCourt$Court", "kinds", "[I", true)
  | 8 => ("AskedCourt$Court", "supposes", "[I", true)
  | 9 => ("AskedCourt$Court", "also", "[I", true)
  | 10 => ("AskedCourt$Court", "asks", "[I", true)
  | 11 => ("AskedCourt$Court", "talkOne", "[I", true)
  | 12 => ("AskedCourt$Court", "talkOther", "[I", true)
  | 13 => ("AskedCourt$Court", "talkQuestion", "[I", true)
  | 14 => ("AskedCourt$Court", "slip", "LAskedCourt$Law;", true)
  | 15 => ("AskedCourt$Court", "hear", "LAskedCourt$Law;", true)
  | 16 => ("AskedCourt$Court", "talkLength", "I", false)
  | 17 => ("AskedCourt$Court", "nine", "I", false)
  | 18 => ("AskedCourt$Court", "seed", "I", false)
  | _ => ("AskedCourt$Court", "knots", "I", false)
def tyX0 : Nat → FieldType := fun k => match k with
  | 0 => .object "AskedCourt$Names"
  | 1 => .object "AskedCourt$Names"
  | 2 => .object "AskedCourt$Names"
  | 3 => .array .int
  | 4 => .array .int
  | 5 => .array .int
  | 6 => .array .int
  | 7 => .array .int
  | 8 => .array .int
  | 9 => .array .int
  | 10 => .array .int
  | 11 => .array .int
  | 12 => .array .int
  | 13 => .array .int
  | 14 => .object "AskedCourt$Law"
  | 15 => .object "AskedCourt$Law"
  | 16 => .int
  | 17 => .int
  | 18 => .int
  | _ => .int
theorem nmX0 : ∀ a, a < 20 → ∀ b, b < 20 → a ≠ b → (TX0 a).2.1 ≠ (TX0 b).2.1 := by decide +kernel
theorem tyX0_ok : ∀ k, k < 20 → parseFieldDescriptor (TX0 k).2.2.1 = some (tyX0 k) := by decide +kernel
def RX1 : String := "AskedCourt$History"
def TX1 : u_T := fun k => match k with
  | 0 => ("AskedCourt$History", "states", "[LAskedCourt$State;", true)
  | 1 => ("AskedCourt$History", "oldest", "I", false)
  | _ => ("AskedCourt$History", "size", "I", false)
def tyX1 : Nat → FieldType := fun k => match k with
  | 0 => .array (.object "AskedCourt$State")
  | 1 => .int
  | _ => .int
theorem nmX1 : ∀ a, a < 3 → ∀ b, b < 3 → a ≠ b → (TX1 a).2.1 ≠ (TX1 b).2.1 := by decide +kernel
theorem tyX1_ok : ∀ k, k < 3 → parseFieldDescriptor (TX1 k).2.2.1 = some (tyX1 k) := by decide +kernel
def RX2 : String := "AskedCourt$Law"
def TX2 : u_T := fun k => match k with
  | 0 => ("AskedCourt$Law", "codes", "[I", true)
  | 1 => ("AskedCourt$Law", "numbers", "[I", true)
  | 2 => ("AskedCourt$Law", "length", "I", false)
  | _ => ("AskedCourt$Law", "isTold", "Z", false)
def tyX2 : Nat → FieldType := fun k => match k with
  | 0 => .array .int
  | 1 => .array .int
  | 2 => .int
  | _ => .boolean
theorem nmX2 : ∀ a, a < 4 → ∀ b, b < 4 → a ≠ b → (TX2 a).2.1 ≠ (TX2 b).2.1 := by decide +kernel
theorem tyX2_ok : ∀ k, k < 4 → parseFieldDescriptor (TX2 k).2.2.1 = some (tyX2 k) := by decide +kernel
def RX3 : String := "AskedCourt$LawReader"
def TX3 : u_T := fun k => match k with
  | 0 => ("AskedCourt$LawReader", "tokens", "LAskedCourt$Tokens;", true)
  | 1 => ("AskedCourt$LawReader", "waiting", "[I", true)
  | 2 => ("AskedCourt$LawReader", "top", "I", false)
  | 3 => ("AskedCourt$LawReader", "open", "I", false)
  | 4 => ("AskedCourt$LawReader", "wantsOperand", "Z", false)
  | 5 => ("AskedCourt$LawReader", "law", "LAskedCourt$Law;", false)
  | _ => ("AskedCourt$LawReader", "court", "LAskedCourt$Court;", false)
def tyX3 : Nat → FieldType := fun k => match k with
  | 0 => .object "AskedCourt$Tokens"
  | 1 => .array .int
  | 2 => .int
  | 3 => .int
  | 4 => .boolean
  | 5 => .object "AskedCourt$Law"
  | _ => .object "AskedCourt$Court"
theorem nmX3 : ∀ a, a < 7 → ∀ b, b < 7 → a ≠ b → (TX3 a).2.1 ≠ (TX3 b).2.1 := by decide +kernel
theorem tyX3_ok : ∀ k, k < 7 → parseFieldDescriptor (TX3 k).2.2.1 = some (tyX3 k) := by decide +kernel
def RX4 : String := "AskedCourt$Names"
def TX4 : u_T := fun k => match k with
  | 0 => ("AskedCourt$Names", "codes", "[I", true)
  | 1 => ("AskedCourt$Names", "most", "I", true)
  | _ => ("AskedCourt$Names", "size", "I", false)
def tyX4 : Nat → FieldType := fun k => match k with
  | 0 => .array .int
  | 1 => .int
  | _ => .int
theorem nmX4 : ∀ a, a < 3 → ∀ b, b < 3 → a ≠ b → (TX4 a).2.1 ≠ (TX4 b).2.1 := by decide +kernel
theorem tyX4_ok : ∀ k, k < 3 → parseFieldDescriptor (TX4 k).2.2.1 = some (tyX4 k) := by decide +kernel
def RX5 : String := "AskedCourt$Notes"
def TX5 : u_T := fun k => match k with
  | 0 => ("AskedCourt$Notes", "behind", "[I", true)
  | 1 => ("AskedCourt$Notes", "persons", "[I", true)
  | 2 => ("AskedCourt$Notes", "facts", "[I", true)
  | 3 => ("AskedCourt$Notes", "is", "[Z", true)
  | 4 => ("AskedCourt$Notes", "strikes", "[I", true)
  | 5 => ("AskedCourt$Notes", "struck", "[Z", true)
  | 6 => ("AskedCourt$Notes", "size", "I", false)
  | _ => ("AskedCourt$Notes", "knownBy", "I", false)
def tyX5 : Nat → FieldType := fun k => match k with
  | 0 => .array .int
  | 1 => .array .int
  | 2 => .array .int
  | 3 => .array .boolean
  | 4 => .array .int
  | 5 => .array .boolean
  | 6 => .int
  | _ => .int
theorem nmX5 : ∀ a, a < 8 → ∀ b, b < 8 → a ≠ b → (TX5 a).2.1 ≠ (TX5 b).2.1 := by decide +kernel
theorem tyX5_ok : ∀ k, k < 8 → parseFieldDescriptor (TX5 k).2.2.1 = some (tyX5 k) := by decide +kernel
def RX6 : String := "AskedCourt$Rules"
def TX6 : u_T := fun k => match k with
  | 0 => ("AskedCourt$Rules", "names", "[I", true)
  | 1 => ("AskedCourt$Rules", "stack", "[J", true)
  | 2 => ("AskedCourt$Rules", "court", "LAskedCourt$Court;", false)
  | 3 => ("AskedCourt$Rules", "draws", "Z", false)
  | 4 => ("AskedCourt$Rules", "missing", "I", false)
  | 5 => ("AskedCourt$Rules", "leftOut", "I", false)
  | 6 => ("AskedCourt$Rules", "silent", "Z", false)
  | _ => ("AskedCourt$Rules", "wise", "Z", false)
def tyX6 : Nat → FieldType := fun k => match k with
  | 0 => .array .int
  | 1 => .array .long
  | 2 => .object "AskedCourt$Court"
  | 3 => .boolean
  | 4 => .int
  | 5 => .int
  | 6 => .boolean
  | _ => .boolean
theorem nmX6 : ∀ a, a < 8 → ∀ b, b < 8 → a ≠ b → (TX6 a).2.1 ≠ (TX6 b).2.1 := by decide +kernel
theorem tyX6_ok : ∀ k, k < 8 → parseFieldDescriptor (TX6 k).2.2.1 = some (tyX6 k) := by decide +kernel
def RX7 : String := "AskedCourt$Search"
def TX7 : u_T := fun k => match k with
  | 0 => ("AskedCourt$Search", "first", "LAskedCourt$State;", true)
  | 1 => ("AskedCourt$Search", "second", "LAskedCourt$State;", true)
  | 2 => ("AskedCourt$Search", "codes", "[I", true)
  | 3 => ("AskedCourt$Search", "length", "I", false)
  | 4 => ("AskedCourt$Search", "most", "I", false)
  | 5 => ("AskedCourt$Search", "person", "I", false)
  | 6 => ("AskedCourt$Search", "fact", "I", false)
  | 7 => ("AskedCourt$Search", "others", "I", false)
  | 8 => ("AskedCourt$Search", "oneHas", "[I", true)
  | 9 => ("AskedCourt$Search", "otherHas", "[I", true)
  | 10 => ("AskedCourt$Search", "rests", "[I", true)
  | _ => ("AskedCourt$Search", "restCount", "I", false)
def tyX7 : Nat → FieldType := fun k => match k with
  | 0 => .object "AskedCourt$State"
  | 1 => .object "AskedCourt$State"
  | 2 => .array .int
  | 3 => .int
  | 4 => .int
  | 5 => .int
  | 6 => .int
  | 7 => .int
  | 8 => .array .int
  | 9 => .array .int
  | 10 => .array .int
  | _ => .int
theorem nmX7 : ∀ a, a < 12 → ∀ b, b < 12 → a ≠ b → (TX7 a).2.1 ≠ (TX7 b).2.1 := by decide +kernel
theorem tyX7_ok : ∀ k, k < 12 → parseFieldDescriptor (TX7 k).2.2.1 = some (tyX7 k) := by decide +kernel
def RX8 : String := "AskedCourt$State"
def TX8 : u_T := fun k => match k with
  | 0 => ("AskedCourt$State", "knows", "[I", true)
  | 1 => ("AskedCourt$State", "rooms", "[I", true)
  | 2 => ("AskedCourt$State", "lost", "[I", true)
  | 3 => ("AskedCourt$State", "asked", "[I", true)
  | 4 => ("AskedCourt$State", "day", "I", false)
  | 5 => ("AskedCourt$State", "askedInAll", "I", false)
  | 6 => ("AskedCourt$State", "number", "I", false)
  | _ => ("AskedCourt$State", "persons", "I", false)
def tyX8 : Nat → FieldType := fun k => match k with
  | 0 => .array .int
  | 1 => .array .int
  | 2 => .array .int
  | 3 => .array .int
  | 4 => .int
  | 5 => .int
  | 6 => .int
  | _ => .int
theorem nmX8 : ∀ a, a < 8 → ∀ b, b < 8 → a ≠ b → (TX8 a).2.1 ≠ (TX8 b).2.1 := by decide +kernel
theorem tyX8_ok : ∀ k, k < 8 → parseFieldDescriptor (TX8 k).2.2.1 = some (tyX8 k) := by decide +kernel
def RX9 : String := "AskedCourt$TextReader"
def TX9 : u_T := fun k => match k with
  | 0 => ("AskedCourt$TextReader", "tokens", "LAskedCourt$Tokens;", true)
  | 1 => ("AskedCourt$TextReader", "lawReader", "LAskedCourt$LawReader;", true)
  | 2 => ("AskedCourt$TextReader", "court", "LAskedCourt$Court;", false)
  | 3 => ("AskedCourt$TextReader", "nineTold", "Z", false)
  | 4 => ("AskedCourt$TextReader", "seedTold", "Z", false)
  | 5 => ("AskedCourt$TextReader", "lines", "I", false)
  | _ => ("AskedCourt$TextReader", "taken", "I", false)
def tyX9 : Nat → FieldType := fun k => match k with
  | 0 => .object "AskedCourt$Tokens"
  | 1 => .object "AskedCourt$LawReader"
  | 2 => .object "AskedCourt$Court"
  | 3 => .boolean
  | 4 => .boolean
  | 5 => .int
  | _ => .int
theorem nmX9 : ∀ a, a < 7 → ∀ b, b < 7 → a ≠ b → (TX9 a).2.1 ≠ (TX9 b).2.1 := by decide +kernel
theorem tyX9_ok : ∀ k, k < 7 → parseFieldDescriptor (TX9 k).2.2.1 = some (tyX9 k) := by decide +kernel
def RX10 : String := "AskedCourt$Tokens"
def TX10 : u_T := fun k => match k with
  | 0 => ("AskedCourt$Tokens", "bytes", "[I", true)
  | 1 => ("AskedCourt$Tokens", "words", "[I", true)
  | 2 => ("AskedCourt$Tokens", "length", "I", false)
  | 3 => ("AskedCourt$Tokens", "at", "I", false)
  | 4 => ("AskedCourt$Tokens", "kind", "I", false)
  | 5 => ("AskedCourt$Tokens", "place", "I", false)
  | _ => ("AskedCourt$Tokens", "value", "I", false)
def tyX10 : Nat → FieldType := fun k => match k with
  | 0 => .array .int
  | 1 => .array .int
  | 2 => .int
  | 3 => .int
  | 4 => .int
  | 5 => .int
  | _ => .int
theorem nmX10 : ∀ a, a < 7 → ∀ b, b < 7 → a ≠ b → (TX10 a).2.1 ≠ (TX10 b).2.1 := by decide +kernel
theorem tyX10_ok : ∀ k, k < 7 → parseFieldDescriptor (TX10 k).2.2.1 = some (tyX10 k) := by decide +kernel
def RX11 : String := "AskedCourt"
def TX11 : u_T := fun k => match k with
  | 0 => ("AskedCourt", "tape", "[I", true)
  | 1 => ("AskedCourt", "now", "LAskedCourt$State;", true)
  | 2 => ("AskedCourt", "image", "LAskedCourt$State;", true)
  | 3 => ("AskedCourt", "history", "LAskedCourt$History;", true)
  | 4 => ("AskedCourt", "notes", "LAskedCourt$Notes;", true)
  | 5 => ("AskedCourt", "search", "LAskedCourt$Search;", true)
  | 6 => ("AskedCourt", "trial", "LAskedCourt$State;", true)
  | 7 => ("AskedCourt", "court", "LAskedCourt$Court;", false)
  | 8 => ("AskedCourt", "spare", "LAskedCourt$Court;", false)
  | 9 => ("AskedCourt", "reader", "LAskedCourt$TextReader;", true)
  | 10 => ("AskedCourt", "rules", "LAskedCourt$Rules;", true)
  | 11 => ("AskedCourt", "taped", "I", false)
  | 12 => ("AskedCourt", "fault", "I", false)
  | 13 => ("AskedCourt", "faultPlace", "I", false)
  | _ => ("AskedCourt", "hasImage", "Z", false)
def tyX11 : Nat → FieldType := fun k => match k with
  | 0 => .array .int
  | 1 => .object "AskedCourt$State"
  | 2 => .object "AskedCourt$State"
  | 3 => .object "AskedCourt$History"
  | 4 => .object "AskedCourt$Notes"
  | 5 => .object "AskedCourt$Search"
  | 6 => .object "AskedCourt$State"
  | 7 => .object "AskedCourt$Court"
  | 8 => .object "AskedCourt$Court"
  | 9 => .object "AskedCourt$TextReader"
  | 10 => .object "AskedCourt$Rules"
  | 11 => .int
  | 12 => .int
  | 13 => .int
  | _ => .boolean
theorem nmX11 : ∀ a, a < 15 → ∀ b, b < 15 → a ≠ b → (TX11 a).2.1 ≠ (TX11 b).2.1 := by decide +kernel
theorem tyX11_ok : ∀ k, k < 15 → parseFieldDescriptor (TX11 k).2.2.1 = some (tyX11 k) := by decide +kernel
def RX12 : String := "AskedCourtModel"
def TX12 : u_T := fun k => match k with
  | 0 => ("AskedCourtModel", "tape", "[I", true)
  | 1 => ("AskedCourtModel", "tapeSize", "I", false)
  | 2 => ("AskedCourtModel", "thrown", "I", false)
  | 3 => ("AskedCourtModel", "words", "[I", true)
  | 4 => ("AskedCourtModel", "fault", "I", false)
  | 5 => ("AskedCourtModel", "faultPlace", "I", false)
  | 6 => ("AskedCourtModel", "stop", "I", false)
  | 7 => ("AskedCourtModel", "next", "I", false)
  | 8 => ("AskedCourtModel", "kind", "I", false)
  | 9 => ("AskedCourtModel", "which", "I", false)
  | 10 => ("AskedCourtModel", "at", "I", false)
  | 11 => ("AskedCourtModel", "got", "I", false)
  | 12 => ("AskedCourtModel", "facts", "I", false)
  | 13 => ("AskedCourtModel", "persons", "I", false)
  | 14 => ("AskedCourtModel", "questions", "I", false)
  | 15 => ("AskedCourtModel", "talks", "I", false)
  | 16 => ("AskedCourtModel", "knots", "I", false)
  | 17 => ("AskedCourtModel", "factsRead", "I", false)
  | 18 => ("AskedCourtModel", "personsRead", "I", false)
  | 19 => ("AskedCourtModel", "questionsRead", "I", false)
  | 20 => ("AskedCourtModel", "talksRead", "I", false)
  | 21 => ("AskedCourtModel", "knotsRead", "I", false)
  | 22 => ("AskedCourtModel", "onceTold", "[Z", true)
  | 23 => ("AskedCourtModel", "once", "[I", true)
  | 24 => ("AskedCourtModel", "factName", "[I", true)
  | 25 => ("AskedCourtModel", "personName", "[I", true)
  | 26 => ("AskedCourtModel", "personLips", "[I", true)
  | 27 => ("AskedCourtModel", "personWit", "[I", true)
  | 28 => ("AskedCourtModel", "personRoom", "[I", true)
  | 29 => ("AskedCourtModel", "personKnows", "[I", true)
  | 30 => ("AskedCourtModel", "questionName", "[I", true)
  | 31 => ("AskedCourtModel", "questionKind", "[I", true)
  | 32 => ("AskedCourtModel", "questionSays", "[I", true)
  | 33 => ("AskedCourtModel", "questionAlso", "[I", true)
  | 34 => ("AskedCourtModel", "questionAsks", "[I", true)
  | 35 => ("AskedCourtModel", "talkWho", "[I", true)
  | 36 => ("AskedCourtModel", "talkWhom", "[I", true)
  | 37 => ("AskedCourtModel", "talkWhat", "[I", true)
  | 38 => ("AskedCourtModel", "lawTold", "[Z", true)
  | 39 => ("AskedCourtModel", "first", "[I", true)
  | 40 => ("AskedCourtModel", "last", "[I", true)
  | 41 => ("AskedCourtModel", "knot", "[I", true)
  | 42 => ("AskedCourtModel", "part", "[I", true)
  | 43 => ("AskedCourtModel", "other", "[I", true)
  | 44 => ("AskedCourtModel", "wait", "[I", true)
  | 45 => ("AskedCourtModel", "held", "[I", true)
  | 46 => ("AskedCourtModel", "waits", "I", false)
  | 47 => ("AskedCourtModel", "helds", "I", false)
  | 48 => ("AskedCourtModel", "brackets", "I", false)
  | 49 => ("AskedCourtModel", "counted", "I", false)
  | 50 => ("AskedCourtModel", "wants", "Z", false)
  | 51 => ("AskedCourtModel", "mayNot", "Z", false)
  | 52 => ("AskedCourtModel", "names", "[J", true)
  | 53 => ("AskedCourtModel", "value", "[J", true)
  | 54 => ("AskedCourtModel", "isError", "Z", false)
  | 55 => ("AskedCourtModel", "knows", "[I", true)
  | 56 => ("AskedCourtModel", "lost", "[I", true)
  | 57 => ("AskedCourtModel", "room", "[I", true)
  | 58 => ("AskedCourtModel", "asked", "[I", true)
  | 59 => ("AskedCourtModel", "day", "[I", true)
  | 60 => ("AskedCourtModel", "askedAll", "I", false)
  | 61 => ("AskedCourtModel", "drawn", "J", false)
  | 62 => ("AskedCourtModel", "draws", "Z", false)
  | 63 => ("AskedCourtModel", "noNine", "Z", false)
  | 64 => ("AskedCourtModel", "noSlip", "Z", false)
  | 65 => ("AskedCourtModel", "allWit", "Z", false)
  | 66 => ("AskedCourtModel", "gone", "I", false)
  | 67 => ("AskedCourtModel", "without", "I", false)
  | 68 => ("AskedCourtModel", "row", "[I", true)
  | 69 => ("AskedCourtModel", "hasOne", "[I", true)
  | 70 => ("AskedCourtModel", "hasTwo", "[I", true)
  | 71 => ("AskedCourtModel", "notesMany", "I", false)
  | 72 => ("AskedCourtModel", "knownTold", "I", false)
  | 73 => ("AskedCourtModel", "notes", "[I", true)
  | 74 => ("AskedCourtModel", "counts", "[Z", true)
  | 75 => ("AskedCourtModel", "undos", "I", false)
  | 76 => ("AskedCourtModel", "undo", "[I", true)
  | 77 => ("AskedCourtModel", "undoDrawn", "[J", true)
  | 78 => ("AskedCourtModel", "hasImage", "Z", false)
  | 79 => ("AskedCourtModel", "image", "[I", true)
  | _ => ("AskedCourtModel", "imageDrawn", "J", false)
def tyX12 : Nat → FieldType := fun k => match k with
  | 0 => .array .int
  | 1 => .int
  | 2 => .int
  | 3 => .array .int
  | 4 => .int
  | 5 => .int
  | 6 => .int
  | 7 => .int
  | 8 => .int
  | 9 => .int
  | 10 => .int
  | 11 => .int
  | 12 => .int
  | 13 => .int
  | 14 => .int
  | 15 => .int
  | 16 => .int
  | 17 => .int
  | 18 => .int
  | 19 => .int
  | 20 => .int
  | 21 => .int
  | 22 => .array .boolean
  | 23 => .array .int
  | 24 => .array .int
  | 25 => .array .int
  | 26 => .array .int
  | 27 => .array .int
  | 28 => .array .int
  | 29 => .array .int
  | 30 => .array .int
  | 31 => .array .int
  | 32 => .array .int
  | 33 => .array .int
  | 34 => .array .int
  | 35 => .array .int
  | 36 => .array .int
  | 37 => .array .int
  | 38 => .array .boolean
  | 39 => .array .int
  | 40 => .array .int
  | 41 => .array .int
  | 42 => .array .int
  | 43 => .array .int
  | 44 => .array .int
  | 45 => .array .int
  | 46 => .int
  | 47 => .int
  | 48 => .int
  | 49 => .int
  | 50 => .boolean
  | 51 => .boolean
  | 52 => .array .long
  | 53 => .array .long
  | 54 => .boolean
  | 55 => .array .int
  | 56 => .array .int
  | 57 => .array .int
  | 58 => .array .int
  | 59 => .array .int
  | 60 => .int
  | 61 => .long
  | 62 => .boolean
  | 63 => .boolean
  | 64 => .boolean
  | 65 => .boolean
  | 66 => .int
  | 67 => .int
  | 68 => .array .int
  | 69 => .array .int
  | 70 => .array .int
  | 71 => .int
  | 72 => .int
  | 73 => .array .int
  | 74 => .array .boolean
  | 75 => .int
  | 76 => .array .int
  | 77 => .array .long
  | 78 => .boolean
  | 79 => .array .int
  | _ => .long
theorem nmX12 : ∀ a, a < 81 → ∀ b, b < 81 → a ≠ b → (TX12 a).2.1 ≠ (TX12 b).2.1 := by decide +kernel
theorem tyX12_ok : ∀ k, k < 81 → parseFieldDescriptor (TX12 k).2.2.1 = some (tyX12 k) := by decide +kernel
abbrev vwCl : List vw_C := [(RX0, TX0, 20), (RX1, TX1, 3), (RX2, TX2, 4), (RX3, TX3, 7), (RX4, TX4, 3), (RX5, TX5, 8), (RX6, TX6, 8), (RX7, TX7, 12), (RX8, TX8, 8), (RX9, TX9, 7), (RX10, TX10, 7), (RX11, TX11, 15), (RX12, TX12, 81)]
def TW : List Cond := lw_tbl.filter goodWord
theorem tw_at {w : Cond} (i : Nat) (h : lw_tbl[i]? = some w) (g : goodWord w = true) : w ∈ TW := List.mem_filter.mpr ⟨List.mem_of_getElem? h, g⟩
theorem tw_sub {ws : List Cond} (ps : List Nat) (hp : ws = ps.filterMap (fun i => lw_tbl[i]?)) (h : ws.all goodWord = true) : ∀ w ∈ ws, w ∈ TW := by
  intro w hw
  have h1 := List.all_eq_true.mp h w hw
  rw [hp] at hw
  obtain ⟨i, -, hi⟩ := List.mem_filterMap.mp hw
  exact tw_at i hi h1
theorem tw_X0 : ∀ w ∈ u_ws RX0 TX0 20, w ∈ TW := tw_sub [435, 437, 439, 441, 443, 445, 447, 449, 451, 453, 455, 457, 459, 461, 463, 465, 467, 469, 471, 473] (by decide +kernel) (by decide +kernel)
theorem tw_X1 : ∀ w ∈ u_ws RX1 TX1 3, w ∈ TW := tw_sub [219, 221, 223] (by decide +kernel) (by decide +kernel)
theorem tw_X2 : ∀ w ∈ u_ws RX2 TX2 4, w ∈ TW := tw_sub [352, 354, 356, 358] (by decide +kernel) (by decide +kernel)
theorem tw_X3 : ∀ w ∈ u_ws RX3 TX3 7, w ∈ TW := tw_sub [578, 580, 582, 584, 586, 588, 590] (by decide +kernel) (by decide +kernel)
theorem tw_X4 : ∀ w ∈ u_ws RX4 TX4 3, w ∈ TW := tw_sub [333, 335, 337] (by decide +kernel) (by decide +kernel)
theorem tw_X5 : ∀ w ∈ u_ws RX5 TX5 8, w ∈ TW := tw_sub [242, 244, 246, 248, 250, 252, 254, 256] (by decide +kernel) (by decide +kernel)
theorem tw_X6 : ∀ w ∈ u_ws RX6 TX6 8, w ∈ TW := tw_sub [636, 638, 640, 642, 644, 646, 648, 650] (by decide +kernel) (by decide +kernel)
theorem tw_X7 : ∀ w ∈ u_ws RX7 TX7 12, w ∈ TW := tw_sub [285, 287, 289, 291, 293, 295, 297, 299, 301, 303, 305, 307] (by decide +kernel) (by decide +kernel)
theorem tw_X8 : ∀ w ∈ u_ws RX8 TX8 8, w ∈ TW := tw_sub [188, 190, 192, 194, 196, 198, 200, 202] (by decide +kernel) (by decide +kernel)
theorem tw_X9 : ∀ w ∈ u_ws RX9 TX9 7, w ∈ TW := tw_sub [601, 603, 605, 607, 609, 611, 613] (by decide +kernel) (by decide +kernel)
theorem tw_X10 : ∀ w ∈ u_ws RX10 TX10 7, w ∈ TW := tw_sub [549, 551, 553, 555, 557, 559, 561] (by decide +kernel) (by decide +kernel)
theorem tw_X11 : ∀ w ∈ u_ws RX11 TX11 15, w ∈ TW := tw_sub [669, 671, 673, 675, 677, 679, 681, 683, 685, 687, 689, 691, 693, 695, 697] (by decide +kernel) (by decide +kernel)
theorem tw_X12 : ∀ w ∈ u_ws RX12 TX12 81, w ∈ TW := tw_sub [1487, 1489, 1491, 1493, 1495, 1497, 1499, 1501, 1503, 1505, 1507, 1509, 1511, 1513, 1515, 1517, 1519, 1521, 1523, 1525, 1527, 1529, 1531, 1533, 1535, 1537, 1539, 1541, 1543, 1545, 1547, 1549, 1551, 1553, 1555, 1557, 1559, 1561, 1563, 1565, 1567, 1569, 1571, 1573, 1575, 1577, 1579, 1581, 1583, 1585, 1587, 1589, 1591, 1593, 1595, 1597, 1599, 1601, 1603, 1605, 1607, 1609, 1611, 1613, 1615, 1617, 1619, 1621, 1623, 1625, 1627, 1629, 1631, 1633, 1635, 1637, 1639, 1641, 1643, 1645, 1647] (by decide +kernel) (by decide +kernel)
theorem tw_cl : ∀ (ci : Nat) (q : vw_C), vwCl[ci]? = some q → ∀ w ∈ u_ws q.1 q.2.1 q.2.2, w ∈ TW := by
  intro ci q h
  match ci, h with
  | 0, h => cases h; exact tw_X0
  | 1, h => cases h; exact tw_X1
  | 2, h => cases h; exact tw_X2
  | 3, h => cases h; exact tw_X3
  | 4, h => cases h; exact tw_X4
  | 5, h => cases h; exact tw_X5
  | 6, h => cases h; exact tw_X6
  | 7, h => cases h; exact tw_X7
  | 8, h => cases h; exact tw_X8
  | 9, h => cases h; exact tw_X9
  | 10, h => cases h; exact tw_X10
  | 11, h => cases h; exact tw_X11
  | 12, h => cases h; exact tw_X12
  | n + 13, h => simp [vwCl] at h
def clT (ci : Nat) : Nat → FieldType := match ci with
  | 0 => tyX0
  | 1 => tyX1
  | 2 => tyX2
  | 3 => tyX3
  | 4 => tyX4
  | 5 => tyX5
  | 6 => tyX6
  | 7 => tyX7
  | 8 => tyX8
  | 9 => tyX9
  | 10 => tyX10
  | 11 => tyX11
  | 12 => tyX12
  | _ => fun _ => .int
theorem cl_ty : ∀ (ci : Nat) (q : vw_C), vwCl[ci]? = some q → ∀ k, k < q.2.2 → parseFieldDescriptor (q.2.1 k).2.2.1 = some (clT ci k) := by
  intro ci q h
  match ci, h with
  | 0, h => cases h; exact tyX0_ok
  | 1, h => cases h; exact tyX1_ok
  | 2, h => cases h; exact tyX2_ok
  | 3, h => cases h; exact tyX3_ok
  | 4, h => cases h; exact tyX4_ok
  | 5, h => cases h; exact tyX5_ok
  | 6, h => cases h; exact tyX6_ok
  | 7, h => cases h; exact tyX7_ok
  | 8, h => cases h; exact tyX8_ok
  | 9, h => cases h; exact tyX9_ok
  | 10, h => cases h; exact tyX10_ok
  | 11, h => cases h; exact tyX11_ok
  | 12, h => cases h; exact tyX12_ok
  | n + 13, h => simp [vwCl] at h
theorem cl_nm : ∀ (ci : Nat) (q : vw_C), vwCl[ci]? = some q → ∀ a, a < q.2.2 → ∀ b, b < q.2.2 → a ≠ b → (q.2.1 a).2.1 ≠ (q.2.1 b).2.1 := by
  intro ci q h
  match ci, h with
  | 0, h => cases h; exact nmX0
  | 1, h => cases h; exact nmX1
  | 2, h => cases h; exact nmX2
  | 3, h => cases h; exact nmX3
  | 4, h => cases h; exact nmX4
  | 5, h => cases h; exact nmX5
  | 6, h => cases h; exact nmX6
  | 7, h => cases h; exact nmX7
  | 8, h => cases h; exact nmX8
  | 9, h => cases h; exact nmX9
  | 10, h => cases h; exact nmX10
  | 11, h => cases h; exact nmX11
  | 12, h => cases h; exact nmX12
  | n + 13, h => simp [vwCl] at h
def fks : List (List Nat) := [[2, 2, 2, 2, 2, 2, 2, 2, 2, 2, 2, 2, 2, 2, 2, 2, 0, 0, 0, 0], [2, 0, 0], [2, 2, 0, 3], [2, 2, 0, 0, 3, 2, 2], [2, 0, 0], [2, 2, 2, 2, 2, 2, 0, 0], [2, 2, 2, 3, 0, 0, 3, 3], [2, 2, 2, 0, 0, 0, 0, 0, 2, 2, 2, 0], [2, 2, 2, 2, 0, 0, 0, 0], [2, 2, 2, 3, 3, 0, 0], [2, 2, 0, 0, 0, 0, 0], [2, 2, 2, 2, 2, 2, 2, 2, 2, 2, 2, 0, 0, 0, 3], [2, 0, 0, 2, 0, 0, 0, 0, 0, 0, 0, 0, 0, 0, 0, 0, 0, 0, 0, 0, 0, 0, 2, 2, 2, 2, 2, 2, 2, 2, 2, 2, 2, 2, 2, 2, 2, 2, 2, 2, 2, 2, 2, 2, 2, 2, 0, 0, 0, 0, 3, 3, 2, 2, 3, 2, 2, 2, 2, 2, 0, 1, 3, 3, 3, 3, 0, 0, 2, 2, 2, 0, 0, 2, 2, 0, 2, 2, 3, 2, 1]]
