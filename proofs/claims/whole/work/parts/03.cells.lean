/-! the classes, their fields in order, and the cells that the two objects are made of (printed by a program of mine out of javap) -/
def RQ0 : String := "PrairiePool$Asker"
def TQ0 : u_T := fun k => match k with
  | 0 => ("PrairiePool$Asker", "texts", "I", false)
  | 1 => ("PrairiePool$Asker", "text", "[LPrairiePool$Text;", true)
  | 2 => ("PrairiePool$Asker", "inForce", "I", false)
  | 3 => ("PrairiePool$Asker", "variables", "[J", true)
  | 4 => ("PrairiePool$Asker", "values", "[J", true)
  | 5 => ("PrairiePool$Asker", "isNone", "[Z", true)
  | 6 => ("PrairiePool$Asker", "stack", "[J", true)
  | 7 => ("PrairiePool$Asker", "stackNone", "[Z", true)
  | _ => ("PrairiePool$Asker", "height", "I", false)
def tyQ0 : Nat → FieldType := fun k => match k with
  | 0 => .int
  | 1 => .array (.object "PrairiePool$Text")
  | 2 => .int
  | 3 => .array .long
  | 4 => .array .long
  | 5 => .array .boolean
  | 6 => .array .long
  | 7 => .array .boolean
  | _ => .int
theorem nmQ0 : ∀ a, a < 9 → ∀ b, b < 9 → a ≠ b → (TQ0 a).2.1 ≠ (TQ0 b).2.1 := by decide +kernel
theorem tyQ0_ok : ∀ k, k < 9 → parseFieldDescriptor (TQ0 k).2.2.1 = some (tyQ0 k) := by decide +kernel
def RQ1 : String := "PrairiePool$Ballot"
def TQ1 : u_T := fun k => match k with
  | 0 => ("PrairiePool$Ballot", "margins", "[I", true)
  | 1 => ("PrairiePool$Ballot", "prairie", "LPrairiePool$Prairie;", true)
  | 2 => ("PrairiePool$Ballot", "asker", "LPrairiePool$Asker;", true)
  | 3 => ("PrairiePool$Ballot", "votes", "[I", true)
  | 4 => ("PrairiePool$Ballot", "byVotes", "[I", true)
  | 5 => ("PrairiePool$Ballot", "isFree", "[Z", true)
  | 6 => ("PrairiePool$Ballot", "gains", "[I", true)
  | 7 => ("PrairiePool$Ballot", "fewest", "[I", true)
  | _ => ("PrairiePool$Ballot", "before", "[I", true)
def tyQ1 : Nat → FieldType := fun k => match k with
  | 0 => .array .int
  | 1 => .object "PrairiePool$Prairie"
  | 2 => .object "PrairiePool$Asker"
  | 3 => .array .int
  | 4 => .array .int
  | 5 => .array .boolean
  | 6 => .array .int
  | 7 => .array .int
  | _ => .array .int
theorem nmQ1 : ∀ a, a < 9 → ∀ b, b < 9 → a ≠ b → (TQ1 a).2.1 ≠ (TQ1 b).2.1 := by decide +kernel
theorem tyQ1_ok : ∀ k, k < 9 → parseFieldDescriptor (TQ1 k).2.2.1 = some (tyQ1 k) := by decide +kernel
def RQ2 : String := "PrairiePool$Journal"
def TQ2 : u_T := fun k => match k with
  | 0 => ("PrairiePool$Journal", "events", "I", false)
  | 1 => ("PrairiePool$Journal", "latestKnown", "I", false)
  | 2 => ("PrairiePool$Journal", "kind", "[I", true)
  | 3 => ("PrairiePool$Journal", "farm", "[I", true)
  | 4 => ("PrairiePool$Journal", "elevator", "[I", true)
  | 5 => ("PrairiePool$Journal", "port", "[I", true)
  | 6 => ("PrairiePool$Journal", "grade", "[I", true)
  | 7 => ("PrairiePool$Journal", "year", "[I", true)
  | 8 => ("PrairiePool$Journal", "bushels", "[I", true)
  | 9 => ("PrairiePool$Journal", "docked", "[I", true)
  | 10 => ("PrairiePool$Journal", "pence", "[I", true)
  | 11 => ("PrairiePool$Journal", "week", "[I", true)
  | 12 => ("PrairiePool$Journal", "known", "[I", true)
  | 13 => ("PrairiePool$Journal", "gradings", "I", false)
  | 14 => ("PrairiePool$Journal", "gradedLoad", "[I", true)
  | 15 => ("PrairiePool$Journal", "grader", "[I", true)
  | 16 => ("PrairiePool$Journal", "givenGrade", "[I", true)
  | 17 => ("PrairiePool$Journal", "rank", "[I", true)
  | _ => ("PrairiePool$Journal", "gradingKnown", "[I", true)
def tyQ2 : Nat → FieldType := fun k => match k with
  | 0 => .int
  | 1 => .int
  | 2 => .array .int
  | 3 => .array .int
  | 4 => .array .int
  | 5 => .array .int
  | 6 => .array .int
  | 7 => .array .int
  | 8 => .array .int
  | 9 => .array .int
  | 10 => .array .int
  | 11 => .array .int
  | 12 => .array .int
  | 13 => .int
  | 14 => .array .int
  | 15 => .array .int
  | 16 => .array .int
  | 17 => .array .int
  | _ => .array .int
theorem nmQ2 : ∀ a, a < 19 → ∀ b, b < 19 → a ≠ b → (TQ2 a).2.1 ≠ (TQ2 b).2.1 := by decide +kernel
theorem tyQ2_ok : ∀ k, k < 19 → parseFieldDescriptor (TQ2 k).2.2.1 = some (tyQ2 k) := by decide +kernel
def RQ3 : String := "PrairiePool$Outsides"
def TQ3 : u_T := fun k => match k with
  | 0 => ("PrairiePool$Outsides", "count", "I", false)
  | 1 => ("PrairiePool$Outsides", "prairie", "LPrairiePool$Prairie;", true)
  | 2 => ("PrairiePool$Outsides", "asker", "LPrairiePool$Asker;", true)
  | 3 => ("PrairiePool$Outsides", "farm", "[I", true)
  | 4 => ("PrairiePool$Outsides", "week", "[I", true)
  | 5 => ("PrairiePool$Outsides", "bushels", "[I", true)
  | _ => ("PrairiePool$Outsides", "pence", "[I", true)
def tyQ3 : Nat → FieldType := fun k => match k with
  | 0 => .int
  | 1 => .object "PrairiePool$Prairie"
  | 2 => .object "PrairiePool$Asker"
  | 3 => .array .int
  | 4 => .array .int
  | 5 => .array .int
  | _ => .array .int
theorem nmQ3 : ∀ a, a < 7 → ∀ b, b < 7 → a ≠ b → (TQ3 a).2.1 ≠ (TQ3 b).2.1 := by decide +kernel
theorem tyQ3_ok : ∀ k, k < 7 → parseFieldDescriptor (TQ3 k).2.2.1 = some (tyQ3 k) := by decide +kernel
def RQ4 : String := "PrairiePool$Parser"
def TQ4 : u_T := fun k => match k with
  | 0 => ("PrairiePool$Parser", "tape", "[B", true)
  | 1 => ("PrairiePool$Parser", "tapeLength", "I", false)
  | 2 => ("PrairiePool$Parser", "fault", "I", false)
  | 3 => ("PrairiePool$Parser", "faultPlace", "I", false)
  | 4 => ("PrairiePool$Parser", "draft", "LPrairiePool$Text;", true)
  | 5 => ("PrairiePool$Parser", "names", "[J", true)
  | 6 => ("PrairiePool$Parser", "length", "I", false)
  | 7 => ("PrairiePool$Parser", "at", "I", false)
  | 8 => ("PrairiePool$Parser", "token", "I", false)
  | 9 => ("PrairiePool$Parser", "tokenPlace", "I", false)
  | 10 => ("PrairiePool$Parser", "tokenNumber", "I", false)
  | _ => ("PrairiePool$Parser", "tokenWord", "J", false)
def tyQ4 : Nat → FieldType := fun k => match k with
  | 0 => .array .byte
  | 1 => .int
  | 2 => .int
  | 3 => .int
  | 4 => .object "PrairiePool$Text"
  | 5 => .array .long
  | 6 => .int
  | 7 => .int
  | 8 => .int
  | 9 => .int
  | 10 => .int
  | _ => .long
theorem nmQ4 : ∀ a, a < 12 → ∀ b, b < 12 → a ≠ b → (TQ4 a).2.1 ≠ (TQ4 b).2.1 := by decide +kernel
theorem tyQ4_ok : ∀ k, k < 12 → parseFieldDescriptor (TQ4 k).2.2.1 = some (tyQ4 k) := by decide +kernel
def RQ5 : String := "PrairiePool$Payments"
def TQ5 : u_T := fun k => match k with
  | 0 => ("PrairiePool$Payments", "prices", "[I", true)
  | 1 => ("PrairiePool$Payments", "step", "I", false)
  | 2 => ("PrairiePool$Payments", "lag", "I", false)
  | 3 => ("PrairiePool$Payments", "firsts", "[J", true)
  | 4 => ("PrairiePool$Payments", "lacking", "J", false)
  | 5 => ("PrairiePool$Payments", "stoodFor", "J", false)
  | 6 => ("PrairiePool$Payments", "owes", "[J", true)
  | 7 => ("PrairiePool$Payments", "play", "LPrairiePool$Play;", true)
  | 8 => ("PrairiePool$Payments", "asker", "LPrairiePool$Asker;", true)
  | 9 => ("PrairiePool$Payments", "came", "[J", true)
  | 10 => ("PrairiePool$Payments", "kept", "[J", true)
  | 11 => ("PrairiePool$Payments", "brought", "[J", true)
  | 12 => ("PrairiePool$Payments", "parted", "[J", true)
  | 13 => ("PrairiePool$Payments", "by", "[J", true)
  | _ => ("PrairiePool$Payments", "parts", "[J", true)
def tyQ5 : Nat → FieldType := fun k => match k with
  | 0 => .array .int
  | 1 => .int
  | 2 => .int
  | 3 => .array .long
  | 4 => .long
  | 5 => .long
  | 6 => .array .long
  | 7 => .object "PrairiePool$Play"
  | 8 => .object "PrairiePool$Asker"
  | 9 => .array .long
  | 10 => .array .long
  | 11 => .array .long
  | 12 => .array .long
  | 13 => .array .long
  | _ => .array .long
theorem nmQ5 : ∀ a, a < 15 → ∀ b, b < 15 → a ≠ b → (TQ5 a).2.1 ≠ (TQ5 b).2.1 := by decide +kernel
theorem tyQ5_ok : ∀ k, k < 15 → parseFieldDescriptor (TQ5 k).2.2.1 = some (tyQ5 k) := by decide +kernel
def RQ6 : String := "PrairiePool$Play"
def TQ6 : u_T := fun k => match k with
  | 0 => ("PrairiePool$Play", "prairie", "LPrairiePool$Prairie;", true)
  | 1 => ("PrairiePool$Play", "journal", "LPrairiePool$Journal;", true)
  | 2 => ("PrairiePool$Play", "asker", "LPrairiePool$Asker;", true)
  | 3 => ("PrairiePool$Play", "played", "I", false)
  | 4 => ("PrairiePool$Play", "moved", "[I", true)
  | 5 => ("PrairiePool$Play", "judged", "[I", true)
  | 6 => ("PrairiePool$Play", "bestRank", "[I", true)
  | 7 => ("PrairiePool$Play", "cars", "[I", true)
  | 8 => ("PrairiePool$Play", "turn", "[I", true)
  | 9 => ("PrairiePool$Play", "rowOf", "[I", true)
  | 10 => ("PrairiePool$Play", "rows", "I", false)
  | 11 => ("PrairiePool$Play", "held", "[J", true)
  | 12 => ("PrairiePool$Play", "filled", "[I", true)
  | 13 => ("PrairiePool$Play", "totals", "[I", true)
  | 14 => ("PrairiePool$Play", "lacking", "I", false)
  | 15 => ("PrairiePool$Play", "has", "[J", true)
  | 16 => ("PrairiePool$Play", "parts", "[J", true)
  | _ => ("PrairiePool$Play", "rests", "[J", true)
def tyQ6 : Nat → FieldType := fun k => match k with
  | 0 => .object "PrairiePool$Prairie"
  | 1 => .object "PrairiePool$Journal"
  | 2 => .object "PrairiePool$Asker"
  | 3 => .int
  | 4 => .array .int
  | 5 => .array .int
  | 6 => .array .int
  | 7 => .array .int
  | 8 => .array .int
  | 9 => .array .int
  | 10 => .int
  | 11 => .array .long
  | 12 => .array .int
  | 13 => .array .int
  | 14 => .int
  | 15 => .array .long
  | 16 => .array .long
  | _ => .array .long
theorem nmQ6 : ∀ a, a < 18 → ∀ b, b < 18 → a ≠ b → (TQ6 a).2.1 ≠ (TQ6 b).2.1 := by decide +kernel
theorem tyQ6_ok : ∀ k, k < 18 → parseFieldDescriptor (TQ6 k).2.2.1 = some (tyQ6 k) := by decide +kernel
def RQ7 : String := "PrairiePool$Prairie"
def TQ7 : u_T := fun k => match k with
  | 0 => ("PrairiePool$Prairie", "farms", "I", false)
  | 1 => ("PrairiePool$Prairie", "farmDistrict", "[I", true)
  | 2 => ("PrairiePool$Prairie", "acres", "[I", true)
  | 3 => ("PrairiePool$Prairie", "debt", "[I", true)
  | 4 => ("PrairiePool$Prairie", "signedFrom", "[I", true)
  | 5 => ("PrairiePool$Prairie", "signedTo", "[I", true)
  | 6 => ("PrairiePool$Prairie", "letOff", "[Z", true)
  | 7 => ("PrairiePool$Prairie", "voted", "[I", true)
  | 8 => ("PrairiePool$Prairie", "elevators", "I", false)
  | 9 => ("PrairiePool$Prairie", "elevatorDistrict", "[I", true)
  | _ => ("PrairiePool$Prairie", "room", "[I", true)
def tyQ7 : Nat → FieldType := fun k => match k with
  | 0 => .int
  | 1 => .array .int
  | 2 => .array .int
  | 3 => .array .int
  | 4 => .array .int
  | 5 => .array .int
  | 6 => .array .boolean
  | 7 => .array .int
  | 8 => .int
  | 9 => .array .int
  | _ => .array .int
theorem nmQ7 : ∀ a, a < 11 → ∀ b, b < 11 → a ≠ b → (TQ7 a).2.1 ≠ (TQ7 b).2.1 := by decide +kernel
theorem tyQ7_ok : ∀ k, k < 11 → parseFieldDescriptor (TQ7 k).2.2.1 = some (tyQ7 k) := by decide +kernel
def RQ8 : String := "PrairiePool$Text"
def TQ8 : u_T := fun k => match k with
  | 0 => ("PrairiePool$Text", "from", "I", false)
  | 1 => ("PrairiePool$Text", "defs", "I", false)
  | 2 => ("PrairiePool$Text", "steps", "I", false)
  | 3 => ("PrairiePool$Text", "code", "[I", true)
  | 4 => ("PrairiePool$Text", "ends", "[I", true)
  | _ => ("PrairiePool$Text", "asked", "[I", true)
def tyQ8 : Nat → FieldType := fun k => match k with
  | 0 => .int
  | 1 => .int
  | 2 => .int
  | 3 => .array .int
  | 4 => .array .int
  | _ => .array .int
theorem nmQ8 : ∀ a, a < 6 → ∀ b, b < 6 → a ≠ b → (TQ8 a).2.1 ≠ (TQ8 b).2.1 := by decide +kernel
theorem tyQ8_ok : ∀ k, k < 6 → parseFieldDescriptor (TQ8 k).2.2.1 = some (tyQ8 k) := by decide +kernel
def RQ9 : String := "PrairiePool$Trays"
def TQ9 : u_T := fun k => match k with
  | 0 => ("PrairiePool$Trays", "sorts", "[I", true)
  | 1 => ("PrairiePool$Trays", "lengths", "[I", true)
  | _ => ("PrairiePool$Trays", "numbers", "[J", true)
def tyQ9 : Nat → FieldType := fun k => match k with
  | 0 => .array .int
  | 1 => .array .int
  | _ => .array .long
theorem nmQ9 : ∀ a, a < 3 → ∀ b, b < 3 → a ≠ b → (TQ9 a).2.1 ≠ (TQ9 b).2.1 := by decide +kernel
theorem tyQ9_ok : ∀ k, k < 3 → parseFieldDescriptor (TQ9 k).2.2.1 = some (tyQ9 k) := by decide +kernel
def RQ10 : String := "PrairiePool$Yard"
def TQ10 : u_T := fun k => match k with
  | 0 => ("PrairiePool$Yard", "weeksLeft", "[I", true)
  | 1 => ("PrairiePool$Yard", "bushels", "[I", true)
  | 2 => ("PrairiePool$Yard", "hasPlan", "Z", false)
  | 3 => ("PrairiePool$Yard", "plan", "[I", true)
  | 4 => ("PrairiePool$Yard", "mostBehind", "[I", true)
  | 5 => ("PrairiePool$Yard", "left", "[I", true)
  | 6 => ("PrairiePool$Yard", "wanted", "[I", true)
  | 7 => ("PrairiePool$Yard", "costs", "[I", true)
  | 8 => ("PrairiePool$Yard", "sent", "[I", true)
  | 9 => ("PrairiePool$Yard", "costToBin", "[I", true)
  | 10 => ("PrairiePool$Yard", "orderAheadOf", "[I", true)
  | 11 => ("PrairiePool$Yard", "costToOrder", "[I", true)
  | _ => ("PrairiePool$Yard", "binAheadOf", "[I", true)
def tyQ10 : Nat → FieldType := fun k => match k with
  | 0 => .array .int
  | 1 => .array .int
  | 2 => .boolean
  | 3 => .array .int
  | 4 => .array .int
  | 5 => .array .int
  | 6 => .array .int
  | 7 => .array .int
  | 8 => .array .int
  | 9 => .array .int
  | 10 => .array .int
  | 11 => .array .int
  | _ => .array .int
theorem nmQ10 : ∀ a, a < 13 → ∀ b, b < 13 → a ≠ b → (TQ10 a).2.1 ≠ (TQ10 b).2.1 := by decide +kernel
theorem tyQ10_ok : ∀ k, k < 13 → parseFieldDescriptor (TQ10 k).2.2.1 = some (tyQ10 k) := by decide +kernel
def RQ11 : String := "PrairiePool"
def TQ11 : u_T := fun k => match k with
  | 0 => ("PrairiePool", "status", "I", false)
  | 1 => ("PrairiePool", "trays", "LPrairiePool$Trays;", true)
  | 2 => ("PrairiePool", "prairie", "LPrairiePool$Prairie;", true)
  | 3 => ("PrairiePool", "journal", "LPrairiePool$Journal;", true)
  | 4 => ("PrairiePool", "asker", "LPrairiePool$Asker;", true)
  | 5 => ("PrairiePool", "parser", "LPrairiePool$Parser;", true)
  | 6 => ("PrairiePool", "yard", "LPrairiePool$Yard;", true)
  | 7 => ("PrairiePool", "play", "LPrairiePool$Play;", true)
  | 8 => ("PrairiePool", "payments", "LPrairiePool$Payments;", true)
  | 9 => ("PrairiePool", "outsides", "LPrairiePool$Outsides;", true)
  | _ => ("PrairiePool", "ballot", "LPrairiePool$Ballot;", true)
def tyQ11 : Nat → FieldType := fun k => match k with
  | 0 => .int
  | 1 => .object "PrairiePool$Trays"
  | 2 => .object "PrairiePool$Prairie"
  | 3 => .object "PrairiePool$Journal"
  | 4 => .object "PrairiePool$Asker"
  | 5 => .object "PrairiePool$Parser"
  | 6 => .object "PrairiePool$Yard"
  | 7 => .object "PrairiePool$Play"
  | 8 => .object "PrairiePool$Payments"
  | 9 => .object "PrairiePool$Outsides"
  | _ => .object "PrairiePool$Ballot"
theorem nmQ11 : ∀ a, a < 11 → ∀ b, b < 11 → a ≠ b → (TQ11 a).2.1 ≠ (TQ11 b).2.1 := by decide +kernel
theorem tyQ11_ok : ∀ k, k < 11 → parseFieldDescriptor (TQ11 k).2.2.1 = some (tyQ11 k) := by decide +kernel
def RQ12 : String := "PrairiePoolModel"
def TQ12 : u_T := fun k => match k with
  | 0 => ("PrairiePoolModel", "status", "I", false)
  | 1 => ("PrairiePoolModel", "thrown", "I", false)
  | 2 => ("PrairiePoolModel", "traySort", "[I", true)
  | 3 => ("PrairiePoolModel", "trayMany", "[I", true)
  | 4 => ("PrairiePoolModel", "numbers", "[J", true)
  | 5 => ("PrairiePoolModel", "farms", "I", false)
  | 6 => ("PrairiePoolModel", "elevators", "I", false)
  | 7 => ("PrairiePoolModel", "events", "I", false)
  | 8 => ("PrairiePoolModel", "gradings", "I", false)
  | 9 => ("PrairiePoolModel", "latest", "I", false)
  | 10 => ("PrairiePoolModel", "lastWeek", "I", false)
  | 11 => ("PrairiePoolModel", "farmDistrict", "[I", true)
  | 12 => ("PrairiePoolModel", "acres", "[I", true)
  | 13 => ("PrairiePoolModel", "debt", "[I", true)
  | 14 => ("PrairiePoolModel", "elevatorDistrict", "[I", true)
  | 15 => ("PrairiePoolModel", "room", "[I", true)
  | 16 => ("PrairiePoolModel", "sortOf", "[I", true)
  | 17 => ("PrairiePoolModel", "farmOf", "[I", true)
  | 18 => ("PrairiePoolModel", "at1", "[I", true)
  | 19 => ("PrairiePoolModel", "to1", "[I", true)
  | 20 => ("PrairiePoolModel", "gradeTold", "[I", true)
  | 21 => ("PrairiePoolModel", "yearOf", "[I", true)
  | 22 => ("PrairiePoolModel", "bushels", "[I", true)
  | 23 => ("PrairiePoolModel", "extra", "[I", true)
  | 24 => ("PrairiePoolModel", "weekOf", "[I", true)
  | 25 => ("PrairiePoolModel", "knownOf", "[I", true)
  | 26 => ("PrairiePoolModel", "gradedLoad", "[I", true)
  | 27 => ("PrairiePoolModel", "gradedBy", "[I", true)
  | 28 => ("PrairiePoolModel", "gradedAs", "[I", true)
  | 29 => ("PrairiePoolModel", "gradedKnown", "[I", true)
  | 30 => ("PrairiePoolModel", "bins", "[I", true)
  | 31 => ("PrairiePoolModel", "ports", "[I", true)
  | 32 => ("PrairiePoolModel", "turnedOf", "[I", true)
  | 33 => ("PrairiePoolModel", "takenOf", "[I", true)
  | 34 => ("PrairiePoolModel", "gradeOf1", "[I", true)
  | 35 => ("PrairiePoolModel", "docked", "[I", true)
  | 36 => ("PrairiePoolModel", "turnedAway", "[I", true)
  | 37 => ("PrairiePoolModel", "sold", "[I", true)
  | 38 => ("PrairiePoolModel", "spoilt", "[I", true)
  | 39 => ("PrairiePoolModel", "lacks1", "I", false)
  | 40 => ("PrairiePoolModel", "weight", "[J", true)
  | 41 => ("PrairiePoolModel", "part", "[J", true)
  | 42 => ("PrairiePoolModel", "rest", "[J", true)
  | 43 => ("PrairiePoolModel", "tape", "[B", true)
  | 44 => ("PrairiePoolModel", "taped", "I", false)
  | 45 => ("PrairiePoolModel", "textEnd", "I", false)
  | 46 => ("PrairiePoolModel", "faultKind", "I", false)
  | 47 => ("PrairiePoolModel", "faultAt", "I", false)
  | 48 => ("PrairiePoolModel", "bad", "I", false)
  | 49 => ("PrairiePoolModel", "badAt", "I", false)
  | 50 => ("PrairiePoolModel", "sort", "I", false)
  | 51 => ("PrairiePoolModel", "at", "I", false)
  | 52 => ("PrairiePoolModel", "behind", "I", false)
  | 53 => ("PrairiePoolModel", "number", "I", false)
  | 54 => ("PrairiePoolModel", "letters", "I", false)
  | 55 => ("PrairiePoolModel", "word", "J", false)
  | 56 => ("PrairiePoolModel", "texts", "I", false)
  | 57 => ("PrairiePoolModel", "newDefs", "I", false)
  | 58 => ("PrairiePoolModel", "newMarks", "I", false)
  | 59 => ("PrairiePoolModel", "textFrom", "[I", true)
  | 60 => ("PrairiePoolModel", "textDefs", "[I", true)
  | 61 => ("PrairiePoolModel", "begins", "[I", true)
  | 62 => ("PrairiePoolModel", "marks", "[I", true)
  | 63 => ("PrairiePoolModel", "newBegins", "[I", true)
  | 64 => ("PrairiePoolModel", "nextMarks", "[I", true)
  | 65 => ("PrairiePoolModel", "names", "[J", true)
  | 66 => ("PrairiePoolModel", "newNames", "[J", true)
  | 67 => ("PrairiePoolModel", "heap", "[J", true)
  | 68 => ("PrairiePoolModel", "values", "[J", true)
  | 69 => ("PrairiePoolModel", "defValue", "[J", true)
  | 70 => ("PrairiePoolModel", "lacks", "[Z", true)
  | 71 => ("PrairiePoolModel", "defLacks", "[Z", true)
  | 72 => ("PrairiePoolModel", "high", "I", false)
  | 73 => ("PrairiePoolModel", "brought", "[J", true)
  | 74 => ("PrairiePoolModel", "firsts", "[J", true)
  | 75 => ("PrairiePoolModel", "lasts", "[J", true)
  | 76 => ("PrairiePoolModel", "owes", "[J", true)
  | 77 => ("PrairiePoolModel", "below1", "J", false)
  | 78 => ("PrairiePoolModel", "state", "J", false)
  | 79 => ("PrairiePoolModel", "signedFrom", "[I", true)
  | 80 => ("PrairiePoolModel", "signedTo", "[I", true)
  | 81 => ("PrairiePoolModel", "votesOf", "[I", true)
  | 82 => ("PrairiePoolModel", "outFarm", "[I", true)
  | 83 => ("PrairiePoolModel", "outWeek", "[I", true)
  | 84 => ("PrairiePoolModel", "outBushels", "[I", true)
  | 85 => ("PrairiePoolModel", "outPence", "[I", true)
  | 86 => ("PrairiePoolModel", "prices", "[I", true)
  | 87 => ("PrairiePoolModel", "isLet", "[Z", true)
  | 88 => ("PrairiePoolModel", "outsides", "I", false)
  | 89 => ("PrairiePoolModel", "step", "I", false)
  | 90 => ("PrairiePoolModel", "lag", "I", false)
  | 91 => ("PrairiePoolModel", "open", "[I", true)
  | 92 => ("PrairiePoolModel", "counts", "[I", true)
  | 93 => ("PrairiePoolModel", "forIt", "[J", true)
  | 94 => ("PrairiePoolModel", "againstIt", "[J", true)
  | 95 => ("PrairiePoolModel", "votes", "[J", true)
  | 96 => ("PrairiePoolModel", "spoils", "[I", true)
  | 97 => ("PrairiePoolModel", "holds", "[I", true)
  | 98 => ("PrairiePoolModel", "turned", "[I", true)
  | 99 => ("PrairiePoolModel", "warmest", "[I", true)
  | 100 => ("PrairiePoolModel", "have", "[I", true)
  | 101 => ("PrairiePoolModel", "want", "[I", true)
  | 102 => ("PrairiePoolModel", "costs", "[I", true)
  | 103 => ("PrairiePoolModel", "flow", "[I", true)
  | 104 => ("PrairiePoolModel", "far", "[I", true)
  | 105 => ("PrairiePoolModel", "via", "[I", true)
  | 106 => ("PrairiePoolModel", "carsOf", "[I", true)
  | 107 => ("PrairiePoolModel", "isWarm", "Z", false)
  | _ => ("PrairiePoolModel", "isNone", "Z", false)
def tyQ12 : Nat → FieldType := fun k => match k with
  | 0 => .int
  | 1 => .int
  | 2 => .array .int
  | 3 => .array .int
  | 4 => .array .long
  | 5 => .int
  | 6 => .int
  | 7 => .int
  | 8 => .int
  | 9 => .int
  | 10 => .int
  | 11 => .array .int
  | 12 => .array .int
  | 13 => .array .int
  | 14 => .array .int
  | 15 => .array .int
  | 16 => .array .int
  | 17 => .array .int
  | 18 => .array .int
  | 19 => .array .int
  | 20 => .array .int
  | 21 => .array .int
  | 22 => .array .int
  | 23 => .array .int
  | 24 => .array .int
  | 25 => .array .int
  | 26 => .array .int
  | 27 => .array .int
  | 28 => .array .int
  | 29 => .array .int
  | 30 => .array .int
  | 31 => .array .int
  | 32 => .array .int
  | 33 => .array .int
  | 34 => .array .int
  | 35 => .array .int
  | 36 => .array .int
  | 37 => .array .int
  | 38 => .array .int
  | 39 => .int
  | 40 => .array .long
  | 41 => .array .long
  | 42 => .array .long
  | 43 => .array .byte
  | 44 => .int
  | 45 => .int
  | 46 => .int
  | 47 => .int
  | 48 => .int
  | 49 => .int
  | 50 => .int
  | 51 => .int
  | 52 => .int
  | 53 => .int
  | 54 => .int
  | 55 => .long
  | 56 => .int
  | 57 => .int
  | 58 => .int
  | 59 => .array .int
  | 60 => .array .int
  | 61 => .array .int
  | 62 => .array .int
  | 63 => .array .int
  | 64 => .array .int
  | 65 => .array .long
  | 66 => .array .long
  | 67 => .array .long
  | 68 => .array .long
  | 69 => .array .long
  | 70 => .array .boolean
  | 71 => .array .boolean
  | 72 => .int
  | 73 => .array .long
  | 74 => .array .long
  | 75 => .array .long
  | 76 => .array .long
  | 77 => .long
  | 78 => .long
  | 79 => .array .int
  | 80 => .array .int
  | 81 => .array .int
  | 82 => .array .int
  | 83 => .array .int
  | 84 => .array .int
  | 85 => .array .int
  | 86 => .array .int
  | 87 => .array .boolean
  | 88 => .int
  | 89 => .int
  | 90 => .int
  | 91 => .array .int
  | 92 => .array .int
  | 93 => .array .long
  | 94 => .array .long
  | 95 => .array .long
  | 96 => .array .int
  | 97 => .array .int
  | 98 => .array .int
  | 99 => .array .int
  | 100 => .array .int
  | 101 => .array .int
  | 102 => .array .int
  | 103 => .array .int
  | 104 => .array .int
  | 105 => .array .int
  | 106 => .array .int
  | 107 => .boolean
  | _ => .boolean
theorem nmQ12 : ∀ a, a < 109 → ∀ b, b < 109 → a ≠ b → (TQ12 a).2.1 ≠ (TQ12 b).2.1 := by decide +kernel
theorem tyQ12_ok : ∀ k, k < 109 → parseFieldDescriptor (TQ12 k).2.2.1 = some (tyQ12 k) := by decide +kernel
def cls : List vw_C := [(RQ0, TQ0, 9), (RQ1, TQ1, 9), (RQ2, TQ2, 19), (RQ3, TQ3, 7), (RQ4, TQ4, 12), (RQ5, TQ5, 15), (RQ6, TQ6, 18), (RQ7, TQ7, 11), (RQ8, TQ8, 6), (RQ9, TQ9, 3), (RQ10, TQ10, 13), (RQ11, TQ11, 11), (RQ12, TQ12, 109)]
/-- a field: 0 an int or boolean, 1 a long, 2 a cell -/
def ftL : List (List Nat) := [[0, 2, 0, 2, 2, 2, 2, 2, 0], [2, 2, 2, 2, 2, 2, 2, 2, 2], [0, 0, 2, 2, 2, 2, 2, 2, 2, 2, 2, 2, 2, 0, 2, 2, 2, 2, 2], [0, 2, 2, 2, 2, 2, 2], [2, 0, 0, 0, 2, 2, 0, 0, 0, 0, 0, 1], [2, 0, 0, 2, 1, 1, 2, 2, 2, 2, 2, 2, 2, 2, 2], [2, 2, 2, 0, 2, 2, 2, 2, 2, 2, 0, 2, 2, 2, 0, 2, 2, 2], [0, 2, 2, 2, 2, 2, 2, 2, 0, 2, 2], [0, 0, 0, 2, 2, 2], [2, 2, 2], [2, 2, 0, 2, 2, 2, 2, 2, 2, 2, 2, 2, 2], [0, 2, 2, 2, 2, 2, 2, 2, 2, 2, 2], [0, 0, 2, 2, 2, 0, 0, 0, 0, 0, 0, 2, 2, 2, 2, 2, 2, 2, 2, 2, 2, 2, 2, 2, 2, 2, 2, 2, 2, 2, 2, 2, 2, 2, 2, 2, 2, 2, 2, 0, 2, 2, 2, 2, 0, 0, 0, 0, 0, 0, 0, 0, 0, 0, 0, 1, 0, 0, 0, 2, 2, 2, 2, 2, 2, 2, 2, 2, 2, 2, 2, 2, 0, 2, 2, 2, 2, 1, 1, 2, 2, 2, 2, 2, 2, 2, 2, 2, 0, 0, 0, 2, 2, 2, 2, 2, 2, 2, 2, 2, 2, 2, 2, 2, 2, 2, 2, 0, 0]]
def ft (c j : Nat) : Nat := (ftL.getD c []).getD j 9
/-- a cell: its kind (0 an object, 1 ints, 2 longs, 3 bytes, 4 booleans, 5 Texts), its class, how many places -/
def ckL : List (Nat × Nat × Nat) := [(0, 11, 11), (0, 9, 3), (1, 0, 4), (1, 0, 4), (2, 0, 160), (0, 7, 11), (1, 0, 20), (1, 0, 20), (1, 0, 20), (1, 0, 20), (1, 0, 20), (4, 0, 200), (1, 0, 20), (1, 0, 8), (1, 0, 8), (0, 2, 19), (1, 0, 120), (1, 0, 120), (1, 0, 120), (1, 0, 120), (1, 0, 120), (1, 0, 120), (1, 0, 120), (1, 0, 120), (1, 0, 120), (1, 0, 120), (1, 0, 120), (1, 0, 100), (1, 0, 100), (1, 0, 100), (1, 0, 100), (1, 0, 100), (0, 0, 9), (5, 0, 4), (2, 0, 11), (2, 0, 10), (4, 0, 10), (2, 0, 64), (4, 0, 64), (0, 8, 6), (1, 0, 500), (1, 0, 10), (1, 0, 7), (0, 8, 6), (1, 0, 500), (1, 0, 10), (1, 0, 7), (0, 8, 6), (1, 0, 500), (1, 0, 10), (1, 0, 7), (0, 8, 6), (1, 0, 500), (1, 0, 10), (1, 0, 7), (0, 4, 12), (3, 0, 500), (0, 8, 6), (1, 0, 500), (1, 0, 10), (1, 0, 7), (2, 0, 10), (0, 10, 13), (1, 0, 8), (1, 0, 8), (1, 0, 20), (1, 0, 256), (1, 0, 5), (1, 0, 4), (1, 0, 20), (1, 0, 20), (1, 0, 5), (1, 0, 5), (1, 0, 4), (1, 0, 4), (0, 6, 18), (1, 0, 120), (1, 0, 120), (1, 0, 120), (1, 0, 8), (1, 0, 8), (1, 0, 600), (2, 0, 2400), (1, 0, 8), (1, 0, 80), (2, 0, 20), (2, 0, 20), (2, 0, 20), (0, 5, 15), (1, 0, 520), (2, 0, 20), (2, 0, 20), (2, 0, 6), (2, 0, 6), (2, 0, 120), (2, 0, 20), (2, 0, 20), (2, 0, 20), (0, 3, 7), (1, 0, 60), (1, 0, 60), (1, 0, 60), (1, 0, 60), (0, 1, 9), (1, 0, 6), (1, 0, 20), (1, 0, 20), (4, 0, 20), (1, 0, 6), (1, 0, 13), (1, 0, 13), (0, 12, 109), (1, 0, 4), (1, 0, 4), (2, 0, 160), (1, 0, 20), (1, 0, 20), (1, 0, 20), (1, 0, 8), (1, 0, 8), (1, 0, 120), (1, 0, 120), (1, 0, 120), (1, 0, 120), (1, 0, 120), (1, 0, 120), (1, 0, 120), (1, 0, 120), (1, 0, 120), (1, 0, 120), (1, 0, 100), (1, 0, 100), (1, 0, 100), (1, 0, 100), (1, 0, 9600), (1, 0, 2400), (1, 0, 120), (1, 0, 120), (1, 0, 120), (1, 0, 20), (1, 0, 20), (1, 0, 20), (1, 0, 20), (2, 0, 20), (2, 0, 20), (2, 0, 20), (3, 0, 500), (1, 0, 4), (1, 0, 4), (1, 0, 44), (1, 0, 4400), (1, 0, 11), (1, 0, 1100), (2, 0, 40), (2, 0, 10), (2, 0, 600), (2, 0, 11), (2, 0, 10), (4, 0, 600), (4, 0, 10), (2, 0, 20), (2, 0, 20), (2, 0, 20), (2, 0, 20), (1, 0, 20), (1, 0, 20), (1, 0, 20), (1, 0, 60), (1, 0, 60), (1, 0, 60), (1, 0, 60), (1, 0, 520), (4, 0, 200), (1, 0, 20), (1, 0, 6), (2, 0, 6), (2, 0, 6), (2, 0, 20), (1, 0, 8), (1, 0, 8), (1, 0, 20), (1, 0, 5376), (1, 0, 5), (1, 0, 4), (1, 0, 20), (1, 0, 20), (1, 0, 11), (1, 0, 11), (1, 0, 8)]
def ck (k : Nat) : Nat × Nat × Nat := ckL.getD k (9, 0, 0)
def rfL : List (List Nat) := [[0, 1, 5, 15, 32, 55, 62, 75, 88, 98, 103], [2, 3, 4], [], [], [], [0, 6, 7, 8, 9, 10, 11, 12, 0, 13, 14], [], [], [], [], [], [], [], [], [], [0, 0, 16, 17, 18, 19, 20, 21, 22, 23, 24, 25, 26, 0, 27, 28, 29, 30, 31], [], [], [], [], [], [], [], [], [], [], [], [], [], [], [], [], [0, 33, 0, 34, 35, 36, 37, 38, 0], [39, 43, 47, 51], [], [], [], [], [], [0, 0, 0, 40, 41, 42], [], [], [], [0, 0, 0, 44, 45, 46], [], [], [], [0, 0, 0, 48, 49, 50], [], [], [], [0, 0, 0, 52, 53, 54], [], [], [], [56, 0, 0, 0, 57, 61, 0, 0, 0, 0, 0, 0], [], [0, 0, 0, 58, 59, 60], [], [], [], [], [63, 64, 0, 65, 66, 67, 68, 69, 70, 71, 72, 73, 74], [], [], [], [], [], [], [], [], [], [], [], [], [5, 15, 32, 0, 76, 77, 78, 79, 80, 81, 0, 82, 83, 84, 0, 85, 86, 87], [], [], [], [], [], [], [], [], [], [], [], [], [89, 0, 0, 90, 0, 0, 91, 75, 32, 92, 93, 94, 95, 96, 97], [], [], [], [], [], [], [], [], [], [0, 5, 32, 99, 100, 101, 102], [], [], [], [], [104, 5, 32, 105, 106, 107, 108, 109, 110], [], [], [], [], [], [], [], [0, 0, 112, 113, 114, 0, 0, 0, 0, 0, 0, 115, 116, 117, 118, 119, 120, 121, 122, 123, 124, 125, 126, 127, 128, 129, 130, 131, 132, 133, 134, 135, 136, 137, 138, 139, 140, 141, 142, 0, 143, 144, 145, 146, 0, 0, 0, 0, 0, 0, 0, 0, 0, 0, 0, 0, 0, 0, 0, 147, 148, 149, 150, 151, 152, 153, 154, 155, 156, 157, 158, 159, 0, 160, 161, 162, 163, 0, 0, 164, 165, 166, 167, 168, 169, 170, 171, 172, 0, 0, 0, 173, 174, 175, 176, 177, 178, 179, 180, 181, 182, 183, 184, 185, 186, 187, 188, 0, 0], [], [], [], [], [], [], [], [], [], [], [], [], [], [], [], [], [], [], [], [], [], [], [], [], [], [], [], [], [], [], [], [], [], [], [], [], [], [], [], [], [], [], [], [], [], [], [], [], [], [], [], [], [], [], [], [], [], [], [], [], [], [], [], [], [], [], [], [], [], [], [], [], [], [], [], [], []]
def rf (k j : Nat) : Nat := (rfL.getD k []).getD j 0
def NC : Nat := 189
theorem ck_0 : ck 0 = (0, 11, 11) := rfl
theorem ck_1 : ck 1 = (0, 9, 3) := rfl
theorem ck_2 : ck 2 = (1, 0, 4) := rfl
theorem ck_3 : ck 3 = (1, 0, 4) := rfl
theorem ck_4 : ck 4 = (2, 0, 160) := rfl
theorem ck_5 : ck 5 = (0, 7, 11) := rfl
theorem ck_6 : ck 6 = (1, 0, 20) := rfl
theorem ck_7 : ck 7 = (1, 0, 20) := rfl
theorem ck_8 : ck 8 = (1, 0, 20) := rfl
theorem ck_9 : ck 9 = (1, 0, 20) := rfl
theorem ck_10 : ck 10 = (1, 0, 20) := rfl
theorem ck_11 : ck 11 = (4, 0, 200) := rfl
theorem ck_12 : ck 12 = (1, 0, 20) := rfl
theorem ck_13 : ck 13 = (1, 0, 8) := rfl
theorem ck_14 : ck 14 = (1, 0, 8) := rfl
theorem ck_15 : ck 15 = (0, 2, 19) := rfl
theorem ck_16 : ck 16 = (1, 0, 120) := rfl
theorem ck_17 : ck 17 = (1, 0, 120) := rfl
theorem ck_18 : ck 18 = (1, 0, 120) := rfl
theorem ck_19 : ck 19 = (1, 0, 120) := rfl
theorem ck_20 : ck 20 = (1, 0, 120) := rfl
theorem ck_21 : ck 21 = (1, 0, 120) := rfl
theorem ck_22 : ck 22 = (1, 0, 120) := rfl
theorem ck_23 : ck 23 = (1, 0, 120) := rfl
theorem ck_24 : ck 24 = (1, 0, 120) := rfl
theorem ck_25 : ck 25 = (1, 0, 120) := rfl
theorem ck_26 : ck 26 = (1, 0, 120) := rfl
theorem ck_27 : ck 27 = (1, 0, 100) := rfl
theorem ck_28 : ck 28 = (1, 0, 100) := rfl
theorem ck_29 : ck 29 = (1, 0, 100) := rfl
theorem ck_30 : ck 30 = (1, 0, 100) := rfl
theorem ck_31 : ck 31 = (1, 0, 100) := rfl
theorem ck_32 : ck 32 = (0, 0, 9) := rfl
theorem ck_33 : ck 33 = (5, 0, 4) := rfl
theorem ck_34 : ck 34 = (2, 0, 11) := rfl
theorem ck_35 : ck 35 = (2, 0, 10) := rfl
theorem ck_36 : ck 36 = (4, 0, 10) := rfl
theorem ck_37 : ck 37 = (2, 0, 64) := rfl
theorem ck_38 : ck 38 = (4, 0, 64) := rfl
theorem ck_39 : ck 39 = (0, 8, 6) := rfl
theorem ck_40 : ck 40 = (1, 0, 500) := rfl
theorem ck_41 : ck 41 = (1, 0, 10) := rfl
theorem ck_42 : ck 42 = (1, 0, 7) := rfl
theorem ck_43 : ck 43 = (0, 8, 6) := rfl
theorem ck_44 : ck 44 = (1, 0, 500) := rfl
theorem ck_45 : ck 45 = (1, 0, 10) := rfl
theorem ck_46 : ck 46 = (1, 0, 7) := rfl
theorem ck_47 : ck 47 = (0, 8, 6) := rfl
theorem ck_48 : ck 48 = (1, 0, 500) := rfl
theorem ck_49 : ck 49 = (1, 0, 10) := rfl
theorem ck_50 : ck 50 = (1, 0, 7) := rfl
theorem ck_51 : ck 51 = (0, 8, 6) := rfl
theorem ck_52 : ck 52 = (1, 0, 500) := rfl
theorem ck_53 : ck 53 = (1, 0, 10) := rfl
theorem ck_54 : ck 54 = (1, 0, 7) := rfl
theorem ck_55 : ck 55 = (0, 4, 12) := rfl
theorem ck_56 : ck 56 = (3, 0, 500) := rfl
theorem ck_57 : ck 57 = (0, 8, 6) := rfl
theorem ck_58 : ck 58 = (1, 0, 500) := rfl
theorem ck_59 : ck 59 = (1, 0, 10) := rfl
theorem ck_60 : ck 60 = (1, 0, 7) := rfl
theorem ck_61 : ck 61 = (2, 0, 10) := rfl
theorem ck_62 : ck 62 = (0, 10, 13) := rfl
theorem ck_63 : ck 63 = (1, 0, 8) := rfl
theorem ck_64 : ck 64 = (1, 0, 8) := rfl
theorem ck_65 : ck 65 = (1, 0, 20) := rfl
theorem ck_66 : ck 66 = (1, 0, 256) := rfl
theorem ck_67 : ck 67 = (1, 0, 5) := rfl
theorem ck_68 : ck 68 = (1, 0, 4) := rfl
theorem ck_69 : ck 69 = (1, 0, 20) := rfl
theorem ck_70 : ck 70 = (1, 0, 20) := rfl
theorem ck_71 : ck 71 = (1, 0, 5) := rfl
theorem ck_72 : ck 72 = (1, 0, 5) := rfl
theorem ck_73 : ck 73 = (1, 0, 4) := rfl
theorem ck_74 : ck 74 = (1, 0, 4) := rfl
theorem ck_75 : ck 75 = (0, 6, 18) := rfl
theorem ck_76 : ck 76 = (1, 0, 120) := rfl
theorem ck_77 : ck 77 = (1, 0, 120) := rfl
theorem ck_78 : ck 78 = (1, 0, 120) := rfl
theorem ck_79 : ck 79 = (1, 0, 8) := rfl
theorem ck_80 : ck 80 = (1, 0, 8) := rfl
theorem ck_81 : ck 81 = (1, 0, 600) := rfl
theorem ck_82 : ck 82 = (2, 0, 2400) := rfl
theorem ck_83 : ck 83 = (1, 0, 8) := rfl
theorem ck_84 : ck 84 = (1, 0, 80) := rfl
theorem ck_85 : ck 85 = (2, 0, 20) := rfl
theorem ck_86 : ck 86 = (2, 0, 20) := rfl
theorem ck_87 : ck 87 = (2, 0, 20) := rfl
theorem ck_88 : ck 88 = (0, 5, 15) := rfl
theorem ck_89 : ck 89 = (1, 0, 520) := rfl
theorem ck_90 : ck 90 = (2, 0, 20) := rfl
theorem ck_91 : ck 91 = (2, 0, 20) := rfl
theorem ck_92 : ck 92 = (2, 0, 6) := rfl
theorem ck_93 : ck 93 = (2, 0, 6) := rfl
theorem ck_94 : ck 94 = (2, 0, 120) := rfl
theorem ck_95 : ck 95 = (2, 0, 20) := rfl
theorem ck_96 : ck 96 = (2, 0, 20) := rfl
theorem ck_97 : ck 97 = (2, 0, 20) := rfl
theorem ck_98 : ck 98 = (0, 3, 7) := rfl
theorem ck_99 : ck 99 = (1, 0, 60) := rfl
theorem ck_100 : ck 100 = (1, 0, 60) := rfl
theorem ck_101 : ck 101 = (1, 0, 60) := rfl
theorem ck_102 : ck 102 = (1, 0, 60) := rfl
theorem ck_103 : ck 103 = (0, 1, 9) := rfl
theorem ck_104 : ck 104 = (1, 0, 6) := rfl
theorem ck_105 : ck 105 = (1, 0, 20) := rfl
theorem ck_106 : ck 106 = (1, 0, 20) := rfl
theorem ck_107 : ck 107 = (4, 0, 20) := rfl
theorem ck_108 : ck 108 = (1, 0, 6) := rfl
theorem ck_109 : ck 109 = (1, 0, 13) := rfl
theorem ck_110 : ck 110 = (1, 0, 13) := rfl
theorem ck_111 : ck 111 = (0, 12, 109) := rfl
theorem ck_112 : ck 112 = (1, 0, 4) := rfl
theorem ck_113 : ck 113 = (1, 0, 4) := rfl
theorem ck_114 : ck 114 = (2, 0, 160) := rfl
theorem ck_115 : ck 115 = (1, 0, 20) := rfl
theorem ck_116 : ck 116 = (1, 0, 20) := rfl
theorem ck_117 : ck 117 = (1, 0, 20) := rfl
theorem ck_118 : ck 118 = (1, 0, 8) := rfl
theorem ck_119 : ck 119 = (1, 0, 8) := rfl
theorem ck_120 : ck 120 = (1, 0, 120) := rfl
theorem ck_121 : ck 121 = (1, 0, 120) := rfl
theorem ck_122 : ck 122 = (1, 0, 120) := rfl
theorem ck_123 : ck 123 = (1, 0, 120) := rfl
theorem ck_124 : ck 124 = (1, 0, 120) := rfl
theorem ck_125 : ck 125 = (1, 0, 120) := rfl
theorem ck_126 : ck 126 = (1, 0, 120) := rfl
theorem ck_127 : ck 127 = (1, 0, 120) := rfl
theorem ck_128 : ck 128 = (1, 0, 120) := rfl
theorem ck_129 : ck 129 = (1, 0, 120) := rfl
theorem ck_130 : ck 130 = (1, 0, 100) := rfl
theorem ck_131 : ck 131 = (1, 0, 100) := rfl
theorem ck_132 : ck 132 = (1, 0, 100) := rfl
theorem ck_133 : ck 133 = (1, 0, 100) := rfl
theorem ck_134 : ck 134 = (1, 0, 9600) := rfl
theorem ck_135 : ck 135 = (1, 0, 2400) := rfl
theorem ck_136 : ck 136 = (1, 0, 120) := rfl
theorem ck_137 : ck 137 = (1, 0, 120) := rfl
theorem ck_138 : ck 138 = (1, 0, 120) := rfl
theorem ck_139 : ck 139 = (1, 0, 20) := rfl
theorem ck_140 : ck 140 = (1, 0, 20) := rfl
theorem ck_141 : ck 141 = (1, 0, 20) := rfl
theorem ck_142 : ck 142 = (1, 0, 20) := rfl
theorem ck_143 : ck 143 = (2, 0, 20) := rfl
theorem ck_144 : ck 144 = (2, 0, 20) := rfl
theorem ck_145 : ck 145 = (2, 0, 20) := rfl
theorem ck_146 : ck 146 = (3, 0, 500) := rfl
theorem ck_147 : ck 147 = (1, 0, 4) := rfl
theorem ck_148 : ck 148 = (1, 0, 4) := rfl
theorem ck_149 : ck 149 = (1, 0, 44) := rfl
theorem ck_150 : ck 150 = (1, 0, 4400) := rfl
theorem ck_151 : ck 151 = (1, 0, 11) := rfl
theorem ck_152 : ck 152 = (1, 0, 1100) := rfl
theorem ck_153 : ck 153 = (2, 0, 40) := rfl
theorem ck_154 : ck 154 = (2, 0, 10) := rfl
theorem ck_155 : ck 155 = (2, 0, 600) := rfl
theorem ck_156 : ck 156 = (2, 0, 11) := rfl
theorem ck_157 : ck 157 = (2, 0, 10) := rfl
theorem ck_158 : ck 158 = (4, 0, 600) := rfl
theorem ck_159 : ck 159 = (4, 0, 10) := rfl
theorem ck_160 : ck 160 = (2, 0, 20) := rfl
theorem ck_161 : ck 161 = (2, 0, 20) := rfl
theorem ck_162 : ck 162 = (2, 0, 20) := rfl
theorem ck_163 : ck 163 = (2, 0, 20) := rfl
theorem ck_164 : ck 164 = (1, 0, 20) := rfl
theorem ck_165 : ck 165 = (1, 0, 20) := rfl
theorem ck_166 : ck 166 = (1, 0, 20) := rfl
theorem ck_167 : ck 167 = (1, 0, 60) := rfl
theorem ck_168 : ck 168 = (1, 0, 60) := rfl
theorem ck_169 : ck 169 = (1, 0, 60) := rfl
theorem ck_170 : ck 170 = (1, 0, 60) := rfl
theorem ck_171 : ck 171 = (1, 0, 520) := rfl
theorem ck_172 : ck 172 = (4, 0, 200) := rfl
theorem ck_173 : ck 173 = (1, 0, 20) := rfl
theorem ck_174 : ck 174 = (1, 0, 6) := rfl
theorem ck_175 : ck 175 = (2, 0, 6) := rfl
theorem ck_176 : ck 176 = (2, 0, 6) := rfl
theorem ck_177 : ck 177 = (2, 0, 20) := rfl
theorem ck_178 : ck 178 = (1, 0, 8) := rfl
theorem ck_179 : ck 179 = (1, 0, 8) := rfl
theorem ck_180 : ck 180 = (1, 0, 20) := rfl
theorem ck_181 : ck 181 = (1, 0, 5376) := rfl
theorem ck_182 : ck 182 = (1, 0, 5) := rfl
theorem ck_183 : ck 183 = (1, 0, 4) := rfl
theorem ck_184 : ck 184 = (1, 0, 20) := rfl
theorem ck_185 : ck 185 = (1, 0, 20) := rfl
theorem ck_186 : ck 186 = (1, 0, 11) := rfl
theorem ck_187 : ck 187 = (1, 0, 11) := rfl
theorem ck_188 : ck 188 = (1, 0, 8) := rfl
theorem rf_0_1 : rf 0 1 = 1 := rfl
theorem rf_0_2 : rf 0 2 = 5 := rfl
theorem rf_0_3 : rf 0 3 = 15 := rfl
theorem rf_0_4 : rf 0 4 = 32 := rfl
theorem rf_0_5 : rf 0 5 = 55 := rfl
theorem rf_0_6 : rf 0 6 = 62 := rfl
theorem rf_0_7 : rf 0 7 = 75 := rfl
theorem rf_0_8 : rf 0 8 = 88 := rfl
theorem rf_0_9 : rf 0 9 = 98 := rfl
theorem rf_0_10 : rf 0 10 = 103 := rfl
theorem rf_1_0 : rf 1 0 = 2 := rfl
theorem rf_1_1 : rf 1 1 = 3 := rfl
theorem rf_1_2 : rf 1 2 = 4 := rfl
theorem rf_5_1 : rf 5 1 = 6 := rfl
theorem rf_5_2 : rf 5 2 = 7 := rfl
theorem rf_5_3 : rf 5 3 = 8 := rfl
theorem rf_5_4 : rf 5 4 = 9 := rfl
theorem rf_5_5 : rf 5 5 = 10 := rfl
theorem rf_5_6 : rf 5 6 = 11 := rfl
theorem rf_5_7 : rf 5 7 = 12 := rfl
theorem rf_5_9 : rf 5 9 = 13 := rfl
theorem rf_5_10 : rf 5 10 = 14 := rfl
theorem rf_15_2 : rf 15 2 = 16 := rfl
theorem rf_15_3 : rf 15 3 = 17 := rfl
theorem rf_15_4 : rf 15 4 = 18 := rfl
theorem rf_15_5 : rf 15 5 = 19 := rfl
theorem rf_15_6 : rf 15 6 = 20 := rfl
theorem rf_15_7 : rf 15 7 = 21 := rfl
theorem rf_15_8 : rf 15 8 = 22 := rfl
theorem rf_15_9 : rf 15 9 = 23 := rfl
theorem rf_15_10 : rf 15 10 = 24 := rfl
theorem rf_15_11 : rf 15 11 = 25 := rfl
theorem rf_15_12 : rf 15 12 = 26 := rfl
theorem rf_15_14 : rf 15 14 = 27 := rfl
theorem rf_15_15 : rf 15 15 = 28 := rfl
theorem rf_15_16 : rf 15 16 = 29 := rfl
theorem rf_15_17 : rf 15 17 = 30 := rfl
theorem rf_15_18 : rf 15 18 = 31 := rfl
theorem rf_32_1 : rf 32 1 = 33 := rfl
theorem rf_32_3 : rf 32 3 = 34 := rfl
theorem rf_32_4 : rf 32 4 = 35 := rfl
theorem rf_32_5 : rf 32 5 = 36 := rfl
theorem rf_32_6 : rf 32 6 = 37 := rfl
theorem rf_32_7 : rf 32 7 = 38 := rfl
theorem rf_33_0 : rf 33 0 = 39 := rfl
theorem rf_33_1 : rf 33 1 = 43 := rfl
theorem rf_33_2 : rf 33 2 = 47 := rfl
theorem rf_33_3 : rf 33 3 = 51 := rfl
theorem rf_39_3 : rf 39 3 = 40 := rfl
theorem rf_39_4 : rf 39 4 = 41 := rfl
theorem rf_39_5 : rf 39 5 = 42 := rfl
theorem rf_43_3 : rf 43 3 = 44 := rfl
theorem rf_43_4 : rf 43 4 = 45 := rfl
theorem rf_43_5 : rf 43 5 = 46 := rfl
theorem rf_47_3 : rf 47 3 = 48 := rfl
theorem rf_47_4 : rf 47 4 = 49 := rfl
theorem rf_47_5 : rf 47 5 = 50 := rfl
theorem rf_51_3 : rf 51 3 = 52 := rfl
theorem rf_51_4 : rf 51 4 = 53 := rfl
theorem rf_51_5 : rf 51 5 = 54 := rfl
theorem rf_55_0 : rf 55 0 = 56 := rfl
theorem rf_55_4 : rf 55 4 = 57 := rfl
theorem rf_55_5 : rf 55 5 = 61 := rfl
theorem rf_57_3 : rf 57 3 = 58 := rfl
theorem rf_57_4 : rf 57 4 = 59 := rfl
theorem rf_57_5 : rf 57 5 = 60 := rfl
theorem rf_62_0 : rf 62 0 = 63 := rfl
theorem rf_62_1 : rf 62 1 = 64 := rfl
theorem rf_62_3 : rf 62 3 = 65 := rfl
theorem rf_62_4 : rf 62 4 = 66 := rfl
theorem rf_62_5 : rf 62 5 = 67 := rfl
theorem rf_62_6 : rf 62 6 = 68 := rfl
theorem rf_62_7 : rf 62 7 = 69 := rfl
theorem rf_62_8 : rf 62 8 = 70 := rfl
theorem rf_62_9 : rf 62 9 = 71 := rfl
theorem rf_62_10 : rf 62 10 = 72 := rfl
theorem rf_62_11 : rf 62 11 = 73 := rfl
theorem rf_62_12 : rf 62 12 = 74 := rfl
theorem rf_75_0 : rf 75 0 = 5 := rfl
theorem rf_75_1 : rf 75 1 = 15 := rfl
theorem rf_75_2 : rf 75 2 = 32 := rfl
theorem rf_75_4 : rf 75 4 = 76 := rfl
theorem rf_75_5 : rf 75 5 = 77 := rfl
theorem rf_75_6 : rf 75 6 = 78 := rfl
theorem rf_75_7 : rf 75 7 = 79 := rfl
theorem rf_75_8 : rf 75 8 = 80 := rfl
theorem rf_75_9 : rf 75 9 = 81 := rfl
theorem rf_75_11 : rf 75 11 = 82 := rfl
theorem rf_75_12 : rf 75 12 = 83 := rfl
theorem rf_75_13 : rf 75 13 = 84 := rfl
theorem rf_75_15 : rf 75 15 = 85 := rfl
theorem rf_75_16 : rf 75 16 = 86 := rfl
theorem rf_75_17 : rf 75 17 = 87 := rfl
theorem rf_88_0 : rf 88 0 = 89 := rfl
theorem rf_88_3 : rf 88 3 = 90 := rfl
theorem rf_88_6 : rf 88 6 = 91 := rfl
theorem rf_88_7 : rf 88 7 = 75 := rfl
theorem rf_88_8 : rf 88 8 = 32 := rfl
theorem rf_88_9 : rf 88 9 = 92 := rfl
theorem rf_88_10 : rf 88 10 = 93 := rfl
theorem rf_88_11 : rf 88 11 = 94 := rfl
theorem rf_88_12 : rf 88 12 = 95 := rfl
theorem rf_88_13 : rf 88 13 = 96 := rfl
theorem rf_88_14 : rf 88 14 = 97 := rfl
theorem rf_98_1 : rf 98 1 = 5 := rfl
theorem rf_98_2 : rf 98 2 = 32 := rfl
theorem rf_98_3 : rf 98 3 = 99 := rfl
theorem rf_98_4 : rf 98 4 = 100 := rfl
theorem rf_98_5 : rf 98 5 = 101 := rfl
theorem rf_98_6 : rf 98 6 = 102 := rfl
theorem rf_103_0 : rf 103 0 = 104 := rfl
theorem rf_103_1 : rf 103 1 = 5 := rfl
theorem rf_103_2 : rf 103 2 = 32 := rfl
theorem rf_103_3 : rf 103 3 = 105 := rfl
theorem rf_103_4 : rf 103 4 = 106 := rfl
theorem rf_103_5 : rf 103 5 = 107 := rfl
theorem rf_103_6 : rf 103 6 = 108 := rfl
theorem rf_103_7 : rf 103 7 = 109 := rfl
theorem rf_103_8 : rf 103 8 = 110 := rfl
theorem rf_111_2 : rf 111 2 = 112 := rfl
theorem rf_111_3 : rf 111 3 = 113 := rfl
theorem rf_111_4 : rf 111 4 = 114 := rfl
theorem rf_111_11 : rf 111 11 = 115 := rfl
theorem rf_111_12 : rf 111 12 = 116 := rfl
theorem rf_111_13 : rf 111 13 = 117 := rfl
theorem rf_111_14 : rf 111 14 = 118 := rfl
theorem rf_111_15 : rf 111 15 = 119 := rfl
theorem rf_111_16 : rf 111 16 = 120 := rfl
theorem rf_111_17 : rf 111 17 = 121 := rfl
theorem rf_111_18 : rf 111 18 = 122 := rfl
theorem rf_111_19 : rf 111 19 = 123 := rfl
theorem rf_111_20 : rf 111 20 = 124 := rfl
theorem rf_111_21 : rf 111 21 = 125 := rfl
theorem rf_111_22 : rf 111 22 = 126 := rfl
theorem rf_111_23 : rf 111 23 = 127 := rfl
theorem rf_111_24 : rf 111 24 = 128 := rfl
theorem rf_111_25 : rf 111 25 = 129 := rfl
theorem rf_111_26 : rf 111 26 = 130 := rfl
theorem rf_111_27 : rf 111 27 = 131 := rfl
theorem rf_111_28 : rf 111 28 = 132 := rfl
theorem rf_111_29 : rf 111 29 = 133 := rfl
theorem rf_111_30 : rf 111 30 = 134 := rfl
theorem rf_111_31 : rf 111 31 = 135 := rfl
theorem rf_111_32 : rf 111 32 = 136 := rfl
theorem rf_111_33 : rf 111 33 = 137 := rfl
theorem rf_111_34 : rf 111 34 = 138 := rfl
theorem rf_111_35 : rf 111 35 = 139 := rfl
theorem rf_111_36 : rf 111 36 = 140 := rfl
theorem rf_111_37 : rf 111 37 = 141 := rfl
theorem rf_111_38 : rf 111 38 = 142 := rfl
theorem rf_111_40 : rf 111 40 = 143 := rfl
theorem rf_111_41 : rf 111 41 = 144 := rfl
theorem rf_111_42 : rf 111 42 = 145 := rfl
theorem rf_111_43 : rf 111 43 = 146 := rfl
theorem rf_111_59 : rf 111 59 = 147 := rfl
theorem rf_111_60 : rf 111 60 = 148 := rfl
theorem rf_111_61 : rf 111 61 = 149 := rfl
theorem rf_111_62 : rf 111 62 = 150 := rfl
theorem rf_111_63 : rf 111 63 = 151 := rfl
theorem rf_111_64 : rf 111 64 = 152 := rfl
theorem rf_111_65 : rf 111 65 = 153 := rfl
theorem rf_111_66 : rf 111 66 = 154 := rfl
theorem rf_111_67 : rf 111 67 = 155 := rfl
theorem rf_111_68 : rf 111 68 = 156 := rfl
theorem rf_111_69 : rf 111 69 = 157 := rfl
theorem rf_111_70 : rf 111 70 = 158 := rfl
theorem rf_111_71 : rf 111 71 = 159 := rfl
theorem rf_111_73 : rf 111 73 = 160 := rfl
theorem rf_111_74 : rf 111 74 = 161 := rfl
theorem rf_111_75 : rf 111 75 = 162 := rfl
theorem rf_111_76 : rf 111 76 = 163 := rfl
theorem rf_111_79 : rf 111 79 = 164 := rfl
theorem rf_111_80 : rf 111 80 = 165 := rfl
theorem rf_111_81 : rf 111 81 = 166 := rfl
theorem rf_111_82 : rf 111 82 = 167 := rfl
theorem rf_111_83 : rf 111 83 = 168 := rfl
theorem rf_111_84 : rf 111 84 = 169 := rfl
theorem rf_111_85 : rf 111 85 = 170 := rfl
theorem rf_111_86 : rf 111 86 = 171 := rfl
theorem rf_111_87 : rf 111 87 = 172 := rfl
theorem rf_111_91 : rf 111 91 = 173 := rfl
theorem rf_111_92 : rf 111 92 = 174 := rfl
theorem rf_111_93 : rf 111 93 = 175 := rfl
theorem rf_111_94 : rf 111 94 = 176 := rfl
theorem rf_111_95 : rf 111 95 = 177 := rfl
theorem rf_111_96 : rf 111 96 = 178 := rfl
theorem rf_111_97 : rf 111 97 = 179 := rfl
theorem rf_111_98 : rf 111 98 = 180 := rfl
theorem rf_111_99 : rf 111 99 = 181 := rfl
theorem rf_111_100 : rf 111 100 = 182 := rfl
theorem rf_111_101 : rf 111 101 = 183 := rfl
theorem rf_111_102 : rf 111 102 = 184 := rfl
theorem rf_111_103 : rf 111 103 = 185 := rfl
theorem rf_111_104 : rf 111 104 = 186 := rfl
theorem rf_111_105 : rf 111 105 = 187 := rfl
theorem rf_111_106 : rf 111 106 = 188 := rfl
theorem cls_0 : cls[0]? = some (RQ0, TQ0, 9) := rfl
theorem cls_1 : cls[1]? = some (RQ1, TQ1, 9) := rfl
theorem cls_2 : cls[2]? = some (RQ2, TQ2, 19) := rfl
theorem cls_3 : cls[3]? = some (RQ3, TQ3, 7) := rfl
theorem cls_4 : cls[4]? = some (RQ4, TQ4, 12) := rfl
theorem cls_5 : cls[5]? = some (RQ5, TQ5, 15) := rfl
theorem cls_6 : cls[6]? = some (RQ6, TQ6, 18) := rfl
theorem cls_7 : cls[7]? = some (RQ7, TQ7, 11) := rfl
theorem cls_8 : cls[8]? = some (RQ8, TQ8, 6) := rfl
theorem cls_9 : cls[9]? = some (RQ9, TQ9, 3) := rfl
theorem cls_10 : cls[10]? = some (RQ10, TQ10, 13) := rfl
theorem cls_11 : cls[11]? = some (RQ11, TQ11, 11) := rfl
theorem cls_12 : cls[12]? = some (RQ12, TQ12, 109) := rfl
