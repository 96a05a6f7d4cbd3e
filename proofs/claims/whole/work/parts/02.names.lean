def RX0 : String := "SilentTurn$Ahead"
def TX0 : u_T := fun k => match k with
  | 0 => ("SilentTurn$Ahead", "houses", "[LSilentTurn$House;", true)
  | 1 => ("SilentTurn$Ahead", "way", "[I", true)
  | 2 => ("SilentTurn$Ahead", "said", "[I", true)
  | 3 => ("SilentTurn$Ahead", "length", "I", false)
  | 4 => ("SilentTurn$Ahead", "best", "I", false)
  | 5 => ("SilentTurn$Ahead", "asked", "I", false)
  | 6 => ("SilentTurn$Ahead", "bestWay", "[I", true)
  | _ => ("SilentTurn$Ahead", "suspects", "I", false)
def tyX0 : Nat → FieldType := fun k => match k with
  | 0 => .array (.object "SilentTurn$House")
  | 1 => .array .int
  | 2 => .array .int
  | 3 => .int
  | 4 => .int
  | 5 => .int
  | 6 => .array .int
  | _ => .int
abbrev wsX00 : List Cond := u_ws RX0 TX0 8
theorem nmX0 : ∀ a, a < 8 → ∀ b, b < 8 → a ≠ b → (TX0 a).2.1 ≠ (TX0 b).2.1 := by decide +kernel
theorem tyX0_ok : ∀ k, k < 8 → parseFieldDescriptor (TX0 k).2.2.1 = some (tyX0 k) := by decide +kernel
def RX1 : String := "SilentTurn$Days"
def TX1 : u_T := fun k => match k with
  | 0 => ("SilentTurn$Days", "kinds", "[I", true)
  | 1 => ("SilentTurn$Days", "whos", "[I", true)
  | 2 => ("SilentTurn$Days", "muches", "[I", true)
  | 3 => ("SilentTurn$Days", "tests", "[I", true)
  | 4 => ("SilentTurn$Days", "signs", "[I", true)
  | 5 => ("SilentTurn$Days", "mates", "[I", true)
  | 6 => ("SilentTurn$Days", "size", "I", false)
  | 7 => ("SilentTurn$Days", "steps", "I", false)
  | _ => ("SilentTurn$Days", "there", "Z", false)
def tyX1 : Nat → FieldType := fun k => match k with
  | 0 => .array .int
  | 1 => .array .int
  | 2 => .array .int
  | 3 => .array .int
  | 4 => .array .int
  | 5 => .array .int
  | 6 => .int
  | 7 => .int
  | _ => .boolean
abbrev wsX10 : List Cond := u_ws RX1 TX1 9
theorem nmX1 : ∀ a, a < 9 → ∀ b, b < 9 → a ≠ b → (TX1 a).2.1 ≠ (TX1 b).2.1 := by decide +kernel
theorem tyX1_ok : ∀ k, k < 9 → parseFieldDescriptor (TX1 k).2.2.1 = some (tyX1 k) := by decide +kernel
def RX2 : String := "SilentTurn$DaysReader"
def TX2 : u_T := fun k => match k with
  | 0 => ("SilentTurn$DaysReader", "tape", "LSilentTurn$Tape;", true)
  | 1 => ("SilentTurn$DaysReader", "open", "[I", true)
  | 2 => ("SilentTurn$DaysReader", "depth", "I", false)
  | 3 => ("SilentTurn$DaysReader", "days", "LSilentTurn$Days;", false)
  | _ => ("SilentTurn$DaysReader", "house", "LSilentTurn$House;", false)
def tyX2 : Nat → FieldType := fun k => match k with
  | 0 => .object "SilentTurn$Tape"
  | 1 => .array .int
  | 2 => .int
  | 3 => .object "SilentTurn$Days"
  | _ => .object "SilentTurn$House"
abbrev wsX20 : List Cond := u_ws RX2 TX2 5
theorem nmX2 : ∀ a, a < 5 → ∀ b, b < 5 → a ≠ b → (TX2 a).2.1 ≠ (TX2 b).2.1 := by decide +kernel
theorem tyX2_ok : ∀ k, k < 5 → parseFieldDescriptor (TX2 k).2.2.1 = some (tyX2 k) := by decide +kernel
def RX3 : String := "SilentTurn$House"
def TX3 : u_T := fun k => match k with
  | 0 => ("SilentTurn$House", "topics", "LSilentTurn$Topics;", true)
  | 1 => ("SilentTurn$House", "monks", "LSilentTurn$Monks;", true)
  | 2 => ("SilentTurn$House", "entryMonks", "[I", true)
  | 3 => ("SilentTurn$House", "entryTopics", "[I", true)
  | 4 => ("SilentTurn$House", "entries", "I", false)
  | 5 => ("SilentTurn$House", "turn", "I", false)
  | 6 => ("SilentTurn$House", "odds", "I", false)
  | 7 => ("SilentTurn$House", "minutes", "I", false)
  | 8 => ("SilentTurn$House", "pauses", "I", false)
  | 9 => ("SilentTurn$House", "helps", "I", false)
  | 10 => ("SilentTurn$House", "quiet", "I", false)
  | _ => ("SilentTurn$House", "lately", "I", false)
def tyX3 : Nat → FieldType := fun k => match k with
  | 0 => .object "SilentTurn$Topics"
  | 1 => .object "SilentTurn$Monks"
  | 2 => .array .int
  | 3 => .array .int
  | 4 => .int
  | 5 => .int
  | 6 => .int
  | 7 => .int
  | 8 => .int
  | 9 => .int
  | 10 => .int
  | _ => .int
abbrev wsX30 : List Cond := u_ws RX3 TX3 12
theorem nmX3 : ∀ a, a < 12 → ∀ b, b < 12 → a ≠ b → (TX3 a).2.1 ≠ (TX3 b).2.1 := by decide +kernel
theorem tyX3_ok : ∀ k, k < 12 → parseFieldDescriptor (TX3 k).2.2.1 = some (tyX3 k) := by decide +kernel
def RX4 : String := "SilentTurn$HouseReader"
def TX4 : u_T := fun k => match k with
  | 0 => ("SilentTurn$HouseReader", "tape", "LSilentTurn$Tape;", true)
  | 1 => ("SilentTurn$HouseReader", "house", "LSilentTurn$House;", false)
  | 2 => ("SilentTurn$HouseReader", "turnTold", "Z", false)
  | _ => ("SilentTurn$HouseReader", "oddsTold", "Z", false)
def tyX4 : Nat → FieldType := fun k => match k with
  | 0 => .object "SilentTurn$Tape"
  | 1 => .object "SilentTurn$House"
  | 2 => .boolean
  | _ => .boolean
abbrev wsX40 : List Cond := u_ws RX4 TX4 4
theorem nmX4 : ∀ a, a < 4 → ∀ b, b < 4 → a ≠ b → (TX4 a).2.1 ≠ (TX4 b).2.1 := by decide +kernel
theorem tyX4_ok : ∀ k, k < 4 → parseFieldDescriptor (TX4 k).2.2.1 = some (tyX4 k) := by decide +kernel
def RX5 : String := "SilentTurn$Life"
def TX5 : u_T := fun k => match k with
  | 0 => ("SilentTurn$Life", "rounds", "[I", true)
  | 1 => ("SilentTurn$Life", "house", "LSilentTurn$House;", false)
  | 2 => ("SilentTurn$Life", "days", "LSilentTurn$Days;", false)
  | 3 => ("SilentTurn$Life", "state", "I", false)
  | 4 => ("SilentTurn$Life", "steps", "I", false)
  | 5 => ("SilentTurn$Life", "missed", "I", false)
  | 6 => ("SilentTurn$Life", "minutes", "I", false)
  | 7 => ("SilentTurn$Life", "pauses", "I", false)
  | 8 => ("SilentTurn$Life", "helps", "I", false)
  | 9 => ("SilentTurn$Life", "left", "Z", false)
  | _ => ("SilentTurn$Life", "there", "Z", false)
def tyX5 : Nat → FieldType := fun k => match k with
  | 0 => .array .int
  | 1 => .object "SilentTurn$House"
  | 2 => .object "SilentTurn$Days"
  | 3 => .int
  | 4 => .int
  | 5 => .int
  | 6 => .int
  | 7 => .int
  | 8 => .int
  | 9 => .boolean
  | _ => .boolean
abbrev wsX50 : List Cond := u_ws RX5 TX5 11
theorem nmX5 : ∀ a, a < 11 → ∀ b, b < 11 → a ≠ b → (TX5 a).2.1 ≠ (TX5 b).2.1 := by decide +kernel
theorem tyX5_ok : ∀ k, k < 11 → parseFieldDescriptor (TX5 k).2.2.1 = some (tyX5 k) := by decide +kernel
def RX6 : String := "SilentTurn$Monks"
def TX6 : u_T := fun k => match k with
  | 0 => ("SilentTurn$Monks", "names", "[J", true)
  | 1 => ("SilentTurn$Monks", "breaths", "[I", true)
  | 2 => ("SilentTurn$Monks", "mosts", "[I", true)
  | 3 => ("SilentTurn$Monks", "rests", "[I", true)
  | 4 => ("SilentTurn$Monks", "spoke", "[I", true)
  | 5 => ("SilentTurn$Monks", "kept", "[I", true)
  | 6 => ("SilentTurn$Monks", "ears", "[I", true)
  | 7 => ("SilentTurn$Monks", "awake", "I", false)
  | _ => ("SilentTurn$Monks", "count", "I", false)
def tyX6 : Nat → FieldType := fun k => match k with
  | 0 => .array .long
  | 1 => .array .int
  | 2 => .array .int
  | 3 => .array .int
  | 4 => .array .int
  | 5 => .array .int
  | 6 => .array .int
  | 7 => .int
  | _ => .int
abbrev wsX60 : List Cond := u_ws RX6 TX6 9
theorem nmX6 : ∀ a, a < 9 → ∀ b, b < 9 → a ≠ b → (TX6 a).2.1 ≠ (TX6 b).2.1 := by decide +kernel
theorem tyX6_ok : ∀ k, k < 9 → parseFieldDescriptor (TX6 k).2.2.1 = some (tyX6 k) := by decide +kernel
def RX7 : String := "SilentTurn$Talk"
def TX7 : u_T := fun k => match k with
  | 0 => ("SilentTurn$Talk", "row", "[I", true)
  | 1 => ("SilentTurn$Talk", "found", "[I", true)
  | _ => ("SilentTurn$Talk", "length", "I", false)
def tyX7 : Nat → FieldType := fun k => match k with
  | 0 => .array .int
  | 1 => .array .int
  | _ => .int
abbrev wsX70 : List Cond := u_ws RX7 TX7 3
theorem nmX7 : ∀ a, a < 3 → ∀ b, b < 3 → a ≠ b → (TX7 a).2.1 ≠ (TX7 b).2.1 := by decide +kernel
theorem tyX7_ok : ∀ k, k < 3 → parseFieldDescriptor (TX7 k).2.2.1 = some (tyX7 k) := by decide +kernel
def RX8 : String := "SilentTurn$Tape"
def TX8 : u_T := fun k => match k with
  | 0 => ("SilentTurn$Tape", "bytes", "[I", true)
  | 1 => ("SilentTurn$Tape", "keywords", "[J", true)
  | 2 => ("SilentTurn$Tape", "fed", "I", false)
  | 3 => ("SilentTurn$Tape", "fault", "I", false)
  | 4 => ("SilentTurn$Tape", "faultPlace", "I", false)
  | 5 => ("SilentTurn$Tape", "kind", "I", false)
  | 6 => ("SilentTurn$Tape", "place", "I", false)
  | 7 => ("SilentTurn$Tape", "word", "I", false)
  | 8 => ("SilentTurn$Tape", "number", "I", false)
  | 9 => ("SilentTurn$Tape", "name", "J", false)
  | 10 => ("SilentTurn$Tape", "length", "I", false)
  | _ => ("SilentTurn$Tape", "next", "I", false)
def tyX8 : Nat → FieldType := fun k => match k with
  | 0 => .array .int
  | 1 => .array .long
  | 2 => .int
  | 3 => .int
  | 4 => .int
  | 5 => .int
  | 6 => .int
  | 7 => .int
  | 8 => .int
  | 9 => .long
  | 10 => .int
  | _ => .int
abbrev wsX80 : List Cond := u_ws RX8 TX8 12
theorem nmX8 : ∀ a, a < 12 → ∀ b, b < 12 → a ≠ b → (TX8 a).2.1 ≠ (TX8 b).2.1 := by decide +kernel
theorem tyX8_ok : ∀ k, k < 12 → parseFieldDescriptor (TX8 k).2.2.1 = some (tyX8 k) := by decide +kernel
def RX9 : String := "SilentTurn$Topics"
def TX9 : u_T := fun k => match k with
  | 0 => ("SilentTurn$Topics", "names", "[J", true)
  | 1 => ("SilentTurn$Topics", "costs", "[I", true)
  | 2 => ("SilentTurn$Topics", "nexts", "[I", true)
  | _ => ("SilentTurn$Topics", "count", "I", false)
def tyX9 : Nat → FieldType := fun k => match k with
  | 0 => .array .long
  | 1 => .array .int
  | 2 => .array .int
  | _ => .int
abbrev wsX90 : List Cond := u_ws RX9 TX9 4
theorem nmX9 : ∀ a, a < 4 → ∀ b, b < 4 → a ≠ b → (TX9 a).2.1 ≠ (TX9 b).2.1 := by decide +kernel
theorem tyX9_ok : ∀ k, k < 4 → parseFieldDescriptor (TX9 k).2.2.1 = some (tyX9 k) := by decide +kernel
def RX10 : String := "SilentTurn$Tray"
def TX10 : u_T := fun k => match k with
  | 0 => ("SilentTurn$Tray", "row", "[J", true)
  | 1 => ("SilentTurn$Tray", "there", "Z", false)
  | 2 => ("SilentTurn$Tray", "sort", "I", false)
  | _ => ("SilentTurn$Tray", "many", "I", false)
def tyX10 : Nat → FieldType := fun k => match k with
  | 0 => .array .long
  | 1 => .boolean
  | 2 => .int
  | _ => .int
abbrev wsX100 : List Cond := u_ws RX10 TX10 4
theorem nmX10 : ∀ a, a < 4 → ∀ b, b < 4 → a ≠ b → (TX10 a).2.1 ≠ (TX10 b).2.1 := by decide +kernel
theorem tyX10_ok : ∀ k, k < 4 → parseFieldDescriptor (TX10 k).2.2.1 = some (tyX10 k) := by decide +kernel
def RX11 : String := "SilentTurn"
def TX11 : u_T := fun k => match k with
  | 0 => ("SilentTurn", "trays", "[LSilentTurn$Tray;", true)
  | 1 => ("SilentTurn", "tape", "LSilentTurn$Tape;", true)
  | 2 => ("SilentTurn", "houseReader", "LSilentTurn$HouseReader;", true)
  | 3 => ("SilentTurn", "daysReader", "LSilentTurn$DaysReader;", true)
  | 4 => ("SilentTurn", "markedHouses", "[LSilentTurn$House;", true)
  | 5 => ("SilentTurn", "markedDays", "[LSilentTurn$Days;", true)
  | 6 => ("SilentTurn", "ahead", "LSilentTurn$Ahead;", true)
  | 7 => ("SilentTurn", "rows", "LSilentTurn$Talk;", true)
  | 8 => ("SilentTurn", "latest", "LSilentTurn$Life;", true)
  | 9 => ("SilentTurn", "trial", "LSilentTurn$Life;", true)
  | 10 => ("SilentTurn", "weights", "[J", true)
  | 11 => ("SilentTurn", "now", "LSilentTurn$House;", false)
  | 12 => ("SilentTurn", "spareHouse", "LSilentTurn$House;", false)
  | 13 => ("SilentTurn", "plan", "LSilentTurn$Days;", false)
  | 14 => ("SilentTurn", "spareDays", "LSilentTurn$Days;", false)
  | 15 => ("SilentTurn", "marks", "I", false)
  | 16 => ("SilentTurn", "code", "I", false)
  | 17 => ("SilentTurn", "above", "J", false)
  | _ => ("SilentTurn", "below", "J", false)
def tyX11 : Nat → FieldType := fun k => match k with
  | 0 => .array (.object "SilentTurn$Tray")
  | 1 => .object "SilentTurn$Tape"
  | 2 => .object "SilentTurn$HouseReader"
  | 3 => .object "SilentTurn$DaysReader"
  | 4 => .array (.object "SilentTurn$House")
  | 5 => .array (.object "SilentTurn$Days")
  | 6 => .object "SilentTurn$Ahead"
  | 7 => .object "SilentTurn$Talk"
  | 8 => .object "SilentTurn$Life"
  | 9 => .object "SilentTurn$Life"
  | 10 => .array .long
  | 11 => .object "SilentTurn$House"
  | 12 => .object "SilentTurn$House"
  | 13 => .object "SilentTurn$Days"
  | 14 => .object "SilentTurn$Days"
  | 15 => .int
  | 16 => .int
  | 17 => .long
  | _ => .long
abbrev wsX110 : List Cond := u_ws RX11 TX11 19
theorem nmX11 : ∀ a, a < 19 → ∀ b, b < 19 → a ≠ b → (TX11 a).2.1 ≠ (TX11 b).2.1 := by decide +kernel
theorem tyX11_ok : ∀ k, k < 19 → parseFieldDescriptor (TX11 k).2.2.1 = some (tyX11 k) := by decide +kernel
def RX12 : String := "SilentTurnModel"
def TX12 : u_T := fun k => match k with
  | 0 => ("SilentTurnModel", "at", "[I", true)
  | 1 => ("SilentTurnModel", "names", "[J", true)
  | 2 => ("SilentTurnModel", "status", "I", false)
  | 3 => ("SilentTurnModel", "top", "J", false)
  | 4 => ("SilentTurnModel", "bottom", "J", false)
  | 5 => ("SilentTurnModel", "sort", "[I", true)
  | 6 => ("SilentTurnModel", "trayMany", "[I", true)
  | 7 => ("SilentTurnModel", "trays", "[J", true)
  | 8 => ("SilentTurnModel", "tape", "[B", true)
  | 9 => ("SilentTurnModel", "text", "[B", true)
  | 10 => ("SilentTurnModel", "taped", "I", false)
  | 11 => ("SilentTurnModel", "size", "I", false)
  | 12 => ("SilentTurnModel", "token", "I", false)
  | 13 => ("SilentTurnModel", "from", "I", false)
  | 14 => ("SilentTurnModel", "end", "I", false)
  | 15 => ("SilentTurnModel", "value", "I", false)
  | 16 => ("SilentTurnModel", "faultKind", "I", false)
  | 17 => ("SilentTurnModel", "faultPlace", "I", false)
  | 18 => ("SilentTurnModel", "faults", "I", false)
  | 19 => ("SilentTurnModel", "seen", "I", false)
  | 20 => ("SilentTurnModel", "toldParts", "I", false)
  | 21 => ("SilentTurnModel", "opened", "[I", true)
  | 22 => ("SilentTurnModel", "depth", "I", false)
  | 23 => ("SilentTurnModel", "counted", "I", false)
  | 24 => ("SilentTurnModel", "speakerNow", "I", false)
  | 25 => ("SilentTurnModel", "topicNow", "I", false)
  | 26 => ("SilentTurnModel", "doesHelp", "Z", false)
  | 27 => ("SilentTurnModel", "triedSay", "[I", true)
  | 28 => ("SilentTurnModel", "bestSay", "[I", true)
  | 29 => ("SilentTurnModel", "bestBreath", "I", false)
  | 30 => ("SilentTurnModel", "longestBy", "[I", true)
  | 31 => ("SilentTurnModel", "winsBy", "[Z", true)
  | 32 => ("SilentTurnModel", "farOf", "[I", true)
  | 33 => ("SilentTurnModel", "ringFrom", "I", false)
  | 34 => ("SilentTurnModel", "ringLong", "I", false)
  | 35 => ("SilentTurnModel", "heardBy", "[I", true)
  | 36 => ("SilentTurnModel", "sureBy", "[I", true)
  | 37 => ("SilentTurnModel", "heardMany", "I", false)
  | 38 => ("SilentTurnModel", "couplesBy", "[I", true)
  | 39 => ("SilentTurnModel", "coughsBy", "[J", true)
  | 40 => ("SilentTurnModel", "drawn", "I", false)
  | 41 => ("SilentTurnModel", "ranSteps", "I", false)
  | 42 => ("SilentTurnModel", "loops", "[I", true)
  | 43 => ("SilentTurnModel", "ran", "[I", true)
  | 44 => ("SilentTurnModel", "told1", "[I", true)
  | 45 => ("SilentTurnModel", "isTold", "Z", false)
  | _ => ("SilentTurnModel", "marks", "I", false)
def tyX12 : Nat → FieldType := fun k => match k with
  | 0 => .array .int
  | 1 => .array .long
  | 2 => .int
  | 3 => .long
  | 4 => .long
  | 5 => .array .int
  | 6 => .array .int
  | 7 => .array .long
  | 8 => .array .byte
  | 9 => .array .byte
  | 10 => .int
  | 11 => .int
  | 12 => .int
  | 13 => .int
  | 14 => .int
  | 15 => .int
  | 16 => .int
  | 17 => .int
  | 18 => .int
  | 19 => .int
  | 20 => .int
  | 21 => .array .int
  | 22 => .int
  | 23 => .int
  | 24 => .int
  | 25 => .int
  | 26 => .boolean
  | 27 => .array .int
  | 28 => .array .int
  | 29 => .int
  | 30 => .array .int
  | 31 => .array .boolean
  | 32 => .array .int
  | 33 => .int
  | 34 => .int
  | 35 => .array .int
  | 36 => .array .int
  | 37 => .int
  | 38 => .array .int
  | 39 => .array .long
  | 40 => .int
  | 41 => .int
  | 42 => .array .int
  | 43 => .array .int
  | 44 => .array .int
  | 45 => .boolean
  | _ => .int
abbrev wsX120 : List Cond := u_ws RX12 TX12 47
theorem nmX12 : ∀ a, a < 47 → ∀ b, b < 47 → a ≠ b → (TX12 a).2.1 ≠ (TX12 b).2.1 := by decide +kernel
theorem tyX12_ok : ∀ k, k < 47 → parseFieldDescriptor (TX12 k).2.2.1 = some (tyX12 k) := by decide +kernel
abbrev clA : List vw_C := [(RX0, TX0, 8), (RX1, TX1, 9), (RX2, TX2, 5), (RX3, TX3, 12), (RX4, TX4, 4), (RX5, TX5, 11), (RX6, TX6, 9), (RX7, TX7, 3), (RX8, TX8, 12), (RX9, TX9, 4), (RX10, TX10, 4), (RX11, TX11, 19), (RX12, TX12, 47)]
/-- of a tag: 0 an object of that class, 1 an int[], 2 a long[], 3 a byte[], 4 a boolean[], 5 an array of references: its class, or its length -/
def sh (t : Nat) : Nat × Nat := (bif Nat.ble t 33 then (bif Nat.ble t 16 then (bif Nat.ble t 8 then (bif Nat.ble t 4 then (bif Nat.ble t 2 then (bif Nat.ble t 1 then (bif Nat.ble t 0 then (9, 0) else (0, 11)) else (5, 4)) else (bif Nat.ble t 3 then (0, 8) else (1, 900))) else (bif Nat.ble t 6 then (bif Nat.ble t 5 then (2, 23) else (0, 4)) else (bif Nat.ble t 7 then (0, 2) else (1, 3)))) else (bif Nat.ble t 12 then (bif Nat.ble t 10 then (bif Nat.ble t 9 then (5, 3) else (5, 3)) else (bif Nat.ble t 11 then (0, 0) else (5, 4))) else (bif Nat.ble t 14 then (bif Nat.ble t 13 then (1, 3) else (1, 4)) else (bif Nat.ble t 15 then (1, 3) else (0, 7))))) else (bif Nat.ble t 25 then (bif Nat.ble t 21 then (bif Nat.ble t 19 then (bif Nat.ble t 18 then (bif Nat.ble t 17 then (1, 6) else (1, 6)) else (0, 5)) else (bif Nat.ble t 20 then (1, 60) else (2, 8))) else (bif Nat.ble t 23 then (bif Nat.ble t 22 then (0, 3) else (0, 9)) else (bif Nat.ble t 24 then (2, 6) else (1, 6)))) else (bif Nat.ble t 29 then (bif Nat.ble t 27 then (bif Nat.ble t 26 then (1, 6) else (0, 6)) else (bif Nat.ble t 28 then (2, 7) else (1, 7))) else (bif Nat.ble t 31 then (bif Nat.ble t 30 then (1, 7) else (1, 7)) else (bif Nat.ble t 32 then (1, 7) else (1, 7)))))) else (bif Nat.ble t 50 then (bif Nat.ble t 42 then (bif Nat.ble t 38 then (bif Nat.ble t 36 then (bif Nat.ble t 35 then (bif Nat.ble t 34 then (1, 7) else (1, 12)) else (1, 12)) else (bif Nat.ble t 37 then (0, 1) else (1, 60))) else (bif Nat.ble t 40 then (bif Nat.ble t 39 then (1, 60) else (1, 60)) else (bif Nat.ble t 41 then (1, 60) else (1, 60)))) else (bif Nat.ble t 46 then (bif Nat.ble t 44 then (bif Nat.ble t 43 then (1, 60) else (0, 10)) else (bif Nat.ble t 45 then (2, 60) else (0, 12))) else (bif Nat.ble t 48 then (bif Nat.ble t 47 then (1, 3372) else (2, 78)) else (bif Nat.ble t 49 then (1, 4) else (1, 4))))) else (bif Nat.ble t 59 then (bif Nat.ble t 55 then (bif Nat.ble t 53 then (bif Nat.ble t 52 then (bif Nat.ble t 51 then (2, 240) else (3, 900)) else (3, 900)) else (bif Nat.ble t 54 then (1, 3) else (1, 4))) else (bif Nat.ble t 57 then (bif Nat.ble t 56 then (1, 4) else (1, 384)) else (bif Nat.ble t 58 then (4, 384) else (1, 6)))) else (bif Nat.ble t 63 then (bif Nat.ble t 61 then (bif Nat.ble t 60 then (1, 5) else (1, 5)) else (bif Nat.ble t 62 then (1, 128) else (2, 8))) else (bif Nat.ble t 65 then (bif Nat.ble t 64 then (1, 80) else (1, 5)) else (bif Nat.ble t 66 then (1, 5) else (9, 0)))))))
/-- how many there are of a tag -/
def cn (t : Nat) : Nat := (bif Nat.ble t 33 then (bif Nat.ble t 16 then (bif Nat.ble t 8 then (bif Nat.ble t 4 then (bif Nat.ble t 2 then (bif Nat.ble t 1 then (bif Nat.ble t 0 then 0 else 1) else 1) else (bif Nat.ble t 3 then 1 else 1)) else (bif Nat.ble t 6 then (bif Nat.ble t 5 then 1 else 1) else (bif Nat.ble t 7 then 1 else 1))) else (bif Nat.ble t 12 then (bif Nat.ble t 10 then (bif Nat.ble t 9 then 1 else 1) else (bif Nat.ble t 11 then 1 else 1)) else (bif Nat.ble t 14 then (bif Nat.ble t 13 then 1 else 1) else (bif Nat.ble t 15 then 1 else 1)))) else (bif Nat.ble t 25 then (bif Nat.ble t 21 then (bif Nat.ble t 19 then (bif Nat.ble t 18 then (bif Nat.ble t 17 then 1 else 1) else 2) else (bif Nat.ble t 20 then 2 else 1)) else (bif Nat.ble t 23 then (bif Nat.ble t 22 then 9 else 9) else (bif Nat.ble t 24 then 9 else 9))) else (bif Nat.ble t 29 then (bif Nat.ble t 27 then (bif Nat.ble t 26 then 9 else 9) else (bif Nat.ble t 28 then 9 else 9)) else (bif Nat.ble t 31 then (bif Nat.ble t 30 then 9 else 9) else (bif Nat.ble t 32 then 9 else 9))))) else (bif Nat.ble t 50 then (bif Nat.ble t 42 then (bif Nat.ble t 38 then (bif Nat.ble t 36 then (bif Nat.ble t 35 then (bif Nat.ble t 34 then 9 else 9) else 9) else (bif Nat.ble t 37 then 5 else 5)) else (bif Nat.ble t 40 then (bif Nat.ble t 39 then 5 else 5) else (bif Nat.ble t 41 then 5 else 5))) else (bif Nat.ble t 46 then (bif Nat.ble t 44 then (bif Nat.ble t 43 then 5 else 4) else (bif Nat.ble t 45 then 4 else 1)) else (bif Nat.ble t 48 then (bif Nat.ble t 47 then 1 else 1) else (bif Nat.ble t 49 then 1 else 1)))) else (bif Nat.ble t 59 then (bif Nat.ble t 55 then (bif Nat.ble t 53 then (bif Nat.ble t 52 then (bif Nat.ble t 51 then 1 else 1) else 1) else (bif Nat.ble t 54 then 1 else 1)) else (bif Nat.ble t 57 then (bif Nat.ble t 56 then 1 else 1) else (bif Nat.ble t 58 then 1 else 1))) else (bif Nat.ble t 63 then (bif Nat.ble t 61 then (bif Nat.ble t 60 then 1 else 1) else (bif Nat.ble t 62 then 1 else 1)) else (bif Nat.ble t 65 then (bif Nat.ble t 64 then 1 else 1) else (bif Nat.ble t 66 then 1 else 0))))))
/-- which cell an array of references holds in its place 0 -/
def elt (t : Nat) : Nat × Nat := (bif Nat.ble t 33 then (bif Nat.ble t 16 then (bif Nat.ble t 8 then (bif Nat.ble t 4 then (bif Nat.ble t 2 then (bif Nat.ble t 1 then (bif Nat.ble t 0 then (0, 0) else (0, 0)) else (44, 0)) else (bif Nat.ble t 3 then (0, 0) else (0, 0))) else (bif Nat.ble t 6 then (bif Nat.ble t 5 then (0, 0) else (0, 0)) else (bif Nat.ble t 7 then (0, 0) else (0, 0)))) else (bif Nat.ble t 12 then (bif Nat.ble t 10 then (bif Nat.ble t 9 then (22, 6) else (37, 2)) else (bif Nat.ble t 11 then (0, 0) else (22, 0))) else (bif Nat.ble t 14 then (bif Nat.ble t 13 then (0, 0) else (0, 0)) else (bif Nat.ble t 15 then (0, 0) else (0, 0))))) else (bif Nat.ble t 25 then (bif Nat.ble t 21 then (bif Nat.ble t 19 then (bif Nat.ble t 18 then (bif Nat.ble t 17 then (0, 0) else (0, 0)) else (0, 0)) else (bif Nat.ble t 20 then (0, 0) else (0, 0))) else (bif Nat.ble t 23 then (bif Nat.ble t 22 then (0, 0) else (0, 0)) else (bif Nat.ble t 24 then (0, 0) else (0, 0)))) else (bif Nat.ble t 29 then (bif Nat.ble t 27 then (bif Nat.ble t 26 then (0, 0) else (0, 0)) else (bif Nat.ble t 28 then (0, 0) else (0, 0))) else (bif Nat.ble t 31 then (bif Nat.ble t 30 then (0, 0) else (0, 0)) else (bif Nat.ble t 32 then (0, 0) else (0, 0)))))) else (bif Nat.ble t 50 then (bif Nat.ble t 42 then (bif Nat.ble t 38 then (bif Nat.ble t 36 then (bif Nat.ble t 35 then (bif Nat.ble t 34 then (0, 0) else (0, 0)) else (0, 0)) else (bif Nat.ble t 37 then (0, 0) else (0, 0))) else (bif Nat.ble t 40 then (bif Nat.ble t 39 then (0, 0) else (0, 0)) else (bif Nat.ble t 41 then (0, 0) else (0, 0)))) else (bif Nat.ble t 46 then (bif Nat.ble t 44 then (bif Nat.ble t 43 then (0, 0) else (0, 0)) else (bif Nat.ble t 45 then (0, 0) else (0, 0))) else (bif Nat.ble t 48 then (bif Nat.ble t 47 then (0, 0) else (0, 0)) else (bif Nat.ble t 49 then (0, 0) else (0, 0))))) else (bif Nat.ble t 59 then (bif Nat.ble t 55 then (bif Nat.ble t 53 then (bif Nat.ble t 52 then (bif Nat.ble t 51 then (0, 0) else (0, 0)) else (0, 0)) else (bif Nat.ble t 54 then (0, 0) else (0, 0))) else (bif Nat.ble t 57 then (bif Nat.ble t 56 then (0, 0) else (0, 0)) else (bif Nat.ble t 58 then (0, 0) else (0, 0)))) else (bif Nat.ble t 63 then (bif Nat.ble t 61 then (bif Nat.ble t 60 then (0, 0) else (0, 0)) else (bif Nat.ble t 62 then (0, 0) else (0, 0))) else (bif Nat.ble t 65 then (bif Nat.ble t 64 then (0, 0) else (0, 0)) else (bif Nat.ble t 66 then (0, 0) else (0, 0)))))))
def str0 : List Nat := [116, 117, 114, 110, 32, 111, 100, 100, 115, 32, 116, 111, 112, 105, 99, 32, 99, 111, 115, 116, 32, 109, 111, 110, 107, 32, 98, 114, 101, 97, 116, 104, 32, 114, 101, 115, 116, 32, 97, 115, 108, 101, 101, 112, 32, 102, 111, 108, 108, 111, 119, 115, 32, 114, 111, 115, 116, 101, 114, 32, 104, 101, 97, 114, 115, 32, 109, 105, 110, 117, 116, 101, 32, 99, 104, 97, 110, 103, 101, 32, 119, 97, 107, 101, 32, 115, 108, 101, 101, 112, 32, 97, 110, 121, 32, 119, 104, 101, 110, 32, 115, 105, 108, 101, 110, 116, 32, 108, 97, 115, 116, 32, 112, 97, 117, 115, 101, 100, 32, 108, 111, 111, 112, 32, 101, 110, 100, 32, 115, 116, 111, 112, 32]
def str1 : List Nat := [32, 116, 117, 114, 110, 32, 111, 100, 100, 115, 32, 116, 111, 112, 105, 99, 32, 109, 111, 110, 107, 32, 102, 111, 108, 108, 111, 119, 115, 32, 114, 111, 115, 116, 101, 114, 32, 104, 101, 97, 114, 115, 32, 99, 111, 115, 116, 32, 98, 114, 101, 97, 116, 104, 32, 114, 101, 115, 116, 32, 97, 115, 108, 101, 101, 112, 32, 109, 105, 110, 117, 116, 101, 32, 99, 104, 97, 110, 103, 101, 32, 119, 97, 107, 101, 32, 115, 108, 101, 101, 112, 32, 97, 110, 121, 32, 119, 104, 101, 110, 32, 108, 111, 111, 112, 32, 101, 110, 100, 32, 115, 116, 111, 112, 32, 115, 105, 108, 101, 110, 116, 32, 108, 97, 115, 116, 32, 112, 97, 117, 115, 101, 100, 32]
def slen (i : Nat) : Nat := bif Nat.beq i 0 then 133 else 134
def schr (i j : Nat) : Int32 := Int32.ofInt (((bif Nat.beq i 0 then str0 else str1).getD j 0 : Nat) : Int)
/-- the kinds of the fields of a class: 0 int, 1 long, 2 a cell for good (of that tag, the same instance), 3 a cell that changes (tag, how many), 4 a cell for good (tag, instance), 5 boolean -/
def fkl (c : Nat) : List (Nat × Nat × Nat) := (bif Nat.ble c 6 then (bif Nat.ble c 3 then (bif Nat.ble c 1 then (bif Nat.ble c 0 then [(2, 12, 0), (2, 13, 0), (2, 14, 0), (0, 0, 0), (0, 0, 0), (0, 0, 0), (2, 15, 0), (0, 0, 0)] else [(2, 38, 0), (2, 39, 0), (2, 40, 0), (2, 41, 0), (2, 42, 0), (2, 43, 0), (0, 0, 0), (0, 0, 0), (5, 0, 0)]) else (bif Nat.ble c 2 then [(2, 3, 0), (2, 8, 0), (0, 0, 0), (3, 37, 5), (3, 22, 9)] else [(2, 23, 0), (2, 27, 0), (2, 35, 0), (2, 36, 0), (0, 0, 0), (0, 0, 0), (0, 0, 0), (0, 0, 0), (0, 0, 0), (0, 0, 0), (0, 0, 0), (0, 0, 0)])) else (bif Nat.ble c 5 then (bif Nat.ble c 4 then [(2, 3, 0), (3, 22, 9), (5, 0, 0), (5, 0, 0)] else [(2, 20, 0), (3, 22, 9), (3, 37, 5), (0, 0, 0), (0, 0, 0), (0, 0, 0), (0, 0, 0), (0, 0, 0), (0, 0, 0), (5, 0, 0), (5, 0, 0)]) else [(2, 28, 0), (2, 29, 0), (2, 30, 0), (2, 31, 0), (2, 32, 0), (2, 33, 0), (2, 34, 0), (0, 0, 0), (0, 0, 0)])) else (bif Nat.ble c 9 then (bif Nat.ble c 8 then (bif Nat.ble c 7 then [(2, 17, 0), (2, 18, 0), (0, 0, 0)] else [(2, 4, 0), (2, 5, 0), (0, 0, 0), (0, 0, 0), (0, 0, 0), (0, 0, 0), (0, 0, 0), (0, 0, 0), (0, 0, 0), (1, 0, 0), (0, 0, 0), (0, 0, 0)]) else [(2, 24, 0), (2, 25, 0), (2, 26, 0), (0, 0, 0)]) else (bif Nat.ble c 11 then (bif Nat.ble c 10 then [(2, 45, 0), (5, 0, 0), (0, 0, 0), (0, 0, 0)] else [(2, 2, 0), (2, 3, 0), (2, 6, 0), (2, 7, 0), (2, 9, 0), (2, 10, 0), (2, 11, 0), (2, 16, 0), (2, 19, 0), (4, 19, 1), (2, 21, 0), (3, 22, 9), (3, 22, 9), (3, 37, 5), (3, 37, 5), (0, 0, 0), (0, 0, 0), (1, 0, 0), (1, 0, 0)]) else [(2, 47, 0), (2, 48, 0), (0, 0, 0), (1, 0, 0), (1, 0, 0), (2, 49, 0), (2, 50, 0), (2, 51, 0), (2, 52, 0), (2, 53, 0), (0, 0, 0), (0, 0, 0), (0, 0, 0), (0, 0, 0), (0, 0, 0), (0, 0, 0), (0, 0, 0), (0, 0, 0), (0, 0, 0), (0, 0, 0), (0, 0, 0), (2, 54, 0), (0, 0, 0), (0, 0, 0), (0, 0, 0), (0, 0, 0), (5, 0, 0), (2, 55, 0), (2, 56, 0), (0, 0, 0), (2, 57, 0), (2, 58, 0), (2, 59, 0), (0, 0, 0), (0, 0, 0), (2, 60, 0), (2, 61, 0), (0, 0, 0), (2, 62, 0), (2, 63, 0), (0, 0, 0), (0, 0, 0), (2, 64, 0), (2, 65, 0), (2, 66, 0), (5, 0, 0), (0, 0, 0)])))
def RN (c : Nat) : String := (bif Nat.ble c 7 then (bif Nat.ble c 3 then (bif Nat.ble c 1 then (bif Nat.ble c 0 then RX0 else RX1) else (bif Nat.ble c 2 then RX2 else RX3)) else (bif Nat.ble c 5 then (bif Nat.ble c 4 then RX4 else RX5) else (bif Nat.ble c 6 then RX6 else RX7))) else (bif Nat.ble c 11 then (bif Nat.ble c 9 then (bif Nat.ble c 8 then RX8 else RX9) else (bif Nat.ble c 10 then RX10 else RX11)) else (bif Nat.ble c 13 then (bif Nat.ble c 12 then RX12 else "java/lang/Integer") else (bif Nat.ble c 14 then "java/lang/Math" else "java/util/Arrays"))))
def TT (c : Nat) : u_T := (bif Nat.ble c 6 then (bif Nat.ble c 3 then (bif Nat.ble c 1 then (bif Nat.ble c 0 then TX0 else TX1) else (bif Nat.ble c 2 then TX2 else TX3)) else (bif Nat.ble c 5 then (bif Nat.ble c 4 then TX4 else TX5) else TX6)) else (bif Nat.ble c 9 then (bif Nat.ble c 8 then (bif Nat.ble c 7 then TX7 else TX8) else TX9) else (bif Nat.ble c 11 then (bif Nat.ble c 10 then TX10 else TX11) else TX12)))
def tyTT (c : Nat) : Nat → FieldType := (bif Nat.ble c 6 then (bif Nat.ble c 3 then (bif Nat.ble c 1 then (bif Nat.ble c 0 then tyX0 else tyX1) else (bif Nat.ble c 2 then tyX2 else tyX3)) else (bif Nat.ble c 5 then (bif Nat.ble c 4 then tyX4 else tyX5) else tyX6)) else (bif Nat.ble c 9 then (bif Nat.ble c 8 then (bif Nat.ble c 7 then tyX7 else tyX8) else tyX9) else (bif Nat.ble c 11 then (bif Nat.ble c 10 then tyX10 else tyX11) else tyX12)))
def rkt (t : Nat) : Nat := (bif Nat.ble t 33 then (bif Nat.ble t 16 then (bif Nat.ble t 8 then (bif Nat.ble t 4 then (bif Nat.ble t 2 then (bif Nat.ble t 1 then (bif Nat.ble t 0 then 1 else 1) else 5) else (bif Nat.ble t 3 then 1 else 1)) else (bif Nat.ble t 6 then (bif Nat.ble t 5 then 1 else 1) else (bif Nat.ble t 7 then 1 else 1))) else (bif Nat.ble t 12 then (bif Nat.ble t 10 then (bif Nat.ble t 9 then 6 else 7) else (bif Nat.ble t 11 then 1 else 6)) else (bif Nat.ble t 14 then (bif Nat.ble t 13 then 1 else 1) else (bif Nat.ble t 15 then 1 else 1)))) else (bif Nat.ble t 25 then (bif Nat.ble t 21 then (bif Nat.ble t 19 then (bif Nat.ble t 18 then (bif Nat.ble t 17 then 1 else 1) else 1) else (bif Nat.ble t 20 then 1 else 1)) else (bif Nat.ble t 23 then (bif Nat.ble t 22 then 1 else 1) else (bif Nat.ble t 24 then 1 else 1))) else (bif Nat.ble t 29 then (bif Nat.ble t 27 then (bif Nat.ble t 26 then 1 else 1) else (bif Nat.ble t 28 then 1 else 1)) else (bif Nat.ble t 31 then (bif Nat.ble t 30 then 1 else 1) else (bif Nat.ble t 32 then 1 else 1))))) else (bif Nat.ble t 50 then (bif Nat.ble t 42 then (bif Nat.ble t 38 then (bif Nat.ble t 36 then (bif Nat.ble t 35 then (bif Nat.ble t 34 then 1 else 1) else 1) else (bif Nat.ble t 37 then 1 else 1)) else (bif Nat.ble t 40 then (bif Nat.ble t 39 then 1 else 1) else (bif Nat.ble t 41 then 1 else 1))) else (bif Nat.ble t 46 then (bif Nat.ble t 44 then (bif Nat.ble t 43 then 1 else 1) else (bif Nat.ble t 45 then 1 else 1)) else (bif Nat.ble t 48 then (bif Nat.ble t 47 then 1 else 1) else (bif Nat.ble t 49 then 1 else 1)))) else (bif Nat.ble t 59 then (bif Nat.ble t 55 then (bif Nat.ble t 53 then (bif Nat.ble t 52 then (bif Nat.ble t 51 then 1 else 1) else 1) else (bif Nat.ble t 54 then 1 else 1)) else (bif Nat.ble t 57 then (bif Nat.ble t 56 then 1 else 1) else (bif Nat.ble t 58 then 1 else 1))) else (bif Nat.ble t 63 then (bif Nat.ble t 61 then (bif Nat.ble t 60 then 1 else 1) else (bif Nat.ble t 62 then 1 else 1)) else (bif Nat.ble t 65 then (bif Nat.ble t 64 then 1 else 1) else (bif Nat.ble t 66 then 1 else 1))))))
def ps (t : Nat) : Nat := (bif Nat.ble t 33 then (bif Nat.ble t 16 then (bif Nat.ble t 8 then (bif Nat.ble t 4 then (bif Nat.ble t 2 then (bif Nat.ble t 1 then (bif Nat.ble t 0 then 0 else 0) else 1) else (bif Nat.ble t 3 then 2 else 3)) else (bif Nat.ble t 6 then (bif Nat.ble t 5 then 4 else 5) else (bif Nat.ble t 7 then 6 else 7))) else (bif Nat.ble t 12 then (bif Nat.ble t 10 then (bif Nat.ble t 9 then 8 else 9) else (bif Nat.ble t 11 then 10 else 11)) else (bif Nat.ble t 14 then (bif Nat.ble t 13 then 12 else 13) else (bif Nat.ble t 15 then 14 else 15)))) else (bif Nat.ble t 25 then (bif Nat.ble t 21 then (bif Nat.ble t 19 then (bif Nat.ble t 18 then (bif Nat.ble t 17 then 16 else 17) else 18) else (bif Nat.ble t 20 then 20 else 22)) else (bif Nat.ble t 23 then (bif Nat.ble t 22 then 23 else 32) else (bif Nat.ble t 24 then 41 else 50))) else (bif Nat.ble t 29 then (bif Nat.ble t 27 then (bif Nat.ble t 26 then 59 else 68) else (bif Nat.ble t 28 then 77 else 86)) else (bif Nat.ble t 31 then (bif Nat.ble t 30 then 95 else 104) else (bif Nat.ble t 32 then 113 else 122))))) else (bif Nat.ble t 50 then (bif Nat.ble t 42 then (bif Nat.ble t 38 then (bif Nat.ble t 36 then (bif Nat.ble t 35 then (bif Nat.ble t 34 then 131 else 140) else 149) else (bif Nat.ble t 37 then 158 else 163)) else (bif Nat.ble t 40 then (bif Nat.ble t 39 then 168 else 173) else (bif Nat.ble t 41 then 178 else 183))) else (bif Nat.ble t 46 then (bif Nat.ble t 44 then (bif Nat.ble t 43 then 188 else 193) else (bif Nat.ble t 45 then 197 else 201)) else (bif Nat.ble t 48 then (bif Nat.ble t 47 then 202 else 203) else (bif Nat.ble t 49 then 204 else 205)))) else (bif Nat.ble t 59 then (bif Nat.ble t 55 then (bif Nat.ble t 53 then (bif Nat.ble t 52 then (bif Nat.ble t 51 then 206 else 207) else 208) else (bif Nat.ble t 54 then 209 else 210)) else (bif Nat.ble t 57 then (bif Nat.ble t 56 then 211 else 212) else (bif Nat.ble t 58 then 213 else 214))) else (bif Nat.ble t 63 then (bif Nat.ble t 61 then (bif Nat.ble t 60 then 215 else 216) else (bif Nat.ble t 62 then 217 else 218)) else (bif Nat.ble t 65 then (bif Nat.ble t 64 then 219 else 220) else (bif Nat.ble t 66 then 221 else 222))))))
def VL : List (Nat × Nat) := [(1, 0), (2, 0), (3, 0), (4, 0), (5, 0), (6, 0), (7, 0), (8, 0), (9, 0), (10, 0), (11, 0), (12, 0), (13, 0), (14, 0), (15, 0), (16, 0), (17, 0), (18, 0), (19, 0), (19, 1), (20, 0), (20, 1), (21, 0), (22, 0), (22, 1), (22, 2), (22, 3), (22, 4), (22, 5), (22, 6), (22, 7), (22, 8), (23, 0), (23, 1), (23, 2), (23, 3), (23, 4), (23, 5), (23, 6), (23, 7), (23, 8), (24, 0), (24, 1), (24, 2), (24, 3), (24, 4), (24, 5), (24, 6), (24, 7), (24, 8), (25, 0), (25, 1), (25, 2), (25, 3), (25, 4), (25, 5), (25, 6), (25, 7), (25, 8), (26, 0), (26, 1), (26, 2), (26, 3), (26, 4), (26, 5), (26, 6), (26, 7), (26, 8), (27, 0), (27, 1), (27, 2), (27, 3), (27, 4), (27, 5), (27, 6), (27, 7), (27, 8), (28, 0), (28, 1), (28, 2), (28, 3), (28, 4), (28, 5), (28, 6), (28, 7), (28, 8), (29, 0), (29, 1), (29, 2), (29, 3), (29, 4), (29, 5), (29, 6), (29, 7), (29, 8), (30, 0), (30, 1), (30, 2), (30, 3), (30, 4), (30, 5), (30, 6), (30, 7), (30, 8), (31, 0), (31, 1), (31, 2), (31, 3), (31, 4), (31, 5), (31, 6), (31, 7), (31, 8), (32, 0), (32, 1), (32, 2), (32, 3), (32, 4), (32, 5), (32, 6), (32, 7), (32, 8), (33, 0), (33, 1), (33, 2), (33, 3), (33, 4), (33, 5), (33, 6), (33, 7), (33, 8), (34, 0), (34, 1), (34, 2), (34, 3), (34, 4), (34, 5), (34, 6), (34, 7), (34, 8), (35, 0), (35, 1), (35, 2), (35, 3), (35, 4), (35, 5), (35, 6), (35, 7), (35, 8), (36, 0), (36, 1), (36, 2), (36, 3), (36, 4), (36, 5), (36, 6), (36, 7), (36, 8), (37, 0), (37, 1), (37, 2), (37, 3), (37, 4), (38, 0), (38, 1), (38, 2), (38, 3), (38, 4), (39, 0), (39, 1), (39, 2), (39, 3), (39, 4), (40, 0), (40, 1), (40, 2), (40, 3), (40, 4), (41, 0), (41, 1), (41, 2), (41, 3), (41, 4), (42, 0), (42, 1), (42, 2), (42, 3), (42, 4), (43, 0), (43, 1), (43, 2), (43, 3), (43, 4), (44, 0), (44, 1), (44, 2), (44, 3), (45, 0), (45, 1), (45, 2), (45, 3), (46, 0), (47, 0), (48, 0), (49, 0), (50, 0), (51, 0), (52, 0), (53, 0), (54, 0), (55, 0), (56, 0), (57, 0), (58, 0), (59, 0), (60, 0), (61, 0), (62, 0), (63, 0), (64, 0), (65, 0), (66, 0)]
theorem clA_at : ∀ c, c < 13 → clA[c]? = some (RN c, TT c, (fkl c).length)
  | 0, _ => rfl
  | 1, _ => rfl
  | 2, _ => rfl
  | 3, _ => rfl
  | 4, _ => rfl
  | 5, _ => rfl
  | 6, _ => rfl
  | 7, _ => rfl
  | 8, _ => rfl
  | 9, _ => rfl
  | 10, _ => rfl
  | 11, _ => rfl
  | 12, _ => rfl
  | n + 13, h => absurd h (by omega)
theorem iX0 : ∀ w ∈ wsX00, w ∈ lw_tbl := by decide +kernel
theorem iX1 : ∀ w ∈ wsX10, w ∈ lw_tbl := by decide +kernel
theorem iX2 : ∀ w ∈ wsX20, w ∈ lw_tbl := by decide +kernel
theorem iX3 : ∀ w ∈ wsX30, w ∈ lw_tbl := by decide +kernel
theorem iX4 : ∀ w ∈ wsX40, w ∈ lw_tbl := by decide +kernel
theorem iX5 : ∀ w ∈ wsX50, w ∈ lw_tbl := by decide +kernel
theorem iX6 : ∀ w ∈ wsX60, w ∈ lw_tbl := by decide +kernel
theorem iX7 : ∀ w ∈ wsX70, w ∈ lw_tbl := by decide +kernel
theorem iX8 : ∀ w ∈ wsX80, w ∈ lw_tbl := by decide +kernel
theorem iX9 : ∀ w ∈ wsX90, w ∈ lw_tbl := by decide +kernel
theorem iX10 : ∀ w ∈ wsX100, w ∈ lw_tbl := by decide +kernel
theorem iX11 : ∀ w ∈ wsX110, w ∈ lw_tbl := by decide +kernel
theorem iX12 : ∀ w ∈ wsX120, w ∈ lw_tbl := by decide +kernel
theorem iTT : ∀ c, c < 13 → ∀ w ∈ u_ws (RN c) (TT c) (fkl c).length, w ∈ lw_tbl
  | 0, _ => iX0
  | 1, _ => iX1
  | 2, _ => iX2
  | 3, _ => iX3
  | 4, _ => iX4
  | 5, _ => iX5
  | 6, _ => iX6
  | 7, _ => iX7
  | 8, _ => iX8
  | 9, _ => iX9
  | 10, _ => iX10
  | 11, _ => iX11
  | 12, _ => iX12
  | n + 13, h => absurd h (by omega)
theorem nTT : ∀ c, c < 13 → ∀ a, a < (fkl c).length → ∀ b, b < (fkl c).length → a ≠ b → (TT c a).2.1 ≠ (TT c b).2.1
  | 0, _ => nmX0
  | 1, _ => nmX1
  | 2, _ => nmX2
  | 3, _ => nmX3
  | 4, _ => nmX4
  | 5, _ => nmX5
  | 6, _ => nmX6
  | 7, _ => nmX7
  | 8, _ => nmX8
  | 9, _ => nmX9
  | 10, _ => nmX10
  | 11, _ => nmX11
  | 12, _ => nmX12
  | n + 13, h => absurd h (by omega)
theorem yTT : ∀ c, c < 13 → ∀ k, k < (fkl c).length → parseFieldDescriptor (TT c k).2.2.1 = some (tyTT c k)
  | 0, _ => tyX0_ok
  | 1, _ => tyX1_ok
  | 2, _ => tyX2_ok
  | 3, _ => tyX3_ok
  | 4, _ => tyX4_ok
  | 5, _ => tyX5_ok
  | 6, _ => tyX6_ok
  | 7, _ => tyX7_ok
  | 8, _ => tyX8_ok
  | 9, _ => tyX9_ok
  | 10, _ => tyX10_ok
  | 11, _ => tyX11_ok
  | 12, _ => tyX12_ok
  | n + 13, h => absurd h (by omega)
theorem VL_at : ∀ t, t < 67 → ∀ i, i < cn t → VL[ps t + i]? = some (t, i) := by decide +kernel
theorem VL_inv : ∀ k, k < VL.length → (VL.getD k (0, 0)).1 < 67 ∧ (VL.getD k (0, 0)).2 < cn (VL.getD k (0, 0)).1 ∧ k = ps (VL.getD k (0, 0)).1 + (VL.getD k (0, 0)).2 := by decide +kernel
