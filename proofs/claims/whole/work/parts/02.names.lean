def RX0 : String := "ResidualJudge$BookJudge"
def TX0 : u_T := fun k => match k with
  | 0 => ("ResidualJudge$BookJudge", "owners", "[I", true)
  | 1 => ("ResidualJudge$BookJudge", "stands", "[I", true)
  | 2 => ("ResidualJudge$BookJudge", "depth", "I", false)
  | 3 => ("ResidualJudge$BookJudge", "bare", "I", false)
  | 4 => ("ResidualJudge$BookJudge", "flaw", "I", false)
  | 5 => ("ResidualJudge$BookJudge", "due", "I", false)
  | 6 => ("ResidualJudge$BookJudge", "ending", "Z", false)
  | 7 => ("ResidualJudge$BookJudge", "letters", "I", false)
  | 8 => ("ResidualJudge$BookJudge", "lettersAhead", "I", false)
  | _ => ("ResidualJudge$BookJudge", "deepest", "I", false)
def tyX0 : Nat → FieldType := fun k => match k with
  | 0 => .array .int
  | 1 => .array .int
  | 2 => .int
  | 3 => .int
  | 4 => .int
  | 5 => .int
  | 6 => .boolean
  | 7 => .int
  | 8 => .int
  | _ => .int
abbrev wsX00 : List Cond := u_ws RX0 TX0 10
theorem nmX0 : ∀ a, a < 10 → ∀ b, b < 10 → a ≠ b → (TX0 a).2.1 ≠ (TX0 b).2.1 := by decide +kernel
theorem tyX0_ok : ∀ k, k < 10 → parseFieldDescriptor (TX0 k).2.2.1 = some (tyX0 k) := by decide +kernel
def RX1 : String := "ResidualJudge$GrammarReader"
def TX1 : u_T := fun k => match k with
  | 0 => ("ResidualJudge$GrammarReader", "patterns", "[J", true)
  | 1 => ("ResidualJudge$GrammarReader", "waiting", "[I", true)
  | 2 => ("ResidualJudge$GrammarReader", "waits", "I", false)
  | 3 => ("ResidualJudge$GrammarReader", "open", "I", false)
  | 4 => ("ResidualJudge$GrammarReader", "nodes", "I", false)
  | 5 => ("ResidualJudge$GrammarReader", "placed", "I", false)
  | 6 => ("ResidualJudge$GrammarReader", "pattern", "J", false)
  | 7 => ("ResidualJudge$GrammarReader", "owner", "I", false)
  | 8 => ("ResidualJudge$GrammarReader", "phase", "I", false)
  | _ => ("ResidualJudge$GrammarReader", "orders", "I", false)
def tyX1 : Nat → FieldType := fun k => match k with
  | 0 => .array .long
  | 1 => .array .int
  | 2 => .int
  | 3 => .int
  | 4 => .int
  | 5 => .int
  | 6 => .long
  | 7 => .int
  | 8 => .int
  | _ => .int
abbrev wsX10 : List Cond := u_ws RX1 TX1 10
theorem nmX1 : ∀ a, a < 10 → ∀ b, b < 10 → a ≠ b → (TX1 a).2.1 ≠ (TX1 b).2.1 := by decide +kernel
theorem tyX1_ok : ∀ k, k < 10 → parseFieldDescriptor (TX1 k).2.2.1 = some (tyX1 k) := by decide +kernel
def RX2 : String := "ResidualJudge$Machine"
def TX2 : u_T := fun k => match k with
  | 0 => ("ResidualJudge$Machine", "plan", "LResidualJudge$Plan;", true)
  | 1 => ("ResidualJudge$Machine", "pattern", "J", false)
  | 2 => ("ResidualJudge$Machine", "words", "I", false)
  | 3 => ("ResidualJudge$Machine", "known", "I", false)
  | 4 => ("ResidualJudge$Machine", "sets", "[J", false)
  | 5 => ("ResidualJudge$Machine", "nexts", "[I", false)
  | 6 => ("ResidualJudge$Machine", "traits", "[I", false)
  | 7 => ("ResidualJudge$Machine", "olders", "[I", false)
  | 8 => ("ResidualJudge$Machine", "newests", "[I", true)
  | 9 => ("ResidualJudge$Machine", "found", "[J", true)
  | 10 => ("ResidualJudge$Machine", "foundTraits", "I", false)
  | 11 => ("ResidualJudge$Machine", "counts", "[I", true)
  | _ => ("ResidualJudge$Machine", "counted", "I", false)
def tyX2 : Nat → FieldType := fun k => match k with
  | 0 => .object "ResidualJudge$Plan"
  | 1 => .long
  | 2 => .int
  | 3 => .int
  | 4 => .array .long
  | 5 => .array .int
  | 6 => .array .int
  | 7 => .array .int
  | 8 => .array .int
  | 9 => .array .long
  | 10 => .int
  | 11 => .array .int
  | _ => .int
abbrev wsX20 : List Cond := u_ws RX2 TX2 13
theorem nmX2 : ∀ a, a < 13 → ∀ b, b < 13 → a ≠ b → (TX2 a).2.1 ≠ (TX2 b).2.1 := by decide +kernel
theorem tyX2_ok : ∀ k, k < 13 → parseFieldDescriptor (TX2 k).2.2.1 = some (tyX2 k) := by decide +kernel
def RX3 : String := "ResidualJudge$Machines"
def TX3 : u_T := fun k => match k with
  | _ => ("ResidualJudge$Machines", "all", "[LResidualJudge$Machine;", true)
def tyX3 : Nat → FieldType := fun k => match k with
  | _ => .array (.object "ResidualJudge$Machine")
abbrev wsX30 : List Cond := u_ws RX3 TX3 1
theorem nmX3 : ∀ a, a < 1 → ∀ b, b < 1 → a ≠ b → (TX3 a).2.1 ≠ (TX3 b).2.1 := by decide +kernel
theorem tyX3_ok : ∀ k, k < 1 → parseFieldDescriptor (TX3 k).2.2.1 = some (tyX3 k) := by decide +kernel
def RX4 : String := "ResidualJudge$Past"
def TX4 : u_T := fun k => match k with
  | 0 => ("ResidualJudge$Past", "scenes", "[LResidualJudge$Scene;", true)
  | 1 => ("ResidualJudge$Past", "count", "I", false)
  | _ => ("ResidualJudge$Past", "newest", "I", false)
def tyX4 : Nat → FieldType := fun k => match k with
  | 0 => .array (.object "ResidualJudge$Scene")
  | 1 => .int
  | _ => .int
abbrev wsX40 : List Cond := u_ws RX4 TX4 3
theorem nmX4 : ∀ a, a < 3 → ∀ b, b < 3 → a ≠ b → (TX4 a).2.1 ≠ (TX4 b).2.1 := by decide +kernel
theorem tyX4_ok : ∀ k, k < 3 → parseFieldDescriptor (TX4 k).2.2.1 = some (tyX4 k) := by decide +kernel
def RX5 : String := "ResidualJudge$Plan"
def TX5 : u_T := fun k => match k with
  | 0 => ("ResidualJudge$Plan", "kinds", "[I", true)
  | 1 => ("ResidualJudge$Plan", "starts", "[I", true)
  | 2 => ("ResidualJudge$Plan", "lefts", "[I", true)
  | 3 => ("ResidualJudge$Plan", "spans", "[I", true)
  | 4 => ("ResidualJudge$Plan", "shortest", "[I", true)
  | 5 => ("ResidualJudge$Plan", "root", "I", false)
  | 6 => ("ResidualJudge$Plan", "places", "I", false)
  | 7 => ("ResidualJudge$Plan", "sorts", "I", false)
  | 8 => ("ResidualJudge$Plan", "traits", "[I", false)
  | 9 => ("ResidualJudge$Plan", "moves", "[I", false)
  | 10 => ("ResidualJudge$Plan", "moveStarts", "[I", false)
  | 11 => ("ResidualJudge$Plan", "moveEnds", "[I", false)
  | 12 => ("ResidualJudge$Plan", "moveCount", "I", false)
  | _ => ("ResidualJudge$Plan", "leaving", "I", false)
def tyX5 : Nat → FieldType := fun k => match k with
  | 0 => .array .int
  | 1 => .array .int
  | 2 => .array .int
  | 3 => .array .int
  | 4 => .array .int
  | 5 => .int
  | 6 => .int
  | 7 => .int
  | 8 => .array .int
  | 9 => .array .int
  | 10 => .array .int
  | 11 => .array .int
  | 12 => .int
  | _ => .int
abbrev wsX50 : List Cond := u_ws RX5 TX5 14
theorem nmX5 : ∀ a, a < 14 → ∀ b, b < 14 → a ≠ b → (TX5 a).2.1 ≠ (TX5 b).2.1 := by decide +kernel
theorem tyX5_ok : ∀ k, k < 14 → parseFieldDescriptor (TX5 k).2.2.1 = some (tyX5 k) := by decide +kernel
def RX6 : String := "ResidualJudge$RowCounter"
def TX6 : u_T := fun k => match k with
  | 0 => ("ResidualJudge$RowCounter", "ways", "[I", false)
  | _ => ("ResidualJudge$RowCounter", "waysOn", "[I", false)
def tyX6 : Nat → FieldType := fun k => match k with
  | 0 => .array .int
  | _ => .array .int
abbrev wsX60 : List Cond := u_ws RX6 TX6 2
theorem nmX6 : ∀ a, a < 2 → ∀ b, b < 2 → a ≠ b → (TX6 a).2.1 ≠ (TX6 b).2.1 := by decide +kernel
theorem tyX6_ok : ∀ k, k < 2 → parseFieldDescriptor (TX6 k).2.2.1 = some (tyX6 k) := by decide +kernel
def RX7 : String := "ResidualJudge$Scene"
def TX7 : u_T := fun k => match k with
  | 0 => ("ResidualJudge$Scene", "patterns", "[J", true)
  | 1 => ("ResidualJudge$Scene", "row", "[I", true)
  | 2 => ("ResidualJudge$Scene", "length", "I", false)
  | _ => ("ResidualJudge$Scene", "owner", "I", false)
def tyX7 : Nat → FieldType := fun k => match k with
  | 0 => .array .long
  | 1 => .array .int
  | 2 => .int
  | _ => .int
abbrev wsX70 : List Cond := u_ws RX7 TX7 4
theorem nmX7 : ∀ a, a < 4 → ∀ b, b < 4 → a ≠ b → (TX7 a).2.1 ≠ (TX7 b).2.1 := by decide +kernel
theorem tyX7_ok : ∀ k, k < 4 → parseFieldDescriptor (TX7 k).2.2.1 = some (tyX7 k) := by decide +kernel
def RX8 : String := "ResidualJudge$Text"
def TX8 : u_T := fun k => match k with
  | 0 => ("ResidualJudge$Text", "bytes", "[B", true)
  | _ => ("ResidualJudge$Text", "length", "I", false)
def tyX8 : Nat → FieldType := fun k => match k with
  | 0 => .array .byte
  | _ => .int
abbrev wsX80 : List Cond := u_ws RX8 TX8 2
theorem nmX8 : ∀ a, a < 2 → ∀ b, b < 2 → a ≠ b → (TX8 a).2.1 ≠ (TX8 b).2.1 := by decide +kernel
theorem tyX8_ok : ∀ k, k < 2 → parseFieldDescriptor (TX8 k).2.2.1 = some (tyX8 k) := by decide +kernel
def RX9 : String := "ResidualJudge"
def TX9 : u_T := fun k => match k with
  | 0 => ("ResidualJudge", "text", "LResidualJudge$Text;", true)
  | 1 => ("ResidualJudge", "scene", "LResidualJudge$Scene;", true)
  | 2 => ("ResidualJudge", "past", "LResidualJudge$Past;", true)
  | 3 => ("ResidualJudge", "reader", "LResidualJudge$GrammarReader;", true)
  | 4 => ("ResidualJudge", "machines", "LResidualJudge$Machines;", true)
  | 5 => ("ResidualJudge", "counter", "LResidualJudge$RowCounter;", true)
  | 6 => ("ResidualJudge", "book", "LResidualJudge$BookJudge;", true)
  | 7 => ("ResidualJudge", "refusedBad", "I", false)
  | 8 => ("ResidualJudge", "refusedNo", "I", false)
  | _ => ("ResidualJudge", "refusedFull", "I", false)
def tyX9 : Nat → FieldType := fun k => match k with
  | 0 => .object "ResidualJudge$Text"
  | 1 => .object "ResidualJudge$Scene"
  | 2 => .object "ResidualJudge$Past"
  | 3 => .object "ResidualJudge$GrammarReader"
  | 4 => .object "ResidualJudge$Machines"
  | 5 => .object "ResidualJudge$RowCounter"
  | 6 => .object "ResidualJudge$BookJudge"
  | 7 => .int
  | 8 => .int
  | _ => .int
abbrev wsX90 : List Cond := u_ws RX9 TX9 10
theorem nmX9 : ∀ a, a < 10 → ∀ b, b < 10 → a ≠ b → (TX9 a).2.1 ≠ (TX9 b).2.1 := by decide +kernel
theorem tyX9_ok : ∀ k, k < 10 → parseFieldDescriptor (TX9 k).2.2.1 = some (tyX9 k) := by decide +kernel
def RX10 : String := "ResidualJudgeModel"
def TX10 : u_T := fun k => match k with
  | 0 => ("ResidualJudgeModel", "all", "[I", true)
  | 1 => ("ResidualJudgeModel", "past", "[I", true)
  | 2 => ("ResidualJudgeModel", "states", "I", false)
  | 3 => ("ResidualJudgeModel", "refused", "[I", true)
  | 4 => ("ResidualJudgeModel", "many", "I", false)
  | 5 => ("ResidualJudgeModel", "kind", "[I", true)
  | 6 => ("ResidualJudgeModel", "left", "[I", true)
  | 7 => ("ResidualJudgeModel", "right", "[I", true)
  | 8 => ("ResidualJudgeModel", "parent", "[I", true)
  | 9 => ("ResidualJudgeModel", "under", "[I", true)
  | 10 => ("ResidualJudgeModel", "own", "[I", true)
  | 11 => ("ResidualJudgeModel", "empty", "[I", true)
  | 12 => ("ResidualJudgeModel", "ended", "[I", true)
  | 13 => ("ResidualJudgeModel", "sets", "[I", true)
  | 14 => ("ResidualJudgeModel", "size", "[I", true)
  | 15 => ("ResidualJudgeModel", "text", "[I", true)
  | 16 => ("ResidualJudgeModel", "textLong", "I", false)
  | 17 => ("ResidualJudgeModel", "spot", "I", false)
  | 18 => ("ResidualJudgeModel", "made", "[I", true)
  | 19 => ("ResidualJudgeModel", "operands", "[I", true)
  | 20 => ("ResidualJudgeModel", "operandMany", "I", false)
  | 21 => ("ResidualJudgeModel", "waiting", "[I", true)
  | 22 => ("ResidualJudgeModel", "waitingMany", "I", false)
  | 23 => ("ResidualJudgeModel", "toldNodes", "I", false)
  | 24 => ("ResidualJudgeModel", "open", "I", false)
  | 25 => ("ResidualJudgeModel", "shortest", "[I", true)
  | 26 => ("ResidualJudgeModel", "tried", "[I", true)
  | 27 => ("ResidualJudgeModel", "bookLetters", "I", false)
  | 28 => ("ResidualJudgeModel", "bookDepth", "I", false)
  | 29 => ("ResidualJudgeModel", "whose", "[I", true)
  | 30 => ("ResidualJudgeModel", "flaw", "I", false)
  | 31 => ("ResidualJudgeModel", "flawDue", "I", false)
  | _ => ("ResidualJudgeModel", "flawEnd", "I", false)
def tyX10 : Nat → FieldType := fun k => match k with
  | 0 => .array .int
  | 1 => .array .int
  | 2 => .int
  | 3 => .array .int
  | 4 => .int
  | 5 => .array .int
  | 6 => .array .int
  | 7 => .array .int
  | 8 => .array .int
  | 9 => .array .int
  | 10 => .array .int
  | 11 => .array .int
  | 12 => .array .int
  | 13 => .array .int
  | 14 => .array .int
  | 15 => .array .int
  | 16 => .int
  | 17 => .int
  | 18 => .array .int
  | 19 => .array .int
  | 20 => .int
  | 21 => .array .int
  | 22 => .int
  | 23 => .int
  | 24 => .int
  | 25 => .array .int
  | 26 => .array .int
  | 27 => .int
  | 28 => .int
  | 29 => .array .int
  | 30 => .int
  | 31 => .int
  | _ => .int
abbrev wsX100 : List Cond := u_ws RX10 TX10 33
theorem nmX10 : ∀ a, a < 33 → ∀ b, b < 33 → a ≠ b → (TX10 a).2.1 ≠ (TX10 b).2.1 := by decide +kernel
theorem tyX10_ok : ∀ k, k < 33 → parseFieldDescriptor (TX10 k).2.2.1 = some (tyX10 k) := by decide +kernel
abbrev aCl : List vw_C := [(RX0, TX0, 10), (RX1, TX1, 10), (RX2, TX2, 13), (RX3, TX3, 1), (RX4, TX4, 3), (RX5, TX5, 14), (RX6, TX6, 2), (RX7, TX7, 4), (RX8, TX8, 2), (RX9, TX9, 10), (RX10, TX10, 33)]
/-- the methods by their numbers: name, bytes, locals, what it returns, the place of its code word -/
def mTab : List (MethodName × ByteArray × Nat × Option FieldType × Nat × Nat × Nat) := [
  (⟨"ResidualJudge", "<init>", "()V"⟩, prog_1_method_1_code, 1, none, 98, 0, 9),
  (⟨"ResidualJudge$Text", "<init>", "()V"⟩, prog_10_method_1_code, 1, none, 106, 0, 8),
  (⟨"ResidualJudge$Scene", "<init>", "()V"⟩, prog_9_method_1_code, 1, none, 123, 0, 7),
  (⟨"java/util/Arrays", "fill", "([JJ)V"⟩, prog_20_method_101_code, 5, none, 128, 2, 15),
  (⟨"ResidualJudge$Past", "<init>", "()V"⟩, prog_6_method_1_code, 2, none, 152, 0, 4),
  (⟨"ResidualJudge$GrammarReader", "<init>", "()V"⟩, prog_3_method_1_code, 1, none, 172, 0, 1),
  (⟨"ResidualJudge$Machines", "<init>", "()V"⟩, prog_5_method_1_code, 2, none, 210, 0, 3),
  (⟨"ResidualJudge$Machine", "<init>", "()V"⟩, prog_4_method_1_code, 1, none, 217, 0, 2),
  (⟨"ResidualJudge$Plan", "<init>", "()V"⟩, prog_7_method_1_code, 1, none, 223, 0, 5),
  (⟨"ResidualJudge$Machine", "load", "(J)V"⟩, prog_4_method_2_code, 3, none, 319, 1, 2),
  (⟨"ResidualJudge$Plan", "findNodes", "(J)V"⟩, prog_7_method_2_code, 5, none, 323, 1, 5),
  (⟨"ResidualJudge$Plan", "measure", "(I)V"⟩, prog_7_method_7_code, 5, none, 327, 1, 5),
  (⟨"java/lang/Math", "min", "(II)I"⟩, prog_17_method_69_code, 2, (some .int), 330, 2, 14),
  (⟨"ResidualJudge$Plan", "findPlaces", "()V"⟩, prog_7_method_3_code, 2, none, 334, 0, 5),
  (⟨"ResidualJudge$Plan", "allows", "(II)Z"⟩, prog_7_method_8_code, 6, (some .boolean), 338, 2, 5),
  (⟨"ResidualJudge$Plan", "findMoves", "()V"⟩, prog_7_method_4_code, 2, none, 342, 0, 5),
  (⟨"ResidualJudge$Plan", "leave", "(IIII)V"⟩, prog_7_method_9_code, 6, none, 346, 4, 5),
  (⟨"ResidualJudge$Plan", "keepMove", "(II)V"⟩, prog_7_method_13_code, 5, none, 350, 2, 5),
  (⟨"java/util/Arrays", "copyOf", "([II)[I"⟩, prog_20_method_123_code, 3, (some (.array .int)), 353, 2, 15),
  (⟨"ResidualJudge$Plan", "leaveTimes", "(IIII)V"⟩, prog_7_method_10_code, 6, none, 368, 4, 5),
  (⟨"ResidualJudge$Plan", "leaveMix", "(IIII)V"⟩, prog_7_method_11_code, 9, none, 372, 4, 5),
  (⟨"ResidualJudge$Plan", "leavePair", "(IIII)V"⟩, prog_7_method_12_code, 8, none, 376, 4, 5),
  (⟨"java/lang/Math", "max", "(II)I"⟩, prog_17_method_65_code, 2, (some .int), 380, 2, 14),
  (⟨"java/util/Arrays", "fill", "([II)V"⟩, prog_20_method_103_code, 4, none, 383, 2, 15),
  (⟨"ResidualJudge$Machine", "foundStand", "()I"⟩, prog_4_method_9_code, 4, (some .int), 388, 0, 2),
  (⟨"ResidualJudge$Machine", "chainOfFound", "()I"⟩, prog_4_method_13_code, 4, (some .int), 392, 0, 2),
  (⟨"ResidualJudge$Machine", "isFound", "(I)Z"⟩, prog_4_method_12_code, 3, (some .boolean), 397, 1, 2),
  (⟨"ResidualJudge$Machine", "newStand", "(I)I"⟩, prog_4_method_10_code, 4, (some .int), 402, 1, 2),
  (⟨"ResidualJudge$Machine", "makeRoom", "()V"⟩, prog_4_method_11_code, 1, none, 406, 0, 2),
  (⟨"java/util/Arrays", "copyOf", "([JI)[J"⟩, prog_20_method_124_code, 3, (some (.array .long)), 410, 2, 15),
  (⟨"ResidualJudge$RowCounter", "<init>", "()V"⟩, prog_8_method_1_code, 1, none, 424, 0, 6),
  (⟨"ResidualJudge$BookJudge", "<init>", "()V"⟩, prog_2_method_1_code, 1, none, 437, 0, 0),
  (⟨"ResidualJudge", "type", "(I)I"⟩, prog_1_method_2_code, 2, (some .int), 509, 1, 9),
  (⟨"ResidualJudge", "refuse", "(I)I"⟩, prog_1_method_16_code, 2, (some .int), 513, 1, 9),
  (⟨"ResidualJudge$Text", "add", "(I)V"⟩, prog_10_method_2_code, 2, none, 517, 1, 8),
  (⟨"ResidualJudge", "clear", "()I"⟩, prog_1_method_3_code, 2, (some .int), 521, 0, 9),
  (⟨"ResidualJudge", "reads", "()I"⟩, prog_1_method_4_code, 2, (some .int), 525, 0, 9),
  (⟨"ResidualJudge$GrammarReader", "readOrders", "(LResidualJudge$Text;[J)I"⟩, prog_3_method_2_code, 5, (some .int), 529, 2, 1),
  (⟨"ResidualJudge$Text", "at", "(I)I"⟩, prog_10_method_3_code, 2, (some .int), 534, 1, 8),
  (⟨"ResidualJudge$GrammarReader", "takes", "(I)Z"⟩, prog_3_method_3_code, 2, (some .boolean), 538, 1, 1),
  (⟨"ResidualJudge$GrammarReader", "takesOwner", "(I)Z"⟩, prog_3_method_4_code, 2, (some .boolean), 542, 1, 1),
  (⟨"ResidualJudge", "sortOf", "(I)I"⟩, prog_1_method_22_code, 1, (some .int), 545, 1, 9),
  (⟨"ResidualJudge$GrammarReader", "takesUnit", "(I)Z"⟩, prog_3_method_5_code, 3, (some .boolean), 549, 1, 1),
  (⟨"ResidualJudge$GrammarReader", "waitsFor", "(I)Z"⟩, prog_3_method_11_code, 2, (some .boolean), 553, 1, 1),
  (⟨"ResidualJudge$GrammarReader", "countsNode", "()Z"⟩, prog_3_method_7_code, 1, (some .boolean), 557, 0, 1),
  (⟨"ResidualJudge$GrammarReader", "places", "(I)Z"⟩, prog_3_method_13_code, 2, (some .boolean), 561, 1, 1),
  (⟨"ResidualJudge$GrammarReader", "takesBehindUnit", "(I)Z"⟩, prog_3_method_6_code, 2, (some .boolean), 565, 1, 1),
  (⟨"ResidualJudge$GrammarReader", "takesBetween", "(I)Z"⟩, prog_3_method_8_code, 2, (some .boolean), 569, 1, 1),
  (⟨"ResidualJudge$GrammarReader", "placeWaiting", "(I)V"⟩, prog_3_method_12_code, 2, none, 573, 1, 1),
  (⟨"ResidualJudge$GrammarReader", "takesClosing", "()Z"⟩, prog_3_method_9_code, 1, (some .boolean), 577, 0, 1),
  (⟨"ResidualJudge$GrammarReader", "takesEnd", "()Z"⟩, prog_3_method_10_code, 1, (some .boolean), 582, 0, 1),
  (⟨"ResidualJudge", "isOwner", "(I)Z"⟩, prog_1_method_21_code, 1, (some .boolean), 585, 1, 9),
  (⟨"ResidualJudge$Past", "keep", "(LResidualJudge$Scene;)V"⟩, prog_6_method_2_code, 2, none, 589, 1, 4),
  (⟨"ResidualJudge$Scene", "copyFrom", "(LResidualJudge$Scene;)V"⟩, prog_9_method_5_code, 2, none, 593, 1, 7),
  (⟨"ResidualJudge$Scene", "emptyRow", "(I)V"⟩, prog_9_method_2_code, 2, none, 600, 1, 7),
  (⟨"ResidualJudge$Machines", "follow", "([J)V"⟩, prog_5_method_2_code, 3, none, 604, 1, 3),
  (⟨"ResidualJudge", "clears", "(I)I"⟩, prog_1_method_5_code, 2, (some .int), 608, 1, 9),
  (⟨"ResidualJudge", "of", "(II)I"⟩, prog_1_method_6_code, 3, (some .int), 614, 2, 9),
  (⟨"ResidualJudge$Machines", "at", "(I)LResidualJudge$Machine;"⟩, prog_5_method_3_code, 2, (some (.object "ResidualJudge$Machine")), 618, 1, 3),
  (⟨"ResidualJudge", "ofPattern", "(LResidualJudge$Machine;I)I"⟩, prog_1_method_20_code, 2, (some .int), 622, 2, 9),
  (⟨"ResidualJudge$Machine", "isEnding", "(I)Z"⟩, prog_4_method_4_code, 2, (some .boolean), 626, 1, 2),
  (⟨"ResidualJudge$Machine", "traitsOf", "(I)I"⟩, prog_4_method_7_code, 2, (some .int), 630, 1, 2),
  (⟨"ResidualJudge$Machine", "due", "(I)I"⟩, prog_4_method_3_code, 2, (some .int), 634, 1, 2),
  (⟨"ResidualJudge$Plan", "shortestRow", "()I"⟩, prog_7_method_5_code, 1, (some .int), 638, 0, 5),
  (⟨"ResidualJudge", "rows", "(II)I"⟩, prog_1_method_7_code, 3, (some .int), 642, 2, 9),
  (⟨"ResidualJudge$RowCounter", "count", "(LResidualJudge$Machine;I)I"⟩, prog_8_method_2_code, 4, (some .int), 646, 2, 6),
  (⟨"ResidualJudge$RowCounter", "begin", "(LResidualJudge$Machine;)V"⟩, prog_8_method_3_code, 2, none, 650, 1, 6),
  (⟨"ResidualJudge$RowCounter", "lastSteps", "(LResidualJudge$Machine;)I"⟩, prog_8_method_4_code, 4, (some .int), 656, 1, 6),
  (⟨"ResidualJudge$Machine", "lastSteps", "(I)I"⟩, prog_4_method_5_code, 2, (some .int), 660, 1, 2),
  (⟨"java/lang/Integer", "bitCount", "(I)I"⟩, prog_15_method_49_code, 1, (some .int), 663, 1, 12),
  (⟨"ResidualJudge$RowCounter", "stepOn", "(LResidualJudge$Machine;)V"⟩, prog_8_method_5_code, 6, none, 670, 1, 6),
  (⟨"ResidualJudge$Machine", "step", "(II)I"⟩, prog_4_method_6_code, 4, (some .int), 675, 2, 2),
  (⟨"ResidualJudge$Machine", "findTargets", "(II)V"⟩, prog_4_method_8_code, 8, none, 680, 2, 2),
  (⟨"java/lang/Long", "bitCount", "(J)I"⟩, prog_16_method_50_code, 2, (some .int), 683, 1, 13),
  (⟨"ResidualJudge$Plan", "addTargets", "(II[J)I"⟩, prog_7_method_6_code, 7, (some .int), 690, 3, 5),
  (⟨"ResidualJudge", "judge", "(I)I"⟩, prog_1_method_8_code, 3, (some .int), 695, 1, 9),
  (⟨"ResidualJudge$BookJudge", "goThrough", "(LResidualJudge$Text;LResidualJudge$Machines;)I"⟩, prog_2_method_2_code, 6, (some .int), 699, 2, 0),
  (⟨"ResidualJudge$BookJudge", "begin", "()V"⟩, prog_2_method_4_code, 1, none, 703, 0, 0),
  (⟨"ResidualJudge$BookJudge", "takeLetter", "(LResidualJudge$Machines;II)V"⟩, prog_2_method_5_code, 6, none, 709, 3, 0),
  (⟨"ResidualJudge$BookJudge", "endBare", "(LResidualJudge$Machines;I)V"⟩, prog_2_method_8_code, 3, none, 713, 2, 0),
  (⟨"ResidualJudge$BookJudge", "endAt", "(ILResidualJudge$Machine;I)V"⟩, prog_2_method_10_code, 4, none, 718, 3, 0),
  (⟨"ResidualJudge$BookJudge", "tellFlaw", "(ILResidualJudge$Machine;I)V"⟩, prog_2_method_11_code, 4, none, 723, 3, 0),
  (⟨"ResidualJudge$BookJudge", "takeOpening", "()V"⟩, prog_2_method_6_code, 1, none, 730, 0, 0),
  (⟨"ResidualJudge$BookJudge", "takeClosing", "(LResidualJudge$Machines;I)V"⟩, prog_2_method_7_code, 3, none, 734, 2, 0),
  (⟨"ResidualJudge$BookJudge", "endRow", "(LResidualJudge$Machines;I)V"⟩, prog_2_method_9_code, 3, none, 738, 2, 0),
  (⟨"ResidualJudge", "ofBook", "(I)I"⟩, prog_1_method_18_code, 2, (some .int), 742, 1, 9),
  (⟨"ResidualJudge", "mark", "()I"⟩, prog_1_method_9_code, 2, (some .int), 746, 0, 9),
  (⟨"ResidualJudge$BookJudge", "share", "()F"⟩, prog_2_method_3_code, 1, (some .float), 750, 0, 0),
  (⟨"ResidualJudge", "bitsOf", "(F)I"⟩, prog_1_method_23_code, 3, (some .int), 753, 1, 9),
  (⟨"ResidualJudge", "begins", "(I)I"⟩, prog_1_method_10_code, 2, (some .int), 758, 1, 9),
  (⟨"ResidualJudge", "ofRow", "(I)I"⟩, prog_1_method_19_code, 4, (some .int), 762, 1, 9),
  (⟨"ResidualJudge$Scene", "standIn", "(LResidualJudge$Machine;)I"⟩, prog_9_method_4_code, 4, (some .int), 766, 1, 7),
  (⟨"ResidualJudge", "steps", "(I)I"⟩, prog_1_method_11_code, 2, (some .int), 771, 1, 9),
  (⟨"ResidualJudge$Scene", "addToRow", "(I)V"⟩, prog_9_method_3_code, 2, none, 775, 1, 7),
  (⟨"ResidualJudge", "now", "(I)I"⟩, prog_1_method_12_code, 2, (some .int), 779, 1, 9),
  (⟨"ResidualJudge", "back", "()I"⟩, prog_1_method_13_code, 1, (some .int), 783, 0, 9),
  (⟨"ResidualJudge$Past", "restore", "(LResidualJudge$Scene;)V"⟩, prog_6_method_3_code, 2, none, 787, 1, 4),
  (⟨"ResidualJudge", "told", "(I)I"⟩, prog_1_method_14_code, 2, (some .int), 791, 1, 9),
  (⟨"ResidualJudge", "tally", "(I)I"⟩, prog_1_method_17_code, 2, (some .int), 795, 1, 9),
  (⟨"ResidualJudge", "digest", "()J"⟩, prog_1_method_15_code, 6, (some .long), 799, 0, 9),
  (⟨"ResidualJudgeModel", "<init>", "()V"⟩, prog_12_method_1_code, 2, none, 806, 0, 10),
  (⟨"ResidualJudgeModel", "empties", "(I)V"⟩, prog_12_method_6_code, 2, none, 811, 1, 10),
  (⟨"ResidualJudgeModel", "forgets", "()V"⟩, prog_12_method_7_code, 1, none, 815, 0, 10),
  (⟨"ResidualJudgeModel", "type", "(I)I"⟩, prog_12_method_18_code, 2, (some .int), 919, 1, 10),
  (⟨"ResidualJudgeModel", "in", "(JJJ)Z"⟩, prog_12_method_3_code, 6, (some .boolean), 923, 3, 10),
  (⟨"ResidualJudgeModel", "refuses", "(I)I"⟩, prog_12_method_4_code, 2, (some .int), 927, 1, 10),
  (⟨"ResidualJudgeModel", "clear", "()I"⟩, prog_12_method_19_code, 2, (some .int), 931, 0, 10),
  (⟨"ResidualJudgeModel", "reads", "()I"⟩, prog_12_method_30_code, 4, (some .int), 935, 0, 10),
  (⟨"ResidualJudgeModel", "takesOrder", "(Z)Z"⟩, prog_12_method_29_code, 5, (some .boolean), 939, 1, 10),
  (⟨"ResidualJudgeModel", "here", "()I"⟩, prog_12_method_20_code, 1, (some .int), 943, 0, 10),
  (⟨"ResidualJudgeModel", "takesPattern", "()Z"⟩, prog_12_method_28_code, 4, (some .boolean), 949, 0, 10),
  (⟨"ResidualJudgeModel", "takesUnit", "(I)Z"⟩, prog_12_method_26_code, 2, (some .boolean), 953, 1, 10),
  (⟨"ResidualJudgeModel", "node", "(III)V"⟩, prog_12_method_21_code, 5, none, 957, 3, 10),
  (⟨"ResidualJudgeModel", "reduces", "(I)V"⟩, prog_12_method_23_code, 4, none, 961, 1, 10),
  (⟨"ResidualJudgeModel", "binds", "(I)I"⟩, prog_12_method_24_code, 1, (some .int), 964, 1, 10),
  (⟨"ResidualJudgeModel", "pops", "()I"⟩, prog_12_method_22_code, 1, (some .int), 968, 0, 10),
  (⟨"ResidualJudgeModel", "operator", "(I)I"⟩, prog_12_method_25_code, 1, (some .int), 971, 1, 10),
  (⟨"ResidualJudgeModel", "takesOperator", "(I)Z"⟩, prog_12_method_27_code, 3, (some .boolean), 975, 1, 10),
  (⟨"ResidualJudgeModel", "keep", "()V"⟩, prog_12_method_5_code, 2, none, 979, 0, 10),
  (⟨"ResidualJudgeModel", "clears", "(I)I"⟩, prog_12_method_32_code, 2, (some .int), 983, 1, 10),
  (⟨"ResidualJudgeModel", "isPattern", "(I)Z"⟩, prog_12_method_31_code, 1, (some .boolean), 986, 1, 10),
  (⟨"ResidualJudgeModel", "of", "(II)I"⟩, prog_12_method_35_code, 3, (some .int), 991, 2, 10),
  (⟨"ResidualJudgeModel", "ofPattern", "(II)I"⟩, prog_12_method_34_code, 5, (some .int), 996, 2, 10),
  (⟨"ResidualJudgeModel", "loads", "(I)V"⟩, prog_12_method_8_code, 6, none, 1000, 1, 10),
  (⟨"ResidualJudgeModel", "isEmptyBy", "(III)Z"⟩, prog_12_method_9_code, 4, (some .boolean), 1004, 3, 10),
  (⟨"ResidualJudgeModel", "leastLong", "()I"⟩, prog_12_method_33_code, 4, (some .int), 1008, 0, 10),
  (⟨"ResidualJudgeModel", "starts", "(I)V"⟩, prog_12_method_15_code, 2, none, 1012, 1, 10),
  (⟨"ResidualJudgeModel", "due", "(I)I"⟩, prog_12_method_16_code, 4, (some .int), 1016, 1, 10),
  (⟨"ResidualJudgeModel", "goes", "(III)Z"⟩, prog_12_method_14_code, 8, (some .boolean), 1020, 3, 10),
  (⟨"ResidualJudgeModel", "ends", "(I)Z"⟩, prog_12_method_10_code, 6, (some .boolean), 1024, 1, 10),
  (⟨"ResidualJudgeModel", "readsLetter", "(III)V"⟩, prog_12_method_13_code, 8, none, 1028, 3, 10),
  (⟨"ResidualJudgeModel", "isFirst", "(II)Z"⟩, prog_12_method_11_code, 6, (some .boolean), 1032, 2, 10),
  (⟨"ResidualJudgeModel", "adds", "(II)V"⟩, prog_12_method_12_code, 4, none, 1036, 2, 10),
  (⟨"ResidualJudgeModel", "rows", "(II)I"⟩, prog_12_method_37_code, 3, (some .int), 1040, 2, 10),
  (⟨"ResidualJudgeModel", "rowsOf", "(II)I"⟩, prog_12_method_36_code, 5, (some .int), 1045, 2, 10),
  (⟨"ResidualJudgeModel", "mayEnd", "(I)Z"⟩, prog_12_method_17_code, 4, (some .boolean), 1049, 1, 10),
  (⟨"ResidualJudgeModel", "judge", "(I)I"⟩, prog_12_method_44_code, 3, (some .int), 1053, 1, 10),
  (⟨"ResidualJudgeModel", "bookFault", "()I"⟩, prog_12_method_38_code, 7, (some .int), 1058, 0, 10),
  (⟨"ResidualJudgeModel", "judges", "()V"⟩, prog_12_method_42_code, 3, none, 1062, 0, 10),
  (⟨"ResidualJudgeModel", "isEndFlawed", "(II)Z"⟩, prog_12_method_41_code, 3, (some .boolean), 1066, 2, 10),
  (⟨"ResidualJudgeModel", "isFlaw", "(II)Z"⟩, prog_12_method_39_code, 3, (some .boolean), 1070, 2, 10),
  (⟨"ResidualJudgeModel", "isFlawed", "(II)Z"⟩, prog_12_method_40_code, 5, (some .boolean), 1074, 2, 10),
  (⟨"ResidualJudgeModel", "judged", "(I)I"⟩, prog_12_method_43_code, 2, (some .int), 1078, 1, 10),
  (⟨"ResidualJudgeModel", "mark", "()I"⟩, prog_12_method_45_code, 4, (some .int), 1082, 0, 10),
  (⟨"java/lang/Float", "floatToIntBits", "(F)I"⟩, prog_14_method_24_code, 1, (some .int), 1085, 1, 11),
  (⟨"java/lang/Float", "isNaN", "(F)Z"⟩, prog_14_method_6_code, 1, (some .boolean), 1088, 1, 11),
  (⟨"ResidualJudgeModel", "begins", "(I)I"⟩, prog_12_method_48_code, 2, (some .int), 1096, 1, 10),
  (⟨"ResidualJudgeModel", "goesRow", "()V"⟩, prog_12_method_47_code, 4, none, 1100, 0, 10),
  (⟨"ResidualJudgeModel", "rowLong", "()I"⟩, prog_12_method_46_code, 1, (some .int), 1104, 0, 10),
  (⟨"ResidualJudgeModel", "steps", "(I)I"⟩, prog_12_method_49_code, 2, (some .int), 1108, 1, 10),
  (⟨"ResidualJudgeModel", "now", "(I)I"⟩, prog_12_method_51_code, 2, (some .int), 1113, 1, 10),
  (⟨"ResidualJudgeModel", "nowOf", "(I)I"⟩, prog_12_method_50_code, 2, (some .int), 1117, 1, 10),
  (⟨"ResidualJudgeModel", "back", "()I"⟩, prog_12_method_52_code, 2, (some .int), 1121, 0, 10),
  (⟨"ResidualJudgeModel", "told", "(I)I"⟩, prog_12_method_54_code, 2, (some .int), 1125, 1, 10),
  (⟨"ResidualJudgeModel", "toldOf", "(I)I"⟩, prog_12_method_53_code, 2, (some .int), 1130, 1, 10),
  (⟨"ResidualJudgeModel", "digest", "()J"⟩, prog_12_method_55_code, 5, (some .long), 1134, 0, 10)]
def mI (μ : Nat) : MethodName × ByteArray × Nat × Option FieldType × Nat × Nat × Nat := mTab.getD μ (⟨"", "", ""⟩, ⟨#[]⟩, 0, none, 0, 0, 99)
def mY (μ : Nat) : MethodName := (mI μ).1
def mB (μ : Nat) : ByteArray := (mI μ).2.1
def mL (μ : Nat) : Nat := (mI μ).2.2.1
def mR (μ : Nat) : Option FieldType := (mI μ).2.2.2.1
def mP (μ : Nat) : Nat := (mI μ).2.2.2.2.2.1
def mK (μ : Nat) : Nat := (mI μ).2.2.2.2.2.2
def mN : Nat := 156
def mW (μ : Nat) : List Cond := Cond.code (mY μ) (mB μ) (mL μ) (mR μ) :: lw_tbl.filter goodWord
def cNl : List String := ["ResidualJudge$BookJudge", "ResidualJudge$GrammarReader", "ResidualJudge$Machine", "ResidualJudge$Machines", "ResidualJudge$Past", "ResidualJudge$Plan", "ResidualJudge$RowCounter", "ResidualJudge$Scene", "ResidualJudge$Text", "ResidualJudge", "ResidualJudgeModel", "java/lang/Float", "java/lang/Integer", "java/lang/Long", "java/lang/Math", "java/util/Arrays"]
def cN (i : Nat) : String := cNl.getD i ""
def nmMin : MethodName := ⟨"java/lang/Math", "min", "(II)I"⟩
def nmMax : MethodName := ⟨"java/lang/Math", "max", "(II)I"⟩
def nmF2I : MethodName := ⟨"java/lang/Float", "floatToIntBits", "(F)I"⟩
def nmNaN : MethodName := ⟨"java/lang/Float", "isNaN", "(F)Z"⟩
theorem pfMin : plainFor nmMin = true := by
  unfold plainFor
  rw [show (NativeRow.find? Jvm.natives nmMin.cls nmMin.name nmMin.desc).isNone = true by decide +kernel, Bool.or_true]
theorem pfMax : plainFor nmMax = true := by
  unfold plainFor
  rw [show (NativeRow.find? Jvm.natives nmMax.cls nmMax.name nmMax.desc).isNone = true by decide +kernel, Bool.or_true]
theorem pfF2I : plainFor nmF2I = true := by
  unfold plainFor
  rw [show (NativeRow.find? Jvm.natives nmF2I.cls nmF2I.name nmF2I.desc).isNone = true by decide +kernel, Bool.or_true]
theorem pfNaN : plainFor nmNaN = true := by
  unfold plainFor
  rw [show (NativeRow.find? Jvm.natives nmNaN.cls nmNaN.name nmNaN.desc).isNone = true by decide +kernel, Bool.or_true]
def mOkB (q : MethodName × ByteArray × Nat × Option FieldType × Nat × Nat × Nat) : Bool := (plainName q.1.cls || q.1 == nmMin || q.1 == nmMax || q.1 == nmF2I || q.1 == nmNaN) && !(q.1.cls == "java/lang/invoke/MethodHandle") && !(q.1.cls == "java/lang/invoke/VarHandle") && lw_tbl.contains (Cond.initialized q.1.cls) && decide (q.2.2.1 ≤ 80) && ((parseMethodDescriptor q.1.desc).map (fun d => d.parameters.length) == some q.2.2.2.2.2.1) && decide (q.2.2.2.2.2.2 < 16) && (cN q.2.2.2.2.2.2 == q.1.cls)
theorem mOk : mTab.all mOkB = true := by decide +kernel
set_option maxRecDepth 100000 in
theorem mCode : mTab.map (fun q => lw_tbl[q.2.2.2.2.1]?) = mTab.map (fun q => some (Cond.code q.1 q.2.1 q.2.2.1 q.2.2.2.1)) := rfl
/-- the links of fields: the class whose pool it is, the entry, class number and field number, nest mate, host, place -/
def fTab : List (Nat × Nat × Nat × Nat × Bool × Bool × Nat × String × Nat) := [
  (0, 9, 0, 0, false, true, 2, "", 439),
  (0, 15, 0, 1, false, true, 2, "", 440),
  (0, 21, 8, 1, true, false, 0, "ResidualJudge", 110),
  (0, 38, 0, 3, false, false, 0, "", 442),
  (0, 41, 0, 2, false, false, 0, "", 441),
  (0, 57, 0, 7, false, false, 0, "", 449),
  (0, 60, 0, 4, false, false, 0, "", 443),
  (0, 63, 0, 8, false, false, 0, "", 451),
  (0, 68, 0, 5, false, false, 0, "", 445),
  (0, 71, 0, 6, false, false, 3, "", 447),
  (0, 75, 0, 9, false, false, 0, "", 452),
  (1, 9, 1, 0, false, true, 2, "", 174),
  (1, 15, 1, 1, false, true, 2, "", 176),
  (1, 25, 1, 8, false, false, 0, "", 183),
  (1, 29, 1, 9, false, false, 0, "", 184),
  (1, 32, 8, 1, true, false, 0, "ResidualJudge", 112),
  (1, 57, 1, 7, false, false, 0, "", 182),
  (1, 60, 1, 2, false, false, 0, "", 177),
  (1, 63, 1, 3, false, false, 0, "", 178),
  (1, 66, 1, 4, false, false, 0, "", 179),
  (1, 69, 1, 5, false, false, 0, "", 180),
  (1, 72, 1, 6, false, false, 1, "", 181),
  (2, 12, 2, 0, false, true, 2, "", 271),
  (2, 18, 2, 4, false, false, 2, "", 277),
  (2, 22, 2, 5, false, false, 2, "", 278),
  (2, 26, 2, 6, false, false, 2, "", 279),
  (2, 29, 2, 7, false, false, 2, "", 280),
  (2, 32, 2, 8, false, true, 2, "", 281),
  (2, 35, 2, 9, false, true, 2, "", 282),
  (2, 38, 2, 11, false, true, 2, "", 284),
  (2, 41, 2, 1, false, false, 1, "", 273),
  (2, 55, 5, 6, true, false, 0, "ResidualJudge", 231),
  (2, 68, 2, 2, false, false, 0, "", 274),
  (2, 71, 2, 3, false, false, 0, "", 275),
  (2, 74, 2, 12, false, false, 0, "", 287),
  (2, 86, 5, 8, true, false, 2, "ResidualJudge", 236),
  (2, 87, 2, 10, false, false, 0, "", 283),
  (3, 11, 3, 0, false, true, 2, "", 416),
  (4, 11, 4, 0, false, true, 2, "", 157),
  (4, 18, 4, 2, false, false, 0, "", 160),
  (4, 26, 4, 1, false, false, 0, "", 158),
  (5, 9, 5, 0, false, true, 2, "", 225),
  (5, 15, 5, 1, false, true, 2, "", 226),
  (5, 18, 5, 2, false, true, 2, "", 227),
  (5, 21, 5, 3, false, true, 2, "", 228),
  (5, 24, 5, 4, false, true, 2, "", 229),
  (5, 27, 5, 8, false, false, 2, "", 235),
  (5, 30, 5, 9, false, false, 2, "", 237),
  (5, 33, 5, 10, false, false, 2, "", 238),
  (5, 36, 5, 11, false, false, 2, "", 239),
  (5, 39, 5, 5, false, false, 0, "", 230),
  (5, 43, 5, 7, false, false, 0, "", 233),
  (5, 56, 5, 6, false, false, 0, "", 232),
  (5, 63, 5, 12, false, false, 0, "", 240),
  (5, 66, 5, 13, false, false, 0, "", 241),
  (6, 11, 6, 0, false, false, 2, "", 426),
  (6, 15, 6, 1, false, false, 2, "", 427),
  (6, 18, 2, 12, true, false, 0, "ResidualJudge", 286),
  (6, 28, 2, 11, true, true, 2, "ResidualJudge", 285),
  (6, 48, 2, 3, true, false, 0, "ResidualJudge", 276),
  (7, 9, 7, 0, false, true, 2, "", 129),
  (7, 15, 7, 1, false, true, 2, "", 131),
  (7, 19, 7, 3, false, false, 0, "", 135),
  (7, 31, 7, 2, false, false, 0, "", 133),
  (8, 9, 8, 0, false, true, 2, "", 108),
  (8, 15, 8, 1, false, false, 0, "", 109),
  (9, 10, 9, 0, false, true, 2, "", 475),
  (9, 19, 9, 1, false, true, 2, "", 476),
  (9, 26, 9, 2, false, true, 2, "", 477),
  (9, 33, 9, 3, false, true, 2, "", 478),
  (9, 40, 9, 4, false, true, 2, "", 479),
  (9, 47, 9, 5, false, true, 2, "", 480),
  (9, 54, 9, 6, false, true, 2, "", 481),
  (9, 62, 8, 1, true, false, 0, "ResidualJudge", 111),
  (9, 70, 7, 0, true, true, 2, "ResidualJudge", 130),
  (9, 82, 1, 0, true, true, 2, "ResidualJudge", 175),
  (9, 131, 7, 2, true, false, 0, "ResidualJudge", 134),
  (9, 135, 4, 1, true, false, 0, "ResidualJudge", 159),
  (9, 147, 7, 1, true, true, 2, "ResidualJudge", 132),
  (9, 151, 9, 7, false, false, 0, "", 482),
  (9, 154, 9, 8, false, false, 0, "", 483),
  (9, 157, 9, 9, false, false, 0, "", 484),
  (9, 160, 0, 4, true, false, 0, "ResidualJudge", 444),
  (9, 163, 0, 5, true, false, 0, "ResidualJudge", 446),
  (9, 166, 0, 6, true, false, 3, "ResidualJudge", 448),
  (9, 170, 0, 7, true, false, 0, "ResidualJudge", 450),
  (9, 173, 0, 9, true, false, 0, "ResidualJudge", 453),
  (9, 176, 7, 3, true, false, 0, "ResidualJudge", 136),
  (9, 190, 2, 0, true, true, 2, "ResidualJudge", 272),
  (9, 194, 5, 7, true, false, 0, "ResidualJudge", 234),
  (10, 7, 10, 0, false, true, 2, "", 816),
  (10, 13, 10, 1, false, true, 2, "", 817),
  (10, 16, 10, 3, false, true, 2, "", 819),
  (10, 19, 10, 5, false, true, 2, "", 821),
  (10, 22, 10, 6, false, true, 2, "", 822),
  (10, 25, 10, 7, false, true, 2, "", 823),
  (10, 28, 10, 8, false, true, 2, "", 824),
  (10, 31, 10, 9, false, true, 2, "", 825),
  (10, 34, 10, 10, false, true, 2, "", 826),
  (10, 37, 10, 11, false, true, 2, "", 827),
  (10, 40, 10, 12, false, true, 2, "", 828),
  (10, 43, 10, 13, false, true, 2, "", 829),
  (10, 46, 10, 14, false, true, 2, "", 830),
  (10, 49, 10, 15, false, true, 2, "", 831),
  (10, 52, 10, 18, false, true, 2, "", 834),
  (10, 55, 10, 19, false, true, 2, "", 835),
  (10, 58, 10, 21, false, true, 2, "", 837),
  (10, 61, 10, 25, false, true, 2, "", 841),
  (10, 64, 10, 26, false, true, 2, "", 842),
  (10, 67, 10, 29, false, true, 2, "", 845),
  (10, 77, 10, 2, false, false, 0, "", 818),
  (10, 81, 10, 4, false, false, 0, "", 820),
  (10, 117, 10, 16, false, false, 0, "", 832),
  (10, 120, 10, 17, false, false, 0, "", 833),
  (10, 123, 10, 20, false, false, 0, "", 836),
  (10, 126, 10, 22, false, false, 0, "", 838),
  (10, 139, 10, 24, false, false, 0, "", 840),
  (10, 146, 10, 23, false, false, 0, "", 839),
  (10, 206, 10, 27, false, false, 0, "", 843),
  (10, 209, 10, 28, false, false, 0, "", 844),
  (10, 212, 10, 30, false, false, 0, "", 846),
  (10, 215, 10, 31, false, false, 0, "", 847),
  (10, 218, 10, 32, false, false, 0, "", 848)]
def tagOk : Nat → FieldType → Bool
  | 0, .int => true
  | 1, .long => true
  | 2, .object _ => true
  | 2, .array _ => true
  | 3, .boolean => true
  | _, _ => false
def clT (ci : Nat) : vw_C := aCl.getD ci ("", TX0, 0)
def fOkB (q : Nat × Nat × Nat × Nat × Bool × Bool × Nat × String × Nat) : Bool := match q with
  | (own, idx, ci, k, nest, fin, tag, host, pl) => ((((clT ci).2.1 k).2.2.2) == fin) && tagOk tag ((parseFieldDescriptor ((clT ci).2.1 k).2.2.1).getD .int) && decide (ci < 11) && decide (k < (clT ci).2.2) && (lw_tbl[pl]? == some (if nest then Cond.fieldLinkNest (cN own) idx (clT ci).1 ((clT ci).2.1 k).2.1 ((clT ci).2.1 k).2.2.1 host else Cond.fieldLink (cN own) idx (clT ci).1 ((clT ci).2.1 k).2.1 ((clT ci).2.1 k).2.2.1)) && (((clT ci).2.1 k).1 == (clT ci).1)
theorem fOk : fTab.all fOkB = true := by decide +kernel
/-- the links of methods: the class whose pool it is, the entry, the method, how it is called (0 virtual, 1 static, 2 init; 3, 4, 5 of nest mates), host, places of its words -/
def cTab : List (Nat × Nat × Nat × Nat × String × Nat × Nat × Nat) := [
  (9, 9, 1, 5, "ResidualJudge", 104, 105, 0),
  (9, 18, 2, 2, "", 121, 122, 0),
  (9, 25, 4, 2, "", 150, 151, 0),
  (9, 32, 5, 5, "ResidualJudge", 170, 171, 0),
  (9, 39, 6, 2, "", 208, 209, 0),
  (9, 46, 30, 5, "ResidualJudge", 422, 423, 0),
  (9, 53, 31, 5, "ResidualJudge", 435, 436, 0),
  (9, 58, 33, 0, "", 510, 512, 12),
  (9, 66, 34, 0, "", 514, 515, 516),
  (9, 74, 37, 0, "", 526, 527, 528),
  (9, 78, 52, 0, "", 586, 587, 588),
  (9, 89, 54, 0, "", 597, 598, 599),
  (9, 92, 55, 0, "", 601, 602, 603),
  (9, 96, 51, 1, "", 609, 584, 0),
  (9, 102, 58, 0, "", 615, 616, 617),
  (9, 106, 59, 1, "", 620, 621, 0),
  (9, 110, 65, 0, "", 643, 644, 645),
  (9, 113, 76, 0, "", 696, 697, 698),
  (9, 117, 85, 0, "", 739, 741, 37),
  (9, 120, 87, 0, "", 747, 748, 749),
  (9, 124, 88, 1, "", 751, 752, 0),
  (9, 128, 90, 0, "", 759, 761, 38),
  (9, 132, 93, 0, "", 772, 773, 774),
  (9, 137, 96, 0, "", 784, 785, 786),
  (9, 140, 98, 0, "", 792, 794, 39),
  (9, 179, 91, 0, "", 763, 764, 765),
  (9, 183, 60, 0, "", 623, 624, 625),
  (9, 188, 62, 0, "", 631, 632, 633),
  (9, 199, 63, 0, "", 635, 636, 637),
  (0, 18, 77, 0, "", 700, 702, 29),
  (0, 27, 38, 0, "", 704, 532, 533),
  (0, 31, 41, 4, "ResidualJudge", 705, 544, 0),
  (0, 34, 78, 0, "", 706, 708, 30),
  (0, 44, 82, 0, "", 727, 729, 34),
  (0, 47, 83, 0, "", 731, 733, 35),
  (0, 51, 79, 0, "", 710, 712, 31),
  (0, 54, 84, 0, "", 735, 737, 36),
  (0, 78, 58, 0, "", 714, 616, 617),
  (0, 83, 71, 0, "", 725, 673, 674),
  (0, 87, 81, 0, "", 720, 722, 33),
  (0, 91, 22, 1, "", 726, 379, 0),
  (0, 96, 80, 0, "", 715, 717, 32),
  (0, 99, 60, 0, "", 719, 624, 625),
  (0, 103, 62, 0, "", 724, 632, 633),
  (1, 37, 38, 0, "", 531, 532, 533),
  (1, 41, 39, 0, "", 535, 537, 13),
  (1, 45, 40, 0, "", 539, 541, 14),
  (1, 48, 42, 0, "", 546, 548, 15),
  (1, 51, 46, 0, "", 562, 564, 19),
  (1, 54, 41, 4, "ResidualJudge", 543, 544, 0),
  (1, 76, 43, 0, "", 550, 552, 16),
  (1, 79, 44, 0, "", 554, 556, 17),
  (1, 83, 45, 0, "", 558, 560, 18),
  (1, 86, 47, 0, "", 566, 568, 20),
  (1, 89, 49, 0, "", 574, 576, 22),
  (1, 92, 50, 0, "", 579, 581, 23),
  (1, 95, 48, 0, "", 570, 572, 21),
  (1, 99, 22, 1, "", 578, 379, 0),
  (1, 105, 51, 4, "ResidualJudge", 583, 584, 0),
  (2, 11, 8, 5, "ResidualJudge", 221, 222, 0),
  (2, 45, 10, 0, "", 320, 321, 322),
  (2, 49, 13, 0, "", 331, 332, 333),
  (2, 52, 15, 0, "", 339, 340, 341),
  (2, 59, 12, 1, "", 377, 329, 0),
  (2, 65, 22, 1, "", 378, 379, 0),
  (2, 77, 23, 1, "", 381, 382, 0),
  (2, 83, 3, 1, "", 384, 127, 0),
  (2, 90, 24, 0, "", 385, 387, 7),
  (2, 94, 61, 0, "", 627, 629, 24),
  (2, 98, 69, 1, "", 661, 662, 0),
  (2, 103, 62, 0, "", 676, 632, 633),
  (2, 106, 72, 0, "", 677, 679, 28),
  (2, 110, 73, 1, "", 681, 682, 0),
  (2, 115, 74, 0, "", 687, 688, 689),
  (2, 119, 25, 0, "", 389, 391, 8),
  (2, 122, 26, 0, "", 394, 396, 9),
  (2, 127, 27, 0, "", 399, 401, 10),
  (2, 130, 28, 0, "", 403, 405, 11),
  (2, 133, 18, 1, "", 407, 352, 0),
  (2, 137, 29, 1, "", 408, 409, 0),
  (3, 17, 7, 5, "ResidualJudge", 215, 216, 0),
  (3, 20, 9, 0, "", 316, 317, 318),
  (3, 24, 51, 4, "ResidualJudge", 619, 584, 0),
  (4, 17, 2, 2, "", 156, 122, 0),
  (4, 22, 53, 0, "", 590, 591, 592),
  (4, 29, 12, 1, "", 595, 329, 0),
  (5, 46, 11, 0, "", 324, 326, 0),
  (5, 50, 12, 1, "", 328, 329, 0),
  (5, 59, 14, 0, "", 335, 337, 1),
  (5, 69, 16, 0, "", 343, 345, 2),
  (5, 73, 17, 0, "", 347, 349, 3),
  (5, 77, 19, 0, "", 365, 367, 4),
  (5, 80, 20, 0, "", 369, 371, 5),
  (5, 83, 21, 0, "", 373, 375, 6),
  (5, 86, 18, 1, "", 351, 352, 0),
  (6, 24, 66, 0, "", 647, 649, 25),
  (6, 31, 67, 0, "", 653, 655, 26),
  (6, 35, 70, 0, "", 667, 669, 27),
  (6, 38, 23, 1, "", 651, 382, 0),
  (6, 44, 60, 0, "", 652, 624, 625),
  (6, 51, 68, 0, "", 657, 658, 659),
  (6, 54, 12, 1, "", 671, 329, 0),
  (6, 60, 71, 0, "", 672, 673, 674),
  (6, 63, 18, 1, "", 691, 352, 0),
  (7, 25, 3, 1, "", 126, 127, 0),
  (7, 36, 71, 0, "", 767, 673, 674),
  (10, 70, 101, 0, "", 808, 810, 40),
  (10, 74, 102, 0, "", 812, 814, 41),
  (10, 84, 124, 0, "", 1001, 1003, 54),
  (10, 88, 131, 0, "", 1029, 1031, 61),
  (10, 92, 132, 0, "", 1033, 1035, 62),
  (10, 96, 129, 0, "", 1021, 1023, 59),
  (10, 100, 130, 0, "", 1025, 1027, 60),
  (10, 104, 128, 0, "", 1017, 1019, 58),
  (10, 109, 104, 1, "", 921, 922, 0),
  (10, 113, 105, 0, "", 924, 926, 42),
  (10, 129, 114, 1, "", 962, 963, 0),
  (10, 132, 115, 0, "", 965, 967, 49),
  (10, 136, 112, 0, "", 954, 956, 47),
  (10, 149, 113, 0, "", 958, 960, 48),
  (10, 152, 109, 0, "", 940, 942, 44),
  (10, 155, 111, 0, "", 950, 952, 46),
  (10, 158, 116, 1, "", 969, 970, 0),
  (10, 161, 117, 0, "", 972, 974, 50),
  (10, 164, 110, 0, "", 946, 948, 45),
  (10, 168, 108, 0, "", 936, 938, 43),
  (10, 172, 118, 0, "", 976, 978, 51),
  (10, 177, 120, 1, "", 984, 985, 0),
  (10, 180, 123, 0, "", 997, 999, 53),
  (10, 183, 125, 0, "", 1005, 1007, 55),
  (10, 186, 126, 0, "", 1009, 1011, 56),
  (10, 189, 127, 0, "", 1013, 1015, 57),
  (10, 194, 122, 0, "", 993, 995, 52),
  (10, 198, 135, 0, "", 1046, 1048, 64),
  (10, 203, 134, 0, "", 1042, 1044, 63),
  (10, 221, 140, 0, "", 1067, 1069, 68),
  (10, 224, 139, 0, "", 1063, 1065, 67),
  (10, 227, 141, 0, "", 1071, 1073, 69),
  (10, 232, 137, 0, "", 1055, 1057, 65),
  (10, 235, 138, 0, "", 1059, 1061, 66),
  (10, 238, 142, 0, "", 1075, 1077, 70),
  (10, 241, 144, 1, "", 1083, 1084, 0),
  (10, 247, 148, 0, "", 1101, 1103, 72),
  (10, 250, 147, 0, "", 1097, 1099, 71),
  (10, 255, 151, 0, "", 1114, 1116, 73),
  (10, 260, 154, 0, "", 1127, 1129, 74),
  (11, 59, 145, 1, "", 1086, 1087, 0),
  (15, 304, 12, 1, "", 361, 329, 0)]
def cOkB (q : Nat × Nat × Nat × Nat × String × Nat × Nat × Nat) : Bool := match q with
  | (own, idx, μ, kn, host, p1, p2, p3) => decide (μ < mN) && decide (kn < 6) && (lw_tbl[p1]? == some (if 3 ≤ kn then Cond.methodLinkNest (cN own) idx (mY μ) host else Cond.methodLink (cN own) idx (mY μ))) && (lw_tbl[p2]? == some (if kn = 1 ∨ kn = 4 then Cond.static (mY μ) else Cond.instanceMethod (mY μ))) && (!(kn == 0 || kn == 3) || (lw_tbl[p3]? == some (Cond.selects (mY μ).cls (mY μ) (mY μ)))) && (!(kn == 2 || kn == 5) || ((mY μ).name == "<init>" && mR μ == none))
theorem cOk : cTab.all cOkB = true := by decide +kernel
def kTI : List (Nat × Nat × Int32 × Nat) := [(2, 126, 65536, 398), (12, 265, 1431655765, 664), (12, 266, 858993459, 665), (12, 267, 252645135, 666), (11, 77, 2143289344, 1092)]
def kTJ : List (Nat × Nat × Int64 × Nat) := [(7, 23, 9, 125), (3, 18, 9, 315), (2, 140, -7046029254386353131, 393), (9, 100, 9, 610), (13, 314, 6148914691236517205, 684), (13, 316, 3689348814741910323, 685), (13, 318, 1085102592571150095, 686), (9, 143, 2521, 800), (9, 145, 31, 801), (10, 107, 127, 920), (10, 142, 97, 944), (10, 144, 104, 945), (10, 175, 8, 987), (10, 192, 3, 992), (10, 201, 6, 1041), (10, 230, 5, 1054), (10, 253, 7, 1109), (10, 258, 4, 1126), (10, 263, 2521, 1135), (10, 265, 31, 1136)]
def kTF : List (Nat × Nat × UInt32 × Nat) := [(9, 203, 1258291200, 754)]
def nTb : List (Nat × Nat × Nat × Nat × Nat × Nat) := [(9, 7, 8, 102, 103, 77), (9, 16, 7, 119, 120, 78), (9, 23, 4, 148, 149, 80), (4, 9, 7, 154, 120, 78), (9, 30, 1, 168, 169, 81), (9, 37, 3, 206, 207, 82), (3, 9, 2, 212, 214, 83), (2, 9, 5, 219, 220, 84), (9, 44, 6, 420, 421, 87), (9, 51, 0, 433, 434, 88)]
def qTb : List (Nat × Nat × Nat × Nat × Nat) := [(4, 9, 4, 154, 155), (3, 9, 3, 212, 213)]
def oTb : List (Nat × Nat × Nat) := [(9, 1, 99), (0, 3, 438), (1, 3, 173), (2, 3, 218), (3, 3, 211), (4, 3, 153), (5, 3, 224), (6, 3, 425), (7, 3, 124), (8, 3, 107), (10, 1, 807)]
def aTb : List (Nat × Nat × Nat) := [(9, 83, 596), (1, 19, 530), (7, 40, 594), (15, 150, 362)]
def rTb : List (Nat × Nat × Nat) := [(11, 74, 1089)]
def inits : List Nat := [0, 1, 2, 4, 5, 6, 7, 8, 30, 31, 100]
def qCl (t : Nat) : String := if t = 3 then "ResidualJudge$Machine" else "ResidualJudge$Scene"
theorem kIOk : kTI.all (fun q => lw_tbl[q.2.2.2]? == some (Cond.constant (cN q.1) q.2.1 q.2.2.1)) = true := by decide +kernel
theorem kJOk : kTJ.all (fun q => lw_tbl[q.2.2.2]? == some (Cond.constantLong (cN q.1) q.2.1 q.2.2.1)) = true := by decide +kernel
theorem kFOk : kTF.all (fun q => lw_tbl[q.2.2.2]? == some (Cond.constantFloat (cN q.1) q.2.1 q.2.2.1)) = true := by decide +kernel
theorem nOk : nTb.all (fun q => decide (q.2.2.1 < 11) && (lw_tbl[q.2.2.2.1]? == some (Cond.classLink (cN q.1) q.2.1 (clT q.2.2.1).1)) && (lw_tbl[q.2.2.2.2.1]? == some (Cond.instantiable (clT q.2.2.1).1 (clT q.2.2.1).2.2)) && (lw_tbl[q.2.2.2.2.2]? == some (Cond.initialized (clT q.2.2.1).1))) = true := by decide +kernel
theorem qOk : qTb.all (fun q => (q.2.2.1 == 3 || q.2.2.1 == 4) && (lw_tbl[q.2.2.2.1]? == some (Cond.classLink (cN q.1) q.2.1 (qCl q.2.2.1))) && (lw_tbl[q.2.2.2.2]? == some (Cond.arrayOver (.object (qCl q.2.2.1))))) = true := by decide +kernel
theorem oOk : oTb.all (fun q => lw_tbl[q.2.2]? == some (Cond.methodLink (cN q.1) q.2.1 ⟨"java/lang/Object", "<init>", "()V"⟩)) = true := by decide +kernel
theorem aOk : aTb.all (fun q => lw_tbl[q.2.2]? == some (Cond.methodLink (cN q.1) q.2.1 ⟨"java/lang/System", "arraycopy", "(Ljava/lang/Object;ILjava/lang/Object;II)V"⟩)) = true := by decide +kernel
theorem rOk : rTb.all (fun q => lw_tbl[q.2.2]? == some (Cond.methodLink (cN q.1) q.2.1 ⟨"java/lang/Float", "floatToRawIntBits", "(F)I"⟩)) = true := by decide +kernel
theorem inOk : inits.all (fun μ => (mY μ).name == "<init>") = true := by decide +kernel
