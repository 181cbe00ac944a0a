def RX0 : String := "ResidualJudge$BookJudge"
def TX0 : u_T := fun k => match k with
  | 0 => ("ResidualJudge$BookJudge", "machines", "LResidualJudge$Machines;", true)
  | 1 => ("ResidualJudge$BookJudge", "owners", "[I", true)
  | 2 => ("ResidualJudge$BookJudge", "stands", "[I", true)
  | 3 => ("ResidualJudge$BookJudge", "depth", "I", false)
  | 4 => ("ResidualJudge$BookJudge", "bare", "I", false)
  | 5 => ("ResidualJudge$BookJudge", "flaw", "I", false)
  | 6 => ("ResidualJudge$BookJudge", "due", "I", false)
  | 7 => ("ResidualJudge$BookJudge", "ending", "Z", false)
  | 8 => ("ResidualJudge$BookJudge", "letters", "I", false)
  | 9 => ("ResidualJudge$BookJudge", "lettersAhead", "I", false)
  | _ => ("ResidualJudge$BookJudge", "deepest", "I", false)
def tyX0 : Nat → FieldType := fun k => match k with
  | 0 => .object "ResidualJudge$Machines"
  | 1 => .array .int
  | 2 => .array .int
  | 3 => .int
  | 4 => .int
  | 5 => .int
  | 6 => .int
  | 7 => .boolean
  | 8 => .int
  | 9 => .int
  | _ => .int
abbrev wsX00 : List Cond := u_ws RX0 TX0 11
theorem nmX0 : ∀ a, a < 11 → ∀ b, b < 11 → a ≠ b → (TX0 a).2.1 ≠ (TX0 b).2.1 := by decide +kernel
theorem tyX0_ok : ∀ k, k < 11 → parseFieldDescriptor (TX0 k).2.2.1 = some (tyX0 k) := by decide +kernel
def RX1 : String := "ResidualJudge$GrammarReader"
def TX1 : u_T := fun k => match k with
  | 0 => ("ResidualJudge$GrammarReader", "patterns", "[J", true)
  | 1 => ("ResidualJudge$GrammarReader", "waiting", "[I", true)
  | 2 => ("ResidualJudge$GrammarReader", "waits", "I", false)
  | 3 => ("ResidualJudge$GrammarReader", "open", "I", false)
  | 4 => ("ResidualJudge$GrammarReader", "nodes", "I", false)
  | 5 => ("ResidualJudge$GrammarReader", "placed", "I", false)
  | 6 => ("ResidualJudge$GrammarReader", "pattern", "J", false)
  | 7 => ("ResidualJudge$GrammarReader", "owner", "I", false)
  | 8 => ("ResidualJudge$GrammarReader", "phase", "I", false)
  | _ => ("ResidualJudge$GrammarReader", "orders", "I", false)
def tyX1 : Nat → FieldType := fun k => match k with
  | 0 => .array .long
  | 1 => .array .int
  | 2 => .int
  | 3 => .int
  | 4 => .int
  | 5 => .int
  | 6 => .long
  | 7 => .int
  | 8 => .int
  | _ => .int
abbrev wsX10 : List Cond := u_ws RX1 TX1 10
theorem nmX1 : ∀ a, a < 10 → ∀ b, b < 10 → a ≠ b → (TX1 a).2.1 ≠ (TX1 b).2.1 := by decide +kernel
theorem tyX1_ok : ∀ k, k < 10 → parseFieldDescriptor (TX1 k).2.2.1 = some (tyX1 k) := by decide +kernel
def RX2 : String := "ResidualJudge$Machine"
def TX2 : u_T := fun k => match k with
  | 0 => ("ResidualJudge$Machine", "plan", "LResidualJudge$Plan;", true)
  | 1 => ("ResidualJudge$Machine", "pattern", "J", false)
  | 2 => ("ResidualJudge$Machine", "words", "I", false)
  | 3 => ("ResidualJudge$Machine", "known", "I", false)
  | 4 => ("ResidualJudge$Machine", "sets", "[J", false)
  | 5 => ("ResidualJudge$Machine", "nexts", "[I", false)
  | 6 => ("ResidualJudge$Machine", "traits", "[I", false)
  | 7 => ("ResidualJudge$Machine", "olders", "[I", false)
  | 8 => ("ResidualJudge$Machine", "newests", "[I", true)
  | 9 => ("ResidualJudge$Machine", "found", "[J", true)
  | 10 => ("ResidualJudge$Machine", "foundTraits", "I", false)
  | 11 => ("ResidualJudge$Machine", "counts", "[I", true)
  | _ => ("ResidualJudge$Machine", "counted", "I", false)
def tyX2 : Nat → FieldType := fun k => match k with
  | 0 => .object "ResidualJudge$Plan"
  | 1 => .long
  | 2 => .int
  | 3 => .int
  | 4 => .array .long
  | 5 => .array .int
  | 6 => .array .int
  | 7 => .array .int
  | 8 => .array .int
  | 9 => .array .long
  | 10 => .int
  | 11 => .array .int
  | _ => .int
abbrev wsX20 : List Cond := u_ws RX2 TX2 13
theorem nmX2 : ∀ a, a < 13 → ∀ b, b < 13 → a ≠ b → (TX2 a).2.1 ≠ (TX2 b).2.1 := by decide +kernel
theorem tyX2_ok : ∀ k, k < 13 → parseFieldDescriptor (TX2 k).2.2.1 = some (tyX2 k) := by decide +kernel
def RX3 : String := "ResidualJudge$Machines"
def TX3 : u_T := fun k => match k with
  | _ => ("ResidualJudge$Machines", "all", "[LResidualJudge$Machine;", true)
def tyX3 : Nat → FieldType := fun k => match k with
  | _ => .array (.object "ResidualJudge$Machine")
abbrev wsX30 : List Cond := u_ws RX3 TX3 1
theorem nmX3 : ∀ a, a < 1 → ∀ b, b < 1 → a ≠ b → (TX3 a).2.1 ≠ (TX3 b).2.1 := by decide +kernel
theorem tyX3_ok : ∀ k, k < 1 → parseFieldDescriptor (TX3 k).2.2.1 = some (tyX3 k) := by decide +kernel
def RX4 : String := "ResidualJudge$Past"
def TX4 : u_T := fun k => match k with
  | 0 => ("ResidualJudge$Past", "scenes", "[LResidualJudge$Scene;", true)
  | 1 => ("ResidualJudge$Past", "count", "I", false)
  | _ => ("ResidualJudge$Past", "newest", "I", false)
def tyX4 : Nat → FieldType := fun k => match k with
  | 0 => .array (.object "ResidualJudge$Scene")
  | 1 => .int
  | _ => .int
abbrev wsX40 : List Cond := u_ws RX4 TX4 3
theorem nmX4 : ∀ a, a < 3 → ∀ b, b < 3 → a ≠ b → (TX4 a).2.1 ≠ (TX4 b).2.1 := by decide +kernel
theorem tyX4_ok : ∀ k, k < 3 → parseFieldDescriptor (TX4 k).2.2.1 = some (tyX4 k) := by decide +kernel
def RX5 : String := "ResidualJudge$Plan"
def TX5 : u_T := fun k => match k with
  | 0 => ("ResidualJudge$Plan", "kinds", "[I", true)
  | 1 => ("ResidualJudge$Plan", "starts", "[I", true)
  | 2 => ("ResidualJudge$Plan", "lefts", "[I", true)
  | 3 => ("ResidualJudge$Plan", "spans", "[I", true)
  | 4 => ("ResidualJudge$Plan", "shortest", "[I", true)
  | 5 => ("ResidualJudge$Plan", "root", "I", false)
  | 6 => ("ResidualJudge$Plan", "places", "I", false)
  | 7 => ("ResidualJudge$Plan", "sorts", "I", false)
  | 8 => ("ResidualJudge$Plan", "traits", "[I", false)
  | 9 => ("ResidualJudge$Plan", "moves", "[I", false)
  | 10 => ("ResidualJudge$Plan", "moveStarts", "[I", false)
  | 11 => ("ResidualJudge$Plan", "moveEnds", "[I", false)
  | 12 => ("ResidualJudge$Plan", "moveCount", "I", false)
  | _ => ("ResidualJudge$Plan", "leaving", "I", false)
def tyX5 : Nat → FieldType := fun k => match k with
  | 0 => .array .int
  | 1 => .array .int
  | 2 => .array .int
  | 3 => .array .int
  | 4 => .array .int
  | 5 => .int
  | 6 => .int
  | 7 => .int
  | 8 => .array .int
  | 9 => .array .int
  | 10 => .array .int
  | 11 => .array .int
  | 12 => .int
  | _ => .int
abbrev wsX50 : List Cond := u_ws RX5 TX5 14
theorem nmX5 : ∀ a, a < 14 → ∀ b, b < 14 → a ≠ b → (TX5 a).2.1 ≠ (TX5 b).2.1 := by decide +kernel
theorem tyX5_ok : ∀ k, k < 14 → parseFieldDescriptor (TX5 k).2.2.1 = some (tyX5 k) := by decide +kernel
def RX6 : String := "ResidualJudge$RowCounter"
def TX6 : u_T := fun k => match k with
  | 0 => ("ResidualJudge$RowCounter", "ways", "[I", false)
  | _ => ("ResidualJudge$RowCounter", "waysOn", "[I", false)
def tyX6 : Nat → FieldType := fun k => match k with
  | 0 => .array .int
  | _ => .array .int
abbrev wsX60 : List Cond := u_ws RX6 TX6 2
theorem nmX6 : ∀ a, a < 2 → ∀ b, b < 2 → a ≠ b → (TX6 a).2.1 ≠ (TX6 b).2.1 := by decide +kernel
theorem tyX6_ok : ∀ k, k < 2 → parseFieldDescriptor (TX6 k).2.2.1 = some (tyX6 k) := by decide +kernel
def RX7 : String := "ResidualJudge$Scene"
def TX7 : u_T := fun k => match k with
  | 0 => ("ResidualJudge$Scene", "patterns", "[J", true)
  | 1 => ("ResidualJudge$Scene", "row", "[I", true)
  | 2 => ("ResidualJudge$Scene", "length", "I", false)
  | _ => ("ResidualJudge$Scene", "owner", "I", false)
def tyX7 : Nat → FieldType := fun k => match k with
  | 0 => .array .long
  | 1 => .array .int
  | 2 => .int
  | _ => .int
abbrev wsX70 : List Cond := u_ws RX7 TX7 4
theorem nmX7 : ∀ a, a < 4 → ∀ b, b < 4 → a ≠ b → (TX7 a).2.1 ≠ (TX7 b).2.1 := by decide +kernel
theorem tyX7_ok : ∀ k, k < 4 → parseFieldDescriptor (TX7 k).2.2.1 = some (tyX7 k) := by decide +kernel
def RX8 : String := "ResidualJudge$Text"
def TX8 : u_T := fun k => match k with
  | 0 => ("ResidualJudge$Text", "bytes", "[B", true)
  | _ => ("ResidualJudge$Text", "length", "I", false)
def tyX8 : Nat → FieldType := fun k => match k with
  | 0 => .array .byte
  | _ => .int
abbrev wsX80 : List Cond := u_ws RX8 TX8 2
theorem nmX8 : ∀ a, a < 2 → ∀ b, b < 2 → a ≠ b → (TX8 a).2.1 ≠ (TX8 b).2.1 := by decide +kernel
theorem tyX8_ok : ∀ k, k < 2 → parseFieldDescriptor (TX8 k).2.2.1 = some (tyX8 k) := by decide +kernel
def RX9 : String := "ResidualJudge"
def TX9 : u_T := fun k => match k with
  | 0 => ("ResidualJudge", "text", "LResidualJudge$Text;", true)
  | 1 => ("ResidualJudge", "scene", "LResidualJudge$Scene;", true)
  | 2 => ("ResidualJudge", "past", "LResidualJudge$Past;", true)
  | 3 => ("ResidualJudge", "reader", "LResidualJudge$GrammarReader;", true)
  | 4 => ("ResidualJudge", "machines", "LResidualJudge$Machines;", true)
  | 5 => ("ResidualJudge", "counter", "LResidualJudge$RowCounter;", true)
  | 6 => ("ResidualJudge", "book", "LResidualJudge$BookJudge;", true)
  | 7 => ("ResidualJudge", "refusedBad", "I", false)
  | 8 => ("ResidualJudge", "refusedNo", "I", false)
  | _ => ("ResidualJudge", "refusedFull", "I", false)
def tyX9 : Nat → FieldType := fun k => match k with
  | 0 => .object "ResidualJudge$Text"
  | 1 => .object "ResidualJudge$Scene"
  | 2 => .object "ResidualJudge$Past"
  | 3 => .object "ResidualJudge$GrammarReader"
  | 4 => .object "ResidualJudge$Machines"
  | 5 => .object "ResidualJudge$RowCounter"
  | 6 => .object "ResidualJudge$BookJudge"
  | 7 => .int
  | 8 => .int
  | _ => .int
abbrev wsX90 : List Cond := u_ws RX9 TX9 10
theorem nmX9 : ∀ a, a < 10 → ∀ b, b < 10 → a ≠ b → (TX9 a).2.1 ≠ (TX9 b).2.1 := by decide +kernel
theorem tyX9_ok : ∀ k, k < 10 → parseFieldDescriptor (TX9 k).2.2.1 = some (tyX9 k) := by decide +kernel
def RX10 : String := "ResidualJudgeModel"
def TX10 : u_T := fun k => match k with
  | 0 => ("ResidualJudgeModel", "all", "[I", true)
  | 1 => ("ResidualJudgeModel", "past", "[I", true)
  | 2 => ("ResidualJudgeModel", "states", "I", false)
  | 3 => ("ResidualJudgeModel", "refused", "[I", true)
  | 4 => ("ResidualJudgeModel", "many", "I", false)
  | 5 => ("ResidualJudgeModel", "kind", "[I", true)
  | 6 => ("ResidualJudgeModel", "left", "[I", true)
  | 7 => ("ResidualJudgeModel", "right", "[I", true)
  | 8 => ("ResidualJudgeModel", "parent", "[I", true)
  | 9 => ("ResidualJudgeModel", "under", "[I", true)
  | 10 => ("ResidualJudgeModel", "own", "[I", true)
  | 11 => ("ResidualJudgeModel", "empty", "[I", true)
  | 12 => ("ResidualJudgeModel", "ended", "[I", true)
  | 13 => ("ResidualJudgeModel", "sets", "[I", true)
  | 14 => ("ResidualJudgeModel", "size", "[I", true)
  | 15 => ("ResidualJudgeModel", "text", "[I", true)
  | 16 => ("ResidualJudgeModel", "textLong", "I", false)
  | 17 => ("ResidualJudgeModel", "spot", "I", false)
  | 18 => ("ResidualJudgeModel", "made", "[I", true)
  | 19 => ("ResidualJudgeModel", "operands", "[I", true)
  | 20 => ("ResidualJudgeModel", "operandMany", "I", false)
  | 21 => ("ResidualJudgeModel", "waiting", "[I", true)
  | 22 => ("ResidualJudgeModel", "waitingMany", "I", false)
  | 23 => ("ResidualJudgeModel", "toldNodes", "I", false)
  | 24 => ("ResidualJudgeModel", "open", "I", false)
  | 25 => ("ResidualJudgeModel", "shortest", "[I", true)
  | 26 => ("ResidualJudgeModel", "tried", "[I", true)
  | 27 => ("ResidualJudgeModel", "bookLetters", "I", false)
  | 28 => ("ResidualJudgeModel", "bookDepth", "I", false)
  | 29 => ("ResidualJudgeModel", "whose", "[I", true)
  | 30 => ("ResidualJudgeModel", "flaw", "I", false)
  | 31 => ("ResidualJudgeModel", "flawDue", "I", false)
  | _ => ("ResidualJudgeModel", "flawEnd", "I", false)
def tyX10 : Nat → FieldType := fun k => match k with
  | 0 => .array .int
  | 1 => .array .int
  | 2 => .int
  | 3 => .array .int
  | 4 => .int
  | 5 => .array .int
  | 6 => .array .int
  | 7 => .array .int
  | 8 => .array .int
  | 9 => .array .int
  | 10 => .array .int
  | 11 => .array .int
  | 12 => .array .int
  | 13 => .array .int
  | 14 => .array .int
  | 15 => .array .int
  | 16 => .int
  | 17 => .int
  | 18 => .array .int
  | 19 => .array .int
  | 20 => .int
  | 21 => .array .int
  | 22 => .int
  | 23 => .int
  | 24 => .int
  | 25 => .array .int
  | 26 => .array .int
  | 27 => .int
  | 28 => .int
  | 29 => .array .int
  | 30 => .int
  | 31 => .int
  | _ => .int
abbrev wsX100 : List Cond := u_ws RX10 TX10 33
theorem nmX10 : ∀ a, a < 33 → ∀ b, b < 33 → a ≠ b → (TX10 a).2.1 ≠ (TX10 b).2.1 := by decide +kernel
theorem tyX10_ok : ∀ k, k < 33 → parseFieldDescriptor (TX10 k).2.2.1 = some (tyX10 k) := by decide +kernel
abbrev aCl : List vw_C := [(RX0, TX0, 11), (RX1, TX1, 10), (RX2, TX2, 13), (RX3, TX3, 1), (RX4, TX4, 3), (RX5, TX5, 14), (RX6, TX6, 2), (RX7, TX7, 4), (RX8, TX8, 2), (RX9, TX9, 10), (RX10, TX10, 33)]
/-- the methods by their numbers: name, bytes, locals, what it returns, the place of its code word -/
def mTab : List (MethodName × ByteArray × Nat × Option FieldType × Nat × Nat × Nat) := [
  (⟨"ResidualJudge", "<init>", "()V"⟩, prog_1_method_1_code, 1, none, 98, 0, 9),
  (⟨"ResidualJudge$Text", "<init>", "()V"⟩, prog_10_method_1_code, 1, none, 106, 0, 8),
  (⟨"ResidualJudge$Scene", "<init>", "()V"⟩, prog_9_method_1_code, 1, none, 123, 0, 7),
  (⟨"java/util/Arrays", "fill", "([JJ)V"⟩, prog_20_method_101_code, 5, none, 128, 2, 99),
  (⟨"ResidualJudge$Past", "<init>", "()V"⟩, prog_6_method_1_code, 2, none, 152, 0, 4),
  (⟨"ResidualJudge$GrammarReader", "<init>", "()V"⟩, prog_3_method_1_code, 1, none, 172, 0, 1),
  (⟨"ResidualJudge$Machines", "<init>", "()V"⟩, prog_5_method_1_code, 2, none, 210, 0, 3),
  (⟨"ResidualJudge$Machine", "<init>", "()V"⟩, prog_4_method_1_code, 1, none, 217, 0, 2),
  (⟨"ResidualJudge$Plan", "<init>", "()V"⟩, prog_7_method_1_code, 1, none, 223, 0, 5),
  (⟨"ResidualJudge$RowCounter", "<init>", "()V"⟩, prog_8_method_1_code, 1, none, 323, 0, 6),
  (⟨"ResidualJudge$BookJudge", "<init>", "(LResidualJudge$Machines;)V"⟩, prog_2_method_1_code, 2, none, 336, 1, 0),
  (⟨"ResidualJudge$Machines", "follow", "([J)V"⟩, prog_5_method_2_code, 3, none, 380, 1, 3),
  (⟨"ResidualJudge$Machine", "load", "(J)V"⟩, prog_4_method_2_code, 3, none, 384, 1, 2),
  (⟨"ResidualJudge$Plan", "findNodes", "(J)V"⟩, prog_7_method_2_code, 5, none, 388, 1, 5),
  (⟨"ResidualJudge$Plan", "measure", "(I)V"⟩, prog_7_method_7_code, 5, none, 392, 1, 5),
  (⟨"java/lang/Math", "min", "(II)I"⟩, prog_17_method_69_code, 2, (some .int), 395, 2, 99),
  (⟨"ResidualJudge$Plan", "findPlaces", "()V"⟩, prog_7_method_3_code, 2, none, 399, 0, 5),
  (⟨"ResidualJudge$Plan", "allows", "(II)Z"⟩, prog_7_method_8_code, 6, (some .boolean), 403, 2, 5),
  (⟨"ResidualJudge$Plan", "findMoves", "()V"⟩, prog_7_method_4_code, 2, none, 407, 0, 5),
  (⟨"ResidualJudge$Plan", "leave", "(IIII)V"⟩, prog_7_method_9_code, 6, none, 411, 4, 5),
  (⟨"ResidualJudge$Plan", "keepMove", "(II)V"⟩, prog_7_method_13_code, 5, none, 415, 2, 5),
  (⟨"java/util/Arrays", "copyOf", "([II)[I"⟩, prog_20_method_123_code, 3, (some (.array .int)), 418, 2, 99),
  (⟨"ResidualJudge$Plan", "leaveTimes", "(IIII)V"⟩, prog_7_method_10_code, 6, none, 433, 4, 5),
  (⟨"ResidualJudge$Plan", "leaveMix", "(IIII)V"⟩, prog_7_method_11_code, 9, none, 437, 4, 5),
  (⟨"ResidualJudge$Plan", "leavePair", "(IIII)V"⟩, prog_7_method_12_code, 8, none, 441, 4, 5),
  (⟨"java/lang/Math", "max", "(II)I"⟩, prog_17_method_65_code, 2, (some .int), 445, 2, 99),
  (⟨"java/util/Arrays", "fill", "([II)V"⟩, prog_20_method_103_code, 4, none, 448, 2, 99),
  (⟨"ResidualJudge$Machine", "foundStand", "()I"⟩, prog_4_method_9_code, 4, (some .int), 453, 0, 2),
  (⟨"ResidualJudge$Machine", "chainOfFound", "()I"⟩, prog_4_method_13_code, 4, (some .int), 457, 0, 2),
  (⟨"ResidualJudge$Machine", "isFound", "(I)Z"⟩, prog_4_method_12_code, 3, (some .boolean), 462, 1, 2),
  (⟨"ResidualJudge$Machine", "newStand", "(I)I"⟩, prog_4_method_10_code, 4, (some .int), 467, 1, 2),
  (⟨"ResidualJudge$Machine", "makeRoom", "()V"⟩, prog_4_method_11_code, 1, none, 471, 0, 2),
  (⟨"java/util/Arrays", "copyOf", "([JI)[J"⟩, prog_20_method_124_code, 3, (some (.array .long)), 475, 2, 99),
  (⟨"ResidualJudge", "type", "(I)I"⟩, prog_1_method_2_code, 2, (some .int), 515, 1, 9),
  (⟨"ResidualJudge", "refuse", "(I)I"⟩, prog_1_method_16_code, 2, (some .int), 519, 1, 9),
  (⟨"ResidualJudge$Text", "add", "(I)V"⟩, prog_10_method_2_code, 2, none, 523, 1, 8),
  (⟨"ResidualJudge", "clear", "()I"⟩, prog_1_method_3_code, 2, (some .int), 527, 0, 9),
  (⟨"ResidualJudge", "reads", "()I"⟩, prog_1_method_4_code, 2, (some .int), 531, 0, 9),
  (⟨"ResidualJudge$GrammarReader", "readOrders", "(LResidualJudge$Text;[J)I"⟩, prog_3_method_2_code, 5, (some .int), 535, 2, 1),
  (⟨"ResidualJudge$Text", "at", "(I)I"⟩, prog_10_method_3_code, 2, (some .int), 540, 1, 8),
  (⟨"ResidualJudge$GrammarReader", "takes", "(I)Z"⟩, prog_3_method_3_code, 2, (some .boolean), 544, 1, 1),
  (⟨"ResidualJudge$GrammarReader", "takesOwner", "(I)Z"⟩, prog_3_method_4_code, 2, (some .boolean), 548, 1, 1),
  (⟨"ResidualJudge", "sortOf", "(I)I"⟩, prog_1_method_22_code, 1, (some .int), 551, 1, 9),
  (⟨"ResidualJudge$GrammarReader", "takesUnit", "(I)Z"⟩, prog_3_method_5_code, 3, (some .boolean), 555, 1, 1),
  (⟨"ResidualJudge$GrammarReader", "waitsFor", "(I)Z"⟩, prog_3_method_11_code, 2, (some .boolean), 559, 1, 1),
  (⟨"ResidualJudge$GrammarReader", "countsNode", "()Z"⟩, prog_3_method_7_code, 1, (some .boolean), 563, 0, 1),
  (⟨"ResidualJudge$GrammarReader", "places", "(I)Z"⟩, prog_3_method_13_code, 2, (some .boolean), 567, 1, 1),
  (⟨"ResidualJudge$GrammarReader", "takesBehindUnit", "(I)Z"⟩, prog_3_method_6_code, 2, (some .boolean), 571, 1, 1),
  (⟨"ResidualJudge$GrammarReader", "takesBetween", "(I)Z"⟩, prog_3_method_8_code, 2, (some .boolean), 575, 1, 1),
  (⟨"ResidualJudge$GrammarReader", "placeWaiting", "(I)V"⟩, prog_3_method_12_code, 2, none, 579, 1, 1),
  (⟨"ResidualJudge$GrammarReader", "takesClosing", "()Z"⟩, prog_3_method_9_code, 1, (some .boolean), 583, 0, 1),
  (⟨"ResidualJudge$GrammarReader", "takesEnd", "()Z"⟩, prog_3_method_10_code, 1, (some .boolean), 588, 0, 1),
  (⟨"ResidualJudge", "isOwner", "(I)Z"⟩, prog_1_method_21_code, 1, (some .boolean), 591, 1, 9),
  (⟨"ResidualJudge$Past", "keep", "(LResidualJudge$Scene;)V"⟩, prog_6_method_2_code, 2, none, 595, 1, 4),
  (⟨"ResidualJudge$Scene", "copyFrom", "(LResidualJudge$Scene;)V"⟩, prog_9_method_5_code, 2, none, 599, 1, 7),
  (⟨"ResidualJudge$Scene", "emptyRow", "(I)V"⟩, prog_9_method_2_code, 2, none, 606, 1, 7),
  (⟨"ResidualJudge", "clears", "(I)I"⟩, prog_1_method_5_code, 2, (some .int), 610, 1, 9),
  (⟨"ResidualJudge", "of", "(II)I"⟩, prog_1_method_6_code, 3, (some .int), 616, 2, 9),
  (⟨"ResidualJudge$Machines", "at", "(I)LResidualJudge$Machine;"⟩, prog_5_method_3_code, 2, (some (.object "ResidualJudge$Machine")), 620, 1, 3),
  (⟨"ResidualJudge", "ofPattern", "(LResidualJudge$Machine;I)I"⟩, prog_1_method_20_code, 2, (some .int), 624, 2, 9),
  (⟨"ResidualJudge$Machine", "isEnding", "(I)Z"⟩, prog_4_method_4_code, 2, (some .boolean), 628, 1, 2),
  (⟨"ResidualJudge$Machine", "traitsOf", "(I)I"⟩, prog_4_method_7_code, 2, (some .int), 632, 1, 2),
  (⟨"ResidualJudge$Machine", "due", "(I)I"⟩, prog_4_method_3_code, 2, (some .int), 636, 1, 2),
  (⟨"ResidualJudge$Plan", "shortestRow", "()I"⟩, prog_7_method_5_code, 1, (some .int), 640, 0, 5),
  (⟨"ResidualJudge", "rows", "(II)I"⟩, prog_1_method_7_code, 3, (some .int), 644, 2, 9),
  (⟨"ResidualJudge$RowCounter", "count", "(LResidualJudge$Machine;I)I"⟩, prog_8_method_2_code, 4, (some .int), 648, 2, 6),
  (⟨"ResidualJudge$RowCounter", "begin", "(LResidualJudge$Machine;)V"⟩, prog_8_method_3_code, 2, none, 652, 1, 6),
  (⟨"ResidualJudge$RowCounter", "lastSteps", "(LResidualJudge$Machine;)I"⟩, prog_8_method_4_code, 4, (some .int), 658, 1, 6),
  (⟨"ResidualJudge$Machine", "lastSteps", "(I)I"⟩, prog_4_method_5_code, 2, (some .int), 662, 1, 2),
  (⟨"java/lang/Integer", "bitCount", "(I)I"⟩, prog_15_method_49_code, 1, (some .int), 665, 1, 99),
  (⟨"ResidualJudge$RowCounter", "stepOn", "(LResidualJudge$Machine;)V"⟩, prog_8_method_5_code, 6, none, 672, 1, 6),
  (⟨"ResidualJudge$Machine", "step", "(II)I"⟩, prog_4_method_6_code, 4, (some .int), 677, 2, 2),
  (⟨"ResidualJudge$Machine", "findTargets", "(II)V"⟩, prog_4_method_8_code, 8, none, 682, 2, 2),
  (⟨"java/lang/Long", "bitCount", "(J)I"⟩, prog_16_method_50_code, 2, (some .int), 685, 1, 99),
  (⟨"ResidualJudge$Plan", "addTargets", "(II[J)I"⟩, prog_7_method_6_code, 7, (some .int), 692, 3, 5),
  (⟨"ResidualJudge", "judge", "(I)I"⟩, prog_1_method_8_code, 3, (some .int), 697, 1, 9),
  (⟨"ResidualJudge$BookJudge", "goThrough", "(LResidualJudge$Text;)I"⟩, prog_2_method_2_code, 5, (some .int), 701, 1, 0),
  (⟨"ResidualJudge$BookJudge", "begin", "()V"⟩, prog_2_method_4_code, 1, none, 705, 0, 0),
  (⟨"ResidualJudge$BookJudge", "takeLetter", "(II)V"⟩, prog_2_method_5_code, 5, none, 711, 2, 0),
  (⟨"ResidualJudge$BookJudge", "endBare", "(I)V"⟩, prog_2_method_8_code, 2, none, 715, 1, 0),
  (⟨"ResidualJudge$BookJudge", "endAt", "(III)V"⟩, prog_2_method_10_code, 5, none, 719, 3, 0),
  (⟨"ResidualJudge$BookJudge", "tellFlaw", "(ILResidualJudge$Machine;I)V"⟩, prog_2_method_11_code, 4, none, 725, 3, 0),
  (⟨"ResidualJudge$BookJudge", "takeOpening", "()V"⟩, prog_2_method_6_code, 1, none, 732, 0, 0),
  (⟨"ResidualJudge$BookJudge", "takeClosing", "(I)V"⟩, prog_2_method_7_code, 2, none, 736, 1, 0),
  (⟨"ResidualJudge$BookJudge", "endRow", "(I)V"⟩, prog_2_method_9_code, 2, none, 740, 1, 0),
  (⟨"ResidualJudge", "ofBook", "(I)I"⟩, prog_1_method_18_code, 2, (some .int), 744, 1, 9),
  (⟨"ResidualJudge", "mark", "()I"⟩, prog_1_method_9_code, 2, (some .int), 748, 0, 9),
  (⟨"ResidualJudge$BookJudge", "share", "()F"⟩, prog_2_method_3_code, 1, (some .float), 752, 0, 0),
  (⟨"ResidualJudge", "bitsOf", "(F)I"⟩, prog_1_method_23_code, 3, (some .int), 755, 1, 9),
  (⟨"ResidualJudge", "begins", "(I)I"⟩, prog_1_method_10_code, 2, (some .int), 760, 1, 9),
  (⟨"ResidualJudge", "ofRow", "(I)I"⟩, prog_1_method_19_code, 4, (some .int), 764, 1, 9),
  (⟨"ResidualJudge$Scene", "standIn", "(LResidualJudge$Machine;)I"⟩, prog_9_method_4_code, 4, (some .int), 768, 1, 7),
  (⟨"ResidualJudge", "steps", "(I)I"⟩, prog_1_method_11_code, 2, (some .int), 773, 1, 9),
  (⟨"ResidualJudge$Scene", "addToRow", "(I)V"⟩, prog_9_method_3_code, 2, none, 777, 1, 7),
  (⟨"ResidualJudge", "now", "(I)I"⟩, prog_1_method_12_code, 2, (some .int), 781, 1, 9),
  (⟨"ResidualJudge", "back", "()I"⟩, prog_1_method_13_code, 1, (some .int), 785, 0, 9),
  (⟨"ResidualJudge$Past", "restore", "(LResidualJudge$Scene;)V"⟩, prog_6_method_3_code, 2, none, 789, 1, 4),
  (⟨"ResidualJudge", "told", "(I)I"⟩, prog_1_method_14_code, 2, (some .int), 793, 1, 9),
  (⟨"ResidualJudge", "tally", "(I)I"⟩, prog_1_method_17_code, 2, (some .int), 797, 1, 9),
  (⟨"ResidualJudge", "digest", "()J"⟩, prog_1_method_15_code, 6, (some .long), 801, 0, 9),
  (⟨"ResidualJudgeModel", "<init>", "()V"⟩, prog_12_method_1_code, 2, none, 808, 0, 10),
  (⟨"ResidualJudgeModel", "empties", "(I)V"⟩, prog_12_method_6_code, 2, none, 813, 1, 10),
  (⟨"ResidualJudgeModel", "forgets", "()V"⟩, prog_12_method_7_code, 1, none, 817, 0, 10),
  (⟨"ResidualJudgeModel", "type", "(I)I"⟩, prog_12_method_18_code, 2, (some .int), 921, 1, 10),
  (⟨"ResidualJudgeModel", "in", "(JJJ)Z"⟩, prog_12_method_3_code, 6, (some .boolean), 925, 3, 10),
  (⟨"ResidualJudgeModel", "refuses", "(I)I"⟩, prog_12_method_4_code, 2, (some .int), 929, 1, 10),
  (⟨"ResidualJudgeModel", "clear", "()I"⟩, prog_12_method_19_code, 2, (some .int), 933, 0, 10),
  (⟨"ResidualJudgeModel", "reads", "()I"⟩, prog_12_method_30_code, 4, (some .int), 937, 0, 10),
  (⟨"ResidualJudgeModel", "takesOrder", "(Z)Z"⟩, prog_12_method_29_code, 5, (some .boolean), 941, 1, 10),
  (⟨"ResidualJudgeModel", "here", "()I"⟩, prog_12_method_20_code, 1, (some .int), 945, 0, 10),
  (⟨"ResidualJudgeModel", "takesPattern", "()Z"⟩, prog_12_method_28_code, 4, (some .boolean), 951, 0, 10),
  (⟨"ResidualJudgeModel", "takesUnit", "(I)Z"⟩, prog_12_method_26_code, 2, (some .boolean), 955, 1, 10),
  (⟨"ResidualJudgeModel", "node", "(III)V"⟩, prog_12_method_21_code, 5, none, 959, 3, 10),
  (⟨"ResidualJudgeModel", "reduces", "(I)V"⟩, prog_12_method_23_code, 4, none, 963, 1, 10),
  (⟨"ResidualJudgeModel", "binds", "(I)I"⟩, prog_12_method_24_code, 1, (some .int), 966, 1, 10),
  (⟨"ResidualJudgeModel", "pops", "()I"⟩, prog_12_method_22_code, 1, (some .int), 970, 0, 10),
  (⟨"ResidualJudgeModel", "operator", "(I)I"⟩, prog_12_method_25_code, 1, (some .int), 973, 1, 10),
  (⟨"ResidualJudgeModel", "takesOperator", "(I)Z"⟩, prog_12_method_27_code, 3, (some .boolean), 977, 1, 10),
  (⟨"ResidualJudgeModel", "keep", "()V"⟩, prog_12_method_5_code, 2, none, 981, 0, 10),
  (⟨"ResidualJudgeModel", "clears", "(I)I"⟩, prog_12_method_32_code, 2, (some .int), 985, 1, 10),
  (⟨"ResidualJudgeModel", "isPattern", "(I)Z"⟩, prog_12_method_31_code, 1, (some .boolean), 988, 1, 10),
  (⟨"ResidualJudgeModel", "of", "(II)I"⟩, prog_12_method_35_code, 3, (some .int), 993, 2, 10),
  (⟨"ResidualJudgeModel", "ofPattern", "(II)I"⟩, prog_12_method_34_code, 5, (some .int), 998, 2, 10),
  (⟨"ResidualJudgeModel", "loads", "(I)V"⟩, prog_12_method_8_code, 6, none, 1002, 1, 10),
  (⟨"ResidualJudgeModel", "isEmptyBy", "(III)Z"⟩, prog_12_method_9_code, 4, (some .boolean), 1006, 3, 10),
  (⟨"ResidualJudgeModel", "leastLong", "()I"⟩, prog_12_method_33_code, 4, (some .int), 1010, 0, 10),
  (⟨"ResidualJudgeModel", "starts", "(I)V"⟩, prog_12_method_15_code, 2, none, 1014, 1, 10),
  (⟨"ResidualJudgeModel", "due", "(I)I"⟩, prog_12_method_16_code, 4, (some .int), 1018, 1, 10),
  (⟨"ResidualJudgeModel", "goes", "(III)Z"⟩, prog_12_method_14_code, 8, (some .boolean), 1022, 3, 10),
  (⟨"ResidualJudgeModel", "ends", "(I)Z"⟩, prog_12_method_10_code, 6, (some .boolean), 1026, 1, 10),
  (⟨"ResidualJudgeModel", "readsLetter", "(III)V"⟩, prog_12_method_13_code, 8, none, 1030, 3, 10),
  (⟨"ResidualJudgeModel", "isFirst", "(II)Z"⟩, prog_12_method_11_code, 6, (some .boolean), 1034, 2, 10),
  (⟨"ResidualJudgeModel", "adds", "(II)V"⟩, prog_12_method_12_code, 4, none, 1038, 2, 10),
  (⟨"ResidualJudgeModel", "rows", "(II)I"⟩, prog_12_method_37_code, 3, (some .int), 1042, 2, 10),
  (⟨"ResidualJudgeModel", "rowsOf", "(II)I"⟩, prog_12_method_36_code, 5, (some .int), 1047, 2, 10),
  (⟨"ResidualJudgeModel", "mayEnd", "(I)Z"⟩, prog_12_method_17_code, 4, (some .boolean), 1051, 1, 10),
  (⟨"ResidualJudgeModel", "judge", "(I)I"⟩, prog_12_method_44_code, 3, (some .int), 1055, 1, 10),
  (⟨"ResidualJudgeModel", "bookFault", "()I"⟩, prog_12_method_38_code, 7, (some .int), 1060, 0, 10),
  (⟨"ResidualJudgeModel", "judges", "()V"⟩, prog_12_method_42_code, 3, none, 1064, 0, 10),
  (⟨"ResidualJudgeModel", "isEndFlawed", "(II)Z"⟩, prog_12_method_41_code, 3, (some .boolean), 1068, 2, 10),
  (⟨"ResidualJudgeModel", "isFlaw", "(II)Z"⟩, prog_12_method_39_code, 3, (some .boolean), 1072, 2, 10),
  (⟨"ResidualJudgeModel", "isFlawed", "(II)Z"⟩, prog_12_method_40_code, 5, (some .boolean), 1076, 2, 10),
  (⟨"ResidualJudgeModel", "judged", "(I)I"⟩, prog_12_method_43_code, 2, (some .int), 1080, 1, 10),
  (⟨"ResidualJudgeModel", "mark", "()I"⟩, prog_12_method_45_code, 4, (some .int), 1084, 0, 10),
  (⟨"java/lang/Float", "floatToIntBits", "(F)I"⟩, prog_14_method_24_code, 1, (some .int), 1087, 1, 99),
  (⟨"java/lang/Float", "isNaN", "(F)Z"⟩, prog_14_method_6_code, 1, (some .boolean), 1090, 1, 99),
  (⟨"ResidualJudgeModel", "begins", "(I)I"⟩, prog_12_method_48_code, 2, (some .int), 1098, 1, 10),
  (⟨"ResidualJudgeModel", "goesRow", "()V"⟩, prog_12_method_47_code, 4, none, 1102, 0, 10),
  (⟨"ResidualJudgeModel", "rowLong", "()I"⟩, prog_12_method_46_code, 1, (some .int), 1106, 0, 10),
  (⟨"ResidualJudgeModel", "steps", "(I)I"⟩, prog_12_method_49_code, 2, (some .int), 1110, 1, 10),
  (⟨"ResidualJudgeModel", "now", "(I)I"⟩, prog_12_method_51_code, 2, (some .int), 1115, 1, 10),
  (⟨"ResidualJudgeModel", "nowOf", "(I)I"⟩, prog_12_method_50_code, 2, (some .int), 1119, 1, 10),
  (⟨"ResidualJudgeModel", "back", "()I"⟩, prog_12_method_52_code, 2, (some .int), 1123, 0, 10),
  (⟨"ResidualJudgeModel", "told", "(I)I"⟩, prog_12_method_54_code, 2, (some .int), 1127, 1, 10),
  (⟨"ResidualJudgeModel", "toldOf", "(I)I"⟩, prog_12_method_53_code, 2, (some .int), 1132, 1, 10),
  (⟨"ResidualJudgeModel", "digest", "()J"⟩, prog_12_method_55_code, 5, (some .long), 1136, 0, 10)]
def mI (μ : Nat) : MethodName × ByteArray × Nat × Option FieldType × Nat × Nat × Nat := mTab.getD μ (⟨"", "", ""⟩, ⟨#[]⟩, 0, none, 0, 0, 99)
def mY (μ : Nat) : MethodName := (mI μ).1
def mB (μ : Nat) : ByteArray := (mI μ).2.1
def mL (μ : Nat) : Nat := (mI μ).2.2.1
def mR (μ : Nat) : Option FieldType := (mI μ).2.2.2.1
def mP (μ : Nat) : Nat := (mI μ).2.2.2.2.2.1
def mK (μ : Nat) : Nat := (mI μ).2.2.2.2.2.2
def mN : Nat := 156
def mW (μ : Nat) : List Cond := Cond.code (mY μ) (mB μ) (mL μ) (mR μ) :: lw_tbl.filter goodWord
def nmMin : MethodName := ⟨"java/lang/Math", "min", "(II)I"⟩
def nmMax : MethodName := ⟨"java/lang/Math", "max", "(II)I"⟩
def nmF2I : MethodName := ⟨"java/lang/Float", "floatToIntBits", "(F)I"⟩
def nmNaN : MethodName := ⟨"java/lang/Float", "isNaN", "(F)Z"⟩
theorem pfMin : plainFor nmMin = true := by
  unfold plainFor
  rw [show (NativeRow.find? Jvm.natives nmMin.cls nmMin.name nmMin.desc).isNone = true by decide +kernel, Bool.or_true]
theorem pfMax : plainFor nmMax = true := by
  unfold plainFor
  rw [show (NativeRow.find? Jvm.natives nmMax.cls nmMax.name nmMax.desc).isNone = true by decide +kernel, Bool.or_true]
theorem pfF2I : plainFor nmF2I = true := by
  unfold plainFor
  rw [show (NativeRow.find? Jvm.natives nmF2I.cls nmF2I.name nmF2I.desc).isNone = true by decide +kernel, Bool.or_true]
theorem pfNaN : plainFor nmNaN = true := by
  unfold plainFor
  rw [show (NativeRow.find? Jvm.natives nmNaN.cls nmNaN.name nmNaN.desc).isNone = true by decide +kernel, Bool.or_true]
def mOkB (q : MethodName × ByteArray × Nat × Option FieldType × Nat × Nat × Nat) : Bool := (plainName q.1.cls || q.1 == nmMin || q.1 == nmMax || q.1 == nmF2I || q.1 == nmNaN) && !(q.1.cls == "java/lang/invoke/MethodHandle") && !(q.1.cls == "java/lang/invoke/VarHandle") && lw_tbl.contains (Cond.initialized q.1.cls) && decide (q.2.2.1 ≤ 80) && ((parseMethodDescriptor q.1.desc).map (fun d => d.parameters.length) == some q.2.2.2.2.2.1) && (q.2.2.2.2.2.2 == 99 || (decide (q.2.2.2.2.2.2 < 11) && (aCl.getD q.2.2.2.2.2.2 ("", TX0, 0)).1 == q.1.cls))
theorem mOk : mTab.all mOkB = true := by decide +kernel
set_option maxRecDepth 100000 in
theorem mCode : mTab.map (fun q => lw_tbl[q.2.2.2.2.1]?) = mTab.map (fun q => some (Cond.code q.1 q.2.1 q.2.2.1 q.2.2.2.1)) := rfl
/-- the links of fields: the class whose pool it is, the entry, class number and field number, nest mate, host, place -/
def fTab : List (String × Nat × Nat × Nat × Bool × String × Nat) := [
  ("ResidualJudge$BookJudge", 9, 0, 1, false, "", 339),
  ("ResidualJudge$BookJudge", 15, 0, 2, false, "", 340),
  ("ResidualJudge$BookJudge", 18, 0, 0, false, "", 338),
  ("ResidualJudge$BookJudge", 25, 8, 1, true, "ResidualJudge", 110),
  ("ResidualJudge$BookJudge", 42, 0, 4, false, "", 342),
  ("ResidualJudge$BookJudge", 45, 0, 3, false, "", 341),
  ("ResidualJudge$BookJudge", 61, 0, 8, false, "", 349),
  ("ResidualJudge$BookJudge", 64, 0, 5, false, "", 343),
  ("ResidualJudge$BookJudge", 67, 0, 9, false, "", 351),
  ("ResidualJudge$BookJudge", 72, 0, 6, false, "", 345),
  ("ResidualJudge$BookJudge", 75, 0, 7, false, "", 347),
  ("ResidualJudge$BookJudge", 79, 0, 10, false, "", 352),
  ("ResidualJudge$GrammarReader", 9, 1, 0, false, "", 174),
  ("ResidualJudge$GrammarReader", 15, 1, 1, false, "", 176),
  ("ResidualJudge$GrammarReader", 25, 1, 8, false, "", 183),
  ("ResidualJudge$GrammarReader", 29, 1, 9, false, "", 184),
  ("ResidualJudge$GrammarReader", 32, 8, 1, true, "ResidualJudge", 112),
  ("ResidualJudge$GrammarReader", 57, 1, 7, false, "", 182),
  ("ResidualJudge$GrammarReader", 60, 1, 2, false, "", 177),
  ("ResidualJudge$GrammarReader", 63, 1, 3, false, "", 178),
  ("ResidualJudge$GrammarReader", 66, 1, 4, false, "", 179),
  ("ResidualJudge$GrammarReader", 69, 1, 5, false, "", 180),
  ("ResidualJudge$GrammarReader", 72, 1, 6, false, "", 181),
  ("ResidualJudge$Machine", 12, 2, 0, false, "", 271),
  ("ResidualJudge$Machine", 18, 2, 4, false, "", 277),
  ("ResidualJudge$Machine", 22, 2, 5, false, "", 278),
  ("ResidualJudge$Machine", 26, 2, 6, false, "", 279),
  ("ResidualJudge$Machine", 29, 2, 7, false, "", 280),
  ("ResidualJudge$Machine", 32, 2, 8, false, "", 281),
  ("ResidualJudge$Machine", 35, 2, 9, false, "", 282),
  ("ResidualJudge$Machine", 38, 2, 11, false, "", 284),
  ("ResidualJudge$Machine", 41, 2, 1, false, "", 273),
  ("ResidualJudge$Machine", 55, 5, 6, true, "ResidualJudge", 231),
  ("ResidualJudge$Machine", 68, 2, 2, false, "", 274),
  ("ResidualJudge$Machine", 71, 2, 3, false, "", 275),
  ("ResidualJudge$Machine", 74, 2, 12, false, "", 287),
  ("ResidualJudge$Machine", 86, 5, 8, true, "ResidualJudge", 236),
  ("ResidualJudge$Machine", 87, 2, 10, false, "", 283),
  ("ResidualJudge$Machines", 11, 3, 0, false, "", 315),
  ("ResidualJudge$Past", 11, 4, 0, false, "", 157),
  ("ResidualJudge$Past", 18, 4, 2, false, "", 160),
  ("ResidualJudge$Past", 26, 4, 1, false, "", 158),
  ("ResidualJudge$Plan", 9, 5, 0, false, "", 225),
  ("ResidualJudge$Plan", 15, 5, 1, false, "", 226),
  ("ResidualJudge$Plan", 18, 5, 2, false, "", 227),
  ("ResidualJudge$Plan", 21, 5, 3, false, "", 228),
  ("ResidualJudge$Plan", 24, 5, 4, false, "", 229),
  ("ResidualJudge$Plan", 27, 5, 8, false, "", 235),
  ("ResidualJudge$Plan", 30, 5, 9, false, "", 237),
  ("ResidualJudge$Plan", 33, 5, 10, false, "", 238),
  ("ResidualJudge$Plan", 36, 5, 11, false, "", 239),
  ("ResidualJudge$Plan", 39, 5, 5, false, "", 230),
  ("ResidualJudge$Plan", 43, 5, 7, false, "", 233),
  ("ResidualJudge$Plan", 56, 5, 6, false, "", 232),
  ("ResidualJudge$Plan", 63, 5, 12, false, "", 240),
  ("ResidualJudge$Plan", 66, 5, 13, false, "", 241),
  ("ResidualJudge$RowCounter", 11, 6, 0, false, "", 325),
  ("ResidualJudge$RowCounter", 15, 6, 1, false, "", 326),
  ("ResidualJudge$RowCounter", 18, 2, 12, true, "ResidualJudge", 286),
  ("ResidualJudge$RowCounter", 28, 2, 11, true, "ResidualJudge", 285),
  ("ResidualJudge$RowCounter", 48, 2, 3, true, "ResidualJudge", 276),
  ("ResidualJudge$Scene", 9, 7, 0, false, "", 129),
  ("ResidualJudge$Scene", 15, 7, 1, false, "", 131),
  ("ResidualJudge$Scene", 19, 7, 3, false, "", 135),
  ("ResidualJudge$Scene", 31, 7, 2, false, "", 133),
  ("ResidualJudge$Text", 9, 8, 0, false, "", 108),
  ("ResidualJudge$Text", 15, 8, 1, false, "", 109),
  ("ResidualJudge", 10, 9, 0, false, "", 481),
  ("ResidualJudge", 19, 9, 1, false, "", 482),
  ("ResidualJudge", 26, 9, 2, false, "", 483),
  ("ResidualJudge", 33, 9, 3, false, "", 484),
  ("ResidualJudge", 40, 9, 4, false, "", 485),
  ("ResidualJudge", 47, 9, 5, false, "", 486),
  ("ResidualJudge", 56, 9, 6, false, "", 487),
  ("ResidualJudge", 60, 7, 0, true, "ResidualJudge", 130),
  ("ResidualJudge", 72, 8, 1, true, "ResidualJudge", 111),
  ("ResidualJudge", 88, 1, 0, true, "ResidualJudge", 175),
  ("ResidualJudge", 133, 7, 2, true, "ResidualJudge", 134),
  ("ResidualJudge", 137, 4, 1, true, "ResidualJudge", 159),
  ("ResidualJudge", 149, 7, 1, true, "ResidualJudge", 132),
  ("ResidualJudge", 153, 9, 7, false, "", 488),
  ("ResidualJudge", 156, 9, 8, false, "", 489),
  ("ResidualJudge", 159, 9, 9, false, "", 490),
  ("ResidualJudge", 162, 0, 5, true, "ResidualJudge", 344),
  ("ResidualJudge", 165, 0, 6, true, "ResidualJudge", 346),
  ("ResidualJudge", 168, 0, 7, true, "ResidualJudge", 348),
  ("ResidualJudge", 172, 0, 8, true, "ResidualJudge", 350),
  ("ResidualJudge", 175, 0, 10, true, "ResidualJudge", 353),
  ("ResidualJudge", 178, 7, 3, true, "ResidualJudge", 136),
  ("ResidualJudge", 192, 2, 0, true, "ResidualJudge", 272),
  ("ResidualJudge", 196, 5, 7, true, "ResidualJudge", 234),
  ("ResidualJudgeModel", 7, 10, 0, false, "", 818),
  ("ResidualJudgeModel", 13, 10, 1, false, "", 819),
  ("ResidualJudgeModel", 16, 10, 3, false, "", 821),
  ("ResidualJudgeModel", 19, 10, 5, false, "", 823),
  ("ResidualJudgeModel", 22, 10, 6, false, "", 824),
  ("ResidualJudgeModel", 25, 10, 7, false, "", 825),
  ("ResidualJudgeModel", 28, 10, 8, false, "", 826),
  ("ResidualJudgeModel", 31, 10, 9, false, "", 827),
  ("ResidualJudgeModel", 34, 10, 10, false, "", 828),
  ("ResidualJudgeModel", 37, 10, 11, false, "", 829),
  ("ResidualJudgeModel", 40, 10, 12, false, "", 830),
  ("ResidualJudgeModel", 43, 10, 13, false, "", 831),
  ("ResidualJudgeModel", 46, 10, 14, false, "", 832),
  ("ResidualJudgeModel", 49, 10, 15, false, "", 833),
  ("ResidualJudgeModel", 52, 10, 18, false, "", 836),
  ("ResidualJudgeModel", 55, 10, 19, false, "", 837),
  ("ResidualJudgeModel", 58, 10, 21, false, "", 839),
  ("ResidualJudgeModel", 61, 10, 25, false, "", 843),
  ("ResidualJudgeModel", 64, 10, 26, false, "", 844),
  ("ResidualJudgeModel", 67, 10, 29, false, "", 847),
  ("ResidualJudgeModel", 77, 10, 2, false, "", 820),
  ("ResidualJudgeModel", 81, 10, 4, false, "", 822),
  ("ResidualJudgeModel", 117, 10, 16, false, "", 834),
  ("ResidualJudgeModel", 120, 10, 17, false, "", 835),
  ("ResidualJudgeModel", 123, 10, 20, false, "", 838),
  ("ResidualJudgeModel", 126, 10, 22, false, "", 840),
  ("ResidualJudgeModel", 139, 10, 24, false, "", 842),
  ("ResidualJudgeModel", 146, 10, 23, false, "", 841),
  ("ResidualJudgeModel", 206, 10, 27, false, "", 845),
  ("ResidualJudgeModel", 209, 10, 28, false, "", 846),
  ("ResidualJudgeModel", 212, 10, 30, false, "", 848),
  ("ResidualJudgeModel", 215, 10, 31, false, "", 849),
  ("ResidualJudgeModel", 218, 10, 32, false, "", 850)]
def clT (ci : Nat) : vw_C := aCl.getD ci ("", TX0, 0)
def fOkB (q : String × Nat × Nat × Nat × Bool × String × Nat) : Bool := match q with
  | (own, idx, ci, k, nest, host, pl) => decide (ci < 11) && decide (k < (clT ci).2.2) && (lw_tbl[pl]? == some (if nest then Cond.fieldLinkNest own idx (clT ci).1 ((clT ci).2.1 k).2.1 ((clT ci).2.1 k).2.2.1 host else Cond.fieldLink own idx (clT ci).1 ((clT ci).2.1 k).2.1 ((clT ci).2.1 k).2.2.1)) && (((clT ci).2.1 k).1 == (clT ci).1)
theorem fOk : fTab.all fOkB = true := by decide +kernel
/-- the links of methods: the class whose pool it is, the entry, the method, how it is called (0 virtual, 1 static, 2 init; 3, 4, 5 of nest mates), host, places of its words -/
def cTab : List (String × Nat × Nat × Nat × String × Nat × Nat × Nat) := [
  ("ResidualJudge", 9, 1, 5, "ResidualJudge", 104, 105, 0),
  ("ResidualJudge", 18, 2, 2, "", 121, 122, 0),
  ("ResidualJudge", 25, 4, 2, "", 150, 151, 0),
  ("ResidualJudge", 32, 5, 5, "ResidualJudge", 170, 171, 0),
  ("ResidualJudge", 39, 6, 2, "", 208, 209, 0),
  ("ResidualJudge", 46, 9, 5, "ResidualJudge", 321, 322, 0),
  ("ResidualJudge", 53, 10, 2, "", 334, 335, 0),
  ("ResidualJudge", 64, 11, 0, "", 377, 378, 379),
  ("ResidualJudge", 68, 34, 0, "", 516, 518, 12),
  ("ResidualJudge", 76, 35, 0, "", 520, 521, 522),
  ("ResidualJudge", 80, 38, 0, "", 532, 533, 534),
  ("ResidualJudge", 84, 53, 0, "", 592, 593, 594),
  ("ResidualJudge", 95, 55, 0, "", 603, 604, 605),
  ("ResidualJudge", 98, 52, 1, "", 611, 590, 0),
  ("ResidualJudge", 104, 58, 0, "", 617, 618, 619),
  ("ResidualJudge", 108, 59, 1, "", 622, 623, 0),
  ("ResidualJudge", 112, 65, 0, "", 645, 646, 647),
  ("ResidualJudge", 115, 76, 0, "", 698, 699, 700),
  ("ResidualJudge", 119, 85, 0, "", 741, 743, 37),
  ("ResidualJudge", 122, 87, 0, "", 749, 750, 751),
  ("ResidualJudge", 126, 88, 1, "", 753, 754, 0),
  ("ResidualJudge", 130, 90, 0, "", 761, 763, 38),
  ("ResidualJudge", 134, 93, 0, "", 774, 775, 776),
  ("ResidualJudge", 139, 96, 0, "", 786, 787, 788),
  ("ResidualJudge", 142, 98, 0, "", 794, 796, 39),
  ("ResidualJudge", 181, 91, 0, "", 765, 766, 767),
  ("ResidualJudge", 185, 60, 0, "", 625, 626, 627),
  ("ResidualJudge", 190, 62, 0, "", 633, 634, 635),
  ("ResidualJudge", 201, 63, 0, "", 637, 638, 639),
  ("ResidualJudge$BookJudge", 22, 77, 0, "", 702, 704, 29),
  ("ResidualJudge$BookJudge", 31, 39, 0, "", 706, 538, 539),
  ("ResidualJudge$BookJudge", 35, 42, 4, "ResidualJudge", 707, 550, 0),
  ("ResidualJudge$BookJudge", 38, 78, 0, "", 708, 710, 30),
  ("ResidualJudge$BookJudge", 48, 82, 0, "", 729, 731, 34),
  ("ResidualJudge$BookJudge", 51, 83, 0, "", 733, 735, 35),
  ("ResidualJudge$BookJudge", 55, 79, 0, "", 712, 714, 31),
  ("ResidualJudge$BookJudge", 58, 84, 0, "", 737, 739, 36),
  ("ResidualJudge$BookJudge", 82, 58, 0, "", 720, 618, 619),
  ("ResidualJudge$BookJudge", 87, 71, 0, "", 727, 675, 676),
  ("ResidualJudge$BookJudge", 91, 81, 0, "", 722, 724, 33),
  ("ResidualJudge$BookJudge", 95, 25, 1, "", 728, 444, 0),
  ("ResidualJudge$BookJudge", 100, 80, 0, "", 716, 718, 32),
  ("ResidualJudge$BookJudge", 104, 60, 0, "", 721, 626, 627),
  ("ResidualJudge$BookJudge", 108, 62, 0, "", 726, 634, 635),
  ("ResidualJudge$GrammarReader", 37, 39, 0, "", 537, 538, 539),
  ("ResidualJudge$GrammarReader", 41, 40, 0, "", 541, 543, 13),
  ("ResidualJudge$GrammarReader", 45, 41, 0, "", 545, 547, 14),
  ("ResidualJudge$GrammarReader", 48, 43, 0, "", 552, 554, 15),
  ("ResidualJudge$GrammarReader", 51, 47, 0, "", 568, 570, 19),
  ("ResidualJudge$GrammarReader", 54, 42, 4, "ResidualJudge", 549, 550, 0),
  ("ResidualJudge$GrammarReader", 76, 44, 0, "", 556, 558, 16),
  ("ResidualJudge$GrammarReader", 79, 45, 0, "", 560, 562, 17),
  ("ResidualJudge$GrammarReader", 83, 46, 0, "", 564, 566, 18),
  ("ResidualJudge$GrammarReader", 86, 48, 0, "", 572, 574, 20),
  ("ResidualJudge$GrammarReader", 89, 50, 0, "", 580, 582, 22),
  ("ResidualJudge$GrammarReader", 92, 51, 0, "", 585, 587, 23),
  ("ResidualJudge$GrammarReader", 95, 49, 0, "", 576, 578, 21),
  ("ResidualJudge$GrammarReader", 99, 25, 1, "", 584, 444, 0),
  ("ResidualJudge$GrammarReader", 105, 52, 4, "ResidualJudge", 589, 590, 0),
  ("ResidualJudge$Machine", 11, 8, 5, "ResidualJudge", 221, 222, 0),
  ("ResidualJudge$Machine", 45, 13, 0, "", 385, 386, 387),
  ("ResidualJudge$Machine", 49, 16, 0, "", 396, 397, 398),
  ("ResidualJudge$Machine", 52, 18, 0, "", 404, 405, 406),
  ("ResidualJudge$Machine", 59, 15, 1, "", 442, 394, 0),
  ("ResidualJudge$Machine", 65, 25, 1, "", 443, 444, 0),
  ("ResidualJudge$Machine", 77, 26, 1, "", 446, 447, 0),
  ("ResidualJudge$Machine", 83, 3, 1, "", 449, 127, 0),
  ("ResidualJudge$Machine", 90, 27, 0, "", 450, 452, 7),
  ("ResidualJudge$Machine", 94, 61, 0, "", 629, 631, 24),
  ("ResidualJudge$Machine", 98, 69, 1, "", 663, 664, 0),
  ("ResidualJudge$Machine", 103, 62, 0, "", 678, 634, 635),
  ("ResidualJudge$Machine", 106, 72, 0, "", 679, 681, 28),
  ("ResidualJudge$Machine", 110, 73, 1, "", 683, 684, 0),
  ("ResidualJudge$Machine", 115, 74, 0, "", 689, 690, 691),
  ("ResidualJudge$Machine", 119, 28, 0, "", 454, 456, 8),
  ("ResidualJudge$Machine", 122, 29, 0, "", 459, 461, 9),
  ("ResidualJudge$Machine", 127, 30, 0, "", 464, 466, 10),
  ("ResidualJudge$Machine", 130, 31, 0, "", 468, 470, 11),
  ("ResidualJudge$Machine", 133, 21, 1, "", 472, 417, 0),
  ("ResidualJudge$Machine", 137, 32, 1, "", 473, 474, 0),
  ("ResidualJudge$Machines", 17, 7, 5, "ResidualJudge", 215, 216, 0),
  ("ResidualJudge$Machines", 18, 12, 0, "", 381, 382, 383),
  ("ResidualJudge$Machines", 22, 52, 4, "ResidualJudge", 621, 590, 0),
  ("ResidualJudge$Past", 17, 2, 2, "", 156, 122, 0),
  ("ResidualJudge$Past", 22, 54, 0, "", 596, 597, 598),
  ("ResidualJudge$Past", 29, 15, 1, "", 601, 394, 0),
  ("ResidualJudge$Plan", 46, 14, 0, "", 389, 391, 0),
  ("ResidualJudge$Plan", 50, 15, 1, "", 393, 394, 0),
  ("ResidualJudge$Plan", 59, 17, 0, "", 400, 402, 1),
  ("ResidualJudge$Plan", 69, 19, 0, "", 408, 410, 2),
  ("ResidualJudge$Plan", 73, 20, 0, "", 412, 414, 3),
  ("ResidualJudge$Plan", 77, 22, 0, "", 430, 432, 4),
  ("ResidualJudge$Plan", 80, 23, 0, "", 434, 436, 5),
  ("ResidualJudge$Plan", 83, 24, 0, "", 438, 440, 6),
  ("ResidualJudge$Plan", 86, 21, 1, "", 416, 417, 0),
  ("ResidualJudge$RowCounter", 24, 66, 0, "", 649, 651, 25),
  ("ResidualJudge$RowCounter", 31, 67, 0, "", 655, 657, 26),
  ("ResidualJudge$RowCounter", 35, 70, 0, "", 669, 671, 27),
  ("ResidualJudge$RowCounter", 38, 26, 1, "", 653, 447, 0),
  ("ResidualJudge$RowCounter", 44, 60, 0, "", 654, 626, 627),
  ("ResidualJudge$RowCounter", 51, 68, 0, "", 659, 660, 661),
  ("ResidualJudge$RowCounter", 54, 15, 1, "", 673, 394, 0),
  ("ResidualJudge$RowCounter", 60, 71, 0, "", 674, 675, 676),
  ("ResidualJudge$RowCounter", 63, 21, 1, "", 693, 417, 0),
  ("ResidualJudge$Scene", 25, 3, 1, "", 126, 127, 0),
  ("ResidualJudge$Scene", 36, 71, 0, "", 769, 675, 676),
  ("ResidualJudgeLaw", 9, 0, 2, "", 96, 97, 0),
  ("ResidualJudgeLaw", 12, 100, 2, "", 806, 807, 0),
  ("ResidualJudgeLaw", 13, 33, 0, "", 512, 513, 514),
  ("ResidualJudgeLaw", 17, 103, 0, "", 918, 919, 920),
  ("ResidualJudgeLaw", 18, 36, 0, "", 524, 525, 526),
  ("ResidualJudgeLaw", 22, 106, 0, "", 930, 931, 932),
  ("ResidualJudgeLaw", 23, 37, 0, "", 528, 529, 530),
  ("ResidualJudgeLaw", 26, 107, 0, "", 934, 935, 936),
  ("ResidualJudgeLaw", 27, 56, 0, "", 607, 608, 609),
  ("ResidualJudgeLaw", 30, 119, 0, "", 982, 983, 984),
  ("ResidualJudgeLaw", 31, 57, 0, "", 613, 614, 615),
  ("ResidualJudgeLaw", 35, 121, 0, "", 990, 991, 992),
  ("ResidualJudgeLaw", 36, 64, 0, "", 641, 642, 643),
  ("ResidualJudgeLaw", 39, 133, 0, "", 1039, 1040, 1041),
  ("ResidualJudgeLaw", 40, 75, 0, "", 694, 695, 696),
  ("ResidualJudgeLaw", 43, 136, 0, "", 1052, 1053, 1054),
  ("ResidualJudgeLaw", 44, 86, 0, "", 745, 746, 747),
  ("ResidualJudgeLaw", 47, 143, 0, "", 1081, 1082, 1083),
  ("ResidualJudgeLaw", 48, 89, 0, "", 757, 758, 759),
  ("ResidualJudgeLaw", 51, 146, 0, "", 1095, 1096, 1097),
  ("ResidualJudgeLaw", 52, 92, 0, "", 770, 771, 772),
  ("ResidualJudgeLaw", 55, 149, 0, "", 1107, 1108, 1109),
  ("ResidualJudgeLaw", 56, 94, 0, "", 778, 779, 780),
  ("ResidualJudgeLaw", 59, 150, 0, "", 1112, 1113, 1114),
  ("ResidualJudgeLaw", 60, 95, 0, "", 782, 783, 784),
  ("ResidualJudgeLaw", 63, 152, 0, "", 1120, 1121, 1122),
  ("ResidualJudgeLaw", 64, 97, 0, "", 790, 791, 792),
  ("ResidualJudgeLaw", 67, 153, 0, "", 1124, 1125, 1126),
  ("ResidualJudgeLaw", 68, 99, 0, "", 798, 799, 800),
  ("ResidualJudgeLaw", 72, 155, 0, "", 1133, 1134, 1135),
  ("ResidualJudgeModel", 70, 101, 0, "", 810, 812, 40),
  ("ResidualJudgeModel", 74, 102, 0, "", 814, 816, 41),
  ("ResidualJudgeModel", 84, 124, 0, "", 1003, 1005, 54),
  ("ResidualJudgeModel", 88, 131, 0, "", 1031, 1033, 61),
  ("ResidualJudgeModel", 92, 132, 0, "", 1035, 1037, 62),
  ("ResidualJudgeModel", 96, 129, 0, "", 1023, 1025, 59),
  ("ResidualJudgeModel", 100, 130, 0, "", 1027, 1029, 60),
  ("ResidualJudgeModel", 104, 128, 0, "", 1019, 1021, 58),
  ("ResidualJudgeModel", 109, 104, 1, "", 923, 924, 0),
  ("ResidualJudgeModel", 113, 105, 0, "", 926, 928, 42),
  ("ResidualJudgeModel", 129, 114, 1, "", 964, 965, 0),
  ("ResidualJudgeModel", 132, 115, 0, "", 967, 969, 49),
  ("ResidualJudgeModel", 136, 112, 0, "", 956, 958, 47),
  ("ResidualJudgeModel", 149, 113, 0, "", 960, 962, 48),
  ("ResidualJudgeModel", 152, 109, 0, "", 942, 944, 44),
  ("ResidualJudgeModel", 155, 111, 0, "", 952, 954, 46),
  ("ResidualJudgeModel", 158, 116, 1, "", 971, 972, 0),
  ("ResidualJudgeModel", 161, 117, 0, "", 974, 976, 50),
  ("ResidualJudgeModel", 164, 110, 0, "", 948, 950, 45),
  ("ResidualJudgeModel", 168, 108, 0, "", 938, 940, 43),
  ("ResidualJudgeModel", 172, 118, 0, "", 978, 980, 51),
  ("ResidualJudgeModel", 177, 120, 1, "", 986, 987, 0),
  ("ResidualJudgeModel", 180, 123, 0, "", 999, 1001, 53),
  ("ResidualJudgeModel", 183, 125, 0, "", 1007, 1009, 55),
  ("ResidualJudgeModel", 186, 126, 0, "", 1011, 1013, 56),
  ("ResidualJudgeModel", 189, 127, 0, "", 1015, 1017, 57),
  ("ResidualJudgeModel", 194, 122, 0, "", 995, 997, 52),
  ("ResidualJudgeModel", 198, 135, 0, "", 1048, 1050, 64),
  ("ResidualJudgeModel", 203, 134, 0, "", 1044, 1046, 63),
  ("ResidualJudgeModel", 221, 140, 0, "", 1069, 1071, 68),
  ("ResidualJudgeModel", 224, 139, 0, "", 1065, 1067, 67),
  ("ResidualJudgeModel", 227, 141, 0, "", 1073, 1075, 69),
  ("ResidualJudgeModel", 232, 137, 0, "", 1057, 1059, 65),
  ("ResidualJudgeModel", 235, 138, 0, "", 1061, 1063, 66),
  ("ResidualJudgeModel", 238, 142, 0, "", 1077, 1079, 70),
  ("ResidualJudgeModel", 241, 144, 1, "", 1085, 1086, 0),
  ("ResidualJudgeModel", 247, 148, 0, "", 1103, 1105, 72),
  ("ResidualJudgeModel", 250, 147, 0, "", 1099, 1101, 71),
  ("ResidualJudgeModel", 255, 151, 0, "", 1116, 1118, 73),
  ("ResidualJudgeModel", 260, 154, 0, "", 1129, 1131, 74),
  ("java/lang/Float", 59, 145, 1, "", 1088, 1089, 0),
  ("java/util/Arrays", 304, 15, 1, "", 426, 394, 0)]
def cOkB (q : String × Nat × Nat × Nat × String × Nat × Nat × Nat) : Bool := match q with
  | (own, idx, μ, kn, host, p1, p2, p3) => decide (μ < mN) && decide (kn < 6) && (lw_tbl[p1]? == some (if 3 ≤ kn then Cond.methodLinkNest own idx (mY μ) host else Cond.methodLink own idx (mY μ))) && (lw_tbl[p2]? == some (if kn = 1 ∨ kn = 4 then Cond.static (mY μ) else Cond.instanceMethod (mY μ))) && (!(kn == 0 || kn == 3) || (lw_tbl[p3]? == some (Cond.selects (mY μ).cls (mY μ) (mY μ)))) && (!(kn == 2 || kn == 5) || ((mY μ).name == "<init>" && mR μ == none))
theorem cOk : cTab.all cOkB = true := by decide +kernel
