def RX0 : String := "ResidualJudge$BookJudge"
def TX0 : u_T := fun k => match k with
  | 0 => ("ResidualJudge$BookJudge", "machines", "LResidualJudge$Machines;", true)
  | 1 => ("ResidualJudge$BookJudge", "owners", "[I", true)
  | 2 => ("ResidualJudge$BookJudge", "stands", "[I", true)
  | 3 => ("ResidualJudge$BookJudge", "depth", "I", false)
  | 4 => ("ResidualJudge$BookJudge", "bare", "I", false)
  | 5 => ("ResidualJudge$BookJudge", "flaw", "I", false)
  | 6 => ("ResidualJudge$BookJudge", "due", "I", false)
  | 7 => ("ResidualJudge$BookJudge", "ending", "Z", false)
  | 8 => ("ResidualJudge$BookJudge", "letters", "I", false)
  | 9 => ("ResidualJudge$BookJudge", "lettersAhead", "I", false)
  | _ => ("ResidualJudge$BookJudge", "deepest", "I", false)
def tyX0 : Nat → FieldType := fun k => match k with
  | 0 => .object "ResidualJudge$Machines"
  | 1 => .array .int
  | 2 => .array .int
  | 3 => .int
  | 4 => .int
  | 5 => .int
  | 6 => .int
  | 7 => .boolean
  | 8 => .int
  | 9 => .int
  | _ => .int
abbrev wsX00 : List Cond := u_ws RX0 TX0 11
theorem nmX0 : ∀ a, a < 11 → ∀ b, b < 11 → a ≠ b → (TX0 a).2.1 ≠ (TX0 b).2.1 := by decide +kernel
theorem tyX0_ok : ∀ k, k < 11 → parseFieldDescriptor (TX0 k).2.2.1 = some (tyX0 k) := by decide +kernel
def RX1 : String := "ResidualJudge$GrammarReader"
def TX1 : u_T := fun k => match k with
  | 0 => ("ResidualJudge$GrammarReader", "patterns", "[J", true)
  | 1 => ("ResidualJudge$GrammarReader", "waiting", "[I", true)
  | 2 => ("ResidualJudge$GrammarReader", "waits", "I", false)
  | 3 => ("ResidualJudge$GrammarReader", "open", "I", false)
  | 4 => ("ResidualJudge$GrammarReader", "nodes", "I", false)
  | 5 => ("ResidualJudge$GrammarReader", "placed", "I", false)
  | 6 => ("ResidualJudge$GrammarReader", "pattern", "J", false)
  | 7 => ("ResidualJudge$GrammarReader", "owner", "I", false)
  | 8 => ("ResidualJudge$GrammarReader", "phase", "I", false)
  | _ => ("ResidualJudge$GrammarReader", "orders", "I", false)
def tyX1 : Nat → FieldType := fun k => match k with
  | 0 => .array .long
  | 1 => .array .int
  | 2 => .int
  | 3 => .int
  | 4 => .int
  | 5 => .int
  | 6 => .long
  | 7 => .int
  | 8 => .int
  | _ => .int
abbrev wsX10 : List Cond := u_ws RX1 TX1 10
theorem nmX1 : ∀ a, a < 10 → ∀ b, b < 10 → a ≠ b → (TX1 a).2.1 ≠ (TX1 b).2.1 := by decide +kernel
theorem tyX1_ok : ∀ k, k < 10 → parseFieldDescriptor (TX1 k).2.2.1 = some (tyX1 k) := by decide +kernel
def RX2 : String := "ResidualJudge$Machine"
def TX2 : u_T := fun k => match k with
  | 0 => ("ResidualJudge$Machine", "plan", "LResidualJudge$Plan;", true)
  | 1 => ("ResidualJudge$Machine", "pattern", "J", false)
  | 2 => ("ResidualJudge$Machine", "words", "I", false)
  | 3 => ("ResidualJudge$Machine", "known", "I", false)
  | 4 => ("ResidualJudge$Machine", "sets", "[J", false)
  | 5 => ("ResidualJudge$Machine", "nexts", "[I", false)
  | 6 => ("ResidualJudge$Machine", "traits", "[I", false)
  | 7 => ("ResidualJudge$Machine", "olders", "[I", false)
  | 8 => ("ResidualJudge$Machine", "newests", "[I", true)
  | 9 => ("ResidualJudge$Machine", "found", "[J", true)
  | 10 => ("ResidualJudge$Machine", "foundTraits", "I", false)
  | 11 => ("ResidualJudge$Machine", "counts", "[I", true)
  | _ => ("ResidualJudge$Machine", "counted", "I", false)
def tyX2 : Nat → FieldType := fun k => match k with
  | 0 => .object "ResidualJudge$Plan"
  | 1 => .long
  | 2 => .int
  | 3 => .int
  | 4 => .array .long
  | 5 => .array .int
  | 6 => .array .int
  | 7 => .array .int
  | 8 => .array .int
  | 9 => .array .long
  | 10 => .int
  | 11 => .array .int
  | _ => .int
abbrev wsX20 : List Cond := u_ws RX2 TX2 13
theorem nmX2 : ∀ a, a < 13 → ∀ b, b < 13 → a ≠ b → (TX2 a).2.1 ≠ (TX2 b).2.1 := by decide +kernel
theorem tyX2_ok : ∀ k, k < 13 → parseFieldDescriptor (TX2 k).2.2.1 = some (tyX2 k) := by decide +kernel
def RX3 : String := "ResidualJudge$Machines"
def TX3 : u_T := fun k => match k with
  | _ => ("ResidualJudge$Machines", "all", "[LResidualJudge$Machine;", true)
def tyX3 : Nat → FieldType := fun k => match k with
  | _ => .array (.object "ResidualJudge$Machine")
abbrev wsX30 : List Cond := u_ws RX3 TX3 1
theorem nmX3 : ∀ a, a < 1 → ∀ b, b < 1 → a ≠ b → (TX3 a).2.1 ≠ (TX3 b).2.1 := by decide +kernel
theorem tyX3_ok : ∀ k, k < 1 → parseFieldDescriptor (TX3 k).2.2.1 = some (tyX3 k) := by decide +kernel
def RX4 : String := "ResidualJudge$Past"
def TX4 : u_T := fun k => match k with
  | 0 => ("ResidualJudge$Past", "scenes", "[LResidualJudge$Scene;", true)
  | 1 => ("ResidualJudge$Past", "count", "I", false)
  | _ => ("ResidualJudge$Past", "newest", "I", false)
def tyX4 : Nat → FieldType := fun k => match k with
  | 0 => .array (.object "ResidualJudge$Scene")
  | 1 => .int
  | _ => .int
abbrev wsX40 : List Cond := u_ws RX4 TX4 3
theorem nmX4 : ∀ a, a < 3 → ∀ b, b < 3 → a ≠ b → (TX4 a).2.1 ≠ (TX4 b).2.1 := by decide +kernel
theorem tyX4_ok : ∀ k, k < 3 → parseFieldDescriptor (TX4 k).2.2.1 = some (tyX4 k) := by decide +kernel
def RX5 : String := "ResidualJudge$Plan"
def TX5 : u_T := fun k => match k with
  | 0 => ("ResidualJudge$Plan", "kinds", "[I", true)
  | 1 => ("ResidualJudge$Plan", "starts", "[I", true)
  | 2 => ("ResidualJudge$Plan", "lefts", "[I", true)
  | 3 => ("ResidualJudge$Plan", "spans", "[I", true)
  | 4 => ("ResidualJudge$Plan", "shortest", "[I", true)
  | 5 => ("ResidualJudge$Plan", "root", "I", false)
  | 6 => ("ResidualJudge$Plan", "places", "I", false)
  | 7 => ("ResidualJudge$Plan", "sorts", "I", false)
  | 8 => ("ResidualJudge$Plan", "traits", "[I", false)
  | 9 => ("ResidualJudge$Plan", "moves", "[I", false)
  | 10 => ("ResidualJudge$Plan", "moveStarts", "[I", false)
  | 11 => ("ResidualJudge$Plan", "moveEnds", "[I", false)
  | 12 => ("ResidualJudge$Plan", "moveCount", "I", false)
  | _ => ("ResidualJudge$Plan", "leaving", "I", false)
def tyX5 : Nat → FieldType := fun k => match k with
  | 0 => .array .int
  | 1 => .array .int
  | 2 => .array .int
  | 3 => .array .int
  | 4 => .array .int
  | 5 => .int
  | 6 => .int
  | 7 => .int
  | 8 => .array .int
  | 9 => .array .int
  | 10 => .array .int
  | 11 => .array .int
  | 12 => .int
  | _ => .int
abbrev wsX50 : List Cond := u_ws RX5 TX5 14
theorem nmX5 : ∀ a, a < 14 → ∀ b, b < 14 → a ≠ b → (TX5 a).2.1 ≠ (TX5 b).2.1 := by decide +kernel
theorem tyX5_ok : ∀ k, k < 14 → parseFieldDescriptor (TX5 k).2.2.1 = some (tyX5 k) := by decide +kernel
def RX6 : String := "ResidualJudge$RowCounter"
def TX6 : u_T := fun k => match k with
  | 0 => ("ResidualJudge$RowCounter", "ways", "[I", false)
  | _ => ("ResidualJudge$RowCounter", "waysOn", "[I", false)
def tyX6 : Nat → FieldType := fun k => match k with
  | 0 => .array .int
  | _ => .array .int
abbrev wsX60 : List Cond := u_ws RX6 TX6 2
theorem nmX6 : ∀ a, a < 2 → ∀ b, b < 2 → a ≠ b → (TX6 a).2.1 ≠ (TX6 b).2.1 := by decide +kernel
theorem tyX6_ok : ∀ k, k < 2 → parseFieldDescriptor (TX6 k).2.2.1 = some (tyX6 k) := by decide +kernel
def RX7 : String := "ResidualJudge$Scene"
def TX7 : u_T := fun k => match k with
  | 0 => ("ResidualJudge$Scene", "patterns", "[J", true)
  | 1 => ("ResidualJudge$Scene", "row", "[I", true)
  | 2 => ("ResidualJudge$Scene", "length", "I", false)
  | _ => ("ResidualJudge$Scene", "owner", "I", false)
def tyX7 : Nat → FieldType := fun k => match k with
  | 0 => .array .long
  | 1 => .array .int
  | 2 => .int
  | _ => .int
abbrev wsX70 : List Cond := u_ws RX7 TX7 4
theorem nmX7 : ∀ a, a < 4 → ∀ b, b < 4 → a ≠ b → (TX7 a).2.1 ≠ (TX7 b).2.1 := by decide +kernel
theorem tyX7_ok : ∀ k, k < 4 → parseFieldDescriptor (TX7 k).2.2.1 = some (tyX7 k) := by decide +kernel
def RX8 : String := "ResidualJudge$Text"
def TX8 : u_T := fun k => match k with
  | 0 => ("ResidualJudge$Text", "bytes", "[B", true)
  | _ => ("ResidualJudge$Text", "length", "I", false)
def tyX8 : Nat → FieldType := fun k => match k with
  | 0 => .array .byte
  | _ => .int
abbrev wsX80 : List Cond := u_ws RX8 TX8 2
theorem nmX8 : ∀ a, a < 2 → ∀ b, b < 2 → a ≠ b → (TX8 a).2.1 ≠ (TX8 b).2.1 := by decide +kernel
theorem tyX8_ok : ∀ k, k < 2 → parseFieldDescriptor (TX8 k).2.2.1 = some (tyX8 k) := by decide +kernel
def RX9 : String := "ResidualJudge"
def TX9 : u_T := fun k => match k with
  | 0 => ("ResidualJudge", "text", "LResidualJudge$Text;", true)
  | 1 => ("ResidualJudge", "scene", "LResidualJudge$Scene;", true)
  | 2 => ("ResidualJudge", "past", "LResidualJudge$Past;", true)
  | 3 => ("ResidualJudge", "reader", "LResidualJudge$GrammarReader;", true)
  | 4 => ("ResidualJudge", "machines", "LResidualJudge$Machines;", true)
  | 5 => ("ResidualJudge", "counter", "LResidualJudge$RowCounter;", true)
  | 6 => ("ResidualJudge", "book", "LResidualJudge$BookJudge;", true)
  | 7 => ("ResidualJudge", "refusedBad", "I", false)
  | 8 => ("ResidualJudge", "refusedNo", "I", false)
  | _ => ("ResidualJudge", "refusedFull", "I", false)
def tyX9 : Nat → FieldType := fun k => match k with
  | 0 => .object "ResidualJudge$Text"
  | 1 => .object "ResidualJudge$Scene"
  | 2 => .object "ResidualJudge$Past"
  | 3 => .object "ResidualJudge$GrammarReader"
  | 4 => .object "ResidualJudge$Machines"
  | 5 => .object "ResidualJudge$RowCounter"
  | 6 => .object "ResidualJudge$BookJudge"
  | 7 => .int
  | 8 => .int
  | _ => .int
abbrev wsX90 : List Cond := u_ws RX9 TX9 10
theorem nmX9 : ∀ a, a < 10 → ∀ b, b < 10 → a ≠ b → (TX9 a).2.1 ≠ (TX9 b).2.1 := by decide +kernel
theorem tyX9_ok : ∀ k, k < 10 → parseFieldDescriptor (TX9 k).2.2.1 = some (tyX9 k) := by decide +kernel
def RX10 : String := "ResidualJudgeModel"
def TX10 : u_T := fun k => match k with
  | 0 => ("ResidualJudgeModel", "all", "[I", true)
  | 1 => ("ResidualJudgeModel", "past", "[I", true)
  | 2 => ("ResidualJudgeModel", "states", "I", false)
  | 3 => ("ResidualJudgeModel", "refused", "[I", true)
  | 4 => ("ResidualJudgeModel", "many", "I", false)
  | 5 => ("ResidualJudgeModel", "kind", "[I", true)
  | 6 => ("ResidualJudgeModel", "left", "[I", true)
  | 7 => ("ResidualJudgeModel", "right", "[I", true)
  | 8 => ("ResidualJudgeModel", "parent", "[I", true)
  | 9 => ("ResidualJudgeModel", "under", "[I", true)
  | 10 => ("ResidualJudgeModel", "own", "[I", true)
  | 11 => ("ResidualJudgeModel", "empty", "[I", true)
  | 12 => ("ResidualJudgeModel", "ended", "[I", true)
  | 13 => ("ResidualJudgeModel", "sets", "[I", true)
  | 14 => ("ResidualJudgeModel", "size", "[I", true)
  | 15 => ("ResidualJudgeModel", "text", "[I", true)
  | 16 => ("ResidualJudgeModel", "textLong", "I", false)
  | 17 => ("ResidualJudgeModel", "spot", "I", false)
  | 18 => ("ResidualJudgeModel", "made", "[I", true)
  | 19 => ("ResidualJudgeModel", "operands", "[I", true)
  | 20 => ("ResidualJudgeModel", "operandMany", "I", false)
  | 21 => ("ResidualJudgeModel", "waiting", "[I", true)
  | 22 => ("ResidualJudgeModel", "waitingMany", "I", false)
  | 23 => ("ResidualJudgeModel", "toldNodes", "I", false)
  | 24 => ("ResidualJudgeModel", "open", "I", false)
  | 25 => ("ResidualJudgeModel", "shortest", "[I", true)
  | 26 => ("ResidualJudgeModel", "tried", "[I", true)
  | 27 => ("ResidualJudgeModel", "bookLetters", "I", false)
  | 28 => ("ResidualJudgeModel", "bookDepth", "I", false)
  | 29 => ("ResidualJudgeModel", "whose", "[I", true)
  | 30 => ("ResidualJudgeModel", "flaw", "I", false)
  | 31 => ("ResidualJudgeModel", "flawDue", "I", false)
  | _ => ("ResidualJudgeModel", "flawEnd", "I", false)
def tyX10 : Nat → FieldType := fun k => match k with
  | 0 => .array .int
  | 1 => .array .int
  | 2 => .int
  | 3 => .array .int
  | 4 => .int
  | 5 => .array .int
  | 6 => .array .int
  | 7 => .array .int
  | 8 => .array .int
  | 9 => .array .int
  | 10 => .array .int
  | 11 => .array .int
  | 12 => .array .int
  | 13 => .array .int
  | 14 => .array .int
  | 15 => .array .int
  | 16 => .int
  | 17 => .int
  | 18 => .array .int
  | 19 => .array .int
  | 20 => .int
  | 21 => .array .int
  | 22 => .int
  | 23 => .int
  | 24 => .int
  | 25 => .array .int
  | 26 => .array .int
  | 27 => .int
  | 28 => .int
  | 29 => .array .int
  | 30 => .int
  | 31 => .int
  | _ => .int
abbrev wsX100 : List Cond := u_ws RX10 TX10 33
theorem nmX10 : ∀ a, a < 33 → ∀ b, b < 33 → a ≠ b → (TX10 a).2.1 ≠ (TX10 b).2.1 := by decide +kernel
theorem tyX10_ok : ∀ k, k < 33 → parseFieldDescriptor (TX10 k).2.2.1 = some (tyX10 k) := by decide +kernel
abbrev aCl : List vw_C := [(RX0, TX0, 11), (RX1, TX1, 10), (RX2, TX2, 13), (RX3, TX3, 1), (RX4, TX4, 3), (RX5, TX5, 14), (RX6, TX6, 2), (RX7, TX7, 4), (RX8, TX8, 2), (RX9, TX9, 10), (RX10, TX10, 33)]
/-- the methods by their numbers: name, bytes, locals, what it returns, the place of its code word -/
def mTab : List (MethodName × ByteArray × Nat × Option FieldType × Nat × Nat × Nat) := [
  (⟨"ResidualJudge", "<init>", "()V"⟩, prog_1_method_1_code, 1, none, 98, 0, 9),
  (⟨"ResidualJudge$Text", "<init>", "()V"⟩, prog_10_method_1_code, 1, none, 106, 0, 8),
  (⟨"ResidualJudge$Scene", "<init>", "()V"⟩, prog_9_method_1_code, 1, none, 123, 0, 7),
  (⟨"java/util/Arrays", "fill", "([JJ)V"⟩, prog_20_method_101_code, 5, none, 128, 2, 15),
  (⟨"ResidualJudge$Past", "<init>", "()V"⟩, prog_6_method_1_code, 2, none, 152, 0, 4),
  (⟨"ResidualJudge$GrammarReader", "<init>", "()V"⟩, prog_3_method_1_code, 1, none, 172, 0, 1),
  (⟨"ResidualJudge$Machines", "<init>", "()V"⟩, prog_5_method_1_code, 2, none, 210, 0, 3),
  (⟨"ResidualJudge$Machine", "<init>", "()V"⟩, prog_4_method_1_code, 1, none, 217, 0, 2),
  (⟨"ResidualJudge$Plan", "<init>", "()V"⟩, prog_7_method_1_code, 1, none, 223, 0, 5),
  (⟨"ResidualJudge$RowCounter", "<init>", "()V"⟩, prog_8_method_1_code, 1, none, 323, 0, 6),
  (⟨"ResidualJudge$BookJudge", "<init>", "(LResidualJudge$Machines;)V"⟩, prog_2_method_1_code, 2, none, 336, 1, 0),
  (⟨"ResidualJudge$Machines", "follow", "([J)V"⟩, prog_5_method_2_code, 3, none, 380, 1, 3),
  (⟨"ResidualJudge$Machine", "load", "(J)V"⟩, prog_4_method_2_code, 3, none, 384, 1, 2),
  (⟨"ResidualJudge$Plan", "findNodes", "(J)V"⟩, prog_7_method_2_code, 5, none, 388, 1, 5),
  (⟨"ResidualJudge$Plan", "measure", "(I)V"⟩, prog_7_method_7_code, 5, none, 392, 1, 5),
  (⟨"java/lang/Math", "min", "(II)I"⟩, prog_17_method_69_code, 2, (some .int), 395, 2, 14),
  (⟨"ResidualJudge$Plan", "findPlaces", "()V"⟩, prog_7_method_3_code, 2, none, 399, 0, 5),
  (⟨"ResidualJudge$Plan", "allows", "(II)Z"⟩, prog_7_method_8_code, 6, (some .boolean), 403, 2, 5),
  (⟨"ResidualJudge$Plan", "findMoves", "()V"⟩, prog_7_method_4_code, 2, none, 407, 0, 5),
  (⟨"ResidualJudge$Plan", "leave", "(IIII)V"⟩, prog_7_method_9_code, 6, none, 411, 4, 5),
  (⟨"ResidualJudge$Plan", "keepMove", "(II)V"⟩, prog_7_method_13_code, 5, none, 415, 2, 5),
  (⟨"java/util/Arrays", "copyOf", "([II)[I"⟩, prog_20_method_123_code, 3, (some (.array .int)), 418, 2, 15),
  (⟨"ResidualJudge$Plan", "leaveTimes", "(IIII)V"⟩, prog_7_method_10_code, 6, none, 433, 4, 5),
  (⟨"ResidualJudge$Plan", "leaveMix", "(IIII)V"⟩, prog_7_method_11_code, 9, none, 437, 4, 5),
  (⟨"ResidualJudge$Plan", "leavePair", "(IIII)V"⟩, prog_7_method_12_code, 8, none, 441, 4, 5),
  (⟨"java/lang/Math", "max", "(II)I"⟩, prog_17_method_65_code, 2, (some .int), 445, 2, 14),
  (⟨"java/util/Arrays", "fill", "([II)V"⟩, prog_20_method_103_code, 4, none, 448, 2, 15),
  (⟨"ResidualJudge$Machine", "foundStand", "()I"⟩, prog_4_method_9_code, 4, (some .int), 453, 0, 2),
  (⟨"ResidualJudge$Machine", "chainOfFound", "()I"⟩, prog_4_method_13_code, 4, (some .int), 457, 0, 2),
  (⟨"ResidualJudge$Machine", "isFound", "(I)Z"⟩, prog_4_method_12_code, 3, (some .boolean), 462, 1, 2),
  (⟨"ResidualJudge$Machine", "newStand", "(I)I"⟩, prog_4_method_10_code, 4, (some .int), 467, 1, 2),
  (⟨"ResidualJudge$Machine", "makeRoom", "()V"⟩, prog_4_method_11_code, 1, none, 471, 0, 2),
  (⟨"java/util/Arrays", "copyOf", "([JI)[J"⟩, prog_20_method_124_code, 3, (some (.array .long)), 475, 2, 15),
  (⟨"ResidualJudge", "type", "(I)I"⟩, prog_1_method_2_code, 2, (some .int), 515, 1, 9),
  (⟨"ResidualJudge", "refuse", "(I)I"⟩, prog_1_method_16_code, 2, (some .int), 519, 1, 9),
  (⟨"ResidualJudge$Text", "add", "(I)V"⟩, prog_10_method_2_code, 2, none, 523, 1, 8),
  (⟨"ResidualJudge", "clear", "()I"⟩, prog_1_method_3_code, 2, (some .int), 527, 0, 9),
  (⟨"ResidualJudge", "reads", "()I"⟩, prog_1_method_4_code, 2, (some .int), 531, 0, 9),
  (⟨"ResidualJudge$GrammarReader", "readOrders", "(LResidualJudge$Text;[J)I"⟩, prog_3_method_2_code, 5, (some .int), 535, 2, 1),
  (⟨"ResidualJudge$Text", "at", "(I)I"⟩, prog_10_method_3_code, 2, (some .int), 540, 1, 8),
  (⟨"ResidualJudge$GrammarReader", "takes", "(I)Z"⟩, prog_3_method_3_code, 2, (some .boolean), 544, 1, 1),
  (⟨"ResidualJudge$GrammarReader", "takesOwner", "(I)Z"⟩, prog_3_method_4_code, 2, (some .boolean), 548, 1, 1),
  (⟨"ResidualJudge", "sortOf", "(I)I"⟩, prog_1_method_22_code, 1, (some .int), 551, 1, 9),
  (⟨"ResidualJudge$GrammarReader", "takesUnit", "(I)Z"⟩, prog_3_method_5_code, 3, (some .boolean), 555, 1, 1),
  (⟨"ResidualJudge$GrammarReader", "waitsFor", "(I)Z"⟩, prog_3_method_11_code, 2, (some .boolean), 559, 1, 1),
  (⟨"ResidualJudge$GrammarReader", "countsNode", "()Z"⟩, prog_3_method_7_code, 1, (some .boolean), 563, 0, 1),
  (⟨"ResidualJudge$GrammarReader", "places", "(I)Z"⟩, prog_3_method_13_code, 2, (some .boolean), 567, 1, 1),
  (⟨"ResidualJudge$GrammarReader", "takesBehindUnit", "(I)Z"⟩, prog_3_method_6_code, 2, (some .boolean), 571, 1, 1),
  (⟨"ResidualJudge$GrammarReader", "takesBetween", "(I)Z"⟩, prog_3_method_8_code, 2, (some .boolean), 575, 1, 1),
  (⟨"ResidualJudge$GrammarReader", "placeWaiting", "(I)V"⟩, prog_3_method_12_code, 2, none, 579, 1, 1),
  (⟨"ResidualJudge$GrammarReader", "takesClosing", "()Z"⟩, prog_3_method_9_code, 1, (some .boolean), 583, 0, 1),
  (⟨"ResidualJudge$GrammarReader", "takesEnd", "()Z"⟩, prog_3_method_10_code, 1, (some .boolean), 588, 0, 1),
  (⟨"ResidualJudge", "isOwner", "(I)Z"⟩, prog_1_method_21_code, 1, (some .boolean), 591, 1, 9),
  (⟨"ResidualJudge$Past", "keep", "(LResidualJudge$Scene;)V"⟩, prog_6_method_2_code, 2, none, 595, 1, 4),
  (⟨"ResidualJudge$Scene", "copyFrom", "(LResidualJudge$Scene;)V"⟩, prog_9_method_5_code, 2, none, 599, 1, 7),
  (⟨"ResidualJudge$Scene", "emptyRow", "(I)V"⟩, prog_9_method_2_code, 2, none, 606, 1, 7),
  (⟨"ResidualJudge", "clears", "(I)I"⟩, prog_1_method_5_code, 2, (some .int), 610, 1, 9),
  (⟨"ResidualJudge", "of", "(II)I"⟩, prog_1_method_6_code, 3, (some .int), 616, 2, 9),
  (⟨"ResidualJudge$Machines", "at", "(I)LResidualJudge$Machine;"⟩, prog_5_method_3_code, 2, (some (.object "ResidualJudge$Machine")), 620, 1, 3),
  (⟨"ResidualJudge", "ofPattern", "(LResidualJudge$Machine;I)I"⟩, prog_1_method_20_code, 2, (some .int), 624, 2, 9),
  (⟨"ResidualJudge$Machine", "isEnding", "(I)Z"⟩, prog_4_method_4_code, 2, (some .boolean), 628, 1, 2),
  (⟨"ResidualJudge$Machine", "traitsOf", "(I)I"⟩, prog_4_method_7_code, 2, (some .int), 632, 1, 2),
  (⟨"ResidualJudge$Machine", "due", "(I)I"⟩, prog_4_method_3_code, 2, (some .int), 636, 1, 2),
  (⟨"ResidualJudge$Plan", "shortestRow", "()I"⟩, prog_7_method_5_code, 1, (some .int), 640, 0, 5),
  (⟨"ResidualJudge", "rows", "(II)I"⟩, prog_1_method_7_code, 3, (some .int), 644, 2, 9),
  (⟨"ResidualJudge$RowCounter", "count", "(LResidualJudge$Machine;I)I"⟩, prog_8_method_2_code, 4, (some .int), 648, 2, 6),
  (⟨"ResidualJudge$RowCounter", "begin", "(LResidualJudge$Machine;)V"⟩, prog_8_method_3_code, 2, none, 652, 1, 6),
  (⟨"ResidualJudge$RowCounter", "lastSteps", "(LResidualJudge$Machine;)I"⟩, prog_8_method_4_code, 4, (some .int), 658, 1, 6),
  (⟨"ResidualJudge$Machine", "lastSteps", "(I)I"⟩, prog_4_method_5_code, 2, (some .int), 662, 1, 2),
  (⟨"java/lang/Integer", "bitCount", "(I)I"⟩, prog_15_method_49_code, 1, (some .int), 665, 1, 12),
  (⟨"ResidualJudge$RowCounter", "stepOn", "(LResidualJudge$Machine;)V"⟩, prog_8_method_5_code, 6, none, 672, 1, 6),
  (⟨"ResidualJudge$Machine", "step", "(II)I"⟩, prog_4_method_6_code, 4, (some .int), 677, 2, 2),
  (⟨"ResidualJudge$Machine", "findTargets", "(II)V"⟩, prog_4_method_8_code, 8, none, 682, 2, 2),
  (⟨"java/lang/Long", "bitCount", "(J)I"⟩, prog_16_method_50_code, 2, (some .int), 685, 1, 13),
  (⟨"ResidualJudge$Plan", "addTargets", "(II[J)I"⟩, prog_7_method_6_code, 7, (some .int), 692, 3, 5),
  (⟨"ResidualJudge", "judge", "(I)I"⟩, prog_1_method_8_code, 3, (some .int), 697, 1, 9),
  (⟨"ResidualJudge$BookJudge", "goThrough", "(LResidualJudge$Text;)I"⟩, prog_2_method_2_code, 5, (some .int), 701, 1, 0),
  (⟨"ResidualJudge$BookJudge", "begin", "()V"⟩, prog_2_method_4_code, 1, none, 705, 0, 0),
  (⟨"ResidualJudge$BookJudge", "takeLetter", "(II)V"⟩, prog_2_method_5_code, 5, none, 711, 2, 0),
  (⟨"ResidualJudge$BookJudge", "endBare", "(I)V"⟩, prog_2_method_8_code, 2, none, 715, 1, 0),
  (⟨"ResidualJudge$BookJudge", "endAt", "(III)V"⟩, prog_2_method_10_code, 5, none, 719, 3, 0),
  (⟨"ResidualJudge$BookJudge", "tellFlaw", "(ILResidualJudge$Machine;I)V"⟩, prog_2_method_11_code, 4, none, 725, 3, 0),
  (⟨"ResidualJudge$BookJudge", "takeOpening", "()V"⟩, prog_2_method_6_code, 1, none, 732, 0, 0),
  (⟨"ResidualJudge$BookJudge", "takeClosing", "(I)V"⟩, prog_2_method_7_code, 2, none, 736, 1, 0),
  (⟨"ResidualJudge$BookJudge", "endRow", "(I)V"⟩, prog_2_method_9_code, 2, none, 740, 1, 0),
  (⟨"ResidualJudge", "ofBook", "(I)I"⟩, prog_1_method_18_code, 2, (some .int), 744, 1, 9),
  (⟨"ResidualJudge", "mark", "()I"⟩, prog_1_method_9_code, 2, (some .int), 748, 0, 9),
  (⟨"ResidualJudge$BookJudge", "share", "()F"⟩, prog_2_method_3_code, 1, (some .float), 752, 0, 0),
  (⟨"ResidualJudge", "bitsOf", "(F)I"⟩, prog_1_method_23_code, 3, (some .int), 755, 1, 9),
  (⟨"ResidualJudge", "begins", "(I)I"⟩, prog_1_method_10_code, 2, (some .int), 760, 1, 9),
  (⟨"ResidualJudge", "ofRow", "(I)I"⟩, prog_1_method_19_code, 4, (some .int), 764, 1, 9),
  (⟨"ResidualJudge$Scene", "standIn", "(LResidualJudge$Machine;)I"⟩, prog_9_method_4_code, 4, (some .int), 768, 1, 7),
  (⟨"ResidualJudge", "steps", "(I)I"⟩, prog_1_method_11_code, 2, (some .int), 773, 1, 9),
  (⟨"ResidualJudge$Scene", "addToRow", "(I)V"⟩, prog_9_method_3_code, 2, none, 777, 1, 7),
  (⟨"ResidualJudge", "now", "(I)I"⟩, prog_1_method_12_code, 2, (some .int), 781, 1, 9),
  (⟨"ResidualJudge", "back", "()I"⟩, prog_1_method_13_code, 1, (some .int), 785, 0, 9),
  (⟨"ResidualJudge$Past", "restore", "(LResidualJudge$Scene;)V"⟩, prog_6_method_3_code, 2, none, 789, 1, 4),
  (⟨"ResidualJudge", "told", "(I)I"⟩, prog_1_method_14_code, 2, (some .int), 793, 1, 9),
  (⟨"ResidualJudge", "tally", "(I)I"⟩, prog_1_method_17_code, 2, (some .int), 797, 1, 9),
  (⟨"ResidualJudge", "digest", "()J"⟩, prog_1_method_15_code, 6, (some .long), 801, 0, 9),
  (⟨"ResidualJudgeModel", "<init>", "()V"⟩, prog_12_method_1_code, 2, none, 808, 0, 10),
  (⟨"ResidualJudgeModel", "empties", "(I)V"⟩, prog_12_method_6_code, 2, none, 813, 1, 10),
  (⟨"ResidualJudgeModel", "forgets", "()V"⟩, prog_12_method_7_code, 1, none, 817, 0, 10),
  (⟨"ResidualJudgeModel", "type", "(I)I"⟩, prog_12_method_18_code, 2, (some .int), 921, 1, 10),
  (⟨"ResidualJudgeModel", "in", "(JJJ)Z"⟩, prog_12_method_3_code, 6, (some .boolean), 925, 3, 10),
  (⟨"ResidualJudgeModel", "refuses", "(I)I"⟩, prog_12_method_4_code, 2, (some .int), 929, 1, 10),
  (⟨"ResidualJudgeModel", "clear", "()I"⟩, prog_12_method_19_code, 2, (some .int), 933, 0, 10),
  (⟨"ResidualJudgeModel", "reads", "()I"⟩, prog_12_method_30_code, 4, (some .int), 937, 0, 10),
  (⟨"ResidualJudgeModel", "takesOrder", "(Z)Z"⟩, prog_12_method_29_code, 5, (some .boolean), 941, 1, 10),
  (⟨"ResidualJudgeModel", "here", "()I"⟩, prog_12_method_20_code, 1, (some .int), 945, 0, 10),
  (⟨"ResidualJudgeModel", "takesPattern", "()Z"⟩, prog_12_method_28_code, 4, (some .boolean), 951, 0, 10),
  (⟨"ResidualJudgeModel", "takesUnit", "(I)Z"⟩, prog_12_method_26_code, 2, (some .boolean), 955, 1, 10),
  (⟨"ResidualJudgeModel", "node", "(III)V"⟩, prog_12_method_21_code, 5, none, 959, 3, 10),
  (⟨"ResidualJudgeModel", "reduces", "(I)V"⟩, prog_12_method_23_code, 4, none, 963, 1, 10),
  (⟨"ResidualJudgeModel", "binds", "(I)I"⟩, prog_12_method_24_code, 1, (some .int), 966, 1, 10),
  (⟨"ResidualJudgeModel", "pops", "()I"⟩, prog_12_method_22_code, 1, (some .int), 970, 0, 10),
  (⟨"ResidualJudgeModel", "operator", "(I)I"⟩, prog_12_method_25_code, 1, (some .int), 973, 1, 10),
  (⟨"ResidualJudgeModel", "takesOperator", "(I)Z"⟩, prog_12_method_27_code, 3, (some .boolean), 977, 1, 10),
  (⟨"ResidualJudgeModel", "keep", "()V"⟩, prog_12_method_5_code, 2, none, 981, 0, 10),
  (⟨"ResidualJudgeModel", "clears", "(I)I"⟩, prog_12_method_32_code, 2, (some .int), 985, 1, 10),
  (⟨"ResidualJudgeModel", "isPattern", "(I)Z"⟩, prog_12_method_31_code, 1, (some .boolean), 988, 1, 10),
  (⟨"ResidualJudgeModel", "of", "(II)I"⟩, prog_12_method_35_code, 3, (some .int), 993, 2, 10),
  (⟨"ResidualJudgeModel", "ofPattern", "(II)I"⟩, prog_12_method_34_code, 5, (some .int), 998, 2, 10),
  (⟨"ResidualJudgeModel", "loads", "(I)V"⟩, prog_12_method_8_code, 6, none, 1002, 1, 10),
  (⟨"ResidualJudgeModel", "isEmptyBy", "(III)Z"⟩, prog_12_method_9_code, 4, (some .boolean), 1006, 3, 10),
  (⟨"ResidualJudgeModel", "leastLong", "()I"⟩, prog_12_method_33_code, 4, (some .int), 1010, 0, 10),
  (⟨"ResidualJudgeModel", "starts", "(I)V"⟩, prog_12_method_15_code, 2, none, 1014, 1, 10),
  (⟨"ResidualJudgeModel", "due", "(I)I"⟩, prog_12_method_16_code, 4, (some .int), 1018, 1, 10),
  (⟨"ResidualJudgeModel", "goes", "(III)Z"⟩, prog_12_method_14_code, 8, (some .boolean), 1022, 3, 10),
  (⟨"ResidualJudgeModel", "ends", "(I)Z"⟩, prog_12_method_10_code, 6, (some .boolean), 1026, 1, 10),
  (⟨"ResidualJudgeModel", "readsLetter", "(III)V"⟩, prog_12_method_13_code, 8, none, 1030, 3, 10),
  (⟨"ResidualJudgeModel", "isFirst", "(II)Z"⟩, prog_12_method_11_code, 6, (some .boolean), 1034, 2, 10),
  (⟨"ResidualJudgeModel", "adds", "(II)V"⟩, prog_12_method_12_code, 4, none, 1038, 2, 10),
  (⟨"ResidualJudgeModel", "rows", "(II)I"⟩, prog_12_method_37_code, 3, (some .int), 1042, 2, 10),
  (⟨"ResidualJudgeModel", "rowsOf", "(II)I"⟩, prog_12_method_36_code, 5, (some .int), 1047, 2, 10),
  (⟨"ResidualJudgeModel", "mayEnd", "(I)Z"⟩, prog_12_method_17_code, 4, (some .boolean), 1051, 1, 10),
  (⟨"ResidualJudgeModel", "judge", "(I)I"⟩, prog_12_method_44_code, 3, (some .int), 1055, 1, 10),
  (⟨"ResidualJudgeModel", "bookFault", "()I"⟩, prog_12_method_38_code, 7, (some .int), 1060, 0, 10),
  (⟨"ResidualJudgeModel", "judges", "()V"⟩, prog_12_method_42_code, 3, none, 1064, 0, 10),
  (⟨"ResidualJudgeModel", "isEndFlawed", "(II)Z"⟩, prog_12_method_41_code, 3, (some .boolean), 1068, 2, 10),
  (⟨"ResidualJudgeModel", "isFlaw", "(II)Z"⟩, prog_12_method_39_code, 3, (some .boolean), 1072, 2, 10),
  (⟨"ResidualJudgeModel", "isFlawed", "(II)Z"⟩, prog_12_method_40_code, 5, (some .boolean), 1076, 2, 10),
  (⟨"ResidualJudgeModel", "judged", "(I)I"⟩, prog_12_method_43_code, 2, (some .int), 1080, 1, 10),
  (⟨"ResidualJudgeModel", "mark", "()I"⟩, prog_12_method_45_code, 4, (some .int), 1084, 0, 10),
  (⟨"java/lang/Float", "floatToIntBits", "(F)I"⟩, prog_14_method_24_code, 1, (some .int), 1087, 1, 11),
  (⟨"java/lang/Float", "isNaN", "(F)Z"⟩, prog_14_method_6_code, 1, (some .boolean), 1090, 1, 11),
  (⟨"ResidualJudgeModel", "begins", "(I)I"⟩, prog_12_method_48_code, 2, (some .int), 1098, 1, 10),
  (⟨"ResidualJudgeModel", "goesRow", "()V"⟩, prog_12_method_47_code, 4, none, 1102, 0, 10),
  (⟨"ResidualJudgeModel", "rowLong", "()I"⟩, prog_12_method_46_code, 1, (some .int), 1106, 0, 10),
  (⟨"ResidualJudgeModel", "steps", "(I)I"⟩, prog_12_method_49_code, 2, (some .int), 1110, 1, 10),
  (⟨"ResidualJudgeModel", "now", "(I)I"⟩, prog_12_method_51_code, 2, (some .int), 1115, 1, 10),
  (⟨"ResidualJudgeModel", "nowOf", "(I)I"⟩, prog_12_method_50_code, 2, (some .int), 1119, 1, 10),
  (⟨"ResidualJudgeModel", "back", "()I"⟩, prog_12_method_52_code, 2, (some .int), 1123, 0, 10),
  (⟨"ResidualJudgeModel", "told", "(I)I"⟩, prog_12_method_54_code, 2, (some .int), 1127, 1, 10),
  (⟨"ResidualJudgeModel", "toldOf", "(I)I"⟩, prog_12_method_53_code, 2, (some .int), 1132, 1, 10),
  (⟨"ResidualJudgeModel", "digest", "()J"⟩, prog_12_method_55_code, 5, (some .long), 1136, 0, 10)]
def mI (μ : Nat) : MethodName × ByteArray × Nat × Option FieldType × Nat × Nat × Nat := mTab.getD μ (⟨"", "", ""⟩, ⟨#[]⟩, 0, none, 0, 0, 99)
def mY (μ : Nat) : MethodName := (mI μ).1
def mB (μ : Nat) : ByteArray := (mI μ).2.1
def mL (μ : Nat) : Nat := (mI μ).2.2.1
def mR (μ : Nat) : Option FieldType := (mI μ).2.2.2.1
def mP (μ : Nat) : Nat := (mI μ).2.2.2.2.2.1
def mK (μ : Nat) : Nat := (mI μ).2.2.2.2.2.2
def mN : Nat := 156
def mW (μ : Nat) : List Cond := Cond.code (mY μ) (mB μ) (mL μ) (mR μ) :: lw_tbl.filter goodWord
def cNl : List String := ["ResidualJudge$BookJudge", "ResidualJudge$GrammarReader", "ResidualJudge$Machine", "ResidualJudge$Machines", "ResidualJudge$Past", "ResidualJudge$Plan", "ResidualJudge$RowCounter", "ResidualJudge$Scene", "ResidualJudge$Text", "ResidualJudge", "ResidualJudgeModel", "java/lang/Float", "java/lang/Integer", "java/lang/Long", "java/lang/Math", "java/util/Arrays"]
def cN (i : Nat) : String := cNl.getD i ""
def nmMin : MethodName := ⟨"java/lang/Math", "min", "(II)I"⟩
def nmMax : MethodName := ⟨"java/lang/Math", "max", "(II)I"⟩
def nmF2I : MethodName := ⟨"java/lang/Float", "floatToIntBits", "(F)I"⟩
def nmNaN : MethodName := ⟨"java/lang/Float", "isNaN", "(F)Z"⟩
theorem pfMin : plainFor nmMin = true := by
  unfold plainFor
  rw [show (NativeRow.find? Jvm.natives nmMin.cls nmMin.name nmMin.desc).isNone = true by decide +kernel, Bool.or_true]
theorem pfMax : plainFor nmMax = true := by
  unfold plainFor
  rw [show (NativeRow.find? Jvm.natives nmMax.cls nmMax.name nmMax.desc).isNone = true by decide +kernel, Bool.or_true]
theorem pfF2I : plainFor nmF2I = true := by
  unfold plainFor
  rw [show (NativeRow.find? Jvm.natives nmF2I.cls nmF2I.name nmF2I.desc).isNone = true by decide +kernel, Bool.or_true]
theorem pfNaN : plainFor nmNaN = true := by
  unfold plainFor
  rw [show (NativeRow.find? Jvm.natives nmNaN.cls nmNaN.name nmNaN.desc).isNone = true by decide +kernel, Bool.or_true]
def mOkB (q : MethodName × ByteArray × Nat × Option FieldType × Nat × Nat × Nat) : Bool := (plainName q.1.cls || q.1 == nmMin || q.1 == nmMax || q.1 == nmF2I || q.1 == nmNaN) && !(q.1.cls == "java/lang/invoke/MethodHandle") && !(q.1.cls == "java/lang/invoke/VarHandle") && lw_tbl.contains (Cond.initialized q.1.cls) && decide (q.2.2.1 ≤ 80) && ((parseMethodDescriptor q.1.desc).map (fun d => d.parameters.length) == some q.2.2.2.2.2.1) && decide (q.2.2.2.2.2.2 < 16) && (cN q.2.2.2.2.2.2 == q.1.cls)
theorem mOk : mTab.all mOkB = true := by decide +kernel
set_option maxRecDepth 100000 in
theorem mCode : mTab.map (fun q => lw_tbl[q.2.2.2.2.1]?) = mTab.map (fun q => some (Cond.code q.1 q.2.1 q.2.2.1 q.2.2.2.1)) := rfl
/-- the links of fields: the class whose pool it is, the entry, class number and field number, nest mate, host, place -/
def fTab : List (Nat × Nat × Nat × Nat × Bool × Bool × Nat × String × Nat) := [
  (0, 9, 0, 1, false, true, 2, "", 339),
  (0, 15, 0, 2, false, true, 2, "", 340),
  (0, 18, 0, 0, false, true, 2, "", 338),
  (0, 25, 8, 1, true, false, 0, "ResidualJudge", 110),
  (0, 42, 0, 4, false, false, 0, "", 342),
  (0, 45, 0, 3, false, false, 0, "", 341),
  (0, 61, 0, 8, false, false, 0, "", 349),
  (0, 64, 0, 5, false, false, 0, "", 343),
  (0, 67, 0, 9, false, false, 0, "", 351),
  (0, 72, 0, 6, false, false, 0, "", 345),
  (0, 75, 0, 7, false, false, 3, "", 347),
  (0, 79, 0, 10, false, false, 0, "", 352),
  (1, 9, 1, 0, false, true, 2, "", 174),
  (1, 15, 1, 1, false, true, 2, "", 176),
  (1, 25, 1, 8, false, false, 0, "", 183),
  (1, 29, 1, 9, false, false, 0, "", 184),
  (1, 32, 8, 1, true, false, 0, "ResidualJudge", 112),
  (1, 57, 1, 7, false, false, 0, "", 182),
  (1, 60, 1, 2, false, false, 0, "", 177),
  (1, 63, 1, 3, false, false, 0, "", 178),
  (1, 66, 1, 4, false, false, 0, "", 179),
  (1, 69, 1, 5, false, false, 0, "", 180),
  (1, 72, 1, 6, false, false, 1, "", 181),
  (2, 12, 2, 0, false, true, 2, "", 271),
  (2, 18, 2, 4, false, false, 2, "", 277),
  (2, 22, 2, 5, false, false, 2, "", 278),
  (2, 26, 2, 6, false, false, 2, "", 279),
  (2, 29, 2, 7, false, false, 2, "", 280),
  (2, 32, 2, 8, false, true, 2, "", 281),
  (2, 35, 2, 9, false, true, 2, "", 282),
  (2, 38, 2, 11, false, true, 2, "", 284),
  (2, 41, 2, 1, false, false, 1, "", 273),
  (2, 55, 5, 6, true, false, 0, "ResidualJudge", 231),
  (2, 68, 2, 2, false, false, 0, "", 274),
  (2, 71, 2, 3, false, false, 0, "", 275),
  (2, 74, 2, 12, false, false, 0, "", 287),
  (2, 86, 5, 8, true, false, 2, "ResidualJudge", 236),
  (2, 87, 2, 10, false, false, 0, "", 283),
  (3, 11, 3, 0, false, true, 2, "", 315),
  (4, 11, 4, 0, false, true, 2, "", 157),
  (4, 18, 4, 2, false, false, 0, "", 160),
  (4, 26, 4, 1, false, false, 0, "", 158),
  (5, 9, 5, 0, false, true, 2, "", 225),
  (5, 15, 5, 1, false, true, 2, "", 226),
  (5, 18, 5, 2, false, true, 2, "", 227),
  (5, 21, 5, 3, false, true, 2, "", 228),
  (5, 24, 5, 4, false, true, 2, "", 229),
  (5, 27, 5, 8, false, false, 2, "", 235),
  (5, 30, 5, 9, false, false, 2, "", 237),
  (5, 33, 5, 10, false, false, 2, "", 238),
  (5, 36, 5, 11, false, false, 2, "", 239),
  (5, 39, 5, 5, false, false, 0, "", 230),
  (5, 43, 5, 7, false, false, 0, "", 233),
  (5, 56, 5, 6, false, false, 0, "", 232),
  (5, 63, 5, 12, false, false, 0, "", 240),
  (5, 66, 5, 13, false, false, 0, "", 241),
  (6, 11, 6, 0, false, false, 2, "", 325),
  (6, 15, 6, 1, false, false, 2, "", 326),
  (6, 18, 2, 12, true, false, 0, "ResidualJudge", 286),
  (6, 28, 2, 11, true, true, 2, "ResidualJudge", 285),
  (6, 48, 2, 3, true, false, 0, "ResidualJudge", 276),
  (7, 9, 7, 0, false, true, 2, "", 129),
  (7, 15, 7, 1, false, true, 2, "", 131),
  (7, 19, 7, 3, false, false, 0, "", 135),
  (7, 31, 7, 2, false, false, 0, "", 133),
  (8, 9, 8, 0, false, true, 2, "", 108),
  (8, 15, 8, 1, false, false, 0, "", 109),
  (9, 10, 9, 0, false, true, 2, "", 481),
  (9, 19, 9, 1, false, true, 2, "", 482),
  (9, 26, 9, 2, false, true, 2, "", 483),
  (9, 33, 9, 3, false, true, 2, "", 484),
  (9, 40, 9, 4, false, true, 2, "", 485),
  (9, 47, 9, 5, false, true, 2, "", 486),
  (9, 56, 9, 6, false, true, 2, "", 487),
  (9, 60, 7, 0, true, true, 2, "ResidualJudge", 130),
  (9, 72, 8, 1, true, false, 0, "ResidualJudge", 111),
  (9, 88, 1, 0, true, true, 2, "ResidualJudge", 175),
  (9, 133, 7, 2, true, false, 0, "ResidualJudge", 134),
  (9, 137, 4, 1, true, false, 0, "ResidualJudge", 159),
  (9, 149, 7, 1, true, true, 2, "ResidualJudge", 132),
  (9, 153, 9, 7, false, false, 0, "", 488),
  (9, 156, 9, 8, false, false, 0, "", 489),
  (9, 159, 9, 9, false, false, 0, "", 490),
  (9, 162, 0, 5, true, false, 0, "ResidualJudge", 344),
  (9, 165, 0, 6, true, false, 0, "ResidualJudge", 346),
  (9, 168, 0, 7, true, false, 3, "ResidualJudge", 348),
  (9, 172, 0, 8, true, false, 0, "ResidualJudge", 350),
  (9, 175, 0, 10, true, false, 0, "ResidualJudge", 353),
  (9, 178, 7, 3, true, false, 0, "ResidualJudge", 136),
  (9, 192, 2, 0, true, true, 2, "ResidualJudge", 272),
  (9, 196, 5, 7, true, false, 0, "ResidualJudge", 234),
  (10, 7, 10, 0, false, true, 2, "", 818),
  (10, 13, 10, 1, false, true, 2, "", 819),
  (10, 16, 10, 3, false, true, 2, "", 821),
  (10, 19, 10, 5, false, true, 2, "", 823),
  (10, 22, 10, 6, false, true, 2, "", 824),
  (10, 25, 10, 7, false, true, 2, "", 825),
  (10, 28, 10, 8, false, true, 2, "", 826),
  (10, 31, 10, 9, false, true, 2, "", 827),
  (10, 34, 10, 10, false, true, 2, "", 828),
  (10, 37, 10, 11, false, true, 2, "", 829),
  (10, 40, 10, 12, false, true, 2, "", 830),
  (10, 43, 10, 13, false, true, 2, "", 831),
  (10, 46, 10, 14, false, true, 2, "", 832),
  (10, 49, 10, 15, false, true, 2, "", 833),
  (10, 52, 10, 18, false, true, 2, "", 836),
  (10, 55, 10, 19, false, true, 2, "", 837),
  (10, 58, 10, 21, false, true, 2, "", 839),
  (10, 61, 10, 25, false, true, 2, "", 843),
  (10, 64, 10, 26, false, true, 2, "", 844),
  (10, 67, 10, 29, false, true, 2, "", 847),
  (10, 77, 10, 2, false, false, 0, "", 820),
  (10, 81, 10, 4, false, false, 0, "", 822),
  (10, 117, 10, 16, false, false, 0, "", 834),
  (10, 120, 10, 17, false, false, 0, "", 835),
  (10, 123, 10, 20, false, false, 0, "", 838),
  (10, 126, 10, 22, false, false, 0, "", 840),
  (10, 139, 10, 24, false, false, 0, "", 842),
  (10, 146, 10, 23, false, false, 0, "", 841),
  (10, 206, 10, 27, false, false, 0, "", 845),
  (10, 209, 10, 28, false, false, 0, "", 846),
  (10, 212, 10, 30, false, false, 0, "", 848),
  (10, 215, 10, 31, false, false, 0, "", 849),
  (10, 218, 10, 32, false, false, 0, "", 850)]
def tagOk : Nat → FieldType → Bool
  | 0, .int => true
  | 1, .long => true
  | 2, .object _ => true
  | 2, .array _ => true
  | 3, .boolean => true
  | _, _ => false
def clT (ci : Nat) : vw_C := aCl.getD ci ("", TX0, 0)
def fOkB (q : Nat × Nat × Nat × Nat × Bool × Bool × Nat × String × Nat) : Bool := match q with
  | (own, idx, ci, k, nest, fin, tag, host, pl) => ((((clT ci).2.1 k).2.2.2) == fin) && tagOk tag ((parseFieldDescriptor ((clT ci).2.1 k).2.2.1).getD .int) && decide (ci < 11) && decide (k < (clT ci).2.2) && (lw_tbl[pl]? == some (if nest then Cond.fieldLinkNest (cN own) idx (clT ci).1 ((clT ci).2.1 k).2.1 ((clT ci).2.1 k).2.2.1 host else Cond.fieldLink (cN own) idx (clT ci).1 ((clT ci).2.1 k).2.1 ((clT ci).2.1 k).2.2.1)) && (((clT ci).2.1 k).1 == (clT ci).1)
theorem fOk : fTab.all fOkB = true := by decide +kernel
/-- the links of methods: the class whose pool it is, the entry, the method, how it is called (0 virtual, 1 static, 2 init; 3, 4, 5 of nest mates), host, places of its words -/
def cTab : List (Nat × Nat × Nat × Nat × String × Nat × Nat × Nat) := [
  (9, 9, 1, 5, "ResidualJudge", 104, 105, 0),
  (9, 18, 2, 2, "", 121, 122, 0),
  (9, 25, 4, 2, "", 150, 151, 0),
  (9, 32, 5, 5, "ResidualJudge", 170, 171, 0),
  (9, 39, 6, 2, "", 208, 209, 0),
  (9, 46, 9, 5, "ResidualJudge", 321, 322, 0),
  (9, 53, 10, 2, "", 334, 335, 0),
  (9, 64, 11, 0, "", 377, 378, 379),
  (9, 68, 34, 0, "", 516, 518, 12),
  (9, 76, 35, 0, "", 520, 521, 522),
  (9, 80, 38, 0, "", 532, 533, 534),
  (9, 84, 53, 0, "", 592, 593, 594),
  (9, 95, 55, 0, "", 603, 604, 605),
  (9, 98, 52, 1, "", 611, 590, 0),
  (9, 104, 58, 0, "", 617, 618, 619),
  (9, 108, 59, 1, "", 622, 623, 0),
  (9, 112, 65, 0, "", 645, 646, 647),
  (9, 115, 76, 0, "", 698, 699, 700),
  (9, 119, 85, 0, "", 741, 743, 37),
  (9, 122, 87, 0, "", 749, 750, 751),
  (9, 126, 88, 1, "", 753, 754, 0),
  (9, 130, 90, 0, "", 761, 763, 38),
  (9, 134, 93, 0, "", 774, 775, 776),
  (9, 139, 96, 0, "", 786, 787, 788),
  (9, 142, 98, 0, "", 794, 796, 39),
  (9, 181, 91, 0, "", 765, 766, 767),
  (9, 185, 60, 0, "", 625, 626, 627),
  (9, 190, 62, 0, "", 633, 634, 635),
  (9, 201, 63, 0, "", 637, 638, 639),
  (0, 22, 77, 0, "", 702, 704, 29),
  (0, 31, 39, 0, "", 706, 538, 539),
  (0, 35, 42, 4, "ResidualJudge", 707, 550, 0),
  (0, 38, 78, 0, "", 708, 710, 30),
  (0, 48, 82, 0, "", 729, 731, 34),
  (0, 51, 83, 0, "", 733, 735, 35),
  (0, 55, 79, 0, "", 712, 714, 31),
  (0, 58, 84, 0, "", 737, 739, 36),
  (0, 82, 58, 0, "", 720, 618, 619),
  (0, 87, 71, 0, "", 727, 675, 676),
  (0, 91, 81, 0, "", 722, 724, 33),
  (0, 95, 25, 1, "", 728, 444, 0),
  (0, 100, 80, 0, "", 716, 718, 32),
  (0, 104, 60, 0, "", 721, 626, 627),
  (0, 108, 62, 0, "", 726, 634, 635),
  (1, 37, 39, 0, "", 537, 538, 539),
  (1, 41, 40, 0, "", 541, 543, 13),
  (1, 45, 41, 0, "", 545, 547, 14),
  (1, 48, 43, 0, "", 552, 554, 15),
  (1, 51, 47, 0, "", 568, 570, 19),
  (1, 54, 42, 4, "ResidualJudge", 549, 550, 0),
  (1, 76, 44, 0, "", 556, 558, 16),
  (1, 79, 45, 0, "", 560, 562, 17),
  (1, 83, 46, 0, "", 564, 566, 18),
  (1, 86, 48, 0, "", 572, 574, 20),
  (1, 89, 50, 0, "", 580, 582, 22),
  (1, 92, 51, 0, "", 585, 587, 23),
  (1, 95, 49, 0, "", 576, 578, 21),
  (1, 99, 25, 1, "", 584, 444, 0),
  (1, 105, 52, 4, "ResidualJudge", 589, 590, 0),
  (2, 11, 8, 5, "ResidualJudge", 221, 222, 0),
  (2, 45, 13, 0, "", 385, 386, 387),
  (2, 49, 16, 0, "", 396, 397, 398),
  (2, 52, 18, 0, "", 404, 405, 406),
  (2, 59, 15, 1, "", 442, 394, 0),
  (2, 65, 25, 1, "", 443, 444, 0),
  (2, 77, 26, 1, "", 446, 447, 0),
  (2, 83, 3, 1, "", 449, 127, 0),
  (2, 90, 27, 0, "", 450, 452, 7),
  (2, 94, 61, 0, "", 629, 631, 24),
  (2, 98, 69, 1, "", 663, 664, 0),
  (2, 103, 62, 0, "", 678, 634, 635),
  (2, 106, 72, 0, "", 679, 681, 28),
  (2, 110, 73, 1, "", 683, 684, 0),
  (2, 115, 74, 0, "", 689, 690, 691),
  (2, 119, 28, 0, "", 454, 456, 8),
  (2, 122, 29, 0, "", 459, 461, 9),
  (2, 127, 30, 0, "", 464, 466, 10),
  (2, 130, 31, 0, "", 468, 470, 11),
  (2, 133, 21, 1, "", 472, 417, 0),
  (2, 137, 32, 1, "", 473, 474, 0),
  (3, 17, 7, 5, "ResidualJudge", 215, 216, 0),
  (3, 18, 12, 0, "", 381, 382, 383),
  (3, 22, 52, 4, "ResidualJudge", 621, 590, 0),
  (4, 17, 2, 2, "", 156, 122, 0),
  (4, 22, 54, 0, "", 596, 597, 598),
  (4, 29, 15, 1, "", 601, 394, 0),
  (5, 46, 14, 0, "", 389, 391, 0),
  (5, 50, 15, 1, "", 393, 394, 0),
  (5, 59, 17, 0, "", 400, 402, 1),
  (5, 69, 19, 0, "", 408, 410, 2),
  (5, 73, 20, 0, "", 412, 414, 3),
  (5, 77, 22, 0, "", 430, 432, 4),
  (5, 80, 23, 0, "", 434, 436, 5),
  (5, 83, 24, 0, "", 438, 440, 6),
  (5, 86, 21, 1, "", 416, 417, 0),
  (6, 24, 66, 0, "", 649, 651, 25),
  (6, 31, 67, 0, "", 655, 657, 26),
  (6, 35, 70, 0, "", 669, 671, 27),
  (6, 38, 26, 1, "", 653, 447, 0),
  (6, 44, 60, 0, "", 654, 626, 627),
  (6, 51, 68, 0, "", 659, 660, 661),
  (6, 54, 15, 1, "", 673, 394, 0),
  (6, 60, 71, 0, "", 674, 675, 676),
  (6, 63, 21, 1, "", 693, 417, 0),
  (7, 25, 3, 1, "", 126, 127, 0),
  (7, 36, 71, 0, "", 769, 675, 676),
  (10, 70, 101, 0, "", 810, 812, 40),
  (10, 74, 102, 0, "", 814, 816, 41),
  (10, 84, 124, 0, "", 1003, 1005, 54),
  (10, 88, 131, 0, "", 1031, 1033, 61),
  (10, 92, 132, 0, "", 1035, 1037, 62),
  (10, 96, 129, 0, "", 1023, 1025, 59),
  (10, 100, 130, 0, "", 1027, 1029, 60),
  (10, 104, 128, 0, "", 1019, 1021, 58),
  (10, 109, 104, 1, "", 923, 924, 0),
  (10, 113, 105, 0, "", 926, 928, 42),
  (10, 129, 114, 1, "", 964, 965, 0),
  (10, 132, 115, 0, "", 967, 969, 49),
  (10, 136, 112, 0, "", 956, 958, 47),
  (10, 149, 113, 0, "", 960, 962, 48),
  (10, 152, 109, 0, "", 942, 944, 44),
  (10, 155, 111, 0, "", 952, 954, 46),
  (10, 158, 116, 1, "", 971, 972, 0),
  (10, 161, 117, 0, "", 974, 976, 50),
  (10, 164, 110, 0, "", 948, 950, 45),
  (10, 168, 108, 0, "", 938, 940, 43),
  (10, 172, 118, 0, "", 978, 980, 51),
  (10, 177, 120, 1, "", 986, 987, 0),
  (10, 180, 123, 0, "", 999, 1001, 53),
  (10, 183, 125, 0, "", 1007, 1009, 55),
  (10, 186, 126, 0, "", 1011, 1013, 56),
  (10, 189, 127, 0, "", 1015, 1017, 57),
  (10, 194, 122, 0, "", 995, 997, 52),
  (10, 198, 135, 0, "", 1048, 1050, 64),
  (10, 203, 134, 0, "", 1044, 1046, 63),
  (10, 221, 140, 0, "", 1069, 1071, 68),
  (10, 224, 139, 0, "", 1065, 1067, 67),
  (10, 227, 141, 0, "", 1073, 1075, 69),
  (10, 232, 137, 0, "", 1057, 1059, 65),
  (10, 235, 138, 0, "", 1061, 1063, 66),
  (10, 238, 142, 0, "", 1077, 1079, 70),
  (10, 241, 144, 1, "", 1085, 1086, 0),
  (10, 247, 148, 0, "", 1103, 1105, 72),
  (10, 250, 147, 0, "", 1099, 1101, 71),
  (10, 255, 151, 0, "", 1116, 1118, 73),
  (10, 260, 154, 0, "", 1129, 1131, 74),
  (11, 59, 145, 1, "", 1088, 1089, 0),
  (15, 304, 15, 1, "", 426, 394, 0)]
def cOkB (q : Nat × Nat × Nat × Nat × String × Nat × Nat × Nat) : Bool := match q with
  | (own, idx, μ, kn, host, p1, p2, p3) => decide (μ < mN) && decide (kn < 6) && (lw_tbl[p1]? == some (if 3 ≤ kn then Cond.methodLinkNest (cN own) idx (mY μ) host else Cond.methodLink (cN own) idx (mY μ))) && (lw_tbl[p2]? == some (if kn = 1 ∨ kn = 4 then Cond.static (mY μ) else Cond.instanceMethod (mY μ))) && (!(kn == 0 || kn == 3) || (lw_tbl[p3]? == some (Cond.selects (mY μ).cls (mY μ) (mY μ)))) && (!(kn == 2 || kn == 5) || ((mY μ).name == "<init>" && mR μ == none))
theorem cOk : cTab.all cOkB = true := by decide +kernel
def kTI : List (Nat × Nat × Int32 × Nat) := [(2, 126, 65536, 463), (12, 265, 1431655765, 666), (12, 266, 858993459, 667), (12, 267, 252645135, 668), (11, 77, 2143289344, 1094)]
def kTJ : List (Nat × Nat × Int64 × Nat) := [(7, 23, 9, 125), (2, 140, -7046029254386353131, 458), (9, 102, 9, 612), (13, 314, 6148914691236517205, 686), (13, 316, 3689348814741910323, 687), (13, 318, 1085102592571150095, 688), (9, 145, 2521, 802), (9, 147, 31, 803), (10, 107, 127, 922), (10, 142, 97, 946), (10, 144, 104, 947), (10, 175, 8, 989), (10, 192, 3, 994), (10, 201, 6, 1043), (10, 230, 5, 1056), (10, 253, 7, 1111), (10, 258, 4, 1128), (10, 263, 2521, 1137), (10, 265, 31, 1138)]
def kTF : List (Nat × Nat × UInt32 × Nat) := [(9, 205, 1258291200, 756)]
def nTb : List (Nat × Nat × Nat × Nat × Nat × Nat) := [(9, 7, 8, 102, 103, 77), (9, 16, 7, 119, 120, 78), (9, 23, 4, 148, 149, 80), (4, 9, 7, 154, 120, 78), (9, 30, 1, 168, 169, 81), (9, 37, 3, 206, 207, 82), (3, 9, 2, 212, 214, 83), (2, 9, 5, 219, 220, 84), (9, 44, 6, 319, 320, 85), (9, 51, 0, 332, 333, 86)]
def qTb : List (Nat × Nat × Nat × Nat × Nat) := [(4, 9, 4, 154, 155), (3, 9, 3, 212, 213)]
def oTb : List (Nat × Nat × Nat) := [(9, 1, 99), (0, 3, 337), (1, 3, 173), (2, 3, 218), (3, 3, 211), (4, 3, 153), (5, 3, 224), (6, 3, 324), (7, 3, 124), (8, 3, 107), (10, 1, 809)]
def aTb : List (Nat × Nat × Nat) := [(9, 89, 602), (1, 19, 536), (7, 40, 600), (15, 150, 427)]
def rTb : List (Nat × Nat × Nat) := [(11, 74, 1091)]
def inits : List Nat := [0, 1, 2, 4, 5, 6, 7, 8, 9, 10, 100]
def qCl (t : Nat) : String := if t = 3 then "ResidualJudge$Machine" else "ResidualJudge$Scene"
theorem kIOk : kTI.all (fun q => lw_tbl[q.2.2.2]? == some (Cond.constant (cN q.1) q.2.1 q.2.2.1)) = true := by decide +kernel
theorem kJOk : kTJ.all (fun q => lw_tbl[q.2.2.2]? == some (Cond.constantLong (cN q.1) q.2.1 q.2.2.1)) = true := by decide +kernel
theorem kFOk : kTF.all (fun q => lw_tbl[q.2.2.2]? == some (Cond.constantFloat (cN q.1) q.2.1 q.2.2.1)) = true := by decide +kernel
theorem nOk : nTb.all (fun q => decide (q.2.2.1 < 11) && (lw_tbl[q.2.2.2.1]? == some (Cond.classLink (cN q.1) q.2.1 (clT q.2.2.1).1)) && (lw_tbl[q.2.2.2.2.1]? == some (Cond.instantiable (clT q.2.2.1).1 (clT q.2.2.1).2.2)) && (lw_tbl[q.2.2.2.2.2]? == some (Cond.initialized (clT q.2.2.1).1))) = true := by decide +kernel
theorem qOk : qTb.all (fun q => (q.2.2.1 == 3 || q.2.2.1 == 4) && (lw_tbl[q.2.2.2.1]? == some (Cond.classLink (cN q.1) q.2.1 (qCl q.2.2.1))) && (lw_tbl[q.2.2.2.2]? == some (Cond.arrayOver (.object (qCl q.2.2.1))))) = true := by decide +kernel
theorem oOk : oTb.all (fun q => lw_tbl[q.2.2]? == some (Cond.methodLink (cN q.1) q.2.1 ⟨"java/lang/Object", "<init>", "()V"⟩)) = true := by decide +kernel
theorem aOk : aTb.all (fun q => lw_tbl[q.2.2]? == some (Cond.methodLink (cN q.1) q.2.1 ⟨"java/lang/System", "arraycopy", "(Ljava/lang/Object;ILjava/lang/Object;II)V"⟩)) = true := by decide +kernel
theorem rOk : rTb.all (fun q => lw_tbl[q.2.2]? == some (Cond.methodLink (cN q.1) q.2.1 ⟨"java/lang/Float", "floatToRawIntBits", "(F)I"⟩)) = true := by decide +kernel
theorem inOk : inits.all (fun μ => (mY μ).name == "<init>") = true := by decide +kernel
