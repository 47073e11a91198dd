def RX0 : String := "AnsweredByTheDrowned$Lake"
def TX0 : u_T := fun k => match k with
  | 0 => ("AnsweredByTheDrowned$Lake", "laws", "LAnsweredByTheDrowned$Laws;", true)
  | 1 => ("AnsweredByTheDrowned$Lake", "people", "LAnsweredByTheDrowned$People;", true)
  | 2 => ("AnsweredByTheDrowned$Lake", "inForce", "I", false)
  | 3 => ("AnsweredByTheDrowned$Lake", "depth", "I", false)
  | 4 => ("AnsweredByTheDrowned$Lake", "miss", "I", false)
  | 5 => ("AnsweredByTheDrowned$Lake", "ring", "J", false)
  | 6 => ("AnsweredByTheDrowned$Lake", "steps", "I", false)
  | _ => ("AnsweredByTheDrowned$Lake", "seed", "I", false)
def tyX0 : Nat → FieldType := fun k => match k with
  | 0 => .object "AnsweredByTheDrowned$Laws"
  | 1 => .object "AnsweredByTheDrowned$People"
  | 2 => .int
  | 3 => .int
  | 4 => .int
  | 5 => .long
  | 6 => .int
  | _ => .int
abbrev wsX00 : List Cond := u_ws RX0 TX0 8
theorem nmX0 : ∀ a, a < 8 → ∀ b, b < 8 → a ≠ b → (TX0 a).2.1 ≠ (TX0 b).2.1 := by decide +kernel
theorem tyX0_ok : ∀ k, k < 8 → parseFieldDescriptor (TX0 k).2.2.1 = some (tyX0 k) := by decide +kernel
abbrev cX0_init : ByteArray := prog_2_method_1_code
def yX0_init : MethodName := ⟨RX0, "<init>", "()V"⟩
abbrev cX0_takeFrom : ByteArray := prog_2_method_2_code
def yX0_takeFrom : MethodName := ⟨RX0, "takeFrom", "(LAnsweredByTheDrowned$Lake;)V"⟩
abbrev cX0_hasRoom : ByteArray := prog_2_method_3_code
def yX0_hasRoom : MethodName := ⟨RX0, "hasRoom", "()Z"⟩
abbrev cX0_addStep : ByteArray := prog_2_method_4_code
def yX0_addStep : MethodName := ⟨RX0, "addStep", "(Z)V"⟩
abbrev cX0_clearRing : ByteArray := prog_2_method_5_code
def yX0_clearRing : MethodName := ⟨RX0, "clearRing", "()V"⟩
abbrev cX0_wouldStrike : ByteArray := prog_2_method_6_code
def yX0_wouldStrike : MethodName := ⟨RX0, "wouldStrike", "(I)Z"⟩
abbrev cX0_struck : ByteArray := prog_2_method_7_code
def yX0_struck : MethodName := ⟨RX0, "struck", "(IJ)J"⟩
abbrev cX0_timesStruck : ByteArray := prog_2_method_8_code
def yX0_timesStruck : MethodName := ⟨RX0, "timesStruck", "(IJ)I"⟩
abbrev cX0_struckInRepetition : ByteArray := prog_2_method_9_code
def yX0_struckInRepetition : MethodName := ⟨RX0, "struckInRepetition", "(I)J"⟩
abbrev cX0_risen : ByteArray := prog_2_method_10_code
def yX0_risen : MethodName := ⟨RX0, "risen", "(II)J"⟩
abbrev cX0_sounds : ByteArray := prog_2_method_11_code
def yX0_sounds : MethodName := ⟨RX0, "sounds", "(JII)J"⟩
abbrev cX0_turnedAbout : ByteArray := prog_2_method_12_code
def yX0_turnedAbout : MethodName := ⟨RX0, "turnedAbout", "()J"⟩
abbrev cX0_partedBy : ByteArray := prog_2_method_13_code
def yX0_partedBy : MethodName := ⟨RX0, "partedBy", "(IZ)I"⟩
abbrev cX0_loudestRing : ByteArray := prog_2_method_14_code
def yX0_loudestRing : MethodName := ⟨RX0, "loudestRing", "(II)I"⟩
abbrev cX0_leastRingHeardAt : ByteArray := prog_2_method_15_code
def yX0_leastRingHeardAt : MethodName := ⟨RX0, "leastRingHeardAt", "(II)I"⟩
abbrev cX0_draw : ByteArray := prog_2_method_16_code
def yX0_draw : MethodName := ⟨RX0, "draw", "(I)I"⟩
abbrev cX0_strikesInTruth : ByteArray := prog_2_method_17_code
def yX0_strikesInTruth : MethodName := ⟨RX0, "strikesInTruth", "(Z)Z"⟩
def RX1 : String := "AnsweredByTheDrowned$LakeReader"
def TX1 : u_T := fun k => match k with
  | 0 => ("AnsweredByTheDrowned$LakeReader", "tape", "LAnsweredByTheDrowned$Tape;", true)
  | 1 => ("AnsweredByTheDrowned$LakeReader", "draft", "LAnsweredByTheDrowned$Lake;", true)
  | _ => ("AnsweredByTheDrowned$LakeReader", "number", "I", false)
def tyX1 : Nat → FieldType := fun k => match k with
  | 0 => .object "AnsweredByTheDrowned$Tape"
  | 1 => .object "AnsweredByTheDrowned$Lake"
  | _ => .int
abbrev wsX10 : List Cond := u_ws RX1 TX1 3
theorem nmX1 : ∀ a, a < 3 → ∀ b, b < 3 → a ≠ b → (TX1 a).2.1 ≠ (TX1 b).2.1 := by decide +kernel
theorem tyX1_ok : ∀ k, k < 3 → parseFieldDescriptor (TX1 k).2.2.1 = some (tyX1 k) := by decide +kernel
abbrev cX1_init : ByteArray := prog_3_method_1_code
def yX1_init : MethodName := ⟨RX1, "<init>", "()V"⟩
abbrev cX1_readLake : ByteArray := prog_3_method_2_code
def yX1_readLake : MethodName := ⟨RX1, "readLake", "()I"⟩
abbrev cX1_readStatement : ByteArray := prog_3_method_3_code
def yX1_readStatement : MethodName := ⟨RX1, "readStatement", "()Z"⟩
abbrev cX1_readLaw : ByteArray := prog_3_method_4_code
def yX1_readLaw : MethodName := ⟨RX1, "readLaw", "()Z"⟩
abbrev cX1_readUse : ByteArray := prog_3_method_5_code
def yX1_readUse : MethodName := ⟨RX1, "readUse", "()Z"⟩
abbrev cX1_readDepth : ByteArray := prog_3_method_6_code
def yX1_readDepth : MethodName := ⟨RX1, "readDepth", "()Z"⟩
abbrev cX1_readMiss : ByteArray := prog_3_method_7_code
def yX1_readMiss : MethodName := ⟨RX1, "readMiss", "()Z"⟩
abbrev cX1_readPerson : ByteArray := prog_3_method_8_code
def yX1_readPerson : MethodName := ⟨RX1, "readPerson", "()Z"⟩
abbrev cX1_readSteps : ByteArray := prog_3_method_9_code
def yX1_readSteps : MethodName := ⟨RX1, "readSteps", "()Z"⟩
abbrev cX1_readNumber : ByteArray := prog_3_method_10_code
def yX1_readNumber : MethodName := ⟨RX1, "readNumber", "(II)Z"⟩
def RX2 : String := "AnsweredByTheDrowned$Laws"
def TX2 : u_T := fun k => match k with
  | 0 => ("AnsweredByTheDrowned$Laws", "kinds", "[I", true)
  | 1 => ("AnsweredByTheDrowned$Laws", "tunes", "[I", true)
  | _ => ("AnsweredByTheDrowned$Laws", "count", "I", false)
def tyX2 : Nat → FieldType := fun k => match k with
  | 0 => .array .int
  | 1 => .array .int
  | _ => .int
abbrev wsX20 : List Cond := u_ws RX2 TX2 3
theorem nmX2 : ∀ a, a < 3 → ∀ b, b < 3 → a ≠ b → (TX2 a).2.1 ≠ (TX2 b).2.1 := by decide +kernel
theorem tyX2_ok : ∀ k, k < 3 → parseFieldDescriptor (TX2 k).2.2.1 = some (tyX2 k) := by decide +kernel
abbrev cX2_init : ByteArray := prog_4_method_1_code
def yX2_init : MethodName := ⟨RX2, "<init>", "()V"⟩
abbrev cX2_isKind : ByteArray := prog_4_method_2_code
def yX2_isKind : MethodName := ⟨RX2, "isKind", "(I)Z"⟩
abbrev cX2_isUnder : ByteArray := prog_4_method_3_code
def yX2_isUnder : MethodName := ⟨RX2, "isUnder", "(II)Z"⟩
abbrev cX2_takeFrom : ByteArray := prog_4_method_4_code
def yX2_takeFrom : MethodName := ⟨RX2, "takeFrom", "(LAnsweredByTheDrowned$Laws;)V"⟩
abbrev cX2_hasRoom : ByteArray := prog_4_method_5_code
def yX2_hasRoom : MethodName := ⟨RX2, "hasRoom", "()Z"⟩
abbrev cX2_isThere : ByteArray := prog_4_method_6_code
def yX2_isThere : MethodName := ⟨RX2, "isThere", "(I)Z"⟩
abbrev cX2_add : ByteArray := prog_4_method_7_code
def yX2_add : MethodName := ⟨RX2, "add", "(II)I"⟩
abbrev cX2_write : ByteArray := prog_4_method_8_code
def yX2_write : MethodName := ⟨RX2, "write", "(III)V"⟩
abbrev cX2_kindOf : ByteArray := prog_4_method_9_code
def yX2_kindOf : MethodName := ⟨RX2, "kindOf", "(I)I"⟩
abbrev cX2_tuneOf : ByteArray := prog_4_method_10_code
def yX2_tuneOf : MethodName := ⟨RX2, "tuneOf", "(I)I"⟩
abbrev cX2_stepsLookedAhead : ByteArray := prog_4_method_11_code
def yX2_stepsLookedAhead : MethodName := ⟨RX2, "stepsLookedAhead", "(II)I"⟩
abbrev cX2_strikesAt : ByteArray := prog_4_method_12_code
def yX2_strikesAt : MethodName := ⟨RX2, "strikesAt", "(IJII)Z"⟩
abbrev cX2_isStrokeAt : ByteArray := prog_4_method_13_code
def yX2_isStrokeAt : MethodName := ⟨RX2, "isStrokeAt", "(JII)Z"⟩
abbrev cX2_isGapAt : ByteArray := prog_4_method_14_code
def yX2_isGapAt : MethodName := ⟨RX2, "isGapAt", "(JII)Z"⟩
abbrev cX2_areGaps : ByteArray := prog_4_method_15_code
def yX2_areGaps : MethodName := ⟨RX2, "areGaps", "(JIII)Z"⟩
abbrev cX2_strokesAhead : ByteArray := prog_4_method_16_code
def yX2_strokesAhead : MethodName := ⟨RX2, "strokesAhead", "(JII)I"⟩
abbrev cX2_struck : ByteArray := prog_4_method_17_code
def yX2_struck : MethodName := ⟨RX2, "struck", "(IJII)J"⟩
abbrev cX2_strikesJustAt : ByteArray := prog_4_method_18_code
def yX2_strikesJustAt : MethodName := ⟨RX2, "strikesJustAt", "(IJII)Z"⟩
abbrev cX2_leastRingStruckAt : ByteArray := prog_4_method_19_code
def yX2_leastRingStruckAt : MethodName := ⟨RX2, "leastRingStruckAt", "(III)I"⟩
abbrev cX2_firstPartingRing : ByteArray := prog_4_method_20_code
def yX2_firstPartingRing : MethodName := ⟨RX2, "firstPartingRing", "(III)I"⟩
def RX3 : String := "AnsweredByTheDrowned$People"
def TX3 : u_T := fun k => match k with
  | 0 => ("AnsweredByTheDrowned$People", "ages", "[I", true)
  | 1 => ("AnsweredByTheDrowned$People", "sums", "[J", true)
  | _ => ("AnsweredByTheDrowned$People", "count", "I", false)
def tyX3 : Nat → FieldType := fun k => match k with
  | 0 => .array .int
  | 1 => .array .long
  | _ => .int
abbrev wsX30 : List Cond := u_ws RX3 TX3 3
theorem nmX3 : ∀ a, a < 3 → ∀ b, b < 3 → a ≠ b → (TX3 a).2.1 ≠ (TX3 b).2.1 := by decide +kernel
theorem tyX3_ok : ∀ k, k < 3 → parseFieldDescriptor (TX3 k).2.2.1 = some (tyX3 k) := by decide +kernel
abbrev cX3_init : ByteArray := prog_5_method_1_code
def yX3_init : MethodName := ⟨RX3, "<init>", "()V"⟩
abbrev cX3_takeFrom : ByteArray := prog_5_method_2_code
def yX3_takeFrom : MethodName := ⟨RX3, "takeFrom", "(LAnsweredByTheDrowned$People;)V"⟩
abbrev cX3_hasRoom : ByteArray := prog_5_method_3_code
def yX3_hasRoom : MethodName := ⟨RX3, "hasRoom", "()Z"⟩
abbrev cX3_isThere : ByteArray := prog_5_method_4_code
def yX3_isThere : MethodName := ⟨RX3, "isThere", "(I)Z"⟩
abbrev cX3_add : ByteArray := prog_5_method_5_code
def yX3_add : MethodName := ⟨RX3, "add", "(I)I"⟩
abbrev cX3_write : ByteArray := prog_5_method_6_code
def yX3_write : MethodName := ⟨RX3, "write", "(II)V"⟩
abbrev cX3_ageOf : ByteArray := prog_5_method_7_code
def yX3_ageOf : MethodName := ⟨RX3, "ageOf", "(I)I"⟩
abbrev cX3_agesOf : ByteArray := prog_5_method_8_code
def yX3_agesOf : MethodName := ⟨RX3, "agesOf", "(I)I"⟩
abbrev cX3_agesOfAll : ByteArray := prog_5_method_9_code
def yX3_agesOfAll : MethodName := ⟨RX3, "agesOfAll", "()I"⟩
abbrev cX3_howManySets : ByteArray := prog_5_method_10_code
def yX3_howManySets : MethodName := ⟨RX3, "howManySets", "(I)I"⟩
abbrev cX3_smallestSet : ByteArray := prog_5_method_11_code
def yX3_smallestSet : MethodName := ⟨RX3, "smallestSet", "(I)I"⟩
abbrev cX3_howManySums : ByteArray := prog_5_method_12_code
def yX3_howManySums : MethodName := ⟨RX3, "howManySums", "(I)I"⟩
abbrev cX3_mark : ByteArray := prog_5_method_13_code
def yX3_mark : MethodName := ⟨RX3, "mark", "(I)V"⟩
abbrev cX3_nearestToHalf : ByteArray := prog_5_method_14_code
def yX3_nearestToHalf : MethodName := ⟨RX3, "nearestToHalf", "()I"⟩
abbrev cX3_withRank : ByteArray := prog_5_method_15_code
def yX3_withRank : MethodName := ⟨RX3, "withRank", "(I)I"⟩
abbrev cX3_rankOf : ByteArray := prog_5_method_16_code
def yX3_rankOf : MethodName := ⟨RX3, "rankOf", "(I)I"⟩
abbrev cX3_firstOldest : ByteArray := prog_5_method_17_code
def yX3_firstOldest : MethodName := ⟨RX3, "firstOldest", "()I"⟩
def RX4 : String := "AnsweredByTheDrowned$Shelves"
def TX4 : u_T := fun k => match k with
  | 0 => ("AnsweredByTheDrowned$Shelves", "held", "[I", true)
  | 1 => ("AnsweredByTheDrowned$Shelves", "sizes", "[I", true)
  | _ => ("AnsweredByTheDrowned$Shelves", "elements", "[J", true)
def tyX4 : Nat → FieldType := fun k => match k with
  | 0 => .array .int
  | 1 => .array .int
  | _ => .array .long
abbrev wsX40 : List Cond := u_ws RX4 TX4 3
theorem nmX4 : ∀ a, a < 3 → ∀ b, b < 3 → a ≠ b → (TX4 a).2.1 ≠ (TX4 b).2.1 := by decide +kernel
theorem tyX4_ok : ∀ k, k < 3 → parseFieldDescriptor (TX4 k).2.2.1 = some (tyX4 k) := by decide +kernel
abbrev cX4_init : ByteArray := prog_6_method_1_code
def yX4_init : MethodName := ⟨RX4, "<init>", "()V"⟩
abbrev cX4_isShelf : ByteArray := prog_6_method_2_code
def yX4_isShelf : MethodName := ⟨RX4, "isShelf", "(I)Z"⟩
abbrev cX4_heldOn : ByteArray := prog_6_method_3_code
def yX4_heldOn : MethodName := ⟨RX4, "heldOn", "(I)I"⟩
abbrev cX4_holdsRow : ByteArray := prog_6_method_4_code
def yX4_holdsRow : MethodName := ⟨RX4, "holdsRow", "(I)Z"⟩
abbrev cX4_lawOn : ByteArray := prog_6_method_5_code
def yX4_lawOn : MethodName := ⟨RX4, "lawOn", "(I)I"⟩
abbrev cX4_sizeOf : ByteArray := prog_6_method_6_code
def yX4_sizeOf : MethodName := ⟨RX4, "sizeOf", "(I)I"⟩
abbrev cX4_howManyHold : ByteArray := prog_6_method_7_code
def yX4_howManyHold : MethodName := ⟨RX4, "howManyHold", "()I"⟩
abbrev cX4_put : ByteArray := prog_6_method_8_code
def yX4_put : MethodName := ⟨RX4, "put", "(III)V"⟩
abbrev cX4_putNothing : ByteArray := prog_6_method_9_code
def yX4_putNothing : MethodName := ⟨RX4, "putNothing", "(I)V"⟩
abbrev cX4_putLaw : ByteArray := prog_6_method_10_code
def yX4_putLaw : MethodName := ⟨RX4, "putLaw", "(II)V"⟩
abbrev cX4_putRow : ByteArray := prog_6_method_11_code
def yX4_putRow : MethodName := ⟨RX4, "putRow", "(III)V"⟩
abbrev cX4_putElement : ByteArray := prog_6_method_12_code
def yX4_putElement : MethodName := ⟨RX4, "putElement", "(IIJ)V"⟩
abbrev cX4_elementAt : ByteArray := prog_6_method_13_code
def yX4_elementAt : MethodName := ⟨RX4, "elementAt", "(II)J"⟩
abbrev cX4_placeOf : ByteArray := prog_6_method_14_code
def yX4_placeOf : MethodName := ⟨RX4, "placeOf", "(II)I"⟩
abbrev cX4_lowestBits : ByteArray := prog_6_method_15_code
def yX4_lowestBits : MethodName := ⟨RX4, "lowestBits", "(IJ)J"⟩
abbrev cX4_hasElements : ByteArray := prog_6_method_16_code
def yX4_hasElements : MethodName := ⟨RX4, "hasElements", "(III)Z"⟩
abbrev cX4_copyElements : ByteArray := prog_6_method_17_code
def yX4_copyElements : MethodName := ⟨RX4, "copyElements", "(IIIII)V"⟩
abbrev cX4_elementsAsBits : ByteArray := prog_6_method_18_code
def yX4_elementsAsBits : MethodName := ⟨RX4, "elementsAsBits", "(II)J"⟩
abbrev cX4_firstWrong : ByteArray := prog_6_method_19_code
def yX4_firstWrong : MethodName := ⟨RX4, "firstWrong", "(II)I"⟩
abbrev cX4_clearLawsFrom : ByteArray := prog_6_method_20_code
def yX4_clearLawsFrom : MethodName := ⟨RX4, "clearLawsFrom", "(I)V"⟩
def RX5 : String := "AnsweredByTheDrowned$Tape"
def TX5 : u_T := fun k => match k with
  | 0 => ("AnsweredByTheDrowned$Tape", "bytes", "[I", true)
  | 1 => ("AnsweredByTheDrowned$Tape", "size", "I", false)
  | 2 => ("AnsweredByTheDrowned$Tape", "token", "I", false)
  | 3 => ("AnsweredByTheDrowned$Tape", "tokenStart", "I", false)
  | _ => ("AnsweredByTheDrowned$Tape", "tokenEnd", "I", false)
def tyX5 : Nat → FieldType := fun k => match k with
  | 0 => .array .int
  | 1 => .int
  | 2 => .int
  | 3 => .int
  | _ => .int
abbrev wsX50 : List Cond := u_ws RX5 TX5 5
theorem nmX5 : ∀ a, a < 5 → ∀ b, b < 5 → a ≠ b → (TX5 a).2.1 ≠ (TX5 b).2.1 := by decide +kernel
theorem tyX5_ok : ∀ k, k < 5 → parseFieldDescriptor (TX5 k).2.2.1 = some (tyX5 k) := by decide +kernel
abbrev cX5_init : ByteArray := prog_7_method_1_code
def yX5_init : MethodName := ⟨RX5, "<init>", "()V"⟩
abbrev cX5_hasRoom : ByteArray := prog_7_method_2_code
def yX5_hasRoom : MethodName := ⟨RX5, "hasRoom", "()Z"⟩
abbrev cX5_add : ByteArray := prog_7_method_3_code
def yX5_add : MethodName := ⟨RX5, "add", "(I)I"⟩
abbrev cX5_byteAt : ByteArray := prog_7_method_4_code
def yX5_byteAt : MethodName := ⟨RX5, "byteAt", "(I)I"⟩
abbrev cX5_rewind : ByteArray := prog_7_method_5_code
def yX5_rewind : MethodName := ⟨RX5, "rewind", "()V"⟩
abbrev cX5_nextToken : ByteArray := prog_7_method_6_code
def yX5_nextToken : MethodName := ⟨RX5, "nextToken", "()V"⟩
abbrev cX5_tokenBegunBy : ByteArray := prog_7_method_7_code
def yX5_tokenBegunBy : MethodName := ⟨RX5, "tokenBegunBy", "(I)I"⟩
abbrev cX5_tokenLength : ByteArray := prog_7_method_8_code
def yX5_tokenLength : MethodName := ⟨RX5, "tokenLength", "()I"⟩
abbrev cX5_isWord : ByteArray := prog_7_method_9_code
def yX5_isWord : MethodName := ⟨RX5, "isWord", "(Ljava/lang/String;)Z"⟩
def RX6 : String := "AnsweredByTheDrowned"
def TX6 : u_T := fun k => match k with
  | 0 => ("AnsweredByTheDrowned", "now", "LAnsweredByTheDrowned$Lake;", true)
  | 1 => ("AnsweredByTheDrowned", "kept", "LAnsweredByTheDrowned$Lake;", true)
  | 2 => ("AnsweredByTheDrowned", "reader", "LAnsweredByTheDrowned$LakeReader;", true)
  | 3 => ("AnsweredByTheDrowned", "shelves", "LAnsweredByTheDrowned$Shelves;", true)
  | 4 => ("AnsweredByTheDrowned", "refusals", "[I", true)
  | _ => ("AnsweredByTheDrowned", "isKept", "Z", false)
def tyX6 : Nat → FieldType := fun k => match k with
  | 0 => .object "AnsweredByTheDrowned$Lake"
  | 1 => .object "AnsweredByTheDrowned$Lake"
  | 2 => .object "AnsweredByTheDrowned$LakeReader"
  | 3 => .object "AnsweredByTheDrowned$Shelves"
  | 4 => .array .int
  | _ => .boolean
abbrev wsX60 : List Cond := u_ws RX6 TX6 6
theorem nmX6 : ∀ a, a < 6 → ∀ b, b < 6 → a ≠ b → (TX6 a).2.1 ≠ (TX6 b).2.1 := by decide +kernel
theorem tyX6_ok : ∀ k, k < 6 → parseFieldDescriptor (TX6 k).2.2.1 = some (tyX6 k) := by decide +kernel
abbrev cX6_init : ByteArray := prog_1_method_1_code
def yX6_init : MethodName := ⟨RX6, "<init>", "()V"⟩
abbrev cX6_row : ByteArray := prog_1_method_2_code
def yX6_row : MethodName := ⟨RX6, "row", "(III)I"⟩
abbrev cX6_set : ByteArray := prog_1_method_3_code
def yX6_set : MethodName := ⟨RX6, "set", "(IIJ)I"⟩
abbrev cX6_copy : ByteArray := prog_1_method_4_code
def yX6_copy : MethodName := ⟨RX6, "copy", "(IIIII)I"⟩
abbrev cX6_element : ByteArray := prog_1_method_5_code
def yX6_element : MethodName := ⟨RX6, "element", "(II)J"⟩
abbrev cX6_holds : ByteArray := prog_1_method_6_code
def yX6_holds : MethodName := ⟨RX6, "holds", "(I)I"⟩
abbrev cX6_show : ByteArray := prog_1_method_7_code
def yX6_show : MethodName := ⟨RX6, "show", "(II)I"⟩
abbrev cX6_says : ByteArray := prog_1_method_8_code
def yX6_says : MethodName := ⟨RX6, "says", "(II)I"⟩
abbrev cX6_law : ByteArray := prog_1_method_9_code
def yX6_law : MethodName := ⟨RX6, "law", "(II)I"⟩
abbrev cX6_use : ByteArray := prog_1_method_10_code
def yX6_use : MethodName := ⟨RX6, "use", "(I)I"⟩
abbrev cX6_ask : ByteArray := prog_1_method_11_code
def yX6_ask : MethodName := ⟨RX6, "ask", "(II)I"⟩
abbrev cX6_person : ByteArray := prog_1_method_12_code
def yX6_person : MethodName := ⟨RX6, "person", "(I)I"⟩
abbrev cX6_feed : ByteArray := prog_1_method_13_code
def yX6_feed : MethodName := ⟨RX6, "feed", "(I)I"⟩
abbrev cX6_wipe : ByteArray := prog_1_method_14_code
def yX6_wipe : MethodName := ⟨RX6, "wipe", "()I"⟩
abbrev cX6_lake : ByteArray := prog_1_method_15_code
def yX6_lake : MethodName := ⟨RX6, "lake", "()I"⟩
abbrev cX6_lawOf : ByteArray := prog_1_method_16_code
def yX6_lawOf : MethodName := ⟨RX6, "lawOf", "(II)I"⟩
abbrev cX6_age : ByteArray := prog_1_method_17_code
def yX6_age : MethodName := ⟨RX6, "age", "(I)I"⟩
abbrev cX6_step : ByteArray := prog_1_method_18_code
def yX6_step : MethodName := ⟨RX6, "step", "(I)I"⟩
abbrev cX6_strikes : ByteArray := prog_1_method_19_code
def yX6_strikes : MethodName := ⟨RX6, "strikes", "(I)I"⟩
abbrev cX6_strikesBy : ByteArray := prog_1_method_20_code
def yX6_strikesBy : MethodName := ⟨RX6, "strikesBy", "(II)I"⟩
abbrev cX6_heard : ByteArray := prog_1_method_21_code
def yX6_heard : MethodName := ⟨RX6, "heard", "(II)I"⟩
abbrev cX6_all : ByteArray := prog_1_method_22_code
def yX6_all : MethodName := ⟨RX6, "all", "(I)I"⟩
abbrev cX6_silent : ByteArray := prog_1_method_23_code
def yX6_silent : MethodName := ⟨RX6, "silent", "(I)I"⟩
abbrev cX6_run : ByteArray := prog_1_method_24_code
def yX6_run : MethodName := ⟨RX6, "run", "(I)I"⟩
abbrev cX6_loop : ByteArray := prog_1_method_25_code
def yX6_loop : MethodName := ⟨RX6, "loop", "(I)I"⟩
abbrev cX6_period : ByteArray := prog_1_method_26_code
def yX6_period : MethodName := ⟨RX6, "period", "()I"⟩
abbrev cX6_mirror : ByteArray := prog_1_method_27_code
def yX6_mirror : MethodName := ⟨RX6, "mirror", "()I"⟩
abbrev cX6_lastStroke : ByteArray := prog_1_method_28_code
def yX6_lastStroke : MethodName := ⟨RX6, "lastStroke", "()I"⟩
abbrev cX6_shift : ByteArray := prog_1_method_29_code
def yX6_shift : MethodName := ⟨RX6, "shift", "(I)I"⟩
abbrev cX6_flip : ByteArray := prog_1_method_30_code
def yX6_flip : MethodName := ⟨RX6, "flip", "()I"⟩
abbrev cX6_until : ByteArray := prog_1_method_31_code
def yX6_until : MethodName := ⟨RX6, "until", "(I)I"⟩
abbrev cX6_sameAs : ByteArray := prog_1_method_32_code
def yX6_sameAs : MethodName := ⟨RX6, "sameAs", "(I)I"⟩
abbrev cX6_apart : ByteArray := prog_1_method_33_code
def yX6_apart : MethodName := ⟨RX6, "apart", "(II)I"⟩
abbrev cX6_parts : ByteArray := prog_1_method_34_code
def yX6_parts : MethodName := ⟨RX6, "parts", "(III)I"⟩
abbrev cX6_common : ByteArray := prog_1_method_35_code
def yX6_common : MethodName := ⟨RX6, "common", "(I)I"⟩
abbrev cX6_alone : ByteArray := prog_1_method_36_code
def yX6_alone : MethodName := ⟨RX6, "alone", "(I)I"⟩
abbrev cX6_busiest : ByteArray := prog_1_method_37_code
def yX6_busiest : MethodName := ⟨RX6, "busiest", "()I"⟩
abbrev cX6_lawFor : ByteArray := prog_1_method_38_code
def yX6_lawFor : MethodName := ⟨RX6, "lawFor", "(II)I"⟩
abbrev cX6_depths : ByteArray := prog_1_method_39_code
def yX6_depths : MethodName := ⟨RX6, "depths", "(I)I"⟩
abbrev cX6_differs : ByteArray := prog_1_method_40_code
def yX6_differs : MethodName := ⟨RX6, "differs", "(I)I"⟩
abbrev cX6_together : ByteArray := prog_1_method_41_code
def yX6_together : MethodName := ⟨RX6, "together", "()I"⟩
abbrev cX6_odds : ByteArray := prog_1_method_42_code
def yX6_odds : MethodName := ⟨RX6, "odds", "()I"⟩
abbrev cX6_expected : ByteArray := prog_1_method_43_code
def yX6_expected : MethodName := ⟨RX6, "expected", "()I"⟩
abbrev cX6_fits : ByteArray := prog_1_method_44_code
def yX6_fits : MethodName := ⟨RX6, "fits", "(I)I"⟩
abbrev cX6_next : ByteArray := prog_1_method_45_code
def yX6_next : MethodName := ⟨RX6, "next", "(II)I"⟩
abbrev cX6_loudest : ByteArray := prog_1_method_46_code
def yX6_loudest : MethodName := ⟨RX6, "loudest", "(II)I"⟩
abbrev cX6_plan : ByteArray := prog_1_method_47_code
def yX6_plan : MethodName := ⟨RX6, "plan", "(II)I"⟩
abbrev cX6_fill : ByteArray := prog_1_method_48_code
def yX6_fill : MethodName := ⟨RX6, "fill", "(II)I"⟩
abbrev cX6_round : ByteArray := prog_1_method_49_code
def yX6_round : MethodName := ⟨RX6, "round", "()I"⟩
abbrev cX6_day : ByteArray := prog_1_method_50_code
def yX6_day : MethodName := ⟨RX6, "day", "(IIII)I"⟩
abbrev cX6_tolls : ByteArray := prog_1_method_51_code
def yX6_tolls : MethodName := ⟨RX6, "tolls", "(II)I"⟩
abbrev cX6_meet : ByteArray := prog_1_method_52_code
def yX6_meet : MethodName := ⟨RX6, "meet", "(II)I"⟩
abbrev cX6_sum : ByteArray := prog_1_method_53_code
def yX6_sum : MethodName := ⟨RX6, "sum", "(I)I"⟩
abbrev cX6_reached : ByteArray := prog_1_method_54_code
def yX6_reached : MethodName := ⟨RX6, "reached", "(I)I"⟩
abbrev cX6_halves : ByteArray := prog_1_method_55_code
def yX6_halves : MethodName := ⟨RX6, "halves", "()I"⟩
abbrev cX6_ranked : ByteArray := prog_1_method_56_code
def yX6_ranked : MethodName := ⟨RX6, "ranked", "(I)I"⟩
abbrev cX6_oldest : ByteArray := prog_1_method_57_code
def yX6_oldest : MethodName := ⟨RX6, "oldest", "()I"⟩
abbrev cX6_judge : ByteArray := prog_1_method_58_code
def yX6_judge : MethodName := ⟨RX6, "judge", "(II)I"⟩
abbrev cX6_answers : ByteArray := prog_1_method_59_code
def yX6_answers : MethodName := ⟨RX6, "answers", "(III)I"⟩
abbrev cX6_rings : ByteArray := prog_1_method_60_code
def yX6_rings : MethodName := ⟨RX6, "rings", "(II)I"⟩
abbrev cX6_ring : ByteArray := prog_1_method_61_code
def yX6_ring : MethodName := ⟨RX6, "ring", "(Z)I"⟩
abbrev cX6_days : ByteArray := prog_1_method_62_code
def yX6_days : MethodName := ⟨RX6, "days", "(I)I"⟩
abbrev cX6_turn : ByteArray := prog_1_method_63_code
def yX6_turn : MethodName := ⟨RX6, "turn", "()I"⟩
abbrev cX6_change : ByteArray := prog_1_method_64_code
def yX6_change : MethodName := ⟨RX6, "change", "(I)I"⟩
abbrev cX6_cut : ByteArray := prog_1_method_65_code
def yX6_cut : MethodName := ⟨RX6, "cut", "(I)I"⟩
abbrev cX6_still : ByteArray := prog_1_method_66_code
def yX6_still : MethodName := ⟨RX6, "still", "()I"⟩
abbrev cX6_seed : ByteArray := prog_1_method_67_code
def yX6_seed : MethodName := ⟨RX6, "seed", "(I)I"⟩
abbrev cX6_image : ByteArray := prog_1_method_68_code
def yX6_image : MethodName := ⟨RX6, "image", "()I"⟩
abbrev cX6_back : ByteArray := prog_1_method_69_code
def yX6_back : MethodName := ⟨RX6, "back", "()I"⟩
abbrev cX6_status : ByteArray := prog_1_method_70_code
def yX6_status : MethodName := ⟨RX6, "status", "(I)I"⟩
abbrev cX6_refuse : ByteArray := prog_1_method_71_code
def yX6_refuse : MethodName := ⟨RX6, "refuse", "(I)I"⟩
abbrev cX6_refusalOfRow : ByteArray := prog_1_method_72_code
def yX6_refusalOfRow : MethodName := ⟨RX6, "refusalOfRow", "(I)I"⟩
abbrev cX6_refusalOfTwoRows : ByteArray := prog_1_method_73_code
def yX6_refusalOfTwoRows : MethodName := ⟨RX6, "refusalOfTwoRows", "(II)I"⟩
abbrev cX6_refusalOfHeardRow : ByteArray := prog_1_method_74_code
def yX6_refusalOfHeardRow : MethodName := ⟨RX6, "refusalOfHeardRow", "(I)I"⟩
abbrev cX6_refusalOfToldRow : ByteArray := prog_1_method_75_code
def yX6_refusalOfToldRow : MethodName := ⟨RX6, "refusalOfToldRow", "(II)I"⟩
abbrev cX6_refusalOfToldRing : ByteArray := prog_1_method_76_code
def yX6_refusalOfToldRing : MethodName := ⟨RX6, "refusalOfToldRing", "(II)I"⟩
abbrev cX6_isStep : ByteArray := prog_1_method_77_code
def yX6_isStep : MethodName := ⟨RX6, "isStep", "(I)Z"⟩
abbrev cX6_areTwoLaws : ByteArray := prog_1_method_78_code
def yX6_areTwoLaws : MethodName := ⟨RX6, "areTwoLaws", "(II)Z"⟩
abbrev cX6_areTriedSteps : ByteArray := prog_1_method_79_code
def yX6_areTriedSteps : MethodName := ⟨RX6, "areTriedSteps", "(II)Z"⟩
abbrev cX6_areDivisors : ByteArray := prog_1_method_80_code
def yX6_areDivisors : MethodName := ⟨RX6, "areDivisors", "(II)Z"⟩
abbrev cX6_isWithin : ByteArray := prog_1_method_81_code
def yX6_isWithin : MethodName := ⟨RX6, "isWithin", "(III)Z"⟩
abbrev cX6_asNumber : ByteArray := prog_1_method_82_code
def yX6_asNumber : MethodName := ⟨RX6, "asNumber", "(Z)I"⟩
abbrev cX6_elementOf : ByteArray := prog_1_method_83_code
def yX6_elementOf : MethodName := ⟨RX6, "elementOf", "([III)I"⟩
abbrev cX6_isMultiple : ByteArray := prog_1_method_84_code
def yX6_isMultiple : MethodName := ⟨RX6, "isMultiple", "(II)Z"⟩
abbrev cX6_leaves : ByteArray := prog_1_method_85_code
def yX6_leaves : MethodName := ⟨RX6, "leaves", "(III)Z"⟩
abbrev cX6_firstDay : ByteArray := prog_1_method_86_code
def yX6_firstDay : MethodName := ⟨RX6, "firstDay", "(IIIII)I"⟩
abbrev cX6_firstBits : ByteArray := prog_1_method_87_code
def yX6_firstBits : MethodName := ⟨RX6, "firstBits", "(I)J"⟩
abbrev cX6_isIn : ByteArray := prog_1_method_88_code
def yX6_isIn : MethodName := ⟨RX6, "isIn", "(JI)Z"⟩
abbrev cX6_isSetOf : ByteArray := prog_1_method_89_code
def yX6_isSetOf : MethodName := ⟨RX6, "isSetOf", "(II)Z"⟩
abbrev cX6_firstIn : ByteArray := prog_1_method_90_code
def yX6_firstIn : MethodName := ⟨RX6, "firstIn", "(JII)I"⟩
abbrev cX6_longestRun : ByteArray := prog_1_method_91_code
def yX6_longestRun : MethodName := ⟨RX6, "longestRun", "(JI)I"⟩
def RX7 : String := "AnsweredByTheDrownedModel"
def TX7 : u_T := fun k => match k with
  | 0 => ("AnsweredByTheDrownedModel", "laws", "I", false)
  | 1 => ("AnsweredByTheDrownedModel", "kind", "[I", true)
  | 2 => ("AnsweredByTheDrownedModel", "own", "[I", true)
  | 3 => ("AnsweredByTheDrownedModel", "inForce", "I", false)
  | 4 => ("AnsweredByTheDrownedModel", "depth", "I", false)
  | 5 => ("AnsweredByTheDrownedModel", "miss", "I", false)
  | 6 => ("AnsweredByTheDrownedModel", "ring", "J", false)
  | 7 => ("AnsweredByTheDrownedModel", "size", "I", false)
  | 8 => ("AnsweredByTheDrownedModel", "people", "I", false)
  | 9 => ("AnsweredByTheDrownedModel", "ages", "[I", true)
  | 10 => ("AnsweredByTheDrownedModel", "seed", "I", false)
  | 11 => ("AnsweredByTheDrownedModel", "taped", "I", false)
  | 12 => ("AnsweredByTheDrownedModel", "tape", "[I", true)
  | 13 => ("AnsweredByTheDrownedModel", "from", "I", false)
  | 14 => ("AnsweredByTheDrownedModel", "to", "I", false)
  | 15 => ("AnsweredByTheDrownedModel", "token", "I", false)
  | 16 => ("AnsweredByTheDrownedModel", "value", "I", false)
  | 17 => ("AnsweredByTheDrownedModel", "holding", "[I", true)
  | 18 => ("AnsweredByTheDrownedModel", "rowLength", "[I", true)
  | 19 => ("AnsweredByTheDrownedModel", "rowOf", "[J", true)
  | 20 => ("AnsweredByTheDrownedModel", "refusals", "[I", true)
  | 21 => ("AnsweredByTheDrownedModel", "imaged", "Z", false)
  | 22 => ("AnsweredByTheDrownedModel", "old", "[I", true)
  | 23 => ("AnsweredByTheDrownedModel", "oldRing", "J", false)
  | 24 => ("AnsweredByTheDrownedModel", "ahead", "[I", true)
  | 25 => ("AnsweredByTheDrownedModel", "aheadRing", "J", false)
  | _ => ("AnsweredByTheDrownedModel", "sums", "[Z", true)
def tyX7 : Nat → FieldType := fun k => match k with
  | 0 => .int
  | 1 => .array .int
  | 2 => .array .int
  | 3 => .int
  | 4 => .int
  | 5 => .int
  | 6 => .long
  | 7 => .int
  | 8 => .int
  | 9 => .array .int
  | 10 => .int
  | 11 => .int
  | 12 => .array .int
  | 13 => .int
  | 14 => .int
  | 15 => .int
  | 16 => .int
  | 17 => .array .int
  | 18 => .array .int
  | 19 => .array .long
  | 20 => .array .int
  | 21 => .boolean
  | 22 => .array .int
  | 23 => .long
  | 24 => .array .int
  | 25 => .long
  | _ => .array .boolean
abbrev wsX70 : List Cond := u_ws RX7 TX7 27
theorem nmX7 : ∀ a, a < 27 → ∀ b, b < 27 → a ≠ b → (TX7 a).2.1 ≠ (TX7 b).2.1 := by decide +kernel
theorem tyX7_ok : ∀ k, k < 27 → parseFieldDescriptor (TX7 k).2.2.1 = some (tyX7 k) := by decide +kernel
abbrev cX7_init : ByteArray := prog_9_method_1_code
def yX7_init : MethodName := ⟨RX7, "<init>", "()V"⟩
abbrev cX7_no : ByteArray := prog_9_method_2_code
def yX7_no : MethodName := ⟨RX7, "no", "(I)I"⟩
abbrev cX7_within : ByteArray := prog_9_method_3_code
def yX7_within : MethodName := ⟨RX7, "within", "(III)Z"⟩
abbrev cX7_has : ByteArray := prog_9_method_4_code
def yX7_has : MethodName := ⟨RX7, "has", "(JI)Z"⟩
abbrev cX7_isLaw : ByteArray := prog_9_method_5_code
def yX7_isLaw : MethodName := ⟨RX7, "isLaw", "(I)Z"⟩
abbrev cX7_isOne : ByteArray := prog_9_method_6_code
def yX7_isOne : MethodName := ⟨RX7, "isOne", "(I)Z"⟩
abbrev cX7_isStep : ByteArray := prog_9_method_7_code
def yX7_isStep : MethodName := ⟨RX7, "isStep", "(I)Z"⟩
abbrev cX7_isShelf : ByteArray := prog_9_method_8_code
def yX7_isShelf : MethodName := ⟨RX7, "isShelf", "(I)Z"⟩
abbrev cX7_isRow : ByteArray := prog_9_method_9_code
def yX7_isRow : MethodName := ⟨RX7, "isRow", "(I)Z"⟩
abbrev cX7_row : ByteArray := prog_9_method_10_code
def yX7_row : MethodName := ⟨RX7, "row", "(III)I"⟩
abbrev cX7_noRow : ByteArray := prog_9_method_11_code
def yX7_noRow : MethodName := ⟨RX7, "noRow", "(I)I"⟩
abbrev cX7_kept : ByteArray := prog_9_method_12_code
def yX7_kept : MethodName := ⟨RX7, "kept", "(IJ)J"⟩
abbrev cX7_set : ByteArray := prog_9_method_13_code
def yX7_set : MethodName := ⟨RX7, "set", "(IIJ)I"⟩
abbrev cX7_copy : ByteArray := prog_9_method_14_code
def yX7_copy : MethodName := ⟨RX7, "copy", "(IIIII)I"⟩
abbrev cX7_element : ByteArray := prog_9_method_15_code
def yX7_element : MethodName := ⟨RX7, "element", "(II)J"⟩
abbrev cX7_holds : ByteArray := prog_9_method_16_code
def yX7_holds : MethodName := ⟨RX7, "holds", "(I)I"⟩
abbrev cX7_show : ByteArray := prog_9_method_17_code
def yX7_show : MethodName := ⟨RX7, "show", "(II)I"⟩
abbrev cX7_isUnder : ByteArray := prog_9_method_18_code
def yX7_isUnder : MethodName := ⟨RX7, "isUnder", "(II)Z"⟩
abbrev cX7_says : ByteArray := prog_9_method_19_code
def yX7_says : MethodName := ⟨RX7, "says", "(II)I"⟩
abbrev cX7_newLaw : ByteArray := prog_9_method_20_code
def yX7_newLaw : MethodName := ⟨RX7, "newLaw", "(II)I"⟩
abbrev cX7_law : ByteArray := prog_9_method_21_code
def yX7_law : MethodName := ⟨RX7, "law", "(II)I"⟩
abbrev cX7_use : ByteArray := prog_9_method_22_code
def yX7_use : MethodName := ⟨RX7, "use", "(I)I"⟩
abbrev cX7_ask : ByteArray := prog_9_method_23_code
def yX7_ask : MethodName := ⟨RX7, "ask", "(II)I"⟩
abbrev cX7_newOne : ByteArray := prog_9_method_24_code
def yX7_newOne : MethodName := ⟨RX7, "newOne", "(I)I"⟩
abbrev cX7_person : ByteArray := prog_9_method_25_code
def yX7_person : MethodName := ⟨RX7, "person", "(I)I"⟩
abbrev cX7_adds : ByteArray := prog_9_method_26_code
def yX7_adds : MethodName := ⟨RX7, "adds", "(Z)V"⟩
abbrev cX7_feed : ByteArray := prog_9_method_27_code
def yX7_feed : MethodName := ⟨RX7, "feed", "(I)I"⟩
abbrev cX7_wipe : ByteArray := prog_9_method_28_code
def yX7_wipe : MethodName := ⟨RX7, "wipe", "()I"⟩
abbrev cX7_isLetter : ByteArray := prog_9_method_29_code
def yX7_isLetter : MethodName := ⟨RX7, "isLetter", "(I)Z"⟩
abbrev cX7_isDigit : ByteArray := prog_9_method_30_code
def yX7_isDigit : MethodName := ⟨RX7, "isDigit", "(I)Z"⟩
abbrev cX7_next : ByteArray := prog_9_method_31_code
def yX7_next : MethodName := ⟨RX7, "next", "()V"⟩
abbrev cX7_isWord : ByteArray := prog_9_method_32_code
def yX7_isWord : MethodName := ⟨RX7, "isWord", "(Ljava/lang/String;)Z"⟩
abbrev cX7_number : ByteArray := prog_9_method_33_code
def yX7_number : MethodName := ⟨RX7, "number", "(II)I"⟩
abbrev cX7_isTold : ByteArray := prog_9_method_34_code
def yX7_isTold : MethodName := ⟨RX7, "isTold", "()Z"⟩
abbrev cX7_statement : ByteArray := prog_9_method_35_code
def yX7_statement : MethodName := ⟨RX7, "statement", "()Z"⟩
abbrev cX7_lake : ByteArray := prog_9_method_36_code
def yX7_lake : MethodName := ⟨RX7, "lake", "()I"⟩
abbrev cX7_lawOf : ByteArray := prog_9_method_37_code
def yX7_lawOf : MethodName := ⟨RX7, "lawOf", "(II)I"⟩
abbrev cX7_age : ByteArray := prog_9_method_38_code
def yX7_age : MethodName := ⟨RX7, "age", "(I)I"⟩
abbrev cX7_step : ByteArray := prog_9_method_39_code
def yX7_step : MethodName := ⟨RX7, "step", "(I)I"⟩
abbrev cX7_isStroke : ByteArray := prog_9_method_40_code
def yX7_isStroke : MethodName := ⟨RX7, "isStroke", "(JII)Z"⟩
abbrev cX7_strokes : ByteArray := prog_9_method_41_code
def yX7_strokes : MethodName := ⟨RX7, "strokes", "(JII)I"⟩
abbrev cX7_strikesAt : ByteArray := prog_9_method_42_code
def yX7_strikesAt : MethodName := ⟨RX7, "strikesAt", "(IJII)Z"⟩
abbrev cX7_strikesNow : ByteArray := prog_9_method_43_code
def yX7_strikesNow : MethodName := ⟨RX7, "strikesNow", "(JII)Z"⟩
abbrev cX7_struck : ByteArray := prog_9_method_44_code
def yX7_struck : MethodName := ⟨RX7, "struck", "(IJI)I"⟩
abbrev cX7_struckNow : ByteArray := prog_9_method_45_code
def yX7_struckNow : MethodName := ⟨RX7, "struckNow", "(JI)I"⟩
abbrev cX7_struckBits : ByteArray := prog_9_method_46_code
def yX7_struckBits : MethodName := ⟨RX7, "struckBits", "(IJI)J"⟩
abbrev cX7_isHeard : ByteArray := prog_9_method_47_code
def yX7_isHeard : MethodName := ⟨RX7, "isHeard", "(JII)Z"⟩
abbrev cX7_isBoth : ByteArray := prog_9_method_48_code
def yX7_isBoth : MethodName := ⟨RX7, "isBoth", "(JII)Z"⟩
abbrev cX7_is : ByteArray := prog_9_method_49_code
def yX7_is : MethodName := ⟨RX7, "is", "(JIII)Z"⟩
abbrev cX7_many : ByteArray := prog_9_method_50_code
def yX7_many : MethodName := ⟨RX7, "many", "(JII)I"⟩
abbrev cX7_heardBits : ByteArray := prog_9_method_51_code
def yX7_heardBits : MethodName := ⟨RX7, "heardBits", "(JI)J"⟩
abbrev cX7_strikes : ByteArray := prog_9_method_52_code
def yX7_strikes : MethodName := ⟨RX7, "strikes", "(I)I"⟩
abbrev cX7_strikesBy : ByteArray := prog_9_method_53_code
def yX7_strikesBy : MethodName := ⟨RX7, "strikesBy", "(II)I"⟩
abbrev cX7_heard : ByteArray := prog_9_method_54_code
def yX7_heard : MethodName := ⟨RX7, "heard", "(II)I"⟩
abbrev cX7_all : ByteArray := prog_9_method_55_code
def yX7_all : MethodName := ⟨RX7, "all", "(I)I"⟩
abbrev cX7_silent : ByteArray := prog_9_method_56_code
def yX7_silent : MethodName := ⟨RX7, "silent", "(I)I"⟩
abbrev cX7_run : ByteArray := prog_9_method_57_code
def yX7_run : MethodName := ⟨RX7, "run", "(I)I"⟩
abbrev cX7_looped : ByteArray := prog_9_method_58_code
def yX7_looped : MethodName := ⟨RX7, "looped", "(I)I"⟩
abbrev cX7_loop : ByteArray := prog_9_method_59_code
def yX7_loop : MethodName := ⟨RX7, "loop", "(I)I"⟩
abbrev cX7_round : ByteArray := prog_9_method_60_code
def yX7_round : MethodName := ⟨RX7, "round", "()I"⟩
abbrev cX7_period : ByteArray := prog_9_method_61_code
def yX7_period : MethodName := ⟨RX7, "period", "()I"⟩
abbrev cX7_backward : ByteArray := prog_9_method_62_code
def yX7_backward : MethodName := ⟨RX7, "backward", "()J"⟩
abbrev cX7_mirror : ByteArray := prog_9_method_63_code
def yX7_mirror : MethodName := ⟨RX7, "mirror", "()I"⟩
abbrev cX7_lastStroke : ByteArray := prog_9_method_64_code
def yX7_lastStroke : MethodName := ⟨RX7, "lastStroke", "()I"⟩
abbrev cX7_shift : ByteArray := prog_9_method_65_code
def yX7_shift : MethodName := ⟨RX7, "shift", "(I)I"⟩
abbrev cX7_flip : ByteArray := prog_9_method_66_code
def yX7_flip : MethodName := ⟨RX7, "flip", "()I"⟩
abbrev cX7_until : ByteArray := prog_9_method_67_code
def yX7_until : MethodName := ⟨RX7, "until", "(I)I"⟩
abbrev cX7_sameAs : ByteArray := prog_9_method_68_code
def yX7_sameAs : MethodName := ⟨RX7, "sameAs", "(I)I"⟩
abbrev cX7_areTwo : ByteArray := prog_9_method_69_code
def yX7_areTwo : MethodName := ⟨RX7, "areTwo", "(II)Z"⟩
abbrev cX7_apart : ByteArray := prog_9_method_70_code
def yX7_apart : MethodName := ⟨RX7, "apart", "(II)I"⟩
abbrev cX7_parts : ByteArray := prog_9_method_71_code
def yX7_parts : MethodName := ⟨RX7, "parts", "(III)I"⟩
abbrev cX7_isSet : ByteArray := prog_9_method_72_code
def yX7_isSet : MethodName := ⟨RX7, "isSet", "(I)Z"⟩
abbrev cX7_common : ByteArray := prog_9_method_73_code
def yX7_common : MethodName := ⟨RX7, "common", "(I)I"⟩
abbrev cX7_alone : ByteArray := prog_9_method_74_code
def yX7_alone : MethodName := ⟨RX7, "alone", "(I)I"⟩
abbrev cX7_busiest : ByteArray := prog_9_method_75_code
def yX7_busiest : MethodName := ⟨RX7, "busiest", "()I"⟩
abbrev cX7_isPlan : ByteArray := prog_9_method_76_code
def yX7_isPlan : MethodName := ⟨RX7, "isPlan", "(II)Z"⟩
abbrev cX7_planBy : ByteArray := prog_9_method_77_code
def yX7_planBy : MethodName := ⟨RX7, "planBy", "(III)I"⟩
abbrev cX7_lawFor : ByteArray := prog_9_method_78_code
def yX7_lawFor : MethodName := ⟨RX7, "lawFor", "(II)I"⟩
abbrev cX7_plan : ByteArray := prog_9_method_79_code
def yX7_plan : MethodName := ⟨RX7, "plan", "(II)I"⟩
abbrev cX7_fill : ByteArray := prog_9_method_80_code
def yX7_fill : MethodName := ⟨RX7, "fill", "(II)I"⟩
abbrev cX7_loudest : ByteArray := prog_9_method_81_code
def yX7_loudest : MethodName := ⟨RX7, "loudest", "(II)I"⟩
abbrev cX7_noHeard : ByteArray := prog_9_method_82_code
def yX7_noHeard : MethodName := ⟨RX7, "noHeard", "(I)I"⟩
abbrev cX7_differsNow : ByteArray := prog_9_method_83_code
def yX7_differsNow : MethodName := ⟨RX7, "differsNow", "(I)I"⟩
abbrev cX7_depths : ByteArray := prog_9_method_84_code
def yX7_depths : MethodName := ⟨RX7, "depths", "(I)I"⟩
abbrev cX7_differs : ByteArray := prog_9_method_85_code
def yX7_differs : MethodName := ⟨RX7, "differs", "(I)I"⟩
abbrev cX7_fits : ByteArray := prog_9_method_86_code
def yX7_fits : MethodName := ⟨RX7, "fits", "(I)I"⟩
abbrev cX7_together : ByteArray := prog_9_method_87_code
def yX7_together : MethodName := ⟨RX7, "together", "()I"⟩
abbrev cX7_odds : ByteArray := prog_9_method_88_code
def yX7_odds : MethodName := ⟨RX7, "odds", "()I"⟩
abbrev cX7_expected : ByteArray := prog_9_method_89_code
def yX7_expected : MethodName := ⟨RX7, "expected", "()I"⟩
abbrev cX7_parted : ByteArray := prog_9_method_90_code
def yX7_parted : MethodName := ⟨RX7, "parted", "(IZ)I"⟩
abbrev cX7_next_ : ByteArray := prog_9_method_91_code
def yX7_next_ : MethodName := ⟨RX7, "next", "(II)I"⟩
abbrev cX7_day : ByteArray := prog_9_method_92_code
def yX7_day : MethodName := ⟨RX7, "day", "(IIII)I"⟩
abbrev cX7_ageOf : ByteArray := prog_9_method_93_code
def yX7_ageOf : MethodName := ⟨RX7, "ageOf", "(I)I"⟩
abbrev cX7_tolls : ByteArray := prog_9_method_94_code
def yX7_tolls : MethodName := ⟨RX7, "tolls", "(II)I"⟩
abbrev cX7_meet : ByteArray := prog_9_method_95_code
def yX7_meet : MethodName := ⟨RX7, "meet", "(II)I"⟩
abbrev cX7_sum : ByteArray := prog_9_method_96_code
def yX7_sum : MethodName := ⟨RX7, "sum", "(I)I"⟩
abbrev cX7_reached : ByteArray := prog_9_method_97_code
def yX7_reached : MethodName := ⟨RX7, "reached", "(I)I"⟩
abbrev cX7_halves : ByteArray := prog_9_method_98_code
def yX7_halves : MethodName := ⟨RX7, "halves", "()I"⟩
abbrev cX7_ranked : ByteArray := prog_9_method_99_code
def yX7_ranked : MethodName := ⟨RX7, "ranked", "(I)I"⟩
abbrev cX7_oldest : ByteArray := prog_9_method_100_code
def yX7_oldest : MethodName := ⟨RX7, "oldest", "()I"⟩
abbrev cX7_toldAt : ByteArray := prog_9_method_101_code
def yX7_toldAt : MethodName := ⟨RX7, "toldAt", "(II)J"⟩
abbrev cX7_noRing : ByteArray := prog_9_method_102_code
def yX7_noRing : MethodName := ⟨RX7, "noRing", "(II)I"⟩
abbrev cX7_wrong : ByteArray := prog_9_method_103_code
def yX7_wrong : MethodName := ⟨RX7, "wrong", "(II)I"⟩
abbrev cX7_told : ByteArray := prog_9_method_104_code
def yX7_told : MethodName := ⟨RX7, "told", "(II)J"⟩
abbrev cX7_judge : ByteArray := prog_9_method_105_code
def yX7_judge : MethodName := ⟨RX7, "judge", "(II)I"⟩
abbrev cX7_answers : ByteArray := prog_9_method_106_code
def yX7_answers : MethodName := ⟨RX7, "answers", "(III)I"⟩
abbrev cX7_rings : ByteArray := prog_9_method_107_code
def yX7_rings : MethodName := ⟨RX7, "rings", "(II)I"⟩
abbrev cX7_draw : ByteArray := prog_9_method_108_code
def yX7_draw : MethodName := ⟨RX7, "draw", "(I)I"⟩
abbrev cX7_rung : ByteArray := prog_9_method_109_code
def yX7_rung : MethodName := ⟨RX7, "rung", "(Z)I"⟩
abbrev cX7_ring : ByteArray := prog_9_method_110_code
def yX7_ring : MethodName := ⟨RX7, "ring", "(Z)I"⟩
abbrev cX7_days : ByteArray := prog_9_method_111_code
def yX7_days : MethodName := ⟨RX7, "days", "(I)I"⟩
abbrev cX7_turn : ByteArray := prog_9_method_112_code
def yX7_turn : MethodName := ⟨RX7, "turn", "()I"⟩
abbrev cX7_change : ByteArray := prog_9_method_113_code
def yX7_change : MethodName := ⟨RX7, "change", "(I)I"⟩
abbrev cX7_cut : ByteArray := prog_9_method_114_code
def yX7_cut : MethodName := ⟨RX7, "cut", "(I)I"⟩
abbrev cX7_still : ByteArray := prog_9_method_115_code
def yX7_still : MethodName := ⟨RX7, "still", "()I"⟩
abbrev cX7_seed : ByteArray := prog_9_method_116_code
def yX7_seed : MethodName := ⟨RX7, "seed", "(I)I"⟩
abbrev cX7_keep : ByteArray := prog_9_method_117_code
def yX7_keep : MethodName := ⟨RX7, "keep", "([I)V"⟩
abbrev cX7_again : ByteArray := prog_9_method_118_code
def yX7_again : MethodName := ⟨RX7, "again", "([I)V"⟩
abbrev cX7_image : ByteArray := prog_9_method_119_code
def yX7_image : MethodName := ⟨RX7, "image", "()I"⟩
abbrev cX7_back : ByteArray := prog_9_method_120_code
def yX7_back : MethodName := ⟨RX7, "back", "()I"⟩
abbrev cX7_status : ByteArray := prog_9_method_121_code
def yX7_status : MethodName := ⟨RX7, "status", "(I)I"⟩
def RJ6 : String := "java/lang/Integer"
def TJ6 : u_T := fun k => match k with
  | _ => ("", "", "", false)
def tyJ6 : Nat → FieldType := fun k => match k with
  | _ => .int
abbrev wsJ60 : List Cond := u_ws RJ6 TJ6 0
theorem nmJ6 : ∀ a, a < 0 → ∀ b, b < 0 → a ≠ b → (TJ6 a).2.1 ≠ (TJ6 b).2.1 := by decide +kernel
theorem tyJ6_ok : ∀ k, k < 0 → parseFieldDescriptor (TJ6 k).2.2.1 = some (tyJ6 k) := by decide +kernel
abbrev cJ6_numberOfTrailingZeros_0f7a4 : ByteArray := prog_10_method_48_code
def yJ6_numberOfTrailingZeros_0f7a4 : MethodName := ⟨RJ6, "numberOfTrailingZeros", "(I)I"⟩
abbrev cJ6_bitCount_0f7a4 : ByteArray := prog_10_method_49_code
def yJ6_bitCount_0f7a4 : MethodName := ⟨RJ6, "bitCount", "(I)I"⟩
def RJ13 : String := "java/lang/Long"
def TJ13 : u_T := fun k => match k with
  | _ => ("", "", "", false)
def tyJ13 : Nat → FieldType := fun k => match k with
  | _ => .int
abbrev wsJ130 : List Cond := u_ws RJ13 TJ13 0
theorem nmJ13 : ∀ a, a < 0 → ∀ b, b < 0 → a ≠ b → (TJ13 a).2.1 ≠ (TJ13 b).2.1 := by decide +kernel
theorem tyJ13_ok : ∀ k, k < 0 → parseFieldDescriptor (TJ13 k).2.2.1 = some (tyJ13 k) := by decide +kernel
abbrev cJ13_numberOfTrailingZeros_95d88 : ByteArray := prog_11_method_49_code
def yJ13_numberOfTrailingZeros_95d88 : MethodName := ⟨RJ13, "numberOfTrailingZeros", "(J)I"⟩
abbrev cJ13_bitCount_95d88 : ByteArray := prog_11_method_50_code
def yJ13_bitCount_95d88 : MethodName := ⟨RJ13, "bitCount", "(J)I"⟩
def RJ9 : String := "java/lang/Math"
def TJ9 : u_T := fun k => match k with
  | _ => ("", "", "", false)
def tyJ9 : Nat → FieldType := fun k => match k with
  | _ => .int
abbrev wsJ90 : List Cond := u_ws RJ9 TJ9 0
theorem nmJ9 : ∀ a, a < 0 → ∀ b, b < 0 → a ≠ b → (TJ9 a).2.1 ≠ (TJ9 b).2.1 := by decide +kernel
theorem tyJ9_ok : ∀ k, k < 0 → parseFieldDescriptor (TJ9 k).2.2.1 = some (tyJ9 k) := by decide +kernel
abbrev cJ9_abs_0f7a4 : ByteArray := prog_12_method_59_code
def yJ9_abs_0f7a4 : MethodName := ⟨RJ9, "abs", "(I)I"⟩
abbrev cJ9_max_7cf53 : ByteArray := prog_12_method_65_code
def yJ9_max_7cf53 : MethodName := ⟨RJ9, "max", "(II)I"⟩
abbrev cJ9_min_7cf53 : ByteArray := prog_12_method_69_code
def yJ9_min_7cf53 : MethodName := ⟨RJ9, "min", "(II)I"⟩
def RJ0 : String := "java/lang/String"
def TJ0 : u_T := fun k => match k with
  | _ => ("", "", "", false)
def tyJ0 : Nat → FieldType := fun k => match k with
  | _ => .int
abbrev wsJ00 : List Cond := u_ws RJ0 TJ0 0
theorem nmJ0 : ∀ a, a < 0 → ∀ b, b < 0 → a ≠ b → (TJ0 a).2.1 ≠ (TJ0 b).2.1 := by decide +kernel
theorem tyJ0_ok : ∀ k, k < 0 → parseFieldDescriptor (TJ0 k).2.2.1 = some (tyJ0 k) := by decide +kernel
abbrev cJ0_length_8abf5 : ByteArray := prog_13_method_54_code
def yJ0_length_8abf5 : MethodName := ⟨RJ0, "length", "()I"⟩
abbrev cJ0_charAt_5068e : ByteArray := prog_13_method_56_code
def yJ0_charAt_5068e : MethodName := ⟨RJ0, "charAt", "(I)C"⟩
abbrev cJ0_coder_7d493 : ByteArray := prog_13_method_152_code
def yJ0_coder_7d493 : MethodName := ⟨RJ0, "coder", "()B"⟩
abbrev cJ0_isLatin1_aae02 : ByteArray := prog_13_method_154_code
def yJ0_isLatin1_aae02 : MethodName := ⟨RJ0, "isLatin1", "()Z"⟩
abbrev cJ0_checkIndex_df160 : ByteArray := prog_13_method_155_code
def yJ0_checkIndex_df160 : MethodName := ⟨RJ0, "checkIndex", "(II)V"⟩
def RJ1 : String := "java/lang/StringLatin1"
def TJ1 : u_T := fun k => match k with
  | _ => ("", "", "", false)
def tyJ1 : Nat → FieldType := fun k => match k with
  | _ => .int
abbrev wsJ10 : List Cond := u_ws RJ1 TJ1 0
theorem nmJ1 : ∀ a, a < 0 → ∀ b, b < 0 → a ≠ b → (TJ1 a).2.1 ≠ (TJ1 b).2.1 := by decide +kernel
theorem tyJ1_ok : ∀ k, k < 0 → parseFieldDescriptor (TJ1 k).2.2.1 = some (tyJ1 k) := by decide +kernel
abbrev cJ1_charAt_3b067 : ByteArray := prog_14_method_2_code
def yJ1_charAt_3b067 : MethodName := ⟨RJ1, "charAt", "([BI)C"⟩
def RJ2 : String := "java/lang/StringUTF16"
def TJ2 : u_T := fun k => match k with
  | _ => ("", "", "", false)
def tyJ2 : Nat → FieldType := fun k => match k with
  | _ => .int
abbrev wsJ20 : List Cond := u_ws RJ2 TJ2 0
theorem nmJ2 : ∀ a, a < 0 → ∀ b, b < 0 → a ≠ b → (TJ2 a).2.1 ≠ (TJ2 b).2.1 := by decide +kernel
theorem tyJ2_ok : ∀ k, k < 0 → parseFieldDescriptor (TJ2 k).2.2.1 = some (tyJ2 k) := by decide +kernel
abbrev cJ2_getChar_3b067 : ByteArray := prog_15_method_5_code
def yJ2_getChar_3b067 : MethodName := ⟨RJ2, "getChar", "([BI)C"⟩
abbrev cJ2_length_9d52b : ByteArray := prog_15_method_6_code
def yJ2_length_9d52b : MethodName := ⟨RJ2, "length", "([B)I"⟩
abbrev cJ2_charAt_3b067 : ByteArray := prog_15_method_83_code
def yJ2_charAt_3b067 : MethodName := ⟨RJ2, "charAt", "([BI)C"⟩
abbrev cJ2_checkIndex_2214a : ByteArray := prog_15_method_91_code
def yJ2_checkIndex_2214a : MethodName := ⟨RJ2, "checkIndex", "(I[B)V"⟩
def RJ3 : String := "jdk/internal/util/Preconditions"
def TJ3 : u_T := fun k => match k with
  | _ => ("", "", "", false)
def tyJ3 : Nat → FieldType := fun k => match k with
  | _ => .int
abbrev wsJ30 : List Cond := u_ws RJ3 TJ3 0
theorem nmJ3 : ∀ a, a < 0 → ∀ b, b < 0 → a ≠ b → (TJ3 a).2.1 ≠ (TJ3 b).2.1 := by decide +kernel
theorem tyJ3_ok : ∀ k, k < 0 → parseFieldDescriptor (TJ3 k).2.2.1 = some (tyJ3 k) := by decide +kernel
abbrev cJ3_checkIndex_8e157 : ByteArray := prog_16_method_11_code
def yJ3_checkIndex_8e157 : MethodName := ⟨RJ3, "checkIndex", "(IILjava/util/function/BiFunction;)I"⟩
def RL : String := "AnsweredByTheDrownedLaw"
abbrev cL_law : ByteArray := code
abbrev vwCl : List vw_C := [(RX0, TX0, 8), (RX1, TX1, 3), (RX2, TX2, 3), (RX3, TX3, 3), (RX4, TX4, 3), (RX5, TX5, 5), (RX6, TX6, 6), (RX7, TX7, 27)]
def xB : List Cond := lw_tbl.filter goodWord
theorem xB_in {w : Cond} (h : w ∈ lw_tbl) (g : goodWord w = true) : w ∈ xB := List.mem_filter.mpr ⟨h, g⟩
theorem xB_tbl {w : Cond} (h : w ∈ xB) : w ∈ lw_tbl := (List.mem_filter.mp h).1
theorem xB_good {w : Cond} (h : w ∈ xB) : (w.onTables && w.keeps) = true ∨ ∃ ty, w = .arrayClass ty := good_of_word (List.mem_filter.mp h).2
theorem xtb_1 {w : Cond} (h : w ∈ tables_1_1) : w ∈ lw_tbl := List.mem_append_right _ (show w ∈ tables_1 from (List.mem_append_left _ h))
theorem xtb_2 {w : Cond} (h : w ∈ tables_1_2) : w ∈ lw_tbl := List.mem_append_right _ (show w ∈ tables_1 from (List.mem_append_right _ (List.mem_append_left _ h)))
theorem xtb_3 {w : Cond} (h : w ∈ tables_1_3) : w ∈ lw_tbl := List.mem_append_right _ (show w ∈ tables_1 from (List.mem_append_right _ (List.mem_append_right _ (List.mem_append_left _ h))))
theorem xtb_4 {w : Cond} (h : w ∈ tables_1_4) : w ∈ lw_tbl := List.mem_append_right _ (show w ∈ tables_1 from (List.mem_append_right _ (List.mem_append_right _ (List.mem_append_right _ (List.mem_append_left _ h)))))
theorem xtb_5 {w : Cond} (h : w ∈ tables_1_5) : w ∈ lw_tbl := List.mem_append_right _ (show w ∈ tables_1 from (List.mem_append_right _ (List.mem_append_right _ (List.mem_append_right _ (List.mem_append_right _ (List.mem_append_left _ h))))))
theorem xtb_6 {w : Cond} (h : w ∈ tables_1_6) : w ∈ lw_tbl := List.mem_append_right _ (show w ∈ tables_1 from (List.mem_append_right _ (List.mem_append_right _ (List.mem_append_right _ (List.mem_append_right _ (List.mem_append_right _ (List.mem_append_left _ h)))))))
theorem xtb_7 {w : Cond} (h : w ∈ tables_1_7) : w ∈ lw_tbl := List.mem_append_right _ (show w ∈ tables_1 from (List.mem_append_right _ (List.mem_append_right _ (List.mem_append_right _ (List.mem_append_right _ (List.mem_append_right _ (List.mem_append_right _ h)))))))
theorem xpv_1 {q : MethodName × Nat} (h : q ∈ lw_privs_1) : Cond.selects q.1.cls q.1 q.1 ∈ lw_tbl := List.mem_append_left _ (List.mem_map.mpr ⟨q, (show q ∈ lw_privs from (List.mem_append_left _ h)), rfl⟩)
theorem xpv_2 {q : MethodName × Nat} (h : q ∈ lw_privs_2) : Cond.selects q.1.cls q.1 q.1 ∈ lw_tbl := List.mem_append_left _ (List.mem_map.mpr ⟨q, (show q ∈ lw_privs from (List.mem_append_right _ (List.mem_append_left _ h))), rfl⟩)
theorem xpv_3 {q : MethodName × Nat} (h : q ∈ lw_privs_3) : Cond.selects q.1.cls q.1 q.1 ∈ lw_tbl := List.mem_append_left _ (List.mem_map.mpr ⟨q, (show q ∈ lw_privs from (List.mem_append_right _ (List.mem_append_right _ (List.mem_append_left _ h)))), rfl⟩)
theorem xpv_4 {q : MethodName × Nat} (h : q ∈ lw_privs_4) : Cond.selects q.1.cls q.1 q.1 ∈ lw_tbl := List.mem_append_left _ (List.mem_map.mpr ⟨q, (show q ∈ lw_privs from (List.mem_append_right _ (List.mem_append_right _ (List.mem_append_right _ h)))), rfl⟩)
theorem mw_0 : Cond.classLink RL 7 RX6 ∈ xB := xB_in (xtb_1 (List.mem_of_getElem? (i := 16) rfl)) rfl
theorem mw_1 : Cond.instantiable RX6 6 ∈ xB := xB_in (xtb_1 (List.mem_of_getElem? (i := 17) rfl)) rfl
theorem mw_2 : Cond.initialized RX6 ∈ xB := xB_in (xtb_1 (List.mem_of_getElem? (i := 1) rfl)) rfl
theorem mw_3 : Cond.classLink RL 10 RX7 ∈ xB := xB_in (xtb_5 (List.mem_of_getElem? (i := 44) rfl)) rfl
theorem mw_4 : Cond.instantiable RX7 27 ∈ xB := xB_in (xtb_5 (List.mem_of_getElem? (i := 45) rfl)) rfl
theorem mw_5 : Cond.initialized RX7 ∈ xB := xB_in (xtb_1 (List.mem_of_getElem? (i := 8) rfl)) rfl
theorem mw_6 : Cond.constantLong RL 18 (4294967295) ∈ xB := xB_in (xtb_7 (List.mem_of_getElem? (i := 147) rfl)) rfl
theorem mw_7 : Cond.methodLink RL 9 yX6_init ∈ xB := xB_in (xtb_1 (List.mem_of_getElem? (i := 18) rfl)) rfl
theorem mw_8 : Cond.instanceMethod yX6_init ∈ xB := xB_in (xtb_1 (List.mem_of_getElem? (i := 19) rfl)) rfl
theorem mw_9 : Cond.code yX6_init cX6_init 1 none ∈ xB := xB_in (xtb_1 (List.mem_of_getElem? (i := 20) rfl)) rfl
theorem mw_10 : Cond.methodLink RX6 1 objectInit ∈ xB := xB_in (xtb_1 (List.mem_of_getElem? (i := 21) rfl)) rfl
theorem mw_11 : Cond.instanceMethod objectInit ∈ xB := xB_in (xtb_1 (List.mem_of_getElem? (i := 22) rfl)) rfl
theorem mw_12 : Cond.code objectInit ⟨#[0xb1]⟩ 1 none ∈ xB := xB_in (xtb_1 (List.mem_of_getElem? (i := 23) (by decide +kernel))) rfl
theorem mw_13 : Cond.classLink RX6 7 RX0 ∈ xB := xB_in (xtb_1 (List.mem_of_getElem? (i := 24) rfl)) rfl
theorem mw_14 : Cond.instantiable RX0 8 ∈ xB := xB_in (xtb_1 (List.mem_of_getElem? (i := 25) rfl)) rfl
theorem mw_15 : Cond.initialized RX0 ∈ xB := xB_in (xtb_1 (List.mem_of_getElem? (i := 2) rfl)) rfl
theorem mw_16 : Cond.fieldLink RX6 10 "AnsweredByTheDrowned" "now" "LAnsweredByTheDrowned$Lake;" ∈ xB := xB_in (xtb_1 (List.mem_of_getElem? (i := 170) rfl)) rfl
theorem mw_17 : Cond.fieldLink RX6 16 "AnsweredByTheDrowned" "kept" "LAnsweredByTheDrowned$Lake;" ∈ xB := xB_in (xtb_1 (List.mem_of_getElem? (i := 171) rfl)) rfl
theorem mw_18 : Cond.classLink RX6 19 RX1 ∈ xB := xB_in (xtb_1 (List.mem_of_getElem? (i := 107) rfl)) rfl
theorem mw_19 : Cond.instantiable RX1 3 ∈ xB := xB_in (xtb_1 (List.mem_of_getElem? (i := 108) rfl)) rfl
theorem mw_20 : Cond.initialized RX1 ∈ xB := xB_in (xtb_1 (List.mem_of_getElem? (i := 5) rfl)) rfl
theorem mw_21 : Cond.fieldLink RX6 22 "AnsweredByTheDrowned" "reader" "LAnsweredByTheDrowned$LakeReader;" ∈ xB := xB_in (xtb_1 (List.mem_of_getElem? (i := 172) rfl)) rfl
theorem mw_22 : Cond.classLink RX6 26 RX4 ∈ xB := xB_in (xtb_1 (List.mem_of_getElem? (i := 154) rfl)) rfl
theorem mw_23 : Cond.instantiable RX4 3 ∈ xB := xB_in (xtb_1 (List.mem_of_getElem? (i := 155) rfl)) rfl
theorem mw_24 : Cond.initialized RX4 ∈ xB := xB_in (xtb_1 (List.mem_of_getElem? (i := 7) rfl)) rfl
theorem mw_25 : Cond.fieldLink RX6 29 "AnsweredByTheDrowned" "shelves" "LAnsweredByTheDrowned$Shelves;" ∈ xB := xB_in (xtb_1 (List.mem_of_getElem? (i := 173) rfl)) rfl
theorem mw_26 : Cond.arrayClass .int ∈ xB := xB_in (xtb_1 (List.mem_of_getElem? (i := 49) rfl)) rfl
theorem mw_27 : Cond.fieldLink RX6 33 "AnsweredByTheDrowned" "refusals" "[I" ∈ xB := xB_in (xtb_1 (List.mem_of_getElem? (i := 174) rfl)) rfl
theorem mw_28 : Cond.instanceMethod yX0_init ∈ xB := xB_in (xtb_1 (List.mem_of_getElem? (i := 27) rfl)) rfl
theorem mw_29 : Cond.code yX0_init cX0_init 1 none ∈ xB := xB_in (xtb_1 (List.mem_of_getElem? (i := 28) rfl)) rfl
theorem mw_30 : Cond.methodLink RX0 3 objectInit ∈ xB := xB_in (xtb_1 (List.mem_of_getElem? (i := 29) rfl)) rfl
theorem mw_31 : Cond.classLink RX0 9 RX2 ∈ xB := xB_in (xtb_1 (List.mem_of_getElem? (i := 30) rfl)) rfl
theorem mw_32 : Cond.instantiable RX2 3 ∈ xB := xB_in (xtb_1 (List.mem_of_getElem? (i := 31) rfl)) rfl
theorem mw_33 : Cond.initialized RX2 ∈ xB := xB_in (xtb_1 (List.mem_of_getElem? (i := 3) rfl)) rfl
theorem mw_34 : Cond.fieldLink RX0 12 "AnsweredByTheDrowned$Lake" "laws" "LAnsweredByTheDrowned$Laws;" ∈ xB := xB_in (xtb_1 (List.mem_of_getElem? (i := 68) rfl)) rfl
theorem mw_35 : Cond.classLink RX0 18 RX3 ∈ xB := xB_in (xtb_1 (List.mem_of_getElem? (i := 50) rfl)) rfl
theorem mw_36 : Cond.instantiable RX3 3 ∈ xB := xB_in (xtb_1 (List.mem_of_getElem? (i := 51) rfl)) rfl
theorem mw_37 : Cond.initialized RX3 ∈ xB := xB_in (xtb_1 (List.mem_of_getElem? (i := 4) rfl)) rfl
theorem mw_38 : Cond.fieldLink RX0 21 "AnsweredByTheDrowned$Lake" "people" "LAnsweredByTheDrowned$People;" ∈ xB := xB_in (xtb_1 (List.mem_of_getElem? (i := 71) rfl)) rfl
theorem mw_39 : Cond.fieldLink RX0 25 "AnsweredByTheDrowned$Lake" "depth" "I" ∈ xB := xB_in (xtb_1 (List.mem_of_getElem? (i := 77) rfl)) rfl
theorem mw_40 : Cond.fieldLink RX0 29 "AnsweredByTheDrowned$Lake" "seed" "I" ∈ xB := xB_in (xtb_1 (List.mem_of_getElem? (i := 88) rfl)) rfl
theorem mw_41 : Cond.instanceMethod yX2_init ∈ xB := xB_in (xtb_1 (List.mem_of_getElem? (i := 33) rfl)) rfl
theorem mw_42 : Cond.code yX2_init cX2_init 1 none ∈ xB := xB_in (xtb_1 (List.mem_of_getElem? (i := 34) rfl)) rfl
theorem mw_43 : Cond.methodLink RX2 3 objectInit ∈ xB := xB_in (xtb_1 (List.mem_of_getElem? (i := 35) rfl)) rfl
theorem mw_44 : Cond.fieldLink RX2 11 "AnsweredByTheDrowned$Laws" "kinds" "[I" ∈ xB := xB_in (xtb_1 (List.mem_of_getElem? (i := 36) rfl)) rfl
theorem mw_45 : Cond.fieldLink RX2 15 "AnsweredByTheDrowned$Laws" "tunes" "[I" ∈ xB := xB_in (xtb_1 (List.mem_of_getElem? (i := 37) rfl)) rfl
theorem mw_46 : Cond.instanceMethod yX3_init ∈ xB := xB_in (xtb_1 (List.mem_of_getElem? (i := 53) rfl)) rfl
theorem mw_47 : Cond.code yX3_init cX3_init 1 none ∈ xB := xB_in (xtb_1 (List.mem_of_getElem? (i := 54) rfl)) rfl
theorem mw_48 : Cond.methodLink RX3 3 objectInit ∈ xB := xB_in (xtb_1 (List.mem_of_getElem? (i := 55) rfl)) rfl
theorem mw_49 : Cond.fieldLink RX3 11 "AnsweredByTheDrowned$People" "ages" "[I" ∈ xB := xB_in (xtb_1 (List.mem_of_getElem? (i := 56) rfl)) rfl
theorem mw_50 : Cond.arrayClass .long ∈ xB := xB_in (xtb_1 (List.mem_of_getElem? (i := 67) rfl)) rfl
theorem mw_51 : Cond.fieldLink RX3 15 "AnsweredByTheDrowned$People" "sums" "[J" ∈ xB := xB_in (xtb_1 (List.mem_of_getElem? (i := 57) rfl)) rfl
theorem mw_52 : Cond.instanceMethod yX1_init ∈ xB := xB_in (xtb_1 (List.mem_of_getElem? (i := 110) rfl)) rfl
theorem mw_53 : Cond.code yX1_init cX1_init 1 none ∈ xB := xB_in (xtb_1 (List.mem_of_getElem? (i := 111) rfl)) rfl
theorem mw_54 : Cond.methodLink RX1 3 objectInit ∈ xB := xB_in (xtb_1 (List.mem_of_getElem? (i := 112) rfl)) rfl
theorem mw_55 : Cond.classLink RX1 9 RX5 ∈ xB := xB_in (xtb_1 (List.mem_of_getElem? (i := 113) rfl)) rfl
theorem mw_56 : Cond.instantiable RX5 5 ∈ xB := xB_in (xtb_1 (List.mem_of_getElem? (i := 114) rfl)) rfl
theorem mw_57 : Cond.initialized RX5 ∈ xB := xB_in (xtb_1 (List.mem_of_getElem? (i := 6) rfl)) rfl
theorem mw_58 : Cond.fieldLink RX1 12 "AnsweredByTheDrowned$LakeReader" "tape" "LAnsweredByTheDrowned$Tape;" ∈ xB := xB_in (xtb_1 (List.mem_of_getElem? (i := 142) rfl)) rfl
theorem mw_59 : Cond.classLink RX1 18 RX0 ∈ xB := xB_in (xtb_1 (List.mem_of_getElem? (i := 140) rfl)) rfl
theorem mw_60 : Cond.fieldLink RX1 21 "AnsweredByTheDrowned$LakeReader" "draft" "LAnsweredByTheDrowned$Lake;" ∈ xB := xB_in (xtb_1 (List.mem_of_getElem? (i := 144) rfl)) rfl
theorem mw_61 : Cond.instanceMethod yX5_init ∈ xB := xB_in (xtb_1 (List.mem_of_getElem? (i := 116) rfl)) rfl
theorem mw_62 : Cond.code yX5_init cX5_init 1 none ∈ xB := xB_in (xtb_1 (List.mem_of_getElem? (i := 117) rfl)) rfl
theorem mw_63 : Cond.methodLink RX5 3 objectInit ∈ xB := xB_in (xtb_1 (List.mem_of_getElem? (i := 118) rfl)) rfl
theorem mw_64 : Cond.fieldLink RX5 11 "AnsweredByTheDrowned$Tape" "bytes" "[I" ∈ xB := xB_in (xtb_1 (List.mem_of_getElem? (i := 119) rfl)) rfl
theorem mw_65 : Cond.methodLink RX6 28 yX4_init ∈ xB := xB_in (xtb_1 (List.mem_of_getElem? (i := 156) rfl)) rfl
theorem mw_66 : Cond.instanceMethod yX4_init ∈ xB := xB_in (xtb_1 (List.mem_of_getElem? (i := 157) rfl)) rfl
theorem mw_67 : Cond.code yX4_init cX4_init 2 none ∈ xB := xB_in (xtb_1 (List.mem_of_getElem? (i := 158) rfl)) rfl
theorem mw_68 : Cond.methodLink RX4 3 objectInit ∈ xB := xB_in (xtb_1 (List.mem_of_getElem? (i := 159) rfl)) rfl
theorem mw_69 : Cond.fieldLink RX4 11 "AnsweredByTheDrowned$Shelves" "held" "[I" ∈ xB := xB_in (xtb_1 (List.mem_of_getElem? (i := 160) rfl)) rfl
theorem mw_70 : Cond.fieldLink RX4 15 "AnsweredByTheDrowned$Shelves" "sizes" "[I" ∈ xB := xB_in (xtb_1 (List.mem_of_getElem? (i := 161) rfl)) rfl
theorem mw_71 : Cond.fieldLink RX4 18 "AnsweredByTheDrowned$Shelves" "elements" "[J" ∈ xB := xB_in (xtb_1 (List.mem_of_getElem? (i := 162) rfl)) rfl
theorem mw_72 : Cond.methodLink RL 12 yX7_init ∈ xB := xB_in (xtb_5 (List.mem_of_getElem? (i := 46) rfl)) rfl
theorem mw_73 : Cond.instanceMethod yX7_init ∈ xB := xB_in (xtb_5 (List.mem_of_getElem? (i := 47) rfl)) rfl
theorem mw_74 : Cond.code yX7_init cX7_init 2 none ∈ xB := xB_in (xtb_5 (List.mem_of_getElem? (i := 48) rfl)) rfl
theorem mw_75 : Cond.methodLink RX7 1 objectInit ∈ xB := xB_in (xtb_5 (List.mem_of_getElem? (i := 49) rfl)) rfl
theorem mw_76 : Cond.fieldLink RX7 7 "AnsweredByTheDrownedModel" "kind" "[I" ∈ xB := xB_in (xtb_5 (List.mem_of_getElem? (i := 51) rfl)) rfl
theorem mw_77 : Cond.fieldLink RX7 13 "AnsweredByTheDrownedModel" "own" "[I" ∈ xB := xB_in (xtb_5 (List.mem_of_getElem? (i := 52) rfl)) rfl
theorem mw_78 : Cond.fieldLink RX7 16 "AnsweredByTheDrownedModel" "ages" "[I" ∈ xB := xB_in (xtb_5 (List.mem_of_getElem? (i := 59) rfl)) rfl
theorem mw_79 : Cond.fieldLink RX7 19 "AnsweredByTheDrownedModel" "tape" "[I" ∈ xB := xB_in (xtb_5 (List.mem_of_getElem? (i := 62) rfl)) rfl
theorem mw_80 : Cond.fieldLink RX7 22 "AnsweredByTheDrownedModel" "holding" "[I" ∈ xB := xB_in (xtb_5 (List.mem_of_getElem? (i := 67) rfl)) rfl
theorem mw_81 : Cond.fieldLink RX7 25 "AnsweredByTheDrownedModel" "rowLength" "[I" ∈ xB := xB_in (xtb_5 (List.mem_of_getElem? (i := 68) rfl)) rfl
theorem mw_82 : Cond.fieldLink RX7 28 "AnsweredByTheDrownedModel" "rowOf" "[J" ∈ xB := xB_in (xtb_5 (List.mem_of_getElem? (i := 69) rfl)) rfl
theorem mw_83 : Cond.fieldLink RX7 32 "AnsweredByTheDrownedModel" "refusals" "[I" ∈ xB := xB_in (xtb_5 (List.mem_of_getElem? (i := 70) rfl)) rfl
theorem mw_84 : Cond.fieldLink RX7 35 "AnsweredByTheDrownedModel" "old" "[I" ∈ xB := xB_in (xtb_5 (List.mem_of_getElem? (i := 72) rfl)) rfl
theorem mw_85 : Cond.fieldLink RX7 38 "AnsweredByTheDrownedModel" "ahead" "[I" ∈ xB := xB_in (xtb_5 (List.mem_of_getElem? (i := 74) rfl)) rfl
theorem mw_86 : Cond.arrayClass .boolean ∈ xB := xB_in (xtb_5 (List.mem_of_getElem? (i := 132) rfl)) rfl
theorem mw_87 : Cond.fieldLink RX7 41 "AnsweredByTheDrownedModel" "sums" "[Z" ∈ xB := xB_in (xtb_5 (List.mem_of_getElem? (i := 76) rfl)) rfl
theorem mw_88 : Cond.fieldLink RX7 45 "AnsweredByTheDrownedModel" "depth" "I" ∈ xB := xB_in (xtb_5 (List.mem_of_getElem? (i := 54) rfl)) rfl
theorem mw_89 : Cond.fieldLink RX7 49 "AnsweredByTheDrownedModel" "seed" "I" ∈ xB := xB_in (xtb_5 (List.mem_of_getElem? (i := 60) rfl)) rfl
theorem mw_90 : Cond.methodLink RL 13 yX6_row ∈ xB := xB_in (xtb_1 (List.mem_of_getElem? (i := 189) rfl)) rfl
theorem mw_91 : Cond.instanceMethod yX6_row ∈ xB := xB_in (xtb_1 (List.mem_of_getElem? (i := 190) rfl)) rfl
theorem mw_92 : Cond.selects RX6 yX6_row yX6_row ∈ xB := xB_in (xtb_1 (List.mem_of_getElem? (i := 191) rfl)) rfl
theorem mw_93 : Cond.code yX6_row cX6_row 4 (some .int) ∈ xB := xB_in (xtb_1 (List.mem_of_getElem? (i := 192) rfl)) rfl
theorem mw_94 : Cond.methodLink RX6 37 yX4_isShelf ∈ xB := xB_in (xtb_1 (List.mem_of_getElem? (i := 193) rfl)) rfl
theorem mw_95 : Cond.static yX4_isShelf ∈ xB := xB_in (xtb_1 (List.mem_of_getElem? (i := 194) rfl)) rfl
theorem mw_96 : Cond.code yX4_isShelf cX4_isShelf 1 (some .boolean) ∈ xB := xB_in (xtb_1 (List.mem_of_getElem? (i := 195) rfl)) rfl
theorem mw_97 : Cond.static yX6_isWithin ∈ xB := xB_in (xtb_1 (List.mem_of_getElem? (i := 197) rfl)) rfl
theorem mw_98 : Cond.code yX6_isWithin cX6_isWithin 3 (some .boolean) ∈ xB := xB_in (xtb_1 (List.mem_of_getElem? (i := 198) rfl)) rfl
theorem mw_99 : Cond.methodLink RX6 41 yX6_isWithin ∈ xB := xB_in (xtb_1 (List.mem_of_getElem? (i := 199) rfl)) rfl
theorem mw_100 : Cond.methodLink RX6 45 yX6_refuse ∈ xB := xB_in (xtb_1 (List.mem_of_getElem? (i := 200) rfl)) rfl
theorem mw_101 : Cond.instanceMethod yX6_refuse ∈ xB := xB_in (xtb_1 (List.mem_of_getElem? (i := 202) rfl)) rfl
theorem mw_102 : Cond.selects RX6 yX6_refuse yX6_refuse ∈ xB := xB_in (xpv_1 (List.mem_of_getElem? (i := 0) rfl)) rfl
theorem mw_103 : Cond.code yX6_refuse cX6_refuse 3 (some .int) ∈ xB := xB_in (xtb_1 (List.mem_of_getElem? (i := 203) rfl)) rfl
theorem mw_104 : Cond.methodLink RX6 49 yX4_putRow ∈ xB := xB_in (xtb_1 (List.mem_of_getElem? (i := 204) rfl)) rfl
theorem mw_105 : Cond.instanceMethod yX4_putRow ∈ xB := xB_in (xtb_1 (List.mem_of_getElem? (i := 205) rfl)) rfl
theorem mw_106 : Cond.selects RX4 yX4_putRow yX4_putRow ∈ xB := xB_in (xtb_1 (List.mem_of_getElem? (i := 206) rfl)) rfl
theorem mw_107 : Cond.code yX4_putRow cX4_putRow 5 none ∈ xB := xB_in (xtb_1 (List.mem_of_getElem? (i := 207) rfl)) rfl
theorem mw_108 : Cond.methodLink RX4 34 yX4_put ∈ xB := xB_in (xtb_1 (List.mem_of_getElem? (i := 208) rfl)) rfl
theorem mw_109 : Cond.instanceMethod yX4_put ∈ xB := xB_in (xtb_1 (List.mem_of_getElem? (i := 210) rfl)) rfl
theorem mw_110 : Cond.selects RX4 yX4_put yX4_put ∈ xB := xB_in (xpv_1 (List.mem_of_getElem? (i := 1) rfl)) rfl
theorem mw_111 : Cond.code yX4_put cX4_put 4 none ∈ xB := xB_in (xtb_1 (List.mem_of_getElem? (i := 211) rfl)) rfl
theorem mw_112 : Cond.methodLink RX4 38 yX4_putElement ∈ xB := xB_in (xtb_1 (List.mem_of_getElem? (i := 212) rfl)) rfl
theorem mw_113 : Cond.instanceMethod yX4_putElement ∈ xB := xB_in (xtb_1 (List.mem_of_getElem? (i := 213) rfl)) rfl
theorem mw_114 : Cond.selects RX4 yX4_putElement yX4_putElement ∈ xB := xB_in (xtb_1 (List.mem_of_getElem? (i := 214) rfl)) rfl
theorem mw_115 : Cond.code yX4_putElement cX4_putElement 6 none ∈ xB := xB_in (xtb_1 (List.mem_of_getElem? (i := 215) rfl)) rfl
theorem mw_116 : Cond.methodLink RX4 42 yX4_placeOf ∈ xB := xB_in (xtb_1 (List.mem_of_getElem? (i := 216) rfl)) rfl
theorem mw_117 : Cond.instanceMethod yX4_placeOf ∈ xB := xB_in (xtb_1 (List.mem_of_getElem? (i := 218) rfl)) rfl
theorem mw_118 : Cond.selects RX4 yX4_placeOf yX4_placeOf ∈ xB := xB_in (xpv_1 (List.mem_of_getElem? (i := 2) rfl)) rfl
theorem mw_119 : Cond.code yX4_placeOf cX4_placeOf 3 (some .int) ∈ xB := xB_in (xtb_1 (List.mem_of_getElem? (i := 219) rfl)) rfl
theorem mw_120 : Cond.methodLink RX4 50 yX4_sizeOf ∈ xB := xB_in (xtb_1 (List.mem_of_getElem? (i := 220) rfl)) rfl
theorem mw_121 : Cond.instanceMethod yX4_sizeOf ∈ xB := xB_in (xtb_1 (List.mem_of_getElem? (i := 221) rfl)) rfl
theorem mw_122 : Cond.selects RX4 yX4_sizeOf yX4_sizeOf ∈ xB := xB_in (xtb_1 (List.mem_of_getElem? (i := 222) rfl)) rfl
theorem mw_123 : Cond.code yX4_sizeOf cX4_sizeOf 2 (some .int) ∈ xB := xB_in (xtb_1 (List.mem_of_getElem? (i := 223) rfl)) rfl
theorem mw_124 : Cond.static yX6_elementOf ∈ xB := xB_in (xtb_1 (List.mem_of_getElem? (i := 225) rfl)) rfl
theorem mw_125 : Cond.code yX6_elementOf cX6_elementOf 3 (some .int) ∈ xB := xB_in (xtb_1 (List.mem_of_getElem? (i := 226) rfl)) rfl
theorem mw_126 : Cond.methodLink RX4 30 yX4_heldOn ∈ xB := xB_in (xtb_1 (List.mem_of_getElem? (i := 227) rfl)) rfl
theorem mw_127 : Cond.instanceMethod yX4_heldOn ∈ xB := xB_in (xtb_1 (List.mem_of_getElem? (i := 228) rfl)) rfl
theorem mw_128 : Cond.selects RX4 yX4_heldOn yX4_heldOn ∈ xB := xB_in (xtb_1 (List.mem_of_getElem? (i := 229) rfl)) rfl
theorem mw_129 : Cond.code yX4_heldOn cX4_heldOn 2 (some .int) ∈ xB := xB_in (xtb_1 (List.mem_of_getElem? (i := 230) rfl)) rfl
theorem mw_130 : Cond.methodLink RX4 46 yX4_lowestBits ∈ xB := xB_in (xtb_1 (List.mem_of_getElem? (i := 231) rfl)) rfl
theorem mw_131 : Cond.static yX4_lowestBits ∈ xB := xB_in (xtb_1 (List.mem_of_getElem? (i := 232) rfl)) rfl
theorem mw_132 : Cond.code yX4_lowestBits cX4_lowestBits 3 (some .long) ∈ xB := xB_in (xtb_1 (List.mem_of_getElem? (i := 233) rfl)) rfl
theorem mw_133 : Cond.methodLink RL 17 yX7_row ∈ xB := xB_in (xtb_5 (List.mem_of_getElem? (i := 133) rfl)) rfl
theorem mw_134 : Cond.instanceMethod yX7_row ∈ xB := xB_in (xtb_5 (List.mem_of_getElem? (i := 134) rfl)) rfl
theorem mw_135 : Cond.selects RX7 yX7_row yX7_row ∈ xB := xB_in (xtb_5 (List.mem_of_getElem? (i := 135) rfl)) rfl
theorem mw_136 : Cond.code yX7_row cX7_row 5 (some .int) ∈ xB := xB_in (xtb_5 (List.mem_of_getElem? (i := 136) rfl)) rfl
theorem mw_137 : Cond.methodLink RX7 65 yX7_isShelf ∈ xB := xB_in (xtb_5 (List.mem_of_getElem? (i := 137) rfl)) rfl
theorem mw_138 : Cond.static yX7_isShelf ∈ xB := xB_in (xtb_5 (List.mem_of_getElem? (i := 138) rfl)) rfl
theorem mw_139 : Cond.code yX7_isShelf cX7_isShelf 1 (some .boolean) ∈ xB := xB_in (xtb_5 (List.mem_of_getElem? (i := 139) rfl)) rfl
theorem mw_140 : Cond.methodLink RX7 55 yX7_within ∈ xB := xB_in (xtb_5 (List.mem_of_getElem? (i := 140) rfl)) rfl
theorem mw_141 : Cond.static yX7_within ∈ xB := xB_in (xtb_5 (List.mem_of_getElem? (i := 141) rfl)) rfl
theorem mw_142 : Cond.code yX7_within cX7_within 3 (some .boolean) ∈ xB := xB_in (xtb_5 (List.mem_of_getElem? (i := 142) rfl)) rfl
theorem mw_143 : Cond.methodLink RX7 69 yX7_no ∈ xB := xB_in (xtb_5 (List.mem_of_getElem? (i := 143) rfl)) rfl
theorem mw_144 : Cond.instanceMethod yX7_no ∈ xB := xB_in (xtb_5 (List.mem_of_getElem? (i := 145) rfl)) rfl
theorem mw_145 : Cond.selects RX7 yX7_no yX7_no ∈ xB := xB_in (xpv_2 (List.mem_of_getElem? (i := 7) rfl)) rfl
theorem mw_146 : Cond.code yX7_no cX7_no 2 (some .int) ∈ xB := xB_in (xtb_5 (List.mem_of_getElem? (i := 146) rfl)) rfl
theorem mw_147 : Cond.methodLink RL 20 yX6_set ∈ xB := xB_in (xtb_1 (List.mem_of_getElem? (i := 234) rfl)) rfl
theorem mw_148 : Cond.instanceMethod yX6_set ∈ xB := xB_in (xtb_1 (List.mem_of_getElem? (i := 235) rfl)) rfl
theorem mw_149 : Cond.selects RX6 yX6_set yX6_set ∈ xB := xB_in (xtb_1 (List.mem_of_getElem? (i := 236) rfl)) rfl
theorem mw_150 : Cond.code yX6_set cX6_set 6 (some .int) ∈ xB := xB_in (xtb_1 (List.mem_of_getElem? (i := 237) rfl)) rfl
theorem mw_151 : Cond.methodLink RX6 53 yX6_refusalOfRow ∈ xB := xB_in (xtb_1 (List.mem_of_getElem? (i := 238) rfl)) rfl
theorem mw_152 : Cond.instanceMethod yX6_refusalOfRow ∈ xB := xB_in (xtb_2 (List.mem_of_getElem? (i := 0) rfl)) rfl
theorem mw_153 : Cond.selects RX6 yX6_refusalOfRow yX6_refusalOfRow ∈ xB := xB_in (xpv_1 (List.mem_of_getElem? (i := 3) rfl)) rfl
theorem mw_154 : Cond.code yX6_refusalOfRow cX6_refusalOfRow 2 (some .int) ∈ xB := xB_in (xtb_2 (List.mem_of_getElem? (i := 1) rfl)) rfl
theorem mw_155 : Cond.methodLink RX6 101 yX4_lawOn ∈ xB := xB_in (xtb_2 (List.mem_of_getElem? (i := 2) rfl)) rfl
theorem mw_156 : Cond.instanceMethod yX4_lawOn ∈ xB := xB_in (xtb_2 (List.mem_of_getElem? (i := 3) rfl)) rfl
theorem mw_157 : Cond.selects RX4 yX4_lawOn yX4_lawOn ∈ xB := xB_in (xtb_2 (List.mem_of_getElem? (i := 4) rfl)) rfl
theorem mw_158 : Cond.code yX4_lawOn cX4_lawOn 2 (some .int) ∈ xB := xB_in (xtb_2 (List.mem_of_getElem? (i := 5) rfl)) rfl
theorem mw_159 : Cond.methodLink RX6 104 yX4_holdsRow ∈ xB := xB_in (xtb_2 (List.mem_of_getElem? (i := 6) rfl)) rfl
theorem mw_160 : Cond.instanceMethod yX4_holdsRow ∈ xB := xB_in (xtb_2 (List.mem_of_getElem? (i := 7) rfl)) rfl
theorem mw_161 : Cond.selects RX4 yX4_holdsRow yX4_holdsRow ∈ xB := xB_in (xtb_2 (List.mem_of_getElem? (i := 8) rfl)) rfl
theorem mw_162 : Cond.code yX4_holdsRow cX4_holdsRow 2 (some .boolean) ∈ xB := xB_in (xtb_2 (List.mem_of_getElem? (i := 9) rfl)) rfl
theorem mw_163 : Cond.methodLink RX6 56 yX4_sizeOf ∈ xB := xB_in (xtb_2 (List.mem_of_getElem? (i := 10) rfl)) rfl
theorem mw_164 : Cond.methodLink RX6 59 yX4_putElement ∈ xB := xB_in (xtb_2 (List.mem_of_getElem? (i := 11) rfl)) rfl
theorem mw_165 : Cond.methodLink RL 24 yX7_set ∈ xB := xB_in (xtb_5 (List.mem_of_getElem? (i := 147) rfl)) rfl
theorem mw_166 : Cond.instanceMethod yX7_set ∈ xB := xB_in (xtb_5 (List.mem_of_getElem? (i := 148) rfl)) rfl
theorem mw_167 : Cond.selects RX7 yX7_set yX7_set ∈ xB := xB_in (xtb_5 (List.mem_of_getElem? (i := 149) rfl)) rfl
theorem mw_168 : Cond.code yX7_set cX7_set 5 (some .int) ∈ xB := xB_in (xtb_5 (List.mem_of_getElem? (i := 150) rfl)) rfl
theorem mw_169 : Cond.methodLink RX7 73 yX7_isRow ∈ xB := xB_in (xtb_5 (List.mem_of_getElem? (i := 151) rfl)) rfl
theorem mw_170 : Cond.instanceMethod yX7_isRow ∈ xB := xB_in (xtb_5 (List.mem_of_getElem? (i := 153) rfl)) rfl
theorem mw_171 : Cond.selects RX7 yX7_isRow yX7_isRow ∈ xB := xB_in (xpv_2 (List.mem_of_getElem? (i := 8) rfl)) rfl
theorem mw_172 : Cond.code yX7_isRow cX7_isRow 2 (some .boolean) ∈ xB := xB_in (xtb_5 (List.mem_of_getElem? (i := 154) rfl)) rfl
theorem mw_173 : Cond.methodLink RX7 76 yX7_noRow ∈ xB := xB_in (xtb_5 (List.mem_of_getElem? (i := 155) rfl)) rfl
theorem mw_174 : Cond.instanceMethod yX7_noRow ∈ xB := xB_in (xtb_5 (List.mem_of_getElem? (i := 157) rfl)) rfl
theorem mw_175 : Cond.selects RX7 yX7_noRow yX7_noRow ∈ xB := xB_in (xpv_2 (List.mem_of_getElem? (i := 9) rfl)) rfl
theorem mw_176 : Cond.code yX7_noRow cX7_noRow 2 (some .int) ∈ xB := xB_in (xtb_5 (List.mem_of_getElem? (i := 158) rfl)) rfl
theorem mw_177 : Cond.methodLink RX7 79 yX7_kept ∈ xB := xB_in (xtb_5 (List.mem_of_getElem? (i := 159) rfl)) rfl
theorem mw_178 : Cond.static yX7_kept ∈ xB := xB_in (xtb_5 (List.mem_of_getElem? (i := 160) rfl)) rfl
theorem mw_179 : Cond.code yX7_kept cX7_kept 3 (some .long) ∈ xB := xB_in (xtb_5 (List.mem_of_getElem? (i := 161) rfl)) rfl
theorem mw_180 : Cond.methodLink RL 25 yX6_copy ∈ xB := xB_in (xtb_2 (List.mem_of_getElem? (i := 12) rfl)) rfl
theorem mw_181 : Cond.instanceMethod yX6_copy ∈ xB := xB_in (xtb_2 (List.mem_of_getElem? (i := 13) rfl)) rfl
theorem mw_182 : Cond.selects RX6 yX6_copy yX6_copy ∈ xB := xB_in (xtb_2 (List.mem_of_getElem? (i := 14) rfl)) rfl
theorem mw_183 : Cond.code yX6_copy cX6_copy 7 (some .int) ∈ xB := xB_in (xtb_2 (List.mem_of_getElem? (i := 15) rfl)) rfl
theorem mw_184 : Cond.methodLink RX6 63 yX6_refusalOfTwoRows ∈ xB := xB_in (xtb_2 (List.mem_of_getElem? (i := 16) rfl)) rfl
theorem mw_185 : Cond.instanceMethod yX6_refusalOfTwoRows ∈ xB := xB_in (xtb_2 (List.mem_of_getElem? (i := 18) rfl)) rfl
theorem mw_186 : Cond.selects RX6 yX6_refusalOfTwoRows yX6_refusalOfTwoRows ∈ xB := xB_in (xpv_1 (List.mem_of_getElem? (i := 4) rfl)) rfl
theorem mw_187 : Cond.code yX6_refusalOfTwoRows cX6_refusalOfTwoRows 5 (some .int) ∈ xB := xB_in (xtb_2 (List.mem_of_getElem? (i := 19) rfl)) rfl
theorem mw_188 : Cond.methodLink RX6 78 yX4_heldOn ∈ xB := xB_in (xtb_2 (List.mem_of_getElem? (i := 20) rfl)) rfl
theorem mw_189 : Cond.methodLink RX6 67 yX4_hasElements ∈ xB := xB_in (xtb_2 (List.mem_of_getElem? (i := 21) rfl)) rfl
theorem mw_190 : Cond.instanceMethod yX4_hasElements ∈ xB := xB_in (xtb_2 (List.mem_of_getElem? (i := 22) rfl)) rfl
theorem mw_191 : Cond.selects RX4 yX4_hasElements yX4_hasElements ∈ xB := xB_in (xtb_2 (List.mem_of_getElem? (i := 23) rfl)) rfl
theorem mw_192 : Cond.code yX4_hasElements cX4_hasElements 5 (some .boolean) ∈ xB := xB_in (xtb_2 (List.mem_of_getElem? (i := 24) rfl)) rfl
theorem mw_193 : Cond.methodLink RX6 70 yX4_copyElements ∈ xB := xB_in (xtb_2 (List.mem_of_getElem? (i := 25) rfl)) rfl
theorem mw_194 : Cond.instanceMethod yX4_copyElements ∈ xB := xB_in (xtb_2 (List.mem_of_getElem? (i := 26) rfl)) rfl
theorem mw_195 : Cond.selects RX4 yX4_copyElements yX4_copyElements ∈ xB := xB_in (xtb_2 (List.mem_of_getElem? (i := 27) rfl)) rfl
theorem mw_196 : Cond.code yX4_copyElements cX4_copyElements 9 none ∈ xB := xB_in (xtb_2 (List.mem_of_getElem? (i := 28) rfl)) rfl
theorem mw_197 : Cond.methodLink RX4 53 yX4_elementAt ∈ xB := xB_in (xtb_2 (List.mem_of_getElem? (i := 29) rfl)) rfl
theorem mw_198 : Cond.instanceMethod yX4_elementAt ∈ xB := xB_in (xtb_2 (List.mem_of_getElem? (i := 30) rfl)) rfl
theorem mw_199 : Cond.selects RX4 yX4_elementAt yX4_elementAt ∈ xB := xB_in (xtb_2 (List.mem_of_getElem? (i := 31) rfl)) rfl
theorem mw_200 : Cond.code yX4_elementAt cX4_elementAt 4 (some .long) ∈ xB := xB_in (xtb_2 (List.mem_of_getElem? (i := 32) rfl)) rfl
theorem mw_201 : Cond.methodLink RL 29 yX7_copy ∈ xB := xB_in (xtb_5 (List.mem_of_getElem? (i := 162) rfl)) rfl
theorem mw_202 : Cond.instanceMethod yX7_copy ∈ xB := xB_in (xtb_5 (List.mem_of_getElem? (i := 163) rfl)) rfl
theorem mw_203 : Cond.selects RX7 yX7_copy yX7_copy ∈ xB := xB_in (xtb_5 (List.mem_of_getElem? (i := 164) rfl)) rfl
theorem mw_204 : Cond.code yX7_copy cX7_copy 7 (some .int) ∈ xB := xB_in (xtb_5 (List.mem_of_getElem? (i := 165) rfl)) rfl
theorem mw_205 : Cond.methodLink RL 30 yX6_element ∈ xB := xB_in (xtb_2 (List.mem_of_getElem? (i := 33) rfl)) rfl
theorem mw_206 : Cond.instanceMethod yX6_element ∈ xB := xB_in (xtb_2 (List.mem_of_getElem? (i := 34) rfl)) rfl
theorem mw_207 : Cond.selects RX6 yX6_element yX6_element ∈ xB := xB_in (xtb_2 (List.mem_of_getElem? (i := 35) rfl)) rfl
theorem mw_208 : Cond.code yX6_element cX6_element 3 (some .long) ∈ xB := xB_in (xtb_2 (List.mem_of_getElem? (i := 36) rfl)) rfl
theorem mw_209 : Cond.methodLink RX6 74 yX4_elementAt ∈ xB := xB_in (xtb_2 (List.mem_of_getElem? (i := 37) rfl)) rfl
theorem mw_210 : Cond.methodLink RL 34 yX7_element ∈ xB := xB_in (xtb_5 (List.mem_of_getElem? (i := 166) rfl)) rfl
theorem mw_211 : Cond.instanceMethod yX7_element ∈ xB := xB_in (xtb_5 (List.mem_of_getElem? (i := 167) rfl)) rfl
theorem mw_212 : Cond.selects RX7 yX7_element yX7_element ∈ xB := xB_in (xtb_5 (List.mem_of_getElem? (i := 168) rfl)) rfl
theorem mw_213 : Cond.code yX7_element cX7_element 3 (some .long) ∈ xB := xB_in (xtb_5 (List.mem_of_getElem? (i := 169) rfl)) rfl
theorem mw_214 : Cond.methodLink RL 35 yX6_holds ∈ xB := xB_in (xtb_2 (List.mem_of_getElem? (i := 38) rfl)) rfl
theorem mw_215 : Cond.instanceMethod yX6_holds ∈ xB := xB_in (xtb_2 (List.mem_of_getElem? (i := 39) rfl)) rfl
theorem mw_216 : Cond.selects RX6 yX6_holds yX6_holds ∈ xB := xB_in (xtb_2 (List.mem_of_getElem? (i := 40) rfl)) rfl
theorem mw_217 : Cond.code yX6_holds cX6_holds 2 (some .int) ∈ xB := xB_in (xtb_2 (List.mem_of_getElem? (i := 41) rfl)) rfl
theorem mw_218 : Cond.methodLink RL 39 yX7_holds ∈ xB := xB_in (xtb_5 (List.mem_of_getElem? (i := 170) rfl)) rfl
theorem mw_219 : Cond.instanceMethod yX7_holds ∈ xB := xB_in (xtb_5 (List.mem_of_getElem? (i := 171) rfl)) rfl
theorem mw_220 : Cond.selects RX7 yX7_holds yX7_holds ∈ xB := xB_in (xtb_5 (List.mem_of_getElem? (i := 172) rfl)) rfl
theorem mw_221 : Cond.code yX7_holds cX7_holds 2 (some .int) ∈ xB := xB_in (xtb_5 (List.mem_of_getElem? (i := 173) rfl)) rfl
theorem mw_222 : Cond.methodLink RL 40 yX6_show ∈ xB := xB_in (xtb_2 (List.mem_of_getElem? (i := 42) rfl)) rfl
theorem mw_223 : Cond.instanceMethod yX6_show ∈ xB := xB_in (xtb_2 (List.mem_of_getElem? (i := 43) rfl)) rfl
theorem mw_224 : Cond.selects RX6 yX6_show yX6_show ∈ xB := xB_in (xtb_2 (List.mem_of_getElem? (i := 44) rfl)) rfl
theorem mw_225 : Cond.code yX6_show cX6_show 3 (some .int) ∈ xB := xB_in (xtb_2 (List.mem_of_getElem? (i := 45) rfl)) rfl
theorem mw_226 : Cond.methodLink RX6 85 yX2_isThere ∈ xB := xB_in (xtb_2 (List.mem_of_getElem? (i := 46) rfl)) rfl
theorem mw_227 : Cond.instanceMethod yX2_isThere ∈ xB := xB_in (xtb_2 (List.mem_of_getElem? (i := 47) rfl)) rfl
theorem mw_228 : Cond.selects RX2 yX2_isThere yX2_isThere ∈ xB := xB_in (xtb_2 (List.mem_of_getElem? (i := 48) rfl)) rfl
theorem mw_229 : Cond.code yX2_isThere cX2_isThere 2 (some .boolean) ∈ xB := xB_in (xtb_2 (List.mem_of_getElem? (i := 49) rfl)) rfl
theorem mw_230 : Cond.fieldLink RX2 22 "AnsweredByTheDrowned$Laws" "count" "I" ∈ xB := xB_in (xtb_1 (List.mem_of_getElem? (i := 38) rfl)) rfl
theorem mw_231 : Cond.methodLink RX6 90 yX4_putNothing ∈ xB := xB_in (xtb_2 (List.mem_of_getElem? (i := 51) rfl)) rfl
theorem mw_232 : Cond.instanceMethod yX4_putNothing ∈ xB := xB_in (xtb_2 (List.mem_of_getElem? (i := 52) rfl)) rfl
theorem mw_233 : Cond.selects RX4 yX4_putNothing yX4_putNothing ∈ xB := xB_in (xtb_2 (List.mem_of_getElem? (i := 53) rfl)) rfl
theorem mw_234 : Cond.code yX4_putNothing cX4_putNothing 2 none ∈ xB := xB_in (xtb_2 (List.mem_of_getElem? (i := 54) rfl)) rfl
theorem mw_235 : Cond.methodLink RX6 94 yX4_putLaw ∈ xB := xB_in (xtb_2 (List.mem_of_getElem? (i := 55) rfl)) rfl
theorem mw_236 : Cond.instanceMethod yX4_putLaw ∈ xB := xB_in (xtb_2 (List.mem_of_getElem? (i := 56) rfl)) rfl
theorem mw_237 : Cond.selects RX4 yX4_putLaw yX4_putLaw ∈ xB := xB_in (xtb_2 (List.mem_of_getElem? (i := 57) rfl)) rfl
theorem mw_238 : Cond.code yX4_putLaw cX4_putLaw 3 none ∈ xB := xB_in (xtb_2 (List.mem_of_getElem? (i := 58) rfl)) rfl
theorem mw_239 : Cond.methodLink RL 44 yX7_show ∈ xB := xB_in (xtb_5 (List.mem_of_getElem? (i := 174) rfl)) rfl
theorem mw_240 : Cond.instanceMethod yX7_show ∈ xB := xB_in (xtb_5 (List.mem_of_getElem? (i := 175) rfl)) rfl
theorem mw_241 : Cond.selects RX7 yX7_show yX7_show ∈ xB := xB_in (xtb_5 (List.mem_of_getElem? (i := 176) rfl)) rfl
theorem mw_242 : Cond.code yX7_show cX7_show 3 (some .int) ∈ xB := xB_in (xtb_5 (List.mem_of_getElem? (i := 177) rfl)) rfl
theorem mw_243 : Cond.methodLink RX7 83 yX7_isLaw ∈ xB := xB_in (xtb_5 (List.mem_of_getElem? (i := 178) rfl)) rfl
theorem mw_244 : Cond.instanceMethod yX7_isLaw ∈ xB := xB_in (xtb_5 (List.mem_of_getElem? (i := 180) rfl)) rfl
theorem mw_245 : Cond.selects RX7 yX7_isLaw yX7_isLaw ∈ xB := xB_in (xpv_2 (List.mem_of_getElem? (i := 10) rfl)) rfl
theorem mw_246 : Cond.code yX7_isLaw cX7_isLaw 2 (some .boolean) ∈ xB := xB_in (xtb_5 (List.mem_of_getElem? (i := 181) rfl)) rfl
theorem mw_247 : Cond.fieldLink RX7 52 "AnsweredByTheDrownedModel" "laws" "I" ∈ xB := xB_in (xtb_5 (List.mem_of_getElem? (i := 50) rfl)) rfl
theorem mw_248 : Cond.methodLink RL 45 yX6_says ∈ xB := xB_in (xtb_2 (List.mem_of_getElem? (i := 59) rfl)) rfl
theorem mw_249 : Cond.instanceMethod yX6_says ∈ xB := xB_in (xtb_2 (List.mem_of_getElem? (i := 60) rfl)) rfl
theorem mw_250 : Cond.selects RX6 yX6_says yX6_says ∈ xB := xB_in (xtb_2 (List.mem_of_getElem? (i := 61) rfl)) rfl
theorem mw_251 : Cond.code yX6_says cX6_says 4 (some .int) ∈ xB := xB_in (xtb_2 (List.mem_of_getElem? (i := 62) rfl)) rfl
theorem mw_252 : Cond.methodLink RX6 98 yX2_isKind ∈ xB := xB_in (xtb_2 (List.mem_of_getElem? (i := 63) rfl)) rfl
theorem mw_253 : Cond.static yX2_isKind ∈ xB := xB_in (xtb_2 (List.mem_of_getElem? (i := 64) rfl)) rfl
theorem mw_254 : Cond.code yX2_isKind cX2_isKind 1 (some .boolean) ∈ xB := xB_in (xtb_2 (List.mem_of_getElem? (i := 65) rfl)) rfl
theorem mw_255 : Cond.methodLink RX6 107 yX2_kindOf ∈ xB := xB_in (xtb_2 (List.mem_of_getElem? (i := 66) rfl)) rfl
theorem mw_256 : Cond.instanceMethod yX2_kindOf ∈ xB := xB_in (xtb_2 (List.mem_of_getElem? (i := 67) rfl)) rfl
theorem mw_257 : Cond.selects RX2 yX2_kindOf yX2_kindOf ∈ xB := xB_in (xtb_2 (List.mem_of_getElem? (i := 68) rfl)) rfl
theorem mw_258 : Cond.code yX2_kindOf cX2_kindOf 2 (some .int) ∈ xB := xB_in (xtb_2 (List.mem_of_getElem? (i := 69) rfl)) rfl
theorem mw_259 : Cond.methodLink RX6 110 yX2_isUnder ∈ xB := xB_in (xtb_2 (List.mem_of_getElem? (i := 71) rfl)) rfl
theorem mw_260 : Cond.static yX2_isUnder ∈ xB := xB_in (xtb_2 (List.mem_of_getElem? (i := 72) rfl)) rfl
theorem mw_261 : Cond.code yX2_isUnder cX2_isUnder 2 (some .boolean) ∈ xB := xB_in (xtb_2 (List.mem_of_getElem? (i := 73) rfl)) rfl
theorem mw_262 : Cond.methodLink RX6 114 yX2_tuneOf ∈ xB := xB_in (xtb_2 (List.mem_of_getElem? (i := 74) rfl)) rfl
theorem mw_263 : Cond.instanceMethod yX2_tuneOf ∈ xB := xB_in (xtb_2 (List.mem_of_getElem? (i := 75) rfl)) rfl
theorem mw_264 : Cond.selects RX2 yX2_tuneOf yX2_tuneOf ∈ xB := xB_in (xtb_2 (List.mem_of_getElem? (i := 76) rfl)) rfl
theorem mw_265 : Cond.code yX2_tuneOf cX2_tuneOf 2 (some .int) ∈ xB := xB_in (xtb_2 (List.mem_of_getElem? (i := 77) rfl)) rfl
theorem mw_266 : Cond.methodLink RX6 117 yX2_stepsLookedAhead ∈ xB := xB_in (xtb_2 (List.mem_of_getElem? (i := 78) rfl)) rfl
theorem mw_267 : Cond.static yX2_stepsLookedAhead ∈ xB := xB_in (xtb_2 (List.mem_of_getElem? (i := 79) rfl)) rfl
theorem mw_268 : Cond.code yX2_stepsLookedAhead cX2_stepsLookedAhead 2 (some .int) ∈ xB := xB_in (xtb_2 (List.mem_of_getElem? (i := 80) rfl)) rfl
theorem mw_269 : Cond.methodLink RX6 124 yX0_timesStruck ∈ xB := xB_in (xtb_2 (List.mem_of_getElem? (i := 81) rfl)) rfl
theorem mw_270 : Cond.instanceMethod yX0_timesStruck ∈ xB := xB_in (xtb_2 (List.mem_of_getElem? (i := 82) rfl)) rfl
theorem mw_271 : Cond.selects RX0 yX0_timesStruck yX0_timesStruck ∈ xB := xB_in (xtb_2 (List.mem_of_getElem? (i := 83) rfl)) rfl
theorem mw_272 : Cond.code yX0_timesStruck cX0_timesStruck 4 (some .int) ∈ xB := xB_in (xtb_2 (List.mem_of_getElem? (i := 84) rfl)) rfl
theorem mw_273 : Cond.methodLink RX0 64 yX0_struck ∈ xB := xB_in (xtb_2 (List.mem_of_getElem? (i := 85) rfl)) rfl
theorem mw_274 : Cond.instanceMethod yX0_struck ∈ xB := xB_in (xtb_2 (List.mem_of_getElem? (i := 86) rfl)) rfl
theorem mw_275 : Cond.selects RX0 yX0_struck yX0_struck ∈ xB := xB_in (xtb_2 (List.mem_of_getElem? (i := 87) rfl)) rfl
theorem mw_276 : Cond.code yX0_struck cX0_struck 4 (some .long) ∈ xB := xB_in (xtb_2 (List.mem_of_getElem? (i := 88) rfl)) rfl
theorem mw_277 : Cond.fieldLink RX0 49 "AnsweredByTheDrowned$Lake" "steps" "I" ∈ xB := xB_in (xtb_1 (List.mem_of_getElem? (i := 85) rfl)) rfl
theorem mw_278 : Cond.methodLink RX0 60 yX2_struck ∈ xB := xB_in (xtb_2 (List.mem_of_getElem? (i := 89) rfl)) rfl
theorem mw_279 : Cond.instanceMethod yX2_struck ∈ xB := xB_in (xtb_2 (List.mem_of_getElem? (i := 90) rfl)) rfl
theorem mw_280 : Cond.selects RX2 yX2_struck yX2_struck ∈ xB := xB_in (xtb_2 (List.mem_of_getElem? (i := 91) rfl)) rfl
theorem mw_281 : Cond.code yX2_struck cX2_struck 9 (some .long) ∈ xB := xB_in (xtb_2 (List.mem_of_getElem? (i := 92) rfl)) rfl
theorem mw_282 : Cond.methodLink RX2 82 yX2_strikesAt ∈ xB := xB_in (xtb_2 (List.mem_of_getElem? (i := 93) rfl)) rfl
theorem mw_283 : Cond.instanceMethod yX2_strikesAt ∈ xB := xB_in (xtb_2 (List.mem_of_getElem? (i := 94) rfl)) rfl
theorem mw_284 : Cond.selects RX2 yX2_strikesAt yX2_strikesAt ∈ xB := xB_in (xtb_2 (List.mem_of_getElem? (i := 95) rfl)) rfl
theorem mw_285 : Cond.code yX2_strikesAt cX2_strikesAt 8 (some .boolean) ∈ xB := xB_in (xtb_2 (List.mem_of_getElem? (i := 96) rfl)) rfl
theorem mw_286 : Cond.methodLink RX2 41 yX2_isThere ∈ xB := xB_in (xtb_2 (List.mem_of_getElem? (i := 97) rfl)) rfl
theorem mw_287 : Cond.methodLink RX2 26 yX2_kindOf ∈ xB := xB_in (xtb_2 (List.mem_of_getElem? (i := 98) rfl)) rfl
theorem mw_288 : Cond.methodLink RX2 30 yX2_tuneOf ∈ xB := xB_in (xtb_2 (List.mem_of_getElem? (i := 99) rfl)) rfl
theorem mw_289 : Cond.methodLink RX2 45 yX2_stepsLookedAhead ∈ xB := xB_in (xtb_2 (List.mem_of_getElem? (i := 100) rfl)) rfl
theorem mw_290 : Cond.methodLink RX2 49 yX2_isStrokeAt ∈ xB := xB_in (xtb_2 (List.mem_of_getElem? (i := 101) rfl)) rfl
theorem mw_291 : Cond.static yX2_isStrokeAt ∈ xB := xB_in (xtb_2 (List.mem_of_getElem? (i := 102) rfl)) rfl
theorem mw_292 : Cond.code yX2_isStrokeAt cX2_isStrokeAt 4 (some .boolean) ∈ xB := xB_in (xtb_2 (List.mem_of_getElem? (i := 103) rfl)) rfl
theorem mw_293 : Cond.static yX6_isIn ∈ xB := xB_in (xtb_2 (List.mem_of_getElem? (i := 105) rfl)) rfl
theorem mw_294 : Cond.code yX6_isIn cX6_isIn 3 (some .boolean) ∈ xB := xB_in (xtb_2 (List.mem_of_getElem? (i := 106) rfl)) rfl
theorem mw_295 : Cond.methodLink RX2 53 yX2_areGaps ∈ xB := xB_in (xtb_2 (List.mem_of_getElem? (i := 107) rfl)) rfl
theorem mw_296 : Cond.static yX2_areGaps ∈ xB := xB_in (xtb_2 (List.mem_of_getElem? (i := 108) rfl)) rfl
theorem mw_297 : Cond.code yX2_areGaps cX2_areGaps 6 (some .boolean) ∈ xB := xB_in (xtb_2 (List.mem_of_getElem? (i := 109) rfl)) rfl
theorem mw_298 : Cond.methodLink RX2 57 yX2_isGapAt ∈ xB := xB_in (xtb_2 (List.mem_of_getElem? (i := 110) rfl)) rfl
theorem mw_299 : Cond.static yX2_isGapAt ∈ xB := xB_in (xtb_2 (List.mem_of_getElem? (i := 111) rfl)) rfl
theorem mw_300 : Cond.code yX2_isGapAt cX2_isGapAt 4 (some .boolean) ∈ xB := xB_in (xtb_2 (List.mem_of_getElem? (i := 112) rfl)) rfl
theorem mw_301 : Cond.methodLink RX2 60 yX2_strokesAhead ∈ xB := xB_in (xtb_2 (List.mem_of_getElem? (i := 113) rfl)) rfl
theorem mw_302 : Cond.static yX2_strokesAhead ∈ xB := xB_in (xtb_2 (List.mem_of_getElem? (i := 114) rfl)) rfl
theorem mw_303 : Cond.code yX2_strokesAhead cX2_strokesAhead 4 (some .int) ∈ xB := xB_in (xtb_2 (List.mem_of_getElem? (i := 115) rfl)) rfl
theorem mw_304 : Cond.methodLink RX2 72 yJ13_bitCount_95d88 ∈ xB := xB_in (xtb_2 (List.mem_of_getElem? (i := 116) rfl)) rfl
theorem mw_305 : Cond.static yJ13_bitCount_95d88 ∈ xB := xB_in (xtb_2 (List.mem_of_getElem? (i := 117) rfl)) rfl
theorem mw_306 : Cond.initialized RJ13 ∈ xB := xB_in (xtb_1 (List.mem_of_getElem? (i := 9) rfl)) rfl
theorem mw_307 : Cond.code yJ13_bitCount_95d88 cJ13_bitCount_95d88 2 (some .int) ∈ xB := xB_in (xtb_2 (List.mem_of_getElem? (i := 118) rfl)) rfl
theorem mw_308 : Cond.constantLong RJ13 314 (6148914691236517205) ∈ xB := xB_in (xtb_2 (List.mem_of_getElem? (i := 119) rfl)) rfl
theorem mw_309 : Cond.constantLong RJ13 316 (3689348814741910323) ∈ xB := xB_in (xtb_2 (List.mem_of_getElem? (i := 120) rfl)) rfl
theorem mw_310 : Cond.constantLong RJ13 318 (1085102592571150095) ∈ xB := xB_in (xtb_2 (List.mem_of_getElem? (i := 121) rfl)) rfl
theorem mw_311 : Cond.static yX6_firstBits ∈ xB := xB_in (xtb_2 (List.mem_of_getElem? (i := 123) rfl)) rfl
theorem mw_312 : Cond.code yX6_firstBits cX6_firstBits 1 (some .long) ∈ xB := xB_in (xtb_2 (List.mem_of_getElem? (i := 124) rfl)) rfl
theorem mw_313 : Cond.static yX6_isMultiple ∈ xB := xB_in (xtb_2 (List.mem_of_getElem? (i := 126) rfl)) rfl
theorem mw_314 : Cond.code yX6_isMultiple cX6_isMultiple 2 (some .boolean) ∈ xB := xB_in (xtb_2 (List.mem_of_getElem? (i := 127) rfl)) rfl
theorem mw_315 : Cond.methodLink RX0 67 yJ13_bitCount_95d88 ∈ xB := xB_in (xtb_2 (List.mem_of_getElem? (i := 128) rfl)) rfl
theorem mw_316 : Cond.methodLink RL 48 yX7_says ∈ xB := xB_in (xtb_5 (List.mem_of_getElem? (i := 182) rfl)) rfl
theorem mw_317 : Cond.instanceMethod yX7_says ∈ xB := xB_in (xtb_5 (List.mem_of_getElem? (i := 183) rfl)) rfl
theorem mw_318 : Cond.selects RX7 yX7_says yX7_says ∈ xB := xB_in (xtb_5 (List.mem_of_getElem? (i := 184) rfl)) rfl
theorem mw_319 : Cond.code yX7_says cX7_says 4 (some .int) ∈ xB := xB_in (xtb_5 (List.mem_of_getElem? (i := 185) rfl)) rfl
theorem mw_320 : Cond.fieldLink RX7 90 "AnsweredByTheDrownedModel" "ring" "J" ∈ xB := xB_in (xtb_5 (List.mem_of_getElem? (i := 56) rfl)) rfl
theorem mw_321 : Cond.fieldLink RX7 62 "AnsweredByTheDrownedModel" "size" "I" ∈ xB := xB_in (xtb_5 (List.mem_of_getElem? (i := 57) rfl)) rfl
theorem mw_322 : Cond.methodLink RX7 86 yX7_isUnder ∈ xB := xB_in (xtb_5 (List.mem_of_getElem? (i := 186) rfl)) rfl
theorem mw_323 : Cond.static yX7_isUnder ∈ xB := xB_in (xtb_5 (List.mem_of_getElem? (i := 187) rfl)) rfl
theorem mw_324 : Cond.code yX7_isUnder cX7_isUnder 2 (some .boolean) ∈ xB := xB_in (xtb_5 (List.mem_of_getElem? (i := 188) rfl)) rfl
theorem mw_325 : Cond.methodLink RX7 94 yX7_struck ∈ xB := xB_in (xtb_5 (List.mem_of_getElem? (i := 189) rfl)) rfl
theorem mw_326 : Cond.instanceMethod yX7_struck ∈ xB := xB_in (xtb_5 (List.mem_of_getElem? (i := 191) rfl)) rfl
theorem mw_327 : Cond.selects RX7 yX7_struck yX7_struck ∈ xB := xB_in (xpv_2 (List.mem_of_getElem? (i := 11) rfl)) rfl
theorem mw_328 : Cond.code yX7_struck cX7_struck 7 (some .int) ∈ xB := xB_in (xtb_5 (List.mem_of_getElem? (i := 192) rfl)) rfl
theorem mw_329 : Cond.methodLink RX7 208 yX7_strikesAt ∈ xB := xB_in (xtb_5 (List.mem_of_getElem? (i := 193) rfl)) rfl
theorem mw_330 : Cond.instanceMethod yX7_strikesAt ∈ xB := xB_in (xtb_5 (List.mem_of_getElem? (i := 195) rfl)) rfl
theorem mw_331 : Cond.selects RX7 yX7_strikesAt yX7_strikesAt ∈ xB := xB_in (xpv_2 (List.mem_of_getElem? (i := 12) rfl)) rfl
theorem mw_332 : Cond.code yX7_strikesAt cX7_strikesAt 8 (some .boolean) ∈ xB := xB_in (xtb_5 (List.mem_of_getElem? (i := 196) rfl)) rfl
theorem mw_333 : Cond.methodLink RX7 200 yX7_isStroke ∈ xB := xB_in (xtb_5 (List.mem_of_getElem? (i := 197) rfl)) rfl
theorem mw_334 : Cond.static yX7_isStroke ∈ xB := xB_in (xtb_5 (List.mem_of_getElem? (i := 198) rfl)) rfl
theorem mw_335 : Cond.code yX7_isStroke cX7_isStroke 4 (some .boolean) ∈ xB := xB_in (xtb_5 (List.mem_of_getElem? (i := 199) rfl)) rfl
theorem mw_336 : Cond.methodLink RX7 190 yX7_has ∈ xB := xB_in (xtb_5 (List.mem_of_getElem? (i := 200) rfl)) rfl
theorem mw_337 : Cond.static yX7_has ∈ xB := xB_in (xtb_5 (List.mem_of_getElem? (i := 201) rfl)) rfl
theorem mw_338 : Cond.code yX7_has cX7_has 3 (some .boolean) ∈ xB := xB_in (xtb_5 (List.mem_of_getElem? (i := 202) rfl)) rfl
theorem mw_339 : Cond.methodLink RX7 204 yX7_strokes ∈ xB := xB_in (xtb_5 (List.mem_of_getElem? (i := 203) rfl)) rfl
theorem mw_340 : Cond.static yX7_strokes ∈ xB := xB_in (xtb_5 (List.mem_of_getElem? (i := 204) rfl)) rfl
theorem mw_341 : Cond.code yX7_strokes cX7_strokes 5 (some .int) ∈ xB := xB_in (xtb_5 (List.mem_of_getElem? (i := 205) rfl)) rfl
theorem mw_342 : Cond.methodLink RX7 194 yJ13_bitCount_95d88 ∈ xB := xB_in (xtb_5 (List.mem_of_getElem? (i := 206) rfl)) rfl
theorem mw_343 : Cond.methodLink RL 49 yX6_law ∈ xB := xB_in (xtb_2 (List.mem_of_getElem? (i := 129) rfl)) rfl
theorem mw_344 : Cond.instanceMethod yX6_law ∈ xB := xB_in (xtb_2 (List.mem_of_getElem? (i := 130) rfl)) rfl
theorem mw_345 : Cond.selects RX6 yX6_law yX6_law ∈ xB := xB_in (xtb_2 (List.mem_of_getElem? (i := 131) rfl)) rfl
theorem mw_346 : Cond.code yX6_law cX6_law 3 (some .int) ∈ xB := xB_in (xtb_2 (List.mem_of_getElem? (i := 132) rfl)) rfl
theorem mw_347 : Cond.methodLink RX6 128 yX2_hasRoom ∈ xB := xB_in (xtb_2 (List.mem_of_getElem? (i := 133) rfl)) rfl
theorem mw_348 : Cond.instanceMethod yX2_hasRoom ∈ xB := xB_in (xtb_2 (List.mem_of_getElem? (i := 134) rfl)) rfl
theorem mw_349 : Cond.selects RX2 yX2_hasRoom yX2_hasRoom ∈ xB := xB_in (xtb_2 (List.mem_of_getElem? (i := 135) rfl)) rfl
theorem mw_350 : Cond.code yX2_hasRoom cX2_hasRoom 1 (some .boolean) ∈ xB := xB_in (xtb_2 (List.mem_of_getElem? (i := 136) rfl)) rfl
theorem mw_351 : Cond.methodLink RX6 132 yX2_add ∈ xB := xB_in (xtb_2 (List.mem_of_getElem? (i := 137) rfl)) rfl
theorem mw_352 : Cond.instanceMethod yX2_add ∈ xB := xB_in (xtb_2 (List.mem_of_getElem? (i := 138) rfl)) rfl
theorem mw_353 : Cond.selects RX2 yX2_add yX2_add ∈ xB := xB_in (xtb_2 (List.mem_of_getElem? (i := 139) rfl)) rfl
theorem mw_354 : Cond.code yX2_add cX2_add 3 (some .int) ∈ xB := xB_in (xtb_2 (List.mem_of_getElem? (i := 140) rfl)) rfl
theorem mw_355 : Cond.methodLink RX2 33 yX2_write ∈ xB := xB_in (xtb_2 (List.mem_of_getElem? (i := 141) rfl)) rfl
theorem mw_356 : Cond.instanceMethod yX2_write ∈ xB := xB_in (xtb_2 (List.mem_of_getElem? (i := 143) rfl)) rfl
theorem mw_357 : Cond.selects RX2 yX2_write yX2_write ∈ xB := xB_in (xpv_1 (List.mem_of_getElem? (i := 5) rfl)) rfl
theorem mw_358 : Cond.code yX2_write cX2_write 4 none ∈ xB := xB_in (xtb_2 (List.mem_of_getElem? (i := 144) rfl)) rfl
theorem mw_359 : Cond.methodLink RL 52 yX7_law ∈ xB := xB_in (xtb_5 (List.mem_of_getElem? (i := 207) rfl)) rfl
theorem mw_360 : Cond.instanceMethod yX7_law ∈ xB := xB_in (xtb_5 (List.mem_of_getElem? (i := 208) rfl)) rfl
theorem mw_361 : Cond.selects RX7 yX7_law yX7_law ∈ xB := xB_in (xtb_5 (List.mem_of_getElem? (i := 209) rfl)) rfl
theorem mw_362 : Cond.code yX7_law cX7_law 3 (some .int) ∈ xB := xB_in (xtb_5 (List.mem_of_getElem? (i := 210) rfl)) rfl
theorem mw_363 : Cond.methodLink RX7 98 yX7_newLaw ∈ xB := xB_in (xtb_5 (List.mem_of_getElem? (i := 211) rfl)) rfl
theorem mw_364 : Cond.instanceMethod yX7_newLaw ∈ xB := xB_in (xtb_5 (List.mem_of_getElem? (i := 213) rfl)) rfl
theorem mw_365 : Cond.selects RX7 yX7_newLaw yX7_newLaw ∈ xB := xB_in (xpv_2 (List.mem_of_getElem? (i := 13) rfl)) rfl
theorem mw_366 : Cond.code yX7_newLaw cX7_newLaw 3 (some .int) ∈ xB := xB_in (xtb_5 (List.mem_of_getElem? (i := 214) rfl)) rfl
theorem mw_367 : Cond.methodLink RL 53 yX6_use ∈ xB := xB_in (xtb_2 (List.mem_of_getElem? (i := 145) rfl)) rfl
theorem mw_368 : Cond.instanceMethod yX6_use ∈ xB := xB_in (xtb_2 (List.mem_of_getElem? (i := 146) rfl)) rfl
theorem mw_369 : Cond.selects RX6 yX6_use yX6_use ∈ xB := xB_in (xtb_2 (List.mem_of_getElem? (i := 147) rfl)) rfl
theorem mw_370 : Cond.code yX6_use cX6_use 3 (some .int) ∈ xB := xB_in (xtb_2 (List.mem_of_getElem? (i := 148) rfl)) rfl
theorem mw_371 : Cond.methodLink RL 56 yX7_use ∈ xB := xB_in (xtb_5 (List.mem_of_getElem? (i := 215) rfl)) rfl
theorem mw_372 : Cond.instanceMethod yX7_use ∈ xB := xB_in (xtb_5 (List.mem_of_getElem? (i := 216) rfl)) rfl
theorem mw_373 : Cond.selects RX7 yX7_use yX7_use ∈ xB := xB_in (xtb_5 (List.mem_of_getElem? (i := 217) rfl)) rfl
theorem mw_374 : Cond.code yX7_use cX7_use 3 (some .int) ∈ xB := xB_in (xtb_5 (List.mem_of_getElem? (i := 218) rfl)) rfl
theorem mw_375 : Cond.fieldLink RX7 102 "AnsweredByTheDrownedModel" "inForce" "I" ∈ xB := xB_in (xtb_5 (List.mem_of_getElem? (i := 53) rfl)) rfl
theorem mw_376 : Cond.methodLink RL 57 yX6_ask ∈ xB := xB_in (xtb_2 (List.mem_of_getElem? (i := 149) rfl)) rfl
theorem mw_377 : Cond.instanceMethod yX6_ask ∈ xB := xB_in (xtb_2 (List.mem_of_getElem? (i := 150) rfl)) rfl
theorem mw_378 : Cond.selects RX6 yX6_ask yX6_ask ∈ xB := xB_in (xtb_2 (List.mem_of_getElem? (i := 151) rfl)) rfl
theorem mw_379 : Cond.code yX6_ask cX6_ask 4 (some .int) ∈ xB := xB_in (xtb_2 (List.mem_of_getElem? (i := 152) rfl)) rfl
theorem mw_380 : Cond.methodLink RL 60 yX7_ask ∈ xB := xB_in (xtb_5 (List.mem_of_getElem? (i := 219) rfl)) rfl
theorem mw_381 : Cond.instanceMethod yX7_ask ∈ xB := xB_in (xtb_5 (List.mem_of_getElem? (i := 220) rfl)) rfl
theorem mw_382 : Cond.selects RX7 yX7_ask yX7_ask ∈ xB := xB_in (xtb_5 (List.mem_of_getElem? (i := 221) rfl)) rfl
theorem mw_383 : Cond.code yX7_ask cX7_ask 4 (some .int) ∈ xB := xB_in (xtb_5 (List.mem_of_getElem? (i := 222) rfl)) rfl
theorem mw_384 : Cond.fieldLink RX7 105 "AnsweredByTheDrownedModel" "miss" "I" ∈ xB := xB_in (xtb_5 (List.mem_of_getElem? (i := 55) rfl)) rfl
theorem mw_385 : Cond.methodLink RL 61 yX6_person ∈ xB := xB_in (xtb_2 (List.mem_of_getElem? (i := 153) rfl)) rfl
theorem mw_386 : Cond.instanceMethod yX6_person ∈ xB := xB_in (xtb_2 (List.mem_of_getElem? (i := 154) rfl)) rfl
theorem mw_387 : Cond.selects RX6 yX6_person yX6_person ∈ xB := xB_in (xtb_2 (List.mem_of_getElem? (i := 155) rfl)) rfl
theorem mw_388 : Cond.code yX6_person cX6_person 2 (some .int) ∈ xB := xB_in (xtb_2 (List.mem_of_getElem? (i := 156) rfl)) rfl
theorem mw_389 : Cond.methodLink RX6 149 yX3_hasRoom ∈ xB := xB_in (xtb_2 (List.mem_of_getElem? (i := 157) rfl)) rfl
theorem mw_390 : Cond.instanceMethod yX3_hasRoom ∈ xB := xB_in (xtb_2 (List.mem_of_getElem? (i := 158) rfl)) rfl
theorem mw_391 : Cond.selects RX3 yX3_hasRoom yX3_hasRoom ∈ xB := xB_in (xtb_2 (List.mem_of_getElem? (i := 159) rfl)) rfl
theorem mw_392 : Cond.code yX3_hasRoom cX3_hasRoom 1 (some .boolean) ∈ xB := xB_in (xtb_2 (List.mem_of_getElem? (i := 160) rfl)) rfl
theorem mw_393 : Cond.fieldLink RX3 19 "AnsweredByTheDrowned$People" "count" "I" ∈ xB := xB_in (xtb_1 (List.mem_of_getElem? (i := 58) rfl)) rfl
theorem mw_394 : Cond.methodLink RX6 152 yX3_add ∈ xB := xB_in (xtb_2 (List.mem_of_getElem? (i := 161) rfl)) rfl
theorem mw_395 : Cond.instanceMethod yX3_add ∈ xB := xB_in (xtb_2 (List.mem_of_getElem? (i := 162) rfl)) rfl
theorem mw_396 : Cond.selects RX3 yX3_add yX3_add ∈ xB := xB_in (xtb_2 (List.mem_of_getElem? (i := 163) rfl)) rfl
theorem mw_397 : Cond.code yX3_add cX3_add 2 (some .int) ∈ xB := xB_in (xtb_2 (List.mem_of_getElem? (i := 164) rfl)) rfl
theorem mw_398 : Cond.methodLink RX3 27 yX3_write ∈ xB := xB_in (xtb_2 (List.mem_of_getElem? (i := 165) rfl)) rfl
theorem mw_399 : Cond.instanceMethod yX3_write ∈ xB := xB_in (xtb_2 (List.mem_of_getElem? (i := 167) rfl)) rfl
theorem mw_400 : Cond.selects RX3 yX3_write yX3_write ∈ xB := xB_in (xpv_1 (List.mem_of_getElem? (i := 6) rfl)) rfl
theorem mw_401 : Cond.code yX3_write cX3_write 3 none ∈ xB := xB_in (xtb_2 (List.mem_of_getElem? (i := 168) rfl)) rfl
theorem mw_402 : Cond.methodLink RL 64 yX7_person ∈ xB := xB_in (xtb_5 (List.mem_of_getElem? (i := 223) rfl)) rfl
theorem mw_403 : Cond.instanceMethod yX7_person ∈ xB := xB_in (xtb_5 (List.mem_of_getElem? (i := 224) rfl)) rfl
theorem mw_404 : Cond.selects RX7 yX7_person yX7_person ∈ xB := xB_in (xtb_5 (List.mem_of_getElem? (i := 225) rfl)) rfl
theorem mw_405 : Cond.code yX7_person cX7_person 2 (some .int) ∈ xB := xB_in (xtb_5 (List.mem_of_getElem? (i := 226) rfl)) rfl
theorem mw_406 : Cond.fieldLink RX7 59 "AnsweredByTheDrownedModel" "people" "I" ∈ xB := xB_in (xtb_5 (List.mem_of_getElem? (i := 58) rfl)) rfl
theorem mw_407 : Cond.methodLink RX7 108 yX7_newOne ∈ xB := xB_in (xtb_5 (List.mem_of_getElem? (i := 227) rfl)) rfl
theorem mw_408 : Cond.instanceMethod yX7_newOne ∈ xB := xB_in (xtb_5 (List.mem_of_getElem? (i := 229) rfl)) rfl
theorem mw_409 : Cond.selects RX7 yX7_newOne yX7_newOne ∈ xB := xB_in (xpv_2 (List.mem_of_getElem? (i := 14) rfl)) rfl
theorem mw_410 : Cond.code yX7_newOne cX7_newOne 2 (some .int) ∈ xB := xB_in (xtb_5 (List.mem_of_getElem? (i := 230) rfl)) rfl
theorem mw_411 : Cond.methodLink RL 65 yX6_feed ∈ xB := xB_in (xtb_2 (List.mem_of_getElem? (i := 169) rfl)) rfl
theorem mw_412 : Cond.instanceMethod yX6_feed ∈ xB := xB_in (xtb_2 (List.mem_of_getElem? (i := 170) rfl)) rfl
theorem mw_413 : Cond.selects RX6 yX6_feed yX6_feed ∈ xB := xB_in (xtb_2 (List.mem_of_getElem? (i := 171) rfl)) rfl
theorem mw_414 : Cond.code yX6_feed cX6_feed 2 (some .int) ∈ xB := xB_in (xtb_2 (List.mem_of_getElem? (i := 172) rfl)) rfl
theorem mw_415 : Cond.methodLink RX6 158 yX5_hasRoom ∈ xB := xB_in (xtb_2 (List.mem_of_getElem? (i := 173) rfl)) rfl
theorem mw_416 : Cond.instanceMethod yX5_hasRoom ∈ xB := xB_in (xtb_2 (List.mem_of_getElem? (i := 174) rfl)) rfl
theorem mw_417 : Cond.selects RX5 yX5_hasRoom yX5_hasRoom ∈ xB := xB_in (xtb_2 (List.mem_of_getElem? (i := 175) rfl)) rfl
theorem mw_418 : Cond.code yX5_hasRoom cX5_hasRoom 1 (some .boolean) ∈ xB := xB_in (xtb_2 (List.mem_of_getElem? (i := 176) rfl)) rfl
theorem mw_419 : Cond.fieldLink RX5 15 "AnsweredByTheDrowned$Tape" "size" "I" ∈ xB := xB_in (xtb_1 (List.mem_of_getElem? (i := 120) rfl)) rfl
theorem mw_420 : Cond.methodLink RX6 161 yX5_add ∈ xB := xB_in (xtb_2 (List.mem_of_getElem? (i := 177) rfl)) rfl
theorem mw_421 : Cond.instanceMethod yX5_add ∈ xB := xB_in (xtb_2 (List.mem_of_getElem? (i := 178) rfl)) rfl
theorem mw_422 : Cond.selects RX5 yX5_add yX5_add ∈ xB := xB_in (xtb_2 (List.mem_of_getElem? (i := 179) rfl)) rfl
theorem mw_423 : Cond.code yX5_add cX5_add 2 (some .int) ∈ xB := xB_in (xtb_2 (List.mem_of_getElem? (i := 180) rfl)) rfl
theorem mw_424 : Cond.methodLink RL 68 yX7_feed ∈ xB := xB_in (xtb_5 (List.mem_of_getElem? (i := 231) rfl)) rfl
theorem mw_425 : Cond.instanceMethod yX7_feed ∈ xB := xB_in (xtb_5 (List.mem_of_getElem? (i := 232) rfl)) rfl
theorem mw_426 : Cond.selects RX7 yX7_feed yX7_feed ∈ xB := xB_in (xtb_5 (List.mem_of_getElem? (i := 233) rfl)) rfl
theorem mw_427 : Cond.code yX7_feed cX7_feed 2 (some .int) ∈ xB := xB_in (xtb_5 (List.mem_of_getElem? (i := 234) rfl)) rfl
theorem mw_428 : Cond.fieldLink RX7 111 "AnsweredByTheDrownedModel" "taped" "I" ∈ xB := xB_in (xtb_5 (List.mem_of_getElem? (i := 61) rfl)) rfl
theorem mw_429 : Cond.methodLink RL 69 yX6_wipe ∈ xB := xB_in (xtb_2 (List.mem_of_getElem? (i := 181) rfl)) rfl
theorem mw_430 : Cond.instanceMethod yX6_wipe ∈ xB := xB_in (xtb_2 (List.mem_of_getElem? (i := 182) rfl)) rfl
theorem mw_431 : Cond.selects RX6 yX6_wipe yX6_wipe ∈ xB := xB_in (xtb_2 (List.mem_of_getElem? (i := 183) rfl)) rfl
theorem mw_432 : Cond.code yX6_wipe cX6_wipe 2 (some .int) ∈ xB := xB_in (xtb_2 (List.mem_of_getElem? (i := 184) rfl)) rfl
theorem mw_433 : Cond.methodLink RL 73 yX7_wipe ∈ xB := xB_in (xtb_5 (List.mem_of_getElem? (i := 235) rfl)) rfl
theorem mw_434 : Cond.instanceMethod yX7_wipe ∈ xB := xB_in (xtb_5 (List.mem_of_getElem? (i := 236) rfl)) rfl
theorem mw_435 : Cond.selects RX7 yX7_wipe yX7_wipe ∈ xB := xB_in (xtb_5 (List.mem_of_getElem? (i := 237) rfl)) rfl
theorem mw_436 : Cond.code yX7_wipe cX7_wipe 2 (some .int) ∈ xB := xB_in (xtb_5 (List.mem_of_getElem? (i := 238) rfl)) rfl
theorem mw_437 : Cond.methodLink RL 74 yX6_lake ∈ xB := xB_in (xtb_2 (List.mem_of_getElem? (i := 185) rfl)) rfl
theorem mw_438 : Cond.instanceMethod yX6_lake ∈ xB := xB_in (xtb_2 (List.mem_of_getElem? (i := 186) rfl)) rfl
theorem mw_439 : Cond.selects RX6 yX6_lake yX6_lake ∈ xB := xB_in (xtb_2 (List.mem_of_getElem? (i := 187) rfl)) rfl
theorem mw_440 : Cond.code yX6_lake cX6_lake 2 (some .int) ∈ xB := xB_in (xtb_2 (List.mem_of_getElem? (i := 188) rfl)) rfl
theorem mw_441 : Cond.methodLink RX6 168 yX0_takeFrom ∈ xB := xB_in (xtb_2 (List.mem_of_getElem? (i := 189) rfl)) rfl
theorem mw_442 : Cond.instanceMethod yX0_takeFrom ∈ xB := xB_in (xtb_2 (List.mem_of_getElem? (i := 190) rfl)) rfl
theorem mw_443 : Cond.selects RX0 yX0_takeFrom yX0_takeFrom ∈ xB := xB_in (xtb_2 (List.mem_of_getElem? (i := 191) rfl)) rfl
theorem mw_444 : Cond.code yX0_takeFrom cX0_takeFrom 2 none ∈ xB := xB_in (xtb_2 (List.mem_of_getElem? (i := 192) rfl)) rfl
theorem mw_445 : Cond.fieldLink RX0 39 "AnsweredByTheDrowned$Lake" "inForce" "I" ∈ xB := xB_in (xtb_1 (List.mem_of_getElem? (i := 74) rfl)) rfl
theorem mw_446 : Cond.fieldLink RX0 42 "AnsweredByTheDrowned$Lake" "miss" "I" ∈ xB := xB_in (xtb_1 (List.mem_of_getElem? (i := 80) rfl)) rfl
theorem mw_447 : Cond.fieldLink RX0 45 "AnsweredByTheDrowned$Lake" "ring" "J" ∈ xB := xB_in (xtb_1 (List.mem_of_getElem? (i := 83) rfl)) rfl
theorem mw_448 : Cond.methodLink RX0 32 yX2_takeFrom ∈ xB := xB_in (xtb_2 (List.mem_of_getElem? (i := 193) rfl)) rfl
theorem mw_449 : Cond.instanceMethod yX2_takeFrom ∈ xB := xB_in (xtb_2 (List.mem_of_getElem? (i := 194) rfl)) rfl
theorem mw_450 : Cond.selects RX2 yX2_takeFrom yX2_takeFrom ∈ xB := xB_in (xtb_2 (List.mem_of_getElem? (i := 195) rfl)) rfl
theorem mw_451 : Cond.code yX2_takeFrom cX2_takeFrom 3 none ∈ xB := xB_in (xtb_2 (List.mem_of_getElem? (i := 196) rfl)) rfl
theorem mw_452 : Cond.methodLink RX0 36 yX3_takeFrom ∈ xB := xB_in (xtb_2 (List.mem_of_getElem? (i := 197) rfl)) rfl
theorem mw_453 : Cond.instanceMethod yX3_takeFrom ∈ xB := xB_in (xtb_2 (List.mem_of_getElem? (i := 198) rfl)) rfl
theorem mw_454 : Cond.selects RX3 yX3_takeFrom yX3_takeFrom ∈ xB := xB_in (xtb_2 (List.mem_of_getElem? (i := 199) rfl)) rfl
theorem mw_455 : Cond.code yX3_takeFrom cX3_takeFrom 3 none ∈ xB := xB_in (xtb_2 (List.mem_of_getElem? (i := 200) rfl)) rfl
theorem mw_456 : Cond.methodLink RX3 23 yX3_ageOf ∈ xB := xB_in (xtb_2 (List.mem_of_getElem? (i := 201) rfl)) rfl
theorem mw_457 : Cond.instanceMethod yX3_ageOf ∈ xB := xB_in (xtb_2 (List.mem_of_getElem? (i := 202) rfl)) rfl
theorem mw_458 : Cond.selects RX3 yX3_ageOf yX3_ageOf ∈ xB := xB_in (xtb_2 (List.mem_of_getElem? (i := 203) rfl)) rfl
theorem mw_459 : Cond.code yX3_ageOf cX3_ageOf 2 (some .int) ∈ xB := xB_in (xtb_2 (List.mem_of_getElem? (i := 204) rfl)) rfl
theorem mw_460 : Cond.methodLink RX6 172 yX1_readLake ∈ xB := xB_in (xtb_2 (List.mem_of_getElem? (i := 206) rfl)) rfl
theorem mw_461 : Cond.instanceMethod yX1_readLake ∈ xB := xB_in (xtb_2 (List.mem_of_getElem? (i := 207) rfl)) rfl
theorem mw_462 : Cond.selects RX1 yX1_readLake yX1_readLake ∈ xB := xB_in (xtb_2 (List.mem_of_getElem? (i := 208) rfl)) rfl
theorem mw_463 : Cond.code yX1_readLake cX1_readLake 2 (some .int) ∈ xB := xB_in (xtb_2 (List.mem_of_getElem? (i := 209) rfl)) rfl
theorem mw_464 : Cond.methodLink RX1 25 yX5_rewind ∈ xB := xB_in (xtb_2 (List.mem_of_getElem? (i := 210) rfl)) rfl
theorem mw_465 : Cond.instanceMethod yX5_rewind ∈ xB := xB_in (xtb_2 (List.mem_of_getElem? (i := 211) rfl)) rfl
theorem mw_466 : Cond.selects RX5 yX5_rewind yX5_rewind ∈ xB := xB_in (xtb_2 (List.mem_of_getElem? (i := 212) rfl)) rfl
theorem mw_467 : Cond.code yX5_rewind cX5_rewind 1 none ∈ xB := xB_in (xtb_2 (List.mem_of_getElem? (i := 213) rfl)) rfl
theorem mw_468 : Cond.fieldLink RX5 19 "AnsweredByTheDrowned$Tape" "tokenEnd" "I" ∈ xB := xB_in (xtb_1 (List.mem_of_getElem? (i := 127) rfl)) rfl
theorem mw_469 : Cond.methodLink RX1 28 yX5_nextToken ∈ xB := xB_in (xtb_2 (List.mem_of_getElem? (i := 214) rfl)) rfl
theorem mw_470 : Cond.instanceMethod yX5_nextToken ∈ xB := xB_in (xtb_2 (List.mem_of_getElem? (i := 215) rfl)) rfl
theorem mw_471 : Cond.selects RX5 yX5_nextToken yX5_nextToken ∈ xB := xB_in (xtb_2 (List.mem_of_getElem? (i := 216) rfl)) rfl
theorem mw_472 : Cond.code yX5_nextToken cX5_nextToken 1 none ∈ xB := xB_in (xtb_2 (List.mem_of_getElem? (i := 217) rfl)) rfl
theorem mw_473 : Cond.fieldLink RX5 22 "AnsweredByTheDrowned$Tape" "tokenStart" "I" ∈ xB := xB_in (xtb_1 (List.mem_of_getElem? (i := 124) rfl)) rfl
theorem mw_474 : Cond.fieldLink RX5 32 "AnsweredByTheDrowned$Tape" "token" "I" ∈ xB := xB_in (xtb_1 (List.mem_of_getElem? (i := 123) rfl)) rfl
theorem mw_475 : Cond.methodLink RX5 35 Lib.Math.min.name ∈ xB := xB_in (xtb_2 (List.mem_of_getElem? (i := 225) rfl)) rfl
theorem mw_476 : Cond.static Lib.Math.min.name ∈ xB := xB_in (xtb_2 (List.mem_of_getElem? (i := 226) rfl)) rfl
theorem mw_477 : Cond.initialized "java/lang/Math" ∈ xB := xB_in (xtb_1 (List.mem_of_getElem? (i := 10) rfl)) rfl
theorem mw_478 : Cond.code Lib.Math.min.name Lib.Math.min.code 2 (some .int) ∈ xB := xB_in (xtb_2 (List.mem_of_getElem? (i := 227) (by decide +kernel))) rfl
theorem mw_479 : Cond.methodLink RX5 25 yX5_byteAt ∈ xB := xB_in (xtb_2 (List.mem_of_getElem? (i := 218) rfl)) rfl
theorem mw_480 : Cond.instanceMethod yX5_byteAt ∈ xB := xB_in (xtb_2 (List.mem_of_getElem? (i := 219) rfl)) rfl
theorem mw_481 : Cond.selects RX5 yX5_byteAt yX5_byteAt ∈ xB := xB_in (xtb_2 (List.mem_of_getElem? (i := 220) rfl)) rfl
theorem mw_482 : Cond.code yX5_byteAt cX5_byteAt 2 (some .int) ∈ xB := xB_in (xtb_2 (List.mem_of_getElem? (i := 221) rfl)) rfl
theorem mw_483 : Cond.methodLink RX5 29 yX5_tokenBegunBy ∈ xB := xB_in (xtb_2 (List.mem_of_getElem? (i := 222) rfl)) rfl
theorem mw_484 : Cond.static yX5_tokenBegunBy ∈ xB := xB_in (xtb_2 (List.mem_of_getElem? (i := 223) rfl)) rfl
theorem mw_485 : Cond.code yX5_tokenBegunBy cX5_tokenBegunBy 1 (some .int) ∈ xB := xB_in (xtb_2 (List.mem_of_getElem? (i := 224) rfl)) rfl
theorem mw_486 : Cond.methodLink RX1 31 yX1_readStatement ∈ xB := xB_in (xtb_2 (List.mem_of_getElem? (i := 228) rfl)) rfl
theorem mw_487 : Cond.instanceMethod yX1_readStatement ∈ xB := xB_in (xtb_2 (List.mem_of_getElem? (i := 230) rfl)) rfl
theorem mw_488 : Cond.selects RX1 yX1_readStatement yX1_readStatement ∈ xB := xB_in (xpv_1 (List.mem_of_getElem? (i := 7) rfl)) rfl
theorem mw_489 : Cond.code yX1_readStatement cX1_readStatement 1 (some .boolean) ∈ xB := xB_in (xtb_2 (List.mem_of_getElem? (i := 231) rfl)) rfl
theorem mw_490 : Cond.methodLink RX1 41 yX5_isWord ∈ xB := xB_in (xtb_2 (List.mem_of_getElem? (i := 233) rfl)) rfl
theorem mw_491 : Cond.instanceMethod yX5_isWord ∈ xB := xB_in (xtb_2 (List.mem_of_getElem? (i := 234) rfl)) rfl
theorem mw_492 : Cond.selects RX5 yX5_isWord yX5_isWord ∈ xB := xB_in (xtb_2 (List.mem_of_getElem? (i := 235) rfl)) rfl
theorem mw_493 : Cond.code yX5_isWord cX5_isWord 3 (some .boolean) ∈ xB := xB_in (xtb_2 (List.mem_of_getElem? (i := 236) rfl)) rfl
theorem mw_494 : Cond.methodLink RX5 41 yX5_tokenLength ∈ xB := xB_in (xtb_2 (List.mem_of_getElem? (i := 237) rfl)) rfl
theorem mw_495 : Cond.instanceMethod yX5_tokenLength ∈ xB := xB_in (xtb_2 (List.mem_of_getElem? (i := 238) rfl)) rfl
theorem mw_496 : Cond.selects RX5 yX5_tokenLength yX5_tokenLength ∈ xB := xB_in (xtb_2 (List.mem_of_getElem? (i := 239) rfl)) rfl
theorem mw_497 : Cond.code yX5_tokenLength cX5_tokenLength 1 (some .int) ∈ xB := xB_in (xtb_3 (List.mem_of_getElem? (i := 0) rfl)) rfl
theorem mw_498 : Cond.methodLink RX5 45 yJ0_length_8abf5 ∈ xB := xB_in (xtb_3 (List.mem_of_getElem? (i := 1) rfl)) rfl
theorem mw_499 : Cond.instanceMethod yJ0_length_8abf5 ∈ xB := xB_in (xtb_3 (List.mem_of_getElem? (i := 2) rfl)) rfl
theorem mw_500 : Cond.selects RJ0 yJ0_length_8abf5 yJ0_length_8abf5 ∈ xB := xB_in (xtb_3 (List.mem_of_getElem? (i := 3) rfl)) rfl
theorem mw_501 : Cond.initialized RJ0 ∈ xB := xB_in (xtb_1 (List.mem_of_getElem? (i := 11) rfl)) rfl
theorem mw_502 : Cond.code yJ0_length_8abf5 cJ0_length_8abf5 1 (some .int) ∈ xB := xB_in (xtb_3 (List.mem_of_getElem? (i := 4) rfl)) rfl
theorem mw_503 : Cond.fieldLink RJ0 9 "java/lang/String" "value" "[B" ∈ xB := xB_in (xtb_7 (List.mem_of_getElem? (i := 148) rfl)) rfl
theorem mw_504 : Cond.methodLink RJ0 335 yJ0_coder_7d493 ∈ xB := xB_in (xtb_3 (List.mem_of_getElem? (i := 5) rfl)) rfl
theorem mw_505 : Cond.instanceMethod yJ0_coder_7d493 ∈ xB := xB_in (xtb_3 (List.mem_of_getElem? (i := 6) rfl)) rfl
theorem mw_506 : Cond.selects RJ0 yJ0_coder_7d493 yJ0_coder_7d493 ∈ xB := xB_in (xtb_3 (List.mem_of_getElem? (i := 7) rfl)) rfl
theorem mw_507 : Cond.code yJ0_coder_7d493 cJ0_coder_7d493 1 (some .byte) ∈ xB := xB_in (xtb_3 (List.mem_of_getElem? (i := 8) rfl)) rfl
theorem mw_508 : Cond.fieldLink RJ0 38 "java/lang/String" "COMPACT_STRINGS" "Z" ∈ xB := xB_in (xtb_3 (List.mem_of_getElem? (i := 9) rfl)) rfl
theorem mw_509 : Cond.fieldLink RJ0 15 "java/lang/String" "coder" "B" ∈ xB := xB_in (xtb_7 (List.mem_of_getElem? (i := 149) rfl)) rfl
theorem mw_510 : Cond.methodLink RX5 50 yJ0_charAt_5068e ∈ xB := xB_in (xtb_3 (List.mem_of_getElem? (i := 11) rfl)) rfl
theorem mw_511 : Cond.instanceMethod yJ0_charAt_5068e ∈ xB := xB_in (xtb_3 (List.mem_of_getElem? (i := 12) rfl)) rfl
theorem mw_512 : Cond.selects RJ0 yJ0_charAt_5068e yJ0_charAt_5068e ∈ xB := xB_in (xtb_3 (List.mem_of_getElem? (i := 13) rfl)) rfl
theorem mw_513 : Cond.code yJ0_charAt_5068e cJ0_charAt_5068e 2 (some .char) ∈ xB := xB_in (xtb_3 (List.mem_of_getElem? (i := 14) rfl)) rfl
theorem mw_514 : Cond.methodLink RJ0 492 yJ0_isLatin1_aae02 ∈ xB := xB_in (xtb_3 (List.mem_of_getElem? (i := 15) rfl)) rfl
theorem mw_515 : Cond.instanceMethod yJ0_isLatin1_aae02 ∈ xB := xB_in (xtb_3 (List.mem_of_getElem? (i := 16) rfl)) rfl
theorem mw_516 : Cond.selects RJ0 yJ0_isLatin1_aae02 yJ0_isLatin1_aae02 ∈ xB := xB_in (xtb_3 (List.mem_of_getElem? (i := 17) rfl)) rfl
theorem mw_517 : Cond.code yJ0_isLatin1_aae02 cJ0_isLatin1_aae02 1 (some .boolean) ∈ xB := xB_in (xtb_3 (List.mem_of_getElem? (i := 18) rfl)) rfl
theorem mw_518 : Cond.methodLink RJ0 495 yJ1_charAt_3b067 ∈ xB := xB_in (xtb_3 (List.mem_of_getElem? (i := 19) rfl)) rfl
theorem mw_519 : Cond.static yJ1_charAt_3b067 ∈ xB := xB_in (xtb_3 (List.mem_of_getElem? (i := 20) rfl)) rfl
theorem mw_520 : Cond.initialized RJ1 ∈ xB := xB_in (xtb_1 (List.mem_of_getElem? (i := 12) rfl)) rfl
theorem mw_521 : Cond.code yJ1_charAt_3b067 cJ1_charAt_3b067 2 (some .char) ∈ xB := xB_in (xtb_3 (List.mem_of_getElem? (i := 21) rfl)) rfl
theorem mw_522 : Cond.methodLink RJ1 9 yJ0_checkIndex_df160 ∈ xB := xB_in (xtb_3 (List.mem_of_getElem? (i := 22) rfl)) rfl
theorem mw_523 : Cond.static yJ0_checkIndex_df160 ∈ xB := xB_in (xtb_3 (List.mem_of_getElem? (i := 23) rfl)) rfl
theorem mw_524 : Cond.code yJ0_checkIndex_df160 cJ0_checkIndex_df160 2 none ∈ xB := xB_in (xtb_3 (List.mem_of_getElem? (i := 24) rfl)) rfl
theorem mw_525 : Cond.fieldLink RJ0 1053 "jdk/internal/util/Preconditions" "SIOOBE_FORMATTER" "Ljava/util/function/BiFunction;" ∈ xB := xB_in (xtb_3 (List.mem_of_getElem? (i := 25) rfl)) rfl
theorem mw_526 : Cond.methodLink RJ0 1059 yJ3_checkIndex_8e157 ∈ xB := xB_in (xtb_3 (List.mem_of_getElem? (i := 27) rfl)) rfl
theorem mw_527 : Cond.static yJ3_checkIndex_8e157 ∈ xB := xB_in (xtb_3 (List.mem_of_getElem? (i := 28) rfl)) rfl
theorem mw_528 : Cond.initialized RJ3 ∈ xB := xB_in (xtb_1 (List.mem_of_getElem? (i := 13) rfl)) rfl
theorem mw_529 : Cond.code yJ3_checkIndex_8e157 cJ3_checkIndex_8e157 3 (some .int) ∈ xB := xB_in (xtb_3 (List.mem_of_getElem? (i := 29) rfl)) rfl
theorem mw_530 : Cond.methodLink RJ0 498 yJ2_charAt_3b067 ∈ xB := xB_in (xtb_3 (List.mem_of_getElem? (i := 30) rfl)) rfl
theorem mw_531 : Cond.static yJ2_charAt_3b067 ∈ xB := xB_in (xtb_3 (List.mem_of_getElem? (i := 31) rfl)) rfl
theorem mw_532 : Cond.initialized RJ2 ∈ xB := xB_in (xtb_1 (List.mem_of_getElem? (i := 14) rfl)) rfl
theorem mw_533 : Cond.code yJ2_charAt_3b067 cJ2_charAt_3b067 2 (some .char) ∈ xB := xB_in (xtb_3 (List.mem_of_getElem? (i := 32) rfl)) rfl
theorem mw_534 : Cond.methodLink RJ2 67 yJ2_checkIndex_2214a ∈ xB := xB_in (xtb_3 (List.mem_of_getElem? (i := 33) rfl)) rfl
theorem mw_535 : Cond.static yJ2_checkIndex_2214a ∈ xB := xB_in (xtb_3 (List.mem_of_getElem? (i := 34) rfl)) rfl
theorem mw_536 : Cond.code yJ2_checkIndex_2214a cJ2_checkIndex_2214a 2 none ∈ xB := xB_in (xtb_3 (List.mem_of_getElem? (i := 35) rfl)) rfl
theorem mw_537 : Cond.methodLink RJ2 48 yJ2_length_9d52b ∈ xB := xB_in (xtb_3 (List.mem_of_getElem? (i := 36) rfl)) rfl
theorem mw_538 : Cond.static yJ2_length_9d52b ∈ xB := xB_in (xtb_3 (List.mem_of_getElem? (i := 37) rfl)) rfl
theorem mw_539 : Cond.code yJ2_length_9d52b cJ2_length_9d52b 1 (some .int) ∈ xB := xB_in (xtb_3 (List.mem_of_getElem? (i := 38) rfl)) rfl
theorem mw_540 : Cond.methodLink RJ2 414 yJ0_checkIndex_df160 ∈ xB := xB_in (xtb_3 (List.mem_of_getElem? (i := 39) rfl)) rfl
theorem mw_541 : Cond.methodLink RJ2 71 yJ2_getChar_3b067 ∈ xB := xB_in (xtb_3 (List.mem_of_getElem? (i := 40) rfl)) rfl
theorem mw_542 : Cond.static yJ2_getChar_3b067 ∈ xB := xB_in (xtb_3 (List.mem_of_getElem? (i := 41) rfl)) rfl
theorem mw_543 : Cond.code yJ2_getChar_3b067 cJ2_getChar_3b067 2 (some .char) ∈ xB := xB_in (xtb_3 (List.mem_of_getElem? (i := 42) rfl)) rfl
theorem mw_544 : Cond.fieldLink RJ2 44 "java/lang/StringUTF16" "$assertionsDisabled" "Z" ∈ xB := xB_in (xtb_3 (List.mem_of_getElem? (i := 43) rfl)) rfl
theorem mw_545 : Cond.fieldLink RJ2 59 "java/lang/StringUTF16" "HI_BYTE_SHIFT" "I" ∈ xB := xB_in (xtb_3 (List.mem_of_getElem? (i := 45) rfl)) rfl
theorem mw_546 : Cond.fieldLink RJ2 63 "java/lang/StringUTF16" "LO_BYTE_SHIFT" "I" ∈ xB := xB_in (xtb_3 (List.mem_of_getElem? (i := 47) rfl)) rfl
theorem mw_547 : Cond.methodLink RX1 45 yX1_readLaw ∈ xB := xB_in (xtb_3 (List.mem_of_getElem? (i := 49) rfl)) rfl
theorem mw_548 : Cond.instanceMethod yX1_readLaw ∈ xB := xB_in (xtb_3 (List.mem_of_getElem? (i := 51) rfl)) rfl
theorem mw_549 : Cond.selects RX1 yX1_readLaw yX1_readLaw ∈ xB := xB_in (xpv_1 (List.mem_of_getElem? (i := 8) rfl)) rfl
theorem mw_550 : Cond.code yX1_readLaw cX1_readLaw 2 (some .boolean) ∈ xB := xB_in (xtb_3 (List.mem_of_getElem? (i := 52) rfl)) rfl
theorem mw_551 : Cond.fieldLink RX1 91 "AnsweredByTheDrowned$LakeReader" "number" "I" ∈ xB := xB_in (xtb_1 (List.mem_of_getElem? (i := 146) rfl)) rfl
theorem mw_552 : Cond.methodLink RX1 82 yX2_hasRoom ∈ xB := xB_in (xtb_3 (List.mem_of_getElem? (i := 53) rfl)) rfl
theorem mw_553 : Cond.methodLink RX1 87 yX1_readNumber ∈ xB := xB_in (xtb_3 (List.mem_of_getElem? (i := 54) rfl)) rfl
theorem mw_554 : Cond.instanceMethod yX1_readNumber ∈ xB := xB_in (xtb_3 (List.mem_of_getElem? (i := 56) rfl)) rfl
theorem mw_555 : Cond.selects RX1 yX1_readNumber yX1_readNumber ∈ xB := xB_in (xpv_1 (List.mem_of_getElem? (i := 9) rfl)) rfl
theorem mw_556 : Cond.code yX1_readNumber cX1_readNumber 4 (some .boolean) ∈ xB := xB_in (xtb_3 (List.mem_of_getElem? (i := 57) rfl)) rfl
theorem mw_557 : Cond.methodLink RX1 119 yX5_tokenLength ∈ xB := xB_in (xtb_3 (List.mem_of_getElem? (i := 58) rfl)) rfl
theorem mw_558 : Cond.methodLink RX1 132 yX5_byteAt ∈ xB := xB_in (xtb_3 (List.mem_of_getElem? (i := 59) rfl)) rfl
theorem mw_559 : Cond.methodLink RX1 94 yX2_add ∈ xB := xB_in (xtb_3 (List.mem_of_getElem? (i := 61) rfl)) rfl
theorem mw_560 : Cond.methodLink RX1 50 yX1_readUse ∈ xB := xB_in (xtb_3 (List.mem_of_getElem? (i := 63) rfl)) rfl
theorem mw_561 : Cond.instanceMethod yX1_readUse ∈ xB := xB_in (xtb_3 (List.mem_of_getElem? (i := 65) rfl)) rfl
theorem mw_562 : Cond.selects RX1 yX1_readUse yX1_readUse ∈ xB := xB_in (xpv_1 (List.mem_of_getElem? (i := 10) rfl)) rfl
theorem mw_563 : Cond.code yX1_readUse cX1_readUse 1 (some .boolean) ∈ xB := xB_in (xtb_3 (List.mem_of_getElem? (i := 66) rfl)) rfl
theorem mw_564 : Cond.methodLink RX1 55 yX1_readDepth ∈ xB := xB_in (xtb_3 (List.mem_of_getElem? (i := 68) rfl)) rfl
theorem mw_565 : Cond.instanceMethod yX1_readDepth ∈ xB := xB_in (xtb_3 (List.mem_of_getElem? (i := 70) rfl)) rfl
theorem mw_566 : Cond.selects RX1 yX1_readDepth yX1_readDepth ∈ xB := xB_in (xpv_1 (List.mem_of_getElem? (i := 11) rfl)) rfl
theorem mw_567 : Cond.code yX1_readDepth cX1_readDepth 1 (some .boolean) ∈ xB := xB_in (xtb_3 (List.mem_of_getElem? (i := 71) rfl)) rfl
theorem mw_568 : Cond.methodLink RX1 60 yX1_readMiss ∈ xB := xB_in (xtb_3 (List.mem_of_getElem? (i := 73) rfl)) rfl
theorem mw_569 : Cond.instanceMethod yX1_readMiss ∈ xB := xB_in (xtb_3 (List.mem_of_getElem? (i := 75) rfl)) rfl
theorem mw_570 : Cond.selects RX1 yX1_readMiss yX1_readMiss ∈ xB := xB_in (xpv_1 (List.mem_of_getElem? (i := 12) rfl)) rfl
theorem mw_571 : Cond.code yX1_readMiss cX1_readMiss 1 (some .boolean) ∈ xB := xB_in (xtb_3 (List.mem_of_getElem? (i := 76) rfl)) rfl
theorem mw_572 : Cond.methodLink RX1 65 yX1_readSteps ∈ xB := xB_in (xtb_3 (List.mem_of_getElem? (i := 78) rfl)) rfl
theorem mw_573 : Cond.instanceMethod yX1_readSteps ∈ xB := xB_in (xtb_3 (List.mem_of_getElem? (i := 80) rfl)) rfl
theorem mw_574 : Cond.selects RX1 yX1_readSteps yX1_readSteps ∈ xB := xB_in (xpv_1 (List.mem_of_getElem? (i := 13) rfl)) rfl
theorem mw_575 : Cond.code yX1_readSteps cX1_readSteps 3 (some .boolean) ∈ xB := xB_in (xtb_3 (List.mem_of_getElem? (i := 81) rfl)) rfl
theorem mw_576 : Cond.methodLink RX1 118 yX0_hasRoom ∈ xB := xB_in (xtb_3 (List.mem_of_getElem? (i := 82) rfl)) rfl
theorem mw_577 : Cond.instanceMethod yX0_hasRoom ∈ xB := xB_in (xtb_3 (List.mem_of_getElem? (i := 83) rfl)) rfl
theorem mw_578 : Cond.selects RX0 yX0_hasRoom yX0_hasRoom ∈ xB := xB_in (xtb_3 (List.mem_of_getElem? (i := 84) rfl)) rfl
theorem mw_579 : Cond.code yX0_hasRoom cX0_hasRoom 1 (some .boolean) ∈ xB := xB_in (xtb_3 (List.mem_of_getElem? (i := 85) rfl)) rfl
theorem mw_580 : Cond.methodLink RX1 135 yX0_addStep ∈ xB := xB_in (xtb_3 (List.mem_of_getElem? (i := 86) rfl)) rfl
theorem mw_581 : Cond.instanceMethod yX0_addStep ∈ xB := xB_in (xtb_3 (List.mem_of_getElem? (i := 87) rfl)) rfl
theorem mw_582 : Cond.selects RX0 yX0_addStep yX0_addStep ∈ xB := xB_in (xtb_3 (List.mem_of_getElem? (i := 88) rfl)) rfl
theorem mw_583 : Cond.code yX0_addStep cX0_addStep 2 none ∈ xB := xB_in (xtb_3 (List.mem_of_getElem? (i := 89) rfl)) rfl
theorem mw_584 : Cond.methodLink RX0 52 yX0_hasRoom ∈ xB := xB_in (xtb_3 (List.mem_of_getElem? (i := 90) rfl)) rfl
theorem mw_585 : Cond.methodLink RX1 70 yX1_readPerson ∈ xB := xB_in (xtb_3 (List.mem_of_getElem? (i := 92) rfl)) rfl
theorem mw_586 : Cond.instanceMethod yX1_readPerson ∈ xB := xB_in (xtb_3 (List.mem_of_getElem? (i := 94) rfl)) rfl
theorem mw_587 : Cond.selects RX1 yX1_readPerson yX1_readPerson ∈ xB := xB_in (xpv_1 (List.mem_of_getElem? (i := 14) rfl)) rfl
theorem mw_588 : Cond.code yX1_readPerson cX1_readPerson 1 (some .boolean) ∈ xB := xB_in (xtb_3 (List.mem_of_getElem? (i := 95) rfl)) rfl
theorem mw_589 : Cond.methodLink RX1 112 yX3_hasRoom ∈ xB := xB_in (xtb_3 (List.mem_of_getElem? (i := 96) rfl)) rfl
theorem mw_590 : Cond.methodLink RX1 115 yX3_add ∈ xB := xB_in (xtb_3 (List.mem_of_getElem? (i := 97) rfl)) rfl
theorem mw_591 : Cond.methodLink RX1 75 yX0_clearRing ∈ xB := xB_in (xtb_3 (List.mem_of_getElem? (i := 99) rfl)) rfl
theorem mw_592 : Cond.instanceMethod yX0_clearRing ∈ xB := xB_in (xtb_3 (List.mem_of_getElem? (i := 100) rfl)) rfl
theorem mw_593 : Cond.selects RX0 yX0_clearRing yX0_clearRing ∈ xB := xB_in (xtb_3 (List.mem_of_getElem? (i := 101) rfl)) rfl
theorem mw_594 : Cond.code yX0_clearRing cX0_clearRing 1 none ∈ xB := xB_in (xtb_3 (List.mem_of_getElem? (i := 102) rfl)) rfl
theorem mw_595 : Cond.methodLink RL 77 yX7_lake ∈ xB := xB_in (xtb_5 (List.mem_of_getElem? (i := 239) rfl)) rfl
theorem mw_596 : Cond.instanceMethod yX7_lake ∈ xB := xB_in (xtb_6 (List.mem_of_getElem? (i := 0) rfl)) rfl
theorem mw_597 : Cond.selects RX7 yX7_lake yX7_lake ∈ xB := xB_in (xtb_6 (List.mem_of_getElem? (i := 1) rfl)) rfl
theorem mw_598 : Cond.code yX7_lake cX7_lake 3 (some .int) ∈ xB := xB_in (xtb_6 (List.mem_of_getElem? (i := 2) rfl)) rfl
theorem mw_599 : Cond.fieldLink RX7 175 "AnsweredByTheDrownedModel" "aheadRing" "J" ∈ xB := xB_in (xtb_5 (List.mem_of_getElem? (i := 75) rfl)) rfl
theorem mw_600 : Cond.fieldLink RX7 114 "AnsweredByTheDrownedModel" "to" "I" ∈ xB := xB_in (xtb_5 (List.mem_of_getElem? (i := 64) rfl)) rfl
theorem mw_601 : Cond.fieldLink RX7 120 "AnsweredByTheDrownedModel" "token" "I" ∈ xB := xB_in (xtb_5 (List.mem_of_getElem? (i := 65) rfl)) rfl
theorem mw_602 : Cond.fieldLink RX7 117 "AnsweredByTheDrownedModel" "from" "I" ∈ xB := xB_in (xtb_5 (List.mem_of_getElem? (i := 63) rfl)) rfl
theorem mw_603 : Cond.methodLink RX7 171 yX7_keep ∈ xB := xB_in (xtb_6 (List.mem_of_getElem? (i := 3) rfl)) rfl
theorem mw_604 : Cond.instanceMethod yX7_keep ∈ xB := xB_in (xtb_6 (List.mem_of_getElem? (i := 5) rfl)) rfl
theorem mw_605 : Cond.selects RX7 yX7_keep yX7_keep ∈ xB := xB_in (xpv_2 (List.mem_of_getElem? (i := 15) rfl)) rfl
theorem mw_606 : Cond.code yX7_keep cX7_keep 3 none ∈ xB := xB_in (xtb_6 (List.mem_of_getElem? (i := 6) rfl)) rfl
theorem mw_607 : Cond.methodLink RX7 142 yX7_next ∈ xB := xB_in (xtb_6 (List.mem_of_getElem? (i := 7) rfl)) rfl
theorem mw_608 : Cond.instanceMethod yX7_next ∈ xB := xB_in (xtb_6 (List.mem_of_getElem? (i := 9) rfl)) rfl
theorem mw_609 : Cond.selects RX7 yX7_next yX7_next ∈ xB := xB_in (xpv_3 (List.mem_of_getElem? (i := 0) rfl)) rfl
theorem mw_610 : Cond.code yX7_next cX7_next 2 none ∈ xB := xB_in (xtb_6 (List.mem_of_getElem? (i := 10) rfl)) rfl
theorem mw_611 : Cond.fieldLink RX7 129 "AnsweredByTheDrownedModel" "value" "I" ∈ xB := xB_in (xtb_5 (List.mem_of_getElem? (i := 66) rfl)) rfl
theorem mw_612 : Cond.methodLink RX7 123 yX7_isLetter ∈ xB := xB_in (xtb_6 (List.mem_of_getElem? (i := 11) rfl)) rfl
theorem mw_613 : Cond.static yX7_isLetter ∈ xB := xB_in (xtb_6 (List.mem_of_getElem? (i := 12) rfl)) rfl
theorem mw_614 : Cond.code yX7_isLetter cX7_isLetter 1 (some .boolean) ∈ xB := xB_in (xtb_6 (List.mem_of_getElem? (i := 13) rfl)) rfl
theorem mw_615 : Cond.methodLink RX7 126 yX7_isDigit ∈ xB := xB_in (xtb_6 (List.mem_of_getElem? (i := 14) rfl)) rfl
theorem mw_616 : Cond.static yX7_isDigit ∈ xB := xB_in (xtb_6 (List.mem_of_getElem? (i := 15) rfl)) rfl
theorem mw_617 : Cond.code yX7_isDigit cX7_isDigit 1 (some .boolean) ∈ xB := xB_in (xtb_6 (List.mem_of_getElem? (i := 16) rfl)) rfl
theorem mw_618 : Cond.methodLink RX7 178 yX7_statement ∈ xB := xB_in (xtb_6 (List.mem_of_getElem? (i := 17) rfl)) rfl
theorem mw_619 : Cond.instanceMethod yX7_statement ∈ xB := xB_in (xtb_6 (List.mem_of_getElem? (i := 19) rfl)) rfl
theorem mw_620 : Cond.selects RX7 yX7_statement yX7_statement ∈ xB := xB_in (xpv_3 (List.mem_of_getElem? (i := 1) rfl)) rfl
theorem mw_621 : Cond.code yX7_statement cX7_statement 3 (some .boolean) ∈ xB := xB_in (xtb_6 (List.mem_of_getElem? (i := 20) rfl)) rfl
theorem mw_622 : Cond.methodLink RX7 147 yX7_isWord ∈ xB := xB_in (xtb_6 (List.mem_of_getElem? (i := 22) rfl)) rfl
theorem mw_623 : Cond.instanceMethod yX7_isWord ∈ xB := xB_in (xtb_6 (List.mem_of_getElem? (i := 24) rfl)) rfl
theorem mw_624 : Cond.selects RX7 yX7_isWord yX7_isWord ∈ xB := xB_in (xpv_3 (List.mem_of_getElem? (i := 2) rfl)) rfl
theorem mw_625 : Cond.code yX7_isWord cX7_isWord 3 (some .boolean) ∈ xB := xB_in (xtb_6 (List.mem_of_getElem? (i := 25) rfl)) rfl
theorem mw_626 : Cond.methodLink RX7 132 yJ0_length_8abf5 ∈ xB := xB_in (xtb_6 (List.mem_of_getElem? (i := 26) rfl)) rfl
theorem mw_627 : Cond.methodLink RX7 138 yJ0_charAt_5068e ∈ xB := xB_in (xtb_6 (List.mem_of_getElem? (i := 27) rfl)) rfl
theorem mw_628 : Cond.methodLink RX7 151 yX7_number ∈ xB := xB_in (xtb_6 (List.mem_of_getElem? (i := 28) rfl)) rfl
theorem mw_629 : Cond.instanceMethod yX7_number ∈ xB := xB_in (xtb_6 (List.mem_of_getElem? (i := 30) rfl)) rfl
theorem mw_630 : Cond.selects RX7 yX7_number yX7_number ∈ xB := xB_in (xpv_3 (List.mem_of_getElem? (i := 3) rfl)) rfl
theorem mw_631 : Cond.code yX7_number cX7_number 3 (some .int) ∈ xB := xB_in (xtb_6 (List.mem_of_getElem? (i := 31) rfl)) rfl
theorem mw_632 : Cond.methodLink RX7 159 yX7_isTold ∈ xB := xB_in (xtb_6 (List.mem_of_getElem? (i := 36) rfl)) rfl
theorem mw_633 : Cond.instanceMethod yX7_isTold ∈ xB := xB_in (xtb_6 (List.mem_of_getElem? (i := 38) rfl)) rfl
theorem mw_634 : Cond.selects RX7 yX7_isTold yX7_isTold ∈ xB := xB_in (xpv_3 (List.mem_of_getElem? (i := 4) rfl)) rfl
theorem mw_635 : Cond.code yX7_isTold cX7_isTold 2 (some .boolean) ∈ xB := xB_in (xtb_6 (List.mem_of_getElem? (i := 39) rfl)) rfl
theorem mw_636 : Cond.methodLink RX7 163 yX7_adds ∈ xB := xB_in (xtb_6 (List.mem_of_getElem? (i := 40) rfl)) rfl
theorem mw_637 : Cond.instanceMethod yX7_adds ∈ xB := xB_in (xtb_6 (List.mem_of_getElem? (i := 42) rfl)) rfl
theorem mw_638 : Cond.selects RX7 yX7_adds yX7_adds ∈ xB := xB_in (xpv_3 (List.mem_of_getElem? (i := 5) rfl)) rfl
theorem mw_639 : Cond.code yX7_adds cX7_adds 2 none ∈ xB := xB_in (xtb_6 (List.mem_of_getElem? (i := 43) rfl)) rfl
theorem mw_640 : Cond.methodLink RX7 181 yX7_again ∈ xB := xB_in (xtb_6 (List.mem_of_getElem? (i := 46) rfl)) rfl
theorem mw_641 : Cond.instanceMethod yX7_again ∈ xB := xB_in (xtb_6 (List.mem_of_getElem? (i := 48) rfl)) rfl
theorem mw_642 : Cond.selects RX7 yX7_again yX7_again ∈ xB := xB_in (xpv_3 (List.mem_of_getElem? (i := 6) rfl)) rfl
theorem mw_643 : Cond.code yX7_again cX7_again 3 none ∈ xB := xB_in (xtb_6 (List.mem_of_getElem? (i := 49) rfl)) rfl
theorem mw_644 : Cond.methodLink RL 78 yX6_lawOf ∈ xB := xB_in (xtb_3 (List.mem_of_getElem? (i := 104) rfl)) rfl
theorem mw_645 : Cond.instanceMethod yX6_lawOf ∈ xB := xB_in (xtb_3 (List.mem_of_getElem? (i := 105) rfl)) rfl
theorem mw_646 : Cond.selects RX6 yX6_lawOf yX6_lawOf ∈ xB := xB_in (xtb_3 (List.mem_of_getElem? (i := 106) rfl)) rfl
theorem mw_647 : Cond.code yX6_lawOf cX6_lawOf 3 (some .int) ∈ xB := xB_in (xtb_3 (List.mem_of_getElem? (i := 107) rfl)) rfl
theorem mw_648 : Cond.methodLink RL 81 yX7_lawOf ∈ xB := xB_in (xtb_6 (List.mem_of_getElem? (i := 50) rfl)) rfl
theorem mw_649 : Cond.instanceMethod yX7_lawOf ∈ xB := xB_in (xtb_6 (List.mem_of_getElem? (i := 51) rfl)) rfl
theorem mw_650 : Cond.selects RX7 yX7_lawOf yX7_lawOf ∈ xB := xB_in (xtb_6 (List.mem_of_getElem? (i := 52) rfl)) rfl
theorem mw_651 : Cond.code yX7_lawOf cX7_lawOf 3 (some .int) ∈ xB := xB_in (xtb_6 (List.mem_of_getElem? (i := 53) rfl)) rfl
theorem mw_652 : Cond.methodLink RL 82 yX6_age ∈ xB := xB_in (xtb_3 (List.mem_of_getElem? (i := 108) rfl)) rfl
theorem mw_653 : Cond.instanceMethod yX6_age ∈ xB := xB_in (xtb_3 (List.mem_of_getElem? (i := 109) rfl)) rfl
theorem mw_654 : Cond.selects RX6 yX6_age yX6_age ∈ xB := xB_in (xtb_3 (List.mem_of_getElem? (i := 110) rfl)) rfl
theorem mw_655 : Cond.code yX6_age cX6_age 2 (some .int) ∈ xB := xB_in (xtb_3 (List.mem_of_getElem? (i := 111) rfl)) rfl
theorem mw_656 : Cond.methodLink RX6 179 yX3_isThere ∈ xB := xB_in (xtb_3 (List.mem_of_getElem? (i := 112) rfl)) rfl
theorem mw_657 : Cond.instanceMethod yX3_isThere ∈ xB := xB_in (xtb_3 (List.mem_of_getElem? (i := 113) rfl)) rfl
theorem mw_658 : Cond.selects RX3 yX3_isThere yX3_isThere ∈ xB := xB_in (xtb_3 (List.mem_of_getElem? (i := 114) rfl)) rfl
theorem mw_659 : Cond.code yX3_isThere cX3_isThere 2 (some .boolean) ∈ xB := xB_in (xtb_3 (List.mem_of_getElem? (i := 115) rfl)) rfl
theorem mw_660 : Cond.methodLink RX6 180 yX3_ageOf ∈ xB := xB_in (xtb_3 (List.mem_of_getElem? (i := 117) rfl)) rfl
theorem mw_661 : Cond.methodLink RL 85 yX7_age ∈ xB := xB_in (xtb_6 (List.mem_of_getElem? (i := 54) rfl)) rfl
theorem mw_662 : Cond.instanceMethod yX7_age ∈ xB := xB_in (xtb_6 (List.mem_of_getElem? (i := 55) rfl)) rfl
theorem mw_663 : Cond.selects RX7 yX7_age yX7_age ∈ xB := xB_in (xtb_6 (List.mem_of_getElem? (i := 56) rfl)) rfl
theorem mw_664 : Cond.code yX7_age cX7_age 2 (some .int) ∈ xB := xB_in (xtb_6 (List.mem_of_getElem? (i := 57) rfl)) rfl
theorem mw_665 : Cond.methodLink RX7 184 yX7_isOne ∈ xB := xB_in (xtb_6 (List.mem_of_getElem? (i := 58) rfl)) rfl
theorem mw_666 : Cond.instanceMethod yX7_isOne ∈ xB := xB_in (xtb_6 (List.mem_of_getElem? (i := 60) rfl)) rfl
theorem mw_667 : Cond.selects RX7 yX7_isOne yX7_isOne ∈ xB := xB_in (xpv_3 (List.mem_of_getElem? (i := 7) rfl)) rfl
theorem mw_668 : Cond.code yX7_isOne cX7_isOne 2 (some .boolean) ∈ xB := xB_in (xtb_6 (List.mem_of_getElem? (i := 61) rfl)) rfl
theorem mw_669 : Cond.methodLink RL 86 yX6_step ∈ xB := xB_in (xtb_3 (List.mem_of_getElem? (i := 118) rfl)) rfl
theorem mw_670 : Cond.instanceMethod yX6_step ∈ xB := xB_in (xtb_3 (List.mem_of_getElem? (i := 119) rfl)) rfl
theorem mw_671 : Cond.selects RX6 yX6_step yX6_step ∈ xB := xB_in (xtb_3 (List.mem_of_getElem? (i := 120) rfl)) rfl
theorem mw_672 : Cond.code yX6_step cX6_step 2 (some .int) ∈ xB := xB_in (xtb_3 (List.mem_of_getElem? (i := 121) rfl)) rfl
theorem mw_673 : Cond.methodLink RX6 183 yX6_isStep ∈ xB := xB_in (xtb_3 (List.mem_of_getElem? (i := 122) rfl)) rfl
theorem mw_674 : Cond.instanceMethod yX6_isStep ∈ xB := xB_in (xtb_3 (List.mem_of_getElem? (i := 124) rfl)) rfl
theorem mw_675 : Cond.selects RX6 yX6_isStep yX6_isStep ∈ xB := xB_in (xpv_1 (List.mem_of_getElem? (i := 15) rfl)) rfl
theorem mw_676 : Cond.code yX6_isStep cX6_isStep 2 (some .boolean) ∈ xB := xB_in (xtb_3 (List.mem_of_getElem? (i := 125) rfl)) rfl
theorem mw_677 : Cond.methodLink RX6 186 yX6_isIn ∈ xB := xB_in (xtb_3 (List.mem_of_getElem? (i := 126) rfl)) rfl
theorem mw_678 : Cond.methodLink RX6 190 yX6_asNumber ∈ xB := xB_in (xtb_3 (List.mem_of_getElem? (i := 127) rfl)) rfl
theorem mw_679 : Cond.static yX6_asNumber ∈ xB := xB_in (xtb_3 (List.mem_of_getElem? (i := 128) rfl)) rfl
theorem mw_680 : Cond.code yX6_asNumber cX6_asNumber 1 (some .int) ∈ xB := xB_in (xtb_3 (List.mem_of_getElem? (i := 129) rfl)) rfl
theorem mw_681 : Cond.methodLink RL 89 yX7_step ∈ xB := xB_in (xtb_6 (List.mem_of_getElem? (i := 62) rfl)) rfl
theorem mw_682 : Cond.instanceMethod yX7_step ∈ xB := xB_in (xtb_6 (List.mem_of_getElem? (i := 63) rfl)) rfl
theorem mw_683 : Cond.selects RX7 yX7_step yX7_step ∈ xB := xB_in (xtb_6 (List.mem_of_getElem? (i := 64) rfl)) rfl
theorem mw_684 : Cond.code yX7_step cX7_step 2 (some .int) ∈ xB := xB_in (xtb_6 (List.mem_of_getElem? (i := 65) rfl)) rfl
theorem mw_685 : Cond.methodLink RX7 187 yX7_isStep ∈ xB := xB_in (xtb_6 (List.mem_of_getElem? (i := 66) rfl)) rfl
theorem mw_686 : Cond.instanceMethod yX7_isStep ∈ xB := xB_in (xtb_6 (List.mem_of_getElem? (i := 68) rfl)) rfl
theorem mw_687 : Cond.selects RX7 yX7_isStep yX7_isStep ∈ xB := xB_in (xpv_3 (List.mem_of_getElem? (i := 8) rfl)) rfl
theorem mw_688 : Cond.code yX7_isStep cX7_isStep 2 (some .boolean) ∈ xB := xB_in (xtb_6 (List.mem_of_getElem? (i := 69) rfl)) rfl
theorem mw_689 : Cond.methodLink RL 90 yX6_strikes ∈ xB := xB_in (xtb_3 (List.mem_of_getElem? (i := 130) rfl)) rfl
theorem mw_690 : Cond.instanceMethod yX6_strikes ∈ xB := xB_in (xtb_3 (List.mem_of_getElem? (i := 131) rfl)) rfl
theorem mw_691 : Cond.selects RX6 yX6_strikes yX6_strikes ∈ xB := xB_in (xtb_3 (List.mem_of_getElem? (i := 132) rfl)) rfl
theorem mw_692 : Cond.code yX6_strikes cX6_strikes 2 (some .int) ∈ xB := xB_in (xtb_3 (List.mem_of_getElem? (i := 133) rfl)) rfl
theorem mw_693 : Cond.methodLink RX6 197 yX0_wouldStrike ∈ xB := xB_in (xtb_3 (List.mem_of_getElem? (i := 134) rfl)) rfl
theorem mw_694 : Cond.instanceMethod yX0_wouldStrike ∈ xB := xB_in (xtb_3 (List.mem_of_getElem? (i := 135) rfl)) rfl
theorem mw_695 : Cond.selects RX0 yX0_wouldStrike yX0_wouldStrike ∈ xB := xB_in (xtb_3 (List.mem_of_getElem? (i := 136) rfl)) rfl
theorem mw_696 : Cond.code yX0_wouldStrike cX0_wouldStrike 2 (some .boolean) ∈ xB := xB_in (xtb_3 (List.mem_of_getElem? (i := 137) rfl)) rfl
theorem mw_697 : Cond.methodLink RX0 56 yX2_strikesAt ∈ xB := xB_in (xtb_3 (List.mem_of_getElem? (i := 138) rfl)) rfl
theorem mw_698 : Cond.methodLink RL 93 yX7_strikes ∈ xB := xB_in (xtb_6 (List.mem_of_getElem? (i := 70) rfl)) rfl
theorem mw_699 : Cond.instanceMethod yX7_strikes ∈ xB := xB_in (xtb_6 (List.mem_of_getElem? (i := 71) rfl)) rfl
theorem mw_700 : Cond.selects RX7 yX7_strikes yX7_strikes ∈ xB := xB_in (xtb_6 (List.mem_of_getElem? (i := 72) rfl)) rfl
theorem mw_701 : Cond.code yX7_strikes cX7_strikes 2 (some .int) ∈ xB := xB_in (xtb_6 (List.mem_of_getElem? (i := 73) rfl)) rfl
theorem mw_702 : Cond.methodLink RX7 212 yX7_strikesNow ∈ xB := xB_in (xtb_6 (List.mem_of_getElem? (i := 74) rfl)) rfl
theorem mw_703 : Cond.instanceMethod yX7_strikesNow ∈ xB := xB_in (xtb_6 (List.mem_of_getElem? (i := 76) rfl)) rfl
theorem mw_704 : Cond.selects RX7 yX7_strikesNow yX7_strikesNow ∈ xB := xB_in (xpv_3 (List.mem_of_getElem? (i := 9) rfl)) rfl
theorem mw_705 : Cond.code yX7_strikesNow cX7_strikesNow 5 (some .boolean) ∈ xB := xB_in (xtb_6 (List.mem_of_getElem? (i := 77) rfl)) rfl
theorem mw_706 : Cond.methodLink RL 94 yX6_strikesBy ∈ xB := xB_in (xtb_3 (List.mem_of_getElem? (i := 139) rfl)) rfl
theorem mw_707 : Cond.instanceMethod yX6_strikesBy ∈ xB := xB_in (xtb_3 (List.mem_of_getElem? (i := 140) rfl)) rfl
theorem mw_708 : Cond.selects RX6 yX6_strikesBy yX6_strikesBy ∈ xB := xB_in (xtb_3 (List.mem_of_getElem? (i := 141) rfl)) rfl
theorem mw_709 : Cond.code yX6_strikesBy cX6_strikesBy 3 (some .int) ∈ xB := xB_in (xtb_3 (List.mem_of_getElem? (i := 142) rfl)) rfl
theorem mw_710 : Cond.methodLink RX6 203 yX2_strikesAt ∈ xB := xB_in (xtb_3 (List.mem_of_getElem? (i := 143) rfl)) rfl
theorem mw_711 : Cond.methodLink RL 97 yX7_strikesBy ∈ xB := xB_in (xtb_6 (List.mem_of_getElem? (i := 78) rfl)) rfl
theorem mw_712 : Cond.instanceMethod yX7_strikesBy ∈ xB := xB_in (xtb_6 (List.mem_of_getElem? (i := 79) rfl)) rfl
theorem mw_713 : Cond.selects RX7 yX7_strikesBy yX7_strikesBy ∈ xB := xB_in (xtb_6 (List.mem_of_getElem? (i := 80) rfl)) rfl
theorem mw_714 : Cond.code yX7_strikesBy cX7_strikesBy 3 (some .int) ∈ xB := xB_in (xtb_6 (List.mem_of_getElem? (i := 81) rfl)) rfl
theorem mw_715 : Cond.methodLink RL 98 yX6_heard ∈ xB := xB_in (xtb_3 (List.mem_of_getElem? (i := 144) rfl)) rfl
theorem mw_716 : Cond.instanceMethod yX6_heard ∈ xB := xB_in (xtb_3 (List.mem_of_getElem? (i := 145) rfl)) rfl
theorem mw_717 : Cond.selects RX6 yX6_heard yX6_heard ∈ xB := xB_in (xtb_3 (List.mem_of_getElem? (i := 146) rfl)) rfl
theorem mw_718 : Cond.code yX6_heard cX6_heard 3 (some .int) ∈ xB := xB_in (xtb_3 (List.mem_of_getElem? (i := 147) rfl)) rfl
theorem mw_719 : Cond.methodLink RX6 207 yX0_sounds ∈ xB := xB_in (xtb_3 (List.mem_of_getElem? (i := 148) rfl)) rfl
theorem mw_720 : Cond.instanceMethod yX0_sounds ∈ xB := xB_in (xtb_3 (List.mem_of_getElem? (i := 149) rfl)) rfl
theorem mw_721 : Cond.selects RX0 yX0_sounds yX0_sounds ∈ xB := xB_in (xtb_3 (List.mem_of_getElem? (i := 150) rfl)) rfl
theorem mw_722 : Cond.code yX0_sounds cX0_sounds 7 (some .long) ∈ xB := xB_in (xtb_3 (List.mem_of_getElem? (i := 151) rfl)) rfl
theorem mw_723 : Cond.constantLong RX0 77 (-1) ∈ xB := xB_in (xtb_3 (List.mem_of_getElem? (i := 153) rfl)) rfl
theorem mw_724 : Cond.methodLink RL 101 yX7_heard ∈ xB := xB_in (xtb_6 (List.mem_of_getElem? (i := 82) rfl)) rfl
theorem mw_725 : Cond.instanceMethod yX7_heard ∈ xB := xB_in (xtb_6 (List.mem_of_getElem? (i := 83) rfl)) rfl
theorem mw_726 : Cond.selects RX7 yX7_heard yX7_heard ∈ xB := xB_in (xtb_6 (List.mem_of_getElem? (i := 84) rfl)) rfl
theorem mw_727 : Cond.code yX7_heard cX7_heard 3 (some .int) ∈ xB := xB_in (xtb_6 (List.mem_of_getElem? (i := 85) rfl)) rfl
theorem mw_728 : Cond.methodLink RX7 221 yX7_is ∈ xB := xB_in (xtb_6 (List.mem_of_getElem? (i := 86) rfl)) rfl
theorem mw_729 : Cond.instanceMethod yX7_is ∈ xB := xB_in (xtb_6 (List.mem_of_getElem? (i := 88) rfl)) rfl
theorem mw_730 : Cond.selects RX7 yX7_is yX7_is ∈ xB := xB_in (xpv_3 (List.mem_of_getElem? (i := 10) rfl)) rfl
theorem mw_731 : Cond.code yX7_is cX7_is 6 (some .boolean) ∈ xB := xB_in (xtb_6 (List.mem_of_getElem? (i := 89) rfl)) rfl
theorem mw_732 : Cond.methodLink RX7 215 yX7_isHeard ∈ xB := xB_in (xtb_6 (List.mem_of_getElem? (i := 90) rfl)) rfl
theorem mw_733 : Cond.instanceMethod yX7_isHeard ∈ xB := xB_in (xtb_6 (List.mem_of_getElem? (i := 92) rfl)) rfl
theorem mw_734 : Cond.selects RX7 yX7_isHeard yX7_isHeard ∈ xB := xB_in (xpv_3 (List.mem_of_getElem? (i := 11) rfl)) rfl
theorem mw_735 : Cond.code yX7_isHeard cX7_isHeard 5 (some .boolean) ∈ xB := xB_in (xtb_6 (List.mem_of_getElem? (i := 93) rfl)) rfl
theorem mw_736 : Cond.methodLink RX7 218 yX7_isBoth ∈ xB := xB_in (xtb_6 (List.mem_of_getElem? (i := 94) rfl)) rfl
theorem mw_737 : Cond.instanceMethod yX7_isBoth ∈ xB := xB_in (xtb_6 (List.mem_of_getElem? (i := 96) rfl)) rfl
theorem mw_738 : Cond.selects RX7 yX7_isBoth yX7_isBoth ∈ xB := xB_in (xpv_3 (List.mem_of_getElem? (i := 12) rfl)) rfl
theorem mw_739 : Cond.code yX7_isBoth cX7_isBoth 5 (some .boolean) ∈ xB := xB_in (xtb_6 (List.mem_of_getElem? (i := 97) rfl)) rfl
theorem mw_740 : Cond.methodLink RL 102 yX6_all ∈ xB := xB_in (xtb_3 (List.mem_of_getElem? (i := 154) rfl)) rfl
theorem mw_741 : Cond.instanceMethod yX6_all ∈ xB := xB_in (xtb_3 (List.mem_of_getElem? (i := 155) rfl)) rfl
theorem mw_742 : Cond.selects RX6 yX6_all yX6_all ∈ xB := xB_in (xtb_3 (List.mem_of_getElem? (i := 156) rfl)) rfl
theorem mw_743 : Cond.code yX6_all cX6_all 2 (some .int) ∈ xB := xB_in (xtb_3 (List.mem_of_getElem? (i := 157) rfl)) rfl
theorem mw_744 : Cond.methodLink RX6 211 yJ13_bitCount_95d88 ∈ xB := xB_in (xtb_3 (List.mem_of_getElem? (i := 158) rfl)) rfl
theorem mw_745 : Cond.methodLink RL 105 yX7_all ∈ xB := xB_in (xtb_6 (List.mem_of_getElem? (i := 98) rfl)) rfl
theorem mw_746 : Cond.instanceMethod yX7_all ∈ xB := xB_in (xtb_6 (List.mem_of_getElem? (i := 99) rfl)) rfl
theorem mw_747 : Cond.selects RX7 yX7_all yX7_all ∈ xB := xB_in (xtb_6 (List.mem_of_getElem? (i := 100) rfl)) rfl
theorem mw_748 : Cond.code yX7_all cX7_all 2 (some .int) ∈ xB := xB_in (xtb_6 (List.mem_of_getElem? (i := 101) rfl)) rfl
theorem mw_749 : Cond.methodLink RX7 225 yX7_many ∈ xB := xB_in (xtb_6 (List.mem_of_getElem? (i := 102) rfl)) rfl
theorem mw_750 : Cond.instanceMethod yX7_many ∈ xB := xB_in (xtb_6 (List.mem_of_getElem? (i := 104) rfl)) rfl
theorem mw_751 : Cond.selects RX7 yX7_many yX7_many ∈ xB := xB_in (xpv_3 (List.mem_of_getElem? (i := 13) rfl)) rfl
theorem mw_752 : Cond.code yX7_many cX7_many 7 (some .int) ∈ xB := xB_in (xtb_6 (List.mem_of_getElem? (i := 105) rfl)) rfl
theorem mw_753 : Cond.methodLink RL 106 yX6_silent ∈ xB := xB_in (xtb_3 (List.mem_of_getElem? (i := 159) rfl)) rfl
theorem mw_754 : Cond.instanceMethod yX6_silent ∈ xB := xB_in (xtb_3 (List.mem_of_getElem? (i := 160) rfl)) rfl
theorem mw_755 : Cond.selects RX6 yX6_silent yX6_silent ∈ xB := xB_in (xtb_3 (List.mem_of_getElem? (i := 161) rfl)) rfl
theorem mw_756 : Cond.code yX6_silent cX6_silent 2 (some .int) ∈ xB := xB_in (xtb_3 (List.mem_of_getElem? (i := 162) rfl)) rfl
theorem mw_757 : Cond.methodLink RX6 217 yX6_firstIn ∈ xB := xB_in (xtb_3 (List.mem_of_getElem? (i := 163) rfl)) rfl
theorem mw_758 : Cond.static yX6_firstIn ∈ xB := xB_in (xtb_3 (List.mem_of_getElem? (i := 164) rfl)) rfl
theorem mw_759 : Cond.code yX6_firstIn cX6_firstIn 5 (some .int) ∈ xB := xB_in (xtb_3 (List.mem_of_getElem? (i := 165) rfl)) rfl
theorem mw_760 : Cond.methodLink RL 109 yX7_silent ∈ xB := xB_in (xtb_6 (List.mem_of_getElem? (i := 106) rfl)) rfl
theorem mw_761 : Cond.instanceMethod yX7_silent ∈ xB := xB_in (xtb_6 (List.mem_of_getElem? (i := 107) rfl)) rfl
theorem mw_762 : Cond.selects RX7 yX7_silent yX7_silent ∈ xB := xB_in (xtb_6 (List.mem_of_getElem? (i := 108) rfl)) rfl
theorem mw_763 : Cond.code yX7_silent cX7_silent 3 (some .int) ∈ xB := xB_in (xtb_6 (List.mem_of_getElem? (i := 109) rfl)) rfl
theorem mw_764 : Cond.methodLink RL 110 yX6_run ∈ xB := xB_in (xtb_3 (List.mem_of_getElem? (i := 166) rfl)) rfl
theorem mw_765 : Cond.instanceMethod yX6_run ∈ xB := xB_in (xtb_3 (List.mem_of_getElem? (i := 167) rfl)) rfl
theorem mw_766 : Cond.selects RX6 yX6_run yX6_run ∈ xB := xB_in (xtb_3 (List.mem_of_getElem? (i := 168) rfl)) rfl
theorem mw_767 : Cond.code yX6_run cX6_run 2 (some .int) ∈ xB := xB_in (xtb_3 (List.mem_of_getElem? (i := 169) rfl)) rfl
theorem mw_768 : Cond.constantLong RX6 225 (-1) ∈ xB := xB_in (xtb_3 (List.mem_of_getElem? (i := 176) rfl)) rfl
theorem mw_769 : Cond.methodLink RX6 221 yX6_longestRun ∈ xB := xB_in (xtb_3 (List.mem_of_getElem? (i := 170) rfl)) rfl
theorem mw_770 : Cond.static yX6_longestRun ∈ xB := xB_in (xtb_3 (List.mem_of_getElem? (i := 171) rfl)) rfl
theorem mw_771 : Cond.code yX6_longestRun cX6_longestRun 6 (some .int) ∈ xB := xB_in (xtb_3 (List.mem_of_getElem? (i := 172) rfl)) rfl
theorem mw_772 : Cond.methodLink RX6 277 Lib.Math.max.name ∈ xB := xB_in (xtb_3 (List.mem_of_getElem? (i := 173) rfl)) rfl
theorem mw_773 : Cond.static Lib.Math.max.name ∈ xB := xB_in (xtb_3 (List.mem_of_getElem? (i := 174) rfl)) rfl
theorem mw_774 : Cond.code Lib.Math.max.name Lib.Math.max.code 2 (some .int) ∈ xB := xB_in (xtb_3 (List.mem_of_getElem? (i := 175) (by decide +kernel))) rfl
theorem mw_775 : Cond.methodLink RL 113 yX7_run ∈ xB := xB_in (xtb_6 (List.mem_of_getElem? (i := 110) rfl)) rfl
theorem mw_776 : Cond.instanceMethod yX7_run ∈ xB := xB_in (xtb_6 (List.mem_of_getElem? (i := 111) rfl)) rfl
theorem mw_777 : Cond.selects RX7 yX7_run yX7_run ∈ xB := xB_in (xtb_6 (List.mem_of_getElem? (i := 112) rfl)) rfl
theorem mw_778 : Cond.code yX7_run cX7_run 6 (some .int) ∈ xB := xB_in (xtb_6 (List.mem_of_getElem? (i := 113) rfl)) rfl
theorem mw_779 : Cond.methodLink RX7 228 Lib.Math.max.name ∈ xB := xB_in (xtb_6 (List.mem_of_getElem? (i := 114) rfl)) rfl
theorem mw_780 : Cond.methodLink RL 114 yX6_loop ∈ xB := xB_in (xtb_3 (List.mem_of_getElem? (i := 177) rfl)) rfl
theorem mw_781 : Cond.instanceMethod yX6_loop ∈ xB := xB_in (xtb_3 (List.mem_of_getElem? (i := 178) rfl)) rfl
theorem mw_782 : Cond.selects RX6 yX6_loop yX6_loop ∈ xB := xB_in (xtb_3 (List.mem_of_getElem? (i := 179) rfl)) rfl
theorem mw_783 : Cond.code yX6_loop cX6_loop 2 (some .int) ∈ xB := xB_in (xtb_3 (List.mem_of_getElem? (i := 180) rfl)) rfl
theorem mw_784 : Cond.methodLink RX6 227 yX0_struckInRepetition ∈ xB := xB_in (xtb_3 (List.mem_of_getElem? (i := 181) rfl)) rfl
theorem mw_785 : Cond.instanceMethod yX0_struckInRepetition ∈ xB := xB_in (xtb_3 (List.mem_of_getElem? (i := 182) rfl)) rfl
theorem mw_786 : Cond.selects RX0 yX0_struckInRepetition yX0_struckInRepetition ∈ xB := xB_in (xtb_3 (List.mem_of_getElem? (i := 183) rfl)) rfl
theorem mw_787 : Cond.code yX0_struckInRepetition cX0_struckInRepetition 2 (some .long) ∈ xB := xB_in (xtb_3 (List.mem_of_getElem? (i := 184) rfl)) rfl
theorem mw_788 : Cond.methodLink RL 117 yX7_loop ∈ xB := xB_in (xtb_6 (List.mem_of_getElem? (i := 115) rfl)) rfl
theorem mw_789 : Cond.instanceMethod yX7_loop ∈ xB := xB_in (xtb_6 (List.mem_of_getElem? (i := 116) rfl)) rfl
theorem mw_790 : Cond.selects RX7 yX7_loop yX7_loop ∈ xB := xB_in (xtb_6 (List.mem_of_getElem? (i := 117) rfl)) rfl
theorem mw_791 : Cond.code yX7_loop cX7_loop 2 (some .int) ∈ xB := xB_in (xtb_6 (List.mem_of_getElem? (i := 118) rfl)) rfl
theorem mw_792 : Cond.methodLink RX7 233 yX7_looped ∈ xB := xB_in (xtb_6 (List.mem_of_getElem? (i := 119) rfl)) rfl
theorem mw_793 : Cond.instanceMethod yX7_looped ∈ xB := xB_in (xtb_6 (List.mem_of_getElem? (i := 121) rfl)) rfl
theorem mw_794 : Cond.selects RX7 yX7_looped yX7_looped ∈ xB := xB_in (xpv_3 (List.mem_of_getElem? (i := 14) rfl)) rfl
theorem mw_795 : Cond.code yX7_looped cX7_looped 4 (some .int) ∈ xB := xB_in (xtb_6 (List.mem_of_getElem? (i := 122) rfl)) rfl
theorem mw_796 : Cond.methodLink RL 118 yX6_period ∈ xB := xB_in (xtb_3 (List.mem_of_getElem? (i := 185) rfl)) rfl
theorem mw_797 : Cond.instanceMethod yX6_period ∈ xB := xB_in (xtb_3 (List.mem_of_getElem? (i := 186) rfl)) rfl
theorem mw_798 : Cond.selects RX6 yX6_period yX6_period ∈ xB := xB_in (xtb_3 (List.mem_of_getElem? (i := 187) rfl)) rfl
theorem mw_799 : Cond.code yX6_period cX6_period 2 (some .int) ∈ xB := xB_in (xtb_3 (List.mem_of_getElem? (i := 188) rfl)) rfl
theorem mw_800 : Cond.methodLink RX6 231 yX6_firstBits ∈ xB := xB_in (xtb_3 (List.mem_of_getElem? (i := 189) rfl)) rfl
theorem mw_801 : Cond.methodLink RL 121 yX7_period ∈ xB := xB_in (xtb_6 (List.mem_of_getElem? (i := 127) rfl)) rfl
theorem mw_802 : Cond.instanceMethod yX7_period ∈ xB := xB_in (xtb_6 (List.mem_of_getElem? (i := 128) rfl)) rfl
theorem mw_803 : Cond.selects RX7 yX7_period yX7_period ∈ xB := xB_in (xtb_6 (List.mem_of_getElem? (i := 129) rfl)) rfl
theorem mw_804 : Cond.code yX7_period cX7_period 4 (some .int) ∈ xB := xB_in (xtb_6 (List.mem_of_getElem? (i := 130) rfl)) rfl
theorem mw_805 : Cond.methodLink RL 122 yX6_mirror ∈ xB := xB_in (xtb_3 (List.mem_of_getElem? (i := 190) rfl)) rfl
theorem mw_806 : Cond.instanceMethod yX6_mirror ∈ xB := xB_in (xtb_3 (List.mem_of_getElem? (i := 191) rfl)) rfl
theorem mw_807 : Cond.selects RX6 yX6_mirror yX6_mirror ∈ xB := xB_in (xtb_3 (List.mem_of_getElem? (i := 192) rfl)) rfl
theorem mw_808 : Cond.code yX6_mirror cX6_mirror 1 (some .int) ∈ xB := xB_in (xtb_3 (List.mem_of_getElem? (i := 193) rfl)) rfl
theorem mw_809 : Cond.methodLink RX6 234 yX0_turnedAbout ∈ xB := xB_in (xtb_3 (List.mem_of_getElem? (i := 194) rfl)) rfl
theorem mw_810 : Cond.instanceMethod yX0_turnedAbout ∈ xB := xB_in (xtb_3 (List.mem_of_getElem? (i := 195) rfl)) rfl
theorem mw_811 : Cond.selects RX0 yX0_turnedAbout yX0_turnedAbout ∈ xB := xB_in (xtb_3 (List.mem_of_getElem? (i := 196) rfl)) rfl
theorem mw_812 : Cond.code yX0_turnedAbout cX0_turnedAbout 4 (some .long) ∈ xB := xB_in (xtb_3 (List.mem_of_getElem? (i := 197) rfl)) rfl
theorem mw_813 : Cond.methodLink RL 125 yX7_mirror ∈ xB := xB_in (xtb_6 (List.mem_of_getElem? (i := 131) rfl)) rfl
theorem mw_814 : Cond.instanceMethod yX7_mirror ∈ xB := xB_in (xtb_6 (List.mem_of_getElem? (i := 132) rfl)) rfl
theorem mw_815 : Cond.selects RX7 yX7_mirror yX7_mirror ∈ xB := xB_in (xtb_6 (List.mem_of_getElem? (i := 133) rfl)) rfl
theorem mw_816 : Cond.code yX7_mirror cX7_mirror 1 (some .int) ∈ xB := xB_in (xtb_6 (List.mem_of_getElem? (i := 134) rfl)) rfl
theorem mw_817 : Cond.methodLink RX7 236 yX7_backward ∈ xB := xB_in (xtb_6 (List.mem_of_getElem? (i := 135) rfl)) rfl
theorem mw_818 : Cond.instanceMethod yX7_backward ∈ xB := xB_in (xtb_6 (List.mem_of_getElem? (i := 137) rfl)) rfl
theorem mw_819 : Cond.selects RX7 yX7_backward yX7_backward ∈ xB := xB_in (xpv_3 (List.mem_of_getElem? (i := 15) rfl)) rfl
theorem mw_820 : Cond.code yX7_backward cX7_backward 4 (some .long) ∈ xB := xB_in (xtb_6 (List.mem_of_getElem? (i := 138) rfl)) rfl
theorem mw_821 : Cond.methodLink RL 126 yX6_lastStroke ∈ xB := xB_in (xtb_3 (List.mem_of_getElem? (i := 198) rfl)) rfl
theorem mw_822 : Cond.instanceMethod yX6_lastStroke ∈ xB := xB_in (xtb_3 (List.mem_of_getElem? (i := 199) rfl)) rfl
theorem mw_823 : Cond.selects RX6 yX6_lastStroke yX6_lastStroke ∈ xB := xB_in (xtb_3 (List.mem_of_getElem? (i := 200) rfl)) rfl
theorem mw_824 : Cond.code yX6_lastStroke cX6_lastStroke 3 (some .int) ∈ xB := xB_in (xtb_3 (List.mem_of_getElem? (i := 201) rfl)) rfl
theorem mw_825 : Cond.methodLink RL 129 yX7_lastStroke ∈ xB := xB_in (xtb_6 (List.mem_of_getElem? (i := 139) rfl)) rfl
theorem mw_826 : Cond.instanceMethod yX7_lastStroke ∈ xB := xB_in (xtb_6 (List.mem_of_getElem? (i := 140) rfl)) rfl
theorem mw_827 : Cond.selects RX7 yX7_lastStroke yX7_lastStroke ∈ xB := xB_in (xtb_6 (List.mem_of_getElem? (i := 141) rfl)) rfl
theorem mw_828 : Cond.code yX7_lastStroke cX7_lastStroke 2 (some .int) ∈ xB := xB_in (xtb_6 (List.mem_of_getElem? (i := 142) rfl)) rfl
theorem mw_829 : Cond.methodLink RL 130 yX6_shift ∈ xB := xB_in (xtb_3 (List.mem_of_getElem? (i := 202) rfl)) rfl
theorem mw_830 : Cond.instanceMethod yX6_shift ∈ xB := xB_in (xtb_3 (List.mem_of_getElem? (i := 203) rfl)) rfl
theorem mw_831 : Cond.selects RX6 yX6_shift yX6_shift ∈ xB := xB_in (xtb_3 (List.mem_of_getElem? (i := 204) rfl)) rfl
theorem mw_832 : Cond.code yX6_shift cX6_shift 4 (some .int) ∈ xB := xB_in (xtb_3 (List.mem_of_getElem? (i := 205) rfl)) rfl
theorem mw_833 : Cond.methodLink RL 133 yX7_shift ∈ xB := xB_in (xtb_6 (List.mem_of_getElem? (i := 143) rfl)) rfl
theorem mw_834 : Cond.instanceMethod yX7_shift ∈ xB := xB_in (xtb_6 (List.mem_of_getElem? (i := 144) rfl)) rfl
theorem mw_835 : Cond.selects RX7 yX7_shift yX7_shift ∈ xB := xB_in (xtb_6 (List.mem_of_getElem? (i := 145) rfl)) rfl
theorem mw_836 : Cond.code yX7_shift cX7_shift 5 (some .int) ∈ xB := xB_in (xtb_6 (List.mem_of_getElem? (i := 146) rfl)) rfl
theorem mw_837 : Cond.methodLink RX7 240 yX7_struckNow ∈ xB := xB_in (xtb_6 (List.mem_of_getElem? (i := 147) rfl)) rfl
theorem mw_838 : Cond.instanceMethod yX7_struckNow ∈ xB := xB_in (xtb_6 (List.mem_of_getElem? (i := 149) rfl)) rfl
theorem mw_839 : Cond.selects RX7 yX7_struckNow yX7_struckNow ∈ xB := xB_in (xpv_4 (List.mem_of_getElem? (i := 0) rfl)) rfl
theorem mw_840 : Cond.code yX7_struckNow cX7_struckNow 4 (some .int) ∈ xB := xB_in (xtb_6 (List.mem_of_getElem? (i := 150) rfl)) rfl
theorem mw_841 : Cond.methodLink RL 134 yX6_flip ∈ xB := xB_in (xtb_3 (List.mem_of_getElem? (i := 206) rfl)) rfl
theorem mw_842 : Cond.instanceMethod yX6_flip ∈ xB := xB_in (xtb_3 (List.mem_of_getElem? (i := 207) rfl)) rfl
theorem mw_843 : Cond.selects RX6 yX6_flip yX6_flip ∈ xB := xB_in (xtb_3 (List.mem_of_getElem? (i := 208) rfl)) rfl
theorem mw_844 : Cond.code yX6_flip cX6_flip 5 (some .int) ∈ xB := xB_in (xtb_3 (List.mem_of_getElem? (i := 209) rfl)) rfl
theorem mw_845 : Cond.methodLink RL 137 yX7_flip ∈ xB := xB_in (xtb_6 (List.mem_of_getElem? (i := 151) rfl)) rfl
theorem mw_846 : Cond.instanceMethod yX7_flip ∈ xB := xB_in (xtb_6 (List.mem_of_getElem? (i := 152) rfl)) rfl
theorem mw_847 : Cond.selects RX7 yX7_flip yX7_flip ∈ xB := xB_in (xtb_6 (List.mem_of_getElem? (i := 153) rfl)) rfl
theorem mw_848 : Cond.code yX7_flip cX7_flip 5 (some .int) ∈ xB := xB_in (xtb_6 (List.mem_of_getElem? (i := 154) rfl)) rfl
theorem mw_849 : Cond.methodLink RL 138 yX6_until ∈ xB := xB_in (xtb_3 (List.mem_of_getElem? (i := 210) rfl)) rfl
theorem mw_850 : Cond.instanceMethod yX6_until ∈ xB := xB_in (xtb_3 (List.mem_of_getElem? (i := 211) rfl)) rfl
theorem mw_851 : Cond.selects RX6 yX6_until yX6_until ∈ xB := xB_in (xtb_3 (List.mem_of_getElem? (i := 212) rfl)) rfl
theorem mw_852 : Cond.code yX6_until cX6_until 5 (some .int) ∈ xB := xB_in (xtb_3 (List.mem_of_getElem? (i := 213) rfl)) rfl
theorem mw_853 : Cond.methodLink RX6 238 yX0_struck ∈ xB := xB_in (xtb_3 (List.mem_of_getElem? (i := 214) rfl)) rfl
theorem mw_854 : Cond.methodLink RL 141 yX7_until ∈ xB := xB_in (xtb_6 (List.mem_of_getElem? (i := 155) rfl)) rfl
theorem mw_855 : Cond.instanceMethod yX7_until ∈ xB := xB_in (xtb_6 (List.mem_of_getElem? (i := 156) rfl)) rfl
theorem mw_856 : Cond.selects RX7 yX7_until yX7_until ∈ xB := xB_in (xtb_6 (List.mem_of_getElem? (i := 157) rfl)) rfl
theorem mw_857 : Cond.code yX7_until cX7_until 4 (some .int) ∈ xB := xB_in (xtb_6 (List.mem_of_getElem? (i := 158) rfl)) rfl
theorem mw_858 : Cond.methodLink RL 142 yX6_sameAs ∈ xB := xB_in (xtb_3 (List.mem_of_getElem? (i := 215) rfl)) rfl
theorem mw_859 : Cond.instanceMethod yX6_sameAs ∈ xB := xB_in (xtb_3 (List.mem_of_getElem? (i := 216) rfl)) rfl
theorem mw_860 : Cond.selects RX6 yX6_sameAs yX6_sameAs ∈ xB := xB_in (xtb_3 (List.mem_of_getElem? (i := 217) rfl)) rfl
theorem mw_861 : Cond.code yX6_sameAs cX6_sameAs 6 (some .int) ∈ xB := xB_in (xtb_3 (List.mem_of_getElem? (i := 218) rfl)) rfl
theorem mw_862 : Cond.methodLink RL 145 yX7_sameAs ∈ xB := xB_in (xtb_6 (List.mem_of_getElem? (i := 159) rfl)) rfl
theorem mw_863 : Cond.instanceMethod yX7_sameAs ∈ xB := xB_in (xtb_6 (List.mem_of_getElem? (i := 160) rfl)) rfl
theorem mw_864 : Cond.selects RX7 yX7_sameAs yX7_sameAs ∈ xB := xB_in (xtb_6 (List.mem_of_getElem? (i := 161) rfl)) rfl
theorem mw_865 : Cond.code yX7_sameAs cX7_sameAs 4 (some .int) ∈ xB := xB_in (xtb_6 (List.mem_of_getElem? (i := 162) rfl)) rfl
theorem mw_866 : Cond.methodLink RX7 244 yX7_struckBits ∈ xB := xB_in (xtb_6 (List.mem_of_getElem? (i := 163) rfl)) rfl
theorem mw_867 : Cond.instanceMethod yX7_struckBits ∈ xB := xB_in (xtb_6 (List.mem_of_getElem? (i := 165) rfl)) rfl
theorem mw_868 : Cond.selects RX7 yX7_struckBits yX7_struckBits ∈ xB := xB_in (xpv_4 (List.mem_of_getElem? (i := 1) rfl)) rfl
theorem mw_869 : Cond.code yX7_struckBits cX7_struckBits 8 (some .long) ∈ xB := xB_in (xtb_6 (List.mem_of_getElem? (i := 166) rfl)) rfl
theorem mw_870 : Cond.methodLink RL 146 yX6_apart ∈ xB := xB_in (xtb_3 (List.mem_of_getElem? (i := 219) rfl)) rfl
theorem mw_871 : Cond.instanceMethod yX6_apart ∈ xB := xB_in (xtb_3 (List.mem_of_getElem? (i := 220) rfl)) rfl
theorem mw_872 : Cond.selects RX6 yX6_apart yX6_apart ∈ xB := xB_in (xtb_3 (List.mem_of_getElem? (i := 221) rfl)) rfl
theorem mw_873 : Cond.code yX6_apart cX6_apart 3 (some .int) ∈ xB := xB_in (xtb_3 (List.mem_of_getElem? (i := 222) rfl)) rfl
theorem mw_874 : Cond.methodLink RX6 242 yX6_areTwoLaws ∈ xB := xB_in (xtb_3 (List.mem_of_getElem? (i := 223) rfl)) rfl
theorem mw_875 : Cond.instanceMethod yX6_areTwoLaws ∈ xB := xB_in (xtb_3 (List.mem_of_getElem? (i := 225) rfl)) rfl
theorem mw_876 : Cond.selects RX6 yX6_areTwoLaws yX6_areTwoLaws ∈ xB := xB_in (xpv_2 (List.mem_of_getElem? (i := 0) rfl)) rfl
theorem mw_877 : Cond.code yX6_areTwoLaws cX6_areTwoLaws 3 (some .boolean) ∈ xB := xB_in (xtb_3 (List.mem_of_getElem? (i := 226) rfl)) rfl
theorem mw_878 : Cond.methodLink RL 149 yX7_apart ∈ xB := xB_in (xtb_6 (List.mem_of_getElem? (i := 167) rfl)) rfl
theorem mw_879 : Cond.instanceMethod yX7_apart ∈ xB := xB_in (xtb_6 (List.mem_of_getElem? (i := 168) rfl)) rfl
theorem mw_880 : Cond.selects RX7 yX7_apart yX7_apart ∈ xB := xB_in (xtb_6 (List.mem_of_getElem? (i := 169) rfl)) rfl
theorem mw_881 : Cond.code yX7_apart cX7_apart 5 (some .int) ∈ xB := xB_in (xtb_6 (List.mem_of_getElem? (i := 170) rfl)) rfl
theorem mw_882 : Cond.methodLink RX7 248 yX7_areTwo ∈ xB := xB_in (xtb_6 (List.mem_of_getElem? (i := 171) rfl)) rfl
theorem mw_883 : Cond.instanceMethod yX7_areTwo ∈ xB := xB_in (xtb_6 (List.mem_of_getElem? (i := 173) rfl)) rfl
theorem mw_884 : Cond.selects RX7 yX7_areTwo yX7_areTwo ∈ xB := xB_in (xpv_4 (List.mem_of_getElem? (i := 2) rfl)) rfl
theorem mw_885 : Cond.code yX7_areTwo cX7_areTwo 3 (some .boolean) ∈ xB := xB_in (xtb_6 (List.mem_of_getElem? (i := 174) rfl)) rfl
theorem mw_886 : Cond.methodLink RX7 251 yJ13_numberOfTrailingZeros_95d88 ∈ xB := xB_in (xtb_6 (List.mem_of_getElem? (i := 175) rfl)) rfl
theorem mw_887 : Cond.static yJ13_numberOfTrailingZeros_95d88 ∈ xB := xB_in (xtb_6 (List.mem_of_getElem? (i := 176) rfl)) rfl
theorem mw_888 : Cond.code yJ13_numberOfTrailingZeros_95d88 cJ13_numberOfTrailingZeros_95d88 3 (some .int) ∈ xB := xB_in (xtb_6 (List.mem_of_getElem? (i := 177) rfl)) rfl
theorem mw_889 : Cond.methodLink RJ13 311 yJ6_numberOfTrailingZeros_0f7a4 ∈ xB := xB_in (xtb_6 (List.mem_of_getElem? (i := 178) rfl)) rfl
theorem mw_890 : Cond.static yJ6_numberOfTrailingZeros_0f7a4 ∈ xB := xB_in (xtb_6 (List.mem_of_getElem? (i := 179) rfl)) rfl
theorem mw_891 : Cond.initialized RJ6 ∈ xB := xB_in (xtb_1 (List.mem_of_getElem? (i := 15) rfl)) rfl
theorem mw_892 : Cond.code yJ6_numberOfTrailingZeros_0f7a4 cJ6_numberOfTrailingZeros_0f7a4 2 (some .int) ∈ xB := xB_in (xtb_6 (List.mem_of_getElem? (i := 180) rfl)) rfl
theorem mw_893 : Cond.constant RJ6 264 (65536) ∈ xB := xB_in (xtb_6 (List.mem_of_getElem? (i := 181) rfl)) rfl
theorem mw_894 : Cond.methodLink RL 150 yX6_parts ∈ xB := xB_in (xtb_3 (List.mem_of_getElem? (i := 227) rfl)) rfl
theorem mw_895 : Cond.instanceMethod yX6_parts ∈ xB := xB_in (xtb_3 (List.mem_of_getElem? (i := 228) rfl)) rfl
theorem mw_896 : Cond.selects RX6 yX6_parts yX6_parts ∈ xB := xB_in (xtb_3 (List.mem_of_getElem? (i := 229) rfl)) rfl
theorem mw_897 : Cond.code yX6_parts cX6_parts 6 (some .int) ∈ xB := xB_in (xtb_3 (List.mem_of_getElem? (i := 230) rfl)) rfl
theorem mw_898 : Cond.methodLink RX6 245 yX2_firstPartingRing ∈ xB := xB_in (xtb_3 (List.mem_of_getElem? (i := 231) rfl)) rfl
theorem mw_899 : Cond.instanceMethod yX2_firstPartingRing ∈ xB := xB_in (xtb_3 (List.mem_of_getElem? (i := 232) rfl)) rfl
theorem mw_900 : Cond.selects RX2 yX2_firstPartingRing yX2_firstPartingRing ∈ xB := xB_in (xtb_3 (List.mem_of_getElem? (i := 233) rfl)) rfl
theorem mw_901 : Cond.code yX2_firstPartingRing cX2_firstPartingRing 5 (some .int) ∈ xB := xB_in (xtb_3 (List.mem_of_getElem? (i := 234) rfl)) rfl
theorem mw_902 : Cond.methodLink RL 153 yX7_parts ∈ xB := xB_in (xtb_6 (List.mem_of_getElem? (i := 182) rfl)) rfl
theorem mw_903 : Cond.instanceMethod yX7_parts ∈ xB := xB_in (xtb_6 (List.mem_of_getElem? (i := 183) rfl)) rfl
theorem mw_904 : Cond.selects RX7 yX7_parts yX7_parts ∈ xB := xB_in (xtb_6 (List.mem_of_getElem? (i := 184) rfl)) rfl
theorem mw_905 : Cond.code yX7_parts cX7_parts 6 (some .int) ∈ xB := xB_in (xtb_6 (List.mem_of_getElem? (i := 185) rfl)) rfl
theorem mw_906 : Cond.methodLink RL 154 yX6_common ∈ xB := xB_in (xtb_3 (List.mem_of_getElem? (i := 235) rfl)) rfl
theorem mw_907 : Cond.instanceMethod yX6_common ∈ xB := xB_in (xtb_3 (List.mem_of_getElem? (i := 236) rfl)) rfl
theorem mw_908 : Cond.selects RX6 yX6_common yX6_common ∈ xB := xB_in (xtb_3 (List.mem_of_getElem? (i := 237) rfl)) rfl
theorem mw_909 : Cond.code yX6_common cX6_common 5 (some .int) ∈ xB := xB_in (xtb_3 (List.mem_of_getElem? (i := 238) rfl)) rfl
theorem mw_910 : Cond.methodLink RX6 249 yX6_isSetOf ∈ xB := xB_in (xtb_3 (List.mem_of_getElem? (i := 239) rfl)) rfl
theorem mw_911 : Cond.static yX6_isSetOf ∈ xB := xB_in (xtb_4 (List.mem_of_getElem? (i := 0) rfl)) rfl
theorem mw_912 : Cond.code yX6_isSetOf cX6_isSetOf 2 (some .boolean) ∈ xB := xB_in (xtb_4 (List.mem_of_getElem? (i := 1) rfl)) rfl
theorem mw_913 : Cond.methodLink RL 157 yX7_common ∈ xB := xB_in (xtb_6 (List.mem_of_getElem? (i := 186) rfl)) rfl
theorem mw_914 : Cond.instanceMethod yX7_common ∈ xB := xB_in (xtb_6 (List.mem_of_getElem? (i := 187) rfl)) rfl
theorem mw_915 : Cond.selects RX7 yX7_common yX7_common ∈ xB := xB_in (xtb_6 (List.mem_of_getElem? (i := 188) rfl)) rfl
theorem mw_916 : Cond.code yX7_common cX7_common 5 (some .int) ∈ xB := xB_in (xtb_6 (List.mem_of_getElem? (i := 189) rfl)) rfl
theorem mw_917 : Cond.methodLink RX7 254 yX7_isSet ∈ xB := xB_in (xtb_6 (List.mem_of_getElem? (i := 190) rfl)) rfl
theorem mw_918 : Cond.instanceMethod yX7_isSet ∈ xB := xB_in (xtb_6 (List.mem_of_getElem? (i := 192) rfl)) rfl
theorem mw_919 : Cond.selects RX7 yX7_isSet yX7_isSet ∈ xB := xB_in (xpv_4 (List.mem_of_getElem? (i := 3) rfl)) rfl
theorem mw_920 : Cond.code yX7_isSet cX7_isSet 2 (some .boolean) ∈ xB := xB_in (xtb_6 (List.mem_of_getElem? (i := 193) rfl)) rfl
theorem mw_921 : Cond.methodLink RL 158 yX6_alone ∈ xB := xB_in (xtb_4 (List.mem_of_getElem? (i := 2) rfl)) rfl
theorem mw_922 : Cond.instanceMethod yX6_alone ∈ xB := xB_in (xtb_4 (List.mem_of_getElem? (i := 3) rfl)) rfl
theorem mw_923 : Cond.selects RX6 yX6_alone yX6_alone ∈ xB := xB_in (xtb_4 (List.mem_of_getElem? (i := 4) rfl)) rfl
theorem mw_924 : Cond.code yX6_alone cX6_alone 5 (some .int) ∈ xB := xB_in (xtb_4 (List.mem_of_getElem? (i := 5) rfl)) rfl
theorem mw_925 : Cond.methodLink RL 161 yX7_alone ∈ xB := xB_in (xtb_6 (List.mem_of_getElem? (i := 194) rfl)) rfl
theorem mw_926 : Cond.instanceMethod yX7_alone ∈ xB := xB_in (xtb_6 (List.mem_of_getElem? (i := 195) rfl)) rfl
theorem mw_927 : Cond.selects RX7 yX7_alone yX7_alone ∈ xB := xB_in (xtb_6 (List.mem_of_getElem? (i := 196) rfl)) rfl
theorem mw_928 : Cond.code yX7_alone cX7_alone 5 (some .int) ∈ xB := xB_in (xtb_6 (List.mem_of_getElem? (i := 197) rfl)) rfl
theorem mw_929 : Cond.constantLong RX7 257 (-1) ∈ xB := xB_in (xtb_6 (List.mem_of_getElem? (i := 198) rfl)) rfl
theorem mw_930 : Cond.methodLink RL 162 yX6_busiest ∈ xB := xB_in (xtb_4 (List.mem_of_getElem? (i := 6) rfl)) rfl
theorem mw_931 : Cond.instanceMethod yX6_busiest ∈ xB := xB_in (xtb_4 (List.mem_of_getElem? (i := 7) rfl)) rfl
theorem mw_932 : Cond.selects RX6 yX6_busiest yX6_busiest ∈ xB := xB_in (xtb_4 (List.mem_of_getElem? (i := 8) rfl)) rfl
theorem mw_933 : Cond.code yX6_busiest cX6_busiest 3 (some .int) ∈ xB := xB_in (xtb_4 (List.mem_of_getElem? (i := 9) rfl)) rfl
theorem mw_934 : Cond.methodLink RL 165 yX7_busiest ∈ xB := xB_in (xtb_6 (List.mem_of_getElem? (i := 199) rfl)) rfl
theorem mw_935 : Cond.instanceMethod yX7_busiest ∈ xB := xB_in (xtb_6 (List.mem_of_getElem? (i := 200) rfl)) rfl
theorem mw_936 : Cond.selects RX7 yX7_busiest yX7_busiest ∈ xB := xB_in (xtb_6 (List.mem_of_getElem? (i := 201) rfl)) rfl
theorem mw_937 : Cond.code yX7_busiest cX7_busiest 3 (some .int) ∈ xB := xB_in (xtb_6 (List.mem_of_getElem? (i := 202) rfl)) rfl
theorem mw_938 : Cond.methodLink RL 166 yX6_lawFor ∈ xB := xB_in (xtb_4 (List.mem_of_getElem? (i := 10) rfl)) rfl
theorem mw_939 : Cond.instanceMethod yX6_lawFor ∈ xB := xB_in (xtb_4 (List.mem_of_getElem? (i := 11) rfl)) rfl
theorem mw_940 : Cond.selects RX6 yX6_lawFor yX6_lawFor ∈ xB := xB_in (xtb_4 (List.mem_of_getElem? (i := 12) rfl)) rfl
theorem mw_941 : Cond.code yX6_lawFor cX6_lawFor 7 (some .int) ∈ xB := xB_in (xtb_4 (List.mem_of_getElem? (i := 13) rfl)) rfl
theorem mw_942 : Cond.methodLink RX6 252 yX6_areTriedSteps ∈ xB := xB_in (xtb_4 (List.mem_of_getElem? (i := 14) rfl)) rfl
theorem mw_943 : Cond.static yX6_areTriedSteps ∈ xB := xB_in (xtb_4 (List.mem_of_getElem? (i := 15) rfl)) rfl
theorem mw_944 : Cond.code yX6_areTriedSteps cX6_areTriedSteps 2 (some .boolean) ∈ xB := xB_in (xtb_4 (List.mem_of_getElem? (i := 16) rfl)) rfl
theorem mw_945 : Cond.methodLink RX6 255 yX2_leastRingStruckAt ∈ xB := xB_in (xtb_4 (List.mem_of_getElem? (i := 17) rfl)) rfl
theorem mw_946 : Cond.instanceMethod yX2_leastRingStruckAt ∈ xB := xB_in (xtb_4 (List.mem_of_getElem? (i := 18) rfl)) rfl
theorem mw_947 : Cond.selects RX2 yX2_leastRingStruckAt yX2_leastRingStruckAt ∈ xB := xB_in (xtb_4 (List.mem_of_getElem? (i := 19) rfl)) rfl
theorem mw_948 : Cond.code yX2_leastRingStruckAt cX2_leastRingStruckAt 8 (some .int) ∈ xB := xB_in (xtb_4 (List.mem_of_getElem? (i := 20) rfl)) rfl
theorem mw_949 : Cond.methodLink RX2 86 yJ6_bitCount_0f7a4 ∈ xB := xB_in (xtb_4 (List.mem_of_getElem? (i := 21) rfl)) rfl
theorem mw_950 : Cond.static yJ6_bitCount_0f7a4 ∈ xB := xB_in (xtb_4 (List.mem_of_getElem? (i := 22) rfl)) rfl
theorem mw_951 : Cond.code yJ6_bitCount_0f7a4 cJ6_bitCount_0f7a4 1 (some .int) ∈ xB := xB_in (xtb_4 (List.mem_of_getElem? (i := 23) rfl)) rfl
theorem mw_952 : Cond.constant RJ6 265 (1431655765) ∈ xB := xB_in (xtb_4 (List.mem_of_getElem? (i := 24) rfl)) rfl
theorem mw_953 : Cond.constant RJ6 266 (858993459) ∈ xB := xB_in (xtb_4 (List.mem_of_getElem? (i := 25) rfl)) rfl
theorem mw_954 : Cond.constant RJ6 267 (252645135) ∈ xB := xB_in (xtb_4 (List.mem_of_getElem? (i := 26) rfl)) rfl
theorem mw_955 : Cond.methodLink RX2 90 yX2_strikesJustAt ∈ xB := xB_in (xtb_4 (List.mem_of_getElem? (i := 27) rfl)) rfl
theorem mw_956 : Cond.instanceMethod yX2_strikesJustAt ∈ xB := xB_in (xtb_4 (List.mem_of_getElem? (i := 29) rfl)) rfl
theorem mw_957 : Cond.selects RX2 yX2_strikesJustAt yX2_strikesJustAt ∈ xB := xB_in (xpv_2 (List.mem_of_getElem? (i := 1) rfl)) rfl
theorem mw_958 : Cond.code yX2_strikesJustAt cX2_strikesJustAt 7 (some .boolean) ∈ xB := xB_in (xtb_4 (List.mem_of_getElem? (i := 30) rfl)) rfl
theorem mw_959 : Cond.methodLink RX6 258 yJ6_bitCount_0f7a4 ∈ xB := xB_in (xtb_4 (List.mem_of_getElem? (i := 31) rfl)) rfl
theorem mw_960 : Cond.methodLink RL 169 yX7_lawFor ∈ xB := xB_in (xtb_6 (List.mem_of_getElem? (i := 203) rfl)) rfl
theorem mw_961 : Cond.instanceMethod yX7_lawFor ∈ xB := xB_in (xtb_6 (List.mem_of_getElem? (i := 204) rfl)) rfl
theorem mw_962 : Cond.selects RX7 yX7_lawFor yX7_lawFor ∈ xB := xB_in (xtb_6 (List.mem_of_getElem? (i := 205) rfl)) rfl
theorem mw_963 : Cond.code yX7_lawFor cX7_lawFor 7 (some .int) ∈ xB := xB_in (xtb_6 (List.mem_of_getElem? (i := 206) rfl)) rfl
theorem mw_964 : Cond.methodLink RX7 263 yX7_isPlan ∈ xB := xB_in (xtb_6 (List.mem_of_getElem? (i := 207) rfl)) rfl
theorem mw_965 : Cond.static yX7_isPlan ∈ xB := xB_in (xtb_6 (List.mem_of_getElem? (i := 208) rfl)) rfl
theorem mw_966 : Cond.code yX7_isPlan cX7_isPlan 2 (some .boolean) ∈ xB := xB_in (xtb_6 (List.mem_of_getElem? (i := 209) rfl)) rfl
theorem mw_967 : Cond.methodLink RX7 266 yX7_planBy ∈ xB := xB_in (xtb_6 (List.mem_of_getElem? (i := 210) rfl)) rfl
theorem mw_968 : Cond.instanceMethod yX7_planBy ∈ xB := xB_in (xtb_6 (List.mem_of_getElem? (i := 212) rfl)) rfl
theorem mw_969 : Cond.selects RX7 yX7_planBy yX7_planBy ∈ xB := xB_in (xpv_4 (List.mem_of_getElem? (i := 4) rfl)) rfl
theorem mw_970 : Cond.code yX7_planBy cX7_planBy 6 (some .int) ∈ xB := xB_in (xtb_6 (List.mem_of_getElem? (i := 213) rfl)) rfl
theorem mw_971 : Cond.methodLink RX7 259 yJ6_bitCount_0f7a4 ∈ xB := xB_in (xtb_6 (List.mem_of_getElem? (i := 214) rfl)) rfl
theorem mw_972 : Cond.methodLink RL 170 yX6_depths ∈ xB := xB_in (xtb_4 (List.mem_of_getElem? (i := 32) rfl)) rfl
theorem mw_973 : Cond.instanceMethod yX6_depths ∈ xB := xB_in (xtb_4 (List.mem_of_getElem? (i := 33) rfl)) rfl
theorem mw_974 : Cond.selects RX6 yX6_depths yX6_depths ∈ xB := xB_in (xtb_4 (List.mem_of_getElem? (i := 34) rfl)) rfl
theorem mw_975 : Cond.code yX6_depths cX6_depths 7 (some .int) ∈ xB := xB_in (xtb_4 (List.mem_of_getElem? (i := 35) rfl)) rfl
theorem mw_976 : Cond.methodLink RX6 262 yX6_refusalOfHeardRow ∈ xB := xB_in (xtb_4 (List.mem_of_getElem? (i := 36) rfl)) rfl
theorem mw_977 : Cond.instanceMethod yX6_refusalOfHeardRow ∈ xB := xB_in (xtb_4 (List.mem_of_getElem? (i := 38) rfl)) rfl
theorem mw_978 : Cond.selects RX6 yX6_refusalOfHeardRow yX6_refusalOfHeardRow ∈ xB := xB_in (xpv_2 (List.mem_of_getElem? (i := 2) rfl)) rfl
theorem mw_979 : Cond.code yX6_refusalOfHeardRow cX6_refusalOfHeardRow 3 (some .int) ∈ xB := xB_in (xtb_4 (List.mem_of_getElem? (i := 39) rfl)) rfl
theorem mw_980 : Cond.methodLink RX6 265 yX4_elementsAsBits ∈ xB := xB_in (xtb_4 (List.mem_of_getElem? (i := 40) rfl)) rfl
theorem mw_981 : Cond.instanceMethod yX4_elementsAsBits ∈ xB := xB_in (xtb_4 (List.mem_of_getElem? (i := 41) rfl)) rfl
theorem mw_982 : Cond.selects RX4 yX4_elementsAsBits yX4_elementsAsBits ∈ xB := xB_in (xtb_4 (List.mem_of_getElem? (i := 42) rfl)) rfl
theorem mw_983 : Cond.code yX4_elementsAsBits cX4_elementsAsBits 6 (some .long) ∈ xB := xB_in (xtb_4 (List.mem_of_getElem? (i := 43) rfl)) rfl
theorem mw_984 : Cond.methodLink RX6 268 yX0_risen ∈ xB := xB_in (xtb_4 (List.mem_of_getElem? (i := 44) rfl)) rfl
theorem mw_985 : Cond.instanceMethod yX0_risen ∈ xB := xB_in (xtb_4 (List.mem_of_getElem? (i := 45) rfl)) rfl
theorem mw_986 : Cond.selects RX0 yX0_risen yX0_risen ∈ xB := xB_in (xtb_4 (List.mem_of_getElem? (i := 46) rfl)) rfl
theorem mw_987 : Cond.code yX0_risen cX0_risen 3 (some .long) ∈ xB := xB_in (xtb_4 (List.mem_of_getElem? (i := 47) rfl)) rfl
theorem mw_988 : Cond.methodLink RL 173 yX7_depths ∈ xB := xB_in (xtb_6 (List.mem_of_getElem? (i := 231) rfl)) rfl
theorem mw_989 : Cond.instanceMethod yX7_depths ∈ xB := xB_in (xtb_6 (List.mem_of_getElem? (i := 232) rfl)) rfl
theorem mw_990 : Cond.selects RX7 yX7_depths yX7_depths ∈ xB := xB_in (xtb_6 (List.mem_of_getElem? (i := 233) rfl)) rfl
theorem mw_991 : Cond.code yX7_depths cX7_depths 5 (some .int) ∈ xB := xB_in (xtb_6 (List.mem_of_getElem? (i := 234) rfl)) rfl
theorem mw_992 : Cond.methodLink RX7 274 yX7_noHeard ∈ xB := xB_in (xtb_6 (List.mem_of_getElem? (i := 235) rfl)) rfl
theorem mw_993 : Cond.instanceMethod yX7_noHeard ∈ xB := xB_in (xtb_6 (List.mem_of_getElem? (i := 237) rfl)) rfl
theorem mw_994 : Cond.selects RX7 yX7_noHeard yX7_noHeard ∈ xB := xB_in (xpv_4 (List.mem_of_getElem? (i := 6) rfl)) rfl
theorem mw_995 : Cond.code yX7_noHeard cX7_noHeard 2 (some .int) ∈ xB := xB_in (xtb_6 (List.mem_of_getElem? (i := 238) rfl)) rfl
theorem mw_996 : Cond.methodLink RX7 277 yX7_differsNow ∈ xB := xB_in (xtb_6 (List.mem_of_getElem? (i := 239) rfl)) rfl
theorem mw_997 : Cond.instanceMethod yX7_differsNow ∈ xB := xB_in (xtb_7 (List.mem_of_getElem? (i := 1) rfl)) rfl
theorem mw_998 : Cond.selects RX7 yX7_differsNow yX7_differsNow ∈ xB := xB_in (xpv_4 (List.mem_of_getElem? (i := 7) rfl)) rfl
theorem mw_999 : Cond.code yX7_differsNow cX7_differsNow 4 (some .int) ∈ xB := xB_in (xtb_7 (List.mem_of_getElem? (i := 2) rfl)) rfl
theorem mw_1000 : Cond.methodLink RL 174 yX6_differs ∈ xB := xB_in (xtb_4 (List.mem_of_getElem? (i := 48) rfl)) rfl
theorem mw_1001 : Cond.instanceMethod yX6_differs ∈ xB := xB_in (xtb_4 (List.mem_of_getElem? (i := 49) rfl)) rfl
theorem mw_1002 : Cond.selects RX6 yX6_differs yX6_differs ∈ xB := xB_in (xtb_4 (List.mem_of_getElem? (i := 50) rfl)) rfl
theorem mw_1003 : Cond.code yX6_differs cX6_differs 5 (some .int) ∈ xB := xB_in (xtb_4 (List.mem_of_getElem? (i := 51) rfl)) rfl
theorem mw_1004 : Cond.methodLink RL 177 yX7_differs ∈ xB := xB_in (xtb_7 (List.mem_of_getElem? (i := 3) rfl)) rfl
theorem mw_1005 : Cond.instanceMethod yX7_differs ∈ xB := xB_in (xtb_7 (List.mem_of_getElem? (i := 4) rfl)) rfl
theorem mw_1006 : Cond.selects RX7 yX7_differs yX7_differs ∈ xB := xB_in (xtb_7 (List.mem_of_getElem? (i := 5) rfl)) rfl
theorem mw_1007 : Cond.code yX7_differs cX7_differs 3 (some .int) ∈ xB := xB_in (xtb_7 (List.mem_of_getElem? (i := 6) rfl)) rfl
theorem mw_1008 : Cond.methodLink RL 178 yX6_together ∈ xB := xB_in (xtb_4 (List.mem_of_getElem? (i := 52) rfl)) rfl
theorem mw_1009 : Cond.instanceMethod yX6_together ∈ xB := xB_in (xtb_4 (List.mem_of_getElem? (i := 53) rfl)) rfl
theorem mw_1010 : Cond.selects RX6 yX6_together yX6_together ∈ xB := xB_in (xtb_4 (List.mem_of_getElem? (i := 54) rfl)) rfl
theorem mw_1011 : Cond.code yX6_together cX6_together 5 (some .int) ∈ xB := xB_in (xtb_4 (List.mem_of_getElem? (i := 55) rfl)) rfl
theorem mw_1012 : Cond.methodLink RL 181 yX7_together ∈ xB := xB_in (xtb_7 (List.mem_of_getElem? (i := 11) rfl)) rfl
theorem mw_1013 : Cond.instanceMethod yX7_together ∈ xB := xB_in (xtb_7 (List.mem_of_getElem? (i := 12) rfl)) rfl
theorem mw_1014 : Cond.selects RX7 yX7_together yX7_together ∈ xB := xB_in (xtb_7 (List.mem_of_getElem? (i := 13) rfl)) rfl
theorem mw_1015 : Cond.code yX7_together cX7_together 5 (some .int) ∈ xB := xB_in (xtb_7 (List.mem_of_getElem? (i := 14) rfl)) rfl
theorem mw_1016 : Cond.methodLink RL 182 yX6_odds ∈ xB := xB_in (xtb_4 (List.mem_of_getElem? (i := 56) rfl)) rfl
theorem mw_1017 : Cond.instanceMethod yX6_odds ∈ xB := xB_in (xtb_4 (List.mem_of_getElem? (i := 57) rfl)) rfl
theorem mw_1018 : Cond.selects RX6 yX6_odds yX6_odds ∈ xB := xB_in (xtb_4 (List.mem_of_getElem? (i := 58) rfl)) rfl
theorem mw_1019 : Cond.code yX6_odds cX6_odds 4 (some .int) ∈ xB := xB_in (xtb_4 (List.mem_of_getElem? (i := 59) rfl)) rfl
theorem mw_1020 : Cond.constant RX6 271 (1000000) ∈ xB := xB_in (xtb_4 (List.mem_of_getElem? (i := 60) rfl)) rfl
theorem mw_1021 : Cond.methodLink RL 185 yX7_odds ∈ xB := xB_in (xtb_7 (List.mem_of_getElem? (i := 15) rfl)) rfl
theorem mw_1022 : Cond.instanceMethod yX7_odds ∈ xB := xB_in (xtb_7 (List.mem_of_getElem? (i := 16) rfl)) rfl
theorem mw_1023 : Cond.selects RX7 yX7_odds yX7_odds ∈ xB := xB_in (xtb_7 (List.mem_of_getElem? (i := 17) rfl)) rfl
theorem mw_1024 : Cond.code yX7_odds cX7_odds 3 (some .int) ∈ xB := xB_in (xtb_7 (List.mem_of_getElem? (i := 18) rfl)) rfl
theorem mw_1025 : Cond.constant RX7 280 (1000000) ∈ xB := xB_in (xtb_7 (List.mem_of_getElem? (i := 19) rfl)) rfl
theorem mw_1026 : Cond.methodLink RL 186 yX6_expected ∈ xB := xB_in (xtb_4 (List.mem_of_getElem? (i := 61) rfl)) rfl
theorem mw_1027 : Cond.instanceMethod yX6_expected ∈ xB := xB_in (xtb_4 (List.mem_of_getElem? (i := 62) rfl)) rfl
theorem mw_1028 : Cond.selects RX6 yX6_expected yX6_expected ∈ xB := xB_in (xtb_4 (List.mem_of_getElem? (i := 63) rfl)) rfl
theorem mw_1029 : Cond.code yX6_expected cX6_expected 1 (some .int) ∈ xB := xB_in (xtb_4 (List.mem_of_getElem? (i := 64) rfl)) rfl
theorem mw_1030 : Cond.methodLink RL 189 yX7_expected ∈ xB := xB_in (xtb_7 (List.mem_of_getElem? (i := 20) rfl)) rfl
theorem mw_1031 : Cond.instanceMethod yX7_expected ∈ xB := xB_in (xtb_7 (List.mem_of_getElem? (i := 21) rfl)) rfl
theorem mw_1032 : Cond.selects RX7 yX7_expected yX7_expected ∈ xB := xB_in (xtb_7 (List.mem_of_getElem? (i := 22) rfl)) rfl
theorem mw_1033 : Cond.code yX7_expected cX7_expected 1 (some .int) ∈ xB := xB_in (xtb_7 (List.mem_of_getElem? (i := 23) rfl)) rfl
theorem mw_1034 : Cond.methodLink RL 190 yX6_fits ∈ xB := xB_in (xtb_4 (List.mem_of_getElem? (i := 65) rfl)) rfl
theorem mw_1035 : Cond.instanceMethod yX6_fits ∈ xB := xB_in (xtb_4 (List.mem_of_getElem? (i := 66) rfl)) rfl
theorem mw_1036 : Cond.selects RX6 yX6_fits yX6_fits ∈ xB := xB_in (xtb_4 (List.mem_of_getElem? (i := 67) rfl)) rfl
theorem mw_1037 : Cond.code yX6_fits cX6_fits 7 (some .int) ∈ xB := xB_in (xtb_4 (List.mem_of_getElem? (i := 68) rfl)) rfl
theorem mw_1038 : Cond.methodLink RL 193 yX7_fits ∈ xB := xB_in (xtb_7 (List.mem_of_getElem? (i := 7) rfl)) rfl
theorem mw_1039 : Cond.instanceMethod yX7_fits ∈ xB := xB_in (xtb_7 (List.mem_of_getElem? (i := 8) rfl)) rfl
theorem mw_1040 : Cond.selects RX7 yX7_fits yX7_fits ∈ xB := xB_in (xtb_7 (List.mem_of_getElem? (i := 9) rfl)) rfl
theorem mw_1041 : Cond.code yX7_fits cX7_fits 5 (some .int) ∈ xB := xB_in (xtb_7 (List.mem_of_getElem? (i := 10) rfl)) rfl
theorem mw_1042 : Cond.methodLink RL 194 yX6_next ∈ xB := xB_in (xtb_4 (List.mem_of_getElem? (i := 69) rfl)) rfl
theorem mw_1043 : Cond.instanceMethod yX6_next ∈ xB := xB_in (xtb_4 (List.mem_of_getElem? (i := 70) rfl)) rfl
theorem mw_1044 : Cond.selects RX6 yX6_next yX6_next ∈ xB := xB_in (xtb_4 (List.mem_of_getElem? (i := 71) rfl)) rfl
theorem mw_1045 : Cond.code yX6_next cX6_next 5 (some .int) ∈ xB := xB_in (xtb_4 (List.mem_of_getElem? (i := 72) rfl)) rfl
theorem mw_1046 : Cond.methodLink RX6 272 yX0_hasRoom ∈ xB := xB_in (xtb_4 (List.mem_of_getElem? (i := 73) rfl)) rfl
theorem mw_1047 : Cond.methodLink RX6 273 yX0_partedBy ∈ xB := xB_in (xtb_4 (List.mem_of_getElem? (i := 74) rfl)) rfl
theorem mw_1048 : Cond.instanceMethod yX0_partedBy ∈ xB := xB_in (xtb_4 (List.mem_of_getElem? (i := 75) rfl)) rfl
theorem mw_1049 : Cond.selects RX0 yX0_partedBy yX0_partedBy ∈ xB := xB_in (xtb_4 (List.mem_of_getElem? (i := 76) rfl)) rfl
theorem mw_1050 : Cond.code yX0_partedBy cX0_partedBy 9 (some .int) ∈ xB := xB_in (xtb_4 (List.mem_of_getElem? (i := 77) rfl)) rfl
theorem mw_1051 : Cond.methodLink RX0 86 Lib.Math.min.name ∈ xB := xB_in (xtb_4 (List.mem_of_getElem? (i := 79) rfl)) rfl
theorem mw_1052 : Cond.methodLink RL 197 yX7_next_ ∈ xB := xB_in (xtb_7 (List.mem_of_getElem? (i := 24) rfl)) rfl
theorem mw_1053 : Cond.instanceMethod yX7_next_ ∈ xB := xB_in (xtb_7 (List.mem_of_getElem? (i := 25) rfl)) rfl
theorem mw_1054 : Cond.selects RX7 yX7_next_ yX7_next_ ∈ xB := xB_in (xtb_7 (List.mem_of_getElem? (i := 26) rfl)) rfl
theorem mw_1055 : Cond.code yX7_next_ cX7_next_ 5 (some .int) ∈ xB := xB_in (xtb_7 (List.mem_of_getElem? (i := 27) rfl)) rfl
theorem mw_1056 : Cond.methodLink RX7 284 yX7_parted ∈ xB := xB_in (xtb_7 (List.mem_of_getElem? (i := 28) rfl)) rfl
theorem mw_1057 : Cond.instanceMethod yX7_parted ∈ xB := xB_in (xtb_7 (List.mem_of_getElem? (i := 30) rfl)) rfl
theorem mw_1058 : Cond.selects RX7 yX7_parted yX7_parted ∈ xB := xB_in (xpv_4 (List.mem_of_getElem? (i := 8) rfl)) rfl
theorem mw_1059 : Cond.code yX7_parted cX7_parted 8 (some .int) ∈ xB := xB_in (xtb_7 (List.mem_of_getElem? (i := 31) rfl)) rfl
theorem mw_1060 : Cond.methodLink RX7 281 Lib.Math.min.name ∈ xB := xB_in (xtb_7 (List.mem_of_getElem? (i := 32) rfl)) rfl
theorem mw_1061 : Cond.methodLink RL 198 yX6_loudest ∈ xB := xB_in (xtb_4 (List.mem_of_getElem? (i := 80) rfl)) rfl
theorem mw_1062 : Cond.instanceMethod yX6_loudest ∈ xB := xB_in (xtb_4 (List.mem_of_getElem? (i := 81) rfl)) rfl
theorem mw_1063 : Cond.selects RX6 yX6_loudest yX6_loudest ∈ xB := xB_in (xtb_4 (List.mem_of_getElem? (i := 82) rfl)) rfl
theorem mw_1064 : Cond.code yX6_loudest cX6_loudest 3 (some .int) ∈ xB := xB_in (xtb_4 (List.mem_of_getElem? (i := 83) rfl)) rfl
theorem mw_1065 : Cond.methodLink RX6 282 yX0_loudestRing ∈ xB := xB_in (xtb_4 (List.mem_of_getElem? (i := 84) rfl)) rfl
theorem mw_1066 : Cond.instanceMethod yX0_loudestRing ∈ xB := xB_in (xtb_4 (List.mem_of_getElem? (i := 85) rfl)) rfl
theorem mw_1067 : Cond.selects RX0 yX0_loudestRing yX0_loudestRing ∈ xB := xB_in (xtb_4 (List.mem_of_getElem? (i := 86) rfl)) rfl
theorem mw_1068 : Cond.code yX0_loudestRing cX0_loudestRing 7 (some .int) ∈ xB := xB_in (xtb_4 (List.mem_of_getElem? (i := 87) rfl)) rfl
theorem mw_1069 : Cond.methodLink RX0 92 yJ6_bitCount_0f7a4 ∈ xB := xB_in (xtb_4 (List.mem_of_getElem? (i := 88) rfl)) rfl
theorem mw_1070 : Cond.methodLink RX0 97 yX0_sounds ∈ xB := xB_in (xtb_4 (List.mem_of_getElem? (i := 89) rfl)) rfl
theorem mw_1071 : Cond.methodLink RL 201 yX7_loudest ∈ xB := xB_in (xtb_6 (List.mem_of_getElem? (i := 227) rfl)) rfl
theorem mw_1072 : Cond.instanceMethod yX7_loudest ∈ xB := xB_in (xtb_6 (List.mem_of_getElem? (i := 228) rfl)) rfl
theorem mw_1073 : Cond.selects RX7 yX7_loudest yX7_loudest ∈ xB := xB_in (xtb_6 (List.mem_of_getElem? (i := 229) rfl)) rfl
theorem mw_1074 : Cond.code yX7_loudest cX7_loudest 7 (some .int) ∈ xB := xB_in (xtb_6 (List.mem_of_getElem? (i := 230) rfl)) rfl
theorem mw_1075 : Cond.methodLink RL 202 yX6_plan ∈ xB := xB_in (xtb_4 (List.mem_of_getElem? (i := 90) rfl)) rfl
theorem mw_1076 : Cond.instanceMethod yX6_plan ∈ xB := xB_in (xtb_4 (List.mem_of_getElem? (i := 91) rfl)) rfl
theorem mw_1077 : Cond.selects RX6 yX6_plan yX6_plan ∈ xB := xB_in (xtb_4 (List.mem_of_getElem? (i := 92) rfl)) rfl
theorem mw_1078 : Cond.code yX6_plan cX6_plan 3 (some .int) ∈ xB := xB_in (xtb_4 (List.mem_of_getElem? (i := 93) rfl)) rfl
theorem mw_1079 : Cond.methodLink RL 205 yX7_plan ∈ xB := xB_in (xtb_6 (List.mem_of_getElem? (i := 215) rfl)) rfl
theorem mw_1080 : Cond.instanceMethod yX7_plan ∈ xB := xB_in (xtb_6 (List.mem_of_getElem? (i := 216) rfl)) rfl
theorem mw_1081 : Cond.selects RX7 yX7_plan yX7_plan ∈ xB := xB_in (xtb_6 (List.mem_of_getElem? (i := 217) rfl)) rfl
theorem mw_1082 : Cond.code yX7_plan cX7_plan 3 (some .int) ∈ xB := xB_in (xtb_6 (List.mem_of_getElem? (i := 218) rfl)) rfl
theorem mw_1083 : Cond.methodLink RL 206 yX6_fill ∈ xB := xB_in (xtb_4 (List.mem_of_getElem? (i := 94) rfl)) rfl
theorem mw_1084 : Cond.instanceMethod yX6_fill ∈ xB := xB_in (xtb_4 (List.mem_of_getElem? (i := 95) rfl)) rfl
theorem mw_1085 : Cond.selects RX6 yX6_fill yX6_fill ∈ xB := xB_in (xtb_4 (List.mem_of_getElem? (i := 96) rfl)) rfl
theorem mw_1086 : Cond.code yX6_fill cX6_fill 3 (some .int) ∈ xB := xB_in (xtb_4 (List.mem_of_getElem? (i := 97) rfl)) rfl
theorem mw_1087 : Cond.methodLink RX6 285 yX0_leastRingHeardAt ∈ xB := xB_in (xtb_4 (List.mem_of_getElem? (i := 98) rfl)) rfl
theorem mw_1088 : Cond.instanceMethod yX0_leastRingHeardAt ∈ xB := xB_in (xtb_4 (List.mem_of_getElem? (i := 99) rfl)) rfl
theorem mw_1089 : Cond.selects RX0 yX0_leastRingHeardAt yX0_leastRingHeardAt ∈ xB := xB_in (xtb_4 (List.mem_of_getElem? (i := 100) rfl)) rfl
theorem mw_1090 : Cond.code yX0_leastRingHeardAt cX0_leastRingHeardAt 7 (some .int) ∈ xB := xB_in (xtb_4 (List.mem_of_getElem? (i := 101) rfl)) rfl
theorem mw_1091 : Cond.methodLink RL 209 yX7_fill ∈ xB := xB_in (xtb_6 (List.mem_of_getElem? (i := 219) rfl)) rfl
theorem mw_1092 : Cond.instanceMethod yX7_fill ∈ xB := xB_in (xtb_6 (List.mem_of_getElem? (i := 220) rfl)) rfl
theorem mw_1093 : Cond.selects RX7 yX7_fill yX7_fill ∈ xB := xB_in (xtb_6 (List.mem_of_getElem? (i := 221) rfl)) rfl
theorem mw_1094 : Cond.code yX7_fill cX7_fill 5 (some .int) ∈ xB := xB_in (xtb_6 (List.mem_of_getElem? (i := 222) rfl)) rfl
theorem mw_1095 : Cond.methodLink RX7 270 yX7_heardBits ∈ xB := xB_in (xtb_6 (List.mem_of_getElem? (i := 223) rfl)) rfl
theorem mw_1096 : Cond.instanceMethod yX7_heardBits ∈ xB := xB_in (xtb_6 (List.mem_of_getElem? (i := 225) rfl)) rfl
theorem mw_1097 : Cond.selects RX7 yX7_heardBits yX7_heardBits ∈ xB := xB_in (xpv_4 (List.mem_of_getElem? (i := 5) rfl)) rfl
theorem mw_1098 : Cond.code yX7_heardBits cX7_heardBits 7 (some .long) ∈ xB := xB_in (xtb_6 (List.mem_of_getElem? (i := 226) rfl)) rfl
theorem mw_1099 : Cond.methodLink RL 210 yX6_round ∈ xB := xB_in (xtb_4 (List.mem_of_getElem? (i := 102) rfl)) rfl
theorem mw_1100 : Cond.instanceMethod yX6_round ∈ xB := xB_in (xtb_4 (List.mem_of_getElem? (i := 103) rfl)) rfl
theorem mw_1101 : Cond.selects RX6 yX6_round yX6_round ∈ xB := xB_in (xtb_4 (List.mem_of_getElem? (i := 104) rfl)) rfl
theorem mw_1102 : Cond.code yX6_round cX6_round 6 (some .int) ∈ xB := xB_in (xtb_4 (List.mem_of_getElem? (i := 105) rfl)) rfl
theorem mw_1103 : Cond.methodLink RL 213 yX7_round ∈ xB := xB_in (xtb_6 (List.mem_of_getElem? (i := 123) rfl)) rfl
theorem mw_1104 : Cond.instanceMethod yX7_round ∈ xB := xB_in (xtb_6 (List.mem_of_getElem? (i := 124) rfl)) rfl
theorem mw_1105 : Cond.selects RX7 yX7_round yX7_round ∈ xB := xB_in (xtb_6 (List.mem_of_getElem? (i := 125) rfl)) rfl
theorem mw_1106 : Cond.code yX7_round cX7_round 4 (some .int) ∈ xB := xB_in (xtb_6 (List.mem_of_getElem? (i := 126) rfl)) rfl
theorem mw_1107 : Cond.methodLink RL 214 yX6_day ∈ xB := xB_in (xtb_4 (List.mem_of_getElem? (i := 106) rfl)) rfl
theorem mw_1108 : Cond.instanceMethod yX6_day ∈ xB := xB_in (xtb_4 (List.mem_of_getElem? (i := 107) rfl)) rfl
theorem mw_1109 : Cond.selects RX6 yX6_day yX6_day ∈ xB := xB_in (xtb_4 (List.mem_of_getElem? (i := 108) rfl)) rfl
theorem mw_1110 : Cond.code yX6_day cX6_day 5 (some .int) ∈ xB := xB_in (xtb_4 (List.mem_of_getElem? (i := 109) rfl)) rfl
theorem mw_1111 : Cond.methodLink RX6 288 yX6_areDivisors ∈ xB := xB_in (xtb_4 (List.mem_of_getElem? (i := 110) rfl)) rfl
theorem mw_1112 : Cond.static yX6_areDivisors ∈ xB := xB_in (xtb_4 (List.mem_of_getElem? (i := 111) rfl)) rfl
theorem mw_1113 : Cond.code yX6_areDivisors cX6_areDivisors 2 (some .boolean) ∈ xB := xB_in (xtb_4 (List.mem_of_getElem? (i := 112) rfl)) rfl
theorem mw_1114 : Cond.methodLink RX6 291 yX6_firstDay ∈ xB := xB_in (xtb_4 (List.mem_of_getElem? (i := 113) rfl)) rfl
theorem mw_1115 : Cond.static yX6_firstDay ∈ xB := xB_in (xtb_4 (List.mem_of_getElem? (i := 114) rfl)) rfl
theorem mw_1116 : Cond.code yX6_firstDay cX6_firstDay 6 (some .int) ∈ xB := xB_in (xtb_4 (List.mem_of_getElem? (i := 115) rfl)) rfl
theorem mw_1117 : Cond.methodLink RX6 359 yX6_leaves ∈ xB := xB_in (xtb_4 (List.mem_of_getElem? (i := 116) rfl)) rfl
theorem mw_1118 : Cond.static yX6_leaves ∈ xB := xB_in (xtb_4 (List.mem_of_getElem? (i := 117) rfl)) rfl
theorem mw_1119 : Cond.code yX6_leaves cX6_leaves 3 (some .boolean) ∈ xB := xB_in (xtb_4 (List.mem_of_getElem? (i := 118) rfl)) rfl
theorem mw_1120 : Cond.methodLink RL 218 yX7_day ∈ xB := xB_in (xtb_7 (List.mem_of_getElem? (i := 33) rfl)) rfl
theorem mw_1121 : Cond.instanceMethod yX7_day ∈ xB := xB_in (xtb_7 (List.mem_of_getElem? (i := 34) rfl)) rfl
theorem mw_1122 : Cond.selects RX7 yX7_day yX7_day ∈ xB := xB_in (xtb_7 (List.mem_of_getElem? (i := 35) rfl)) rfl
theorem mw_1123 : Cond.code yX7_day cX7_day 6 (some .int) ∈ xB := xB_in (xtb_7 (List.mem_of_getElem? (i := 36) rfl)) rfl
theorem mw_1124 : Cond.methodLink RL 219 yX6_tolls ∈ xB := xB_in (xtb_4 (List.mem_of_getElem? (i := 119) rfl)) rfl
theorem mw_1125 : Cond.instanceMethod yX6_tolls ∈ xB := xB_in (xtb_4 (List.mem_of_getElem? (i := 120) rfl)) rfl
theorem mw_1126 : Cond.selects RX6 yX6_tolls yX6_tolls ∈ xB := xB_in (xtb_4 (List.mem_of_getElem? (i := 121) rfl)) rfl
theorem mw_1127 : Cond.code yX6_tolls cX6_tolls 3 (some .int) ∈ xB := xB_in (xtb_4 (List.mem_of_getElem? (i := 122) rfl)) rfl
theorem mw_1128 : Cond.methodLink RX6 295 yX3_howManySets ∈ xB := xB_in (xtb_4 (List.mem_of_getElem? (i := 123) rfl)) rfl
theorem mw_1129 : Cond.instanceMethod yX3_howManySets ∈ xB := xB_in (xtb_4 (List.mem_of_getElem? (i := 124) rfl)) rfl
theorem mw_1130 : Cond.selects RX3 yX3_howManySets yX3_howManySets ∈ xB := xB_in (xtb_4 (List.mem_of_getElem? (i := 125) rfl)) rfl
theorem mw_1131 : Cond.code yX3_howManySets cX3_howManySets 4 (some .int) ∈ xB := xB_in (xtb_4 (List.mem_of_getElem? (i := 126) rfl)) rfl
theorem mw_1132 : Cond.methodLink RX3 43 yX3_agesOf ∈ xB := xB_in (xtb_4 (List.mem_of_getElem? (i := 127) rfl)) rfl
theorem mw_1133 : Cond.instanceMethod yX3_agesOf ∈ xB := xB_in (xtb_4 (List.mem_of_getElem? (i := 128) rfl)) rfl
theorem mw_1134 : Cond.selects RX3 yX3_agesOf yX3_agesOf ∈ xB := xB_in (xtb_4 (List.mem_of_getElem? (i := 129) rfl)) rfl
theorem mw_1135 : Cond.code yX3_agesOf cX3_agesOf 4 (some .int) ∈ xB := xB_in (xtb_4 (List.mem_of_getElem? (i := 130) rfl)) rfl
theorem mw_1136 : Cond.methodLink RX6 298 yX3_smallestSet ∈ xB := xB_in (xtb_4 (List.mem_of_getElem? (i := 132) rfl)) rfl
theorem mw_1137 : Cond.instanceMethod yX3_smallestSet ∈ xB := xB_in (xtb_4 (List.mem_of_getElem? (i := 133) rfl)) rfl
theorem mw_1138 : Cond.selects RX3 yX3_smallestSet yX3_smallestSet ∈ xB := xB_in (xtb_4 (List.mem_of_getElem? (i := 134) rfl)) rfl
theorem mw_1139 : Cond.code yX3_smallestSet cX3_smallestSet 6 (some .int) ∈ xB := xB_in (xtb_4 (List.mem_of_getElem? (i := 135) rfl)) rfl
theorem mw_1140 : Cond.methodLink RX3 46 yJ6_bitCount_0f7a4 ∈ xB := xB_in (xtb_4 (List.mem_of_getElem? (i := 136) rfl)) rfl
theorem mw_1141 : Cond.methodLink RL 222 yX7_tolls ∈ xB := xB_in (xtb_7 (List.mem_of_getElem? (i := 37) rfl)) rfl
theorem mw_1142 : Cond.instanceMethod yX7_tolls ∈ xB := xB_in (xtb_7 (List.mem_of_getElem? (i := 38) rfl)) rfl
theorem mw_1143 : Cond.selects RX7 yX7_tolls yX7_tolls ∈ xB := xB_in (xtb_7 (List.mem_of_getElem? (i := 39) rfl)) rfl
theorem mw_1144 : Cond.code yX7_tolls cX7_tolls 6 (some .int) ∈ xB := xB_in (xtb_7 (List.mem_of_getElem? (i := 40) rfl)) rfl
theorem mw_1145 : Cond.methodLink RX7 288 yX7_ageOf ∈ xB := xB_in (xtb_7 (List.mem_of_getElem? (i := 41) rfl)) rfl
theorem mw_1146 : Cond.instanceMethod yX7_ageOf ∈ xB := xB_in (xtb_7 (List.mem_of_getElem? (i := 43) rfl)) rfl
theorem mw_1147 : Cond.selects RX7 yX7_ageOf yX7_ageOf ∈ xB := xB_in (xpv_4 (List.mem_of_getElem? (i := 9) rfl)) rfl
theorem mw_1148 : Cond.code yX7_ageOf cX7_ageOf 4 (some .int) ∈ xB := xB_in (xtb_7 (List.mem_of_getElem? (i := 44) rfl)) rfl
theorem mw_1149 : Cond.methodLink RL 223 yX6_meet ∈ xB := xB_in (xtb_4 (List.mem_of_getElem? (i := 137) rfl)) rfl
theorem mw_1150 : Cond.instanceMethod yX6_meet ∈ xB := xB_in (xtb_4 (List.mem_of_getElem? (i := 138) rfl)) rfl
theorem mw_1151 : Cond.selects RX6 yX6_meet yX6_meet ∈ xB := xB_in (xtb_4 (List.mem_of_getElem? (i := 139) rfl)) rfl
theorem mw_1152 : Cond.code yX6_meet cX6_meet 3 (some .int) ∈ xB := xB_in (xtb_4 (List.mem_of_getElem? (i := 140) rfl)) rfl
theorem mw_1153 : Cond.methodLink RL 226 yX7_meet ∈ xB := xB_in (xtb_7 (List.mem_of_getElem? (i := 45) rfl)) rfl
theorem mw_1154 : Cond.instanceMethod yX7_meet ∈ xB := xB_in (xtb_7 (List.mem_of_getElem? (i := 46) rfl)) rfl
theorem mw_1155 : Cond.selects RX7 yX7_meet yX7_meet ∈ xB := xB_in (xtb_7 (List.mem_of_getElem? (i := 47) rfl)) rfl
theorem mw_1156 : Cond.code yX7_meet cX7_meet 4 (some .int) ∈ xB := xB_in (xtb_7 (List.mem_of_getElem? (i := 48) rfl)) rfl
theorem mw_1157 : Cond.methodLink RL 227 yX6_sum ∈ xB := xB_in (xtb_4 (List.mem_of_getElem? (i := 141) rfl)) rfl
theorem mw_1158 : Cond.instanceMethod yX6_sum ∈ xB := xB_in (xtb_4 (List.mem_of_getElem? (i := 142) rfl)) rfl
theorem mw_1159 : Cond.selects RX6 yX6_sum yX6_sum ∈ xB := xB_in (xtb_4 (List.mem_of_getElem? (i := 143) rfl)) rfl
theorem mw_1160 : Cond.code yX6_sum cX6_sum 2 (some .int) ∈ xB := xB_in (xtb_4 (List.mem_of_getElem? (i := 144) rfl)) rfl
theorem mw_1161 : Cond.methodLink RX6 302 yX3_agesOf ∈ xB := xB_in (xtb_4 (List.mem_of_getElem? (i := 145) rfl)) rfl
theorem mw_1162 : Cond.methodLink RL 230 yX7_sum ∈ xB := xB_in (xtb_7 (List.mem_of_getElem? (i := 49) rfl)) rfl
theorem mw_1163 : Cond.instanceMethod yX7_sum ∈ xB := xB_in (xtb_7 (List.mem_of_getElem? (i := 50) rfl)) rfl
theorem mw_1164 : Cond.selects RX7 yX7_sum yX7_sum ∈ xB := xB_in (xtb_7 (List.mem_of_getElem? (i := 51) rfl)) rfl
theorem mw_1165 : Cond.code yX7_sum cX7_sum 2 (some .int) ∈ xB := xB_in (xtb_7 (List.mem_of_getElem? (i := 52) rfl)) rfl
theorem mw_1166 : Cond.methodLink RL 231 yX6_reached ∈ xB := xB_in (xtb_4 (List.mem_of_getElem? (i := 146) rfl)) rfl
theorem mw_1167 : Cond.instanceMethod yX6_reached ∈ xB := xB_in (xtb_4 (List.mem_of_getElem? (i := 147) rfl)) rfl
theorem mw_1168 : Cond.selects RX6 yX6_reached yX6_reached ∈ xB := xB_in (xtb_4 (List.mem_of_getElem? (i := 148) rfl)) rfl
theorem mw_1169 : Cond.code yX6_reached cX6_reached 2 (some .int) ∈ xB := xB_in (xtb_4 (List.mem_of_getElem? (i := 149) rfl)) rfl
theorem mw_1170 : Cond.methodLink RX6 305 yX3_howManySums ∈ xB := xB_in (xtb_4 (List.mem_of_getElem? (i := 150) rfl)) rfl
theorem mw_1171 : Cond.instanceMethod yX3_howManySums ∈ xB := xB_in (xtb_4 (List.mem_of_getElem? (i := 151) rfl)) rfl
theorem mw_1172 : Cond.selects RX3 yX3_howManySums yX3_howManySums ∈ xB := xB_in (xtb_4 (List.mem_of_getElem? (i := 152) rfl)) rfl
theorem mw_1173 : Cond.code yX3_howManySums cX3_howManySums 4 (some .int) ∈ xB := xB_in (xtb_4 (List.mem_of_getElem? (i := 153) rfl)) rfl
theorem mw_1174 : Cond.methodLink RX3 51 yX3_mark ∈ xB := xB_in (xtb_4 (List.mem_of_getElem? (i := 154) rfl)) rfl
theorem mw_1175 : Cond.instanceMethod yX3_mark ∈ xB := xB_in (xtb_4 (List.mem_of_getElem? (i := 156) rfl)) rfl
theorem mw_1176 : Cond.selects RX3 yX3_mark yX3_mark ∈ xB := xB_in (xpv_2 (List.mem_of_getElem? (i := 3) rfl)) rfl
theorem mw_1177 : Cond.code yX3_mark cX3_mark 3 none ∈ xB := xB_in (xtb_4 (List.mem_of_getElem? (i := 157) rfl)) rfl
theorem mw_1178 : Cond.methodLink RX3 55 yJ13_bitCount_95d88 ∈ xB := xB_in (xtb_4 (List.mem_of_getElem? (i := 158) rfl)) rfl
theorem mw_1179 : Cond.methodLink RL 234 yX7_reached ∈ xB := xB_in (xtb_7 (List.mem_of_getElem? (i := 53) rfl)) rfl
theorem mw_1180 : Cond.instanceMethod yX7_reached ∈ xB := xB_in (xtb_7 (List.mem_of_getElem? (i := 54) rfl)) rfl
theorem mw_1181 : Cond.selects RX7 yX7_reached yX7_reached ∈ xB := xB_in (xtb_7 (List.mem_of_getElem? (i := 55) rfl)) rfl
theorem mw_1182 : Cond.code yX7_reached cX7_reached 4 (some .int) ∈ xB := xB_in (xtb_7 (List.mem_of_getElem? (i := 56) rfl)) rfl
theorem mw_1183 : Cond.methodLink RL 235 yX6_halves ∈ xB := xB_in (xtb_4 (List.mem_of_getElem? (i := 159) rfl)) rfl
theorem mw_1184 : Cond.instanceMethod yX6_halves ∈ xB := xB_in (xtb_4 (List.mem_of_getElem? (i := 160) rfl)) rfl
theorem mw_1185 : Cond.selects RX6 yX6_halves yX6_halves ∈ xB := xB_in (xtb_4 (List.mem_of_getElem? (i := 161) rfl)) rfl
theorem mw_1186 : Cond.code yX6_halves cX6_halves 1 (some .int) ∈ xB := xB_in (xtb_4 (List.mem_of_getElem? (i := 162) rfl)) rfl
theorem mw_1187 : Cond.methodLink RX6 308 yX3_nearestToHalf ∈ xB := xB_in (xtb_4 (List.mem_of_getElem? (i := 163) rfl)) rfl
theorem mw_1188 : Cond.instanceMethod yX3_nearestToHalf ∈ xB := xB_in (xtb_4 (List.mem_of_getElem? (i := 164) rfl)) rfl
theorem mw_1189 : Cond.selects RX3 yX3_nearestToHalf yX3_nearestToHalf ∈ xB := xB_in (xtb_4 (List.mem_of_getElem? (i := 165) rfl)) rfl
theorem mw_1190 : Cond.code yX3_nearestToHalf cX3_nearestToHalf 6 (some .int) ∈ xB := xB_in (xtb_4 (List.mem_of_getElem? (i := 166) rfl)) rfl
theorem mw_1191 : Cond.methodLink RX3 64 Lib.Math.abs.name ∈ xB := xB_in (xtb_4 (List.mem_of_getElem? (i := 171) rfl)) rfl
theorem mw_1192 : Cond.static Lib.Math.abs.name ∈ xB := xB_in (xtb_4 (List.mem_of_getElem? (i := 172) rfl)) rfl
theorem mw_1193 : Cond.code Lib.Math.abs.name Lib.Math.abs.code 1 (some .int) ∈ xB := xB_in (xtb_4 (List.mem_of_getElem? (i := 173) (by decide +kernel))) rfl
theorem mw_1194 : Cond.methodLink RX3 60 yX3_agesOfAll ∈ xB := xB_in (xtb_4 (List.mem_of_getElem? (i := 167) rfl)) rfl
theorem mw_1195 : Cond.instanceMethod yX3_agesOfAll ∈ xB := xB_in (xtb_4 (List.mem_of_getElem? (i := 168) rfl)) rfl
theorem mw_1196 : Cond.selects RX3 yX3_agesOfAll yX3_agesOfAll ∈ xB := xB_in (xtb_4 (List.mem_of_getElem? (i := 169) rfl)) rfl
theorem mw_1197 : Cond.code yX3_agesOfAll cX3_agesOfAll 1 (some .int) ∈ xB := xB_in (xtb_4 (List.mem_of_getElem? (i := 170) rfl)) rfl
theorem mw_1198 : Cond.methodLink RL 238 yX7_halves ∈ xB := xB_in (xtb_7 (List.mem_of_getElem? (i := 57) rfl)) rfl
theorem mw_1199 : Cond.instanceMethod yX7_halves ∈ xB := xB_in (xtb_7 (List.mem_of_getElem? (i := 58) rfl)) rfl
theorem mw_1200 : Cond.selects RX7 yX7_halves yX7_halves ∈ xB := xB_in (xtb_7 (List.mem_of_getElem? (i := 59) rfl)) rfl
theorem mw_1201 : Cond.code yX7_halves cX7_halves 4 (some .int) ∈ xB := xB_in (xtb_7 (List.mem_of_getElem? (i := 60) rfl)) rfl
theorem mw_1202 : Cond.methodLink RX7 291 Lib.Math.abs.name ∈ xB := xB_in (xtb_7 (List.mem_of_getElem? (i := 61) rfl)) rfl
theorem mw_1203 : Cond.methodLink RL 239 yX6_ranked ∈ xB := xB_in (xtb_4 (List.mem_of_getElem? (i := 174) rfl)) rfl
theorem mw_1204 : Cond.instanceMethod yX6_ranked ∈ xB := xB_in (xtb_4 (List.mem_of_getElem? (i := 175) rfl)) rfl
theorem mw_1205 : Cond.selects RX6 yX6_ranked yX6_ranked ∈ xB := xB_in (xtb_4 (List.mem_of_getElem? (i := 176) rfl)) rfl
theorem mw_1206 : Cond.code yX6_ranked cX6_ranked 2 (some .int) ∈ xB := xB_in (xtb_4 (List.mem_of_getElem? (i := 177) rfl)) rfl
theorem mw_1207 : Cond.methodLink RX6 311 yX3_withRank ∈ xB := xB_in (xtb_4 (List.mem_of_getElem? (i := 178) rfl)) rfl
theorem mw_1208 : Cond.instanceMethod yX3_withRank ∈ xB := xB_in (xtb_4 (List.mem_of_getElem? (i := 179) rfl)) rfl
theorem mw_1209 : Cond.selects RX3 yX3_withRank yX3_withRank ∈ xB := xB_in (xtb_4 (List.mem_of_getElem? (i := 180) rfl)) rfl
theorem mw_1210 : Cond.code yX3_withRank cX3_withRank 3 (some .int) ∈ xB := xB_in (xtb_4 (List.mem_of_getElem? (i := 181) rfl)) rfl
theorem mw_1211 : Cond.methodLink RX3 69 yX3_rankOf ∈ xB := xB_in (xtb_4 (List.mem_of_getElem? (i := 182) rfl)) rfl
theorem mw_1212 : Cond.instanceMethod yX3_rankOf ∈ xB := xB_in (xtb_4 (List.mem_of_getElem? (i := 184) rfl)) rfl
theorem mw_1213 : Cond.selects RX3 yX3_rankOf yX3_rankOf ∈ xB := xB_in (xpv_2 (List.mem_of_getElem? (i := 4) rfl)) rfl
theorem mw_1214 : Cond.code yX3_rankOf cX3_rankOf 4 (some .int) ∈ xB := xB_in (xtb_4 (List.mem_of_getElem? (i := 185) rfl)) rfl
theorem mw_1215 : Cond.methodLink RL 242 yX7_ranked ∈ xB := xB_in (xtb_7 (List.mem_of_getElem? (i := 62) rfl)) rfl
theorem mw_1216 : Cond.instanceMethod yX7_ranked ∈ xB := xB_in (xtb_7 (List.mem_of_getElem? (i := 63) rfl)) rfl
theorem mw_1217 : Cond.selects RX7 yX7_ranked yX7_ranked ∈ xB := xB_in (xtb_7 (List.mem_of_getElem? (i := 64) rfl)) rfl
theorem mw_1218 : Cond.code yX7_ranked cX7_ranked 5 (some .int) ∈ xB := xB_in (xtb_7 (List.mem_of_getElem? (i := 65) rfl)) rfl
theorem mw_1219 : Cond.methodLink RL 243 yX6_oldest ∈ xB := xB_in (xtb_4 (List.mem_of_getElem? (i := 186) rfl)) rfl
theorem mw_1220 : Cond.instanceMethod yX6_oldest ∈ xB := xB_in (xtb_4 (List.mem_of_getElem? (i := 187) rfl)) rfl
theorem mw_1221 : Cond.selects RX6 yX6_oldest yX6_oldest ∈ xB := xB_in (xtb_4 (List.mem_of_getElem? (i := 188) rfl)) rfl
theorem mw_1222 : Cond.code yX6_oldest cX6_oldest 1 (some .int) ∈ xB := xB_in (xtb_4 (List.mem_of_getElem? (i := 189) rfl)) rfl
theorem mw_1223 : Cond.methodLink RX6 314 yX3_firstOldest ∈ xB := xB_in (xtb_4 (List.mem_of_getElem? (i := 190) rfl)) rfl
theorem mw_1224 : Cond.instanceMethod yX3_firstOldest ∈ xB := xB_in (xtb_4 (List.mem_of_getElem? (i := 191) rfl)) rfl
theorem mw_1225 : Cond.selects RX3 yX3_firstOldest yX3_firstOldest ∈ xB := xB_in (xtb_4 (List.mem_of_getElem? (i := 192) rfl)) rfl
theorem mw_1226 : Cond.code yX3_firstOldest cX3_firstOldest 3 (some .int) ∈ xB := xB_in (xtb_4 (List.mem_of_getElem? (i := 193) rfl)) rfl
theorem mw_1227 : Cond.methodLink RL 246 yX7_oldest ∈ xB := xB_in (xtb_7 (List.mem_of_getElem? (i := 66) rfl)) rfl
theorem mw_1228 : Cond.instanceMethod yX7_oldest ∈ xB := xB_in (xtb_7 (List.mem_of_getElem? (i := 67) rfl)) rfl
theorem mw_1229 : Cond.selects RX7 yX7_oldest yX7_oldest ∈ xB := xB_in (xtb_7 (List.mem_of_getElem? (i := 68) rfl)) rfl
theorem mw_1230 : Cond.code yX7_oldest cX7_oldest 3 (some .int) ∈ xB := xB_in (xtb_7 (List.mem_of_getElem? (i := 69) rfl)) rfl
theorem mw_1231 : Cond.methodLink RL 247 yX6_judge ∈ xB := xB_in (xtb_4 (List.mem_of_getElem? (i := 194) rfl)) rfl
theorem mw_1232 : Cond.instanceMethod yX6_judge ∈ xB := xB_in (xtb_4 (List.mem_of_getElem? (i := 195) rfl)) rfl
theorem mw_1233 : Cond.selects RX6 yX6_judge yX6_judge ∈ xB := xB_in (xtb_4 (List.mem_of_getElem? (i := 196) rfl)) rfl
theorem mw_1234 : Cond.code yX6_judge cX6_judge 4 (some .int) ∈ xB := xB_in (xtb_4 (List.mem_of_getElem? (i := 197) rfl)) rfl
theorem mw_1235 : Cond.methodLink RX6 317 yX6_refusalOfToldRow ∈ xB := xB_in (xtb_4 (List.mem_of_getElem? (i := 198) rfl)) rfl
theorem mw_1236 : Cond.instanceMethod yX6_refusalOfToldRow ∈ xB := xB_in (xtb_4 (List.mem_of_getElem? (i := 200) rfl)) rfl
theorem mw_1237 : Cond.selects RX6 yX6_refusalOfToldRow yX6_refusalOfToldRow ∈ xB := xB_in (xpv_2 (List.mem_of_getElem? (i := 5) rfl)) rfl
theorem mw_1238 : Cond.code yX6_refusalOfToldRow cX6_refusalOfToldRow 4 (some .int) ∈ xB := xB_in (xtb_4 (List.mem_of_getElem? (i := 201) rfl)) rfl
theorem mw_1239 : Cond.methodLink RX6 320 yX4_firstWrong ∈ xB := xB_in (xtb_4 (List.mem_of_getElem? (i := 202) rfl)) rfl
theorem mw_1240 : Cond.instanceMethod yX4_firstWrong ∈ xB := xB_in (xtb_4 (List.mem_of_getElem? (i := 203) rfl)) rfl
theorem mw_1241 : Cond.selects RX4 yX4_firstWrong yX4_firstWrong ∈ xB := xB_in (xtb_4 (List.mem_of_getElem? (i := 204) rfl)) rfl
theorem mw_1242 : Cond.code yX4_firstWrong cX4_firstWrong 4 (some .int) ∈ xB := xB_in (xtb_4 (List.mem_of_getElem? (i := 205) rfl)) rfl
theorem mw_1243 : Cond.methodLink RL 250 yX7_judge ∈ xB := xB_in (xtb_7 (List.mem_of_getElem? (i := 70) rfl)) rfl
theorem mw_1244 : Cond.instanceMethod yX7_judge ∈ xB := xB_in (xtb_7 (List.mem_of_getElem? (i := 71) rfl)) rfl
theorem mw_1245 : Cond.selects RX7 yX7_judge yX7_judge ∈ xB := xB_in (xtb_7 (List.mem_of_getElem? (i := 72) rfl)) rfl
theorem mw_1246 : Cond.code yX7_judge cX7_judge 4 (some .int) ∈ xB := xB_in (xtb_7 (List.mem_of_getElem? (i := 73) rfl)) rfl
theorem mw_1247 : Cond.methodLink RX7 298 yX7_noRing ∈ xB := xB_in (xtb_7 (List.mem_of_getElem? (i := 74) rfl)) rfl
theorem mw_1248 : Cond.instanceMethod yX7_noRing ∈ xB := xB_in (xtb_7 (List.mem_of_getElem? (i := 76) rfl)) rfl
theorem mw_1249 : Cond.selects RX7 yX7_noRing yX7_noRing ∈ xB := xB_in (xpv_4 (List.mem_of_getElem? (i := 10) rfl)) rfl
theorem mw_1250 : Cond.code yX7_noRing cX7_noRing 3 (some .int) ∈ xB := xB_in (xtb_7 (List.mem_of_getElem? (i := 77) rfl)) rfl
theorem mw_1251 : Cond.methodLink RX7 301 yX7_wrong ∈ xB := xB_in (xtb_7 (List.mem_of_getElem? (i := 78) rfl)) rfl
theorem mw_1252 : Cond.instanceMethod yX7_wrong ∈ xB := xB_in (xtb_7 (List.mem_of_getElem? (i := 80) rfl)) rfl
theorem mw_1253 : Cond.selects RX7 yX7_wrong yX7_wrong ∈ xB := xB_in (xpv_4 (List.mem_of_getElem? (i := 11) rfl)) rfl
theorem mw_1254 : Cond.code yX7_wrong cX7_wrong 4 (some .int) ∈ xB := xB_in (xtb_7 (List.mem_of_getElem? (i := 81) rfl)) rfl
theorem mw_1255 : Cond.methodLink RX7 294 yX7_toldAt ∈ xB := xB_in (xtb_7 (List.mem_of_getElem? (i := 82) rfl)) rfl
theorem mw_1256 : Cond.instanceMethod yX7_toldAt ∈ xB := xB_in (xtb_7 (List.mem_of_getElem? (i := 84) rfl)) rfl
theorem mw_1257 : Cond.selects RX7 yX7_toldAt yX7_toldAt ∈ xB := xB_in (xpv_4 (List.mem_of_getElem? (i := 12) rfl)) rfl
theorem mw_1258 : Cond.code yX7_toldAt cX7_toldAt 3 (some .long) ∈ xB := xB_in (xtb_7 (List.mem_of_getElem? (i := 85) rfl)) rfl
theorem mw_1259 : Cond.methodLink RL 251 yX6_answers ∈ xB := xB_in (xtb_4 (List.mem_of_getElem? (i := 206) rfl)) rfl
theorem mw_1260 : Cond.instanceMethod yX6_answers ∈ xB := xB_in (xtb_4 (List.mem_of_getElem? (i := 207) rfl)) rfl
theorem mw_1261 : Cond.selects RX6 yX6_answers yX6_answers ∈ xB := xB_in (xtb_4 (List.mem_of_getElem? (i := 208) rfl)) rfl
theorem mw_1262 : Cond.code yX6_answers cX6_answers 7 (some .int) ∈ xB := xB_in (xtb_4 (List.mem_of_getElem? (i := 209) rfl)) rfl
theorem mw_1263 : Cond.methodLink RX6 323 yX6_refusalOfToldRing ∈ xB := xB_in (xtb_4 (List.mem_of_getElem? (i := 210) rfl)) rfl
theorem mw_1264 : Cond.instanceMethod yX6_refusalOfToldRing ∈ xB := xB_in (xtb_4 (List.mem_of_getElem? (i := 212) rfl)) rfl
theorem mw_1265 : Cond.selects RX6 yX6_refusalOfToldRing yX6_refusalOfToldRing ∈ xB := xB_in (xpv_2 (List.mem_of_getElem? (i := 6) rfl)) rfl
theorem mw_1266 : Cond.code yX6_refusalOfToldRing cX6_refusalOfToldRing 4 (some .int) ∈ xB := xB_in (xtb_4 (List.mem_of_getElem? (i := 213) rfl)) rfl
theorem mw_1267 : Cond.methodLink RX6 326 yX2_struck ∈ xB := xB_in (xtb_4 (List.mem_of_getElem? (i := 214) rfl)) rfl
theorem mw_1268 : Cond.methodLink RL 254 yX7_answers ∈ xB := xB_in (xtb_7 (List.mem_of_getElem? (i := 86) rfl)) rfl
theorem mw_1269 : Cond.instanceMethod yX7_answers ∈ xB := xB_in (xtb_7 (List.mem_of_getElem? (i := 87) rfl)) rfl
theorem mw_1270 : Cond.selects RX7 yX7_answers yX7_answers ∈ xB := xB_in (xtb_7 (List.mem_of_getElem? (i := 88) rfl)) rfl
theorem mw_1271 : Cond.code yX7_answers cX7_answers 7 (some .int) ∈ xB := xB_in (xtb_7 (List.mem_of_getElem? (i := 89) rfl)) rfl
theorem mw_1272 : Cond.methodLink RX7 304 yX7_told ∈ xB := xB_in (xtb_7 (List.mem_of_getElem? (i := 90) rfl)) rfl
theorem mw_1273 : Cond.instanceMethod yX7_told ∈ xB := xB_in (xtb_7 (List.mem_of_getElem? (i := 92) rfl)) rfl
theorem mw_1274 : Cond.selects RX7 yX7_told yX7_told ∈ xB := xB_in (xpv_4 (List.mem_of_getElem? (i := 13) rfl)) rfl
theorem mw_1275 : Cond.code yX7_told cX7_told 6 (some .long) ∈ xB := xB_in (xtb_7 (List.mem_of_getElem? (i := 93) rfl)) rfl
theorem mw_1276 : Cond.methodLink RL 255 yX6_rings ∈ xB := xB_in (xtb_4 (List.mem_of_getElem? (i := 215) rfl)) rfl
theorem mw_1277 : Cond.instanceMethod yX6_rings ∈ xB := xB_in (xtb_4 (List.mem_of_getElem? (i := 216) rfl)) rfl
theorem mw_1278 : Cond.selects RX6 yX6_rings yX6_rings ∈ xB := xB_in (xtb_4 (List.mem_of_getElem? (i := 217) rfl)) rfl
theorem mw_1279 : Cond.code yX6_rings cX6_rings 4 (some .int) ∈ xB := xB_in (xtb_4 (List.mem_of_getElem? (i := 218) rfl)) rfl
theorem mw_1280 : Cond.methodLink RL 258 yX7_rings ∈ xB := xB_in (xtb_7 (List.mem_of_getElem? (i := 94) rfl)) rfl
theorem mw_1281 : Cond.instanceMethod yX7_rings ∈ xB := xB_in (xtb_7 (List.mem_of_getElem? (i := 95) rfl)) rfl
theorem mw_1282 : Cond.selects RX7 yX7_rings yX7_rings ∈ xB := xB_in (xtb_7 (List.mem_of_getElem? (i := 96) rfl)) rfl
theorem mw_1283 : Cond.code yX7_rings cX7_rings 4 (some .int) ∈ xB := xB_in (xtb_7 (List.mem_of_getElem? (i := 97) rfl)) rfl
theorem mw_1284 : Cond.methodLink RL 259 yX6_ring ∈ xB := xB_in (xtb_4 (List.mem_of_getElem? (i := 219) rfl)) rfl
theorem mw_1285 : Cond.instanceMethod yX6_ring ∈ xB := xB_in (xtb_4 (List.mem_of_getElem? (i := 220) rfl)) rfl
theorem mw_1286 : Cond.selects RX6 yX6_ring yX6_ring ∈ xB := xB_in (xtb_4 (List.mem_of_getElem? (i := 221) rfl)) rfl
theorem mw_1287 : Cond.code yX6_ring cX6_ring 2 (some .int) ∈ xB := xB_in (xtb_4 (List.mem_of_getElem? (i := 222) rfl)) rfl
theorem mw_1288 : Cond.methodLink RX6 329 yX0_strikesInTruth ∈ xB := xB_in (xtb_4 (List.mem_of_getElem? (i := 223) rfl)) rfl
theorem mw_1289 : Cond.instanceMethod yX0_strikesInTruth ∈ xB := xB_in (xtb_4 (List.mem_of_getElem? (i := 224) rfl)) rfl
theorem mw_1290 : Cond.selects RX0 yX0_strikesInTruth yX0_strikesInTruth ∈ xB := xB_in (xtb_4 (List.mem_of_getElem? (i := 225) rfl)) rfl
theorem mw_1291 : Cond.code yX0_strikesInTruth cX0_strikesInTruth 2 (some .boolean) ∈ xB := xB_in (xtb_4 (List.mem_of_getElem? (i := 226) rfl)) rfl
theorem mw_1292 : Cond.methodLink RX0 102 yX0_addStep ∈ xB := xB_in (xtb_4 (List.mem_of_getElem? (i := 227) rfl)) rfl
theorem mw_1293 : Cond.methodLink RX0 106 yX0_wouldStrike ∈ xB := xB_in (xtb_4 (List.mem_of_getElem? (i := 228) rfl)) rfl
theorem mw_1294 : Cond.methodLink RX0 110 yX0_draw ∈ xB := xB_in (xtb_4 (List.mem_of_getElem? (i := 229) rfl)) rfl
theorem mw_1295 : Cond.instanceMethod yX0_draw ∈ xB := xB_in (xtb_4 (List.mem_of_getElem? (i := 230) rfl)) rfl
theorem mw_1296 : Cond.selects RX0 yX0_draw yX0_draw ∈ xB := xB_in (xtb_4 (List.mem_of_getElem? (i := 231) rfl)) rfl
theorem mw_1297 : Cond.code yX0_draw cX0_draw 2 (some .int) ∈ xB := xB_in (xtb_4 (List.mem_of_getElem? (i := 232) rfl)) rfl
theorem mw_1298 : Cond.constant RX0 101 (1103515245) ∈ xB := xB_in (xtb_4 (List.mem_of_getElem? (i := 233) rfl)) rfl
theorem mw_1299 : Cond.methodLink RL 263 yX7_ring ∈ xB := xB_in (xtb_7 (List.mem_of_getElem? (i := 98) rfl)) rfl
theorem mw_1300 : Cond.instanceMethod yX7_ring ∈ xB := xB_in (xtb_7 (List.mem_of_getElem? (i := 99) rfl)) rfl
theorem mw_1301 : Cond.selects RX7 yX7_ring yX7_ring ∈ xB := xB_in (xtb_7 (List.mem_of_getElem? (i := 100) rfl)) rfl
theorem mw_1302 : Cond.code yX7_ring cX7_ring 2 (some .int) ∈ xB := xB_in (xtb_7 (List.mem_of_getElem? (i := 101) rfl)) rfl
theorem mw_1303 : Cond.methodLink RX7 311 yX7_rung ∈ xB := xB_in (xtb_7 (List.mem_of_getElem? (i := 102) rfl)) rfl
theorem mw_1304 : Cond.instanceMethod yX7_rung ∈ xB := xB_in (xtb_7 (List.mem_of_getElem? (i := 104) rfl)) rfl
theorem mw_1305 : Cond.selects RX7 yX7_rung yX7_rung ∈ xB := xB_in (xpv_4 (List.mem_of_getElem? (i := 14) rfl)) rfl
theorem mw_1306 : Cond.code yX7_rung cX7_rung 2 (some .int) ∈ xB := xB_in (xtb_7 (List.mem_of_getElem? (i := 105) rfl)) rfl
theorem mw_1307 : Cond.methodLink RX7 308 yX7_draw ∈ xB := xB_in (xtb_7 (List.mem_of_getElem? (i := 106) rfl)) rfl
theorem mw_1308 : Cond.instanceMethod yX7_draw ∈ xB := xB_in (xtb_7 (List.mem_of_getElem? (i := 108) rfl)) rfl
theorem mw_1309 : Cond.selects RX7 yX7_draw yX7_draw ∈ xB := xB_in (xpv_4 (List.mem_of_getElem? (i := 15) rfl)) rfl
theorem mw_1310 : Cond.code yX7_draw cX7_draw 2 (some .int) ∈ xB := xB_in (xtb_7 (List.mem_of_getElem? (i := 109) rfl)) rfl
theorem mw_1311 : Cond.constant RX7 307 (1103515245) ∈ xB := xB_in (xtb_7 (List.mem_of_getElem? (i := 110) rfl)) rfl
theorem mw_1312 : Cond.methodLink RL 264 yX6_days ∈ xB := xB_in (xtb_4 (List.mem_of_getElem? (i := 234) rfl)) rfl
theorem mw_1313 : Cond.instanceMethod yX6_days ∈ xB := xB_in (xtb_4 (List.mem_of_getElem? (i := 235) rfl)) rfl
theorem mw_1314 : Cond.selects RX6 yX6_days yX6_days ∈ xB := xB_in (xtb_4 (List.mem_of_getElem? (i := 236) rfl)) rfl
theorem mw_1315 : Cond.code yX6_days cX6_days 5 (some .int) ∈ xB := xB_in (xtb_4 (List.mem_of_getElem? (i := 237) rfl)) rfl
theorem mw_1316 : Cond.methodLink RX6 333 yX0_draw ∈ xB := xB_in (xtb_4 (List.mem_of_getElem? (i := 238) rfl)) rfl
theorem mw_1317 : Cond.methodLink RL 267 yX7_days ∈ xB := xB_in (xtb_7 (List.mem_of_getElem? (i := 111) rfl)) rfl
theorem mw_1318 : Cond.instanceMethod yX7_days ∈ xB := xB_in (xtb_7 (List.mem_of_getElem? (i := 112) rfl)) rfl
theorem mw_1319 : Cond.selects RX7 yX7_days yX7_days ∈ xB := xB_in (xtb_7 (List.mem_of_getElem? (i := 113) rfl)) rfl
theorem mw_1320 : Cond.code yX7_days cX7_days 4 (some .int) ∈ xB := xB_in (xtb_7 (List.mem_of_getElem? (i := 114) rfl)) rfl
theorem mw_1321 : Cond.methodLink RL 268 yX6_turn ∈ xB := xB_in (xtb_4 (List.mem_of_getElem? (i := 239) rfl)) rfl
theorem mw_1322 : Cond.instanceMethod yX6_turn ∈ xB := xB_in (xtb_5 (List.mem_of_getElem? (i := 0) rfl)) rfl
theorem mw_1323 : Cond.selects RX6 yX6_turn yX6_turn ∈ xB := xB_in (xtb_5 (List.mem_of_getElem? (i := 1) rfl)) rfl
theorem mw_1324 : Cond.code yX6_turn cX6_turn 1 (some .int) ∈ xB := xB_in (xtb_5 (List.mem_of_getElem? (i := 2) rfl)) rfl
theorem mw_1325 : Cond.methodLink RL 271 yX7_turn ∈ xB := xB_in (xtb_7 (List.mem_of_getElem? (i := 115) rfl)) rfl
theorem mw_1326 : Cond.instanceMethod yX7_turn ∈ xB := xB_in (xtb_7 (List.mem_of_getElem? (i := 116) rfl)) rfl
theorem mw_1327 : Cond.selects RX7 yX7_turn yX7_turn ∈ xB := xB_in (xtb_7 (List.mem_of_getElem? (i := 117) rfl)) rfl
theorem mw_1328 : Cond.code yX7_turn cX7_turn 1 (some .int) ∈ xB := xB_in (xtb_7 (List.mem_of_getElem? (i := 118) rfl)) rfl
theorem mw_1329 : Cond.methodLink RL 272 yX6_change ∈ xB := xB_in (xtb_5 (List.mem_of_getElem? (i := 3) rfl)) rfl
theorem mw_1330 : Cond.instanceMethod yX6_change ∈ xB := xB_in (xtb_5 (List.mem_of_getElem? (i := 4) rfl)) rfl
theorem mw_1331 : Cond.selects RX6 yX6_change yX6_change ∈ xB := xB_in (xtb_5 (List.mem_of_getElem? (i := 5) rfl)) rfl
theorem mw_1332 : Cond.code yX6_change cX6_change 2 (some .int) ∈ xB := xB_in (xtb_5 (List.mem_of_getElem? (i := 6) rfl)) rfl
theorem mw_1333 : Cond.methodLink RL 275 yX7_change ∈ xB := xB_in (xtb_7 (List.mem_of_getElem? (i := 119) rfl)) rfl
theorem mw_1334 : Cond.instanceMethod yX7_change ∈ xB := xB_in (xtb_7 (List.mem_of_getElem? (i := 120) rfl)) rfl
theorem mw_1335 : Cond.selects RX7 yX7_change yX7_change ∈ xB := xB_in (xtb_7 (List.mem_of_getElem? (i := 121) rfl)) rfl
theorem mw_1336 : Cond.code yX7_change cX7_change 2 (some .int) ∈ xB := xB_in (xtb_7 (List.mem_of_getElem? (i := 122) rfl)) rfl
theorem mw_1337 : Cond.methodLink RL 276 yX6_cut ∈ xB := xB_in (xtb_5 (List.mem_of_getElem? (i := 7) rfl)) rfl
theorem mw_1338 : Cond.instanceMethod yX6_cut ∈ xB := xB_in (xtb_5 (List.mem_of_getElem? (i := 8) rfl)) rfl
theorem mw_1339 : Cond.selects RX6 yX6_cut yX6_cut ∈ xB := xB_in (xtb_5 (List.mem_of_getElem? (i := 9) rfl)) rfl
theorem mw_1340 : Cond.code yX6_cut cX6_cut 2 (some .int) ∈ xB := xB_in (xtb_5 (List.mem_of_getElem? (i := 10) rfl)) rfl
theorem mw_1341 : Cond.methodLink RL 279 yX7_cut ∈ xB := xB_in (xtb_7 (List.mem_of_getElem? (i := 123) rfl)) rfl
theorem mw_1342 : Cond.instanceMethod yX7_cut ∈ xB := xB_in (xtb_7 (List.mem_of_getElem? (i := 124) rfl)) rfl
theorem mw_1343 : Cond.selects RX7 yX7_cut yX7_cut ∈ xB := xB_in (xtb_7 (List.mem_of_getElem? (i := 125) rfl)) rfl
theorem mw_1344 : Cond.code yX7_cut cX7_cut 2 (some .int) ∈ xB := xB_in (xtb_7 (List.mem_of_getElem? (i := 126) rfl)) rfl
theorem mw_1345 : Cond.methodLink RL 280 yX6_still ∈ xB := xB_in (xtb_5 (List.mem_of_getElem? (i := 11) rfl)) rfl
theorem mw_1346 : Cond.instanceMethod yX6_still ∈ xB := xB_in (xtb_5 (List.mem_of_getElem? (i := 12) rfl)) rfl
theorem mw_1347 : Cond.selects RX6 yX6_still yX6_still ∈ xB := xB_in (xtb_5 (List.mem_of_getElem? (i := 13) rfl)) rfl
theorem mw_1348 : Cond.code yX6_still cX6_still 2 (some .int) ∈ xB := xB_in (xtb_5 (List.mem_of_getElem? (i := 14) rfl)) rfl
theorem mw_1349 : Cond.methodLink RX6 336 yX0_clearRing ∈ xB := xB_in (xtb_5 (List.mem_of_getElem? (i := 15) rfl)) rfl
theorem mw_1350 : Cond.methodLink RL 283 yX7_still ∈ xB := xB_in (xtb_7 (List.mem_of_getElem? (i := 127) rfl)) rfl
theorem mw_1351 : Cond.instanceMethod yX7_still ∈ xB := xB_in (xtb_7 (List.mem_of_getElem? (i := 128) rfl)) rfl
theorem mw_1352 : Cond.selects RX7 yX7_still yX7_still ∈ xB := xB_in (xtb_7 (List.mem_of_getElem? (i := 129) rfl)) rfl
theorem mw_1353 : Cond.code yX7_still cX7_still 2 (some .int) ∈ xB := xB_in (xtb_7 (List.mem_of_getElem? (i := 130) rfl)) rfl
theorem mw_1354 : Cond.methodLink RL 284 yX6_seed ∈ xB := xB_in (xtb_5 (List.mem_of_getElem? (i := 16) rfl)) rfl
theorem mw_1355 : Cond.instanceMethod yX6_seed ∈ xB := xB_in (xtb_5 (List.mem_of_getElem? (i := 17) rfl)) rfl
theorem mw_1356 : Cond.selects RX6 yX6_seed yX6_seed ∈ xB := xB_in (xtb_5 (List.mem_of_getElem? (i := 18) rfl)) rfl
theorem mw_1357 : Cond.code yX6_seed cX6_seed 3 (some .int) ∈ xB := xB_in (xtb_5 (List.mem_of_getElem? (i := 19) rfl)) rfl
theorem mw_1358 : Cond.methodLink RL 287 yX7_seed ∈ xB := xB_in (xtb_7 (List.mem_of_getElem? (i := 131) rfl)) rfl
theorem mw_1359 : Cond.instanceMethod yX7_seed ∈ xB := xB_in (xtb_7 (List.mem_of_getElem? (i := 132) rfl)) rfl
theorem mw_1360 : Cond.selects RX7 yX7_seed yX7_seed ∈ xB := xB_in (xtb_7 (List.mem_of_getElem? (i := 133) rfl)) rfl
theorem mw_1361 : Cond.code yX7_seed cX7_seed 3 (some .int) ∈ xB := xB_in (xtb_7 (List.mem_of_getElem? (i := 134) rfl)) rfl
theorem mw_1362 : Cond.methodLink RL 288 yX6_image ∈ xB := xB_in (xtb_5 (List.mem_of_getElem? (i := 20) rfl)) rfl
theorem mw_1363 : Cond.instanceMethod yX6_image ∈ xB := xB_in (xtb_5 (List.mem_of_getElem? (i := 21) rfl)) rfl
theorem mw_1364 : Cond.selects RX6 yX6_image yX6_image ∈ xB := xB_in (xtb_5 (List.mem_of_getElem? (i := 22) rfl)) rfl
theorem mw_1365 : Cond.code yX6_image cX6_image 1 (some .int) ∈ xB := xB_in (xtb_5 (List.mem_of_getElem? (i := 23) rfl)) rfl
theorem mw_1366 : Cond.fieldLink RX6 342 "AnsweredByTheDrowned" "isKept" "Z" ∈ xB := xB_in (xtb_1 (List.mem_of_getElem? (i := 175) rfl)) rfl
theorem mw_1367 : Cond.methodLink RL 291 yX7_image ∈ xB := xB_in (xtb_7 (List.mem_of_getElem? (i := 135) rfl)) rfl
theorem mw_1368 : Cond.instanceMethod yX7_image ∈ xB := xB_in (xtb_7 (List.mem_of_getElem? (i := 136) rfl)) rfl
theorem mw_1369 : Cond.selects RX7 yX7_image yX7_image ∈ xB := xB_in (xtb_7 (List.mem_of_getElem? (i := 137) rfl)) rfl
theorem mw_1370 : Cond.code yX7_image cX7_image 1 (some .int) ∈ xB := xB_in (xtb_7 (List.mem_of_getElem? (i := 138) rfl)) rfl
theorem mw_1371 : Cond.fieldLink RX7 315 "AnsweredByTheDrownedModel" "imaged" "Z" ∈ xB := xB_in (xtb_5 (List.mem_of_getElem? (i := 71) rfl)) rfl
theorem mw_1372 : Cond.fieldLink RX7 319 "AnsweredByTheDrownedModel" "oldRing" "J" ∈ xB := xB_in (xtb_5 (List.mem_of_getElem? (i := 73) rfl)) rfl
theorem mw_1373 : Cond.methodLink RL 292 yX6_back ∈ xB := xB_in (xtb_5 (List.mem_of_getElem? (i := 24) rfl)) rfl
theorem mw_1374 : Cond.instanceMethod yX6_back ∈ xB := xB_in (xtb_5 (List.mem_of_getElem? (i := 25) rfl)) rfl
theorem mw_1375 : Cond.selects RX6 yX6_back yX6_back ∈ xB := xB_in (xtb_5 (List.mem_of_getElem? (i := 26) rfl)) rfl
theorem mw_1376 : Cond.code yX6_back cX6_back 1 (some .int) ∈ xB := xB_in (xtb_5 (List.mem_of_getElem? (i := 27) rfl)) rfl
theorem mw_1377 : Cond.methodLink RX6 346 yX4_clearLawsFrom ∈ xB := xB_in (xtb_5 (List.mem_of_getElem? (i := 28) rfl)) rfl
theorem mw_1378 : Cond.instanceMethod yX4_clearLawsFrom ∈ xB := xB_in (xtb_5 (List.mem_of_getElem? (i := 29) rfl)) rfl
theorem mw_1379 : Cond.selects RX4 yX4_clearLawsFrom yX4_clearLawsFrom ∈ xB := xB_in (xtb_5 (List.mem_of_getElem? (i := 30) rfl)) rfl
theorem mw_1380 : Cond.code yX4_clearLawsFrom cX4_clearLawsFrom 3 none ∈ xB := xB_in (xtb_5 (List.mem_of_getElem? (i := 31) rfl)) rfl
theorem mw_1381 : Cond.methodLink RX4 57 yX4_lawOn ∈ xB := xB_in (xtb_5 (List.mem_of_getElem? (i := 32) rfl)) rfl
theorem mw_1382 : Cond.methodLink RX4 60 yX4_putNothing ∈ xB := xB_in (xtb_5 (List.mem_of_getElem? (i := 33) rfl)) rfl
theorem mw_1383 : Cond.methodLink RL 295 yX7_back ∈ xB := xB_in (xtb_7 (List.mem_of_getElem? (i := 139) rfl)) rfl
theorem mw_1384 : Cond.instanceMethod yX7_back ∈ xB := xB_in (xtb_7 (List.mem_of_getElem? (i := 140) rfl)) rfl
theorem mw_1385 : Cond.selects RX7 yX7_back yX7_back ∈ xB := xB_in (xtb_7 (List.mem_of_getElem? (i := 141) rfl)) rfl
theorem mw_1386 : Cond.code yX7_back cX7_back 2 (some .int) ∈ xB := xB_in (xtb_7 (List.mem_of_getElem? (i := 142) rfl)) rfl
theorem mw_1387 : Cond.methodLink RL 296 yX6_status ∈ xB := xB_in (xtb_5 (List.mem_of_getElem? (i := 34) rfl)) rfl
theorem mw_1388 : Cond.instanceMethod yX6_status ∈ xB := xB_in (xtb_5 (List.mem_of_getElem? (i := 35) rfl)) rfl
theorem mw_1389 : Cond.selects RX6 yX6_status yX6_status ∈ xB := xB_in (xtb_5 (List.mem_of_getElem? (i := 36) rfl)) rfl
theorem mw_1390 : Cond.code yX6_status cX6_status 2 (some .int) ∈ xB := xB_in (xtb_5 (List.mem_of_getElem? (i := 37) rfl)) rfl
theorem mw_1391 : Cond.methodLink RX6 349 yX3_agesOfAll ∈ xB := xB_in (xtb_5 (List.mem_of_getElem? (i := 38) rfl)) rfl
theorem mw_1392 : Cond.methodLink RX6 352 yX4_howManyHold ∈ xB := xB_in (xtb_5 (List.mem_of_getElem? (i := 39) rfl)) rfl
theorem mw_1393 : Cond.instanceMethod yX4_howManyHold ∈ xB := xB_in (xtb_5 (List.mem_of_getElem? (i := 40) rfl)) rfl
theorem mw_1394 : Cond.selects RX4 yX4_howManyHold yX4_howManyHold ∈ xB := xB_in (xtb_5 (List.mem_of_getElem? (i := 41) rfl)) rfl
theorem mw_1395 : Cond.code yX4_howManyHold cX4_howManyHold 3 (some .int) ∈ xB := xB_in (xtb_5 (List.mem_of_getElem? (i := 42) rfl)) rfl
theorem mw_1396 : Cond.methodLink RX6 355 yX6_elementOf ∈ xB := xB_in (xtb_5 (List.mem_of_getElem? (i := 43) rfl)) rfl
theorem mw_1397 : Cond.methodLink RL 299 yX7_status ∈ xB := xB_in (xtb_7 (List.mem_of_getElem? (i := 143) rfl)) rfl
theorem mw_1398 : Cond.instanceMethod yX7_status ∈ xB := xB_in (xtb_7 (List.mem_of_getElem? (i := 144) rfl)) rfl
theorem mw_1399 : Cond.selects RX7 yX7_status yX7_status ∈ xB := xB_in (xtb_7 (List.mem_of_getElem? (i := 145) rfl)) rfl
theorem mw_1400 : Cond.code yX7_status cX7_status 4 (some .int) ∈ xB := xB_in (xtb_7 (List.mem_of_getElem? (i := 146) rfl)) rfl
def xNestF : List (String × Nat × String × String × String) := [(RX1, 98, "AnsweredByTheDrowned$Laws", "count", "I"), (RX0, 79, "AnsweredByTheDrowned$Laws", "count", "I"), (RX6, 194, "AnsweredByTheDrowned$Laws", "count", "I"), (RX6, 301, "AnsweredByTheDrowned$People", "count", "I"), (RX1, 78, "AnsweredByTheDrowned$Lake", "laws", "LAnsweredByTheDrowned$Laws;"), (RX6, 81, "AnsweredByTheDrowned$Lake", "laws", "LAnsweredByTheDrowned$Laws;"), (RX1, 108, "AnsweredByTheDrowned$Lake", "people", "LAnsweredByTheDrowned$People;"), (RX6, 145, "AnsweredByTheDrowned$Lake", "people", "LAnsweredByTheDrowned$People;"), (RX1, 101, "AnsweredByTheDrowned$Lake", "inForce", "I"), (RX6, 135, "AnsweredByTheDrowned$Lake", "inForce", "I"), (RX1, 104, "AnsweredByTheDrowned$Lake", "depth", "I"), (RX6, 139, "AnsweredByTheDrowned$Lake", "depth", "I"), (RX1, 106, "AnsweredByTheDrowned$Lake", "miss", "I"), (RX6, 142, "AnsweredByTheDrowned$Lake", "miss", "I"), (RX6, 120, "AnsweredByTheDrowned$Lake", "ring", "J"), (RX1, 123, "AnsweredByTheDrowned$Lake", "steps", "I"), (RX6, 200, "AnsweredByTheDrowned$Lake", "steps", "I"), (RX6, 339, "AnsweredByTheDrowned$Lake", "seed", "I"), (RX6, 162, "AnsweredByTheDrowned$Tape", "size", "I"), (RX1, 35, "AnsweredByTheDrowned$Tape", "token", "I"), (RX1, 126, "AnsweredByTheDrowned$Tape", "tokenStart", "I"), (RX6, 176, "AnsweredByTheDrowned$Tape", "tokenStart", "I"), (RX1, 129, "AnsweredByTheDrowned$Tape", "tokenEnd", "I"), (RX6, 154, "AnsweredByTheDrowned$LakeReader", "tape", "LAnsweredByTheDrowned$Tape;"), (RX6, 165, "AnsweredByTheDrowned$LakeReader", "draft", "LAnsweredByTheDrowned$Lake;")]
def xNestM : List (String × Nat × MethodName) := [(RX6, 9, yX0_init), (RX0, 11, yX2_init), (RX0, 20, yX3_init), (RX6, 21, yX1_init), (RX1, 11, yX5_init), (RX1, 20, yX0_init), (RX4, 22, yX6_isWithin), (RX4, 26, yX6_elementOf), (RX2, 18, yX6_isWithin), (RX2, 37, yX6_elementOf), (RX2, 68, yX6_isIn), (RX2, 78, yX6_firstBits), (RX2, 64, yX6_isMultiple), (RX3, 35, yX6_elementOf), (RX1, 139, yX6_isWithin), (RX3, 31, yX6_isWithin), (RX0, 73, yX6_firstBits), (RX0, 82, yX6_isIn), (RX3, 39, yX6_isIn)]
abbrev xnF (q : String × Nat × String × String × String) : Cond := .fieldLinkNest q.1 q.2.1 q.2.2.1 q.2.2.2.1 q.2.2.2.2 "AnsweredByTheDrowned"
abbrev xnM (q : String × Nat × MethodName) : Cond := .methodLinkNest q.1 q.2.1 q.2.2 "AnsweredByTheDrowned"
theorem xNestF_in : ∀ q ∈ xNestF, xnF q ∈ lw_tbl := (List.forall_mem_cons.mpr ⟨xtb_1 (List.mem_of_getElem? (i := 39) rfl), (List.forall_mem_cons.mpr ⟨xtb_1 (List.mem_of_getElem? (i := 40) rfl), (List.forall_mem_cons.mpr ⟨xtb_1 (List.mem_of_getElem? (i := 41) rfl), (List.forall_mem_cons.mpr ⟨xtb_1 (List.mem_of_getElem? (i := 59) rfl), (List.forall_mem_cons.mpr ⟨xtb_1 (List.mem_of_getElem? (i := 69) rfl), (List.forall_mem_cons.mpr ⟨xtb_1 (List.mem_of_getElem? (i := 70) rfl), (List.forall_mem_cons.mpr ⟨xtb_1 (List.mem_of_getElem? (i := 72) rfl), (List.forall_mem_cons.mpr ⟨xtb_1 (List.mem_of_getElem? (i := 73) rfl), (List.forall_mem_cons.mpr ⟨xtb_1 (List.mem_of_getElem? (i := 75) rfl), (List.forall_mem_cons.mpr ⟨xtb_1 (List.mem_of_getElem? (i := 76) rfl), (List.forall_mem_cons.mpr ⟨xtb_1 (List.mem_of_getElem? (i := 78) rfl), (List.forall_mem_cons.mpr ⟨xtb_1 (List.mem_of_getElem? (i := 79) rfl), (List.forall_mem_cons.mpr ⟨xtb_1 (List.mem_of_getElem? (i := 81) rfl), (List.forall_mem_cons.mpr ⟨xtb_1 (List.mem_of_getElem? (i := 82) rfl), (List.forall_mem_cons.mpr ⟨xtb_1 (List.mem_of_getElem? (i := 84) rfl), (List.forall_mem_cons.mpr ⟨xtb_1 (List.mem_of_getElem? (i := 86) rfl), (List.forall_mem_cons.mpr ⟨xtb_1 (List.mem_of_getElem? (i := 87) rfl), (List.forall_mem_cons.mpr ⟨xtb_1 (List.mem_of_getElem? (i := 89) rfl), (List.forall_mem_cons.mpr ⟨xtb_1 (List.mem_of_getElem? (i := 121) rfl), (List.forall_mem_cons.mpr ⟨xtb_1 (List.mem_of_getElem? (i := 122) rfl), (List.forall_mem_cons.mpr ⟨xtb_1 (List.mem_of_getElem? (i := 125) rfl), (List.forall_mem_cons.mpr ⟨xtb_1 (List.mem_of_getElem? (i := 126) rfl), (List.forall_mem_cons.mpr ⟨xtb_1 (List.mem_of_getElem? (i := 128) rfl), (List.forall_mem_cons.mpr ⟨xtb_1 (List.mem_of_getElem? (i := 143) rfl), (List.forall_mem_cons.mpr ⟨xtb_1 (List.mem_of_getElem? (i := 145) rfl), (fun _ h => absurd h List.not_mem_nil)⟩)⟩)⟩)⟩)⟩)⟩)⟩)⟩)⟩)⟩)⟩)⟩)⟩)⟩)⟩)⟩)⟩)⟩)⟩)⟩)⟩)⟩)⟩)⟩)⟩)
theorem xNestM_in : ∀ q ∈ xNestM, xnM q ∈ lw_tbl := (List.forall_mem_cons.mpr ⟨xtb_1 (List.mem_of_getElem? (i := 26) rfl), (List.forall_mem_cons.mpr ⟨xtb_1 (List.mem_of_getElem? (i := 32) rfl), (List.forall_mem_cons.mpr ⟨xtb_1 (List.mem_of_getElem? (i := 52) rfl), (List.forall_mem_cons.mpr ⟨xtb_1 (List.mem_of_getElem? (i := 109) rfl), (List.forall_mem_cons.mpr ⟨xtb_1 (List.mem_of_getElem? (i := 115) rfl), (List.forall_mem_cons.mpr ⟨xtb_1 (List.mem_of_getElem? (i := 141) rfl), (List.forall_mem_cons.mpr ⟨xtb_1 (List.mem_of_getElem? (i := 196) rfl), (List.forall_mem_cons.mpr ⟨xtb_1 (List.mem_of_getElem? (i := 224) rfl), (List.forall_mem_cons.mpr ⟨xtb_2 (List.mem_of_getElem? (i := 50) rfl), (List.forall_mem_cons.mpr ⟨xtb_2 (List.mem_of_getElem? (i := 70) rfl), (List.forall_mem_cons.mpr ⟨xtb_2 (List.mem_of_getElem? (i := 104) rfl), (List.forall_mem_cons.mpr ⟨xtb_2 (List.mem_of_getElem? (i := 122) rfl), (List.forall_mem_cons.mpr ⟨xtb_2 (List.mem_of_getElem? (i := 125) rfl), (List.forall_mem_cons.mpr ⟨xtb_2 (List.mem_of_getElem? (i := 205) rfl), (List.forall_mem_cons.mpr ⟨xtb_3 (List.mem_of_getElem? (i := 60) rfl), (List.forall_mem_cons.mpr ⟨xtb_3 (List.mem_of_getElem? (i := 116) rfl), (List.forall_mem_cons.mpr ⟨xtb_3 (List.mem_of_getElem? (i := 152) rfl), (List.forall_mem_cons.mpr ⟨xtb_4 (List.mem_of_getElem? (i := 78) rfl), (List.forall_mem_cons.mpr ⟨xtb_4 (List.mem_of_getElem? (i := 131) rfl), (fun _ h => absurd h List.not_mem_nil)⟩)⟩)⟩)⟩)⟩)⟩)⟩)⟩)⟩)⟩)⟩)⟩)⟩)⟩)⟩)⟩)⟩)⟩)⟩)
theorem inb0_X0 : wsX00.all (fun w => decide (w ∈ lw_tbl) && goodWord w) = true := by decide +kernel
theorem inb_X0 : ∀ w ∈ wsX00, w ∈ xB := fun w h => by have h1 := List.all_eq_true.mp inb0_X0 w h; simp only [Bool.and_eq_true, decide_eq_true_eq] at h1; exact xB_in h1.1 h1.2
theorem inb0_X1 : wsX10.all (fun w => decide (w ∈ lw_tbl) && goodWord w) = true := by decide +kernel
theorem inb_X1 : ∀ w ∈ wsX10, w ∈ xB := fun w h => by have h1 := List.all_eq_true.mp inb0_X1 w h; simp only [Bool.and_eq_true, decide_eq_true_eq] at h1; exact xB_in h1.1 h1.2
theorem inb0_X2 : wsX20.all (fun w => decide (w ∈ lw_tbl) && goodWord w) = true := by decide +kernel
theorem inb_X2 : ∀ w ∈ wsX20, w ∈ xB := fun w h => by have h1 := List.all_eq_true.mp inb0_X2 w h; simp only [Bool.and_eq_true, decide_eq_true_eq] at h1; exact xB_in h1.1 h1.2
theorem inb0_X3 : wsX30.all (fun w => decide (w ∈ lw_tbl) && goodWord w) = true := by decide +kernel
theorem inb_X3 : ∀ w ∈ wsX30, w ∈ xB := fun w h => by have h1 := List.all_eq_true.mp inb0_X3 w h; simp only [Bool.and_eq_true, decide_eq_true_eq] at h1; exact xB_in h1.1 h1.2
theorem inb0_X4 : wsX40.all (fun w => decide (w ∈ lw_tbl) && goodWord w) = true := by decide +kernel
theorem inb_X4 : ∀ w ∈ wsX40, w ∈ xB := fun w h => by have h1 := List.all_eq_true.mp inb0_X4 w h; simp only [Bool.and_eq_true, decide_eq_true_eq] at h1; exact xB_in h1.1 h1.2
theorem inb0_X5 : wsX50.all (fun w => decide (w ∈ lw_tbl) && goodWord w) = true := by decide +kernel
theorem inb_X5 : ∀ w ∈ wsX50, w ∈ xB := fun w h => by have h1 := List.all_eq_true.mp inb0_X5 w h; simp only [Bool.and_eq_true, decide_eq_true_eq] at h1; exact xB_in h1.1 h1.2
theorem inb0_X6 : wsX60.all (fun w => decide (w ∈ lw_tbl) && goodWord w) = true := by decide +kernel
theorem inb_X6 : ∀ w ∈ wsX60, w ∈ xB := fun w h => by have h1 := List.all_eq_true.mp inb0_X6 w h; simp only [Bool.and_eq_true, decide_eq_true_eq] at h1; exact xB_in h1.1 h1.2
theorem inb0_X7 : wsX70.all (fun w => decide (w ∈ lw_tbl) && goodWord w) = true := by decide +kernel
theorem inb_X7 : ∀ w ∈ wsX70, w ∈ xB := fun w h => by have h1 := List.all_eq_true.mp inb0_X7 w h; simp only [Bool.and_eq_true, decide_eq_true_eq] at h1; exact xB_in h1.1 h1.2
